/-! the reference: what it holds, its small methods -/
/-- the aims as the reference keeps them: while there is no field its row holds 0 -/
def vA (a : St) (m : Nat) : Nat := if aN a = 0 then 1 else aV a m
theorem vA_eq {a : St} (hn : 0 < aN a) : vA a = aV a := funext fun m => if_neg (by omega)
theorem HT_vA (a : St) (D : Nat) : HT a (vA a) D = HT a (aV a) D := by
  by_cases h : aN a = 0
  · funext q; unfold HT; rw [h]; rfl
  · rw [vA_eq (by omega)]
theorem CT_vA (a : St) (D : Nat) : CT a (vA a) D = CT a (aV a) D := by unfold CT; rw [HT_vA]
theorem SF_vA (a : St) (D : Nat) : SF a (vA a) D = SF a (aV a) D := by unfold SF; rw [HT_vA]
def MI (a : St) (h : PH) : Prop := h.1 15 2 = nI (aN a) ∧ h.1 15 3 = nI (aP a) ∧ h.1 15 8 = nI (aH a) ∧ h.1 15 9 = nI (aK a) ∧ (∀ m, m < aN a → h.1 17 m = nI (aM a m) ∧ h.1 18 m = nI (aS a m)) ∧ (∀ m, m < 5 → h.1 19 m = nI (vA a m) - 1) ∧ ∀ q, q < aP a → h.1 20 q = nI (aC a q)
theorem MI.n {a : St} {h : PH} (c : MI a h) : h.1 15 2 = nI (aN a) := c.1
theorem MI.p {a : St} {h : PH} (c : MI a h) : h.1 15 3 = nI (aP a) := c.2.1
theorem MI.sh {a : St} {h : PH} (c : MI a h) : h.1 15 8 = nI (aH a) := c.2.2.1
theorem MI.sk {a : St} {h : PH} (c : MI a h) : h.1 15 9 = nI (aK a) := c.2.2.2.1
theorem MI.mid {a : St} {h : PH} (c : MI a h) {m : Nat} (hm : m < aN a) : h.1 17 m = nI (aM a m) := (c.2.2.2.2.1 m hm).1
theorem MI.sid {a : St} {h : PH} (c : MI a h) {m : Nat} (hm : m < aN a) : h.1 18 m = nI (aS a m) := (c.2.2.2.2.1 m hm).2
theorem MI.aim {a : St} {h : PH} (c : MI a h) {m : Nat} (hm : m < 5) (hn : 0 < aN a := by omega) : h.1 19 m = nI (aV a m) - 1 := by rw [← vA_eq hn]; exact c.2.2.2.2.2.1 m hm
theorem MI.ce {a : St} {h : PH} (c : MI a h) {q : Nat} (hq : q < aP a) : h.1 20 q = nI (aC a q) := c.2.2.2.2.2.2 q hq
/-- what the reference's scratch may change -/
def MK (h h' : PH) : Prop := (∀ c, c ≠ 15 → c ≠ 21 → c ≠ 22 → c ≠ 23 → c ≠ 24 → c ≠ 25 → h'.1 c = h.1 c) ∧ ∀ j, j ≠ 15 → j ≠ 16 → j ≠ 18 → j ≠ 20 → j ≠ 21 → j ≠ 22 → h'.1 15 j = h.1 15 j
theorem MK.rf (h : PH) : MK h h := ⟨fun _ _ _ _ _ _ _ => rfl, fun _ _ _ _ _ _ _ => rfl⟩
theorem MK.trans {h h1 h2 : PH} (a : MK h h1) (b : MK h1 h2) : MK h h2 := ⟨fun c x1 x2 x3 x4 x5 x6 => (b.1 c x1 x2 x3 x4 x5 x6).trans (a.1 c x1 x2 x3 x4 x5 x6), fun j x1 x2 x3 x4 x5 x6 => (b.2 j x1 x2 x3 x4 x5 x6).trans (a.2 j x1 x2 x3 x4 x5 x6)⟩
theorem MK.setA {h : PH} {c : Nat} {f : Nat → Int32} (hc : 21 ≤ c) (hc2 : c ≤ 25) : MK h (setA h c f) := ⟨fun k _ _ _ _ _ _ => setA_ne (by omega), fun j _ _ _ _ _ _ => by rw [setA_ne (by omega)]⟩
theorem MK.fld {h : PH} {j : Nat} {x : Int32} (hj : j = 15 ∨ j = 16 ∨ j = 18 ∨ j = 20 ∨ j = 21 ∨ j = 22) : MK h (upd2 h.1 15 j x, h.2) := ⟨fun k h1 _ _ _ _ _ => upd2_ne h1, fun i _ _ _ _ _ _ => by show upd2 h.1 15 j x 15 i = _; rw [upd2_self, pk_un (by omega)]⟩
theorem MK.lng {h : PH} {y : Int64} : MK h (h.1, y) := ⟨fun _ _ _ _ _ _ _ => rfl, fun _ _ _ _ _ _ _ => rfl⟩
theorem MI.keep {a : St} {h h' : PH} (c : MI a h) (k : MK h h') : MI a h' := by
  have e2 := k.2 2 (by decide) (by decide) (by decide) (by decide) (by decide) (by decide)
  have e3 := k.2 3 (by decide) (by decide) (by decide) (by decide) (by decide) (by decide)
  have e8 := k.2 8 (by decide) (by decide) (by decide) (by decide) (by decide) (by decide)
  have e9 := k.2 9 (by decide) (by decide) (by decide) (by decide) (by decide) (by decide)
  have f17 := k.1 17 (by decide) (by decide) (by decide) (by decide) (by decide) (by decide)
  have f18 := k.1 18 (by decide) (by decide) (by decide) (by decide) (by decide) (by decide)
  have f19 := k.1 19 (by decide) (by decide) (by decide) (by decide) (by decide) (by decide)
  have f20 := k.1 20 (by decide) (by decide) (by decide) (by decide) (by decide) (by decide)
  unfold MI at c ⊢
  rw [e2, e3, e8, e9, f17, f18, f19, f20]
  exact c
/-- the aims that are laid -/
def NW (f : Nat → Nat) (h : PH) : Prop := ∀ m, m < 5 → h.1 21 m = nI (f m) - 1
section MD1
variable {post : Option Value → PH → Prop} {h : PH} {a : St}
theorem ev_within {v lo hi : Int32} (k : post (some (.int (b2i (decide (¬ v < lo ∧ ¬ hi < v))))) h) : Ev 0 mX5_within [.int v, .int lo, .int hi] h post := by
  refine Ev.intro rfl (Nat.le_of_ble_eq_true rfl) (sX5_within_0 (fun q => sX5_within_14 ?_) (fun q => sX5_within_5 (fun q2 => sX5_within_14 ?_) (fun q2 => sX5_within_10 ?_)))
  · rw [decide_eq_false (fun z => z.1 q)] at k; exact k
  · rw [decide_eq_false (fun z => z.2 q2)] at k; exact k
  · rw [decide_eq_true ⟨q, q2⟩] at k; exact k
theorem ev_has {x m : Nat} (hx : x < 2 ^ 31) (hm : m < 31) (k : post (some (.int (b2i (x.testBit m)))) h) : Ev 0 mX5_has [.int (nI x), .int (nI m)] h post := by
  refine Ev.intro rfl (Nat.le_of_ble_eq_true rfl) (sX5_has_0 (fun q => sX5_has_13 ?_) (fun q => sX5_has_9 ?_))
  · rw [bit_read hx hm, b2i_1] at q; rw [(Bool.not_eq_true _).mp q] at k; exact k
  · rw [bit_read hx hm, b2i_1] at q; rw [q] at k; exact k
theorem ix_within {x : Int32} {n : Nat} (hn : n < 2 ^ 30) : decide (¬ x < 0 ∧ ¬ nI n - 1 < x) = ix x n := by
  unfold ix
  rw [decide_eq_decide, Int32.lt_iff_toInt_lt, Int32.lt_iff_toInt_lt, Int32.toInt_zero, show (1 : Int32) = nI 1 from rfl, pk_sub_toInt hn (by omega)]
  omega
theorem ev_isMirror {x : Int32} (hI : MI a h) (hw : WF a) (k : post (some (.int (b2i (ix x (aN a))))) h) : Ev 1 mX5_isMirror [.ref 15, .int x] h post := by
  refine Ev.intro rfl (Nat.le_of_ble_eq_true rfl) (sX5_isMirror_0 ?_)
  rw [hI.n]
  refine ev_within (sX5_isMirror_11 (b2i_nar _) ?_)
  rw [ix_within (by have := hw.1; omega)]
  exact k
theorem ev_isPatch {x : Int32} (hI : MI a h) (hw : WF a) (k : post (some (.int (b2i (ix x (aP a))))) h) : Ev 1 mX5_isPatch [.ref 15, .int x] h post := by
  refine Ev.intro rfl (Nat.le_of_ble_eq_true rfl) (sX5_isPatch_0 ?_)
  rw [hI.p]
  refine ev_within (sX5_isPatch_11 (b2i_nar _) ?_)
  rw [ix_within (by have := hw.2.1; omega)]
  exact k
theorem ev_gives {m v q : Nat} (hI : MI a h) (hw : WF a) (hm : m < aN a) (hv : v < 100) (hq : q < aP a) (k : post (some (.int (nI (gv a m v q)))) h) : Ev 0 mX5_gives [.ref 15, .int (nI m), .int (nI v - 1), .int (nI q)] h post := by
  have h5 := hw.1
  have h4 := hw.2.1
  have vin : vp_in (nI m) 5 := vp_in_nI (by omega) (by omega)
  by_cases h0 : v = 0
  · subst h0
    refine Ev.intro rfl (Nat.le_of_ble_eq_true rfl) (sX5_gives_0 (fun z => absurd (by decide) z) (fun _ => sX5_gives_5 ?_))
    have : gv a m 0 q = 0 := if_pos (Or.inl rfl)
    rw [this] at k
    exact k
  · obtain ⟨u, rfl⟩ : ∃ u, v = u + 1 := ⟨v - 1, by omega⟩
    rw [nI_pred]
    unfold gv at k
    rw [if_neg (by omega)] at k
    refine Ev.intro rfl (Nat.le_of_ble_eq_true rfl) (sX5_gives_0 (fun _ => sX5_gives_7 (fun z => ?_) (fun z => ?_)) (fun z => absurd z (nI_m1 (by omega))))
    · rw [nI_leI (by omega) (by omega)] at z
      refine sX5_gives_18 (fun y => ?_) (fun y => sX5_gives_28 vin ?_)
      · rw [pk_sub z] at y ⊢
        rw [show (0 : Int32) = nI 0 from rfl, nI_eq (by omega) (by omega)] at y
        refine sX5_gives_37 (fun y2 => sX5_gives_52 ?_) (fun y2 => sX5_gives_43 vin ?_)
        · rw [show (1 : Int32) = nI 1 from rfl, nI_eq (by omega) (by omega)] at y2
          rw [if_neg (by omega), if_neg (by omega)] at k
          exact k
        · rw [show (1 : Int32) = nI 1 from rfl, nI_eq (by omega) (by omega)] at y2
          rw [if_neg (by omega), if_pos (by omega)] at k
          rw [nI_clamp (by omega), hI.sid hm]
          exact k
      · rw [pk_sub z, show (0 : Int32) = nI 0 from rfl, nI_eq (by omega) (by omega)] at y
        rw [if_pos (by omega)] at k
        rw [nI_clamp (by omega), hI.mid hm]
        exact k
    · rw [nI_leI (by omega) (by omega)] at z
      refine sX5_gives_12 (fun y => ?_) (fun y => ?_)
      · rw [pk_sub (by omega)] at y ⊢
        refine sX5_gives_37 (fun y2 => sX5_gives_52 ?_) (fun y2 => sX5_gives_43 vin ?_)
        · rw [show (1 : Int32) = nI 1 from rfl, nI_eq (by omega) (by omega)] at y2
          rw [if_neg (by omega), if_neg (by omega)] at k
          exact k
        · rw [show (1 : Int32) = nI 1 from rfl, nI_eq (by omega) (by omega)] at y2
          rw [if_neg (by omega), if_pos (by omega)] at k
          rw [nI_clamp (by omega), hI.sid hm]
          exact k
      · rw [pk_sub (by omega), show (0 : Int32) = nI 0 from rfl, nI_eq (by omega) (by omega)] at y
        omega
theorem ev_givesAll {m v : Nat} (hI : MI a h) (hw : WF a) (hm : m < aN a) (hv : v < 100) (k : post (some (.int (nI (sm (gv a m v) 4)))) h) : Ev 1 mX5_givesAll [.ref 15, .int (nI m), .int (nI v - 1)] h post := by
  have h4 := hw.2.1
  rw [show sm (gv a m v) 4 = sm (gv a m v) (aP a) from sm_cut 4 h4 (fun q h1 _ => gv_out h1)] at k
  refine Ev.intro rfl (Nat.le_of_ble_eq_true rfl) (sX5_givesAll_0 ?_)
  refine loopU (S := fun i => G 1 mX5_givesAll post 5 [some (.ref 15), some (.int (nI m)), some (.int (nI v - 1)), some (.int (nI (sm (gv a m v) i))), some (.int (nI i))] [] h) (aP a) (fun i hi ih => ?_) ?_ 0 (Nat.zero_le _)
  · refine sX5_givesAll_5 (fun q => ?_) (fun _ => sX5_givesAll_14 (ev_gives hI hw hm hv hi (sX5_givesAll_23 ?_)))
    · rw [hI.p, nI_leI (by omega) (by omega)] at q; omega
    rw [nI_1, nI_add]
    exact ih
  · exact sX5_givesAll_5 (fun _ => sX5_givesAll_31 k) (fun q => absurd (by rw [hI.p]; exact nI_le (Nat.le_refl _) (by omega)) q)
theorem ev_asTheyAre (k : ∀ f', (∀ m, m < 5 → f' m = h.1 19 m) → post none (setA h 21 f')) : Ev 0 mX5_asTheyAre [.ref 15] h post := by
  refine Ev.intro rfl (Nat.le_of_ble_eq_true rfl) (sX5_asTheyAre_0 ?_)
  have hS : ∀ i, i ≤ 5 → ∀ f', (∀ m, m < i → f' m = h.1 19 m) → G 0 mX5_asTheyAre post 2 [some (.ref 15), some (.int (nI i))] [] (setA h 21 f') := by
    refine loopU 5 (fun i hi ih f' hf => ?_) (fun f' hf => ?_)
    · refine sX5_asTheyAre_2 (fun q => ?_) (fun _ => sX5_asTheyAre_7 (vp_in_nI hi (by omega)) (vp_in_nI hi (by omega)) ?_)
      · rw [show (5 : Int32) = nI 5 from rfl, nI_leI (by omega) (by omega)] at q; omega
      rw [nI_clamp (by omega), setA_upd, nI_1]
      refine ih _ (fun m hm => ?_)
      by_cases e : m = i
      · rw [e, pk_us, setA_ne (by decide)]
      · rw [pk_un e]; exact hf m (by omega)
    · exact sX5_asTheyAre_2 (fun _ => sX5_asTheyAre_25 (k f' hf)) (fun q => absurd (by decide) q)
  have := hS 0 (by omega) (h.1 21) (fun m hm => by omega)
  rw [setA_id] at this
  exact this
theorem NW_av {f' : Nat → Int32} (hI : MI a h) (hf : ∀ m, m < 5 → f' m = h.1 19 m) : NW (vA a) (setA h 21 f') := fun m hm => by
  rw [setA_self, hf m hm]; exact hI.2.2.2.2.2.1 m hm
theorem NW_as {f' : Nat → Int32} (hI : MI a h) (hf : ∀ m, m < 5 → f' m = h.1 19 m) (hn : 0 < aN a := by omega) : NW (aV a) (setA h 21 f') := fun m hm => by
  rw [setA_self, hf m hm]; exact hI.aim hm hn
theorem ev_heatAt {f : Nat → Nat} {q : Nat} {st : Bool} (hI : MI a h) (hw : WF a) (hN : NW f h) (hf : ∀ m, f m < 100) (hq : q < aP a) (k : post (some (.int (nI (HT a f (dk a st) q)))) h) : Ev 1 mX5_heatAt [.ref 15, .int (nI q), .int (b2i st)] h post := by
  have h5 := hw.1
  refine Ev.intro rfl (Nat.le_of_ble_eq_true rfl) (sX5_heatAt_0 ?_)
  refine loopU (S := fun i => G 1 mX5_heatAt post 5 [some (.ref 15), some (.int (nI q)), some (.int (b2i st)), some (.int (nI (sm (fun m => if (dk a st).testBit m then 0 else gv a m (f m) q) i))), some (.int (nI i))] [] h) (aN a) (fun i hi ih => ?_) ?_ 0 (Nat.zero_le _)
  · have take : (dk a st).testBit i = false → G 1 mX5_heatAt post 31 [some (.ref 15), some (.int (nI q)), some (.int (b2i st)), none, some (.int (nI i))] [.int (nI (sm (fun m => if (dk a st).testBit m then 0 else gv a m (f m) q) i))] h := fun z => by
      refine sX5_heatAt_31 (vp_in_nI (by omega) (by omega)) ?_
      rw [nI_clamp (by omega), hN i (by omega)]
      refine ev_gives hI hw hi (hf i) hq (sX5_heatAt_45 ?_)
      rw [nI_1, nI_add]
      rw [sm, z] at ih
      exact ih
    refine sX5_heatAt_5 (fun z => ?_) (fun _ => sX5_heatAt_14 (fun z => ?_) (fun z => sX5_heatAt_19 ?_))
    · rw [hI.n, nI_leI (by omega) (by omega)] at z; omega
    · rw [b2i_n] at z
      exact take (dk_st z)
    · rw [b2i_0] at z
      rw [hI.sh]
      refine ev_has (by have := hw.sh; omega) (by omega) (sX5_heatAt_28 (fun y => sX5_heatAt_48 ?_) (fun y => ?_))
      · rw [b2i_n] at y
        rw [nI_1, Int32.add_zero]
        rw [sm, dk_ls z y] at ih
        exact ih
      · rw [b2i_0] at y
        exact take (dk_sh y)
  · exact sX5_heatAt_5 (fun _ => sX5_heatAt_57 k) (fun z => absurd (by rw [hI.n]; exact nI_le (Nat.le_refl _) (by omega)) z)
def allq (a : St) (g : Nat → Nat) (i : Nat) : Bool := (List.range i).all (fun q => decide (g q ≤ aC a q))
theorem allq_s (a : St) (g : Nat → Nat) (i : Nat) : allq a g (i + 1) = (allq a g i && decide (g i ≤ aC a i)) := by
  unfold allq
  rw [List.range_succ, List.all_append]
  simp
theorem ev_isGood {f : Nat → Nat} {st : Bool} (hI : MI a h) (hw : WF a) (hN : NW f h) (hf : ∀ m, f m < 100) (k : post (some (.int (b2i (SF a f (dk a st))))) h) : Ev 2 mX5_isGood [.ref 15, .int (b2i st)] h post := by
  have h4 := hw.2.1
  refine Ev.intro rfl (Nat.le_of_ble_eq_true rfl) (sX5_isGood_0 ?_)
  refine loopU (S := fun i => G 2 mX5_isGood post 4 [some (.ref 15), some (.int (b2i st)), some (.int (b2i (allq a (HT a f (dk a st)) i))), some (.int (nI i))] [] h) (aP a) (fun i hi ih => ?_) ?_ 0 (Nat.zero_le _)
  · rw [allq_s] at ih
    refine sX5_isGood_4 (fun z => ?_) (fun _ => sX5_isGood_12 (fun z => sX5_isGood_35 ?_) (fun z => sX5_isGood_16 (ev_heatAt hI hw hN hf hi (sX5_isGood_22 (vp_in_nI (by omega) (by omega)) (fun y => sX5_isGood_35 ?_) (fun y => sX5_isGood_31 ?_)))))
    · rw [hI.p, nI_leI (by omega) (by omega)] at z; omega
    · rw [b2i_0] at z
      rw [z] at ih
      rw [nI_1]
      exact ih
    · rw [nI_clamp (by omega), hI.ce hi, nI_ltI (by have := hw.2.2.2.2.1 i; omega) (by have := HT_le hw f (dk a st) i; omega)] at y
      rw [decide_eq_false (by omega), Bool.and_false] at ih
      rw [nI_1]
      exact ih
    · rw [b2i_n] at z
      rw [nI_clamp (by omega), hI.ce hi, nI_ltI (by have := hw.2.2.2.2.1 i; omega) (by have := HT_le hw f (dk a st) i; omega)] at y
      rw [z, decide_eq_true (by omega)] at ih
      rw [nI_1]
      exact ih
  · exact sX5_isGood_4 (fun _ => sX5_isGood_43 (b2i_nar _) k) (fun z => absurd (by rw [hI.p]; exact nI_le (Nat.le_refl _) (by omega)) z)
theorem ev_caught {f : Nat → Nat} (hI : MI a h) (hw : WF a) (hN : NW f h) (hf : ∀ m, f m < 100) (k : post (some (.int (nI (CT a f (aH a))))) h) : Ev 2 mX5_caught [.ref 15] h post := by
  have h4 := hw.2.1
  rw [CT_cut hw] at k
  refine Ev.intro rfl (Nat.le_of_ble_eq_true rfl) (sX5_caught_0 ?_)
  refine loopU (S := fun i => G 2 mX5_caught post 4 [some (.ref 15), some (.int (nI (sm (fun q => HT a f (aH a) q) i))), some (.int (nI i))] [] h) (aP a) (fun i hi ih => ?_) ?_ 0 (Nat.zero_le _)
  · refine sX5_caught_4 (fun z => ?_) (fun _ => sX5_caught_12 (ev_heatAt (st := false) hI hw hN hf hi (sX5_caught_19 ?_)))
    · rw [hI.p, nI_leI (by omega) (by omega)] at z; omega
    rw [nI_1, nI_add]
    exact ih
  · exact sX5_caught_4 (fun _ => sX5_caught_27 k) (fun z => absurd (by rw [hI.p]; exact nI_le (Nat.le_refl _) (by omega)) z)
theorem ev_aimedAt {q : Nat} (hI : MI a h) (hw : WF a) (hq : q < aP a) (k : post (some (.int (nI (cnt (fun m => decide (aV a m = q + 1)) (aN a))))) h) : Ev 0 mX5_aimedAt [.ref 15, .int (nI q)] h post := by
  have h5 := hw.1
  have h4 := hw.2.1
  refine Ev.intro rfl (Nat.le_of_ble_eq_true rfl) (sX5_aimedAt_0 ?_)
  refine loopU (S := fun i => G 0 mX5_aimedAt post 4 [some (.ref 15), some (.int (nI q)), some (.int (nI (cnt (fun m => decide (aV a m = q + 1)) i))), some (.int (nI i))] [] h) (aN a) (fun i hi ih => ?_) ?_ 0 (Nat.zero_le _)
  · have hv := (hw.2.2.2.1 i).2.2.1
    refine sX5_aimedAt_4 (fun z => ?_) (fun _ => sX5_aimedAt_12 (vp_in_nI (by omega) (by omega)) (fun z => sX5_aimedAt_27 ?_) (fun z => sX5_aimedAt_23 ?_))
    · rw [hI.n, nI_leI (by omega) (by omega)] at z; omega
    · rw [nI_clamp (by omega), hI.aim (by omega), aim_eq (by omega) (by omega)] at z
      rw [nI_1, Int32.add_zero]
      rw [cnt, sm, if_neg (by simpa using z), Nat.add_zero] at ih
      exact ih
    · rw [nI_clamp (by omega), hI.aim (by omega), aim_eq (by omega) (by omega)] at z
      rw [nI_1, nI_1]
      rw [cnt, sm, if_pos (by simpa using z)] at ih
      exact ih
  · exact sX5_aimedAt_4 (fun _ => sX5_aimedAt_36 k) (fun z => absurd (by rw [hI.n]; exact nI_le (Nat.le_refl _) (by omega)) z)
end MD1
