/-! what writes the plant; trades; relief -/
def slkf (p : Nat) (C : Nat → Nat) (q : Nat) : Nat := if q < p then 127 - C q else 0
def gvf (p md sd v q : Nat) : Nat := if v = 0 ∨ p ≤ q then 0 else if q + 1 = v then md else if q + 2 = v ∨ q = v then sd else 0
theorem slk_f (a : St) : slk a = slkf (aP a) (aC a) := rfl
theorem gv_f (a : St) (m v : Nat) : gv a m v = gvf (aP a) (aM a m) (aS a m) v := rfl
theorem pkd_step (g : Nat → Nat) {i : Nat} (hi : i < 4) : pkd (fun q => if q < i + 1 then g q else 0) = pkd (fun q => if q < i then g q else 0) + g i * 2 ^ (8 * i) := by
  unfold pkd
  rcases (show i = 0 ∨ i = 1 ∨ i = 2 ∨ i = 3 by omega) with rfl | rfl | rfl | rfl <;> simp <;> omega
section PL3
variable {post : Option Value → PH → Prop} {h : PH} {a : St}
theorem ev_measureSlack {p : Nat} {C : Nat → Nat} (hp : h.1 2 1 = nI p) (hp4 : p ≤ 4) (hC : ∀ q, q < p → h.1 11 q = nI (C q) ∧ C q ≤ 60) (k : post none (upd2 h.1 2 5 (nI (pkd (slkf p C))), h.2)) : Ev 0 mX3_measureSlack [.ref 2] h post := by
  refine Ev.intro rfl (Nat.le_of_ble_eq_true rfl) (sX3_measureSlack_0 ?_)
  have hS : ∀ i, i ≤ p → G 0 mX3_measureSlack post 7 [some (.ref 2), some (.int (nI i))] [] (upd2 h.1 2 5 (nI (pkd (fun q => if q < i then 127 - C q else 0))), h.2) := by
    refine loopU p (fun i hi ih => ?_) ?_
    · refine sX3_measureSlack_7 (fun hc => ?_) (fun _ => ?_)
      · have hc : nI p ≤ nI i := by rw [← hp]; exact hc
        rw [nI_leI (by omega) (by omega)] at hc; omega
      refine sX3_measureSlack_15 (vp_in_nI (by omega) (by omega)) ?_
      have e1 : (upd2 h.1 2 5 (nI (pkd (fun q => if q < i then 127 - C q else 0)))) 11 (nI i).toNatClampNeg = nI (C i) := by
        rw [nI_clamp (by omega), upd2_ne (by decide)]
        exact (hC i hi).1
      have e2 : (upd2 h.1 2 5 (nI (pkd (fun q => if q < i then 127 - C q else 0)))) 2 5 = nI (pkd (fun q => if q < i then 127 - C q else 0)) := by
        rw [upd2_self, pk_us]
      have h60 := (hC i hi).2
      have hb : (127 - C i) * 2 ^ (8 * i) < 2 ^ 32 := by
        have : 2 ^ (8 * i) ≤ 2 ^ 24 := Nat.pow_le_pow_right (by omega) (by omega)
        have := Nat.mul_le_mul (show 127 - C i ≤ 127 by omega) this
        omega
      show G 0 mX3_measureSlack post 7 [some (.ref 2), some (.int (nI i + 1))] [] (upd2 (upd2 h.1 2 5 (nI (pkd (fun q => if q < i then 127 - C q else 0)))) 2 5 ((upd2 h.1 2 5 (nI (pkd (fun q => if q < i then 127 - C q else 0)))) 2 5 + (127 - (upd2 h.1 2 5 (nI (pkd (fun q => if q < i then 127 - C q else 0)))) 11 (nI i).toNatClampNeg) <<< (8 * nI i &&& 31)), h.2)
      rw [e1, e2, upd2_upd2, show (127 : Int32) = nI 127 from rfl, pk_sub (by omega), pk_shlN _ _ (lane_shl i (by omega)) hb, nI_add, nI_1, ← pkd_step (fun q => 127 - C q) (by omega)]
      exact ih
    · refine sX3_measureSlack_7 (fun _ => sX3_measureSlack_44 k) (fun hc => absurd ?_ hc)
      show h.1 2 1 ≤ nI p
      rw [hp]
      exact nI_le (Nat.le_refl _) (by omega)
  exact hS 0 (Nat.zero_le _)
theorem light_sum {p md sd u : Nat} (hu : u < p) (hp : p ≤ 4) : md * 2 ^ (8 * u) + (if 0 < u then sd * 2 ^ (8 * (u - 1)) else 0) + (if u + 1 < p then sd * 2 ^ (8 * (u + 1)) else 0) = pkd (gvf p md sd (u + 1)) := by
  unfold pkd gvf
  rcases (show u = 0 ∨ u = 1 ∨ u = 2 ∨ u = 3 by omega) with rfl | rfl | rfl | rfl <;> rcases (show p = 1 ∨ p = 2 ∨ p = 3 ∨ p = 4 by omega) with rfl | rfl | rfl | rfl <;> first | omega | (simp <;> omega)
theorem ev_lightAt {p md sd u : Nat} (hp : h.1 2 1 = nI p) (hp4 : p ≤ 4) (hm : md ≤ 9) (hs : sd ≤ 9) (hu : u < p) (k : post (some (.int (nI (pkd (gvf p md sd (u + 1)))))) h) : Ev 1 mX3_lightAt [.ref 2, .int (nI u), .int (nI md), .int (nI sd)] h post := by
  refine Ev.intro rfl (Nat.le_of_ble_eq_true rfl) (sX3_lightAt_0 (ev_hasPatch' hp hp4 ?_))
  have s1 : nI md <<< (8 * nI u &&& 31) = nI (md * 2 ^ (8 * u)) := pk_shlN _ _ (lane_shl u (by omega)) (by
    have : 2 ^ (8 * u) ≤ 2 ^ 24 := Nat.pow_le_pow_right (by omega) (by omega)
    have := Nat.mul_le_mul hm this
    omega)
  rw [s1]
  have go : ∀ x : Nat, x = md * 2 ^ (8 * u) + (if 0 < u then sd * 2 ^ (8 * (u - 1)) else 0) → G 1 mX3_lightAt post 31 [some (.ref 2), some (.int (nI u)), none, some (.int (nI sd)), some (.int (nI x))] [] h := by
    intro x hx
    refine sX3_lightAt_31 (ev_hasPatch' hp hp4 ?_)
    rw [nI_1]
    by_cases hl : u + 1 < p
    · rw [ix_nI hl (by omega)]
      refine sX3_lightAt_38 (fun hc => absurd hc (by decide)) (fun _ => sX3_lightAt_41 (sX3_lightAt_54 ?_))
      have s3 : nI sd <<< (8 * nI (u + 1) &&& 31) = nI (sd * 2 ^ (8 * (u + 1))) := pk_shlN _ _ (lane_shl (u + 1) (by omega)) (by
        have : 2 ^ (8 * (u + 1)) ≤ 2 ^ 24 := Nat.pow_le_pow_right (by omega) (by omega)
        have := Nat.mul_le_mul hs this
        omega)
      rw [nI_1, s3, nI_add]
      rw [← light_sum hu hp4, if_pos hl, ← hx] at k
      exact k
    · rw [ix_nI' (by omega) (by omega)]
      refine sX3_lightAt_38 (fun _ => sX3_lightAt_54 ?_) (fun hc => absurd rfl hc)
      rw [← light_sum hu hp4, if_neg hl, ← hx] at k
      exact k
  by_cases hz : 0 < u
  · obtain ⟨w, rfl⟩ : ∃ w, u = w + 1 := ⟨u - 1, by omega⟩
    rw [nI_pred, ix_nI (by omega) (by omega)]
    refine sX3_lightAt_15 (fun hc => absurd hc (by decide)) (fun _ => sX3_lightAt_18 ?_)
    have s2 : nI sd <<< (8 * nI w &&& 31) = nI (sd * 2 ^ (8 * w)) := pk_shlN _ _ (lane_shl w (by omega)) (by
      have : 2 ^ (8 * w) ≤ 2 ^ 24 := Nat.pow_le_pow_right (by omega) (by omega)
      have := Nat.mul_le_mul hs this
      omega)
    rw [nI_pred, s2, nI_add]
    exact go _ (by rw [if_pos hz]; rfl)
  · have : u = 0 := by omega
    subst this
    have e : ix (nI 0 - 1) p = false := ix_f0 (by decide)
    rw [e]
    exact sX3_lightAt_15 (fun _ => go _ (by simp)) (fun hc => absurd rfl hc)
/-! trades -/
def sw (f : Nat → Int32) (i j : Nat) : Nat → Int32 := upd (upd f i (f j)) j (f i)
def swp (f : Nat → Nat) (i j : Nat) : Nat → Nat := fun m => if m = j then f i else if m = i then f j else f m
theorem sw_sw (f : Nat → Int32) (i j : Nat) : sw (sw f i j) i j = f := by
  funext m
  unfold sw upd
  by_cases e1 : m = j
  · subst e1; simp
    by_cases e2 : i = m
    · subst e2; simp
    · simp [e2]
  · by_cases e2 : m = i
    · subst e2; simp [e1]
    · simp [e1, e2]
theorem ev_swapAims {i j : Nat} (hI : CI a h) (hw : WF a) (hi : i < aN a) (hj : j < aN a) (k : post none (setA h 9 (sw (h.1 9) i j))) : Ev 1 mX3_swapAims [.ref 2, .int (nI i), .int (nI j)] h post := by
  have h5 := hw.1
  refine Ev.intro rfl (Nat.le_of_ble_eq_true rfl) (sX3_swapAims_0 (ev_hasMirror hI hw ?_))
  rw [ix_nI hi hw.n31]
  refine sX3_swapAims_5 (fun hc => absurd hc (by decide)) (fun _ => sX3_swapAims_8 (ev_hasMirror hI hw ?_))
  rw [ix_nI hj hw.n31]
  refine sX3_swapAims_13 (fun hc => absurd hc (by decide)) (fun _ => sX3_swapAims_16 (vp_in_nI (by omega) (by omega)) (vp_in_nI (by omega) (by omega)) (vp_in_nI (by omega) (by omega)) (vp_in_nI (by omega) (by omega)) ?_)
  rw [nI_clamp (by omega), nI_clamp (by omega)]
  have e : (upd2 (upd2 h.1 9 i (h.1 9 j)) 9 j (h.1 9 i), h.2) = setA h 9 (sw (h.1 9) i j) := setA_upd h 9 j (upd (h.1 9) i (h.1 9 j)) (h.1 9 i)
  rw [e]
  exact k
theorem CI.setV {a : St} {h : PH} (c : CI a h) {f : Nat → Nat} {g : Nat → Int32} (hg : ∀ m, m < aN a → g m = nI (f m) - 1) : CI (setV a f) (setA h 9 g) := by
  refine ⟨c.n, c.p, fun hn => c.pl hn, c.sh, c.sk, c.sl, fun m hm => ⟨c.mid hm, c.sid hm, ?_⟩, fun m hm v hv => c.lt hm hv, fun q hq => c.ce hq⟩
  rw [setA_self]
  exact hg m hm
theorem WF.setV {a : St} (hw : WF a) {f : Nat → Nat} (hf : ∀ m, f m ≤ aP a ∧ (aN a ≤ m → f m = 0)) : WF (setV a f) :=
  ⟨hw.1, hw.2.1, hw.2.2.1, fun m => ⟨(hw.2.2.2.1 m).1, (hw.2.2.2.1 m).2.1, (hf m).1, (hf m).2⟩, hw.2.2.2.2⟩
theorem swp_ok {a : St} (hw : WF a) {i j : Nat} (hi : i < aN a) (hj : j < aN a) : ∀ m, swp (aV a) i j m ≤ aP a ∧ (aN a ≤ m → swp (aV a) i j m = 0) := by
  intro m
  have h1 := (hw.2.2.2.1 m).2.2
  have h2 := (hw.2.2.2.1 i).2.2
  have h3 := (hw.2.2.2.1 j).2.2
  unfold swp
  refine ⟨?_, fun hm => ?_⟩
  · split
    · exact h2.1
    · split
      · exact h3.1
      · exact h1.1
  · rw [if_neg (by omega), if_neg (by omega)]
    exact h1.2 hm
theorem ev_heatsByTrade {i j : Nat} (hI : CI a h) (hw : WF a) (hi : i < aN a) (hj : j < aN a) (k : post (some (.int (nI (pkd (HT a (swp (aV a) i j) (aH a)))))) h) : Ev 3 mX3_heatsByTrade [.ref 2, .int (nI i), .int (nI j)] h post := by
  have h5 := hw.1
  refine Ev.intro rfl (Nat.le_of_ble_eq_true rfl) (sX3_heatsByTrade_0 (ev_swapAims hI hw hi hj (sX3_heatsByTrade_6 ?_)))
  have hI2 : CI (setV a (swp (aV a) i j)) (setA h 9 (sw (h.1 9) i j)) := hI.setV (fun m hm => by
    unfold sw swp upd
    by_cases e1 : m = j
    · rw [if_pos e1, if_pos e1]; exact hI.aim hi
    · rw [if_neg e1, if_neg e1]
      by_cases e2 : m = i
      · rw [if_pos e2, if_pos e2]; exact hI.aim hj
      · rw [if_neg e2, if_neg e2]; exact hI.aim hm)
  have hw2 := hw.setV (swp_ok hw hi hj)
  have hsh := hI2.sh
  rw [hsh]
  refine ev_heatsWithout hI2 hw2 hw2.sh (sX3_heatsByTrade_14 (ev_swapAims hI2 hw2 hi hj (sX3_heatsByTrade_21 ?_)))
  rw [setA_self, setA_setA, sw_sw, setA_id]
  exact k
/-- what the trade of pair k (5 times the first, and the second) brings -/
def tg (a : St) (k : Nat) : Nat := if k / 5 < k % 5 ∧ k % 5 < aN a ∧ (aK a).testBit (k / 5) = false ∧ (aK a).testBit (k % 5) = false ∧ aV a (k / 5) ≠ aV a (k % 5) ∧ SF a (swp (aV a) (k / 5) (k % 5)) (aH a) = true then CT a (swp (aV a) (k / 5) (k % 5)) (aH a) - CT a (aV a) (aH a) else 0
def TR (a : St) : Nat → Nat × Nat
  | 0 => (0, 0)
  | k + 1 => if (TR a k).1 < tg a k then (tg a k, k) else TR a k
theorem TR_skip {a : St} {lo : Nat} : ∀ n, (∀ k, lo ≤ k → k < lo + n → tg a k = 0) → TR a (lo + n) = TR a lo
  | 0, _ => rfl
  | n + 1, h => by
    show TR a (lo + n + 1) = _
    rw [TR, h (lo + n) (by omega) (by omega), if_neg (by omega)]
    exact TR_skip n (fun k h1 h2 => h k h1 (by omega))
theorem TR_to {a : St} {lo hi : Nat} (hl : lo ≤ hi) (h : ∀ k, lo ≤ k → k < hi → tg a k = 0) : TR a hi = TR a lo := by
  obtain ⟨n, rfl⟩ : ∃ n, hi = lo + n := ⟨hi - lo, by omega⟩
  exact TR_skip n h
def trp (t : Nat × Nat) : Int32 := if t.1 = 0 then -1001 else nI (8 * (t.2 / 5) + t.2 % 5)
theorem TR_le {a : St} (hw : WF a) : ∀ k, (TR a k).1 ≤ 180
  | 0 => by simp [TR]
  | k + 1 => by
    rw [TR]
    have := TR_le hw k
    split
    · show tg a k ≤ 180
      unfold tg
      split
      · exact Nat.le_trans (Nat.sub_le _ _) (CT_le hw _ _)
      · omega
    · exact this
theorem ev_bestTrade (hI : CI a h) (hw : WF a) (k : post (some (.int (trp (TR a 25)))) h) : Ev 4 mX3_bestTrade [.ref 2] h post := by
  have h5 := hw.1
  have hb : CT a (aV a) (aH a) ≤ 180 := CT_le hw _ _
  have hl : ∀ f D, ∀ q, q < 4 → HT a f D q < 256 := fun f D q _ => by have := HT_le hw f D q; omega
  refine Ev.intro rfl (Nat.le_of_ble_eq_true rfl) (sX3_bestTrade_0 (ev_heats hI hw (sX3_bestTrade_8 (ev_sum (hl _ _) (sX3_bestTrade_11 ?_)))))
  have hS : ∀ i, i ≤ aN a → G 4 mX3_bestTrade post 14 [some (.ref 2), some (.int (trp (TR a (5 * i)))), some (.int (nI (CT a (aV a) (aH a) + (TR a (5 * i)).1))), some (.int (nI i)), none, none] [] h := by
    refine loopU (aN a) (fun i hi ih => ?_) ?_
    · refine sX3_bestTrade_14 (fun hc => ?_) (fun _ => sX3_bestTrade_22 ?_)
      · rw [hI.n, nI_leI (by omega) (by omega)] at hc; omega
      have e0 : TR a (5 * i + (i + 1)) = TR a (5 * i) := TR_to (by omega) (fun k h1 h2 => by
        unfold tg
        rw [if_neg (fun q => by have := q.1; omega)])
      have e1 : TR a (5 * (i + 1)) = TR a (5 * i + aN a) := TR_to (by omega) (fun k h1 h2 => by
        unfold tg
        rw [if_neg (fun q => by have := q.2.1; omega)])
      rw [nI_1, ← e0]
      refine loopU (S := fun j => i < j → G 4 mX3_bestTrade post 27 [some (.ref 2), some (.int (trp (TR a (5 * i + j)))), some (.int (nI (CT a (aV a) (aH a) + (TR a (5 * i + j)).1))), some (.int (nI i)), some (.int (nI j)), none] [] h) (aN a) (fun j hj jh hij => ?_) (fun _ => ?_) (i + 1) (by omega) (by omega)
      · have jh := jh (by omega)
        have hT := TR_le hw (5 * i + j)
        have hk1 : (5 * i + j) / 5 = i := by omega
        have hk2 : (5 * i + j) % 5 = j := by omega
        refine sX3_bestTrade_27 (fun hc => ?_) (fun _ => ?_)
        · rw [hI.n, nI_leI (by omega) (by omega)] at hc; omega
        have skip : tg a (5 * i + j) ≤ (TR a (5 * i + j)).1 → G 4 mX3_bestTrade post 113 [some (.ref 2), some (.int (trp (TR a (5 * i + j)))), some (.int (nI (CT a (aV a) (aH a) + (TR a (5 * i + j)).1))), some (.int (nI i)), some (.int (nI j)), none] [] h := by
          intro h0
          refine sX3_bestTrade_113 ?_
          rw [nI_1]
          have e : TR a (5 * i + (j + 1)) = TR a (5 * i + j) := by
            show TR a (5 * i + j + 1) = _
            rw [TR, if_neg (by omega)]
          rw [e] at jh
          exact jh
        have skip0 : tg a (5 * i + j) = 0 → G 4 mX3_bestTrade post 113 [some (.ref 2), some (.int (trp (TR a (5 * i + j)))), some (.int (nI (CT a (aV a) (aH a) + (TR a (5 * i + j)).1))), some (.int (nI i)), some (.int (nI j)), none] [] h := fun q => skip (by omega)
        refine sX3_bestTrade_36 (ev_isStuck hI hw (by omega) (sX3_bestTrade_41 (fun hc => ?_) (fun hc => ?_)))
        · rw [b2i_n] at hc
          exact skip0 (by unfold tg; rw [if_neg (fun q => by have := q.2.2.1; rw [hk1, hc] at this; cases this)])
        rw [b2i_0] at hc
        refine sX3_bestTrade_44 (ev_isStuck hI hw (by omega) (sX3_bestTrade_50 (fun hc2 => ?_) (fun hc2 => ?_)))
        · rw [b2i_n] at hc2
          exact skip0 (by unfold tg; rw [if_neg (fun q => by have := q.2.2.2.1; rw [hk2, hc2] at this; cases this)])
        rw [b2i_0] at hc2
        have hvi := (hw.2.2.2.1 i).2.2.1
        have hvj := (hw.2.2.2.1 j).2.2.1
        have h4 := hw.2.1
        have haim : h.1 9 i = h.1 9 j ↔ aV a i = aV a j := by
          rw [hI.aim hi, hI.aim hj]
          constructor
          · intro e
            have e : nI (aV a i) = nI (aV a j) := by
              have := congrArg (fun z : Int32 => z + 1) e
              simpa [Int32.sub_add_cancel] using this
            exact (nI_eq (by omega) (by omega)).mp e
          · intro e; rw [e]
        refine sX3_bestTrade_53 (vp_in_nI (by omega) (by omega)) (vp_in_nI (by omega) (by omega)) (fun hc3 => ?_) (fun hc3 => sX3_bestTrade_69 ?_)
        · rw [nI_clamp (by omega), nI_clamp (by omega), haim] at hc3
          refine sX3_bestTrade_72 (ev_heatsByTrade hI hw hi hj (sX3_bestTrade_79 (ev_isSafe hI hw (fun q _ => HT_le hw _ _ q) (fun q hq => HT_out hq) (sX3_bestTrade_87 (fun hc4 => ?_) (fun hc4 => ?_)))))
          · rw [b2i_0] at hc4
            exact skip0 (by
              unfold tg
              rw [if_neg (fun q => ?_)]
              have := q.2.2.2.2.2
              rw [hk1, hk2] at this
              have h9 : SF a (swp (aV a) i j) (aH a) = false := hc4
              rw [h9] at this
              cases this)
          · rw [b2i_n] at hc4
            have etg : tg a (5 * i + j) = CT a (swp (aV a) i j) (aH a) - CT a (aV a) (aH a) := by
              unfold tg
              rw [hk1, hk2, if_pos ⟨hij, hj, hc, hc2, hc3, hc4⟩]
            have hct : CT a (swp (aV a) i j) (aH a) ≤ 180 := CT_le hw _ _
            refine sX3_bestTrade_90 (ev_sum (hl _ _) (sX3_bestTrade_95 (fun hc5 => ?_) (fun hc5 => ?_)))
            · have hc5 : nI (CT a (swp (aV a) i j) (aH a)) ≤ nI (CT a (aV a) (aH a) + (TR a (5 * i + j)).1) := hc5
              rw [nI_leI (by omega) (by omega)] at hc5
              exact skip (by omega)
            · have hc5 : ¬ nI (CT a (swp (aV a) i j) (aH a)) ≤ nI (CT a (aV a) (aH a) + (TR a (5 * i + j)).1) := hc5
              rw [nI_leI (by omega) (by omega)] at hc5
              refine sX3_bestTrade_99 (ev_sum (hl _ _) (sX3_bestTrade_104 (sX3_bestTrade_113 ?_)))
              rw [nI_1, show (8 : Int32) = nI 8 from rfl, pk_mul, nI_add]
              have e : TR a (5 * i + (j + 1)) = (tg a (5 * i + j), 5 * i + j) := by
                show TR a (5 * i + j + 1) = _
                rw [TR, if_pos (by omega)]
              rw [e] at jh
              have e2 : trp (tg a (5 * i + j), 5 * i + j) = nI (8 * i + j) := by
                unfold trp
                rw [if_neg (by show ¬ tg a (5 * i + j) = 0; omega)]
                show nI (8 * ((5 * i + j) / 5) + (5 * i + j) % 5) = _
                rw [hk1, hk2]
              rw [e2] at jh
              have e3 : CT a (aV a) (aH a) + (tg a (5 * i + j), 5 * i + j).1 = sm (HT a (swp (aV a) i j) (aH a)) 4 := by
                show CT a (aV a) (aH a) + tg a (5 * i + j) = CT a (swp (aV a) i j) (aH a)
                omega
              rw [e3] at jh
              exact jh
        · rw [nI_clamp (by omega), nI_clamp (by omega), haim] at hc3
          exact skip0 (by unfold tg; rw [if_neg (fun q => by have := q.2.2.2.2.1; rw [hk1, hk2] at this; exact this hc3)])
      · refine sX3_bestTrade_27 (fun _ => sX3_bestTrade_119 ?_) (fun hc => absurd (by rw [hI.n]; exact nI_le (Nat.le_refl _) (by omega)) hc)
        rw [nI_1]
        rw [e1] at ih
        exact ih
    · refine sX3_bestTrade_14 (fun _ => sX3_bestTrade_125 ?_) (fun hc => absurd (by rw [hI.n]; exact nI_le (Nat.le_refl _) (by omega)) hc)
      have e : TR a 25 = TR a (5 * aN a) := TR_to (by omega) (fun k h1 h2 => by
        unfold tg
        rw [if_neg (fun q => by have := q.1; have := q.2.1; omega)])
      rw [← e]
      exact k
  exact hS 0 (Nat.zero_le _)
end PL3
