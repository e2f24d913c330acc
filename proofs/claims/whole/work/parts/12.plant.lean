/-! the plant's reading methods -/
section PLA
variable {post : Option Value → PH → Prop} {h : PH} {a : St}
theorem ev_bit {x m : Nat} (hx : x < 2 ^ 31) (hm : m < 31) (k : post (some (.int (b2i (x.testBit m)))) h) : Ev 0 mX4_bit [.int (nI x), .int (nI m)] h post := by
  refine Ev.intro rfl (Nat.le_of_ble_eq_true rfl) (sX4_bit_0 ?_)
  rw [bit_read hx hm]
  exact k
theorem ev_heatOf {f : Nat → Nat} {q : Nat} (hf : ∀ q, q < 4 → f q < 256) (hq : q < 4) (k : post (some (.int (nI (f q)))) h) : Ev 0 mX4_heatOf [.int (nI (pkd f)), .int (nI q)] h post := by
  refine Ev.intro rfl (Nat.le_of_ble_eq_true rfl) (sX4_heatOf_0 ?_)
  rw [lane_read hf hq]
  exact k
theorem ev_sum {f : Nat → Nat} (hf : ∀ q, q < 4 → f q < 256) (k : post (some (.int (nI (sm f 4)))) h) : Ev 1 mX4_sum [.int (nI (pkd f))] h post := by
  refine Ev.intro rfl (Nat.le_of_ble_eq_true rfl) (sX4_sum_0 ?_)
  refine ev_heatOf (q := 0) hf (by omega) (sX4_sum_5 ?_)
  refine ev_heatOf (q := 1) hf (by omega) (sX4_sum_10 ?_)
  refine ev_heatOf (q := 2) hf (by omega) (sX4_sum_16 ?_)
  refine ev_heatOf (q := 3) hf (by omega) (sX4_sum_22 ?_)
  have e : nI (f 0) + nI (f 1) + nI (f 2) + nI (f 3) = nI (sm f 4) := by
    rw [nI_add, nI_add, nI_add]
    exact congrArg nI (by simp [sm])
  rw [e]
  exact k
theorem ev_isRead (hI : CI a h) (hw : WF a) (k : post (some (.int (b2i (decide (0 < aN a))))) h) : Ev 0 mX3_isRead [.ref 2] h post := by
  refine Ev.intro rfl (Nat.le_of_ble_eq_true rfl) (sX3_isRead_0 (fun hc => ?_) (fun hc => ?_))
  · rw [hI.n] at hc
    have : aN a = 0 := by
      have := (nI_leI (a := aN a) (b := 0) (by have := hw.1; omega) (by omega)).mp hc
      omega
    refine sX3_isRead_11 ?_
    rw [this] at k
    exact k
  · rw [hI.n] at hc
    have : 0 < aN a := by
      apply Nat.pos_of_ne_zero
      intro e
      rw [e] at hc
      exact hc (by decide)
    refine sX3_isRead_7 ?_
    rw [decide_eq_true this] at k
    exact k
/-- x is a number below n -/
def ix (x : Int32) (n : Nat) : Bool := decide (0 ≤ x.toInt ∧ x.toInt < n)
theorem ix_t {x : Int32} {n : Nat} (h0 : ¬ x < 0) (h1 : ¬ nI n ≤ x) (hn : n < 2 ^ 31) : ix x n = true := by
  rw [Int32.lt_iff_toInt_lt, Int32.toInt_zero] at h0
  rw [Int32.le_iff_toInt_le, nI_toInt hn] at h1
  exact decide_eq_true ⟨by omega, by omega⟩
theorem ix_f0 {x : Int32} {n : Nat} (h0 : x < 0) : ix x n = false := by
  rw [Int32.lt_iff_toInt_lt, Int32.toInt_zero] at h0
  exact decide_eq_false (by omega)
theorem ix_f1 {x : Int32} {n : Nat} (h1 : nI n ≤ x) (hn : n < 2 ^ 31) : ix x n = false := by
  rw [Int32.le_iff_toInt_le, nI_toInt hn] at h1
  exact decide_eq_false (by omega)
theorem ix_nI {m n : Nat} (hm : m < n) (hn : n < 2 ^ 31) : ix (nI m) n = true := by
  refine decide_eq_true ?_
  rw [nI_toInt (by omega)]
  omega
theorem ix_nI' {m n : Nat} (hm : n ≤ m) (hn : m < 2 ^ 31) : ix (nI m) n = false := by
  refine decide_eq_false ?_
  rw [nI_toInt (by omega)]
  omega
theorem ix_of {x : Int32} {n : Nat} (h : ix x n = true) (hn : n < 2 ^ 31) : ∃ j, j < n ∧ x = nI j := vp_in_of (vp_in_iff.mpr (of_decide_eq_true h)) hn
theorem WF.n31 {a : St} (hw : WF a) : aN a < 2 ^ 31 := by have := hw.1; omega
theorem WF.p31 {a : St} (hw : WF a) : aP a < 2 ^ 31 := by have := hw.2.1; omega
theorem ev_hasMirror {x : Int32} (hI : CI a h) (hw : WF a) (k : post (some (.int (b2i (ix x (aN a))))) h) : Ev 0 mX3_hasMirror [.ref 2, .int x] h post := by
  refine Ev.intro rfl (Nat.le_of_ble_eq_true rfl) (sX3_hasMirror_0 (fun hc => sX3_hasMirror_16 ?_) (fun hc => sX3_hasMirror_4 (fun hc2 => sX3_hasMirror_16 ?_) (fun hc2 => sX3_hasMirror_12 ?_)))
  · rw [ix_f0 hc] at k; exact k
  · rw [hI.n] at hc2; rw [ix_f1 hc2 hw.n31] at k; exact k
  · rw [hI.n] at hc2; rw [ix_t hc hc2 hw.n31] at k; exact k
theorem ev_hasPatch' {x : Int32} {p : Nat} (hp : h.1 2 1 = nI p) (hp4 : p ≤ 4) (k : post (some (.int (b2i (ix x p)))) h) : Ev 0 mX3_hasPatch [.ref 2, .int x] h post := by
  refine Ev.intro rfl (Nat.le_of_ble_eq_true rfl) (sX3_hasPatch_0 (fun hc => sX3_hasPatch_16 ?_) (fun hc => sX3_hasPatch_4 (fun hc2 => sX3_hasPatch_16 ?_) (fun hc2 => sX3_hasPatch_12 ?_)))
  · rw [ix_f0 hc] at k; exact k
  · rw [hp] at hc2; rw [ix_f1 hc2 (by omega)] at k; exact k
  · rw [hp] at hc2; rw [ix_t hc hc2 (by omega)] at k; exact k
theorem ev_hasPatch {x : Int32} (hI : CI a h) (hw : WF a) (k : post (some (.int (b2i (ix x (aP a))))) h) : Ev 0 mX3_hasPatch [.ref 2, .int x] h post := ev_hasPatch' hI.p hw.2.1 k
theorem ev_isShaded {m : Nat} (hI : CI a h) (hw : WF a) (hm : m < 31) (k : post (some (.int (b2i ((aH a).testBit m)))) h) : Ev 1 mX3_isShaded [.ref 2, .int (nI m)] h post := by
  refine Ev.intro rfl (Nat.le_of_ble_eq_true rfl) (sX3_isShaded_0 ?_)
  rw [hI.sh]
  refine ev_bit (by have := hw.sh; omega) hm (sX3_isShaded_8 (fun hc => sX3_isShaded_16 ?_) (fun hc => sX3_isShaded_12 ?_))
  · rw [b2i_1] at hc; rw [(Bool.not_eq_true _).mp hc] at k; exact k
  · rw [b2i_1] at hc; rw [hc] at k; exact k
theorem ev_isStuck {m : Nat} (hI : CI a h) (hw : WF a) (hm : m < 31) (k : post (some (.int (b2i ((aK a).testBit m)))) h) : Ev 1 mX3_isStuck [.ref 2, .int (nI m)] h post := by
  refine Ev.intro rfl (Nat.le_of_ble_eq_true rfl) (sX3_isStuck_0 ?_)
  rw [hI.sk]
  refine ev_bit (by have := hw.sk; omega) hm (sX3_isStuck_8 (fun hc => sX3_isStuck_16 ?_) (fun hc => sX3_isStuck_12 ?_))
  · rw [b2i_1] at hc; rw [(Bool.not_eq_true _).mp hc] at k; exact k
  · rw [b2i_1] at hc; rw [hc] at k; exact k
theorem lt_idx (m v : Nat) : nI m * 4 + nI v = nI (4 * m + v) := by
  rw [show (4 : Int32) = nI 4 from rfl, pk_mul, nI_add, Nat.mul_comm]
theorem gv_0 (a : St) (m : Nat) : pkd (gv a m 0) = 0 := by simp [pkd, gv]
theorem ev_light {m v : Nat} (hI : CI a h) (hw : WF a) (hm : m < aN a) (hv : v ≤ aP a) (k : post (some (.int (nI (pkd (gv a m v))))) h) : Ev 1 mX3_light [.ref 2, .int (nI m), .int (nI v - 1)] h post := by
  have := hw.1
  have := hw.2.1
  refine Ev.intro rfl (Nat.le_of_ble_eq_true rfl) (sX3_light_0 (ev_hasMirror hI hw ?_))
  rw [ix_nI hm hw.n31]
  refine sX3_light_5 (fun hc => absurd hc (by decide)) (fun _ => sX3_light_8 (ev_hasPatch hI hw ?_))
  by_cases h0 : v = 0
  · subst h0
    have e : ix (nI 0 - 1) (aP a) = false := ix_f0 (by decide)
    rw [e]
    refine sX3_light_13 (fun _ => sX3_light_29 ?_) (fun hc => absurd rfl hc)
    rw [gv_0] at k
    exact k
  · obtain ⟨u, rfl⟩ : ∃ u, v = u + 1 := ⟨v - 1, by omega⟩
    have hu : u < aP a := by omega
    rw [nI_pred, ix_nI hu hw.p31]
    refine sX3_light_13 (fun hc => absurd hc (by decide)) (fun _ => sX3_light_16 ?_ ?_)
    · rw [lt_idx]; exact vp_in_nI (by omega) (by omega)
    · rw [lt_idx, nI_clamp (by omega), hI.lt hm hu]; exact k
theorem slk_le {a : St} (q : Nat) : slk a q ≤ 127 := by unfold slk; split <;> omega
theorem safe_iff {g : Nat → Nat} (hw : WF a) (hg : ∀ q, q < 4 → g q ≤ 45) (hz : ∀ q, aP a ≤ q → g q = 0) : (nI (pkd g) + nI (pkd (slk a))) &&& (-2139062144) = 0 ↔ okc a g = true := by
  rw [nI_add, ← pkd_add, lanes_low (fun q hq => by have := hg q hq; have := slk_le (a := a) q; omega), okc_iff]
  have hc := hw.2.2.2.2.1
  constructor
  · intro h q hq
    have h1 := h q (by have := hw.2.1; omega)
    have h2 := hc q
    unfold slk at h1
    rw [if_pos hq] at h1
    omega
  · intro h q hq
    by_cases hp : q < aP a
    · have h1 := h q hp
      have h2 := hc q
      unfold slk
      rw [if_pos hp]
      omega
    · rw [hz q (by omega)]
      unfold slk
      rw [if_neg hp]
      omega
theorem ev_isSafe {g : Nat → Nat} (hI : CI a h) (hw : WF a) (hg : ∀ q, q < 4 → g q ≤ 45) (hz : ∀ q, aP a ≤ q → g q = 0) (k : post (some (.int (b2i (okc a g)))) h) : Ev 0 mX3_isSafe [.ref 2, .int (nI (pkd g))] h post := by
  refine Ev.intro rfl (Nat.le_of_ble_eq_true rfl) (sX3_isSafe_0 (fun hc => sX3_isSafe_16 ?_) (fun hc => sX3_isSafe_12 ?_))
  · rw [hI.sl, safe_iff hw hg hz] at hc
    rw [(Bool.not_eq_true _).mp hc] at k; exact k
  · rw [hI.sl, safe_iff hw hg hz] at hc
    rw [hc] at k; exact k
theorem HT_pk (a : St) (f : Nat → Nat) (D : Nat) : pkd (HT a f D) = sm (fun m => if D.testBit m then 0 else pkd (gv a m (f m))) (aN a) := by
  unfold HT
  rw [pkd_sm (fun m q => if D.testBit m then 0 else gv a m (f m) q)]
  refine sm_cong _ (fun m _ => ?_)
  cases D.testBit m <;> rfl
theorem ev_heatsWithout {D : Nat} (hI : CI a h) (hw : WF a) (hD : D < 32) (k : post (some (.int (nI (pkd (HT a (aV a) D))))) h) : Ev 2 mX3_heatsWithout [.ref 2, .int (nI D)] h post := by
  have h5 := hw.1
  refine Ev.intro rfl (Nat.le_of_ble_eq_true rfl) (sX3_heatsWithout_0 ?_)
  refine loopU (S := fun i => G 2 mX3_heatsWithout post 4 [some (.ref 2), some (.int (nI D)), some (.int (nI (sm (fun m => if D.testBit m then 0 else pkd (gv a m (aV a m))) i))), some (.int (nI i))] [] h) (aN a) (fun i hi ih => ?_) ?_ 0 (Nat.zero_le _)
  · refine sX3_heatsWithout_4 (fun hc => ?_) (fun _ => ?_)
    · rw [hI.n, nI_leI (by omega) (by omega)] at hc; omega
    refine sX3_heatsWithout_12 (ev_bit (by omega) (by omega) (sX3_heatsWithout_17 (fun hc => ?_) (fun hc => ?_)))
    · rw [b2i_n] at hc
      refine sX3_heatsWithout_34 ?_
      rw [nI_1]
      rw [sm, if_pos hc, Nat.add_zero] at ih
      exact ih
    · rw [b2i_0] at hc
      refine sX3_heatsWithout_20 (vp_in_nI (by omega) (by omega)) ?_
      rw [nI_clamp (by omega), hI.aim hi]
      refine ev_light hI hw hi (hw.2.2.2.1 i).2.2.1 (sX3_heatsWithout_32 (sX3_heatsWithout_34 ?_))
      rw [nI_1, nI_add]
      rw [sm, if_neg (by rw [hc]; decide)] at ih
      exact ih
  · refine sX3_heatsWithout_4 (fun hc => sX3_heatsWithout_40 ?_) (fun hc => absurd (by rw [hI.n]; exact nI_le (Nat.le_refl _) (by omega)) hc)
    rw [← HT_pk]
    exact k
theorem ev_heats (hI : CI a h) (hw : WF a) (k : post (some (.int (nI (pkd (HT a (aV a) (aH a)))))) h) : Ev 3 mX3_heats [.ref 2] h post := by
  refine Ev.intro rfl (Nat.le_of_ble_eq_true rfl) (sX3_heats_0 ?_)
  rw [hI.sh]
  exact ev_heatsWithout hI hw hw.sh (sX3_heats_8 k)
theorem aim_eq {v q : Nat} (hv : v < 100) (hq : q < 100) : nI v - 1 = nI q ↔ v = q + 1 := by
  constructor
  · intro e
    have : nI v = nI q + 1 := by rw [← e, Int32.sub_add_cancel]
    rw [nI_1] at this
    exact (nI_eq (by omega) (by omega)).mp this
  · rintro rfl
    rw [← nI_1, Int32.add_sub_cancel]
def cnt (f : Nat → Bool) (n : Nat) : Nat := sm (fun m => if f m then 1 else 0) n
theorem ev_aimingAt {q : Nat} (hI : CI a h) (hw : WF a) (hq : q < aP a) (k : post (some (.int (nI (cnt (fun m => decide (aV a m = q + 1)) (aN a))))) h) : Ev 0 mX3_aimingAt [.ref 2, .int (nI q)] h post := by
  have h5 := hw.1
  have h4 := hw.2.1
  refine Ev.intro rfl (Nat.le_of_ble_eq_true rfl) (sX3_aimingAt_0 ?_)
  refine loopU (S := fun i => G 0 mX3_aimingAt post 4 [some (.ref 2), some (.int (nI q)), some (.int (nI (cnt (fun m => decide (aV a m = q + 1)) i))), some (.int (nI i))] [] h) (aN a) (fun i hi ih => ?_) ?_ 0 (Nat.zero_le _)
  · have hv := (hw.2.2.2.1 i).2.2.1
    refine sX3_aimingAt_4 (fun hc => ?_) (fun _ => ?_)
    · rw [hI.n, nI_leI (by omega) (by omega)] at hc; omega
    refine sX3_aimingAt_12 (vp_in_nI (by omega) (by omega)) (fun hc => ?_) (fun hc => ?_)
    · rw [nI_clamp (by omega), hI.aim hi, aim_eq (by omega) (by omega)] at hc
      refine sX3_aimingAt_25 ?_
      rw [nI_1]
      rw [cnt, sm, if_neg (by simpa using hc), Nat.add_zero] at ih
      exact ih
    · rw [nI_clamp (by omega), hI.aim hi, aim_eq (by omega) (by omega)] at hc
      refine sX3_aimingAt_22 (sX3_aimingAt_25 ?_)
      rw [nI_1, nI_1]
      rw [cnt, sm, if_pos (by simpa using hc)] at ih
      exact ih
  · exact sX3_aimingAt_4 (fun hc => sX3_aimingAt_31 k) (fun hc => absurd (by rw [hI.n]; exact nI_le (Nat.le_refl _) (by omega)) hc)
theorem mx_nI {x y : Nat} (hx : x < 2 ^ 31) (hy : y < 2 ^ 31) : (if nI x < nI y then nI y else nI x) = nI (max x y) := by
  by_cases hc : x < y
  · rw [if_pos ((nI_ltI hx hy).mpr hc), Nat.max_eq_right (by omega)]
  · rw [if_neg (fun q => hc ((nI_ltI hx hy).mp q)), Nat.max_eq_left (by omega)]
theorem mn_nI {x y : Nat} (hx : x < 2 ^ 31) (hy : y < 2 ^ 31) : (if nI y < nI x then nI y else nI x) = nI (min x y) := by
  by_cases hc : y < x
  · rw [if_pos ((nI_ltI hy hx).mpr hc), Nat.min_eq_right (by omega)]
  · rw [if_neg (fun q => hc ((nI_ltI hy hx).mp q)), Nat.min_eq_left (by omega)]
def mxL (a : St) (m : Nat) : Nat → Nat
  | 0 => 0
  | k + 1 => max (mxL a m k) (sm (gv a m (k + 1)) 4)
theorem gvs_le {a : St} (hw : WF a) (m v : Nat) : sm (gv a m v) 4 ≤ 36 := sm_le (b := 9) 4 (fun q _ => gv_le hw m v q)
theorem mxL_le {a : St} (hw : WF a) (m : Nat) : ∀ k, mxL a m k ≤ 36
  | 0 => by simp [mxL]
  | k + 1 => by
    have := mxL_le hw m k
    have := gvs_le hw m (k + 1)
    rw [mxL]
    omega
theorem ev_mostLight {m : Nat} (hI : CI a h) (hw : WF a) (hm : m < aN a) (k : post (some (.int (nI (mxL a m (aP a))))) h) : Ev 2 mX3_mostLight [.ref 2, .int (nI m)] h post := by
  have h5 := hw.1
  have h4 := hw.2.1
  refine Ev.intro rfl (Nat.le_of_ble_eq_true rfl) (sX3_mostLight_0 ?_)
  refine loopU (S := fun i => G 2 mX3_mostLight post 4 [some (.ref 2), some (.int (nI m)), some (.int (nI (mxL a m i))), some (.int (nI i))] [] h) (aP a) (fun i hi ih => ?_) ?_ 0 (Nat.zero_le _)
  · refine sX3_mostLight_4 (fun hc => ?_) (fun _ => ?_)
    · rw [hI.p, nI_leI (by omega) (by omega)] at hc; omega
    refine sX3_mostLight_12 ?_
    have e : nI i = nI (i + 1) - 1 := (nI_pred i).symm
    have hl : Ev 1 mX3_light [.ref 2, .int (nI m), .int (nI i)] h (fun r h' => G 2 mX3_mostLight post 19 [some (.ref 2), some (.int (nI m)), none, some (.int (nI i))] (r.toList ++ [.int (nI (mxL a m i))]) h') := by
      rw [show Value.int (nI i) = Value.int (nI (i + 1) - 1) by rw [← e]]
      refine ev_light hI hw hm (by omega) ?_
      rw [← e]
      refine sX3_mostLight_19 (ev_sum (fun q _ => by have := gv_le hw m (i + 1) q; omega) (sX3_mostLight_22 ?_))
      rw [nI_1, mx_nI (by have := mxL_le hw m i; omega) (by have := gvs_le hw m (i + 1); omega)]
      exact ih
    exact hl
  · exact sX3_mostLight_4 (fun hc => sX3_mostLight_32 k) (fun hc => absurd (by rw [hI.p]; exact nI_le (Nat.le_refl _) (by omega)) hc)
def gvn (a : St) (m : Nat) : Nat := if (aH a).testBit m then 0 else if (aK a).testBit m then sm (gv a m (aV a m)) 4 else mxL a m (aP a)
def bnd (a : St) : Nat := min (sm (gvn a) (aN a)) (sm (aC a) (aP a))
theorem gvn_le {a : St} (hw : WF a) (m : Nat) : gvn a m ≤ 36 := by
  unfold gvn
  split
  · omega
  · split
    · exact gvs_le hw _ _
    · exact mxL_le hw _ _
theorem ev_bound (hI : CI a h) (hw : WF a) (k : post (some (.int (nI (bnd a)))) h) : Ev 3 mX3_bound [.ref 2] h post := by
  have h5 := hw.1
  have h4 := hw.2.1
  have g1 : sm (gvn a) (aN a) ≤ 36 * aN a := sm_le _ (fun m _ => gvn_le hw m)
  have g2 : sm (aC a) (aP a) ≤ 60 * aP a := sm_le _ (fun q _ => hw.2.2.2.2.1 q)
  refine Ev.intro rfl (Nat.le_of_ble_eq_true rfl) (sX3_bound_0 ?_)
  refine loopU (S := fun i => G 3 mX3_bound post 4 [some (.ref 2), some (.int (nI (sm (gvn a) i))), some (.int (nI i)), none] [] h) (aN a) (fun i hi ih => ?_) ?_ 0 (Nat.zero_le _)
  · refine sX3_bound_4 (fun hc => ?_) (fun _ => ?_)
    · rw [hI.n, nI_leI (by omega) (by omega)] at hc; omega
    refine sX3_bound_12 (ev_isShaded hI hw (by omega) (sX3_bound_17 (fun hc => ?_) (fun hc => ?_)))
    · rw [b2i_n] at hc
      refine sX3_bound_53 ?_
      rw [nI_1]
      rw [sm, gvn, if_pos hc, Nat.add_zero] at ih
      exact ih
    · rw [b2i_0] at hc
      refine sX3_bound_20 (ev_isStuck hI hw (by omega) (sX3_bound_26 (fun hc2 => ?_) (fun hc2 => ?_)))
      · rw [b2i_0] at hc2
        refine sX3_bound_46 (ev_mostLight hI hw hi (sX3_bound_51 (sX3_bound_53 ?_)))
        rw [nI_1, nI_add]
        rw [sm, gvn, if_neg (by rw [hc]; decide), if_neg (by rw [hc2]; decide)] at ih
        exact ih
      · rw [b2i_n] at hc2
        refine sX3_bound_29 (vp_in_nI (by omega) (by omega)) ?_
        rw [nI_clamp (by omega), hI.aim hi]
        refine ev_light hI hw hi (hw.2.2.2.1 i).2.2.1 (sX3_bound_40 (ev_sum (fun q _ => by have := gv_le hw i (aV a i) q; omega) (sX3_bound_43 (sX3_bound_53 ?_))))
        rw [nI_1, nI_add]
        rw [sm, gvn, if_neg (by rw [hc]; decide), if_pos hc2] at ih
        exact ih
  · refine sX3_bound_4 (fun hc => sX3_bound_59 ?_) (fun hc => absurd (by rw [hI.n]; exact nI_le (Nat.le_refl _) (by omega)) hc)
    refine loopU (S := fun i => G 3 mX3_bound post 63 [some (.ref 2), some (.int (nI (sm (gvn a) (aN a)))), some (.int (nI (sm (aC a) i))), some (.int (nI i))] [] h) (aP a) (fun i hi ih => ?_) ?_ 0 (Nat.zero_le _)
    · refine sX3_bound_63 (fun hc => ?_) (fun _ => ?_)
      · rw [hI.p, nI_leI (by omega) (by omega)] at hc; omega
      refine sX3_bound_71 (vp_in_nI (by omega) (by omega)) ?_
      rw [nI_clamp (by omega), hI.ce hi, nI_1, nI_add]
      exact ih
    · refine sX3_bound_63 (fun hc => sX3_bound_86 ?_) (fun hc => absurd (by rw [hI.p]; exact nI_le (Nat.le_refl _) (by omega)) hc)
      rw [mn_nI (by omega) (by omega)]
      exact k
theorem stp5_eq : ∀ i, i < 5 → stp5 i = nI (5 ^ i) := by decide +kernel
/-- a place: figures of five, mirror 0 the last -/
def plc (f : Nat → Nat) (n : Nat) : Nat := sm (fun m => f m * 5 ^ m) n
theorem ev_placeNow (hI : CI a h) (hw : WF a) (k : post (some (.int (nI (plc (aV a) (aN a))))) h) : Ev 0 mX3_placeNow [.ref 2] h post := by
  have h5 := hw.1
  refine Ev.intro rfl (Nat.le_of_ble_eq_true rfl) (sX3_placeNow_0 ?_)
  refine loopU (S := fun i => G 0 mX3_placeNow post 4 [some (.ref 2), some (.int (nI (plc (aV a) i))), some (.int (nI i))] [] h) (aN a) (fun i hi ih => ?_) ?_ 0 (Nat.zero_le _)
  · refine sX3_placeNow_4 (fun hc => ?_) (fun _ => ?_)
    · rw [hI.n, nI_leI (by omega) (by omega)] at hc; omega
    refine sX3_placeNow_12 (vp_in_nI (by omega) (by omega)) (vp_in_nI (by omega) (by omega)) ?_
    rw [nI_clamp (by omega), hI.aim hi, Int32.sub_add_cancel, stp5_eq i (by omega), pk_mul, nI_add, nI_1]
    exact ih
  · exact sX3_placeNow_4 (fun hc => sX3_placeNow_35 k) (fun hc => absurd (by rw [hI.n]; exact nI_le (Nat.le_refl _) (by omega)) hc)
end PLA
