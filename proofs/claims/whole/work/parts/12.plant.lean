/-! the plant's reading methods -/
section PLA
variable {post : Option Value → PH → Prop} {h : PH} {a : St}
theorem ev_bit {x m : Nat} (hx : x < 2 ^ 31) (hm : m < 31) (k : post (some (.int (b2i (x.testBit m)))) h) : Ev 0 mX4_bit [.int (nI x), .int (nI m)] h post := by
  refine Ev.intro rfl (Nat.le_of_ble_eq_true rfl) (sX4_bit_0 ?_)
  rw [bit_read hx hm]
  exact k
theorem ev_heatOf {f : Nat → Nat} {q : Nat} (hf : ∀ q, q < 4 → f q < 256) (hq : q < 4) (k : post (some (.int (nI (f q)))) h) : Ev 0 mX4_heatOf [.int (nI (pkd f)), .int (nI q)] h post := by
  refine Ev.intro rfl (Nat.le_of_ble_eq_true rfl) (sX4_heatOf_0 ?_)
  rw [lane_read hf hq]
  exact k
theorem ev_sum {f : Nat → Nat} (hf : ∀ q, q < 4 → f q < 256) (k : post (some (.int (nI (sm f 4)))) h) : Ev 1 mX4_sum [.int (nI (pkd f))] h post := by
  refine Ev.intro rfl (Nat.le_of_ble_eq_true rfl) (sX4_sum_0 ?_)
  refine ev_heatOf (q := 0) hf (by omega) (sX4_sum_5 ?_)
  refine ev_heatOf (q := 1) hf (by omega) (sX4_sum_10 ?_)
  refine ev_heatOf (q := 2) hf (by omega) (sX4_sum_16 ?_)
  refine ev_heatOf (q := 3) hf (by omega) (sX4_sum_22 ?_)
  have e : nI (f 0) + nI (f 1) + nI (f 2) + nI (f 3) = nI (sm f 4) := by
    rw [nI_add, nI_add, nI_add]
    exact congrArg nI (by simp [sm])
  rw [e]
  exact k
theorem ev_isRead (hI : CI a h) (hw : WF a) (k : post (some (.int (b2i (decide (0 < aN a))))) h) : Ev 0 mX3_isRead [.ref 2] h post := by
  refine Ev.intro rfl (Nat.le_of_ble_eq_true rfl) (sX3_isRead_0 (fun hc => ?_) (fun hc => ?_))
  · rw [hI.n] at hc
    have : aN a = 0 := by
      have := (nI_leI (a := aN a) (b := 0) (by have := hw.1; omega) (by omega)).mp hc
      omega
    refine sX3_isRead_11 ?_
    rw [this] at k
    exact k
  · rw [hI.n] at hc
    have : 0 < aN a := by
      apply Nat.pos_of_ne_zero
      intro e
      rw [e] at hc
      exact hc (by decide)
    refine sX3_isRead_7 ?_
    rw [decide_eq_true this] at k
    exact k
end PLA
