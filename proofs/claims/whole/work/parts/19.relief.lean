/-! relief -/
theorem fa_or' (a b : Nat) : nI a ||| nI b = nI (a ||| b) := by
  apply Int32.toBitVec_inj.1
  show BitVec.ofNat 32 a ||| BitVec.ofNat 32 b = BitVec.ofNat 32 (a ||| b)
  apply BitVec.eq_of_getLsbD_eq
  intro i hi
  simp [hi]
theorem fa_and' (a b : Nat) : nI a &&& nI b = nI (a &&& b) := by
  apply Int32.toBitVec_inj.1
  show BitVec.ofNat 32 a &&& BitVec.ofNat 32 b = BitVec.ofNat 32 (a &&& b)
  apply BitVec.eq_of_getLsbD_eq
  intro i hi
  simp [hi]
theorem pcn_le : ∀ o, o < 32 → pcn o ≤ 5 := by decide +kernel
theorem RL_le {a : St} (hw : WF a) : ∀ k, k ≤ 32 → (RLf a k).1 ≤ 32 ∧ (RLf a k).2.1 ≤ 6 ∧ (RLf a k).2.2 ≤ 180
  | 0, _ => by simp [RLf]
  | k + 1, h => by
    have ih := RL_le hw k (by omega)
    rw [RLf]
    split
    · have := CT_le hw (aV a) (aH a ||| k)
      have := pcn_le k (by omega)
      show k + 1 ≤ 32 ∧ pcn k ≤ 6 ∧ CT a (aV a) (aH a ||| k) ≤ 180
      omega
    · exact ih
section REL
variable {post : Option Value → PH → Prop} {h : PH} {a : St} {s : Ab}
theorem ev_bestRelief (hI : CI a h) (hw : WF a) (k : post (some (.int (rlV (RLf a (2 ^ aN a))))) h) : Ev 3 mX3_bestRelief [.ref 2] h post := by
  have h5 := hw.1
  have h32 := two5 h5
  have hl : ∀ f D, ∀ q, q < 4 → HT a f D q < 256 := fun f D q _ => by have := HT_le hw f D q; omega
  refine Ev.intro rfl (Nat.le_of_ble_eq_true rfl) (sX3_bestRelief_0 ?_)
  have hS : ∀ i, i ≤ 2 ^ aN a → G 3 mX3_bestRelief post 12 [some (.ref 2), some (.int (rlV (RLf a i))), some (.int (nI (RLf a i).2.1)), some (.int (nI (RLf a i).2.2)), some (.int (nI i)), none, none] [] h := by
    refine loopU (2 ^ aN a) (fun i hi ih => ?_) ?_
    · have hR := RL_le hw i (by omega)
      have hpc := pcn_le i (by omega)
      have hD : aH a ||| i < 32 := Nat.or_lt_two_pow (n := 5) hw.sh (by omega)
      have hct := CT_le hw (aV a) (aH a ||| i)
      refine sX3_bestRelief_12 (fun hc => ?_) (fun _ => sX3_bestRelief_23 ?_)
      · rw [hI.n, sh2 _ (by omega), nI_leI (by omega) (by omega)] at hc; omega
      rw [hI.sh, fa_or']
      have skip : ¬ (i &&& aK a = 0 ∧ SF a (aV a) (aH a ||| i) = true ∧ (pcn i < (RLf a i).2.1 ∨ pcn i = (RLf a i).2.1 ∧ (RLf a i).2.2 < CT a (aV a) (aH a ||| i))) → G 3 mX3_bestRelief post 98 [some (.ref 2), some (.int (rlV (RLf a i))), some (.int (nI (RLf a i).2.1)), some (.int (nI (RLf a i).2.2)), some (.int (nI i)), none, none] [] h := fun q => by
        refine sX3_bestRelief_98 ?_
        rw [nI_1]
        rw [RLf, if_neg q] at ih
        exact ih
      have andk : nI i &&& h.1 2 4 = 0 ↔ i &&& aK a = 0 := by
        rw [hI.sk, fa_and', show (0 : Int32) = nI 0 from rfl, nI_eq (Nat.lt_of_le_of_lt Nat.and_le_left (by omega)) (by omega)]
      refine ev_heatsWithout hI hw hD (sX3_bestRelief_34 (fun hc => skip (fun q => hc (andk.mpr q.1))) (fun hc => ?_))
      rw [andk] at hc
      refine sX3_bestRelief_46 (ev_isSafe hI hw (fun q _ => HT_le hw _ _ q) (fun q hq => HT_out hq) (sX3_bestRelief_52 (fun hc2 => ?_) (fun hc2 => sX3_bestRelief_55 (skip (fun q => ?_)))))
      · rw [b2i_n] at hc2
        have hc2 : SF a (aV a) (aH a ||| i) = true := hc2
        have take : (pcn i < (RLf a i).2.1 ∨ pcn i = (RLf a i).2.1 ∧ (RLf a i).2.2 < CT a (aV a) (aH a ||| i)) → G 3 mX3_bestRelief post 86 [some (.ref 2), none, none, none, some (.int (nI i)), some (.int (nI (pkd (HT a (aV a) (aH a ||| i))))), some (.int (nI (pcn i)))] [] h := fun q => by
          refine sX3_bestRelief_86 (ev_sum (hl _ _) (sX3_bestRelief_97 (sX3_bestRelief_98 ?_)))
          rw [nI_1]
          rw [RLf, if_pos ⟨hc, hc2, q⟩] at ih
          have e : rlV (i + 1, pcn i, CT a (aV a) (aH a ||| i)) = nI i := by
            unfold rlV
            rw [if_neg (by show ¬ i + 1 = 0; omega)]
            rfl
          rw [e] at ih
          exact ih
        refine sX3_bestRelief_58 (ev_bitCount (by omega) (sX3_bestRelief_63 (fun hc3 => ?_) (fun hc3 => ?_)))
        · rw [nI_ltI (by omega) (by omega)] at hc3
          exact take (Or.inl hc3)
        · rw [nI_ltI (by omega) (by omega)] at hc3
          refine sX3_bestRelief_71 (fun hc4 => ?_) (fun hc4 => ?_)
          · rw [nI_eq (by omega) (by omega)] at hc4
            exact skip (fun q => by rcases q.2.2 with z | z <;> omega)
          · rw [nI_eq (by omega) (by omega)] at hc4
            refine sX3_bestRelief_77 (ev_sum (hl _ _) (sX3_bestRelief_82 (fun hc5 => ?_) (fun hc5 => ?_)))
            · have hc5 : nI (CT a (aV a) (aH a ||| i)) ≤ nI (RLf a i).2.2 := hc5
              rw [nI_leI (by omega) (by omega)] at hc5
              exact skip (fun q => by rcases q.2.2 with z | z <;> omega)
            · have hc5 : ¬ nI (CT a (aV a) (aH a ||| i)) ≤ nI (RLf a i).2.2 := hc5
              rw [nI_leI (by omega) (by omega)] at hc5
              exact take (Or.inr ⟨hc4, by omega⟩)
      · rw [b2i_0] at hc2
        have hc2 : SF a (aV a) (aH a ||| i) = false := hc2
        rw [hc2] at q
        cases q.2.1
    · exact sX3_bestRelief_12 (fun _ => sX3_bestRelief_104 k) (fun hc => absurd (by rw [hI.n, sh2 _ (by omega)]; exact nI_le (Nat.le_refl _) (by omega)) hc)
  exact hS 0 (Nat.zero_le _)
theorem cx_relief (X : XI s h) (k : post (some (.int (reliefS s))) h) : Ev 4 mX4_relief [.ref 0] h post := by
  refine Ev.intro rfl (Nat.le_of_ble_eq_true rfl) (sX4_relief_0 (ev_isRead X.2.1 X.1 (sX4_relief_7 (fun q => sX4_relief_20 ?_) (fun q => sX4_relief_10 ?_))))
  · rw [b2i_0, decide_eq_false_iff_not] at q
    unfold reliefS at k
    rw [if_pos (by omega)] at k
    exact k
  · rw [b2i_n, decide_eq_true_iff] at q
    unfold reliefS at k
    rw [if_neg (by omega)] at k
    exact ev_bestRelief X.2.1 X.1 (sX4_relief_17 k)
end REL
