/-! the class's calls: texts, what is told -/
theorem CI.same {a : St} {h h' : PH} (c : CI a h) (e : ∀ k, (k = 2 ∨ k = 7 ∨ k = 8 ∨ k = 9 ∨ k = 10 ∨ k = 11) → h'.1 k = h.1 k) : CI a h' := by
  have e2 := e 2 (by omega); have e7 := e 7 (by omega); have e8 := e 8 (by omega); have e9 := e 9 (by omega); have e10 := e 10 (by omega); have e11 := e 11 (by omega)
  unfold CI at c ⊢
  rw [e2, e7, e8, e9, e10, e11]
  exact c
theorem PG.same {n : Nat} {c : Nat → Int32} {h h' : PH} (g : PG n c h) (e : ∀ k, (k = 1 ∨ k = 6) → h'.1 k = h.1 k) : PG n c h' := by
  have e1 := e 1 (by omega); have e6 := e 6 (by omega)
  unfold PG at g ⊢
  rw [e1, e6]
  exact g
theorem PI1.same {a : St} {st : Bool} {h h' : PH} (c : PI1 a st h) (e : ∀ k, (k = 4 ∨ k = 5 ∨ k = 13 ∨ k = 14) → h'.1 k = h.1 k) : PI1 a st h' := by
  have e1 : h'.1 (pcell st) = h.1 (pcell st) := e _ (by unfold pcell; cases st <;> simp)
  have e2 : h'.1 (pmov st) = h.1 (pmov st) := e _ (by unfold pmov; cases st <;> simp)
  unfold PI1 at c ⊢
  rw [e1, e2]
  exact c
theorem FrX.rf (h : PH) : FrX h h := ⟨fun _ _ => rfl, rfl⟩
def FG (h h' : PH) : Prop := (∀ c, c ≠ 4 → c ≠ 5 → h'.1 c = h.1 c) ∧ h'.2 = h.2 ∧ h'.1 4 2 = 0 ∧ h'.1 4 3 = 0 ∧ h'.1 5 2 = 0 ∧ h'.1 5 3 = 0 ∧ h'.1 4 0 = h.1 4 0 ∧ h'.1 5 0 = h.1 5 0
theorem XI.of {s : Ab} {h1 h' : PH} (hw : WF s.1) (c : CI s.1 h1) (g : PG s.2.1 s.2.2.1 h1) (f : h1.1 0 3 = s.2.2.2.1) (f2 : h1.1 0 4 = s.2.2.2.2) (p4 : h1.1 4 0 = 0) (p5 : h1.1 5 0 = 1) (F : FG h1 h') : XI s h' := by
  obtain ⟨e, -, q1, q2, q3, q4, q5, q6⟩ := F
  refine ⟨hw, c.same (fun k hk => e k (by omega) (by omega)), g.same (fun k hk => e k (by omega) (by omega)), by rw [e 0 (by decide) (by decide)]; exact f, by rw [e 0 (by decide) (by decide)]; exact f2, ⟨?_, Or.inl q1, Or.inl q2⟩, ⟨?_, Or.inl q3, Or.inl q4⟩⟩
  · show h'.1 4 0 = 0
    rw [q5]; exact p4
  · show h'.1 5 0 = 1
    rw [q6]; exact p5
theorem FrX.of {h h1 h' : PH} (f : FrX h h1) (F : FG h1 h') : FrX h h' := ⟨fun c hc => (F.1 c (by omega) (by omega)).trans (f.1 c hc), F.2.1.trans f.2⟩
theorem FrX.trans {h h1 h' : PH} (f : FrX h h1) (g : FrX h1 h') : FrX h h' := ⟨fun c hc => (g.1 c hc).trans (f.1 c hc), g.2.trans f.2⟩
theorem frx1 {h : PH} {c i : Nat} {x : Int32} (hc : c < 15) : FrX h (upd2 h.1 c i x, h.2) := ⟨fun k hk => upd2_ne (by omega), rfl⟩
section PB1
variable {post : Option Value → PH → Prop} {h : PH} {s : Ab}
theorem ev_forget (k : ∀ h', FG h h' → post none h') : Ev 0 mX2_forget [.ref 3] h post := by
  refine Ev.intro rfl (Nat.le_of_ble_eq_true rfl) (sX2_forget_0 (k _ ?_))
  refine ⟨fun c h4 h5 => ?_, rfl, rfl, rfl, rfl, rfl, rfl, rfl⟩
  show upd2 (upd2 (upd2 (upd2 h.1 4 2 0) 4 3 0) 5 2 0) 5 3 0 c = h.1 c
  rw [upd2_ne h5, upd2_ne h5, upd2_ne h4, upd2_ne h4]
theorem cx_letter {x : Int32} (X : XI s h) (k : ∀ h', XI (letterS s x).2 h' → FrX h h' → post (some (.int (letterS s x).1)) h') : Ev 1 mX4_letter [.ref 0, .int x] h post := by
  obtain ⟨hw, hc, hg, hf, hf2, hp, hp2⟩ := id X
  have hn := hg.1
  have out : (x < 32 ∨ ¬ x ≤ 126) → post (some (.int (-1003))) h := fun q => by
    have e : letterS s x = (-1003, s) := if_pos q
    have := k h (by rw [e]; exact X) (FrX.rf h)
    rw [e] at this
    exact this
  refine Ev.intro rfl (Nat.le_of_ble_eq_true rfl) (sX4_letter_0 (fun q => sX4_letter_12 (out (Or.inl q))) (fun q1 => sX4_letter_6 (fun q2 => sX4_letter_16 (fun q3 => ?_) (fun q3 => sX4_letter_28 ?_)) (fun q => sX4_letter_12 (out (Or.inr q)))))
  · rw [hg.2.1, show (21 : Int32) = nI 21 from rfl, nI_ltI (by omega) (by omega)] at q3
    have e : letterS s x = (nI (s.2.1 + 1), (s.1, s.2.1 + 1, upd s.2.2.1 s.2.1 x, s.2.2.2)) := by
      unfold letterS
      rw [if_neg (fun q => q.elim q1 (fun z => z q2)), if_neg (by omega)]
    refine sX4_letter_32 (Ev.intro rfl (Nat.le_of_ble_eq_true rfl) (sX0_append_0 (fun q => ?_) (fun _ => sX0_append_12 ?_ ?_)))
    · rw [hg.2.1, show (21 : Int32) = nI 21 from rfl, nI_leI (by omega) (by omega)] at q; omega
    · rw [hg.2.1]; exact vp_in_nI q3 (by omega)
    · rw [hg.2.1, nI_clamp (by omega), nI_1]
      refine sX4_letter_40 ?_
      have := k (upd2 (upd2 h.1 6 s.2.1 x) 1 1 (nI (s.2.1 + 1)), h.2) ?_ ⟨fun c hc => by show upd2 (upd2 h.1 6 s.2.1 x) 1 1 (nI (s.2.1 + 1)) c = h.1 c; rw [upd2_ne (by omega), upd2_ne (by omega)], rfl⟩
      · rw [e] at this
        exact this
      · rw [e]
        refine ⟨hw, hc.same (fun c hc => ?_), ⟨?_, ?_, fun j hj => ?_⟩, ?_, ?_, hp.same (fun c hc => ?_), hp2.same (fun c hc => ?_)⟩
        · show upd2 (upd2 h.1 6 s.2.1 x) 1 1 (nI (s.2.1 + 1)) c = h.1 c
          rw [upd2_ne (by omega), upd2_ne (by omega)]
        · show s.2.1 + 1 ≤ 21; omega
        · rfl
        · show upd2 (upd2 h.1 6 s.2.1 x) 1 1 (nI (s.2.1 + 1)) 6 j = upd s.2.2.1 s.2.1 x j
          have hj : j < s.2.1 + 1 := hj
          rw [upd2_ne (by decide), upd2_self]
          unfold upd
          split
          · rfl
          · exact hg.2.2 j (by omega)
        · exact hf
        · exact hf2
        · show upd2 (upd2 h.1 6 s.2.1 x) 1 1 (nI (s.2.1 + 1)) c = h.1 c
          rw [upd2_ne (by omega), upd2_ne (by omega)]
        · show upd2 (upd2 h.1 6 s.2.1 x) 1 1 (nI (s.2.1 + 1)) c = h.1 c
          rw [upd2_ne (by omega), upd2_ne (by omega)]
  · rw [hg.2.1, show (21 : Int32) = nI 21 from rfl, nI_ltI (by omega) (by omega)] at q3
    have e : letterS s x = (-1005, s) := by
      unfold letterS
      rw [if_neg (fun q => q.elim q1 (fun z => z q2)), if_pos (by omega)]
    have := k h (by rw [e]; exact X) (FrX.rf h)
    rw [e] at this
    exact this
theorem cx_blank (X : XI s h) (k : ∀ h', XI (blankS s).2 h' → FrX h h' → post (some (.int (blankS s).1)) h') : Ev 0 mX4_blank [.ref 0] h post := by
  obtain ⟨hw, hc, hg, hf, hf2, hp, hp2⟩ := id X
  refine Ev.intro rfl (Nat.le_of_ble_eq_true rfl) (sX4_blank_0 ?_)
  rw [hg.2.1]
  refine k _ ⟨hw, hc.same (fun c hc => upd2_ne (by omega)), ⟨Nat.zero_le _, rfl, fun j hj => by exact absurd hj (Nat.not_lt_zero j)⟩, hf, hf2, hp.same (fun c hc => upd2_ne (by omega)), hp2.same (fun c hc => upd2_ne (by omega))⟩ (frx1 (by decide))
theorem cx_fault (X : XI s h) (k : post (some (.int (faultS s).1)) h) : Ev 3 mX4_fault [.ref 0] h post :=
  Ev.intro rfl (Nat.le_of_ble_eq_true rfl) (sX4_fault_0 (ev_firstFault X.2.2.1 (sX4_fault_7 k)))
/-! a page that is a field -/
theorem fd_ok {c : Int32} (h0 : ¬ c < 48) (h1 : ¬ 57 < c) : c - 48 = nI (fd c) ∧ fd c ≤ 9 ∧ c.toInt = (fd c : Int) + 48 := by
  rw [Int32.lt_iff_toInt_lt] at h0 h1
  have e48 : (48 : Int32).toInt = 48 := by decide
  have e57 : (57 : Int32).toInt = 57 := by decide
  rw [e48] at h0
  rw [e57] at h1
  have hc : c = nI c.toInt.toNat := by
    apply Int32.toInt_inj.mp
    rw [nI_toInt (by omega)]
    omega
  have h2 : c - 48 = nI (c.toInt.toNat - 48) := by
    rw [show (48 : Int32) = nI 48 from rfl, ← pk_sub (by omega), ← hc]
  have h3 : fd c = c.toInt.toNat - 48 := by
    unfold fd
    rw [h2, nI_clamp (by omega)]
  rw [h3]
  exact ⟨h2, by omega, by omega⟩
theorem isF_all {n : Nat} {c : Nat → Int32} (h : isF n c = true) : 1 < n ∧ n % 4 = 1 ∧ ∀ k, k < n → rt (c k) k = true := by
  have h := of_decide_eq_true h
  refine ⟨h.1, h.2.1, ?_⟩
  have key : ∀ (P : Nat → Bool) n, ld P n = n → ∀ k, k < n → P k = true := by
    intro P n
    induction n with
    | zero => intro _ k hk; omega
    | succ n ih =>
      intro e k hk
      rw [ld] at e
      split at e
      · rename_i q
        by_cases hkn : k = n
        · rw [hkn]; exact q.2
        · exact ih q.1 k (by omega)
      · have := ld_le (P := P) n
        omega
  exact key _ n h.2.2
theorem fig_mid {n : Nat} {c : Nat → Int32} (h : isF n c = true) {m : Nat} (hm : m < n / 4) : (c (4 * m + 2) - 48 = nI (fd (c (4 * m + 2))) ∧ fd (c (4 * m + 2)) ≤ 9) ∧ c (4 * m + 4) - 48 = nI (fd (c (4 * m + 4))) ∧ fd (c (4 * m + 4)) ≤ 9 := by
  obtain ⟨h1, h2, h3⟩ := isF_all h
  have r1 := h3 (4 * m + 2) (by omega)
  have r2 := h3 (4 * m + 4) (by omega)
  unfold rt at r1 r2
  rw [if_neg (by omega), if_neg (by omega), if_pos (by omega)] at r1
  rw [if_neg (by omega), if_neg (by omega), if_neg (by omega), if_neg (by omega)] at r2
  have r1 := of_decide_eq_true r1
  have r2 := of_decide_eq_true r2
  have a1 := fd_ok (c := c (4 * m + 2)) (fun q => r1.1 (by
    rw [Int32.lt_iff_toInt_lt] at q ⊢
    have e48 : (48 : Int32).toInt = 48 := by decide
    have e49 : (49 : Int32).toInt = 49 := by decide
    omega)) r1.2
  have a2 := fd_ok (c := c (4 * m + 4)) r2.1 r2.2
  exact ⟨⟨a1.1, a1.2.1⟩, a2.1, a2.2.1⟩
theorem fig_p {n : Nat} {c : Nat → Int32} (h : isF n c = true) : c 0 - 48 = nI (fd (c 0)) ∧ 1 ≤ fd (c 0) ∧ fd (c 0) ≤ 4 := by
  obtain ⟨h1, h2, h3⟩ := isF_all h
  have r1 := h3 0 (by omega)
  unfold rt at r1
  rw [if_pos rfl] at r1
  have r1 := of_decide_eq_true r1
  have e48 : (48 : Int32).toInt = 48 := by decide
  have e49 : (49 : Int32).toInt = 49 := by decide
  have e52 : (52 : Int32).toInt = 52 := by decide
  have e57 : (57 : Int32).toInt = 57 := by decide
  have b1 := r1.1
  have b2 := r1.2
  rw [Int32.lt_iff_toInt_lt] at b1 b2
  have a1 := fd_ok (c := c 0) (fun q => by rw [Int32.lt_iff_toInt_lt] at q; omega) (fun q => by rw [Int32.lt_iff_toInt_lt] at q; omega)
  refine ⟨a1.1, ?_, ?_⟩ <;> omega
theorem stF_wf {n : Nat} {c : Nat → Int32} (hn : n ≤ 21) (h : isF n c = true) : WF (stF n c) := by
  have hp := fig_p h
  have h1 := isF_all h
  refine ⟨?_, hp.2.2, ?_, fun m => ⟨?_, ?_, Nat.zero_le _, fun _ => rfl⟩, fun q => ?_, ?_, ?_⟩
  · show n / 4 ≤ 5; omega
  · show 0 < n / 4 ↔ 0 < fd (c 0); omega
  · show (if m < n / 4 then fd (c (4 * m + 2)) else 0) ≤ 9
    split
    · rename_i hm; exact (fig_mid h hm).1.2
    · omega
  · show (if m < n / 4 then fd (c (4 * m + 4)) else 0) ≤ 9
    split
    · rename_i hm; exact (fig_mid h hm).2.2
    · omega
  · show 20 ≤ 60; omega
  · exact Nat.two_pow_pos _
  · exact Nat.two_pow_pos _
end PB1
