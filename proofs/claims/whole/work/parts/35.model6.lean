/-! the reference's calls: how far all are from the best -/
theorem i32_next (c u v d : Int32) : c + u * (v - d) = c - u * d + u * v := by grind
theorem dg_part {c m : Nat} : 5 ^ (4 - m) * dg c m ≤ c := by
  unfold dg
  have h1 : c / 5 ^ (4 - m) % 5 ≤ c / 5 ^ (4 - m) := Nat.mod_le _ _
  have h2 : 5 ^ (4 - m) * (c / 5 ^ (4 - m)) ≤ c := Nat.mul_div_le _ _
  exact Nat.le_trans (Nat.mul_le_mul_left _ h1) h2
theorem setd_eq (c m v : Nat) : setd c m v = c - 5 ^ (4 - m) * dg c m + 5 ^ (4 - m) * v := by
  unfold setd
  rw [Nat.mul_comm (dg c m), Nat.mul_comm v]
/-- the queue: its codes q, how far they are, D -/
def BQ (a : St) (st : Bool) (b many : Nat) (q D : Nat → Nat) (g : PH) : Prop :=
  (∀ i, i < many → q i < 3125 ∧ g.1 24 i = nI (q i) ∧ g.1 23 (q i) = nI (D i) ∧ okk a st (q i) = true ∧ rch a st b (D i) (q i) ∧ D i ≤ i) ∧
  (∀ i j, i < j → j < many → q i ≠ q j) ∧ (∀ i j, i ≤ j → j < many → D i ≤ D j) ∧ (∀ c, c < 3125 → g.1 23 c = -1001 ∨ ∃ i, i < many ∧ q i = c) ∧ 0 < many ∧ q 0 = b
def ND (a : St) (st : Bool) (many : Nat) (q D : Nat → Nat) (i : Nat) (P : Nat → Nat → Prop) : Prop := ∀ m v, m < aN a → v ≤ aP a → P m v → okk a st (setd (q i) m v) = true → ∃ j, j < many ∧ q j = setd (q i) m v ∧ D j ≤ D i + 1
theorem BQ.many_le {a : St} {st : Bool} {b many : Nat} {q D : Nat → Nat} {g : PH} (B : BQ a st b many q D g) : many ≤ 3125 := holes 3125 many q (fun i hi => (B.1 i hi).1) B.2.1
def upn (f : Nat → Nat) (i x : Nat) : Nat → Nat := fun j => if j = i then x else f j
theorem upn_s (f : Nat → Nat) (i x : Nat) : upn f i x i = x := if_pos rfl
theorem upn_n {f : Nat → Nat} {i x j : Nat} (h : j ≠ i) : upn f i x j = f j := if_neg h
theorem BQ.push {a : St} {st : Bool} {b many d m v : Nat} {q D : Nat → Nat} {g : PH} (hw : WF a) (B : BQ a st b many q D g) (hd : d < many) (hm : m < aN a) (hv : v ≤ aP a) (hok : okk a st (setd (q d) m v) = true) (hno : g.1 23 (setd (q d) m v) = -1001) (hD : ∀ j, j < many → D j ≤ D d + 1) :
    many < 3125 ∧ BQ a st b (many + 1) (upn q many (setd (q d) m v)) (upn D many (D d + 1)) (upd2 (upd2 g.1 23 (setd (q d) m v) (nI (D d + 1))) 24 many (nI (setd (q d) m v)), g.2) := by
  obtain ⟨b1, b2, b3, b4, b5, b6⟩ := id B
  have h5 := hw.1
  have h4 := hw.2.1
  have hqd := (b1 d hd).1
  have hnx : setd (q d) m v < 3125 := setd_lt hqd (by omega)
  have hml := B.many_le
  have hnew : ∀ i, i < many → q i ≠ setd (q d) m v := fun i hi e => by
    have h1 := (b1 i hi).2.2.1
    rw [e, hno] at h1
    exact nI_n1001 (by have := (b1 i hi).2.2.2.2.2; omega) h1.symm
  have dist : ∀ i j, i < j → j < many + 1 → upn q many (setd (q d) m v) i ≠ upn q many (setd (q d) m v) j := fun i j hij hj => by
    rw [upn_n (show i ≠ many by omega)]
    by_cases e : j = many
    · rw [e, upn_s]; exact hnew i (by omega)
    · rw [upn_n e]; exact b2 i j hij (by omega)
  have hlt : many + 1 ≤ 3125 := holes 3125 (many + 1) (upn q many (setd (q d) m v)) (fun i hi => by
    by_cases e : i = many
    · rw [e, upn_s]; exact hnx
    · rw [upn_n e]; exact (b1 i (by omega)).1) dist
  refine ⟨by omega, fun i hi => ?_, dist, fun i j hij hj => ?_, fun c hc => ?_, by omega, ?_⟩
  · show upn q many (setd (q d) m v) i < 3125 ∧ upd2 (upd2 g.1 23 (setd (q d) m v) (nI (D d + 1))) 24 many (nI (setd (q d) m v)) 24 i = _ ∧ upd2 (upd2 g.1 23 (setd (q d) m v) (nI (D d + 1))) 24 many (nI (setd (q d) m v)) 23 (upn q many (setd (q d) m v) i) = _ ∧ _
    rw [upd2_self, upd2_ne (k := 23) (by decide), upd2_ne (k := 24) (by decide), upd2_self]
    by_cases e : i = many
    · subst e
      rw [upn_s, upn_s, pk_us, pk_us]
      refine ⟨hnx, rfl, rfl, hok, ⟨hok, m, dg (q d) m, hm, (okk_there (b1 d hd).2.2.2.1 m (by omega)).1 hm, ?_⟩, by have := (b1 d hd).2.2.2.2.2; omega⟩
      rw [setd_back hqd (by omega) (by omega)]
      exact (b1 d hd).2.2.2.2.1
    · rw [upn_n e, upn_n e, pk_un e, pk_un (hnew i (by omega))]
      exact b1 i (by omega)
  · by_cases e : j = many
    · rw [e, upn_s]
      by_cases e2 : i = many
      · rw [e2, upn_s]; exact Nat.le_refl _
      · rw [upn_n e2]; exact hD i (by omega)
    · rw [upn_n e, upn_n (show i ≠ many by omega)]; exact b3 i j hij (by omega)
  · show upd2 (upd2 g.1 23 (setd (q d) m v) (nI (D d + 1))) 24 many (nI (setd (q d) m v)) 23 c = _ ∨ _
    rw [upd2_ne (by decide), upd2_self]
    by_cases e : c = setd (q d) m v
    · exact Or.inr ⟨many, by omega, by rw [upn_s]; exact e.symm⟩
    · rw [pk_un e]
      rcases b4 c hc with z | ⟨i, hi, z⟩
      · exact Or.inl z
      · exact Or.inr ⟨i, by omega, by rw [upn_n (by omega)]; exact z⟩
  · rw [upn_n (by omega)]; exact b6
/-- all that is far is known -/
def FR (a : St) (st : Bool) (b : Nat) (g : PH) : Prop := ∀ c, c < 3125 → ∀ k, k < 2 ^ 31 → (g.1 23 c = nI k ↔ Dl a st b k c)
theorem BQ.all {a : St} {st : Bool} {b many : Nat} {q D : Nat → Nat} {g : PH} (hw : WF a) (B : BQ a st b many q D g) (hN : ∀ i, i < many → ND a st many q D i (fun _ _ => True)) : FR a st b g := by
  obtain ⟨b1, b2, b3, b4, b5, b6⟩ := id B
  have hml := B.many_le
  have h5 := hw.1
  have hb : okk a st b = true := by rw [← b6]; exact (b1 0 b5).2.2.2.1
  have full : ∀ k c, c < 3125 → rch a st b k c → ∃ i, i < many ∧ q i = c ∧ D i ≤ k := by
    intro k
    induction k with
    | zero =>
      intro c hc h
      have h : c = b := h
      exact ⟨0, b5, by rw [h]; exact b6, (b1 0 b5).2.2.2.2.2⟩
    | succ k ih =>
      intro c hc h
      obtain ⟨hok, m, v, hm, hv, hr⟩ := h
      have hv5 : v < 5 := by have := hw.2.1; omega
      obtain ⟨i, hi, e, hle⟩ := ih _ (setd_lt hc hv5) hr
      have eb : setd (q i) m (dg c m) = c := by rw [e]; exact setd_back hc (by omega) hv5
      obtain ⟨j, hj, e2, hle2⟩ := hN i hi m (dg c m) hm ((okk_there hok m (by omega)).1 hm) trivial (by rw [eb]; exact hok)
      exact ⟨j, hj, e2.trans eb, by omega⟩
  intro c hc k hk
  constructor
  · intro e
    rcases b4 c hc with z | ⟨i, hi, z⟩
    · rw [z] at e
      exact absurd e.symm (nI_n1001 hk)
    · obtain ⟨c1, c2, c3, c4, c5, c6⟩ := b1 i hi
      rw [z] at c3 c5
      rw [c3, nI_eq (by omega) hk] at e
      rw [e] at c5
      refine ⟨c5, fun j hj hr => ?_⟩
      obtain ⟨i2, hi2, e2, hle⟩ := full j c hc hr
      have : i2 = i := by
        rcases Nat.lt_trichotomy i2 i with t | t | t
        · exact absurd (e2.trans z.symm) (b2 i2 i t hi)
        · exact t
        · exact absurd (z.trans e2.symm) (b2 i i2 t hi2)
      subst this
      omega
  · rintro ⟨hr, hmin⟩
    obtain ⟨i, hi, e, hle⟩ := full k c hc hr
    obtain ⟨c1, c2, c3, c4, c5, c6⟩ := b1 i hi
    rw [e] at c3 c5
    have : D i = k := by
      apply Classical.byContradiction
      intro t
      exact hmin (D i) (by omega) c5
    rw [c3, this]
section MD6
variable {post : Option Value → PH → Prop} {h : PH} {a : St} {s : Ab}
theorem u5_ne {m : Nat} : ¬ nI (5 ^ (4 - m)) = 0 := by
  have h1 : 0 < 5 ^ (4 - m) := Nat.pow_pos (by omega)
  have h2 : 5 ^ (4 - m) ≤ 5 ^ 4 := Nat.pow_le_pow_right (by omega) (by omega)
  intro e
  have := (nI_eq (a := 5 ^ (4 - m)) (b := 0) (by omega) (by omega)).mp e
  omega
theorem ev_figure {c m : Nat} (hc : c < 3125) (k : post (some (.int (nI (dg c m)))) h) : Ev 0 mX5_figure [.int (nI c), .int (nI (5 ^ (4 - m)))] h post := by
  have h1 : 0 < 5 ^ (4 - m) := Nat.pow_pos (by omega)
  have h2 : 5 ^ (4 - m) ≤ 5 ^ 4 := Nat.pow_le_pow_right (by omega) (by omega)
  have h3 : c / 5 ^ (4 - m) ≤ c := Nat.div_le_self _ _
  refine Ev.intro rfl (Nat.le_of_ble_eq_true rfl) (sX5_figure_0 u5_ne ?_)
  rw [pk_div (by omega) (by omega) (by omega), show nI (c / 5 ^ (4 - m)) - nI (c / 5 ^ (4 - m)) / 5 * 5 = nI (c / 5 ^ (4 - m) % 5) from pk_rem (d := 5) (by omega) (by omega) (by omega)]
  exact k
def N34 (h g : PH) : Prop := (∀ c, c ≠ 23 → c ≠ 24 → g.1 c = h.1 c) ∧ g.2 = h.2
theorem N34.mk {g : PH} (n : N34 h g) : MK h g := ⟨fun c _ _ _ h4 h5 _ => n.1 c h4 h5, fun j _ _ _ _ _ _ => by rw [n.1 15 (by decide) (by decide)]⟩
theorem ev_layFar {st : Bool} (hI : MI a h) (hw : WF a) (hM : ∀ c, c < 3125 → h.1 22 c = b2i (okk a st c)) (e15 : h.1 15 15 = bc (bsF a st)) (k : ∀ h', N34 h h' → ((bsF a st).1 ≠ 0 → FR a st (bsF a st).2 h') → post none h') : Ev 1 mX5_layFar [.ref 15] h post := by
  have h5 := hw.1
  have h4 := hw.2.1
  -- the search
  have hB : ∀ n d many q D g, many ≤ 3125 → 3125 - d = n → d ≤ many → BQ a st (bsF a st).2 many q D g → N34 h g → (∀ j, j < many → d < many → D j ≤ D d + 1) → (∀ i, i < d → ND a st many q D i (fun _ _ => True)) → G 1 mX5_layFar post 60 [some (.ref 15), some (.int (nI many)), some (.int (nI d)), none, none, none, none, none, none] [] g := by
    intro n
    induction n with
    | zero =>
      intro d many q D g hml hn hd B nn hD hN
      have e : d = many := by omega
      subst e
      exact sX5_layFar_60 (fun _ => sX5_layFar_194 (k g nn (fun _ => B.all hw hN))) (fun z => absurd (nI_le (Nat.le_refl _) (by omega)) z)
    | succ n ih =>
      intro d many q D g hml hn hd B nn hD hN
      refine sX5_layFar_60 (fun z => ?_) (fun z => ?_)
      · rw [nI_leI (by omega) (by omega)] at z
        have e : d = many := by omega
        subst e
        exact sX5_layFar_194 (k g nn (fun _ => B.all hw hN))
      · rw [nI_leI (by omega) (by omega)] at z
        have hdm : d < many := by omega
        refine sX5_layFar_65 (vp_in_nI (by omega) (by omega)) ?_
        have hqd := (B.1 d hdm).1
        rw [nI_clamp (by omega), (B.1 d hdm).2.1]
        -- over the mirrors
        have hm : ∀ m, m ≤ aN a → ∀ many q D g c, q d = c → many ≤ 3125 → d < many → BQ a st (bsF a st).2 many q D g → N34 h g → (∀ j, j < many → D j ≤ D d + 1) → (∀ i, i < d → ND a st many q D i (fun _ _ => True)) → ND a st many q D d (fun m' _ => m' < m) → G 1 mX5_layFar post 75 [some (.ref 15), some (.int (nI many)), some (.int (nI d)), some (.int (nI c)), some (.int (nI m)), none, none, none, none] [] g := by
          refine loopU (aN a) (fun m hm mh many q D g c hqc hml hdm B nn hD hN hC => ?_) (fun many q D g c hqc hml hdm B nn hD hN hC => ?_)
          · have hIg := hI.keep nn.mk
            subst hqc
            have hqd := (B.1 d hdm).1
            refine sX5_layFar_75 (fun y => ?_) (fun _ => sX5_layFar_84 (ev_unitOf (by omega) (sX5_layFar_90 (ev_figure hqd (sX5_layFar_101 ?_)))))
            · rw [hIg.n, nI_leI (by omega) (by omega)] at y; omega
            rw [pk_mul, pk_sub dg_part]
            have hvl : ∀ v, v ≤ aP a + 1 → ∀ many q' D g, q' d = q d → many ≤ 3125 → d < many → BQ a st (bsF a st).2 many q' D g → N34 h g → (∀ j, j < many → D j ≤ D d + 1) → (∀ i, i < d → ND a st many q' D i (fun _ _ => True)) → ND a st many q' D d (fun m' v' => m' < m ∨ m' = m ∧ v' < v) → G 1 mX5_layFar post 108 [some (.ref 15), some (.int (nI many)), some (.int (nI d)), some (.int (nI (q d))), some (.int (nI m)), some (.int (nI (5 ^ (4 - m)))), some (.int (nI (q d - 5 ^ (4 - m) * dg (q d) m))), some (.int (nI v)), none] [] g := by
              refine loopU (aP a + 1) (fun v hv vh many q' D g hqe hml hdm B nn hD hN hC => ?_) (fun many q' D g hqe hml hdm B nn hD hN hC => ?_)
              · have hIg := hI.keep nn.mk
                have hnx : setd (q d) m v < 3125 := setd_lt hqd (by omega)
                have enx : nI (q d - 5 ^ (4 - m) * dg (q d) m) + nI (5 ^ (4 - m)) * nI v = nI (setd (q d) m v) := by
                  rw [pk_mul, nI_add, ← setd_eq]
                have vnx : vp_in (nI (setd (q d) m v)) 3125 := vp_in_nI hnx (by omega)
                have skip : ∀ many q' D g, q' d = q d → many ≤ 3125 → d < many → BQ a st (bsF a st).2 many q' D g → N34 h g → (∀ j, j < many → D j ≤ D d + 1) → (∀ i, i < d → ND a st many q' D i (fun _ _ => True)) → ND a st many q' D d (fun m' v' => m' < m ∨ m' = m ∧ v' < v + 1) → G 1 mX5_layFar post 176 [some (.ref 15), some (.int (nI many)), some (.int (nI d)), some (.int (nI (q d))), some (.int (nI m)), some (.int (nI (5 ^ (4 - m)))), some (.int (nI (q d - 5 ^ (4 - m) * dg (q d) m))), some (.int (nI v)), none] [] g := fun many q' D g hqe hml hdm B nn hD hN hC => by
                  refine sX5_layFar_176 ?_
                  rw [nI_1]
                  exact vh many q' D g hqe hml hdm B nn hD hN hC
                refine sX5_layFar_108 (fun y => ?_) (fun _ => sX5_layFar_117 (by rw [enx]; exact vnx) (fun y => ?_) (fun y => ?_))
                · rw [hIg.p, nI_ltI (by omega) (by omega)] at y; omega
                all_goals rw [enx, nI_clamp (by omega), nn.1 22 (by decide) (by decide), hM _ hnx] at y
                · rw [b2i_0] at y
                  refine skip many q' D g hqe hml hdm B nn hD hN (fun m' v' hm' hv' hp hok => ?_)
                  by_cases e : m' = m ∧ v' = v
                  · rw [e.1, e.2, hqe, y] at hok; cases hok
                  · exact hC m' v' hm' hv' (by omega) hok
                · rw [b2i_n] at y
                  rw [enx]
                  refine sX5_layFar_137 vnx (fun t => ?_) (fun t => sX5_layFar_150 (vp_in_nI hqd (by omega)) vnx ?_ ?_)
                  · rw [nI_clamp (by omega)] at t
                    refine skip many q' D g hqe hml hdm B nn hD hN (fun m' v' hm' hv' hp hok => ?_)
                    by_cases e : m' = m ∧ v' = v
                    · rw [e.1, e.2, hqe]
                      rcases B.2.2.2.1 _ hnx with u | ⟨i, hi, u⟩
                      · exact absurd u t
                      · exact ⟨i, hi, u, hD i hi⟩
                    · exact hC m' v' hm' hv' (by omega) hok
                  · rw [nI_clamp (by omega)] at t
                    rw [← hqe] at t y
                    have P := B.push hw hdm hm (by omega) y t hD
                    exact vp_in_nI P.1 (by omega)
                  · rw [nI_clamp (by omega)] at t
                    have t' := t
                    rw [← hqe] at t'
                    have y' := y
                    rw [← hqe] at y'
                    have P := B.push hw hdm hm (by omega) y' t' hD
                    have hDd := (B.1 d hdm).2.2.1
                    rw [hqe] at hDd P
                    rw [nI_clamp (by omega), nI_clamp (by omega), nI_clamp (by omega), hDd, nI_1, nI_1]
                    have ud : upn D many (D d + 1) d = D d := upn_n (by omega)
                    have uq : upn q' many (setd (q d) m v) d = q' d := upn_n (by omega)
                    have old : ∀ i m' v', i < many → i ≤ d → (∃ j, j < many ∧ q' j = setd (q' i) m' v' ∧ D j ≤ D i + 1) → ∃ j, j < many + 1 ∧ upn q' many (setd (q d) m v) j = setd (upn q' many (setd (q d) m v) i) m' v' ∧ upn D many (D d + 1) j ≤ upn D many (D d + 1) i + 1 := by
                      rintro i m' v' hi _ ⟨j, hj, e1, e2⟩
                      refine ⟨j, by omega, ?_, ?_⟩
                      · rw [upn_n (by omega), upn_n (by omega)]; exact e1
                      · rw [upn_n (by omega), upn_n (by omega)]; exact e2
                    refine skip (many + 1) _ _ _ (uq.trans hqe) (by have := P.1; omega) (by omega) P.2 ⟨fun c h1 h2 => ?_, nn.2⟩ (fun j hj => ?_) (fun i hi m' v' hm' hv' hp hok => ?_) (fun m' v' hm' hv' hp hok => ?_)
                    · show upd2 (upd2 g.1 23 _ _) 24 many _ c = _
                      rw [upd2_ne h2, upd2_ne h1]; exact nn.1 c h1 h2
                    · rw [ud]
                      by_cases e : j = many
                      · rw [e, upn_s]; exact Nat.le_refl _
                      · rw [upn_n e]; exact hD j (by omega)
                    · rw [upn_n (show i ≠ many by omega)] at hok
                      exact old i m' v' (by omega) (by omega) (hN i hi m' v' hm' hv' trivial hok)
                    · rw [uq] at hok
                      by_cases e : m' = m ∧ v' = v
                      · refine ⟨many, by omega, ?_, ?_⟩
                        · rw [upn_s, uq, e.1, e.2, hqe]
                        · rw [upn_s, ud]; exact Nat.le_refl _
                      · exact old d m' v' hdm (Nat.le_refl _) (hC m' v' hm' hv' (by omega) hok)
              · have hIg := hI.keep nn.mk
                refine sX5_layFar_108 (fun _ => sX5_layFar_182 ?_) (fun y => absurd (by rw [hIg.p, nI_ltI (by omega) (by omega)]; omega) y)
                rw [nI_1]
                exact mh many q' D g (q d) hqe hml hdm B nn hD hN (fun m' v' hm' hv' hp hok => hC m' v' hm' hv' (by omega) hok)
            exact hvl 0 (by omega) many q D g rfl hml hdm B nn hD hN (fun m' v' hm' hv' hp hok => hC m' v' hm' hv' (by omega) hok)
          · have hIg := hI.keep nn.mk
            refine sX5_layFar_75 (fun _ => sX5_layFar_188 ?_) (fun y => absurd (by rw [hIg.n]; exact nI_le (Nat.le_refl _) (by omega)) y)
            rw [nI_1]
            refine ih (d + 1) many q D g hml (by omega) (by omega) B nn (fun j hj hd1 => ?_) (fun i hi => ?_)
            · have h1 := hD j hj
              have h2 := B.2.2.1 d (d + 1) (by omega) hd1
              omega
            · by_cases e : i = d
              · rw [e]
                exact fun m' v' hm' hv' _ hok => hC m' v' hm' hv' hm' hok
              · exact hN i (by omega)
        exact hm 0 (Nat.zero_le _) many q D g (q d) rfl hml hdm B nn (fun j hj => hD j hj hdm) hN (fun m' v' hm' hv' hp hok => by omega)
  refine Ev.intro rfl (Nat.le_of_ble_eq_true rfl) (sX5_layFar_0 ?_)
  have hF : ∀ i, i ≤ 3125 → ∀ f, (∀ c, c < i → f c = -1001) → G 1 mX5_layFar post 2 [some (.ref 15), some (.int (nI i)), none, none, none, none, none, none, none] [] (setA h 23 f) := by
    refine loopU 3125 (fun i hi ih f hf => ?_) (fun f hf => ?_)
    · refine sX5_layFar_2 (fun z => ?_) (fun _ => sX5_layFar_9 (vp_in_nI hi (by omega)) ?_)
      · rw [show (3125 : Int32) = nI 3125 from rfl, nI_leI (by omega) (by omega)] at z; omega
      rw [nI_clamp (by omega), setA_upd, nI_1]
      refine ih _ (fun c hc => ?_)
      by_cases e : c = i
      · rw [e, pk_us]
      · rw [pk_un e]; exact hf c (by omega)
    · have e15' : (setA h 23 f).1 15 15 = bc (bsF a st) := e15
      refine sX5_layFar_2 (fun _ => sX5_layFar_24 (fun z => sX5_layFar_58 ?_) (fun z => ?_)) (fun z => absurd (by decide) z)
      · rw [e15'] at z
        have hz : (bsF a st).1 = 0 := by
          apply Classical.byContradiction
          intro hz
          unfold bc at z
          rw [if_neg hz] at z
          have hlt : (bsF a st).2 < 3125 := (BS_spec 3125 hz).1
          exact nI_n1001 (by omega) z
        exact sX5_layFar_60 (fun _ => sX5_layFar_194 (k _ ⟨fun c h1 _ => setA_ne h1, rfl⟩ (fun q => absurd hz q))) (fun y => absurd (by decide) y)
      · have hz : (bsF a st).1 ≠ 0 := fun e => z (by rw [e15']; unfold bc; rw [if_pos e])
        have hlt : (bsF a st).2 < 3125 := (BS_spec 3125 hz).1
        have hok : okk a st (bsF a st).2 = true := (BS_spec 3125 hz).2
        have eb : bc (bsF a st) = nI (bsF a st).2 := if_neg hz
        refine sX5_layFar_36 (by rw [e15', eb]; exact vp_in_nI hlt (by omega)) (vp_in_nI (n := 0) (by omega) (by omega)) (sX5_layFar_58 ?_)
        rw [e15', eb, nI_clamp (by omega), show Int32.toNatClampNeg 0 = 0 by decide]
        refine hB 3125 0 1 (fun _ => (bsF a st).2) (fun _ => 0) _ (by omega) (by omega) (by omega) ⟨fun i hi => ?_, fun i j hij hj => by omega, fun i j _ _ => Nat.le_refl _, fun c hc => ?_, by omega, rfl⟩ ⟨fun c h1 h2 => ?_, rfl⟩ (fun j hj _ => by omega) (fun i hi => by omega)
        · have e : i = 0 := by omega
          subst e
          refine ⟨hlt, rfl, ?_, hok, rfl, Nat.le_refl _⟩
          show upd2 (upd2 (setA h 23 f).1 23 (bsF a st).2 0) 24 0 (nI (bsF a st).2) 23 (bsF a st).2 = nI 0
          rw [upd2_ne (by decide), upd2_self, pk_us]
          rfl
        · show upd2 (upd2 (setA h 23 f).1 23 (bsF a st).2 0) 24 0 (nI (bsF a st).2) 23 c = _ ∨ _
          rw [upd2_ne (by decide), upd2_self]
          by_cases e : c = (bsF a st).2
          · exact Or.inr ⟨0, by omega, e.symm⟩
          · rw [pk_un e, setA_self]
            exact Or.inl (hf c hc)
        · show upd2 (upd2 (setA h 23 f).1 23 _ 0) 24 0 _ c = _
          rw [upd2_ne h2, upd2_ne h1, setA_ne h1]
  have := hF 0 (by omega) (h.1 23) (fun c hc => by omega)
  rw [setA_id] at this
  exact this
end MD6
