/-! distances: how far a code is from the best one -/
theorem BS_spec {a : St} {st : Bool} : ∀ k, (BS a st k).1 ≠ 0 → (BS a st k).2 < k ∧ okk a st (BS a st k).2 = true
  | 0, h => absurd rfl h
  | k + 1, h => by
    rw [BS] at h ⊢
    split
    · rename_i q
      exact ⟨Nat.lt_succ_self k, q.1⟩
    · rename_i q
      rw [if_neg q] at h
      have := BS_spec k h
      exact ⟨by omega, this.2⟩
theorem okk_there {a : St} {st : Bool} {c : Nat} (h : okk a st c = true) : ∀ m, m < 5 → (m < aN a → dg c m ≤ aP a) ∧ (aN a ≤ m → dg c m = 0) ∧ ((aK a).testBit m = true → dg c m = aV a m) := by
  unfold okk at h
  rw [Bool.and_eq_true] at h
  exact there_iff.mp h.1
theorem cod_lt {a : St} (hw : WF a) : cod (aV a) < 3125 := by
  have h0 := (hw.2.2.2.1 0).2.2.1; have h1 := (hw.2.2.2.1 1).2.2.1; have h2 := (hw.2.2.2.1 2).2.2.1; have h3 := (hw.2.2.2.1 3).2.2.1; have h4 := (hw.2.2.2.1 4).2.2.1
  have := hw.2.1
  unfold cod
  omega
theorem dg_cod {f : Nat → Nat} (hf : ∀ m, f m < 5) {m : Nat} (hm : m < 5) : dg (cod f) m = f m := by
  have h0 := hf 0; have h1 := hf 1; have h2 := hf 2; have h3 := hf 3; have h4 := hf 4
  unfold dg cod
  rcases cases5 hm with rfl | rfl | rfl | rfl | rfl <;> simp only [Nat.reduceSub, Nat.reducePow] <;> omega
theorem dg_V {a : St} (hw : WF a) {m : Nat} (hm : m < 5) : dg (cod (aV a)) m = aV a m := dg_cod (fun m => by have := (hw.2.2.2.1 m).2.2.1; have := hw.2.1; omega) hm
/-- a good code, or the aims as they are -/
def nod (a : St) (st : Bool) (c : Nat) : Prop := okk a st c = true ∨ c = cod (aV a)
theorem nod_dig {a : St} {st : Bool} {c : Nat} (hw : WF a) (h : nod a st c) {m : Nat} (hm : m < 5) : dg c m ≤ aP a ∧ (aN a ≤ m → dg c m = 0) ∧ ((aK a).testBit m = true → dg c m = aV a m) := by
  rcases h with h | h
  · have := okk_there h m hm
    refine ⟨?_, this.2⟩
    by_cases q : m < aN a
    · exact this.1 q
    · rw [this.2.1 (by omega)]; omega
  · subst h
    rw [dg_V hw hm]
    have := (hw.2.2.2.1 m).2.2
    exact ⟨this.1, this.2, fun _ => rfl⟩
theorem rv_pow {c n : Nat} (hn : n ≤ 5) (hz : ∀ m, m < 5 → n ≤ m → dg c m = 0) : rv c < 5 ^ n := by
  rw [rv_sum]
  have h0 := dg_lt c 0; have h1 := dg_lt c 1; have h2 := dg_lt c 2; have h3 := dg_lt c 3; have h4 := dg_lt c 4
  rcases cases6 hn with rfl | rfl | rfl | rfl | rfl | rfl
  · have := hz 0 (by omega) (by omega); have := hz 1 (by omega) (by omega); have := hz 2 (by omega) (by omega); have := hz 3 (by omega) (by omega); have := hz 4 (by omega) (by omega)
    simp only [Nat.reducePow]; omega
  · have := hz 1 (by omega) (by omega); have := hz 2 (by omega) (by omega); have := hz 3 (by omega) (by omega); have := hz 4 (by omega) (by omega)
    simp only [Nat.reducePow]; omega
  · have := hz 2 (by omega) (by omega); have := hz 3 (by omega) (by omega); have := hz 4 (by omega) (by omega)
    simp only [Nat.reducePow]; omega
  · have := hz 3 (by omega) (by omega); have := hz 4 (by omega) (by omega)
    simp only [Nat.reducePow]; omega
  · have := hz 4 (by omega) (by omega)
    simp only [Nat.reducePow]; omega
  · simp only [Nat.reducePow]; omega
theorem nod_rv {a : St} {st : Bool} {c : Nat} (hw : WF a) (h : nod a st c) : rv c < 5 ^ aN a := rv_pow hw.1 (fun _ hm => (nod_dig hw h hm).2.1)
theorem rch_ok {a : St} {st : Bool} {b : Nat} (hb : okk a st b = true) : ∀ k c, rch a st b k c → okk a st c = true
  | 0, c, h => by have h : c = b := h; rw [h]; exact hb
  | _ + 1, _, h => h.1
/-- as rch, but the aims as they are count too where they stand -/
def rs (a : St) (st : Bool) (b : Nat) : Nat → Nat → Prop
  | 0, c => c = b
  | k + 1, c => nod a st c ∧ ∃ m v, m < aN a ∧ v ≤ aP a ∧ rch a st b k (setd c m v)
def Ds (a : St) (st : Bool) (b k c : Nat) : Prop := rs a st b k c ∧ ∀ j, j < k → ¬ rs a st b j c
theorem rs_rch {a : St} {st : Bool} {b c : Nat} (hc : okk a st c = true) : ∀ k, rs a st b k c ↔ rch a st b k c
  | 0 => Iff.rfl
  | k + 1 => ⟨fun h => ⟨hc, h.2⟩, fun h => ⟨Or.inl hc, h.2⟩⟩
theorem Ds_Dl {a : St} {st : Bool} {b c : Nat} (hc : okk a st c = true) (k : Nat) : Ds a st b k c ↔ Dl a st b k c := by
  unfold Ds Dl
  constructor
  · rintro ⟨h1, h2⟩
    exact ⟨(rs_rch hc k).mp h1, fun j hj q => h2 j hj ((rs_rch hc j).mpr q)⟩
  · rintro ⟨h1, h2⟩
    exact ⟨(rs_rch hc k).mpr h1, fun j hj q => h2 j hj ((rs_rch hc j).mp q)⟩
theorem rs_nod {a : St} {st : Bool} {b : Nat} (hb : okk a st b = true) : ∀ k c, rs a st b k c → nod a st c
  | 0, c, h => by have h : c = b := h; rw [h]; exact Or.inl hb
  | _ + 1, _, h => h.1
theorem least (P : Nat → Prop) : ∀ n, P n → ∃ k, k ≤ n ∧ P k ∧ ∀ j, j < k → ¬ P j := by
  intro n
  induction n using Nat.strongRecOn with
  | ind n ih =>
    intro h
    by_cases q : ∃ j, j < n ∧ P j
    · obtain ⟨j, h1, h2⟩ := q
      obtain ⟨k, h3, h4, h5⟩ := ih j h1 h2
      exact ⟨k, by omega, h4, h5⟩
    · exact ⟨n, Nat.le_refl n, h, fun j hj hp => q ⟨j, hj, hp⟩⟩
theorem Ds_uniq {a : St} {st : Bool} {b c j k : Nat} (h1 : Ds a st b j c) (h2 : Ds a st b k c) : j = k := by
  rcases Nat.lt_trichotomy j k with h | h | h
  · exact absurd h1.1 (h2.2 j h)
  · exact h
  · exact absurd h2.1 (h1.2 k h)
/-- what is k + 1 far has a neighbour that is k far, and that one is good -/
theorem Ds_pred {a : St} {st : Bool} {b c k : Nat} (hb : okk a st b = true) (h : Ds a st b (k + 1) c) : ∃ m v, m < aN a ∧ v ≤ aP a ∧ okk a st (setd c m v) = true ∧ Ds a st b k (setd c m v) := by
  obtain ⟨⟨hn, m, v, hm, hv, hr⟩, hmin⟩ := h
  have hok := rch_ok hb k _ hr
  refine ⟨m, v, hm, hv, hok, (rs_rch hok k).mpr hr, fun j hj q => ?_⟩
  exact hmin (j + 1) (by omega) ⟨hn, m, v, hm, hv, (rs_rch hok j).mp q⟩
def RV (a : St) (st : Bool) (b far : Nat) (w : Nat → Int32) : Prop := ∀ c, c < 3125 → (∀ j, j ≤ far → Ds a st b j c → w (rv c) = nI j) ∧ ((∀ j, j ≤ far → ¬ rs a st b j c) → w (rv c) = if pB (nod a st c) then -1 else -2)
theorem RV_back {a : St} {st : Bool} {b far : Nat} {w : Nat → Int32} (h : RV a st b far w) (hf : far < 2 ^ 29) {c j : Nat} (hc : c < 3125) (hj : j ≤ far) : w (rv c) = nI j ↔ Ds a st b j c := by
  constructor
  · intro e
    by_cases q : ∃ i, i ≤ far ∧ rs a st b i c
    · obtain ⟨i, h1, h2⟩ := q
      obtain ⟨k, h3, h4, h5⟩ := least (fun i => rs a st b i c) i h2
      have := (h c hc).1 k (by omega) ⟨h4, h5⟩
      rw [this, nI_eq (by omega) (by omega)] at e
      subst e
      exact ⟨h4, h5⟩
    · have := (h c hc).2 (fun i h1 h2 => q ⟨i, h1, h2⟩)
      rw [this] at e
      split at e
      · exact absurd e.symm (nI_m1 (by omega))
      · exact absurd e.symm (nI_m2 (by omega))
  · exact fun q => (h c hc).1 j hj q
theorem RV_open {a : St} {st : Bool} {b far : Nat} {w : Nat → Int32} (h : RV a st b far w) (hf : far < 2 ^ 29) {c : Nat} (hc : c < 3125) : w (rv c) = -1 ↔ nod a st c ∧ ∀ j, j ≤ far → ¬ rs a st b j c := by
  constructor
  · intro e
    by_cases q : ∃ i, i ≤ far ∧ rs a st b i c
    · obtain ⟨i, h1, h2⟩ := q
      obtain ⟨k, h3, h4, h5⟩ := least (fun i => rs a st b i c) i h2
      have := (h c hc).1 k (by omega) ⟨h4, h5⟩
      rw [this] at e
      exact absurd e (nI_m1 (by omega))
    · have hq : ∀ i, i ≤ far → ¬ rs a st b i c := fun i h1 h2 => q ⟨i, h1, h2⟩
      have := (h c hc).2 hq
      rw [this] at e
      split at e
      · rename_i hn; exact ⟨pB_t.mp hn, hq⟩
      · exact absurd e (by decide)
  · rintro ⟨h1, h2⟩
    rw [(h c hc).2 h2, if_pos (pB_t.mpr h1)]
theorem RV_step {a : St} {st : Bool} {b far : Nat} {w w' : Nat → Int32} {t : Bool} (hw : WF a) (hb : okk a st b = true) (h : RV a st b far w) (hf : far < 2 ^ 29) (hs : ∀ j, j ≤ far → ¬ rs a st b j (cod (aV a)))
    (g1 : ∀ x, x < 3125 → ((∃ pl, pl < 5 ^ aN a ∧ w pl = nI far ∧ nb a pl x) → w x = -1 → w' x = nI (far + 1)) ∧ (¬ ((∃ pl, pl < 5 ^ aN a ∧ w pl = nI far ∧ nb a pl x) ∧ w x = -1) → w' x = w x))
    (g2 : t = true ↔ ∃ x, x < 3125 ∧ (∃ pl, pl < 5 ^ aN a ∧ w pl = nI far ∧ nb a pl x) ∧ w x = -1) : RV a st b (far + 1) w' ∧ (t = true ↔ ∃ c, c < 3125 ∧ Ds a st b (far + 1) c) := by
  have h5 := hw.1
  have h4 := hw.2.1
  have h3 := five_le h5
  have key : ∀ c, c < 3125 → nod a st c → (∀ j, j ≤ far → ¬ rs a st b j c) → ((∃ pl, pl < 5 ^ aN a ∧ w pl = nI far ∧ nb a pl (rv c)) ↔ rs a st b (far + 1) c) := by
    intro c hc hn hu
    constructor
    · rintro ⟨pl, hp, hwp, m, v, hm, hv, e⟩
      have hel : rv pl < 3125 := rv_lt (by omega)
      have hpl : rv (rv pl) = pl := rv_rv (by omega)
      have hD : Ds a st b far (rv pl) := (RV_back h hf hel (Nat.le_refl _)).mp (by rw [hpl]; exact hwp)
      have hne : rv pl ≠ cod (aV a) := fun q => hs far (Nat.le_refl _) (by rw [← q]; exact hD.1)
      have hok : okk a st (rv pl) = true := (rs_nod hb _ _ hD.1).resolve_right hne
      have ec : c = setd (rv pl) m v := rv_inj hc (setd_lt hel (by omega)) (by rw [rv_setd hel (by omega) (by omega), hpl]; exact e)
      refine ⟨hn, m, dg (rv pl) m, hm, (okk_there hok m (by omega)).1 hm, ?_⟩
      rw [ec, setd_back hel (by omega) (by omega)]
      exact (rs_rch hok far).mp hD.1
    · rintro ⟨-, m, v, hm, hv, hr⟩
      have hok := rch_ok hb far _ hr
      have hel : setd c m v < 3125 := setd_lt hc (by omega)
      have hD : Ds a st b far (setd c m v) := ⟨(rs_rch hok far).mpr hr, fun j hj q => hu (j + 1) (by omega) ⟨hn, m, v, hm, hv, (rs_rch hok j).mp q⟩⟩
      refine ⟨rv (setd c m v), nod_rv hw (Or.inl hok), (RV_back h hf hel (Nat.le_refl _)).mpr hD, m, dg c m, hm, (nod_dig hw hn (by omega)).1, ?_⟩
      rw [← rv_setd hel (by omega) (dg_lt c m), setd_back hc (by omega) (by omega)]
  refine ⟨fun c hc => ⟨fun j hj hD => ?_, fun hu => ?_⟩, ?_⟩
  · by_cases ej : j ≤ far
    · have e := (h c hc).1 j ej hD
      rw [(g1 (rv c) (rv_lt hc)).2 (fun z => nI_m1 (f := j) (by omega) (e.symm.trans z.2)), e]
    · have ej : j = far + 1 := by omega
      subst ej
      have hu : ∀ j, j ≤ far → ¬ rs a st b j c := fun j hj => hD.2 j (by omega)
      have hn := rs_nod hb _ _ hD.1
      exact (g1 (rv c) (rv_lt hc)).1 ((key c hc hn hu).mpr hD.1) ((RV_open h hf hc).mpr ⟨hn, hu⟩)
  · have hu' : ∀ j, j ≤ far → ¬ rs a st b j c := fun j hj => hu j (by omega)
    rw [(g1 (rv c) (rv_lt hc)).2 (fun z => ?_)]
    · exact (h c hc).2 hu'
    · have hn := ((RV_open h hf hc).mp z.2).1
      exact hu (far + 1) (Nat.le_refl _) ((key c hc hn hu').mp z.1)
  · rw [g2]
    constructor
    · rintro ⟨x, hx, hC, hwx⟩
      have hxe : rv (rv x) = x := rv_rv hx
      have hxl := rv_lt hx
      rw [← hxe] at hwx hC
      obtain ⟨hn, hu⟩ := (RV_open h hf hxl).mp hwx
      exact ⟨rv x, hxl, (key _ hxl hn hu).mp hC, fun j hj => hu j (by omega)⟩
    · rintro ⟨c, hc, hD⟩
      have hu : ∀ j, j ≤ far → ¬ rs a st b j c := fun j hj => hD.2 j (by omega)
      have hn := rs_nod hb _ _ hD.1
      exact ⟨rv c, rv_lt hc, (key c hc hn hu).mpr hD.1, (RV_open h hf hc).mpr ⟨hn, hu⟩⟩
/-- nothing is so far: nothing is farther -/
theorem Ds_end {a : St} {st : Bool} {b far : Nat} (hw : WF a) (hb : okk a st b = true) (h : ∀ c, c < 3125 → ¬ Ds a st b far c) : ∀ n c, c < 3125 → ¬ Ds a st b (far + n) c
  | 0, c, hc => h c hc
  | n + 1, c, hc => fun q => by
    obtain ⟨m, v, hm, hv, hok, hD⟩ := Ds_pred (k := far + n) hb q
    exact Ds_end hw hb h n _ (setd_lt hc (by have := hw.2.1; omega)) hD
theorem Ds_below {a : St} {st : Bool} {b k c : Nat} (hw : WF a) (hb : okk a st b = true) (hc : c < 3125) (h : Ds a st b k c) : ∀ n, n ≤ k → ∃ c', c' < 3125 ∧ Ds a st b (k - n) c'
  | 0, _ => ⟨c, hc, h⟩
  | n + 1, hn => by
    obtain ⟨c', h1, h2⟩ := Ds_below hw hb hc h n (by omega)
    obtain ⟨j, hj⟩ : ∃ j, k - n = j + 1 := ⟨k - n - 1, by omega⟩
    rw [hj] at h2
    obtain ⟨m, v, hm, hv, hok, hD⟩ := Ds_pred hb h2
    exact ⟨setd c' m v, setd_lt h1 (by have := hw.2.1; omega), by rw [show k - (n + 1) = j by omega]; exact hD⟩
theorem holes : ∀ (m n : Nat) (f : Nat → Nat), (∀ i, i < n → f i < m) → (∀ i j, i < j → j < n → f i ≠ f j) → n ≤ m := by
  intro m
  induction m with
  | zero =>
    intro n f h1 _
    cases n with
    | zero => exact Nat.le_refl _
    | succ n => exact absurd (h1 0 (by omega)) (by omega)
  | succ m ih =>
    intro n f h1 h2
    by_cases q : ∃ i, i < n ∧ f i = m
    · obtain ⟨i, hi, ei⟩ := q
      have := ih (n - 1) (fun j => if j < i then f j else f (j + 1)) (fun j hj => ?_) (fun j k hjk hk => ?_)
      · omega
      · split
        · have hl := h1 j (by omega)
          have hne := h2 j i (by omega) hi
          omega
        · have hl := h1 (j + 1) (by omega)
          have hne := h2 i (j + 1) (by omega) (by omega)
          omega
      · split
        · split
          · exact h2 j k hjk (by omega)
          · exact h2 j (k + 1) (by omega) (by omega)
        · rw [if_neg (by omega)]
          exact h2 (j + 1) (k + 1) (by omega) (by omega)
    · have := ih n f (fun i hi => by
        have := h1 i hi
        have hne : f i ≠ m := fun e => q ⟨i, hi, e⟩
        omega) h2
      omega
theorem Ds_count {a : St} {st : Bool} {b far : Nat} (hw : WF a) (hb : okk a st b = true) (h : ∀ j, j ≤ far → ∃ c, c < 3125 ∧ Ds a st b j c) : far + 1 ≤ 5 ^ aN a := by
  refine holes (5 ^ aN a) (far + 1) (fun j => if hj : j ≤ far then rv (Classical.choose (h j hj)) else 0) (fun j hj => ?_) (fun i j hij hj => ?_)
  · have hj' : j ≤ far := by omega
    rw [dif_pos hj']
    have := Classical.choose_spec (h j hj')
    exact nod_rv hw (rs_nod hb _ _ this.2.1)
  · have hi' : i ≤ far := by omega
    have hj' : j ≤ far := by omega
    rw [dif_pos hi', dif_pos hj']
    have h1 := Classical.choose_spec (h i hi')
    have h2 := Classical.choose_spec (h j hj')
    intro e
    have e := rv_inj h1.1 h2.1 e
    rw [e] at h1
    have := Ds_uniq h1.2 h2.2
    omega
theorem ld40_spec {P : Nat → Prop} {i : Nat} (hi : i < 40) (h : P i) : ld (fun j => !pB (P j)) 40 < 40 ∧ P (ld (fun j => !pB (P j)) 40) := by
  obtain ⟨k, h1, h2, h3⟩ := least P i h
  rw [ld40 h3 h2 (by omega)]
  exact ⟨by omega, h2⟩
theorem mv_iff {a : St} {st : Bool} {b c k : Nat} (hw : WF a) : mvF a st b c k < 40 ↔ ∃ m v, m < aN a ∧ v ≤ aP a ∧ mvP a st b c k (8 * m + v) := by
  have h5 := hw.1
  have h4 := hw.2.1
  constructor
  · intro h
    apply Classical.byContradiction
    intro hn
    have : mvF a st b c k = 40 := ld40n (fun i hi q => hn ⟨i / 8, i % 8, q.1, q.2.1, by rw [show 8 * (i / 8) + i % 8 = i by omega]; exact q⟩)
    omega
  · rintro ⟨m, v, hm, hv, h⟩
    exact (ld40_spec (i := 8 * m + v) (by omega) h).1
theorem mvP_of {a : St} {st : Bool} {b c k m v : Nat} (hw : WF a) (hc : c < 3125) (hn : nod a st c) (hm : m < aN a) (hv : v ≤ aP a) (hok : okk a st (setd c m v) = true) (hD : Ds a st b k (setd c m v)) (hne : setd c m v ≠ c) : mvP a st b c k (8 * m + v) := by
  have h5 := hw.1
  have h4 := hw.2.1
  have e1 : (8 * m + v) / 8 = m := by omega
  have e2 : (8 * m + v) % 8 = v := by omega
  unfold mvP
  rw [e1, e2]
  refine ⟨hm, hv, ?_, hne, hok, (Ds_Dl hok k).mp hD⟩
  cases hk : (aK a).testBit m with
  | false => rfl
  | true =>
    exfalso
    have h1 := (okk_there hok m (by omega)).2.2 hk
    have h2 := (nod_dig hw hn (show m < 5 by omega)).2.2 hk
    rw [dg_setd hc (by omega) (by omega) (by omega), if_pos rfl] at h1
    apply hne
    rw [h1, ← h2]
    exact setd_self hc (by omega)
/-- how far the aims as they are lie from the best -/
theorem chN_of {a : St} {st : Bool} {M : Nat} (hw : WF a) (h0 : (bsF a st).1 ≠ 0) (hD : Ds a st (bsF a st).2 M (cod (aV a))) (hM : M ≤ 3125) : chN a st = M + 1 := by
  have hb : okk a st (bsF a st).2 = true := (BS_spec 3125 h0).2
  have hc := cod_lt hw
  unfold chN
  rw [if_neg h0]
  cases M with
  | zero =>
    have e : cod (aV a) = (bsF a st).2 := hD.1
    rw [if_pos e]
  | succ k =>
    have hne : cod (aV a) ≠ (bsF a st).2 := fun e => hD.2 0 (by omega) e
    rw [if_neg hne]
    have : chK a st = k := by
      refine ld_stop (fun i hi => ?_) ?_ 3125 (by omega)
      · rw [decide_eq_false (fun q => ?_)]
        · rfl
        · obtain ⟨m, v, hm, hv, q⟩ := (mv_iff hw).mp q
          exact hD.2 (i + 1) (by omega) ⟨Or.inr rfl, (8 * m + v) / 8, (8 * m + v) % 8, q.1, q.2.1, q.2.2.2.2.2.1⟩
      · rw [decide_eq_true ((mv_iff hw).mpr ?_)]
        · rfl
        · obtain ⟨m, v, hm, hv, hok, hDk⟩ := Ds_pred hb hD
          exact ⟨m, v, hm, hv, mvP_of hw hc (Or.inr rfl) hm hv hok hDk (fun e => by
            rw [e] at hDk
            have := Ds_uniq hDk hD
            omega)⟩
    rw [this, if_pos (by omega)]
theorem chN_none {a : St} {st : Bool} (hw : WF a) (h0 : (bsF a st).1 ≠ 0) (hu : ∀ j, ¬ rs a st (bsF a st).2 j (cod (aV a))) : chN a st = 0 := by
  unfold chN
  have hu0 : ¬ cod (aV a) = (bsF a st).2 := hu 0
  rw [if_neg h0, if_neg hu0]
  have : chK a st = 3125 := by
    refine ld_all 3125 (fun i hi => ?_)
    rw [decide_eq_false (fun q => ?_)]
    · rfl
    · obtain ⟨m, v, hm, hv, q⟩ := (mv_iff hw).mp q
      exact hu (i + 1) ⟨Or.inr rfl, (8 * m + v) / 8, (8 * m + v) % 8, q.1, q.2.1, q.2.2.2.2.2.1⟩
  rw [this, if_neg (by omega)]
theorem mv_step {a : St} {st : Bool} {b far M c j : Nat} {w : Nat → Int32} (hw : WF a) (hb : okk a st b = true) (R : RV a st b far w) (hf : far < 2 ^ 29) (hM : M ≤ far) (hDM : Ds a st b M (cod (aV a))) (hc : c < 3125) (hD : Ds a st b (j + 1) c) (hj : j + 1 ≤ M) :
    lmF a w (rv c) j = mvF a st b c j ∧ mvF a st b c j < 40 ∧ mvF a st b c j / 8 < aN a ∧ mvF a st b c j % 8 ≤ aP a ∧ setd c (mvF a st b c j / 8) (mvF a st b c j % 8) < 3125 ∧ okk a st (setd c (mvF a st b c j / 8) (mvF a st b c j % 8)) = true ∧ Ds a st b j (setd c (mvF a st b c j / 8) (mvF a st b c j % 8)) := by
  have h5 := hw.1
  have h4 := hw.2.1
  have hn := rs_nod hb _ _ hD.1
  have eqv : ∀ i, lmP a w (rv c) j i ↔ mvP a st b c j i := by
    intro i
    constructor
    · rintro ⟨h1, h2, h3⟩
      have hel : setd c (i / 8) (i % 8) < 3125 := setd_lt hc (by omega)
      rw [← rv_setd hc (by omega) (by omega), RV_back R hf hel (by omega)] at h3
      have hne0 : setd c (i / 8) (i % 8) ≠ cod (aV a) := fun e => by
        rw [e] at h3
        have := Ds_uniq h3 hDM
        omega
      have hok := (rs_nod hb _ _ h3.1).resolve_right hne0
      have := mvP_of hw hc hn h1 h2 hok h3 (fun e => by
        rw [e] at h3
        have := Ds_uniq h3 hD
        omega)
      rw [show 8 * (i / 8) + i % 8 = i by omega] at this
      exact this
    · rintro ⟨h1, h2, h3, h4', h5', h6⟩
      have hel : setd c (i / 8) (i % 8) < 3125 := setd_lt hc (by omega)
      refine ⟨h1, h2, ?_⟩
      rw [← rv_setd hc (by omega) (by omega), RV_back R hf hel (by omega)]
      exact (Ds_Dl h5' j).mpr h6
  have e1 : lmF a w (rv c) j = mvF a st b c j := by
    unfold lmF mvF
    have : (fun i => !pB (lmP a w (rv c) j i)) = fun i => !pB (mvP a st b c j i) := funext fun i => by rw [propext (eqv i)]
    rw [this]
  obtain ⟨m, v, hm, hv, hok, hDk⟩ := Ds_pred hb hD
  have hP := mvP_of hw hc hn hm hv hok hDk (fun e => by
    rw [e] at hDk
    have := Ds_uniq hDk hD
    omega)
  obtain ⟨h1, h2⟩ := ld40_spec (P := mvP a st b c j) (i := 8 * m + v) (by omega) hP
  have h1 : mvF a st b c j < 40 := h1
  have h2 : mvP a st b c j (mvF a st b c j) := h2
  exact ⟨e1, h1, h2.1, h2.2.1, setd_lt hc (by have := h2.2.1; omega), h2.2.2.2.2.1, (Ds_Dl h2.2.2.2.2.1 j).mpr h2.2.2.2.2.2⟩
/-- a place that a move may lead to: below 0 just if it is open -/
theorem RV_neg {a : St} {st : Bool} {b far : Nat} {w : Nat → Int32} (h : RV a st b far w) (hf : far < 2 ^ 29) {c : Nat} (hc : c < 3125) (hn : nod a st c) : w (rv c) < 0 ↔ w (rv c) = -1 := by
  constructor
  · intro e
    by_cases q : ∃ i, i ≤ far ∧ rs a st b i c
    · obtain ⟨i, h1, h2⟩ := q
      obtain ⟨k, h3, h4, h5⟩ := least (fun i => rs a st b i c) i h2
      have := (h c hc).1 k (by omega) ⟨h4, h5⟩
      rw [this] at e
      exact absurd e (nI_pos (by omega))
    · have := (h c hc).2 (fun j hj hr => q ⟨j, hj, hr⟩)
      rw [this, if_pos (pB_t.mpr hn)]
  · intro e
    rw [e]
    decide
