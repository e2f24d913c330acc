/-! places and codes: figures, neighbours -/
def dp (x m : Nat) : Nat := x / 5 ^ m % 5
def setp (x m v : Nat) : Nat := x - dp x m * 5 ^ m + v * 5 ^ m
theorem dg_lt (c m : Nat) : dg c m < 5 := Nat.mod_lt _ (by omega)
theorem dp_lt (c m : Nat) : dp c m < 5 := Nat.mod_lt _ (by omega)
theorem setp_lt {x m v : Nat} (hx : x < 3125) (hm : m < 5) (hv : v < 5) : setp x m v < 3125 := by
  unfold setp dp
  rcases cases5 hm with rfl | rfl | rfl | rfl | rfl <;> simp only [Nat.reducePow] <;> omega
theorem dp_setp1 {x m v : Nat} (hx : x < 3125) (hm : m < 5) (hv : v < 5) : dp (setp x m v) m = v := by
  unfold setp dp
  rcases cases5 hm with rfl | rfl | rfl | rfl | rfl <;> simp only [Nat.reducePow] <;> omega
theorem dp_setp2 {x m v k : Nat} (hx : x < 3125) (hm : m < 5) (hv : v < 5) (hk : k < 5) (e : k ≠ m) : dp (setp x m v) k = dp x k := by
  unfold setp dp
  rcases cases5 hm with rfl | rfl | rfl | rfl | rfl <;> rcases cases5 hk with rfl | rfl | rfl | rfl | rfl <;> first | exact absurd rfl e | (simp only [Nat.reducePow]; omega)
theorem dp_setp {x m v k : Nat} (hx : x < 3125) (hm : m < 5) (hv : v < 5) (hk : k < 5) : dp (setp x m v) k = if k = m then v else dp x k := by
  by_cases e : k = m
  · rw [if_pos e, e, dp_setp1 hx hm hv]
  · rw [if_neg e, dp_setp2 hx hm hv hk e]
theorem dp_ext {x y : Nat} (hx : x < 3125) (hy : y < 3125) (h : ∀ m, m < 5 → dp x m = dp y m) : x = y := by
  have h0 := h 0 (by omega); have h1 := h 1 (by omega); have h2 := h 2 (by omega); have h3 := h 3 (by omega); have h4 := h 4 (by omega)
  unfold dp at h0 h1 h2 h3 h4
  simp only [Nat.reducePow] at h0 h1 h2 h3 h4
  omega
theorem rv_sum (c : Nat) : rv c = dg c 0 + dg c 1 * 5 + dg c 2 * 25 + dg c 3 * 125 + dg c 4 * 625 := by
  unfold rv plc
  simp [sm]
theorem dp_rv (c : Nat) {m : Nat} (hm : m < 5) : dp (rv c) m = dg c m := by
  have h0 := dg_lt c 0; have h1 := dg_lt c 1; have h2 := dg_lt c 2; have h3 := dg_lt c 3; have h4 := dg_lt c 4
  rw [rv_sum]
  unfold dp
  rcases cases5 hm with rfl | rfl | rfl | rfl | rfl <;> simp only [Nat.reducePow] <;> omega
theorem dg_dp (c : Nat) {m : Nat} (hm : m < 5) : dg c m = dp c (4 - m) := rfl
theorem setd_setp (c m v : Nat) : setd c m v = setp c (4 - m) v := rfl
theorem setd_lt {c m v : Nat} (hc : c < 3125) (hv : v < 5) : setd c m v < 3125 := by
  rw [setd_setp]; exact setp_lt hc (by omega) hv
theorem dg_setd {c m v k : Nat} (hc : c < 3125) (hm : m < 5) (hv : v < 5) (hk : k < 5) : dg (setd c m v) k = if k = m then v else dg c k := by
  rw [dg_dp _ hk, dg_dp _ hk, setd_setp, dp_setp hc (by omega) hv (by omega)]
  by_cases e : k = m
  · rw [if_pos e, if_pos (by omega)]
  · rw [if_neg e, if_neg (by omega)]
theorem dg_ext {x y : Nat} (hx : x < 3125) (hy : y < 3125) (h : ∀ m, m < 5 → dg x m = dg y m) : x = y := dp_ext hx hy (fun m hm => by
  have := h (4 - m) (by omega)
  unfold dg at this
  rwa [show 4 - (4 - m) = m by omega] at this)
theorem rv_setd {c m v : Nat} (hc : c < 3125) (hm : m < 5) (hv : v < 5) : rv (setd c m v) = setp (rv c) m v := by
  refine dp_ext (rv_lt (setd_lt hc hv)) (setp_lt (rv_lt hc) hm hv) (fun k hk => ?_)
  rw [dp_rv _ hk, dg_setd hc hm hv hk, dp_setp (rv_lt hc) hm hv hk, dp_rv _ hk]
theorem setd_self {c m : Nat} (hc : c < 3125) (hm : m < 5) : setd c m (dg c m) = c := by
  refine dg_ext (setd_lt hc (dg_lt c m)) hc (fun k hk => ?_)
  rw [dg_setd hc hm (dg_lt c m) hk]
  split
  · rename_i e; rw [e]
  · rfl
theorem setd_back {c m v : Nat} (hc : c < 3125) (hm : m < 5) (hv : v < 5) : setd (setd c m v) m (dg c m) = c := by
  refine dg_ext (setd_lt (setd_lt hc hv) (dg_lt c m)) hc (fun k hk => ?_)
  rw [dg_setd (setd_lt hc hv) hm (dg_lt c m) hk, dg_setd hc hm hv hk]
  split
  · rename_i e; rw [e]
  · rfl
/-- x is place p with another figure, or with the same -/
def nb (a : St) (pl x : Nat) : Prop := ∃ m v, m < aN a ∧ v ≤ aP a ∧ x = setp pl m v
/-! the class's rings -/
section RNG
variable {post : Option Value → PH → Prop} {h : PH} {a : St}
theorem ev_wayFrom {x : Nat} (hx : x < 3125) (k : post (some (.int (h.1 12 x))) h) : Ev 0 mX2_wayFrom [.ref 3, .int (nI x)] h post := by
  refine Ev.intro rfl (Nat.le_of_ble_eq_true rfl) (sX2_wayFrom_0 (fun hc => absurd hc (nI_pos (by omega))) (fun _ => sX2_wayFrom_4 (fun hc => ?_) (fun _ => sX2_wayFrom_13 (vp_in_nI hx (by omega)) ?_)))
  · have hc : nI 3125 ≤ nI x := hc
    rw [nI_leI (by omega) (by omega)] at hc; omega
  · rw [nI_clamp (by omega)]; exact k
theorem ev_setWay {x : Nat} {z v : Int32} (e : z = nI x) (hx : x < 3125) (k : post none (upd2 h.1 12 x v, h.2)) : Ev 0 mX2_setWay [.ref 3, .int z, .int v] h post := by
  subst e
  refine Ev.intro rfl (Nat.le_of_ble_eq_true rfl) (sX2_setWay_0 (fun hc => absurd hc (nI_pos (by omega))) (fun _ => sX2_setWay_4 (fun hc => ?_) (fun _ => sX2_setWay_13 (vp_in_nI hx (by omega)) ?_)))
  · have hc : nI 3125 ≤ nI x := hc
    rw [nI_leI (by omega) (by omega)] at hc; omega
  · rw [nI_clamp (by omega)]; exact k
theorem place_parts {pl m v : Nat} (hp : pl < 3125) (hm : m < 5) (hv : v < 5) : nI pl - (nI (pl / 5 ^ m) - nI (pl / 5 ^ m) / 5 * 5) * stp5 m = nI (pl - dp pl m * 5 ^ m) ∧ nI (pl - dp pl m * 5 ^ m + v * 5 ^ m) + stp5 m = nI (pl - dp pl m * 5 ^ m + (v + 1) * 5 ^ m) := by
  have hd : pl / 5 ^ m ≤ pl := Nat.div_le_self _ _
  have hle : dp pl m * 5 ^ m ≤ pl := by
    unfold dp
    exact Nat.le_trans (Nat.mul_le_mul_right _ (Nat.mod_le _ _)) (Nat.div_mul_le_self _ _)
  refine ⟨?_, ?_⟩
  · rw [show nI (pl / 5 ^ m) - nI (pl / 5 ^ m) / 5 * 5 = nI (pl / 5 ^ m % 5) from pk_rem (d := 5) (by omega) (by omega) (by omega), stp5_eq m hm, pk_mul]
    exact pk_sub hle
  · rw [stp5_eq m hm, nI_add, Nat.add_mul, Nat.one_mul, Nat.add_assoc]
theorem ev_markBeside {pl f : Nat} {w0 : Nat → Int32} (hI : CI a h) (hw : WF a) (hp : pl < 3125) (hf : f < 2 ^ 30) (h12 : h.1 12 = w0) (k : ∀ w' b, (∀ x, x < 3125 → (nb a pl x → w0 x = -1 → w' x = nI f) ∧ (¬ (nb a pl x ∧ w0 x = -1) → w' x = w0 x)) → (b = true ↔ ∃ x, x < 3125 ∧ nb a pl x ∧ w0 x = -1) → post (some (.int (b2i b))) (setA h 12 w')) : Ev 1 mX2_markBeside [.ref 3, .ref 2, .int (nI pl), .int (nI f)] h post := by
  have h5 := hw.1
  have h4 := hw.2.1
  have hne : ¬ nI f = -1 := fun e => by
    have := congrArg Int32.toInt e
    rw [nI_toInt (by omega), show (-1 : Int32).toInt = -1 by decide] at this
    omega
  refine Ev.intro rfl (Nat.le_of_ble_eq_true rfl) (sX2_markBeside_0 ?_)
  have key : ∀ m, m ≤ aN a → ∀ w' b, (∀ x, x < 3125 → ((∃ m' v', m' < m ∧ v' ≤ aP a ∧ x = setp pl m' v') → w0 x = -1 → w' x = nI f) ∧ (¬ ((∃ m' v', m' < m ∧ v' ≤ aP a ∧ x = setp pl m' v') ∧ w0 x = -1) → w' x = w0 x)) → (b = true ↔ ∃ x, x < 3125 ∧ (∃ m' v', m' < m ∧ v' ≤ aP a ∧ x = setp pl m' v') ∧ w0 x = -1) → G 1 mX2_markBeside post 9 [some (.ref 3), some (.ref 2), some (.int (nI pl)), some (.int (nI f)), some (.int (b2i b)), some (.int (nI (pl / 5 ^ m))), some (.int (nI m)), none, none] [] (setA h 12 w') := by
    refine loopU (aN a) (fun m hm ih w' b hw1 hb => ?_) (fun w' b hw1 hb => ?_)
    · have hIg : CI a (setA h 12 w') := hI.same (fun z hz => setA_ne (by omega))
      refine sX2_markBeside_9 (fun hc => ?_) (fun _ => sX2_markBeside_18 (vp_in_nI (by omega) (by omega)) ?_)
      · rw [hIg.n, nI_leI (by omega) (by omega)] at hc; omega
      rw [nI_clamp (by omega), (place_parts (v := 0) hp (by omega) (by omega)).1]
      have hdl : dp pl m * 5 ^ m ≤ pl := by
        unfold dp
        exact Nat.le_trans (Nat.mul_le_mul_right _ (Nat.mod_le _ _)) (Nat.div_mul_le_self _ _)
      have inner : ∀ v, v ≤ aP a + 1 → ∀ w' b, (∀ x, x < 3125 → ((∃ m' v', (m' < m ∧ v' ≤ aP a ∨ m' = m ∧ v' < v) ∧ x = setp pl m' v') → w0 x = -1 → w' x = nI f) ∧ (¬ ((∃ m' v', (m' < m ∧ v' ≤ aP a ∨ m' = m ∧ v' < v) ∧ x = setp pl m' v') ∧ w0 x = -1) → w' x = w0 x)) → (b = true ↔ ∃ x, x < 3125 ∧ (∃ m' v', (m' < m ∧ v' ≤ aP a ∨ m' = m ∧ v' < v) ∧ x = setp pl m' v') ∧ w0 x = -1) → G 1 mX2_markBeside post 36 [some (.ref 3), some (.ref 2), some (.int (nI pl)), some (.int (nI f)), some (.int (b2i b)), some (.int (nI (pl / 5 ^ m))), some (.int (nI m)), some (.int (nI (pl - dp pl m * 5 ^ m + v * 5 ^ m))), some (.int (nI v - 1))] [] (setA h 12 w') := by
        refine loopU (aP a + 1) (fun v hv jh w' b hw1 hb => ?_) (fun w' b hw1 hb => ?_)
        · have hIg : CI a (setA h 12 w') := hI.same (fun z hz => setA_ne (by omega))
          have hlt := setp_lt (v := v) hp (show m < 5 by omega) (by omega)
          refine sX2_markBeside_36 (fun hc => ?_) (fun _ => sX2_markBeside_45 (ev_wayFrom (x := setp pl m v) hlt (sX2_markBeside_51 (fun hc => sX2_markBeside_65 (vp_in_nI (by omega) (by omega)) ?_) (fun hc => sX2_markBeside_55 (ev_setWay (x := setp pl m v) rfl hlt (sX2_markBeside_62 (sX2_markBeside_65 (vp_in_nI (by omega) (by omega)) ?_)))))))
          · rw [hIg.p, am_le (by omega) (by omega)] at hc; omega
          · have hc : ¬ (setA h 12 w').1 12 (setp pl m v) = -1 := hc
            rw [setA_self] at hc
            rw [nI_clamp (by omega), (place_parts hp (by omega) (by omega)).2, show nI v - 1 + 1 = nI (v + 1) - 1 by rw [Int32.sub_add_cancel, nI_pred]]
            have old : w0 (setp pl m v) = -1 → ∃ m' v', (m' < m ∧ v' ≤ aP a ∨ m' = m ∧ v' < v) ∧ setp pl m v = setp pl m' v' := fun q => by
              apply Classical.byContradiction
              intro hn
              exact hc (by rw [(hw1 _ hlt).2 (fun z => hn z.1)]; exact q)
            refine jh w' b (fun x hx => ⟨fun ⟨m', v', q, e⟩ q2 => ?_, fun q => (hw1 x hx).2 (fun z => q ⟨?_, z.2⟩)⟩) (hb.trans ⟨fun ⟨x, h1, ⟨m', v', q, e⟩, h3⟩ => ⟨x, h1, ⟨m', v', by omega, e⟩, h3⟩, fun ⟨x, h1, ⟨m', v', q, e⟩, h3⟩ => ?_⟩)
            · by_cases z : m' = m ∧ v' = v
              · obtain ⟨rfl, rfl⟩ := z
                subst e
                obtain ⟨m2, v2, q3, e3⟩ := old q2
                exact (hw1 _ hx).1 ⟨m2, v2, q3, e3⟩ q2
              · exact (hw1 x hx).1 ⟨m', v', by omega, e⟩ q2
            · obtain ⟨m', v', q3, e⟩ := z.1
              exact ⟨m', v', by omega, e⟩
            · by_cases z : m' = m ∧ v' = v
              · obtain ⟨rfl, rfl⟩ := z
                subst e
                obtain ⟨m2, v2, q3, e3⟩ := old h3
                exact ⟨_, h1, ⟨m2, v2, q3, e3⟩, h3⟩
              · exact ⟨x, h1, ⟨m', v', by omega, e⟩, h3⟩
          · have hc : (setA h 12 w').1 12 (setp pl m v) = -1 := hc
            rw [setA_self] at hc
            have hw0 : w0 (setp pl m v) = -1 := by
              apply Classical.byContradiction
              intro hn
              exact hn (by rw [← (hw1 _ hlt).2 (fun z => hn z.2)]; exact hc)
            have e1 : (upd2 (setA h 12 w').1 12 (setp pl m v) (nI f), (setA h 12 w').2) = setA h 12 (upd w' (setp pl m v) (nI f)) := by rw [setA_upd]
            rw [nI_clamp (by omega), (place_parts hp (by omega) (by omega)).2, show nI v - 1 + 1 = nI (v + 1) - 1 by rw [Int32.sub_add_cancel, nI_pred]]
            have := jh (upd w' (setp pl m v) (nI f)) true (fun x hx => ⟨fun ⟨m', v', q, e⟩ q2 => ?_, fun q => ?_⟩) ⟨fun _ => ⟨_, hlt, ⟨m, v, Or.inr ⟨rfl, by omega⟩, rfl⟩, hw0⟩, fun _ => rfl⟩
            · rw [← e1] at this
              exact this
            · by_cases z : x = setp pl m v
              · rw [z, pk_us]
              · rw [pk_un z]
                exact (hw1 x hx).1 ⟨m', v', by
                  by_cases y : m' = m ∧ v' = v
                  · obtain ⟨rfl, rfl⟩ := y; exact absurd e z
                  · omega, e⟩ q2
            · have z : x ≠ setp pl m v := fun z => q ⟨⟨m, v, Or.inr ⟨rfl, by omega⟩, z⟩, by rw [z]; exact hw0⟩
              rw [pk_un z]
              refine (hw1 x hx).2 (fun y => q ⟨?_, y.2⟩)
              obtain ⟨m', v', q3, e⟩ := y.1
              exact ⟨m', v', by omega, e⟩
        · have hIg : CI a (setA h 12 w') := hI.same (fun z hz => setA_ne (by omega))
          refine sX2_markBeside_36 (fun _ => sX2_markBeside_82 ?_) (fun hc => absurd (by rw [hIg.p, am_le (by omega) (by omega)]; omega) hc)
          rw [nI_1, show nI (pl / 5 ^ m) / 5 = nI (pl / 5 ^ (m + 1)) by rw [show nI (pl / 5 ^ m) / 5 = nI (pl / 5 ^ m / 5) from pk_div (d := 5) (by have := Nat.div_le_self pl (5 ^ m); omega) (by omega) (by omega), Nat.div_div_eq_div_mul, Nat.pow_succ]]
          have eqv : ∀ x, (∃ m' v', (m' < m ∧ v' ≤ aP a ∨ m' = m ∧ v' < aP a + 1) ∧ x = setp pl m' v') ↔ ∃ m' v', m' < m + 1 ∧ v' ≤ aP a ∧ x = setp pl m' v' := fun x => ⟨fun ⟨m', v', q, e⟩ => ⟨m', v', by omega, by omega, e⟩, fun ⟨m', v', q, q2, e⟩ => ⟨m', v', by omega, e⟩⟩
          refine ih w' b (fun x hx => ?_) ?_
          · rw [← eqv x]; exact hw1 x hx
          · rw [hb]
            exact ⟨fun ⟨x, h1, h2, h3⟩ => ⟨x, h1, (eqv x).mp h2, h3⟩, fun ⟨x, h1, h2, h3⟩ => ⟨x, h1, (eqv x).mpr h2, h3⟩⟩
      have st0 := inner 0 (by omega) w' b (fun x hx => ?_) ?_
      · rw [Nat.zero_mul, Nat.add_zero] at st0
        exact st0
      · refine ⟨fun ⟨m', v', q, e⟩ => (hw1 x hx).1 ⟨m', v', by omega, by omega, e⟩, fun q => (hw1 x hx).2 (fun z => q ⟨?_, z.2⟩)⟩
        obtain ⟨m', v', q3, q4, e⟩ := z.1
        exact ⟨m', v', by omega, e⟩
      · rw [hb]
        exact ⟨fun ⟨x, h1, ⟨m', v', q, q2, e⟩, h3⟩ => ⟨x, h1, ⟨m', v', by omega, e⟩, h3⟩, fun ⟨x, h1, ⟨m', v', q, e⟩, h3⟩ => ⟨x, h1, ⟨m', v', by omega, by omega, e⟩, h3⟩⟩
    · have hIg : CI a (setA h 12 w') := hI.same (fun z hz => setA_ne (by omega))
      refine sX2_markBeside_9 (fun _ => sX2_markBeside_94 (b2i_nar b) (k w' b hw1 hb)) (fun hc => absurd (by rw [hIg.n]; exact nI_le (Nat.le_refl _) (by omega)) hc)
  have st0 := key 0 (Nat.zero_le _) w0 false (fun x hx => ⟨fun ⟨m', v', q, _⟩ => by omega, fun _ => rfl⟩) ⟨fun q => (by cases q), fun ⟨x, h1, ⟨m', v', q, _⟩, h3⟩ => by omega⟩
  rw [← h12, setA_id, Nat.pow_zero, Nat.div_one] at st0
  exact st0
end RNG
