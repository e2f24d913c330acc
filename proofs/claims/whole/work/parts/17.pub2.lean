/-! the class's calls: field -/
theorem am_le {p v : Nat} (hp : p < 1000) (hv : v < 1000) : nI p ≤ nI v - 1 ↔ p < v := by
  rw [Int32.le_iff_toInt_le, nI_toInt (by omega), show (1 : Int32) = nI 1 from rfl, pk_sub_toInt (by omega) (by omega)]
  omega
def OT (c : Nat) : Prop := c ≠ 2 ∧ c ≠ 7 ∧ c ≠ 8 ∧ c ≠ 9 ∧ c ≠ 10 ∧ c ≠ 11
def RJ (n : Nat) (c : Nat → Int32) (h : PH) (i v : Nat) (g : PH) : Prop := g.1 2 0 = nI (n / 4) ∧ g.1 2 1 = nI (fd (c 0)) ∧ g.1 2 2 = nI (5 ^ (i + 1)) ∧ g.1 2 3 = 0 ∧ g.1 2 4 = 0 ∧
  (∀ m, m < i + 1 → g.1 7 m = nI (fd (c (4 * m + 2))) ∧ g.1 8 m = nI (fd (c (4 * m + 4))) ∧ g.1 9 m = -1) ∧
  (∀ m w, (m < i ∧ w < fd (c 0)) ∨ (m = i ∧ w < v) → g.1 10 (4 * m + w) = nI (pkd (gvf (fd (c 0)) (fd (c (4 * m + 2))) (fd (c (4 * m + 4))) (w + 1)))) ∧ (∀ cc, OT cc → g.1 cc = h.1 cc) ∧ g.2 = h.2
def RI (n : Nat) (c : Nat → Int32) (h : PH) (i : Nat) (g : PH) : Prop := g.1 2 0 = nI (n / 4) ∧ g.1 2 1 = nI (fd (c 0)) ∧ g.1 2 2 = nI (5 ^ i) ∧ g.1 2 3 = 0 ∧ g.1 2 4 = 0 ∧
  (∀ m, m < i → g.1 7 m = nI (fd (c (4 * m + 2))) ∧ g.1 8 m = nI (fd (c (4 * m + 4))) ∧ g.1 9 m = -1) ∧
  (∀ m w, m < i ∧ w < fd (c 0) → g.1 10 (4 * m + w) = nI (pkd (gvf (fd (c 0)) (fd (c (4 * m + 2))) (fd (c (4 * m + 4))) (w + 1)))) ∧ (∀ cc, OT cc → g.1 cc = h.1 cc) ∧ g.2 = h.2
section PB2
variable {post : Option Value → PH → Prop} {h : PH} {s : Ab}
theorem ev_read {n : Nat} {c : Nat → Int32} (hG : PG n c h) (hF : isF n c = true) (k : ∀ h', CI (stF n c) h' → (∀ cc, OT cc → h'.1 cc = h.1 cc) → h'.2 = h.2 → post none h') : Ev 2 mX3_read [.ref 2, .ref 1] h post := by
  obtain ⟨hn1, hn2, hall⟩ := isF_all hF
  have hn := hG.1
  have hp := fig_p hF
  refine Ev.intro rfl (Nat.le_of_ble_eq_true rfl) (sX3_read_0 (ev_figureAt hG (k := 0) (by omega) (sX3_read_6 ?_)))
  rw [hp.1, show (if (4 : Int32) < nI (fd (c 0)) then (4 : Int32) else nI (fd (c 0))) = nI (fd (c 0)) by rw [show (4 : Int32) = nI 4 from rfl, mn_nI (by omega) (by omega), Nat.min_eq_left (by omega)]]
  rw [hG.2.1, show nI n / 4 = nI (n / 4) from pk_div (d := 4) (by omega) (by omega) (by omega), show (if (5 : Int32) < nI (n / 4) then (5 : Int32) else nI (n / 4)) = nI (n / 4) by rw [show (5 : Int32) = nI 5 from rfl, mn_nI (by omega) (by omega), Nat.min_eq_left (by omega)]]
  have hS : ∀ i, i ≤ n / 4 → ∀ g, RI n c h i g → G 2 mX3_read post 44 [some (.ref 2), some (.ref 1), some (.int (nI i)), none] [] g := by
    refine loopU (n / 4) (fun i hi ih g hg => ?_) (fun g hg => ?_)
    · obtain ⟨g1, g2, g3, g4, g5, g6, g7, g8, g9⟩ := hg
      have hmid := fig_mid hF hi
      refine sX3_read_44 (fun hc => ?_) (fun _ => sX3_read_52 ?_)
      · rw [g1, nI_leI (by omega) (by omega)] at hc; omega
      have ePG : ∀ g' : PH, (∀ cc, OT cc → g'.1 cc = h.1 cc) → PG n c g' := fun g' e => hG.same (fun k hk => e k (by unfold OT; omega))
      rw [g3, show nI (5 ^ i) * 5 = nI (5 ^ (i + 1)) by rw [show (5 : Int32) = nI 5 from rfl, pk_mul, Nat.pow_succ], show 4 * nI i + 2 = nI (4 * i + 2) by rw [show (4 : Int32) = nI 4 from rfl, pk_mul, show (2 : Int32) = nI 2 from rfl, nI_add]]
      have c1 : ∀ cc, OT cc → (upd2 g.1 2 2 (nI (5 ^ (i + 1))), g.2).1 cc = h.1 cc := fun cc ho => by
        show upd2 g.1 2 2 (nI (5 ^ (i + 1))) cc = _
        rw [upd2_ne ho.1]; exact g8 cc ho
      refine ev_figureAt (ePG _ c1) (by omega) (sX3_read_76 (vp_in_nI (by omega) (by omega)) ?_)
      rw [nI_clamp (by omega), hmid.1.1, show 4 * nI i + 4 = nI (4 * i + 4) by rw [show (4 : Int32) = nI 4 from rfl, pk_mul, nI_add]]
      have c2 : ∀ cc, OT cc → (upd2 (upd2 g.1 2 2 (nI (5 ^ (i + 1)))) 7 i (nI (fd (c (4 * i + 2)))), g.2).1 cc = h.1 cc := fun cc ho => by
        show upd2 (upd2 g.1 2 2 (nI (5 ^ (i + 1)))) 7 i (nI (fd (c (4 * i + 2)))) cc = _
        rw [upd2_ne ho.2.1]; exact c1 cc ho
      refine ev_figureAt (ePG _ c2) (by omega) (sX3_read_91 (vp_in_nI (by omega) (by omega)) (vp_in_nI (by omega) (by omega)) ?_)
      rw [nI_clamp (by omega), hmid.2.1]
      have hJ : ∀ v, v ≤ fd (c 0) → ∀ g, RJ n c h i v g → G 2 mX3_read post 101 [some (.ref 2), some (.ref 1), some (.int (nI i)), some (.int (nI v))] [] g := by
        refine loopU (fd (c 0)) (fun v hv jh g hg => ?_) (fun g hg => ?_)
        · obtain ⟨g1, g2, g3, g4, g5, g6, g7, g8, g9⟩ := hg
          refine sX3_read_101 (fun hc => ?_) (fun _ => sX3_read_109 (vp_in_nI (by omega) (by omega)) (vp_in_nI (by omega) (by omega)) ?_)
          · rw [g2, nI_leI (by omega) (by omega)] at hc; omega
          rw [nI_clamp (by omega), (g6 i (by omega)).1, (g6 i (by omega)).2.1]
          refine ev_lightAt g2 hp.2.2 hmid.1.2 hmid.2.2 hv (sX3_read_135 ?_ ?_)
          · rw [lt_idx]; exact vp_in_nI (by omega) (by omega)
          · rw [lt_idx, nI_clamp (by omega), nI_1]
            refine jh _ ⟨g1, g2, g3, g4, g5, g6, fun m w hmw => ?_, fun cc ho => ?_, g9⟩
            · show upd2 g.1 10 (4 * i + v) (nI (pkd (gvf (fd (c 0)) (fd (c (4 * i + 2))) (fd (c (4 * i + 4))) (v + 1)))) 10 (4 * m + w) = _
              rw [upd2_self]
              unfold upd
              by_cases e : m = i ∧ w = v
              · obtain ⟨rfl, rfl⟩ := e
                rw [if_pos rfl]
              · rw [if_neg (fun q => ?_)]
                · exact g7 m w (by omega)
                · have : w < 4 := by omega
                  have : v < 4 := by omega
                  exact e (by omega)
            · show upd2 g.1 10 (4 * i + v) _ cc = _
              rw [upd2_ne ho.2.2.2.2.1]; exact g8 cc ho
        · obtain ⟨g1, g2, g3, g4, g5, g6, g7, g8, g9⟩ := hg
          refine sX3_read_101 (fun hc => sX3_read_142 ?_) (fun hc => absurd (by rw [g2]; exact nI_le (Nat.le_refl _) (by omega)) hc)
          rw [nI_1]
          refine ih _ ⟨g1, g2, g3, g4, g5, g6, fun m w hmw => g7 m w (by omega), g8, g9⟩
      refine hJ 0 (by omega) _ ⟨?_, ?_, ?_, ?_, ?_, fun m hm => ?_, fun m w hmw => ?_, fun cc ho => ?_, g9⟩
      · exact g1
      · exact g2
      · rfl
      · exact g4
      · exact g5
      · show upd2 (upd2 (upd2 (upd2 g.1 2 2 (nI (5 ^ (i + 1)))) 7 i (nI (fd (c (4 * i + 2))))) 8 i (nI (fd (c (4 * i + 4))))) 9 i (-1) 7 m = _ ∧ upd2 (upd2 (upd2 (upd2 g.1 2 2 (nI (5 ^ (i + 1)))) 7 i (nI (fd (c (4 * i + 2))))) 8 i (nI (fd (c (4 * i + 4))))) 9 i (-1) 8 m = _ ∧ upd2 (upd2 (upd2 (upd2 g.1 2 2 (nI (5 ^ (i + 1)))) 7 i (nI (fd (c (4 * i + 2))))) 8 i (nI (fd (c (4 * i + 4))))) 9 i (-1) 9 m = _
        rw [upd2_ne (k := 7) (by decide), upd2_ne (k := 7) (by decide), upd2_self, upd2_ne (k := 8) (by decide), upd2_self, upd2_self, upd2_ne (k := 7) (by decide), upd2_ne (k := 8) (by decide), upd2_ne (k := 8) (by decide), upd2_ne (k := 9) (by decide), upd2_ne (k := 9) (by decide), upd2_ne (k := 9) (by decide)]
        by_cases e : m = i
        · subst e
          rw [pk_us, pk_us, pk_us]
          exact ⟨rfl, rfl, rfl⟩
        · rw [pk_un e, pk_un e, pk_un e]
          exact g6 m (by omega)
      · exact g7 m w (by omega)
      · show upd2 (upd2 (upd2 (upd2 g.1 2 2 (nI (5 ^ (i + 1)))) 7 i (nI (fd (c (4 * i + 2))))) 8 i (nI (fd (c (4 * i + 4))))) 9 i (-1) cc = _
        rw [upd2_ne ho.2.2.2.1, upd2_ne ho.2.2.1]
        exact c2 cc ho
    · obtain ⟨g1, g2, g3, g4, g5, g6, g7, g8, g9⟩ := hg
      refine sX3_read_44 (fun _ => sX3_read_148 (ev_fill11 (sX3_read_157 ?_))) (fun hc => absurd (by rw [g1]; exact nI_le (Nat.le_refl _) (by omega)) hc)
      refine ev_measureSlack (p := fd (c 0)) (C := fun _ => 20) g2 hp.2.2 (fun q hq => ⟨?_, by omega⟩) (sX3_read_161 ?_)
      · rw [setA_self]
        exact if_pos (by omega)
      · refine k _ ⟨?_, ?_, fun _ => ?_, ?_, ?_, ?_, fun m hm => ?_, fun m hm v hv => ?_, fun q hq => ?_⟩ (fun cc ho => ?_) g9
        · exact g1
        · exact g2
        · exact g3
        · exact g4
        · exact g5
        · rfl
        · have hm : m < n / 4 := hm
          refine ⟨?_, ?_, ?_⟩
          · show g.1 7 m = nI (if m < n / 4 then fd (c (4 * m + 2)) else 0)
            rw [if_pos hm]; exact (g6 m hm).1
          · show g.1 8 m = nI (if m < n / 4 then fd (c (4 * m + 4)) else 0)
            rw [if_pos hm]; exact (g6 m hm).2.1
          · exact (g6 m hm).2.2
        · have hm : m < n / 4 := hm
          show g.1 10 (4 * m + v) = nI (pkd (gvf (fd (c 0)) (if m < n / 4 then fd (c (4 * m + 2)) else 0) (if m < n / 4 then fd (c (4 * m + 4)) else 0) (v + 1)))
          rw [if_pos hm, if_pos hm]
          exact g7 m v ⟨hm, hv⟩
        · have hq : q < fd (c 0) := hq
          show (if q < 4 then (20 : Int32) else g.1 11 q) = nI 20
          exact if_pos (by omega)
        · show upd2 (setA g 11 _).1 2 5 _ cc = _
          rw [upd2_ne ho.1, setA_ne ho.2.2.2.2.2]
          exact g8 cc ho
  refine hS 0 (Nat.zero_le _) _ ⟨rfl, rfl, rfl, rfl, rfl, fun m hm => by omega, fun m w hmw => by omega, fun cc ho => ?_, rfl⟩
  show upd2 (upd2 (upd2 (upd2 (upd2 h.1 2 1 _) 2 0 _) 2 2 1) 2 3 0) 2 4 0 cc = _
  rw [upd2_ne ho.1, upd2_ne ho.1, upd2_ne ho.1, upd2_ne ho.1, upd2_ne ho.1]
theorem XI.p4 (X : XI s h) : h.1 4 0 = 0 := X.2.2.2.2.2.1.1
theorem XI.p5 (X : XI s h) : h.1 5 0 = 1 := X.2.2.2.2.2.2.1
theorem cx_field (X : XI s h) (k : ∀ h', XI (fieldS s).2 h' → FrX h h' → post (some (.int (fieldS s).1)) h') : Ev 4 mX4_field [.ref 0] h post := by
  obtain ⟨hw, hc, hg, hf, hf2, hp, hp2⟩ := id X
  refine Ev.intro rfl (Nat.le_of_ble_eq_true rfl) (sX4_field_0 (ev_isField hg (sX4_field_7 (fun q => sX4_field_14 ?_) (fun q => sX4_field_10 ?_))))
  · rw [b2i_n] at q
    refine ev_read hg q (fun h1 c1 o1 l1 => sX4_field_25 (ev_forget (fun h2 F => sX4_field_40 ?_)))
    have e : fieldS s = (nI (s.2.1 / 4), (stF s.2.1 s.2.2.1, 0, s.2.2.1, s.2.2.2.1 + 1, s.2.2.2.2)) := if_pos q
    have hn2 : h2.1 2 0 = nI (s.2.1 / 4) := by
      rw [F.1 2 (by decide) (by decide)]
      show upd2 h1.1 1 1 0 2 0 = _
      rw [upd2_ne (by decide)]
      exact c1.1
    have h03 : h2.1 0 3 = s.2.2.2.1 := by
      rw [F.1 0 (by decide) (by decide)]
      show upd2 h1.1 1 1 0 0 3 = _
      rw [upd2_ne (by decide), o1 0 (by unfold OT; decide)]
      exact hf
    rw [hn2, h03]
    have := k (upd2 h2.1 0 3 (s.2.2.2.1 + 1), h2.2) ?_ ?_
    · rw [e] at this
      exact this
    · rw [e]
      have F2 : FG (upd2 h2.1 0 3 (s.2.2.2.1 + 1), h2.2) (upd2 h2.1 0 3 (s.2.2.2.1 + 1), h2.2) := ⟨fun _ _ _ => rfl, rfl, F.2.2.1, F.2.2.2.1, F.2.2.2.2.1, F.2.2.2.2.2.1, rfl, rfl⟩
      refine XI.of (h1 := (upd2 h2.1 0 3 (s.2.2.2.1 + 1), h2.2)) (stF_wf hg.1 q) (c1.same (fun cc hcc => ?_)) ⟨Nat.zero_le _, ?_, fun j hj => absurd hj (Nat.not_lt_zero j)⟩ ?_ ?_ ?_ ?_ F2
      · show upd2 h2.1 0 3 _ cc = _
        rw [upd2_ne (by omega), F.1 cc (by omega) (by omega)]
        exact upd2_ne (by omega)
      · show h2.1 1 1 = nI 0
        rw [F.1 1 (by decide) (by decide)]
        rfl
      · rfl
      · show h2.1 0 4 = s.2.2.2.2
        rw [F.1 0 (by decide) (by decide)]
        show upd2 h1.1 1 1 0 0 4 = _
        rw [upd2_ne (by decide), o1 0 (by unfold OT; decide)]
        exact hf2
      · show h2.1 4 0 = 0
        rw [F.2.2.2.2.2.2.1]
        show upd2 h1.1 1 1 0 4 0 = _
        rw [upd2_ne (by decide), o1 4 (by unfold OT; decide)]
        exact X.p4
      · show h2.1 5 0 = 1
        rw [F.2.2.2.2.2.2.2]
        show upd2 h1.1 1 1 0 5 0 = _
        rw [upd2_ne (by decide), o1 5 (by unfold OT; decide)]
        exact X.p5
    · refine ⟨fun cc hcc => ?_, ?_⟩
      · show upd2 h2.1 0 3 _ cc = _
        rw [upd2_ne (by omega), F.1 cc (by omega) (by omega)]
        show upd2 h1.1 1 1 0 cc = _
        rw [upd2_ne (by omega)]
        exact o1 cc (by unfold OT; omega)
      · show h2.2 = h.2
        rw [F.2.1]
        exact l1
  · rw [b2i_0] at q
    have e : fieldS s = (-1004, s) := if_neg (by rw [q]; decide)
    have := k h (by rw [e]; exact X) (FrX.rf h)
    rw [e] at this
    exact this
end PB2
