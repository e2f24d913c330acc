/-! the class's digest -/
theorem nIi {w : Nat} (hw : w < 1000) : (nI w).toInt = (w : Int) := nI_toInt (by omega)
theorem mirrorS_nI {s : Ab} (hw : WF s.1) {m w : Nat} (hm : m < aN s.1) (hw6 : w < 6) : mirrorS s (nI m) (nI w) = ofMir s.1 m w := by
  have := hw.1
  unfold mirrorS
  rw [if_neg (by rw [ix_nI hm (by omega)]; decide), nIi (by omega), if_neg (by omega), nI_clamp (by omega)]
theorem patchS_nI {s : Ab} (hw : WF s.1) {q w : Nat} (hq : q < aP s.1) (hw4 : w < 4) : patchS s (nI q) (nI w) = ofPat s.1 q w := by
  have := hw.2.1
  unfold patchS
  rw [if_neg (by rw [ix_nI hq (by omega)]; decide), nIi (by omega), if_neg (by omega), nI_clamp (by omega)]
theorem tradeS_nI {s : Ab} (hn : 0 < aN s.1) {w : Nat} (hw3 : w < 3) : tradeS s (nI w) = tradeA s.1 w := by
  unfold tradeS
  rw [if_neg (by omega), nIi (by omega), if_neg (by omega)]
theorem bestS_nI {s : Ab} (hn : 0 < aN s.1) {st : Bool} {w : Nat} (hw3 : w = 0 ∨ w = 1 ∨ 10 ≤ w ∧ w ≤ 14) : bestS s st (nI w) = bestA s.1 st w := by
  unfold bestS
  rw [if_neg (by omega), nIi (by omega), if_pos (by omega)]
theorem changeS_nI {s : Ab} (hn : 0 < aN s.1) {st : Bool} {w : Nat} (hw3 : w = 0 ∨ 10 ≤ w ∧ w ≤ 24) : changeS s st (nI w) = changeA s.1 st w := by
  unfold changeS
  rw [if_neg (by omega), nIi (by omega), if_pos (by omega)]
theorem hsh_eq (y : Int64) (x : Int32) : 31 * y + x.toInt64 = hsh y x := rfl
section DGP
variable {post : Option Value → PH → Prop} {h : PH} {s : Ab}
theorem ev_digestOfParts {y : Int64} (X : XI s h) (k : post (some (.long (hsP s.1 (hsM s.1 y (aN s.1)) (aP s.1)))) h) : Ev 5 mX4_digestOfParts [.ref 0, .long y] h post := by
  obtain ⟨hw, hc, hg, hf, hf2, hp, hp2⟩ := id X
  have h5 := hw.1
  have h4 := hw.2.1
  refine Ev.intro rfl (Nat.le_of_ble_eq_true rfl) (sX4_digestOfParts_0 ?_)
  refine loopU (S := fun m => G 5 mX4_digestOfParts post 5 [some (.ref 0), none, none, some (.long (hsM s.1 y m)), none, some (.int (nI m)), none] [] h) (aN s.1) (fun m hm ih => ?_) ?_ 0 (Nat.zero_le _)
  · refine sX4_digestOfParts_5 (fun q => ?_) (fun _ => sX4_digestOfParts_17 ?_)
    · rw [hc.n, nI_leI (by omega) (by omega)] at q; omega
    refine loopU (S := fun w => G 5 mX4_digestOfParts post 20 [some (.ref 0), none, none, some (.long (hshR (fun w => ofMir s.1 m w) w (hsM s.1 y m))), none, some (.int (nI m)), some (.int (nI w))] [] h) 6 (fun w hw6 jh => ?_) ?_ 0 (Nat.zero_le _)
    · refine sX4_digestOfParts_20 (fun q => ?_) (fun _ => sX4_digestOfParts_26 (cx_mirror X (sX4_digestOfParts_39 ?_)))
      · rw [show (5 : Int32) = nI 5 from rfl, nI_ltI (by omega) (by omega)] at q; omega
      rw [mirrorS_nI hw hm hw6, nI_1, hsh_eq]
      exact jh
    · refine sX4_digestOfParts_20 (fun _ => sX4_digestOfParts_48 ?_) (fun q => absurd (by decide) q)
      rw [nI_1]
      exact ih
  · refine sX4_digestOfParts_5 (fun _ => sX4_digestOfParts_54 ?_) (fun q => absurd (by rw [hc.n]; exact nI_le (Nat.le_refl _) (by omega)) q)
    refine loopU (S := fun m => G 5 mX4_digestOfParts post 57 [some (.ref 0), none, none, some (.long (hsP s.1 (hsM s.1 y (aN s.1)) m)), none, some (.int (nI m)), none] [] h) (aP s.1) (fun m hm ih => ?_) ?_ 0 (Nat.zero_le _)
    · refine sX4_digestOfParts_57 (fun q => ?_) (fun _ => sX4_digestOfParts_69 ?_)
      · rw [hc.p, nI_leI (by omega) (by omega)] at q; omega
      refine loopU (S := fun w => G 5 mX4_digestOfParts post 72 [some (.ref 0), none, none, some (.long (hshR (fun w => ofPat s.1 m w) w (hsP s.1 (hsM s.1 y (aN s.1)) m))), none, some (.int (nI m)), some (.int (nI w))] [] h) 4 (fun w hw6 jh => ?_) ?_ 0 (Nat.zero_le _)
      · refine sX4_digestOfParts_72 (fun q => ?_) (fun _ => sX4_digestOfParts_78 (cx_patch X (sX4_digestOfParts_91 ?_)))
        · rw [show (3 : Int32) = nI 3 from rfl, nI_ltI (by omega) (by omega)] at q; omega
        rw [patchS_nI hw hm hw6, nI_1, hsh_eq]
        exact jh
      · refine sX4_digestOfParts_72 (fun _ => sX4_digestOfParts_100 ?_) (fun q => absurd (by decide) q)
        rw [nI_1]
        exact ih
    · exact sX4_digestOfParts_57 (fun _ => sX4_digestOfParts_106 k) (fun q => absurd (by rw [hc.p]; exact nI_le (Nat.le_refl _) (by omega)) q)
end DGP
theorem dig_plan4 {post : Option Value → PH → Prop} {h : PH} {s : Ab} {x3 : Int32} {y : Int64} (hn : 0 < aN s.1) (X : XI s h) (k : ∀ h', XI s h' → FrX h h' → G 11 mX4_digest post 148 [some (.ref 0), some (.long (hsPl s.1 false y)), none, some (.int x3), none, none] [] h') : G 11 mX4_digest post 34 [some (.ref 0), some (.long y), none, some (.int x3), none, none] [] h := by
  refine sX4_digest_34 (cx_best4 (w := nI 0) X (fun h1 X1 F1 => sX4_digest_49 (cx_best4 (w := nI 1) X1 (fun h2 X2 F2 => sX4_digest_64 ?_))))
  rw [bestS_nI hn (by omega), bestS_nI hn (by omega), hsh_eq, hsh_eq]
  have L1 : ∀ i, i ≤ 5 → ∀ g, XI s g → FrX h g → G 11 mX4_digest post 71 [some (.ref 0), some (.long (hshR (fun w => bestA s.1 false (10 + (w : Int))) i (hshR (fun w => bestA s.1 false w) 2 y))), none, some (.int x3), some (.int (b2i false)), some (.int (nI (10 + i)))] [] g := by
    refine loopU 5 (fun i hi ih g Xg Fg => ?_) (fun g Xg Fg => ?_)
    · refine sX4_digest_71 (fun q => ?_) (fun _ => sX4_digest_78 (cx_best4 Xg (fun g' X' F' => sX4_digest_91 ?_)))
      · rw [show (14 : Int32) = nI 14 from rfl, nI_ltI (by omega) (by omega)] at q; omega
      rw [bestS_nI hn (by omega), nI_1, hsh_eq]
      exact ih g' X' (Fg.trans F')
    · refine sX4_digest_71 (fun _ => sX4_digest_100 (cx_change4 (w := nI 0) Xg (fun g1 X1 F1 => sX4_digest_112 ?_))) (fun q => absurd (by decide) q)
      rw [changeS_nI hn (by omega), hsh_eq]
      have L2 : ∀ i, i ≤ 3 → ∀ g, XI s g → FrX h g → G 11 mX4_digest post 119 [some (.ref 0), some (.long (hshR (fun w => changeA s.1 false (10 + (w : Int))) i (hsh (hshR (fun w => bestA s.1 false (10 + (w : Int))) 5 (hshR (fun w => bestA s.1 false w) 2 y)) (changeA s.1 false 0)))), none, some (.int x3), some (.int (b2i false)), some (.int (nI (10 + i)))] [] g := by
        refine loopU 3 (fun i hi ih g Xg Fg => ?_) (fun g Xg Fg => ?_)
        · refine sX4_digest_119 (fun q => ?_) (fun _ => sX4_digest_126 (cx_change4 Xg (fun g' X' F' => sX4_digest_139 ?_)))
          · rw [show (12 : Int32) = nI 12 from rfl, nI_ltI (by omega) (by omega)] at q; omega
          rw [changeS_nI hn (by omega), nI_1, hsh_eq]
          exact ih g' X' (Fg.trans F')
        · exact sX4_digest_119 (fun _ => k g Xg Fg) (fun q => absurd (by decide) q)
      exact L2 0 (by omega) g1 X1 (Fg.trans F1)
  exact L1 0 (by omega) h2 X2 (F1.trans F2)
theorem dig_plan5 {post : Option Value → PH → Prop} {h : PH} {s : Ab} {x3 : Int32} {y : Int64} (hn : 0 < aN s.1) (X : XI s h) (k : ∀ h', XI s h' → FrX h h' → G 11 mX4_digest post 148 [some (.ref 0), some (.long (hsPl s.1 true y)), none, some (.int x3), none, none] [] h') : G 11 mX4_digest post 30 [some (.ref 0), some (.long y), none, some (.int x3), none, none] [] h := by
  refine sX4_digest_30 (cx_best5 (w := nI 0) X (fun h1 X1 F1 => sX4_digest_49 (cx_best5 (w := nI 1) X1 (fun h2 X2 F2 => sX4_digest_64 ?_))))
  rw [bestS_nI hn (by omega), bestS_nI hn (by omega), hsh_eq, hsh_eq]
  have L1 : ∀ i, i ≤ 5 → ∀ g, XI s g → FrX h g → G 11 mX4_digest post 71 [some (.ref 0), some (.long (hshR (fun w => bestA s.1 true (10 + (w : Int))) i (hshR (fun w => bestA s.1 true w) 2 y))), none, some (.int x3), some (.int (b2i true)), some (.int (nI (10 + i)))] [] g := by
    refine loopU 5 (fun i hi ih g Xg Fg => ?_) (fun g Xg Fg => ?_)
    · refine sX4_digest_71 (fun q => ?_) (fun _ => sX4_digest_78 (cx_best5 Xg (fun g' X' F' => sX4_digest_91 ?_)))
      · rw [show (14 : Int32) = nI 14 from rfl, nI_ltI (by omega) (by omega)] at q; omega
      rw [bestS_nI hn (by omega), nI_1, hsh_eq]
      exact ih g' X' (Fg.trans F')
    · refine sX4_digest_71 (fun _ => sX4_digest_100 (cx_change5 (w := nI 0) Xg (fun g1 X1 F1 => sX4_digest_112 ?_))) (fun q => absurd (by decide) q)
      rw [changeS_nI hn (by omega), hsh_eq]
      have L2 : ∀ i, i ≤ 3 → ∀ g, XI s g → FrX h g → G 11 mX4_digest post 119 [some (.ref 0), some (.long (hshR (fun w => changeA s.1 true (10 + (w : Int))) i (hsh (hshR (fun w => bestA s.1 true (10 + (w : Int))) 5 (hshR (fun w => bestA s.1 true w) 2 y)) (changeA s.1 true 0)))), none, some (.int x3), some (.int (b2i true)), some (.int (nI (10 + i)))] [] g := by
        refine loopU 3 (fun i hi ih g Xg Fg => ?_) (fun g Xg Fg => ?_)
        · refine sX4_digest_119 (fun q => ?_) (fun _ => sX4_digest_126 (cx_change5 Xg (fun g' X' F' => sX4_digest_139 ?_)))
          · rw [show (12 : Int32) = nI 12 from rfl, nI_ltI (by omega) (by omega)] at q; omega
          rw [changeS_nI hn (by omega), nI_1, hsh_eq]
          exact ih g' X' (Fg.trans F')
        · exact sX4_digest_119 (fun _ => k g Xg Fg) (fun q => absurd (by decide) q)
      exact L2 0 (by omega) g1 X1 (Fg.trans F1)
  exact L1 0 (by omega) h2 X2 (F1.trans F2)
theorem dig_tail {post : Option Value → PH → Prop} {g : PH} {s : Ab} {Z : Int64} (Xg : XI s g) (k : post (some (.long (hshR (fun w => countA s w) 10 (hshR (fun k => s.2.2.1 k) s.2.1 Z)))) g) : G 11 mX4_digest post 192 [some (.ref 0), some (.long Z), none, none, none, none] [] g := by
  have hgg := Xg.2.2.1
  have hn := hgg.1
  refine sX4_digest_192 ?_
  refine loopU (S := fun i => G 11 mX4_digest post 194 [some (.ref 0), some (.long (hshR (fun k => s.2.2.1 k) i Z)), none, some (.int (nI i)), none, none] [] g) s.2.1 (fun i hi ih => ?_) ?_ 0 (Nat.zero_le _)
  · refine sX4_digest_194 (fun q => ?_) (fun _ => sX4_digest_205 (ev_codeAt hgg hi (sX4_digest_218 ?_)))
    · rw [hgg.2.1, nI_leI (by omega) (by omega)] at q; omega
    rw [nI_1, hsh_eq]
    exact ih
  · refine sX4_digest_194 (fun _ => sX4_digest_227 ?_) (fun q => absurd (by rw [hgg.2.1]; exact nI_le (Nat.le_refl _) (by omega)) q)
    generalize hshR (fun k => s.2.2.1 k) s.2.1 Z = Y at k ⊢
    refine loopU (S := fun i => G 11 mX4_digest post 229 [some (.ref 0), some (.long (hshR (fun w => countA s w) i Y)), none, some (.int (nI i)), none, none] [] g) 10 (fun i hi ih => ?_) ?_ 0 (Nat.zero_le _)
    · refine sX4_digest_229 (fun q => ?_) (fun _ => sX4_digest_235 (cx_count Xg (sX4_digest_245 ?_)))
      · rw [show (9 : Int32) = nI 9 from rfl, nI_ltI (by omega) (by omega)] at q; omega
      rw [nIi (by omega), nI_1, hsh_eq]
      exact ih
    · exact sX4_digest_229 (fun _ => sX4_digest_254 k) (fun q => absurd (by decide) q)
theorem dig_trade {post : Option Value → PH → Prop} {g : PH} {s : Ab} {Y : Int64} (hn : 0 < aN s.1) (Xg : XI s g) (k : post (some (.long (hshR (fun w => countA s w) 10 (hshR (fun k => s.2.2.1 k) s.2.1 (hsh (hshR (fun w => tradeA s.1 w) 3 Y) (rlV (RLf s.1 (2 ^ aN s.1)))))))) g) : G 11 mX4_digest post 154 [some (.ref 0), some (.long Y), none, none, none, none] [] g := by
  refine sX4_digest_154 ?_
  refine loopU (S := fun i => G 11 mX4_digest post 156 [some (.ref 0), some (.long (hshR (fun w => tradeA s.1 w) i Y)), none, some (.int (nI i)), none, none] [] g) 3 (fun i hi ih => ?_) ?_ 0 (Nat.zero_le _)
  · refine sX4_digest_156 (fun z => ?_) (fun _ => sX4_digest_161 (cx_trade Xg (sX4_digest_171 ?_)))
    · rw [show (2 : Int32) = nI 2 from rfl, nI_ltI (by omega) (by omega)] at z; omega
    rw [tradeS_nI hn hi, nI_1, hsh_eq]
    exact ih
  · generalize hshR (fun w => tradeA s.1 w) 3 Y = T at k ⊢
    refine sX4_digest_156 (fun _ => sX4_digest_180 (cx_relief Xg (sX4_digest_189 ?_))) (fun z => absurd (by decide) z)
    have er : reliefS s = rlV (RLf s.1 (2 ^ aN s.1)) := if_neg (by omega)
    rw [er, hsh_eq]
    exact dig_tail Xg k
theorem cx_digest {post : Option Value → PH → Prop} {h : PH} {s : Ab} (X : XI s h) (k : ∀ h', XI s h' → FrX h h' → post (some (.long (digestS s))) h') : Ev 11 mX4_digest [.ref 0] h post := by
  obtain ⟨hw, hc, hg, hf, hf2, hp, hp2⟩ := id X
  refine Ev.intro rfl (Nat.le_of_ble_eq_true rfl) (sX4_digest_0 (ev_digestOfParts X (sX4_digest_7 (ev_isRead hc hw ?_))))
  unfold digestS at k
  generalize hsP s.1 (hsM s.1 1733 (aN s.1)) (aP s.1) = B at k ⊢
  refine sX4_digest_15 (fun q => ?_) (fun q => sX4_digest_18 ?_)
  · rw [b2i_0, decide_eq_false_iff_not] at q
    have e : hsF s.1 B = B := if_pos (by omega)
    rw [e] at k
    exact dig_tail X (k h X (FrX.rf h))
  · rw [b2i_n, decide_eq_true_iff] at q
    have e : hsF s.1 B = hsh (hshR (fun w => tradeA s.1 w) 3 (hsPl s.1 true (hsPl s.1 false B))) (rlV (RLf s.1 (2 ^ aN s.1))) := if_neg (by omega)
    rw [e] at k
    refine sX4_digest_20 (fun z => absurd z (by decide)) (fun _ => sX4_digest_25 (fun _ => ?_) (fun z => absurd z (by decide)))
    refine dig_plan4 q X (fun h1 X1 F1 => ?_)
    generalize hsPl s.1 false B = B1 at k ⊢
    refine sX4_digest_148 (sX4_digest_20 (fun z => absurd z (by decide)) (fun _ => sX4_digest_25 (fun z => absurd (by decide) z) (fun _ => ?_)))
    refine dig_plan5 q X1 (fun h2 X2 F2 => ?_)
    generalize hsPl s.1 true B1 = B2 at k ⊢
    exact sX4_digest_148 (sX4_digest_20 (fun _ => dig_trade q X2 (k h2 X2 (F1.trans F2))) (fun z => absurd (by decide) z))
