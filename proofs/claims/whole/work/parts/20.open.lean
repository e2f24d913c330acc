/-! BEST: the class goes through the codes in order, but for those that a patch too hot rules out -/
def rv (c : Nat) : Nat := plc (dg c) 5
theorem rv_all : (List.range 3125).all (fun c => decide (rv (rv c) = c) && decide (rv c < 3125)) = true := by decide +kernel
theorem rv_rv {c : Nat} (hc : c < 3125) : rv (rv c) = c := by
  have := List.all_eq_true.mp rv_all c (List.mem_range.mpr hc)
  simp only [Bool.and_eq_true, decide_eq_true_eq] at this
  exact this.1
theorem rv_lt {c : Nat} (hc : c < 3125) : rv c < 3125 := by
  have := List.all_eq_true.mp rv_all c (List.mem_range.mpr hc)
  simp only [Bool.and_eq_true, decide_eq_true_eq] at this
  exact this.2
theorem rv_inj {c c' : Nat} (hc : c < 3125) (hc' : c' < 3125) (e : rv c = rv c') : c = c' := by rw [← rv_rv hc, e, rv_rv hc']
theorem cases6 {i : Nat} (h : i ≤ 5) : i = 0 ∨ i = 1 ∨ i = 2 ∨ i = 3 ∨ i = 4 ∨ i = 5 := by omega
theorem cases5 {i : Nat} (h : i < 5) : i = 0 ∨ i = 1 ∨ i = 2 ∨ i = 3 ∨ i = 4 := by omega
theorem dg_pre {i c0 r m : Nat} (hi : i ≤ 5) (h0 : c0 % 5 ^ (5 - i) = 0) (hr : r < 5 ^ (5 - i)) (hm : m < i) : dg (c0 + r) m = dg c0 m := by
  unfold dg
  rcases cases6 hi with rfl | rfl | rfl | rfl | rfl | rfl <;> rcases cases5 (show m < 5 by omega) with rfl | rfl | rfl | rfl | rfl <;> first | omega | (simp at h0 hr ⊢; omega)
theorem dg_at {i c0 r : Nat} (hi : i < 5) (h0 : c0 % 5 ^ (5 - i) = 0) (hr : r < 5 ^ (5 - i)) : dg (c0 + r) i = r / 5 ^ (4 - i) := by
  unfold dg
  rcases cases5 hi with rfl | rfl | rfl | rfl | rfl <;> (simp at h0 hr ⊢; omega)
theorem dg_zero {i c0 m : Nat} (hi : i ≤ 5) (h1 : i ≤ m) (hm : m < 5) (h0 : c0 % 5 ^ (5 - i) = 0) : dg c0 m = 0 := by
  unfold dg
  rcases cases6 hi with rfl | rfl | rfl | rfl | rfl | rfl <;> rcases cases5 hm with rfl | rfl | rfl | rfl | rfl <;> first | omega | (simp at h0 ⊢; omega)
theorem pre_le {i c0 : Nat} (hi : i ≤ 5) (hc : c0 < 3125) (h0 : c0 % 5 ^ (5 - i) = 0) : c0 + 5 ^ (5 - i) ≤ 3125 := by
  rcases cases6 hi with rfl | rfl | rfl | rfl | rfl | rfl <;> simp at h0 ⊢ <;> omega
theorem pre_mod {i c0 v : Nat} (hi : i < 5) (h0 : c0 % 5 ^ (5 - i) = 0) : (c0 + v * 5 ^ (4 - i)) % 5 ^ (4 - i) = 0 := by
  rw [Nat.add_mul_mod_self_right]
  rcases cases5 hi with rfl | rfl | rfl | rfl | rfl <;> simp at h0 ⊢ <;> omega
theorem tail_ne {i c0 r : Nat} (hi : i ≤ 5) (h0 : c0 % 5 ^ (5 - i) = 0) (hr : r < 5 ^ (5 - i)) (hp : 0 < r) : ∃ m, i ≤ m ∧ m < 5 ∧ dg (c0 + r) m ≠ 0 := by
  apply Classical.byContradiction
  intro hn
  have hz : ∀ m, i ≤ m → m < 5 → dg (c0 + r) m = 0 := fun m h1 h2 => Classical.byContradiction (fun q => hn ⟨m, h1, h2, q⟩)
  unfold dg at hz
  rcases cases6 hi with rfl | rfl | rfl | rfl | rfl | rfl
  · have a0 := hz 0 (by omega) (by omega); have a1 := hz 1 (by omega) (by omega); have a2 := hz 2 (by omega) (by omega); have a3 := hz 3 (by omega) (by omega); have a4 := hz 4 (by omega) (by omega)
    simp at a0 a1 a2 a3 a4 h0 hr; omega
  · have a1 := hz 1 (by omega) (by omega); have a2 := hz 2 (by omega) (by omega); have a3 := hz 3 (by omega) (by omega); have a4 := hz 4 (by omega) (by omega)
    simp at a1 a2 a3 a4 h0 hr; omega
  · have a2 := hz 2 (by omega) (by omega); have a3 := hz 3 (by omega) (by omega); have a4 := hz 4 (by omega) (by omega)
    simp at a2 a3 a4 h0 hr; omega
  · have a3 := hz 3 (by omega) (by omega); have a4 := hz 4 (by omega) (by omega)
    simp at a3 a4 h0 hr; omega
  · have a4 := hz 4 (by omega) (by omega)
    simp at a4 h0 hr; omega
  · simp at hr; omega
theorem there_iff {a : St} {c : Nat} : there a c = true ↔ ∀ m, m < 5 → (m < aN a → dg c m ≤ aP a) ∧ (aN a ≤ m → dg c m = 0) ∧ ((aK a).testBit m = true → dg c m = aV a m) := by
  unfold there
  rw [List.all_eq_true]
  constructor
  · intro h m hm
    have := h m (List.mem_range.mpr hm)
    rw [Bool.and_eq_true] at this
    refine ⟨fun q => ?_, fun q => ?_, fun q => ?_⟩
    · have := this.1; rw [if_pos q] at this; exact of_decide_eq_true this
    · have := this.1; rw [if_neg (by omega)] at this; exact of_decide_eq_true this
    · have := this.2; rw [q] at this; simpa using this
  · intro h m hm
    have := h m (List.mem_range.mp hm)
    rw [Bool.and_eq_true]
    refine ⟨?_, ?_⟩
    · split
      · rename_i q; exact decide_eq_true (this.1 q)
      · rename_i q; exact decide_eq_true (this.2.1 (by omega))
    · cases hb : (aK a).testBit m with
      | false => rfl
      | true => simpa using this.2.2 hb
theorem not_there {a : St} {st : Bool} {c m : Nat} (hm : m < 5) (h : ¬ ((m < aN a → dg c m ≤ aP a) ∧ (aN a ≤ m → dg c m = 0) ∧ ((aK a).testBit m = true → dg c m = aV a m))) : okk a st c = false := by
  cases hb : okk a st c with
  | false => rfl
  | true =>
    unfold okk at hb
    rw [Bool.and_eq_true] at hb
    exact absurd (there_iff.mp hb.1 m hm) h
theorem BS_skip {a : St} {st : Bool} {k k' : Nat} (h1 : k ≤ k') (hn : ∀ c, k ≤ c → c < k' → okk a st c = false) : BS a st k' = BS a st k := by
  obtain ⟨n, rfl⟩ : ∃ n, k' = k + n := ⟨k' - k, by omega⟩
  induction n with
  | zero => rfl
  | succ n ih =>
    show BS a st (k + n + 1) = _
    rw [BS, hn (k + n) (by omega) (by omega), if_neg (fun q => by cases q.1)]
    exact ih (by omega) (fun c h2 h3 => hn c h2 (by omega))
theorem BS_le {a : St} (hw : WF a) (st : Bool) : ∀ k, (BS a st k).1 ≤ 181
  | 0 => by simp [BS]
  | k + 1 => by
    rw [BS]
    split
    · have := CT_le hw (dg k) (aH a)
      show CT a (dg k) (aH a) + 1 ≤ 181
      omega
    · exact BS_le hw st k
def pHT (a : St) (st : Bool) (c i q : Nat) : Nat := sm (fun m => if (dk a st).testBit m then 0 else gv a m (dg c m) q) i
def pCT (a : St) (c i : Nat) : Nat := sm (fun m => if (aH a).testBit m then 0 else sm (gv a m (dg c m)) 4) i
theorem pCT_eq (a : St) (c : Nat) : pCT a c (aN a) = CT a (dg c) (aH a) := by
  unfold pCT CT HT
  rw [← sm_swap (fun m q => if (aH a).testBit m then 0 else gv a m (dg c m) q) 4 (aN a)]
  refine sm_cong _ (fun m _ => ?_)
  cases (aH a).testBit m
  · rfl
  · exact (sm_zero 4 (fun _ _ => rfl)).symm
theorem pHT_le {a : St} (hw : WF a) (st : Bool) (c i : Nat) (hi : i ≤ 5) (q : Nat) : pHT a st c i q ≤ 45 := by
  unfold pHT
  refine Nat.le_trans (sm_le (b := 9) _ (fun m _ => ?_)) (by omega)
  split
  · omega
  · exact gv_le hw _ _ _
theorem pHT_out {a : St} {st : Bool} {c i q : Nat} (h : aP a ≤ q) : pHT a st c i q = 0 := sm_zero _ (fun m _ => by split; rfl; exact gv_out h)
theorem sm_part (f : Nat → Nat) {i : Nat} : ∀ n, i ≤ n → sm f i ≤ sm f n
  | 0, h => by rw [Nat.le_zero.mp h]; exact Nat.le_refl _
  | n + 1, h => by
    by_cases e : i = n + 1
    · rw [e]; exact Nat.le_refl _
    · exact Nat.le_trans (sm_part f n (by omega)) (Nat.le_add_right _ _)
theorem prune {a : St} {st : Bool} {c0 i c : Nat} (hw : WF a) (hin : i ≤ aN a) (hi : i ≤ 5) (hz : c0 % 5 ^ (5 - i) = 0) (h1 : c0 ≤ c) (h2 : c < c0 + 5 ^ (5 - i)) (q : okc a (fun q => pHT a st c0 i q) = false) : okk a st c = false := by
  obtain ⟨r, rfl⟩ : ∃ r, c = c0 + r := ⟨c - c0, by omega⟩
  cases hb : okk a st (c0 + r) with
  | false => rfl
  | true =>
    unfold okk at hb
    rw [Bool.and_eq_true] at hb
    have hs := okc_iff.mp hb.2
    have : okc a (fun q => pHT a st c0 i q) = true := okc_iff.mpr (fun q hq => by
      refine Nat.le_trans ?_ (hs q hq)
      unfold HT
      refine Nat.le_trans (Nat.le_of_eq ?_) (sm_part (fun m => if (dk a st).testBit m then 0 else gv a m (dg (c0 + r) m) q) (aN a) hin)
      exact sm_cong i (fun m hm => by rw [dg_pre hi hz (by omega) hm]))
    rw [q] at this
    cases this
theorem dk_sh {a : St} {st : Bool} {i : Nat} (h : (aH a).testBit i = false) : (dk a st).testBit i = false := by
  unfold dk
  cases st
  · exact h
  · exact Nat.zero_testBit i
theorem dk_st {a : St} {st : Bool} {i : Nat} (h : st = true) : (dk a st).testBit i = false := by
  subst h
  exact Nat.zero_testBit i
theorem dk_ls {a : St} {st : Bool} {i : Nat} (h : st = false) (h2 : (aH a).testBit i = true) : (dk a st).testBit i = true := by
  subst h
  exact h2
theorem aim_inj {u v : Nat} (hu : u < 1000) (hv : v < 1000) (e : nI u - 1 = nI v - 1) : u = v := by
  have : nI u = nI v := by
    have := congrArg (fun z : Int32 => z + 1) e
    simpa [Int32.sub_add_cancel] using this
  exact (nI_eq (by omega) (by omega)).mp this
section OPN4
variable {post : Option Value → PH → Prop} {h : PH} {a : St}
/-- the codes below k have been looked at -/
def OP4 (a : St) (k : Nat) (h g : PH) : Prop := (∀ c, c < 3125 → g.1 12 (rv c) = if c < k ∧ okk a false c = true then -1 else -2) ∧ g.1 4 4 = (if (BS a false k).1 = 0 then -1001 else nI ((BS a false k).1 - 1)) ∧ ((BS a false k).1 ≠ 0 → g.1 4 5 = nI (plc (dg (BS a false k).2) (aN a))) ∧ (∀ cc, cc ≠ 12 → cc ≠ 4 → g.1 cc = h.1 cc) ∧ (∀ j, j ≠ 4 → j ≠ 5 → g.1 4 j = h.1 4 j) ∧ g.2 = h.2
theorem OP4_skip {k k' : Nat} {g : PH} (h1 : k ≤ k') (hn : ∀ c, k ≤ c → c < k' → okk a false c = false) (o : OP4 a k h g) : OP4 a k' h g := by
  have eB : BS a false k' = BS a false k := BS_skip h1 hn
  unfold OP4 at o ⊢
  rw [eB]
  refine ⟨fun c hc => ?_, o.2⟩
  rw [o.1 c hc]
  by_cases z : c < k' ∧ okk a false c = true
  · have hk : c < k := by
      apply Classical.byContradiction
      intro hk
      have := hn c (by omega) z.1
      rw [this] at z
      cases z.2
    rw [if_pos z, if_pos ⟨hk, z.2⟩]
  · rw [if_neg z, if_neg (fun y => z ⟨by omega, y.2⟩)]
theorem leaf4 {a : St} {h g : PH} {post : Option Value → PH → Prop} {d i c0 : Nat} (hw : WF a) (en : i = aN a) (hc : c0 < 3125) (hz : c0 % 5 ^ (5 - i) = 0) (hpre : ∀ m, m < i → dg c0 m ≤ aP a ∧ ((aK a).testBit m = true → dg c0 m = aV a m)) (q : okc a (fun q => pHT a false c0 i q) = true) (o : OP4 a c0 h g) (k : ∀ g', OP4 a (c0 + 5 ^ (5 - i)) h g' → post none g') :
    G (d + 2) mX2_openFrom post 18 [none, some (.ref 4), some (.ref 12), none, some (.int (nI (plc (dg c0) i))), none, some (.int (nI (pCT a c0 i))), none, none, none, none, none] [] g := by
  have h5 := hw.1
  have hok : okk a false c0 = true := by
    unfold okk
    rw [Bool.and_eq_true]
    refine ⟨there_iff.mpr (fun m hm => ⟨fun hn => (hpre m (by omega)).1, fun hn => dg_zero (i := i) (by omega) (by omega) hm hz, fun hk => ?_⟩), ?_⟩
    · by_cases hmn : m < i
      · exact (hpre m hmn).2 hk
      · rw [dg_zero (by omega) (by omega) hm hz]
        exact ((hw.2.2.2.1 m).2.2.2 (by omega)).symm
    · subst en
      exact q
  have erv : plc (dg c0) i = rv c0 := by
    unfold rv plc
    exact (sm_cut 5 (by omega) (fun m h1 h2 => by rw [dg_zero (by omega) h1 h2 hz, Nat.zero_mul])).symm
  have ect : pCT a c0 i = CT a (dg c0) (aH a) := by
    subst en
    exact pCT_eq a c0
  have hct := CT_le hw (dg c0) (aH a)
  have hrv := rv_lt hc
  have hbs := BS_le hw false c0
  rw [erv, ect]
  have opn : ∀ c, c < 3125 → (upd2 g.1 12 (rv c0) (-1)) 12 (rv c) = if c < c0 + 1 ∧ okk a false c = true then -1 else -2 := by
    intro c hcc
    rw [upd2_self]
    unfold upd
    by_cases e : c = c0
    · rw [if_pos (by rw [e]), if_pos ⟨by omega, by rw [e]; exact hok⟩]
    · rw [if_neg (fun z => e (rv_inj hcc hc z)), o.1 c hcc]
      by_cases z : c < c0 ∧ okk a false c = true
      · rw [if_pos z, if_pos ⟨by omega, z.2⟩]
      · rw [if_neg z, if_neg (fun y => z ⟨by omega, y.2⟩)]
  have skip : ∀ g', OP4 a (c0 + 1) h g' → post none g' := fun g' o' => k g' (OP4_skip (k := c0 + 1) (by have : 0 < 5 ^ (5 - i) := Nat.pow_pos (by omega); omega) (fun c h1 h2 => by
    obtain ⟨r, rfl⟩ : ∃ r, c = c0 + r := ⟨c - c0, by omega⟩
    obtain ⟨m, h3, h4, h5'⟩ := tail_ne (i := i) (c0 := c0) (r := r) (by omega) hz (by omega) (by omega)
    exact not_there (m := m) h4 (fun y => h5' (y.2.1 (by omega)))) o')
  have hB : BS a false (c0 + 1) = if (BS a false c0).1 < CT a (dg c0) (aH a) + 1 then (CT a (dg c0) (aH a) + 1, c0) else BS a false c0 := by
    show (if okk a false c0 = true ∧ (BS a false c0).1 < CT a (dg c0) (aH a) + 1 then (CT a (dg c0) (aH a) + 1, c0) else BS a false c0) = _
    by_cases z : (BS a false c0).1 < CT a (dg c0) (aH a) + 1
    · rw [if_pos ⟨hok, z⟩, if_pos z]
    · rw [if_neg (fun y => z y.2), if_neg z]
  have cmp : nI (CT a (dg c0) (aH a)) ≤ g.1 4 4 ↔ ¬ (BS a false c0).1 < CT a (dg c0) (aH a) + 1 := by
    rw [o.2.1]
    by_cases z : (BS a false c0).1 = 0
    · rw [if_pos z, z]
      constructor
      · intro y
        rw [Int32.le_iff_toInt_le, nI_toInt (by omega), show (-1001 : Int32).toInt = -1001 by decide] at y
        omega
      · intro y; omega
    · rw [if_neg z, nI_leI (by omega) (by omega)]
      omega
  refine sX2_openFrom_18_p4 (Ev.intro rfl (Nat.le_of_ble_eq_true rfl) (sX2_open_0_p4 (fun z => absurd z (nI_pos (by omega))) (fun _ => sX2_open_4_p4 (fun _ => sX2_open_11_p4 (vp_in_nI hrv (by omega)) (fun z => sX2_open_33_p4 (sX2_openFrom_27_p4 ?_)) (fun z => sX2_open_23_p4 (sX2_openFrom_27_p4 ?_))) (fun z => absurd (show nI (rv c0) < nI 3125 from (nI_ltI (by omega) (by omega)).mpr hrv) z))))
  · rw [cmp] at z
    rw [nI_clamp (by omega)]
    rw [if_neg z] at hB
    refine skip _ ⟨opn, ?_, ?_, fun cc h1 h2 => ?_, fun j h1 h2 => ?_, o.2.2.2.2.2⟩
    · rw [hB]; exact o.2.1
    · rw [hB]; exact o.2.2.1
    · show upd2 g.1 12 (rv c0) (-1) cc = _
      rw [upd2_ne h1]; exact o.2.2.2.1 cc h1 h2
    · exact o.2.2.2.2.1 j h1 h2
  · rw [cmp] at z
    have z : (BS a false c0).1 < CT a (dg c0) (aH a) + 1 := by omega
    rw [nI_clamp (by omega)]
    rw [if_pos z] at hB
    refine skip _ ⟨opn, ?_, fun _ => ?_, fun cc h1 h2 => ?_, fun j h1 h2 => ?_, o.2.2.2.2.2⟩
    · rw [hB]; rfl
    · rw [hB]
      show nI (rv c0) = nI (plc (dg c0) (aN a))
      rw [← en, erv]
    · show upd2 (upd2 (upd2 g.1 12 (rv c0) (-1)) 4 4 _) 4 5 _ cc = _
      rw [upd2_ne h2, upd2_ne h2, upd2_ne h1]; exact o.2.2.2.1 cc h1 h2
    · show upd2 (upd2 (upd2 g.1 12 (rv c0) (-1)) 4 4 _) 4 5 _ 4 j = _
      rw [upd2_self, pk_un h2, upd2_self, pk_un h1]
      exact o.2.2.2.2.1 j h1 h2
theorem ev_openFrom4 (hI : CI a h) (hw : WF a) (hs : h.1 4 0 = b2i false) : ∀ d i, i + d = 5 → i ≤ aN a → ∀ c0, c0 < 3125 → c0 % 5 ^ (5 - i) = 0 → (∀ m, m < i → dg c0 m ≤ aP a ∧ ((aK a).testBit m = true → dg c0 m = aV a m)) → ∀ g, OP4 a c0 h g → ∀ post : Option Value → PH → Prop, (∀ g', OP4 a (c0 + 5 ^ (5 - i)) h g' → post none g') →
    Ev (d + 2) mX2_openFrom [.ref 2, .ref 4, .ref 12, .int (nI i), .int (nI (plc (dg c0) i)), .int (nI (pkd (fun q => pHT a false c0 i q))), .int (nI (pCT a c0 i))] g post := by
  have h5 := hw.1
  have h4 := hw.2.1
  intro d
  induction d with
  | zero =>
    intro i hid hin c0 hc hz hpre g o post k
    have hIg : CI a g := hI.same (fun z hz => o.2.2.2.1 z (by omega) (by omega))
    have en : i = aN a := by omega
    refine Ev.intro rfl (Nat.le_of_ble_eq_true rfl) (sX2_openFrom_0_p4 (ev_isSafe hIg hw (fun q _ => pHT_le hw _ _ _ (by omega) q) (fun q hq => pHT_out hq) (sX2_openFrom_6_p4 (fun q => sX2_openFrom_10_p4 (ev_hasMirror hIg hw ?_)) (fun q => sX2_openFrom_9_p4 (k g ?_)))))
    · rw [ix_nI' (by omega) (by omega)]
      rw [b2i_n] at q
      exact sX2_openFrom_15_p4 (fun z => absurd rfl z) (fun _ => leaf4 (d := 0) hw en hc hz hpre q o k)
    · rw [b2i_0] at q
      exact OP4_skip (by omega) (fun c h1 h2 => prune hw hin (by omega) hz h1 h2 q) o
  | succ d ihd =>
    intro i hid hin c0 hc hz hpre g o post k
    have hIg : CI a g := hI.same (fun z hz => o.2.2.2.1 z (by omega) (by omega))
    refine Ev.intro rfl (Nat.le_of_ble_eq_true rfl) (sX2_openFrom_0_p4 (ev_isSafe hIg hw (fun q _ => pHT_le hw _ _ _ (by omega) q) (fun q hq => pHT_out hq) (sX2_openFrom_6_p4 (fun q => sX2_openFrom_10_p4 (ev_hasMirror hIg hw ?_)) (fun q => sX2_openFrom_9_p4 (k g ?_)))))
    · rw [b2i_n] at q
      by_cases en : i = aN a
      · rw [ix_nI' (by omega) (by omega)]
        exact sX2_openFrom_15_p4 (fun z => absurd rfl z) (fun _ => leaf4 (d := d + 1) hw en hc hz hpre q o k)
      · rw [ix_nI (by omega) (by omega)]
        refine sX2_openFrom_15_p4 (fun _ => sX2_openFrom_28_p4 (ev_isShaded hIg hw (by omega) (sX2_openFrom_33_p4 ?_))) (fun z => absurd z (by decide))
        have e5 : 5 ^ (5 - i) = 5 * 5 ^ (4 - i) := by rw [show 5 - i = (4 - i) + 1 by omega, Nat.pow_succ]; omega
        have hpos : 0 < 5 ^ (4 - i) := Nat.pow_pos (by omega)
        have hbig : c0 + 5 ^ (5 - i) ≤ 3125 := pre_le (by omega) hc hz
        have hL : ∀ v, v ≤ aP a + 1 → ∀ g, OP4 a (c0 + v * 5 ^ (4 - i)) h g → G (d + 1 + 2) mX2_openFrom post 38 [some (.ref 2), some (.ref 4), some (.ref 12), some (.int (nI i)), some (.int (nI (plc (dg c0) i))), some (.int (nI (pkd (fun q => pHT a false c0 i q)))), some (.int (nI (pCT a c0 i))), some (.int (b2i ((aH a).testBit i))), some (.int (nI v - 1)), none, none, none] [] g := by
          refine loopU (aP a + 1) (fun v hv jh g o => ?_) (fun g o => ?_)
          · have hIg : CI a g := hI.same (fun z hz => o.2.2.2.1 z (by omega) (by omega))
            have hsg : g.1 4 0 = b2i false := by rw [o.2.2.2.2.1 0 (by decide) (by decide)]; exact hs
            have hvm : v * 5 ^ (4 - i) + 5 ^ (4 - i) ≤ 5 ^ (5 - i) := by
              rw [e5]
              have : (v + 1) * 5 ^ (4 - i) ≤ 5 * 5 ^ (4 - i) := Nat.mul_le_mul_right _ (by omega)
              rw [Nat.add_mul] at this
              omega
            have dpre : ∀ r, r < 5 ^ (4 - i) → ∀ m, m < i → dg (c0 + v * 5 ^ (4 - i) + r) m = dg c0 m := fun r hr m hm => by
              rw [Nat.add_assoc]
              exact dg_pre (by omega) hz (by omega) hm
            have dat : ∀ r, r < 5 ^ (4 - i) → dg (c0 + v * 5 ^ (4 - i) + r) i = v := fun r hr => by
              rw [Nat.add_assoc, dg_at (by omega) hz (by omega), Nat.add_comm, Nat.add_mul_div_right _ _ hpos, Nat.div_eq_of_lt hr]
              omega
            refine sX2_openFrom_38_p4 (fun z => ?_) (fun _ => ?_)
            · rw [hIg.p, am_le (by omega) (by omega)] at z; omega
            have next : ∀ g', OP4 a (c0 + (v + 1) * 5 ^ (4 - i)) h g' → G (d + 1 + 2) mX2_openFrom post 148 [some (.ref 2), some (.ref 4), some (.ref 12), some (.int (nI i)), some (.int (nI (plc (dg c0) i))), some (.int (nI (pkd (fun q => pHT a false c0 i q)))), some (.int (nI (pCT a c0 i))), some (.int (b2i ((aH a).testBit i))), some (.int (nI v - 1)), none, none, none] [] g' := fun g' o' => by
              refine sX2_openFrom_148_p4 ?_
              rw [show nI v - 1 + 1 = nI (v + 1) - 1 by rw [Int32.sub_add_cancel, nI_pred]]
              exact jh g' o'
            have take : ((aK a).testBit i = true → v = aV a i) → G (d + 1 + 2) mX2_openFrom post 69 [some (.ref 2), some (.ref 4), some (.ref 12), some (.int (nI i)), some (.int (nI (plc (dg c0) i))), some (.int (nI (pkd (fun q => pHT a false c0 i q)))), some (.int (nI (pCT a c0 i))), some (.int (b2i ((aH a).testBit i))), some (.int (nI v - 1)), none, none, none] [] g := fun hk => by
              have d0 := dpre 0 hpos
              have d1 := dat 0 hpos
              rw [Nat.add_zero] at d0 d1
              have eplc : nI (plc (dg c0) i) + (nI v - 1 + 1) * stp5 (nI i).toNatClampNeg = nI (plc (dg (c0 + v * 5 ^ (4 - i))) (i + 1)) := by
                rw [Int32.sub_add_cancel, nI_clamp (by omega), stp5_eq i (by omega), pk_mul, nI_add]
                congr 1
                show _ = sm (fun m => dg (c0 + v * 5 ^ (4 - i)) m * 5 ^ m) i + dg (c0 + v * 5 ^ (4 - i)) i * 5 ^ i
                rw [d1]
                congr 1
                exact sm_cong i (fun m hm => by rw [d0 m hm])
              have recu : ∀ (x10 x6 : Nat), x10 = pkd (fun q => pHT a false (c0 + v * 5 ^ (4 - i)) (i + 1) q) → x6 = pCT a (c0 + v * 5 ^ (4 - i)) (i + 1) → ∀ post' : Option Value → PH → Prop, (∀ g', OP4 a (c0 + (v + 1) * 5 ^ (4 - i)) h g' → post' none g') → Ev (d + 2) mX2_openFrom [.ref 2, .ref 4, .ref 12, .int (nI i + 1), .int (nI (plc (dg c0) i) + (nI v - 1 + 1) * stp5 (nI i).toNatClampNeg), .int (nI x10), .int (nI x6)] g post' := by
                intro x10 x6 e10 e6 post' kk
                rw [eplc, nI_1, e10, e6]
                refine ihd (i + 1) (by omega) (by omega) (c0 + v * 5 ^ (4 - i)) (by omega) ?_ (fun m hm => ?_) g o post' (fun g' o' => kk g' ?_)
                · rw [show 5 - (i + 1) = 4 - i by omega]
                  exact pre_mod (by omega) hz
                · by_cases em : m = i
                  · subst em
                    rw [d1]
                    exact ⟨by omega, hk⟩
                  · rw [d0 m (by omega)]
                    exact hpre m (by omega)
                · rw [show 5 - (i + 1) = 4 - i by omega] at o'
                  rw [Nat.add_mul, Nat.one_mul, ← Nat.add_assoc]
                  exact o'
              have ePH : ∀ q, pHT a false (c0 + v * 5 ^ (4 - i)) (i + 1) q = pHT a false c0 i q + (if (dk a false).testBit i then 0 else gv a i v q) := fun q => by
                show sm _ i + _ = _
                dsimp only
                rw [d1]
                congr 1
                exact sm_cong i (fun m hm => by rw [d0 m hm])
              have ePC : pCT a (c0 + v * 5 ^ (4 - i)) (i + 1) = pCT a c0 i + (if (aH a).testBit i then 0 else sm (gv a i v) 4) := by
                show sm _ i + _ = _
                dsimp only
                rw [d1]
                congr 1
                exact sm_cong i (fun m hm => by rw [d0 m hm])
              refine sX2_openFrom_69_p4 (ev_light hIg hw (by omega) (by omega) (sX2_openFrom_76_p4 (fun z => ?_) (fun z => ?_)))
              · rw [b2i_0] at z
                have hdk : (dk a false).testBit i = false := dk_sh z
                refine sX2_openFrom_95_p4 (fun _ => ?_) (fun z2 => absurd (by rw [z]; rfl) z2)
                refine sX2_openFrom_112_p4 (ev_sum (fun q _ => by have := gv_le hw i v q; omega) (sX2_openFrom_119_p4 (vp_in_nI (by omega) (by omega)) ?_))
                rw [nI_add (pCT a c0 i), nI_add (pkd _), ← pkd_add]
                refine recu _ _ ?_ ?_ _ (fun g' o' => next g' o')
                · refine pkd_cong (fun q _ => ?_)
                  rw [ePH, hdk]; rfl
                · rw [ePC, z]; rfl
              · rw [b2i_n] at z
                refine sX2_openFrom_83_p4 (fun z1 => ?_) (fun z1 => ?_)
                · rw [hsg, b2i_n] at z1
                  have hdk : (dk a false).testBit i = false := dk_st z1
                  refine sX2_openFrom_95_p4 (fun z2 => absurd z2 (by rw [z]; decide)) (fun _ => sX2_openFrom_107_p4 (vp_in_nI (by omega) (by omega)) ?_)
                  rw [nI_add (pkd _), ← pkd_add]
                  refine recu _ _ ?_ ?_ _ (fun g' o' => next g' o')
                  · refine pkd_cong (fun q _ => ?_)
                    rw [ePH, hdk]; rfl
                  · rw [ePC, z]; rfl
                · rw [hsg, b2i_0] at z1
                  have hdk : (dk a false).testBit i = true := dk_ls z1 z
                  refine sX2_openFrom_90_p4 (fun z2 => absurd z2 (by rw [z]; decide)) (fun _ => sX2_openFrom_107_p4 (vp_in_nI (by omega) (by omega)) ?_)
                  refine recu _ _ ?_ ?_ _ (fun g' o' => next g' o')
                  · refine pkd_cong (fun q _ => ?_)
                    rw [ePH, hdk]; rfl
                  · rw [ePC, z]; rfl
            refine sX2_openFrom_47_p4 (ev_isStuck hIg hw (by omega) (sX2_openFrom_52_p4 (fun z => ?_) (fun z => sX2_openFrom_55_p4 (vp_in_nI (by omega) (by omega)) (fun z2 => ?_) (fun z2 => sX2_openFrom_66_p4 (next g ?_)))))
            · rw [b2i_0] at z
              exact take (fun y => by rw [z] at y; cases y)
            · rw [nI_clamp (by omega), hIg.aim (by omega)] at z2
              exact take (fun _ => aim_inj (by omega) (by have := (hw.2.2.2.1 i).2.2.1; omega) z2)
            · rw [b2i_n] at z
              rw [nI_clamp (by omega), hIg.aim (by omega)] at z2
              refine OP4_skip (k := c0 + v * 5 ^ (4 - i)) (by rw [Nat.add_mul]; omega) (fun c h1 h2 => ?_) o
              rw [Nat.add_mul] at h2
              obtain ⟨r, rfl⟩ : ∃ r, c = c0 + v * 5 ^ (4 - i) + r := ⟨c - (c0 + v * 5 ^ (4 - i)), by omega⟩
              refine not_there (m := i) (by omega) (fun y => ?_)
              have := y.2.2 z
              rw [dat r (by omega)] at this
              exact z2 (by rw [this])
          · have hIg : CI a g := hI.same (fun z hz => o.2.2.2.1 z (by omega) (by omega))
            refine sX2_openFrom_38_p4 (fun _ => sX2_openFrom_154_p4 (k g ?_)) (fun z => absurd (by rw [hIg.p, am_le (by omega) (by omega)]; omega) z)
            have hpm : (aP a + 1) * 5 ^ (4 - i) ≤ 5 ^ (5 - i) := by rw [e5]; exact Nat.mul_le_mul_right _ (by omega)
            refine OP4_skip (k := c0 + (aP a + 1) * 5 ^ (4 - i)) (by omega) (fun c h1 h2 => ?_) o
            obtain ⟨r, rfl⟩ : ∃ r, c = c0 + r := ⟨c - c0, by omega⟩
            refine not_there (m := i) (by omega) (fun y => ?_)
            have := y.1 (by omega)
            rw [dg_at (by omega) hz (by omega)] at this
            have h3 : aP a + 1 ≤ r / 5 ^ (4 - i) := (Nat.le_div_iff_mul_le hpos).mpr (by omega)
            omega
        have := hL 0 (by omega) g (by rw [Nat.zero_mul, Nat.add_zero]; exact o)
        exact this
    · rw [b2i_0] at q
      exact OP4_skip (by omega) (fun c h1 h2 => prune hw hin (by omega) hz h1 h2 q) o
end OPN4
section OPN5
variable {post : Option Value → PH → Prop} {h : PH} {a : St}
/-- the codes below k have been looked at -/
def OP5 (a : St) (k : Nat) (h g : PH) : Prop := (∀ c, c < 3125 → g.1 12 (rv c) = if c < k ∧ okk a true c = true then -1 else -2) ∧ g.1 5 4 = (if (BS a true k).1 = 0 then -1001 else nI ((BS a true k).1 - 1)) ∧ ((BS a true k).1 ≠ 0 → g.1 5 5 = nI (plc (dg (BS a true k).2) (aN a))) ∧ (∀ cc, cc ≠ 12 → cc ≠ 5 → g.1 cc = h.1 cc) ∧ (∀ j, j ≠ 4 → j ≠ 5 → g.1 5 j = h.1 5 j) ∧ g.2 = h.2
theorem OP5_skip {k k' : Nat} {g : PH} (h1 : k ≤ k') (hn : ∀ c, k ≤ c → c < k' → okk a true c = false) (o : OP5 a k h g) : OP5 a k' h g := by
  have eB : BS a true k' = BS a true k := BS_skip h1 hn
  unfold OP5 at o ⊢
  rw [eB]
  refine ⟨fun c hc => ?_, o.2⟩
  rw [o.1 c hc]
  by_cases z : c < k' ∧ okk a true c = true
  · have hk : c < k := by
      apply Classical.byContradiction
      intro hk
      have := hn c (by omega) z.1
      rw [this] at z
      cases z.2
    rw [if_pos z, if_pos ⟨hk, z.2⟩]
  · rw [if_neg z, if_neg (fun y => z ⟨by omega, y.2⟩)]
theorem leaf5 {a : St} {h g : PH} {post : Option Value → PH → Prop} {d i c0 : Nat} (hw : WF a) (en : i = aN a) (hc : c0 < 3125) (hz : c0 % 5 ^ (5 - i) = 0) (hpre : ∀ m, m < i → dg c0 m ≤ aP a ∧ ((aK a).testBit m = true → dg c0 m = aV a m)) (q : okc a (fun q => pHT a true c0 i q) = true) (o : OP5 a c0 h g) (k : ∀ g', OP5 a (c0 + 5 ^ (5 - i)) h g' → post none g') :
    G (d + 2) mX2_openFrom post 18 [none, some (.ref 5), some (.ref 12), none, some (.int (nI (plc (dg c0) i))), none, some (.int (nI (pCT a c0 i))), none, none, none, none, none] [] g := by
  have h5 := hw.1
  have hok : okk a true c0 = true := by
    unfold okk
    rw [Bool.and_eq_true]
    refine ⟨there_iff.mpr (fun m hm => ⟨fun hn => (hpre m (by omega)).1, fun hn => dg_zero (i := i) (by omega) (by omega) hm hz, fun hk => ?_⟩), ?_⟩
    · by_cases hmn : m < i
      · exact (hpre m hmn).2 hk
      · rw [dg_zero (by omega) (by omega) hm hz]
        exact ((hw.2.2.2.1 m).2.2.2 (by omega)).symm
    · subst en
      exact q
  have erv : plc (dg c0) i = rv c0 := by
    unfold rv plc
    exact (sm_cut 5 (by omega) (fun m h1 h2 => by rw [dg_zero (by omega) h1 h2 hz, Nat.zero_mul])).symm
  have ect : pCT a c0 i = CT a (dg c0) (aH a) := by
    subst en
    exact pCT_eq a c0
  have hct := CT_le hw (dg c0) (aH a)
  have hrv := rv_lt hc
  have hbs := BS_le hw true c0
  rw [erv, ect]
  have opn : ∀ c, c < 3125 → (upd2 g.1 12 (rv c0) (-1)) 12 (rv c) = if c < c0 + 1 ∧ okk a true c = true then -1 else -2 := by
    intro c hcc
    rw [upd2_self]
    unfold upd
    by_cases e : c = c0
    · rw [if_pos (by rw [e]), if_pos ⟨by omega, by rw [e]; exact hok⟩]
    · rw [if_neg (fun z => e (rv_inj hcc hc z)), o.1 c hcc]
      by_cases z : c < c0 ∧ okk a true c = true
      · rw [if_pos z, if_pos ⟨by omega, z.2⟩]
      · rw [if_neg z, if_neg (fun y => z ⟨by omega, y.2⟩)]
  have skip : ∀ g', OP5 a (c0 + 1) h g' → post none g' := fun g' o' => k g' (OP5_skip (k := c0 + 1) (by have : 0 < 5 ^ (5 - i) := Nat.pow_pos (by omega); omega) (fun c h1 h2 => by
    obtain ⟨r, rfl⟩ : ∃ r, c = c0 + r := ⟨c - c0, by omega⟩
    obtain ⟨m, h3, h4, h5'⟩ := tail_ne (i := i) (c0 := c0) (r := r) (by omega) hz (by omega) (by omega)
    exact not_there (m := m) h4 (fun y => h5' (y.2.1 (by omega)))) o')
  have hB : BS a true (c0 + 1) = if (BS a true c0).1 < CT a (dg c0) (aH a) + 1 then (CT a (dg c0) (aH a) + 1, c0) else BS a true c0 := by
    show (if okk a true c0 = true ∧ (BS a true c0).1 < CT a (dg c0) (aH a) + 1 then (CT a (dg c0) (aH a) + 1, c0) else BS a true c0) = _
    by_cases z : (BS a true c0).1 < CT a (dg c0) (aH a) + 1
    · rw [if_pos ⟨hok, z⟩, if_pos z]
    · rw [if_neg (fun y => z y.2), if_neg z]
  have cmp : nI (CT a (dg c0) (aH a)) ≤ g.1 5 4 ↔ ¬ (BS a true c0).1 < CT a (dg c0) (aH a) + 1 := by
    rw [o.2.1]
    by_cases z : (BS a true c0).1 = 0
    · rw [if_pos z, z]
      constructor
      · intro y
        rw [Int32.le_iff_toInt_le, nI_toInt (by omega), show (-1001 : Int32).toInt = -1001 by decide] at y
        omega
      · intro y; omega
    · rw [if_neg z, nI_leI (by omega) (by omega)]
      omega
  refine sX2_openFrom_18_p5 (Ev.intro rfl (Nat.le_of_ble_eq_true rfl) (sX2_open_0_p5 (fun z => absurd z (nI_pos (by omega))) (fun _ => sX2_open_4_p5 (fun _ => sX2_open_11_p5 (vp_in_nI hrv (by omega)) (fun z => sX2_open_33_p5 (sX2_openFrom_27_p5 ?_)) (fun z => sX2_open_23_p5 (sX2_openFrom_27_p5 ?_))) (fun z => absurd (show nI (rv c0) < nI 3125 from (nI_ltI (by omega) (by omega)).mpr hrv) z))))
  · rw [cmp] at z
    rw [nI_clamp (by omega)]
    rw [if_neg z] at hB
    refine skip _ ⟨opn, ?_, ?_, fun cc h1 h2 => ?_, fun j h1 h2 => ?_, o.2.2.2.2.2⟩
    · rw [hB]; exact o.2.1
    · rw [hB]; exact o.2.2.1
    · show upd2 g.1 12 (rv c0) (-1) cc = _
      rw [upd2_ne h1]; exact o.2.2.2.1 cc h1 h2
    · exact o.2.2.2.2.1 j h1 h2
  · rw [cmp] at z
    have z : (BS a true c0).1 < CT a (dg c0) (aH a) + 1 := by omega
    rw [nI_clamp (by omega)]
    rw [if_pos z] at hB
    refine skip _ ⟨opn, ?_, fun _ => ?_, fun cc h1 h2 => ?_, fun j h1 h2 => ?_, o.2.2.2.2.2⟩
    · rw [hB]; rfl
    · rw [hB]
      show nI (rv c0) = nI (plc (dg c0) (aN a))
      rw [← en, erv]
    · show upd2 (upd2 (upd2 g.1 12 (rv c0) (-1)) 5 4 _) 5 5 _ cc = _
      rw [upd2_ne h2, upd2_ne h2, upd2_ne h1]; exact o.2.2.2.1 cc h1 h2
    · show upd2 (upd2 (upd2 g.1 12 (rv c0) (-1)) 5 4 _) 5 5 _ 5 j = _
      rw [upd2_self, pk_un h2, upd2_self, pk_un h1]
      exact o.2.2.2.2.1 j h1 h2
theorem ev_openFrom5 (hI : CI a h) (hw : WF a) (hs : h.1 5 0 = b2i true) : ∀ d i, i + d = 5 → i ≤ aN a → ∀ c0, c0 < 3125 → c0 % 5 ^ (5 - i) = 0 → (∀ m, m < i → dg c0 m ≤ aP a ∧ ((aK a).testBit m = true → dg c0 m = aV a m)) → ∀ g, OP5 a c0 h g → ∀ post : Option Value → PH → Prop, (∀ g', OP5 a (c0 + 5 ^ (5 - i)) h g' → post none g') →
    Ev (d + 2) mX2_openFrom [.ref 2, .ref 5, .ref 12, .int (nI i), .int (nI (plc (dg c0) i)), .int (nI (pkd (fun q => pHT a true c0 i q))), .int (nI (pCT a c0 i))] g post := by
  have h5 := hw.1
  have h4 := hw.2.1
  intro d
  induction d with
  | zero =>
    intro i hid hin c0 hc hz hpre g o post k
    have hIg : CI a g := hI.same (fun z hz => o.2.2.2.1 z (by omega) (by omega))
    have en : i = aN a := by omega
    refine Ev.intro rfl (Nat.le_of_ble_eq_true rfl) (sX2_openFrom_0_p5 (ev_isSafe hIg hw (fun q _ => pHT_le hw _ _ _ (by omega) q) (fun q hq => pHT_out hq) (sX2_openFrom_6_p5 (fun q => sX2_openFrom_10_p5 (ev_hasMirror hIg hw ?_)) (fun q => sX2_openFrom_9_p5 (k g ?_)))))
    · rw [ix_nI' (by omega) (by omega)]
      rw [b2i_n] at q
      exact sX2_openFrom_15_p5 (fun z => absurd rfl z) (fun _ => leaf5 (d := 0) hw en hc hz hpre q o k)
    · rw [b2i_0] at q
      exact OP5_skip (by omega) (fun c h1 h2 => prune hw hin (by omega) hz h1 h2 q) o
  | succ d ihd =>
    intro i hid hin c0 hc hz hpre g o post k
    have hIg : CI a g := hI.same (fun z hz => o.2.2.2.1 z (by omega) (by omega))
    refine Ev.intro rfl (Nat.le_of_ble_eq_true rfl) (sX2_openFrom_0_p5 (ev_isSafe hIg hw (fun q _ => pHT_le hw _ _ _ (by omega) q) (fun q hq => pHT_out hq) (sX2_openFrom_6_p5 (fun q => sX2_openFrom_10_p5 (ev_hasMirror hIg hw ?_)) (fun q => sX2_openFrom_9_p5 (k g ?_)))))
    · rw [b2i_n] at q
      by_cases en : i = aN a
      · rw [ix_nI' (by omega) (by omega)]
        exact sX2_openFrom_15_p5 (fun z => absurd rfl z) (fun _ => leaf5 (d := d + 1) hw en hc hz hpre q o k)
      · rw [ix_nI (by omega) (by omega)]
        refine sX2_openFrom_15_p5 (fun _ => sX2_openFrom_28_p5 (ev_isShaded hIg hw (by omega) (sX2_openFrom_33_p5 ?_))) (fun z => absurd z (by decide))
        have e5 : 5 ^ (5 - i) = 5 * 5 ^ (4 - i) := by rw [show 5 - i = (4 - i) + 1 by omega, Nat.pow_succ]; omega
        have hpos : 0 < 5 ^ (4 - i) := Nat.pow_pos (by omega)
        have hbig : c0 + 5 ^ (5 - i) ≤ 3125 := pre_le (by omega) hc hz
        have hL : ∀ v, v ≤ aP a + 1 → ∀ g, OP5 a (c0 + v * 5 ^ (4 - i)) h g → G (d + 1 + 2) mX2_openFrom post 38 [some (.ref 2), some (.ref 5), some (.ref 12), some (.int (nI i)), some (.int (nI (plc (dg c0) i))), some (.int (nI (pkd (fun q => pHT a true c0 i q)))), some (.int (nI (pCT a c0 i))), some (.int (b2i ((aH a).testBit i))), some (.int (nI v - 1)), none, none, none] [] g := by
          refine loopU (aP a + 1) (fun v hv jh g o => ?_) (fun g o => ?_)
          · have hIg : CI a g := hI.same (fun z hz => o.2.2.2.1 z (by omega) (by omega))
            have hsg : g.1 5 0 = b2i true := by rw [o.2.2.2.2.1 0 (by decide) (by decide)]; exact hs
            have hvm : v * 5 ^ (4 - i) + 5 ^ (4 - i) ≤ 5 ^ (5 - i) := by
              rw [e5]
              have : (v + 1) * 5 ^ (4 - i) ≤ 5 * 5 ^ (4 - i) := Nat.mul_le_mul_right _ (by omega)
              rw [Nat.add_mul] at this
              omega
            have dpre : ∀ r, r < 5 ^ (4 - i) → ∀ m, m < i → dg (c0 + v * 5 ^ (4 - i) + r) m = dg c0 m := fun r hr m hm => by
              rw [Nat.add_assoc]
              exact dg_pre (by omega) hz (by omega) hm
            have dat : ∀ r, r < 5 ^ (4 - i) → dg (c0 + v * 5 ^ (4 - i) + r) i = v := fun r hr => by
              rw [Nat.add_assoc, dg_at (by omega) hz (by omega), Nat.add_comm, Nat.add_mul_div_right _ _ hpos, Nat.div_eq_of_lt hr]
              omega
            refine sX2_openFrom_38_p5 (fun z => ?_) (fun _ => ?_)
            · rw [hIg.p, am_le (by omega) (by omega)] at z; omega
            have next : ∀ g', OP5 a (c0 + (v + 1) * 5 ^ (4 - i)) h g' → G (d + 1 + 2) mX2_openFrom post 148 [some (.ref 2), some (.ref 5), some (.ref 12), some (.int (nI i)), some (.int (nI (plc (dg c0) i))), some (.int (nI (pkd (fun q => pHT a true c0 i q)))), some (.int (nI (pCT a c0 i))), some (.int (b2i ((aH a).testBit i))), some (.int (nI v - 1)), none, none, none] [] g' := fun g' o' => by
              refine sX2_openFrom_148_p5 ?_
              rw [show nI v - 1 + 1 = nI (v + 1) - 1 by rw [Int32.sub_add_cancel, nI_pred]]
              exact jh g' o'
            have take : ((aK a).testBit i = true → v = aV a i) → G (d + 1 + 2) mX2_openFrom post 69 [some (.ref 2), some (.ref 5), some (.ref 12), some (.int (nI i)), some (.int (nI (plc (dg c0) i))), some (.int (nI (pkd (fun q => pHT a true c0 i q)))), some (.int (nI (pCT a c0 i))), some (.int (b2i ((aH a).testBit i))), some (.int (nI v - 1)), none, none, none] [] g := fun hk => by
              have d0 := dpre 0 hpos
              have d1 := dat 0 hpos
              rw [Nat.add_zero] at d0 d1
              have eplc : nI (plc (dg c0) i) + (nI v - 1 + 1) * stp5 (nI i).toNatClampNeg = nI (plc (dg (c0 + v * 5 ^ (4 - i))) (i + 1)) := by
                rw [Int32.sub_add_cancel, nI_clamp (by omega), stp5_eq i (by omega), pk_mul, nI_add]
                congr 1
                show _ = sm (fun m => dg (c0 + v * 5 ^ (4 - i)) m * 5 ^ m) i + dg (c0 + v * 5 ^ (4 - i)) i * 5 ^ i
                rw [d1]
                congr 1
                exact sm_cong i (fun m hm => by rw [d0 m hm])
              have recu : ∀ (x10 x6 : Nat), x10 = pkd (fun q => pHT a true (c0 + v * 5 ^ (4 - i)) (i + 1) q) → x6 = pCT a (c0 + v * 5 ^ (4 - i)) (i + 1) → ∀ post' : Option Value → PH → Prop, (∀ g', OP5 a (c0 + (v + 1) * 5 ^ (4 - i)) h g' → post' none g') → Ev (d + 2) mX2_openFrom [.ref 2, .ref 5, .ref 12, .int (nI i + 1), .int (nI (plc (dg c0) i) + (nI v - 1 + 1) * stp5 (nI i).toNatClampNeg), .int (nI x10), .int (nI x6)] g post' := by
                intro x10 x6 e10 e6 post' kk
                rw [eplc, nI_1, e10, e6]
                refine ihd (i + 1) (by omega) (by omega) (c0 + v * 5 ^ (4 - i)) (by omega) ?_ (fun m hm => ?_) g o post' (fun g' o' => kk g' ?_)
                · rw [show 5 - (i + 1) = 4 - i by omega]
                  exact pre_mod (by omega) hz
                · by_cases em : m = i
                  · subst em
                    rw [d1]
                    exact ⟨by omega, hk⟩
                  · rw [d0 m (by omega)]
                    exact hpre m (by omega)
                · rw [show 5 - (i + 1) = 4 - i by omega] at o'
                  rw [Nat.add_mul, Nat.one_mul, ← Nat.add_assoc]
                  exact o'
              have ePH : ∀ q, pHT a true (c0 + v * 5 ^ (4 - i)) (i + 1) q = pHT a true c0 i q + (if (dk a true).testBit i then 0 else gv a i v q) := fun q => by
                show sm _ i + _ = _
                dsimp only
                rw [d1]
                congr 1
                exact sm_cong i (fun m hm => by rw [d0 m hm])
              have ePC : pCT a (c0 + v * 5 ^ (4 - i)) (i + 1) = pCT a c0 i + (if (aH a).testBit i then 0 else sm (gv a i v) 4) := by
                show sm _ i + _ = _
                dsimp only
                rw [d1]
                congr 1
                exact sm_cong i (fun m hm => by rw [d0 m hm])
              refine sX2_openFrom_69_p5 (ev_light hIg hw (by omega) (by omega) (sX2_openFrom_76_p5 (fun z => ?_) (fun z => ?_)))
              · rw [b2i_0] at z
                have hdk : (dk a true).testBit i = false := dk_sh z
                refine sX2_openFrom_95_p5 (fun _ => ?_) (fun z2 => absurd (by rw [z]; rfl) z2)
                refine sX2_openFrom_112_p5 (ev_sum (fun q _ => by have := gv_le hw i v q; omega) (sX2_openFrom_119_p5 (vp_in_nI (by omega) (by omega)) ?_))
                rw [nI_add (pCT a c0 i), nI_add (pkd _), ← pkd_add]
                refine recu _ _ ?_ ?_ _ (fun g' o' => next g' o')
                · refine pkd_cong (fun q _ => ?_)
                  rw [ePH, hdk]; rfl
                · rw [ePC, z]; rfl
              · rw [b2i_n] at z
                refine sX2_openFrom_83_p5 (fun z1 => ?_) (fun z1 => ?_)
                · rw [hsg, b2i_n] at z1
                  have hdk : (dk a true).testBit i = false := dk_st z1
                  refine sX2_openFrom_95_p5 (fun z2 => absurd z2 (by rw [z]; decide)) (fun _ => sX2_openFrom_107_p5 (vp_in_nI (by omega) (by omega)) ?_)
                  rw [nI_add (pkd _), ← pkd_add]
                  refine recu _ _ ?_ ?_ _ (fun g' o' => next g' o')
                  · refine pkd_cong (fun q _ => ?_)
                    rw [ePH, hdk]; rfl
                  · rw [ePC, z]; rfl
                · rw [hsg, b2i_0] at z1
                  have hdk : (dk a true).testBit i = true := dk_ls z1 z
                  refine sX2_openFrom_90_p5 (fun z2 => absurd z2 (by rw [z]; decide)) (fun _ => sX2_openFrom_107_p5 (vp_in_nI (by omega) (by omega)) ?_)
                  refine recu _ _ ?_ ?_ _ (fun g' o' => next g' o')
                  · refine pkd_cong (fun q _ => ?_)
                    rw [ePH, hdk]; rfl
                  · rw [ePC, z]; rfl
            refine sX2_openFrom_47_p5 (ev_isStuck hIg hw (by omega) (sX2_openFrom_52_p5 (fun z => ?_) (fun z => sX2_openFrom_55_p5 (vp_in_nI (by omega) (by omega)) (fun z2 => ?_) (fun z2 => sX2_openFrom_66_p5 (next g ?_)))))
            · rw [b2i_0] at z
              exact take (fun y => by rw [z] at y; cases y)
            · rw [nI_clamp (by omega), hIg.aim (by omega)] at z2
              exact take (fun _ => aim_inj (by omega) (by have := (hw.2.2.2.1 i).2.2.1; omega) z2)
            · rw [b2i_n] at z
              rw [nI_clamp (by omega), hIg.aim (by omega)] at z2
              refine OP5_skip (k := c0 + v * 5 ^ (4 - i)) (by rw [Nat.add_mul]; omega) (fun c h1 h2 => ?_) o
              rw [Nat.add_mul] at h2
              obtain ⟨r, rfl⟩ : ∃ r, c = c0 + v * 5 ^ (4 - i) + r := ⟨c - (c0 + v * 5 ^ (4 - i)), by omega⟩
              refine not_there (m := i) (by omega) (fun y => ?_)
              have := y.2.2 z
              rw [dat r (by omega)] at this
              exact z2 (by rw [this])
          · have hIg : CI a g := hI.same (fun z hz => o.2.2.2.1 z (by omega) (by omega))
            refine sX2_openFrom_38_p5 (fun _ => sX2_openFrom_154_p5 (k g ?_)) (fun z => absurd (by rw [hIg.p, am_le (by omega) (by omega)]; omega) z)
            have hpm : (aP a + 1) * 5 ^ (4 - i) ≤ 5 ^ (5 - i) := by rw [e5]; exact Nat.mul_le_mul_right _ (by omega)
            refine OP5_skip (k := c0 + (aP a + 1) * 5 ^ (4 - i)) (by omega) (fun c h1 h2 => ?_) o
            obtain ⟨r, rfl⟩ : ∃ r, c = c0 + r := ⟨c - c0, by omega⟩
            refine not_there (m := i) (by omega) (fun y => ?_)
            have := y.1 (by omega)
            rw [dg_at (by omega) hz (by omega)] at this
            have h3 : aP a + 1 ≤ r / 5 ^ (4 - i) := (Nat.le_div_iff_mul_le hpos).mpr (by omega)
            omega
        have := hL 0 (by omega) g (by rw [Nat.zero_mul, Nat.add_zero]; exact o)
        exact this
    · rw [b2i_0] at q
      exact OP5_skip (by omega) (fun c h1 h2 => prune hw hin (by omega) hz h1 h2 q) o
end OPN5
