/-! the page, the library's rows, what writes the plant -/
def setA (h : PH) (c : Nat) (f : Nat → Int32) : PH := (fun k => if k = c then f else h.1 k, h.2)
theorem setA_self (h : PH) (c : Nat) (f : Nat → Int32) : (setA h c f).1 c = f := if_pos rfl
theorem setA_ne {h : PH} {c k : Nat} {f : Nat → Int32} (hk : k ≠ c) : (setA h c f).1 k = h.1 k := if_neg hk
theorem upd2_setA (h : PH) (c i : Nat) (x : Int32) : (upd2 h.1 c i x, h.2) = setA h c (upd (h.1 c) i x) := rfl
theorem setA_setA (h : PH) (c : Nat) (f g : Nat → Int32) : setA (setA h c f) c g = setA h c g := by
  refine Prod.ext (funext fun k => ?_) rfl
  show (if k = c then g else if k = c then f else h.1 k) = if k = c then g else h.1 k
  split <;> rfl
theorem setA_id (h : PH) (c : Nat) : setA h c (h.1 c) = h := by
  refine Prod.ext (funext fun k => ?_) rfl
  show (if k = c then h.1 c else h.1 k) = h.1 k
  split
  · rename_i e; rw [e]
  · rfl
theorem setA_upd (h : PH) (c i : Nat) (f : Nat → Int32) (x : Int32) : (upd2 (setA h c f).1 c i x, (setA h c f).2) = setA h c (upd f i x) := by
  rw [upd2_setA, setA_self, setA_setA]
theorem upd_upd (f : Nat → Int32) (i : Nat) (x y : Int32) : upd (upd f i x) i y = upd f i y := by
  funext k
  unfold upd
  split <;> rfl
theorem upd2_upd2 (h : PH) (c i : Nat) (x y : Int32) : upd2 (upd2 h.1 c i x) c i y = upd2 h.1 c i y := by
  have := setA_upd h c i (upd (h.1 c) i x) y
  rw [upd_upd] at this
  exact congrArg Prod.fst this
theorem fill_upd (g : Nat → Int32) (i : Nat) (x : Int32) : upd (fun j => if j < i then x else g j) i x = fun j => if j < i + 1 then x else g j := by
  funext j
  unfold upd
  by_cases e1 : j = i
  · rw [if_pos e1, if_pos (by omega)]
  · rw [if_neg e1]
    show (if j < i then x else g j) = _
    by_cases e2 : j < i
    · rw [if_pos e2, if_pos (by omega)]
    · rw [if_neg e2, if_neg (by omega)]
section PL2
variable {post : Option Value → PH → Prop} {h : PH} {a : St}
theorem ev_fill12 {x : Int32} (k : post none (setA h 12 (fun i => if i < 3125 then x else h.1 12 i))) : Ev 0 mJ7_fill_53178 [.ref 12, .int x] h post := by
  refine Ev.intro rfl (Nat.le_of_ble_eq_true rfl) (sJ7_fill_53178_0_p12 ?_)
  have hS : ∀ i, i ≤ 3125 → G 0 mJ7_fill_53178 post 5 [some (.ref 12), some (.int x), some (.int (nI i)), some (.int (nI 3125))] [] (setA h 12 (fun j => if j < i then x else h.1 12 j)) := by
    refine loopU 3125 (fun i hi ih => ?_) ?_
    · refine sJ7_fill_53178_5_p12 (fun hc => ?_) (fun _ => ?_)
      · rw [nI_leI (by omega) (by omega)] at hc; omega
      refine sJ7_fill_53178_10_p12 (vp_in_nI hi (by omega)) ?_
      rw [nI_clamp (by omega), setA_upd, nI_1]
      rw [fill_upd]
      exact ih
    · exact sJ7_fill_53178_5_p12 (fun hc => sJ7_fill_53178_20_p12 k) (fun hc => absurd (nI_le (Nat.le_refl _) (by omega)) hc)
  have := hS 0 (by omega)
  have e : setA h 12 (fun j => if j < 0 then x else h.1 12 j) = h := by
    have : (fun j => if j < 0 then x else h.1 12 j) = h.1 12 := by funext j; rw [if_neg (by omega)]
    rw [this, setA_id]
  rw [e] at this
  exact this
theorem ev_fill11 {x : Int32} (k : post none (setA h 11 (fun i => if i < 4 then x else h.1 11 i))) : Ev 0 mJ7_fill_53178 [.ref 11, .int x] h post := by
  refine Ev.intro rfl (Nat.le_of_ble_eq_true rfl) (sJ7_fill_53178_0_p11 ?_)
  have hS : ∀ i, i ≤ 4 → G 0 mJ7_fill_53178 post 5 [some (.ref 11), some (.int x), some (.int (nI i)), some (.int (nI 4))] [] (setA h 11 (fun j => if j < i then x else h.1 11 j)) := by
    refine loopU 4 (fun i hi ih => ?_) ?_
    · refine sJ7_fill_53178_5_p11 (fun hc => ?_) (fun _ => ?_)
      · rw [nI_leI (by omega) (by omega)] at hc; omega
      refine sJ7_fill_53178_10_p11 (vp_in_nI hi (by omega)) ?_
      rw [nI_clamp (by omega), setA_upd, nI_1]
      rw [fill_upd]
      exact ih
    · exact sJ7_fill_53178_5_p11 (fun hc => sJ7_fill_53178_20_p11 k) (fun hc => absurd (nI_le (Nat.le_refl _) (by omega)) hc)
  have := hS 0 (by omega)
  have e : setA h 11 (fun j => if j < 0 then x else h.1 11 j) = h := by
    have : (fun j => if j < 0 then x else h.1 11 j) = h.1 11 := by funext j; rw [if_neg (by omega)]
    rw [this, setA_id]
  rw [e] at this
  exact this
def pcn (o : Nat) : Nat := cnt (fun i => o.testBit i) 5
def ush (x y : Int32) : Int32 := (Int32.toUInt32 x >>> (Int32.toUInt32 y &&& Int32.toUInt32 31)).toInt32
def bc1 (x : Int32) : Int32 := x - (ush x 1 &&& 1431655765)
def bc2 (x : Int32) : Int32 := (x &&& 858993459) + (ush x 2 &&& 858993459)
def bc3 (x : Int32) : Int32 := (x + ush x 4) &&& 252645135
def bc4 (x : Int32) : Int32 := x + ush x 8
def bc5 (x : Int32) : Int32 := x + ush x 16
theorem bc_eq : ∀ o, o < 32 → bc5 (bc4 (bc3 (bc2 (bc1 (nI o))))) &&& 63 = nI (pcn o) := by decide +kernel
theorem ev_bitCount {o : Nat} (ho : o < 32) (k : post (some (.int (nI (pcn o)))) h) : Ev 0 mJ6_bitCount_0f7a4 [.int (nI o)] h post := by
  refine Ev.intro rfl (Nat.le_of_ble_eq_true rfl) (sJ6_bitCount_0f7a4_0 ?_)
  rw [← bc_eq o ho] at k
  exact k
/-! the page -/
def PG (n : Nat) (c : Nat → Int32) (h : PH) : Prop := n ≤ 21 ∧ h.1 1 1 = nI n ∧ ∀ k, k < n → h.1 6 k = c k
theorem ev_codeAt {n k : Nat} {c : Nat → Int32} (hG : PG n c h) (hk : k < n) (kk : post (some (.int (c k))) h) : Ev 0 mX0_codeAt [.ref 1, .int (nI k)] h post := by
  have := hG.1
  refine Ev.intro rfl (Nat.le_of_ble_eq_true rfl) (sX0_codeAt_0 (fun hc => absurd hc (nI_pos (by omega))) (fun _ => sX0_codeAt_4 (fun hc => ?_) (fun _ => sX0_codeAt_12 (vp_in_nI (by omega) (by omega)) ?_)))
  · rw [hG.2.1, nI_leI (by omega) (by omega)] at hc; omega
  · rw [nI_clamp (by omega), hG.2.2 k hk]; exact kk
theorem ev_figureAt {n k : Nat} {c : Nat → Int32} (hG : PG n c h) (hk : k < n) (kk : post (some (.int (c k - 48))) h) : Ev 1 mX0_figureAt [.ref 1, .int (nI k)] h post := by
  refine Ev.intro rfl (Nat.le_of_ble_eq_true rfl) (sX0_figureAt_0 (ev_codeAt hG hk (sX0_figureAt_5 kk)))
/-- the letter c fits at place k -/
def rt (c : Int32) (k : Nat) : Bool := if k = 0 then decide (¬ c < 49 ∧ ¬ 52 < c) else if k % 4 = 1 then decide (c = 59) else if k % 4 = 2 then decide (¬ c < 49 ∧ ¬ 57 < c) else if k % 4 = 3 then decide (c = 44) else decide (¬ c < 48 ∧ ¬ 57 < c)
theorem ev_fits {n k : Nat} {c : Nat → Int32} (hG : PG n c h) (hk : k < n) (kk : post (some (.int (b2i (rt (c k) k)))) h) : Ev 1 mX0_fits [.ref 1, .int (nI k)] h post := by
  have hn := hG.1
  refine Ev.intro rfl (Nat.le_of_ble_eq_true rfl) (sX0_fits_0 (ev_codeAt hG hk ?_))
  have hr : nI k - nI k / 4 * 4 = nI (k % 4) := pk_rem (d := 4) (by omega) (by omega) (by omega)
  have hti : (nI (k % 4)).toInt = ((k % 4 : Nat) : Int) := nI_toInt (by omega)
  refine sX0_fits_5 (fun hc => sX0_fits_28 (fun hc2 => ?_) (fun hc2 => ?_) (fun hc2 => ?_) (fun hc2 => ?_)) (fun hc => ?_)
  all_goals try rw [hr, hti] at hc2
  all_goals try have hk0 : k ≠ 0 := fun e => hc (by rw [e]; rfl)
  · have e : rt (c k) k = decide (¬ c k < 48 ∧ ¬ 57 < c k) := by unfold rt; rw [if_neg hk0, if_neg (by omega), if_neg (by omega), if_neg (by omega)]
    rw [e] at kk
    refine sX0_fits_98 (fun h1 => sX0_fits_114 ?_) (fun h1 => sX0_fits_104 (fun h2 => sX0_fits_114 ?_) (fun h2 => sX0_fits_110 ?_))
    · rw [decide_eq_false (fun q => q.1 h1)] at kk; exact kk
    · rw [decide_eq_false (fun q => q.2 h2)] at kk; exact kk
    · rw [decide_eq_true ⟨h1, h2⟩] at kk; exact kk
  · have e : rt (c k) k = decide (c k = 59) := by unfold rt; rw [if_neg hk0, if_pos (by omega)]
    rw [e] at kk
    refine sX0_fits_56 (fun h1 => sX0_fits_66 ?_) (fun h1 => sX0_fits_62 ?_)
    · rw [decide_eq_false h1] at kk; exact kk
    · rw [decide_eq_true h1] at kk; exact kk
  · have e : rt (c k) k = decide (¬ c k < 49 ∧ ¬ 57 < c k) := by unfold rt; rw [if_neg hk0, if_neg (by omega), if_pos (by omega)]
    rw [e] at kk
    refine sX0_fits_68 (fun h1 => sX0_fits_84 ?_) (fun h1 => sX0_fits_74 (fun h2 => sX0_fits_84 ?_) (fun h2 => sX0_fits_80 ?_))
    · rw [decide_eq_false (fun q => q.1 h1)] at kk; exact kk
    · rw [decide_eq_false (fun q => q.2 h2)] at kk; exact kk
    · rw [decide_eq_true ⟨h1, h2⟩] at kk; exact kk
  · have e : rt (c k) k = decide (c k = 44) := by unfold rt; rw [if_neg hk0, if_neg (by omega), if_neg (by omega), if_pos (by omega)]
    rw [e] at kk
    refine sX0_fits_86 (fun h1 => sX0_fits_96 ?_) (fun h1 => sX0_fits_92 ?_)
    · rw [decide_eq_false h1] at kk; exact kk
    · rw [decide_eq_true h1] at kk; exact kk
  · have hk0 : k = 0 := (nI_eq (a := k) (b := 0) (by omega) (by omega)).mp hc
    have e : rt (c k) k = decide (¬ c k < 49 ∧ ¬ 52 < c k) := by unfold rt; rw [if_pos hk0]
    rw [e] at kk
    refine sX0_fits_10 (fun h1 => sX0_fits_26 ?_) (fun h1 => sX0_fits_16 (fun h2 => sX0_fits_26 ?_) (fun h2 => sX0_fits_22 ?_))
    · rw [decide_eq_false (fun q => q.1 h1)] at kk; exact kk
    · rw [decide_eq_false (fun q => q.2 h2)] at kk; exact kk
    · rw [decide_eq_true ⟨h1, h2⟩] at kk; exact kk
/-- how many of the first n have P, without a gap -/
def ld (P : Nat → Bool) : Nat → Nat
  | 0 => 0
  | n + 1 => if ld P n = n ∧ P n = true then n + 1 else ld P n
theorem ld_all {P : Nat → Bool} : ∀ n, (∀ k, k < n → P k = true) → ld P n = n
  | 0, _ => rfl
  | n + 1, h => by rw [ld, if_pos ⟨ld_all n (fun k hk => h k (by omega)), h n (by omega)⟩]
theorem ld_stop {P : Nat → Bool} {i : Nat} (h : ∀ k, k < i → P k = true) (hi : P i = false) : ∀ n, i < n → ld P n = i
  | 0, hn => by omega
  | n + 1, hn => by
    rw [ld]
    by_cases e : n = i
    · rw [if_neg (fun q => by rw [e, hi] at q; cases q.2), e]
      exact ld_all i h
    · rw [if_neg (fun q => by rw [ld_stop h hi n (by omega)] at q; omega)]
      exact ld_stop h hi n (by omega)
theorem ld_le {P : Nat → Bool} : ∀ n, ld P n ≤ n
  | 0 => Nat.le_refl _
  | n + 1 => by
    rw [ld]
    have := ld_le (P := P) n
    split <;> omega
def ffs (n : Nat) (c : Nat → Int32) : Nat := ld (fun k => rt (c k) k) n
theorem ev_firstFault {n : Nat} {c : Nat → Int32} (hG : PG n c h) (kk : post (some (.int (nI (ffs n c)))) h) : Ev 2 mX0_firstFault [.ref 1] h post := by
  have hn := hG.1
  refine Ev.intro rfl (Nat.le_of_ble_eq_true rfl) (sX0_firstFault_0 ?_)
  have hS : ∀ i, i ≤ n → (∀ k, k < i → rt (c k) k = true) → G 2 mX0_firstFault post 2 [some (.ref 1), some (.int (nI i))] [] h := by
    refine loopU (S := fun i => (∀ k, k < i → rt (c k) k = true) → G 2 mX0_firstFault post 2 [some (.ref 1), some (.int (nI i))] [] h) n (fun i hi ih ha => ?_) (fun ha => ?_)
    · refine sX0_firstFault_2 (fun hc => ?_) (fun _ => ?_)
      · rw [hG.2.1, nI_leI (by omega) (by omega)] at hc; omega
      refine sX0_firstFault_10 (ev_fits hG hi (sX0_firstFault_15 (fun hc => sX0_firstFault_24 ?_) (fun hc => sX0_firstFault_18 ?_)))
      · rw [b2i_0] at hc
        rw [ffs, ld_stop ha hc n hi] at kk
        exact kk
      · rw [b2i_n] at hc
        rw [nI_1]
        refine ih (fun k hk => ?_)
        by_cases e : k = i
        · rw [e]; exact hc
        · exact ha k (by omega)
    · refine sX0_firstFault_2 (fun _ => sX0_firstFault_24 ?_) (fun hc => absurd (by rw [hG.2.1]; exact nI_le (Nat.le_refl _) (by omega)) hc)
      rw [ffs, ld_all n ha] at kk
      exact kk
  exact hS 0 (Nat.zero_le _) (fun k hk => by omega)
def isF (n : Nat) (c : Nat → Int32) : Bool := decide (1 < n ∧ n % 4 = 1 ∧ ffs n c = n)
theorem ev_isField {n : Nat} {c : Nat → Int32} (hG : PG n c h) (kk : post (some (.int (b2i (isF n c)))) h) : Ev 3 mX0_isField [.ref 1] h post := by
  have hn := hG.1
  have hr : nI n - nI n / 4 * 4 = nI (n % 4) := pk_rem (d := 4) (by omega) (by omega) (by omega)
  have hl : ffs n c ≤ n := ld_le n
  refine Ev.intro rfl (Nat.le_of_ble_eq_true rfl) (sX0_isField_0 (fun hc => sX0_isField_33 ?_) (fun hc => sX0_isField_8 (fun hc2 => sX0_isField_33 ?_) (fun hc2 => sX0_isField_18 (ev_firstFault hG (sX0_isField_22 (fun hc3 => sX0_isField_33 ?_) (fun hc3 => sX0_isField_29 ?_))))))
  all_goals rw [hG.2.1, show (1 : Int32) = nI 1 from rfl, nI_leI (by omega) (by omega)] at hc
  · rw [isF, decide_eq_false (by omega)] at kk; exact kk
  · rw [hG.2.1, hr, show (1 : Int32) = nI 1 from rfl, nI_eq (by omega) (by omega)] at hc2
    rw [isF, decide_eq_false (by omega)] at kk; exact kk
  · rw [hG.2.1, nI_eq (by omega) (by omega)] at hc3
    rw [isF, decide_eq_false (by omega)] at kk; exact kk
  · rw [hG.2.1, hr, show (1 : Int32) = nI 1 from rfl, nI_eq (by omega) (by omega)] at hc2
    rw [hG.2.1, nI_eq (by omega) (by omega)] at hc3
    rw [isF, decide_eq_true (by omega)] at kk; exact kk
end PL2
