/-! numbers: sums, lanes of eight bits, bits, loops -/
theorem loopU {S : Nat → Prop} (n : Nat) (hs : ∀ i, i < n → S (i + 1) → S i) (he : S n) (i : Nat) (hi : i ≤ n) : S i := by
  have : ∀ k i, i + k = n → S i := by
    intro k
    induction k with
    | zero => intro i h; have : i = n := by omega
              rw [this]; exact he
    | succ k ih => intro i h; exact hs i (by omega) (ih (i + 1) (by omega))
  exact this (n - i) i (by omega)
def b2i (b : Bool) : Int32 := if b then 1 else 0
theorem b2i_0 {b : Bool} : b2i b = 0 ↔ b = false := by cases b <;> decide
theorem b2i_n {b : Bool} : ¬ b2i b = 0 ↔ b = true := by cases b <;> decide
theorem b2i_1 {b : Bool} : b2i b = 1 ↔ b = true := by cases b <;> decide
theorem b2i_nar (b : Bool) : narrow .boolean (.int (b2i b)) = .int (b2i b) := by cases b <;> rfl
theorem b2i_and (b : Bool) : b2i b &&& 1 = b2i b := by cases b <;> decide
def sm (f : Nat → Nat) : Nat → Nat
  | 0 => 0
  | n + 1 => sm f n + f n
theorem sm_cong {f g : Nat → Nat} : ∀ n, (∀ i, i < n → f i = g i) → sm f n = sm g n
  | 0, _ => rfl
  | n + 1, h => by rw [sm, sm, sm_cong n (fun i hi => h i (by omega)), h n (by omega)]
theorem sm_le {f : Nat → Nat} {b : Nat} : ∀ n, (∀ i, i < n → f i ≤ b) → sm f n ≤ b * n
  | 0, _ => Nat.le_refl _
  | n + 1, h => by
    rw [sm, Nat.mul_succ]
    exact Nat.add_le_add (sm_le n (fun i hi => h i (by omega))) (h n (by omega))
theorem sm_mono {f g : Nat → Nat} : ∀ n, (∀ i, i < n → f i ≤ g i) → sm f n ≤ sm g n
  | 0, _ => Nat.le_refl _
  | n + 1, h => by
    rw [sm, sm]
    exact Nat.add_le_add (sm_mono n (fun i hi => h i (by omega))) (h n (by omega))
theorem sm_add (f g : Nat → Nat) : ∀ n, sm (fun i => f i + g i) n = sm f n + sm g n
  | 0 => rfl
  | n + 1 => by rw [sm, sm, sm, sm_add f g n]; omega
theorem sm_zero {f : Nat → Nat} : ∀ n, (∀ i, i < n → f i = 0) → sm f n = 0
  | 0, _ => rfl
  | n + 1, h => by rw [sm, sm_zero n (fun i hi => h i (by omega)), h n (by omega)]
theorem sm_swap (f : Nat → Nat → Nat) (k : Nat) : ∀ n, sm (fun i => sm (f i) k) n = sm (fun j => sm (fun i => f i j) n) k
  | 0 => (sm_zero k (fun _ _ => rfl)).symm
  | n + 1 => by
    rw [sm, sm_swap f k n, ← sm_add]
    rfl
/-- what lies beyond p adds nothing -/
theorem sm_cut {f : Nat → Nat} {p : Nat} : ∀ n, p ≤ n → (∀ i, p ≤ i → i < n → f i = 0) → sm f n = sm f p
  | 0, h, _ => by rw [Nat.le_zero.mp h]
  | n + 1, h, hz => by
    by_cases e : p = n + 1
    · rw [e]
    · rw [sm, hz n (by omega) (by omega), Nat.add_zero]
      exact sm_cut n (by omega) (fun i h1 h2 => hz i h1 (by omega))
/-- four lanes of eight bits -/
def pkd (f : Nat → Nat) : Nat := f 0 + 256 * f 1 + 65536 * f 2 + 16777216 * f 3
theorem pkd_add (f g : Nat → Nat) : pkd (fun q => f q + g q) = pkd f + pkd g := by unfold pkd; dsimp only; omega
theorem pkd_sm (f : Nat → Nat → Nat) : ∀ n, pkd (fun q => sm (fun m => f m q) n) = sm (fun m => pkd (f m)) n
  | 0 => rfl
  | n + 1 => by rw [sm, ← pkd_sm f n, ← pkd_add]; rfl
theorem pkd_cong {f g : Nat → Nat} (h : ∀ q, q < 4 → f q = g q) : pkd f = pkd g := by
  unfold pkd
  rw [h 0 (by omega), h 1 (by omega), h 2 (by omega), h 3 (by omega)]
theorem pkd_lt {f : Nat → Nat} {b : Nat} (h : ∀ q, q < 4 → f q ≤ b) : pkd f ≤ 16843009 * b := by
  unfold pkd
  have := h 0 (by omega); have := h 1 (by omega); have := h 2 (by omega); have := h 3 (by omega)
  omega
theorem pkd_lane {f : Nat → Nat} (h : ∀ q, q < 4 → f q < 256) {q : Nat} (hq : q < 4) : pkd f / 2 ^ (8 * q) % 256 = f q := by
  have h0 := h 0 (by omega); have h1 := h 1 (by omega); have h2 := h 2 (by omega); have h3 := h 3 (by omega)
  unfold pkd
  rcases (show q = 0 ∨ q = 1 ∨ q = 2 ∨ q = 3 by omega) with rfl | rfl | rfl | rfl
  · show (_ / 1) % 256 = _; omega
  · show (_ / 256) % 256 = _; omega
  · show (_ / 65536) % 256 = _; omega
  · show (_ / 16777216) % 256 = _; omega
theorem pkd_0 : pkd (fun _ => 0) = 0 := rfl
theorem lane_sh : ∀ q, q < 4 → (((8 * nI q).toUInt32 &&& Int32.toUInt32 31).toBitVec % 32).toNat = 8 * q := by decide +kernel
theorem lane_shl : ∀ q, q < 4 → ((8 * nI q &&& 31).toBitVec.smod 32).toNat = 8 * q := by decide +kernel
theorem sh_l : ∀ n, n < 32 → ((nI n &&& 31).toBitVec.smod 32).toNat = n := by decide +kernel
theorem lane_read {f : Nat → Nat} (h : ∀ q, q < 4 → f q < 256) {q : Nat} (hq : q < 4) : ((nI (pkd f)).toUInt32 >>> ((8 * nI q).toUInt32 &&& Int32.toUInt32 31)).toInt32 &&& 255 = nI (f q) := by
  have hl : pkd f < 2 ^ 32 := by have := pkd_lt (f := f) (b := 255) (fun q hq => by have := h q hq; omega); omega
  rw [pk_ushrN hl _ _ (lane_sh q hq), pk_andN (Nat.lt_of_le_of_lt (Nat.div_le_self _ _) hl) 8 rfl, pkd_lane h hq]
theorem bit_read {x m : Nat} (hx : x < 2 ^ 31) (hm : m < 31) : (nI x >>> (nI m &&& 31)) &&& 1 = b2i (x.testBit m) := by
  rw [pk_shrN hx _ m (sh_l m (by omega)), pk_andN (Nat.lt_of_le_of_lt (Nat.div_le_self _ _) (by omega)) 1 rfl, Nat.testBit_eq_decide_div_mod_eq]
  have : x / 2 ^ m % 2 ^ 1 < 2 := Nat.mod_lt _ (by omega)
  by_cases h : x / 2 ^ m % 2 = 1
  · rw [show x / 2 ^ m % 2 ^ 1 = 1 from h]; simp [h, b2i]; rfl
  · rw [show x / 2 ^ m % 2 ^ 1 = 0 by have : x / 2 ^ m % 2 ^ 1 = x / 2 ^ m % 2 := rfl; omega]; simp [h, b2i]; rfl
theorem and_hi (x : Nat) (hx : x < 2 ^ 32) : nI x &&& (-2139062144) = 0 ↔ (x / 2 ^ 7 % 2 = 0 ∧ x / 2 ^ 15 % 2 = 0 ∧ x / 2 ^ 23 % 2 = 0 ∧ x / 2 ^ 31 % 2 = 0) := by
  have e : (-2139062144 : Int32) = nI 2155905152 := by decide +kernel
  rw [e]
  have e2 : nI x &&& nI 2155905152 = nI (x &&& 2155905152) := by
    apply Int32.toBitVec_inj.1
    show BitVec.ofNat 32 x &&& BitVec.ofNat 32 2155905152 = BitVec.ofNat 32 (x &&& 2155905152)
    apply BitVec.eq_of_getLsbD_eq
    intro i hi
    simp [hi]
  rw [e2]
  have hlt : x &&& 2155905152 < 2 ^ 32 := Nat.and_lt_two_pow _ (by omega)
  have e3 : nI (x &&& 2155905152) = 0 ↔ x &&& 2155905152 = 0 := by
    constructor
    · intro h
      have := congrArg (fun z : Int32 => z.toBitVec.toNat) h
      simp only [pk_tn hlt] at this
      exact this
    · intro h
      rw [h]
      rfl
  rw [e3]
  have tb : ∀ k, x / 2 ^ k % 2 = 0 ↔ x.testBit k = false := fun k => by
    rw [Nat.testBit_eq_decide_div_mod_eq]
    simp
  rw [tb, tb, tb, tb]
  have mask : ∀ i, i < 32 → Nat.testBit 2155905152 i = (i == 7 || i == 15 || i == 23 || i == 31) := by decide +kernel
  constructor
  · intro h
    have hz : ∀ i, (x.testBit i && Nat.testBit 2155905152 i) = false := fun i => by
      rw [← Nat.testBit_and, h, Nat.zero_testBit]
    refine ⟨?_, ?_, ?_, ?_⟩
    · have := hz 7; rw [mask 7 (by omega)] at this; simpa using this
    · have := hz 15; rw [mask 15 (by omega)] at this; simpa using this
    · have := hz 23; rw [mask 23 (by omega)] at this; simpa using this
    · have := hz 31; rw [mask 31 (by omega)] at this; simpa using this
  · rintro ⟨h1, h2, h3, h4⟩
    apply Nat.eq_of_testBit_eq
    intro i
    rw [Nat.testBit_and, Nat.zero_testBit]
    by_cases hi : i < 32
    · rw [mask i hi]
      by_cases e7 : i = 7
      · subst e7; simp [h1]
      · by_cases e15 : i = 15
        · subst e15; simp [h2]
        · by_cases e23 : i = 23
          · subst e23; simp [h3]
          · by_cases e31 : i = 31
            · subst e31; simp [h4]
            · simp [e7, e15, e23, e31]
    · have : Nat.testBit 2155905152 i = false := Nat.testBit_lt_two_pow (Nat.lt_of_lt_of_le (by decide : 2155905152 < 2 ^ 32) (Nat.pow_le_pow_right (by omega) (by omega)))
      simp [this]
/-- all lanes below 128 -/
theorem lanes_low {f : Nat → Nat} (h : ∀ q, q < 4 → f q < 256) : nI (pkd f) &&& (-2139062144) = 0 ↔ ∀ q, q < 4 → f q < 128 := by
  have hl : pkd f < 2 ^ 32 := by have := pkd_lt (f := f) (b := 255) (fun q hq => by have := h q hq; omega); omega
  rw [and_hi _ hl]
  have h0 := h 0 (by omega); have h1 := h 1 (by omega); have h2 := h 2 (by omega); have h3 := h 3 (by omega)
  have e : ∀ q, q < 4 → (pkd f / 2 ^ (8 * q + 7) % 2 = 0 ↔ f q < 128) := by
    intro q hq
    have hq2 := h q hq
    have := pkd_lane h hq
    rw [Nat.pow_add, ← Nat.div_div_eq_div_mul]
    rw [show (2 : Nat) ^ 7 = 128 from rfl]
    generalize pkd f / 2 ^ (8 * q) = z at this ⊢
    omega
  constructor
  · rintro ⟨a, b, c, d⟩ q hq
    rw [← e q hq]
    rcases (show q = 0 ∨ q = 1 ∨ q = 2 ∨ q = 3 by omega) with rfl | rfl | rfl | rfl <;> assumption
  · intro z
    exact ⟨(e 0 (by omega)).mpr (z 0 (by omega)), (e 1 (by omega)).mpr (z 1 (by omega)), (e 2 (by omega)).mpr (z 2 (by omega)), (e 3 (by omega)).mpr (z 3 (by omega))⟩
