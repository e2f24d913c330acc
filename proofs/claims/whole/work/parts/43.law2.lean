/-! the law's cases -/
def BK (p : Program) (l : Launch) (e : Env) (s : State) (m : MethodId) (args : Array Value) (below : List Frame) (meth : Method) (c : Code) (cells slots : Nat) (Q : State → Prop) (E : EE) (ls : Array Slot) : Prop :=
  ∀ (σ : Ab) (h : PH) (H : Heap) (locs : List Loc), XI σ h → YI σ h → va_P E.1 vwCl (wl E h) H → va_S (fun q => s.heap.size ≤ q) s.heap H locs → W p l e room_1 s m args below meth c H locs cells slots Q (F0 m 592 ls [])
theorem lcmp0 (x : Int64) : lg_cmp x x = 0 := by
  unfold lg_cmp
  rw [if_neg (by rw [gt_iff_lt, Int64.lt_iff_toInt_lt]; omega), if_pos rfl]
section LC
variable {p : Program} {l : Launch} {e : Env} {s : State} {m : MethodId} {args : Array Value} {below : List Frame} {meth : Method} {c : Code} {H : Heap} {locs : List Loc} {cells slots : Nat} {Q : State → Prop} {ls : Array Slot} {b L i : Nat} {xs : Nat → Int32} {E : EE} {h : PH} {σ : Ab}
theorem lc0 (X : LX p s m meth c b L xs E) (hl : lv_has ls 4 [(0, .ref b), (1, .ref (E.2.1 0)), (2, .ref (E.2.1 15)), (3, .int (nI i))]) (hi : i + 3 ≤ L) (hL : L ≤ 1536) (hcs : cells ≤ 600000 ∧ slots ≤ 7302250) (bk : BK p l e s m args below meth c cells slots Q E ls) (X0 : XI σ h) (Y0 : YI σ h) (hP : va_P E.1 vwCl (wl E h) H) (hS : va_S (fun q => s.heap.size ≤ q) s.heap H locs) : W p l e room_1 s m args below meth c H locs cells slots Q (F0 m 116 ls []) := by
  have hx := X.1
  have hb := X.2.1
  have hX := X.2.2.2.2.2.2.1
  have hbl := X.2.2.2.2.2.2.2.1
  have hbA : ¬ (fun q : Nat => s.heap.size ≤ q) b := Nat.not_le.mpr hbl
  have h_1 : vp_in (nI i + 1) L := by rw [nI_1]; exact vp_in_nI (by omega) (by omega)
  have h_2 : vp_in (nI i + 2) L := by rw [show (2 : Int32) = nI 2 from rfl, nI_add]; exact vp_in_nI (by omega) (by omega)
  refine lv_aload_n hx hb dL_law_116 rfl (lv_at hl 1 rfl) ?_
  refine lv_aload_n hx hb dL_law_117 rfl (lv_at hl 0 rfl) ?_
  refine lv_iload_n hx hb dL_law_118 rfl (lv_at hl 3 rfl) ?_
  refine lv_iconst (v := 1) hx hb dL_law_119 (by decide) ?_
  refine lv_iadd hx hb dL_law_120 ?_
  refine va_sld hx hb hX hbl hbA hS h_1 dL_law_121 ?_
  refine W.eq (g2 := F0 m 122 ls (((([.int (xs (Int32.toNatClampNeg (nI i + 1)))] : List Value)).map (vq E.2.1)).reverse ++ .ref (E.2.1 0) :: [])) rfl ?_
  refine w_call (bb := 0) (as := [.int (xs (Int32.toNatClampNeg (nI i + 1)))]) (rest := []) X hP hS hl.1 hcs dL_law_122 kX4_letter lL_13 (by decide) rfl ⟨_, _, rfl⟩ rfl (Nat.le_of_ble_eq_true rfl) (by decide) (cx_letter X0 (fun h1 X1 F1 H1 locs1 hP1 hS1 => ?_))
  refine W.eq (g2 := F0 m 125 ls [.int _]) rfl ?_
  refine lv_aload_n hx hb dL_law_125 rfl (lv_at hl 2 rfl) ?_
  refine lv_aload_n hx hb dL_law_126 rfl (lv_at hl 0 rfl) ?_
  refine lv_iload_n hx hb dL_law_127 rfl (lv_at hl 3 rfl) ?_
  refine lv_iconst (v := 1) hx hb dL_law_128 (by decide) ?_
  refine lv_iadd hx hb dL_law_129 ?_
  refine va_sld hx hb hX hbl hbA hS1 h_1 dL_law_130 ?_
  refine W.eq (g2 := F0 m 131 ls (((([.int (xs (Int32.toNatClampNeg (nI i + 1)))] : List Value)).map (vq E.2.1)).reverse ++ .ref (E.2.1 15) :: [.int _])) rfl ?_
  refine w_call (bb := 15) (as := [.int (xs (Int32.toNatClampNeg (nI i + 1)))]) (rest := [.int _]) X hP1 hS1 hl.1 hcs dL_law_131 kX5_letter lL_17 (by decide) rfl ⟨_, _, rfl⟩ rfl (Nat.le_of_ble_eq_true rfl) (by decide) (cy_letter (Y0.frx F1) (fun h2 Y2 F2 H2 locs2 hP2 hS2 => ?_))
  refine W.eq (g2 := F0 m 134 ls [.int _, .int _]) rfl ?_
  exact lv_icmp_eq (tgt := 592) hx hb dL_law_134 (by decide) (fun _ => bk _ _ _ _ (X1.fry F2) Y2 hP2 hS2) (fun z => absurd rfl z)
theorem lc1 (X : LX p s m meth c b L xs E) (hl : lv_has ls 4 [(0, .ref b), (1, .ref (E.2.1 0)), (2, .ref (E.2.1 15)), (3, .int (nI i))]) (hi : i + 3 ≤ L) (hL : L ≤ 1536) (hcs : cells ≤ 600000 ∧ slots ≤ 7302250) (bk : BK p l e s m args below meth c cells slots Q E ls) (X0 : XI σ h) (Y0 : YI σ h) (hP : va_P E.1 vwCl (wl E h) H) (hS : va_S (fun q => s.heap.size ≤ q) s.heap H locs) : W p l e room_1 s m args below meth c H locs cells slots Q (F0 m 139 ls []) := by
  have hx := X.1
  have hb := X.2.1
  have hX := X.2.2.2.2.2.2.1
  have hbl := X.2.2.2.2.2.2.2.1
  have hbA : ¬ (fun q : Nat => s.heap.size ≤ q) b := Nat.not_le.mpr hbl
  have h_1 : vp_in (nI i + 1) L := by rw [nI_1]; exact vp_in_nI (by omega) (by omega)
  have h_2 : vp_in (nI i + 2) L := by rw [show (2 : Int32) = nI 2 from rfl, nI_add]; exact vp_in_nI (by omega) (by omega)
  refine lv_aload_n hx hb dL_law_139 rfl (lv_at hl 1 rfl) ?_
  refine W.eq (g2 := F0 m 140 ls (((([] : List Value)).map (vq E.2.1)).reverse ++ .ref (E.2.1 0) :: [])) rfl ?_
  refine w_call (bb := 0) (as := []) (rest := []) X hP hS hl.1 hcs dL_law_140 kX4_blank lL_18 (by decide) rfl ⟨_, _, rfl⟩ rfl (Nat.le_of_ble_eq_true rfl) (by decide) (cx_blank X0 (fun h1 X1 F1 H1 locs1 hP1 hS1 => ?_))
  refine W.eq (g2 := F0 m 143 ls [.int _]) rfl ?_
  refine lv_aload_n hx hb dL_law_143 rfl (lv_at hl 2 rfl) ?_
  refine W.eq (g2 := F0 m 144 ls (((([] : List Value)).map (vq E.2.1)).reverse ++ .ref (E.2.1 15) :: [.int _])) rfl ?_
  refine w_call (bb := 15) (as := []) (rest := [.int _]) X hP1 hS1 hl.1 hcs dL_law_144 kX5_blank lL_22 (by decide) rfl ⟨_, _, rfl⟩ rfl (Nat.le_of_ble_eq_true rfl) (by decide) (cy_blank (Y0.frx F1) (fun h2 Y2 F2 H2 locs2 hP2 hS2 => ?_))
  refine W.eq (g2 := F0 m 147 ls [.int _, .int _]) rfl ?_
  exact lv_icmp_eq (tgt := 592) hx hb dL_law_147 (by decide) (fun _ => bk _ _ _ _ (X1.fry F2) Y2 hP2 hS2) (fun z => absurd rfl z)
theorem lc2 (X : LX p s m meth c b L xs E) (hl : lv_has ls 4 [(0, .ref b), (1, .ref (E.2.1 0)), (2, .ref (E.2.1 15)), (3, .int (nI i))]) (hi : i + 3 ≤ L) (hL : L ≤ 1536) (hcs : cells ≤ 600000 ∧ slots ≤ 7302250) (bk : BK p l e s m args below meth c cells slots Q E ls) (X0 : XI σ h) (Y0 : YI σ h) (hP : va_P E.1 vwCl (wl E h) H) (hS : va_S (fun q => s.heap.size ≤ q) s.heap H locs) : W p l e room_1 s m args below meth c H locs cells slots Q (F0 m 152 ls []) := by
  have hx := X.1
  have hb := X.2.1
  have hX := X.2.2.2.2.2.2.1
  have hbl := X.2.2.2.2.2.2.2.1
  have hbA : ¬ (fun q : Nat => s.heap.size ≤ q) b := Nat.not_le.mpr hbl
  have h_1 : vp_in (nI i + 1) L := by rw [nI_1]; exact vp_in_nI (by omega) (by omega)
  have h_2 : vp_in (nI i + 2) L := by rw [show (2 : Int32) = nI 2 from rfl, nI_add]; exact vp_in_nI (by omega) (by omega)
  refine lv_aload_n hx hb dL_law_152 rfl (lv_at hl 1 rfl) ?_
  refine W.eq (g2 := F0 m 153 ls (((([] : List Value)).map (vq E.2.1)).reverse ++ .ref (E.2.1 0) :: [])) rfl ?_
  refine w_call (bb := 0) (as := []) (rest := []) X hP hS hl.1 hcs dL_law_153 kX4_fault lL_23 (by decide) rfl ⟨_, _, rfl⟩ rfl (Nat.le_of_ble_eq_true rfl) (by decide) (cx_fault X0 (fun H1 locs1 hP1 hS1 => ?_))
  have F1 := FrX.rf h
  have X1 := X0
  refine W.eq (g2 := F0 m 156 ls [.int _]) rfl ?_
  refine lv_aload_n hx hb dL_law_156 rfl (lv_at hl 2 rfl) ?_
  refine W.eq (g2 := F0 m 157 ls (((([] : List Value)).map (vq E.2.1)).reverse ++ .ref (E.2.1 15) :: [.int _])) rfl ?_
  refine w_call (bb := 15) (as := []) (rest := [.int _]) X hP1 hS1 hl.1 hcs dL_law_157 kX5_fault lL_26 (by decide) rfl ⟨_, _, rfl⟩ rfl (Nat.le_of_ble_eq_true rfl) (by decide) (cy_fault (Y0.frx F1) (fun H2 locs2 hP2 hS2 => ?_))
  have F2 := FrY.rf h
  have Y2 := Y0.frx F1
  refine W.eq (g2 := F0 m 160 ls [.int _, .int _]) rfl ?_
  exact lv_icmp_eq (tgt := 592) hx hb dL_law_160 (by decide) (fun _ => bk _ _ _ _ (X1.fry F2) Y2 hP2 hS2) (fun z => absurd rfl z)
theorem lc3 (X : LX p s m meth c b L xs E) (hl : lv_has ls 4 [(0, .ref b), (1, .ref (E.2.1 0)), (2, .ref (E.2.1 15)), (3, .int (nI i))]) (hi : i + 3 ≤ L) (hL : L ≤ 1536) (hcs : cells ≤ 600000 ∧ slots ≤ 7302250) (bk : BK p l e s m args below meth c cells slots Q E ls) (X0 : XI σ h) (Y0 : YI σ h) (hP : va_P E.1 vwCl (wl E h) H) (hS : va_S (fun q => s.heap.size ≤ q) s.heap H locs) : W p l e room_1 s m args below meth c H locs cells slots Q (F0 m 165 ls []) := by
  have hx := X.1
  have hb := X.2.1
  have hX := X.2.2.2.2.2.2.1
  have hbl := X.2.2.2.2.2.2.2.1
  have hbA : ¬ (fun q : Nat => s.heap.size ≤ q) b := Nat.not_le.mpr hbl
  have h_1 : vp_in (nI i + 1) L := by rw [nI_1]; exact vp_in_nI (by omega) (by omega)
  have h_2 : vp_in (nI i + 2) L := by rw [show (2 : Int32) = nI 2 from rfl, nI_add]; exact vp_in_nI (by omega) (by omega)
  refine lv_aload_n hx hb dL_law_165 rfl (lv_at hl 1 rfl) ?_
  refine W.eq (g2 := F0 m 166 ls (((([] : List Value)).map (vq E.2.1)).reverse ++ .ref (E.2.1 0) :: [])) rfl ?_
  refine w_call (bb := 0) (as := []) (rest := []) X hP hS hl.1 hcs dL_law_166 kX4_field lL_27 (by decide) rfl ⟨_, _, rfl⟩ rfl (Nat.le_of_ble_eq_true rfl) (by decide) (cx_field X0 (fun h1 X1 F1 H1 locs1 hP1 hS1 => ?_))
  refine W.eq (g2 := F0 m 169 ls [.int _]) rfl ?_
  refine lv_aload_n hx hb dL_law_169 rfl (lv_at hl 2 rfl) ?_
  refine W.eq (g2 := F0 m 170 ls (((([] : List Value)).map (vq E.2.1)).reverse ++ .ref (E.2.1 15) :: [.int _])) rfl ?_
  refine w_call (bb := 15) (as := []) (rest := [.int _]) X hP1 hS1 hl.1 hcs dL_law_170 kX5_field lL_30 (by decide) rfl ⟨_, _, rfl⟩ rfl (Nat.le_of_ble_eq_true rfl) (by decide) (cy_field (Y0.frx F1) (fun h2 Y2 F2 H2 locs2 hP2 hS2 => ?_))
  refine W.eq (g2 := F0 m 173 ls [.int _, .int _]) rfl ?_
  exact lv_icmp_eq (tgt := 592) hx hb dL_law_173 (by decide) (fun _ => bk _ _ _ _ (X1.fry F2) Y2 hP2 hS2) (fun z => absurd rfl z)
theorem lc4 (X : LX p s m meth c b L xs E) (hl : lv_has ls 4 [(0, .ref b), (1, .ref (E.2.1 0)), (2, .ref (E.2.1 15)), (3, .int (nI i))]) (hi : i + 3 ≤ L) (hL : L ≤ 1536) (hcs : cells ≤ 600000 ∧ slots ≤ 7302250) (bk : BK p l e s m args below meth c cells slots Q E ls) (X0 : XI σ h) (Y0 : YI σ h) (hP : va_P E.1 vwCl (wl E h) H) (hS : va_S (fun q => s.heap.size ≤ q) s.heap H locs) : W p l e room_1 s m args below meth c H locs cells slots Q (F0 m 178 ls []) := by
  have hx := X.1
  have hb := X.2.1
  have hX := X.2.2.2.2.2.2.1
  have hbl := X.2.2.2.2.2.2.2.1
  have hbA : ¬ (fun q : Nat => s.heap.size ≤ q) b := Nat.not_le.mpr hbl
  have h_1 : vp_in (nI i + 1) L := by rw [nI_1]; exact vp_in_nI (by omega) (by omega)
  have h_2 : vp_in (nI i + 2) L := by rw [show (2 : Int32) = nI 2 from rfl, nI_add]; exact vp_in_nI (by omega) (by omega)
  refine lv_aload_n hx hb dL_law_178 rfl (lv_at hl 1 rfl) ?_
  refine lv_aload_n hx hb dL_law_179 rfl (lv_at hl 0 rfl) ?_
  refine lv_iload_n hx hb dL_law_180 rfl (lv_at hl 3 rfl) ?_
  refine lv_iconst (v := 1) hx hb dL_law_181 (by decide) ?_
  refine lv_iadd hx hb dL_law_182 ?_
  refine va_sld hx hb hX hbl hbA hS h_1 dL_law_183 ?_
  refine lv_aload_n hx hb dL_law_184 rfl (lv_at hl 0 rfl) ?_
  refine lv_iload_n hx hb dL_law_185 rfl (lv_at hl 3 rfl) ?_
  refine lv_iconst (v := 2) hx hb dL_law_186 (by decide) ?_
  refine lv_iadd hx hb dL_law_187 ?_
  refine va_sld hx hb hX hbl hbA hS h_2 dL_law_188 ?_
  refine W.eq (g2 := F0 m 189 ls (((([.int (xs (Int32.toNatClampNeg (nI i + 1))), .int (xs (Int32.toNatClampNeg (nI i + 2)))] : List Value)).map (vq E.2.1)).reverse ++ .ref (E.2.1 0) :: [])) rfl ?_
  refine w_call (bb := 0) (as := [.int (xs (Int32.toNatClampNeg (nI i + 1))), .int (xs (Int32.toNatClampNeg (nI i + 2)))]) (rest := []) X hP hS hl.1 hcs dL_law_189 kX4_ceiling lL_31 (by decide) rfl ⟨_, _, rfl⟩ rfl (Nat.le_of_ble_eq_true rfl) (by decide) (cx_ceiling X0 (fun h1 X1 F1 H1 locs1 hP1 hS1 => ?_))
  refine W.eq (g2 := F0 m 192 ls [.int _]) rfl ?_
  refine lv_aload_n hx hb dL_law_192 rfl (lv_at hl 2 rfl) ?_
  refine lv_aload_n hx hb dL_law_193 rfl (lv_at hl 0 rfl) ?_
  refine lv_iload_n hx hb dL_law_194 rfl (lv_at hl 3 rfl) ?_
  refine lv_iconst (v := 1) hx hb dL_law_195 (by decide) ?_
  refine lv_iadd hx hb dL_law_196 ?_
  refine va_sld hx hb hX hbl hbA hS1 h_1 dL_law_197 ?_
  refine lv_aload_n hx hb dL_law_198 rfl (lv_at hl 0 rfl) ?_
  refine lv_iload_n hx hb dL_law_199 rfl (lv_at hl 3 rfl) ?_
  refine lv_iconst (v := 2) hx hb dL_law_200 (by decide) ?_
  refine lv_iadd hx hb dL_law_201 ?_
  refine va_sld hx hb hX hbl hbA hS1 h_2 dL_law_202 ?_
  refine W.eq (g2 := F0 m 203 ls (((([.int (xs (Int32.toNatClampNeg (nI i + 1))), .int (xs (Int32.toNatClampNeg (nI i + 2)))] : List Value)).map (vq E.2.1)).reverse ++ .ref (E.2.1 15) :: [.int _])) rfl ?_
  refine w_call (bb := 15) (as := [.int (xs (Int32.toNatClampNeg (nI i + 1))), .int (xs (Int32.toNatClampNeg (nI i + 2)))]) (rest := [.int _]) X hP1 hS1 hl.1 hcs dL_law_203 kX5_ceiling lL_35 (by decide) rfl ⟨_, _, rfl⟩ rfl (Nat.le_of_ble_eq_true rfl) (by decide) (cy_ceiling (Y0.frx F1) (fun h2 Y2 F2 H2 locs2 hP2 hS2 => ?_))
  refine W.eq (g2 := F0 m 206 ls [.int _, .int _]) rfl ?_
  exact lv_icmp_eq (tgt := 592) hx hb dL_law_206 (by decide) (fun _ => bk _ _ _ _ (X1.fry F2) Y2 hP2 hS2) (fun z => absurd rfl z)
theorem lc5 (X : LX p s m meth c b L xs E) (hl : lv_has ls 4 [(0, .ref b), (1, .ref (E.2.1 0)), (2, .ref (E.2.1 15)), (3, .int (nI i))]) (hi : i + 3 ≤ L) (hL : L ≤ 1536) (hcs : cells ≤ 600000 ∧ slots ≤ 7302250) (bk : BK p l e s m args below meth c cells slots Q E ls) (X0 : XI σ h) (Y0 : YI σ h) (hP : va_P E.1 vwCl (wl E h) H) (hS : va_S (fun q => s.heap.size ≤ q) s.heap H locs) : W p l e room_1 s m args below meth c H locs cells slots Q (F0 m 211 ls []) := by
  have hx := X.1
  have hb := X.2.1
  have hX := X.2.2.2.2.2.2.1
  have hbl := X.2.2.2.2.2.2.2.1
  have hbA : ¬ (fun q : Nat => s.heap.size ≤ q) b := Nat.not_le.mpr hbl
  have h_1 : vp_in (nI i + 1) L := by rw [nI_1]; exact vp_in_nI (by omega) (by omega)
  have h_2 : vp_in (nI i + 2) L := by rw [show (2 : Int32) = nI 2 from rfl, nI_add]; exact vp_in_nI (by omega) (by omega)
  refine lv_aload_n hx hb dL_law_211 rfl (lv_at hl 1 rfl) ?_
  refine lv_aload_n hx hb dL_law_212 rfl (lv_at hl 0 rfl) ?_
  refine lv_iload_n hx hb dL_law_213 rfl (lv_at hl 3 rfl) ?_
  refine lv_iconst (v := 1) hx hb dL_law_214 (by decide) ?_
  refine lv_iadd hx hb dL_law_215 ?_
  refine va_sld hx hb hX hbl hbA hS h_1 dL_law_216 ?_
  refine W.eq (g2 := F0 m 217 ls (((([.int (xs (Int32.toNatClampNeg (nI i + 1)))] : List Value)).map (vq E.2.1)).reverse ++ .ref (E.2.1 0) :: [])) rfl ?_
  refine w_call (bb := 0) (as := [.int (xs (Int32.toNatClampNeg (nI i + 1)))]) (rest := []) X hP hS hl.1 hcs dL_law_217 kX4_shade lL_36 (by decide) rfl ⟨_, _, rfl⟩ rfl (Nat.le_of_ble_eq_true rfl) (by decide) (cx_shade X0 (fun h1 X1 F1 H1 locs1 hP1 hS1 => ?_))
  refine W.eq (g2 := F0 m 220 ls [.int _]) rfl ?_
  refine lv_aload_n hx hb dL_law_220 rfl (lv_at hl 2 rfl) ?_
  refine lv_aload_n hx hb dL_law_221 rfl (lv_at hl 0 rfl) ?_
  refine lv_iload_n hx hb dL_law_222 rfl (lv_at hl 3 rfl) ?_
  refine lv_iconst (v := 1) hx hb dL_law_223 (by decide) ?_
  refine lv_iadd hx hb dL_law_224 ?_
  refine va_sld hx hb hX hbl hbA hS1 h_1 dL_law_225 ?_
  refine W.eq (g2 := F0 m 226 ls (((([.int (xs (Int32.toNatClampNeg (nI i + 1)))] : List Value)).map (vq E.2.1)).reverse ++ .ref (E.2.1 15) :: [.int _])) rfl ?_
  refine w_call (bb := 15) (as := [.int (xs (Int32.toNatClampNeg (nI i + 1)))]) (rest := [.int _]) X hP1 hS1 hl.1 hcs dL_law_226 kX5_shade lL_39 (by decide) rfl ⟨_, _, rfl⟩ rfl (Nat.le_of_ble_eq_true rfl) (by decide) (cy_shade (Y0.frx F1) (fun h2 Y2 F2 H2 locs2 hP2 hS2 => ?_))
  refine W.eq (g2 := F0 m 229 ls [.int _, .int _]) rfl ?_
  exact lv_icmp_eq (tgt := 592) hx hb dL_law_229 (by decide) (fun _ => bk _ _ _ _ (X1.fry F2) Y2 hP2 hS2) (fun z => absurd rfl z)
theorem lc6_0 (X : LX p s m meth c b L xs E) (hl : lv_has ls 4 [(0, .ref b), (1, .ref (E.2.1 0)), (2, .ref (E.2.1 15)), (3, .int (nI i))]) (hi : i + 3 ≤ L) (hL : L ≤ 1536) (hcs : cells ≤ 600000 ∧ slots ≤ 7302250) (bk : BK p l e s m args below meth c cells slots Q E ls) (X0 : XI σ h) (Y0 : YI σ h) (hP : va_P E.1 vwCl (wl E h) H) (hS : va_S (fun q => s.heap.size ≤ q) s.heap H locs) (hz : xs (Int32.toNatClampNeg (nI i + 2)) = 0) : W p l e room_1 s m args below meth c H locs cells slots Q (F0 m 234 ls []) := by
  have hx := X.1
  have hb := X.2.1
  have hX := X.2.2.2.2.2.2.1
  have hbl := X.2.2.2.2.2.2.2.1
  have hbA : ¬ (fun q : Nat => s.heap.size ≤ q) b := Nat.not_le.mpr hbl
  have h_1 : vp_in (nI i + 1) L := by rw [nI_1]; exact vp_in_nI (by omega) (by omega)
  have h_2 : vp_in (nI i + 2) L := by rw [show (2 : Int32) = nI 2 from rfl, nI_add]; exact vp_in_nI (by omega) (by omega)
  refine lv_aload_n hx hb dL_law_234 rfl (lv_at hl 1 rfl) ?_
  refine lv_aload_n hx hb dL_law_235 rfl (lv_at hl 0 rfl) ?_
  refine lv_iload_n hx hb dL_law_236 rfl (lv_at hl 3 rfl) ?_
  refine lv_iconst (v := 1) hx hb dL_law_237 (by decide) ?_
  refine lv_iadd hx hb dL_law_238 ?_
  refine va_sld hx hb hX hbl hbA hS h_1 dL_law_239 ?_
  refine lv_aload_n hx hb dL_law_240 rfl (lv_at hl 0 rfl) ?_
  refine lv_iload_n hx hb dL_law_241 rfl (lv_at hl 3 rfl) ?_
  refine lv_iconst (v := 2) hx hb dL_law_242 (by decide) ?_
  refine lv_iadd hx hb dL_law_243 ?_
  refine va_sld hx hb hX hbl hbA hS h_2 dL_law_244 ?_
  refine lv_if_eq (tgt := 252) hx hb dL_law_245 (by decide) (fun _ => ?_) (fun z => absurd hz z)
  refine lv_iconst (v := 0) hx hb dL_law_252 (by decide) ?_
  refine W.eq (g2 := F0 m 253 ls (((([.int (xs (Int32.toNatClampNeg (nI i + 1))), .int 0] : List Value)).map (vq E.2.1)).reverse ++ .ref (E.2.1 0) :: [])) rfl ?_
  refine w_call (bb := 0) (as := [.int (xs (Int32.toNatClampNeg (nI i + 1))), .int 0]) (rest := []) X hP hS hl.1 hcs dL_law_253 kX4_stuck lL_40 (by decide) rfl ⟨_, _, rfl⟩ rfl (Nat.le_of_ble_eq_true rfl) (by decide) (cx_stuck X0 (fun h1 X1 F1 H1 locs1 hP1 hS1 => ?_))
  refine W.eq (g2 := F0 m 256 ls [.int _]) rfl ?_
  refine lv_aload_n hx hb dL_law_256 rfl (lv_at hl 2 rfl) ?_
  refine lv_aload_n hx hb dL_law_257 rfl (lv_at hl 0 rfl) ?_
  refine lv_iload_n hx hb dL_law_258 rfl (lv_at hl 3 rfl) ?_
  refine lv_iconst (v := 1) hx hb dL_law_259 (by decide) ?_
  refine lv_iadd hx hb dL_law_260 ?_
  refine va_sld hx hb hX hbl hbA hS1 h_1 dL_law_261 ?_
  refine lv_aload_n hx hb dL_law_262 rfl (lv_at hl 0 rfl) ?_
  refine lv_iload_n hx hb dL_law_263 rfl (lv_at hl 3 rfl) ?_
  refine lv_iconst (v := 2) hx hb dL_law_264 (by decide) ?_
  refine lv_iadd hx hb dL_law_265 ?_
  refine va_sld hx hb hX hbl hbA hS1 h_2 dL_law_266 ?_
  refine lv_if_eq (tgt := 274) hx hb dL_law_267 (by decide) (fun _ => ?_) (fun z => absurd hz z)
  refine lv_iconst (v := 0) hx hb dL_law_274 (by decide) ?_
  refine W.eq (g2 := F0 m 275 ls (((([.int (xs (Int32.toNatClampNeg (nI i + 1))), .int 0] : List Value)).map (vq E.2.1)).reverse ++ .ref (E.2.1 15) :: [.int _])) rfl ?_
  refine w_call (bb := 15) (as := [.int (xs (Int32.toNatClampNeg (nI i + 1))), .int 0]) (rest := [.int _]) X hP1 hS1 hl.1 hcs dL_law_275 kX5_stuck lL_44 (by decide) rfl ⟨_, _, rfl⟩ rfl (Nat.le_of_ble_eq_true rfl) (by decide) (cy_stuck (Y0.frx F1) (fun h2 Y2 F2 H2 locs2 hP2 hS2 => ?_))
  refine W.eq (g2 := F0 m 278 ls [.int _, .int _]) rfl ?_
  exact lv_icmp_eq (tgt := 592) hx hb dL_law_278 (by decide) (fun _ => bk _ _ _ _ (X1.fry F2) Y2 hP2 hS2) (fun z => absurd rfl z)
theorem lc6_1 (X : LX p s m meth c b L xs E) (hl : lv_has ls 4 [(0, .ref b), (1, .ref (E.2.1 0)), (2, .ref (E.2.1 15)), (3, .int (nI i))]) (hi : i + 3 ≤ L) (hL : L ≤ 1536) (hcs : cells ≤ 600000 ∧ slots ≤ 7302250) (bk : BK p l e s m args below meth c cells slots Q E ls) (X0 : XI σ h) (Y0 : YI σ h) (hP : va_P E.1 vwCl (wl E h) H) (hS : va_S (fun q => s.heap.size ≤ q) s.heap H locs) (hz : ¬ xs (Int32.toNatClampNeg (nI i + 2)) = 0) : W p l e room_1 s m args below meth c H locs cells slots Q (F0 m 234 ls []) := by
  have hx := X.1
  have hb := X.2.1
  have hX := X.2.2.2.2.2.2.1
  have hbl := X.2.2.2.2.2.2.2.1
  have hbA : ¬ (fun q : Nat => s.heap.size ≤ q) b := Nat.not_le.mpr hbl
  have h_1 : vp_in (nI i + 1) L := by rw [nI_1]; exact vp_in_nI (by omega) (by omega)
  have h_2 : vp_in (nI i + 2) L := by rw [show (2 : Int32) = nI 2 from rfl, nI_add]; exact vp_in_nI (by omega) (by omega)
  refine lv_aload_n hx hb dL_law_234 rfl (lv_at hl 1 rfl) ?_
  refine lv_aload_n hx hb dL_law_235 rfl (lv_at hl 0 rfl) ?_
  refine lv_iload_n hx hb dL_law_236 rfl (lv_at hl 3 rfl) ?_
  refine lv_iconst (v := 1) hx hb dL_law_237 (by decide) ?_
  refine lv_iadd hx hb dL_law_238 ?_
  refine va_sld hx hb hX hbl hbA hS h_1 dL_law_239 ?_
  refine lv_aload_n hx hb dL_law_240 rfl (lv_at hl 0 rfl) ?_
  refine lv_iload_n hx hb dL_law_241 rfl (lv_at hl 3 rfl) ?_
  refine lv_iconst (v := 2) hx hb dL_law_242 (by decide) ?_
  refine lv_iadd hx hb dL_law_243 ?_
  refine va_sld hx hb hX hbl hbA hS h_2 dL_law_244 ?_
  refine lv_if_eq (tgt := 252) hx hb dL_law_245 (by decide) (fun z => absurd z hz) (fun _ => ?_)
  refine lv_iconst (v := 1) hx hb dL_law_248 (by decide) ?_
  refine lv_goto (tgt := 253) hx hb dL_law_249 (by decide) ?_
  refine W.eq (g2 := F0 m 253 ls (((([.int (xs (Int32.toNatClampNeg (nI i + 1))), .int 1] : List Value)).map (vq E.2.1)).reverse ++ .ref (E.2.1 0) :: [])) rfl ?_
  refine w_call (bb := 0) (as := [.int (xs (Int32.toNatClampNeg (nI i + 1))), .int 1]) (rest := []) X hP hS hl.1 hcs dL_law_253 kX4_stuck lL_40 (by decide) rfl ⟨_, _, rfl⟩ rfl (Nat.le_of_ble_eq_true rfl) (by decide) (cx_stuck X0 (fun h1 X1 F1 H1 locs1 hP1 hS1 => ?_))
  refine W.eq (g2 := F0 m 256 ls [.int _]) rfl ?_
  refine lv_aload_n hx hb dL_law_256 rfl (lv_at hl 2 rfl) ?_
  refine lv_aload_n hx hb dL_law_257 rfl (lv_at hl 0 rfl) ?_
  refine lv_iload_n hx hb dL_law_258 rfl (lv_at hl 3 rfl) ?_
  refine lv_iconst (v := 1) hx hb dL_law_259 (by decide) ?_
  refine lv_iadd hx hb dL_law_260 ?_
  refine va_sld hx hb hX hbl hbA hS1 h_1 dL_law_261 ?_
  refine lv_aload_n hx hb dL_law_262 rfl (lv_at hl 0 rfl) ?_
  refine lv_iload_n hx hb dL_law_263 rfl (lv_at hl 3 rfl) ?_
  refine lv_iconst (v := 2) hx hb dL_law_264 (by decide) ?_
  refine lv_iadd hx hb dL_law_265 ?_
  refine va_sld hx hb hX hbl hbA hS1 h_2 dL_law_266 ?_
  refine lv_if_eq (tgt := 274) hx hb dL_law_267 (by decide) (fun z => absurd z hz) (fun _ => ?_)
  refine lv_iconst (v := 1) hx hb dL_law_270 (by decide) ?_
  refine lv_goto (tgt := 275) hx hb dL_law_271 (by decide) ?_
  refine W.eq (g2 := F0 m 275 ls (((([.int (xs (Int32.toNatClampNeg (nI i + 1))), .int 1] : List Value)).map (vq E.2.1)).reverse ++ .ref (E.2.1 15) :: [.int _])) rfl ?_
  refine w_call (bb := 15) (as := [.int (xs (Int32.toNatClampNeg (nI i + 1))), .int 1]) (rest := [.int _]) X hP1 hS1 hl.1 hcs dL_law_275 kX5_stuck lL_44 (by decide) rfl ⟨_, _, rfl⟩ rfl (Nat.le_of_ble_eq_true rfl) (by decide) (cy_stuck (Y0.frx F1) (fun h2 Y2 F2 H2 locs2 hP2 hS2 => ?_))
  refine W.eq (g2 := F0 m 278 ls [.int _, .int _]) rfl ?_
  exact lv_icmp_eq (tgt := 592) hx hb dL_law_278 (by decide) (fun _ => bk _ _ _ _ (X1.fry F2) Y2 hP2 hS2) (fun z => absurd rfl z)
theorem lc7 (X : LX p s m meth c b L xs E) (hl : lv_has ls 4 [(0, .ref b), (1, .ref (E.2.1 0)), (2, .ref (E.2.1 15)), (3, .int (nI i))]) (hi : i + 3 ≤ L) (hL : L ≤ 1536) (hcs : cells ≤ 600000 ∧ slots ≤ 7302250) (bk : BK p l e s m args below meth c cells slots Q E ls) (X0 : XI σ h) (Y0 : YI σ h) (hP : va_P E.1 vwCl (wl E h) H) (hS : va_S (fun q => s.heap.size ≤ q) s.heap H locs) : W p l e room_1 s m args below meth c H locs cells slots Q (F0 m 283 ls []) := by
  have hx := X.1
  have hb := X.2.1
  have hX := X.2.2.2.2.2.2.1
  have hbl := X.2.2.2.2.2.2.2.1
  have hbA : ¬ (fun q : Nat => s.heap.size ≤ q) b := Nat.not_le.mpr hbl
  have h_1 : vp_in (nI i + 1) L := by rw [nI_1]; exact vp_in_nI (by omega) (by omega)
  have h_2 : vp_in (nI i + 2) L := by rw [show (2 : Int32) = nI 2 from rfl, nI_add]; exact vp_in_nI (by omega) (by omega)
  refine lv_aload_n hx hb dL_law_283 rfl (lv_at hl 1 rfl) ?_
  refine lv_aload_n hx hb dL_law_284 rfl (lv_at hl 0 rfl) ?_
  refine lv_iload_n hx hb dL_law_285 rfl (lv_at hl 3 rfl) ?_
  refine lv_iconst (v := 1) hx hb dL_law_286 (by decide) ?_
  refine lv_iadd hx hb dL_law_287 ?_
  refine va_sld hx hb hX hbl hbA hS h_1 dL_law_288 ?_
  refine lv_aload_n hx hb dL_law_289 rfl (lv_at hl 0 rfl) ?_
  refine lv_iload_n hx hb dL_law_290 rfl (lv_at hl 3 rfl) ?_
  refine lv_iconst (v := 2) hx hb dL_law_291 (by decide) ?_
  refine lv_iadd hx hb dL_law_292 ?_
  refine va_sld hx hb hX hbl hbA hS h_2 dL_law_293 ?_
  refine W.eq (g2 := F0 m 294 ls (((([.int (xs (Int32.toNatClampNeg (nI i + 1))), .int (xs (Int32.toNatClampNeg (nI i + 2)))] : List Value)).map (vq E.2.1)).reverse ++ .ref (E.2.1 0) :: [])) rfl ?_
  refine w_call (bb := 0) (as := [.int (xs (Int32.toNatClampNeg (nI i + 1))), .int (xs (Int32.toNatClampNeg (nI i + 2)))]) (rest := []) X hP hS hl.1 hcs dL_law_294 kX4_aim lL_45 (by decide) rfl ⟨_, _, rfl⟩ rfl (Nat.le_of_ble_eq_true rfl) (by decide) (cx_aim X0 (fun h1 X1 F1 H1 locs1 hP1 hS1 => ?_))
  refine W.eq (g2 := F0 m 297 ls [.int _]) rfl ?_
  refine lv_aload_n hx hb dL_law_297 rfl (lv_at hl 2 rfl) ?_
  refine lv_aload_n hx hb dL_law_298 rfl (lv_at hl 0 rfl) ?_
  refine lv_iload_n hx hb dL_law_299 rfl (lv_at hl 3 rfl) ?_
  refine lv_iconst (v := 1) hx hb dL_law_300 (by decide) ?_
  refine lv_iadd hx hb dL_law_301 ?_
  refine va_sld hx hb hX hbl hbA hS1 h_1 dL_law_302 ?_
  refine lv_aload_n hx hb dL_law_303 rfl (lv_at hl 0 rfl) ?_
  refine lv_iload_n hx hb dL_law_304 rfl (lv_at hl 3 rfl) ?_
  refine lv_iconst (v := 2) hx hb dL_law_305 (by decide) ?_
  refine lv_iadd hx hb dL_law_306 ?_
  refine va_sld hx hb hX hbl hbA hS1 h_2 dL_law_307 ?_
  refine W.eq (g2 := F0 m 308 ls (((([.int (xs (Int32.toNatClampNeg (nI i + 1))), .int (xs (Int32.toNatClampNeg (nI i + 2)))] : List Value)).map (vq E.2.1)).reverse ++ .ref (E.2.1 15) :: [.int _])) rfl ?_
  refine w_call (bb := 15) (as := [.int (xs (Int32.toNatClampNeg (nI i + 1))), .int (xs (Int32.toNatClampNeg (nI i + 2)))]) (rest := [.int _]) X hP1 hS1 hl.1 hcs dL_law_308 kX5_aim lL_48 (by decide) rfl ⟨_, _, rfl⟩ rfl (Nat.le_of_ble_eq_true rfl) (by decide) (cy_aim (Y0.frx F1) (fun h2 Y2 F2 H2 locs2 hP2 hS2 => ?_))
  refine W.eq (g2 := F0 m 311 ls [.int _, .int _]) rfl ?_
  exact lv_icmp_eq (tgt := 592) hx hb dL_law_311 (by decide) (fun _ => bk _ _ _ _ (X1.fry F2) Y2 hP2 hS2) (fun z => absurd rfl z)
theorem lc8 (X : LX p s m meth c b L xs E) (hl : lv_has ls 4 [(0, .ref b), (1, .ref (E.2.1 0)), (2, .ref (E.2.1 15)), (3, .int (nI i))]) (hi : i + 3 ≤ L) (hL : L ≤ 1536) (hcs : cells ≤ 600000 ∧ slots ≤ 7302250) (bk : BK p l e s m args below meth c cells slots Q E ls) (X0 : XI σ h) (Y0 : YI σ h) (hP : va_P E.1 vwCl (wl E h) H) (hS : va_S (fun q => s.heap.size ≤ q) s.heap H locs) : W p l e room_1 s m args below meth c H locs cells slots Q (F0 m 316 ls []) := by
  have hx := X.1
  have hb := X.2.1
  have hX := X.2.2.2.2.2.2.1
  have hbl := X.2.2.2.2.2.2.2.1
  have hbA : ¬ (fun q : Nat => s.heap.size ≤ q) b := Nat.not_le.mpr hbl
  have h_1 : vp_in (nI i + 1) L := by rw [nI_1]; exact vp_in_nI (by omega) (by omega)
  have h_2 : vp_in (nI i + 2) L := by rw [show (2 : Int32) = nI 2 from rfl, nI_add]; exact vp_in_nI (by omega) (by omega)
  refine lv_aload_n hx hb dL_law_316 rfl (lv_at hl 1 rfl) ?_
  refine lv_aload_n hx hb dL_law_317 rfl (lv_at hl 0 rfl) ?_
  refine lv_iload_n hx hb dL_law_318 rfl (lv_at hl 3 rfl) ?_
  refine lv_iconst (v := 1) hx hb dL_law_319 (by decide) ?_
  refine lv_iadd hx hb dL_law_320 ?_
  refine va_sld hx hb hX hbl hbA hS h_1 dL_law_321 ?_
  refine lv_aload_n hx hb dL_law_322 rfl (lv_at hl 0 rfl) ?_
  refine lv_iload_n hx hb dL_law_323 rfl (lv_at hl 3 rfl) ?_
  refine lv_iconst (v := 2) hx hb dL_law_324 (by decide) ?_
  refine lv_iadd hx hb dL_law_325 ?_
  refine va_sld hx hb hX hbl hbA hS h_2 dL_law_326 ?_
  refine W.eq (g2 := F0 m 327 ls (((([.int (xs (Int32.toNatClampNeg (nI i + 1))), .int (xs (Int32.toNatClampNeg (nI i + 2)))] : List Value)).map (vq E.2.1)).reverse ++ .ref (E.2.1 0) :: [])) rfl ?_
  refine w_call (bb := 0) (as := [.int (xs (Int32.toNatClampNeg (nI i + 1))), .int (xs (Int32.toNatClampNeg (nI i + 2)))]) (rest := []) X hP hS hl.1 hcs dL_law_327 kX4_mirror lL_49 (by decide) rfl ⟨_, _, rfl⟩ rfl (Nat.le_of_ble_eq_true rfl) (by decide) (cx_mirror X0 (fun H1 locs1 hP1 hS1 => ?_))
  have F1 := FrX.rf h
  have X1 := X0
  refine W.eq (g2 := F0 m 330 ls [.int _]) rfl ?_
  refine lv_aload_n hx hb dL_law_330 rfl (lv_at hl 2 rfl) ?_
  refine lv_aload_n hx hb dL_law_331 rfl (lv_at hl 0 rfl) ?_
  refine lv_iload_n hx hb dL_law_332 rfl (lv_at hl 3 rfl) ?_
  refine lv_iconst (v := 1) hx hb dL_law_333 (by decide) ?_
  refine lv_iadd hx hb dL_law_334 ?_
  refine va_sld hx hb hX hbl hbA hS1 h_1 dL_law_335 ?_
  refine lv_aload_n hx hb dL_law_336 rfl (lv_at hl 0 rfl) ?_
  refine lv_iload_n hx hb dL_law_337 rfl (lv_at hl 3 rfl) ?_
  refine lv_iconst (v := 2) hx hb dL_law_338 (by decide) ?_
  refine lv_iadd hx hb dL_law_339 ?_
  refine va_sld hx hb hX hbl hbA hS1 h_2 dL_law_340 ?_
  refine W.eq (g2 := F0 m 341 ls (((([.int (xs (Int32.toNatClampNeg (nI i + 1))), .int (xs (Int32.toNatClampNeg (nI i + 2)))] : List Value)).map (vq E.2.1)).reverse ++ .ref (E.2.1 15) :: [.int _])) rfl ?_
  refine w_call (bb := 15) (as := [.int (xs (Int32.toNatClampNeg (nI i + 1))), .int (xs (Int32.toNatClampNeg (nI i + 2)))]) (rest := [.int _]) X hP1 hS1 hl.1 hcs dL_law_341 kX5_mirror lL_52 (by decide) rfl ⟨_, _, rfl⟩ rfl (Nat.le_of_ble_eq_true rfl) (by decide) (cy_mirror (Y0.frx F1) (fun H2 locs2 hP2 hS2 => ?_))
  have F2 := FrY.rf h
  have Y2 := Y0.frx F1
  refine W.eq (g2 := F0 m 344 ls [.int _, .int _]) rfl ?_
  exact lv_icmp_eq (tgt := 592) hx hb dL_law_344 (by decide) (fun _ => bk _ _ _ _ (X1.fry F2) Y2 hP2 hS2) (fun z => absurd rfl z)
theorem lc9 (X : LX p s m meth c b L xs E) (hl : lv_has ls 4 [(0, .ref b), (1, .ref (E.2.1 0)), (2, .ref (E.2.1 15)), (3, .int (nI i))]) (hi : i + 3 ≤ L) (hL : L ≤ 1536) (hcs : cells ≤ 600000 ∧ slots ≤ 7302250) (bk : BK p l e s m args below meth c cells slots Q E ls) (X0 : XI σ h) (Y0 : YI σ h) (hP : va_P E.1 vwCl (wl E h) H) (hS : va_S (fun q => s.heap.size ≤ q) s.heap H locs) : W p l e room_1 s m args below meth c H locs cells slots Q (F0 m 349 ls []) := by
  have hx := X.1
  have hb := X.2.1
  have hX := X.2.2.2.2.2.2.1
  have hbl := X.2.2.2.2.2.2.2.1
  have hbA : ¬ (fun q : Nat => s.heap.size ≤ q) b := Nat.not_le.mpr hbl
  have h_1 : vp_in (nI i + 1) L := by rw [nI_1]; exact vp_in_nI (by omega) (by omega)
  have h_2 : vp_in (nI i + 2) L := by rw [show (2 : Int32) = nI 2 from rfl, nI_add]; exact vp_in_nI (by omega) (by omega)
  refine lv_aload_n hx hb dL_law_349 rfl (lv_at hl 1 rfl) ?_
  refine lv_aload_n hx hb dL_law_350 rfl (lv_at hl 0 rfl) ?_
  refine lv_iload_n hx hb dL_law_351 rfl (lv_at hl 3 rfl) ?_
  refine lv_iconst (v := 1) hx hb dL_law_352 (by decide) ?_
  refine lv_iadd hx hb dL_law_353 ?_
  refine va_sld hx hb hX hbl hbA hS h_1 dL_law_354 ?_
  refine lv_aload_n hx hb dL_law_355 rfl (lv_at hl 0 rfl) ?_
  refine lv_iload_n hx hb dL_law_356 rfl (lv_at hl 3 rfl) ?_
  refine lv_iconst (v := 2) hx hb dL_law_357 (by decide) ?_
  refine lv_iadd hx hb dL_law_358 ?_
  refine va_sld hx hb hX hbl hbA hS h_2 dL_law_359 ?_
  refine W.eq (g2 := F0 m 360 ls (((([.int (xs (Int32.toNatClampNeg (nI i + 1))), .int (xs (Int32.toNatClampNeg (nI i + 2)))] : List Value)).map (vq E.2.1)).reverse ++ .ref (E.2.1 0) :: [])) rfl ?_
  refine w_call (bb := 0) (as := [.int (xs (Int32.toNatClampNeg (nI i + 1))), .int (xs (Int32.toNatClampNeg (nI i + 2)))]) (rest := []) X hP hS hl.1 hcs dL_law_360 kX4_patch lL_53 (by decide) rfl ⟨_, _, rfl⟩ rfl (Nat.le_of_ble_eq_true rfl) (by decide) (cx_patch X0 (fun H1 locs1 hP1 hS1 => ?_))
  have F1 := FrX.rf h
  have X1 := X0
  refine W.eq (g2 := F0 m 363 ls [.int _]) rfl ?_
  refine lv_aload_n hx hb dL_law_363 rfl (lv_at hl 2 rfl) ?_
  refine lv_aload_n hx hb dL_law_364 rfl (lv_at hl 0 rfl) ?_
  refine lv_iload_n hx hb dL_law_365 rfl (lv_at hl 3 rfl) ?_
  refine lv_iconst (v := 1) hx hb dL_law_366 (by decide) ?_
  refine lv_iadd hx hb dL_law_367 ?_
  refine va_sld hx hb hX hbl hbA hS1 h_1 dL_law_368 ?_
  refine lv_aload_n hx hb dL_law_369 rfl (lv_at hl 0 rfl) ?_
  refine lv_iload_n hx hb dL_law_370 rfl (lv_at hl 3 rfl) ?_
  refine lv_iconst (v := 2) hx hb dL_law_371 (by decide) ?_
  refine lv_iadd hx hb dL_law_372 ?_
  refine va_sld hx hb hX hbl hbA hS1 h_2 dL_law_373 ?_
  refine W.eq (g2 := F0 m 374 ls (((([.int (xs (Int32.toNatClampNeg (nI i + 1))), .int (xs (Int32.toNatClampNeg (nI i + 2)))] : List Value)).map (vq E.2.1)).reverse ++ .ref (E.2.1 15) :: [.int _])) rfl ?_
  refine w_call (bb := 15) (as := [.int (xs (Int32.toNatClampNeg (nI i + 1))), .int (xs (Int32.toNatClampNeg (nI i + 2)))]) (rest := [.int _]) X hP1 hS1 hl.1 hcs dL_law_374 kX5_patch lL_56 (by decide) rfl ⟨_, _, rfl⟩ rfl (Nat.le_of_ble_eq_true rfl) (by decide) (cy_patch (Y0.frx F1) (fun h2 Y2 F2 H2 locs2 hP2 hS2 => ?_))
  refine W.eq (g2 := F0 m 377 ls [.int _, .int _]) rfl ?_
  exact lv_icmp_eq (tgt := 592) hx hb dL_law_377 (by decide) (fun _ => bk _ _ _ _ (X1.fry F2) Y2 hP2 hS2) (fun z => absurd rfl z)
theorem lc10_0 (X : LX p s m meth c b L xs E) (hl : lv_has ls 4 [(0, .ref b), (1, .ref (E.2.1 0)), (2, .ref (E.2.1 15)), (3, .int (nI i))]) (hi : i + 3 ≤ L) (hL : L ≤ 1536) (hcs : cells ≤ 600000 ∧ slots ≤ 7302250) (bk : BK p l e s m args below meth c cells slots Q E ls) (X0 : XI σ h) (Y0 : YI σ h) (hP : va_P E.1 vwCl (wl E h) H) (hS : va_S (fun q => s.heap.size ≤ q) s.heap H locs) (hz : xs (Int32.toNatClampNeg (nI i + 1)) = 0) : W p l e room_1 s m args below meth c H locs cells slots Q (F0 m 382 ls []) := by
  have hx := X.1
  have hb := X.2.1
  have hX := X.2.2.2.2.2.2.1
  have hbl := X.2.2.2.2.2.2.2.1
  have hbA : ¬ (fun q : Nat => s.heap.size ≤ q) b := Nat.not_le.mpr hbl
  have h_1 : vp_in (nI i + 1) L := by rw [nI_1]; exact vp_in_nI (by omega) (by omega)
  have h_2 : vp_in (nI i + 2) L := by rw [show (2 : Int32) = nI 2 from rfl, nI_add]; exact vp_in_nI (by omega) (by omega)
  refine lv_aload_n hx hb dL_law_382 rfl (lv_at hl 1 rfl) ?_
  refine lv_aload_n hx hb dL_law_383 rfl (lv_at hl 0 rfl) ?_
  refine lv_iload_n hx hb dL_law_384 rfl (lv_at hl 3 rfl) ?_
  refine lv_iconst (v := 1) hx hb dL_law_385 (by decide) ?_
  refine lv_iadd hx hb dL_law_386 ?_
  refine va_sld hx hb hX hbl hbA hS h_1 dL_law_387 ?_
  refine lv_if_eq (tgt := 395) hx hb dL_law_388 (by decide) (fun _ => ?_) (fun z => absurd hz z)
  refine lv_iconst (v := 0) hx hb dL_law_395 (by decide) ?_
  refine lv_aload_n hx hb dL_law_396 rfl (lv_at hl 0 rfl) ?_
  refine lv_iload_n hx hb dL_law_397 rfl (lv_at hl 3 rfl) ?_
  refine lv_iconst (v := 2) hx hb dL_law_398 (by decide) ?_
  refine lv_iadd hx hb dL_law_399 ?_
  refine va_sld hx hb hX hbl hbA hS h_2 dL_law_400 ?_
  refine W.eq (g2 := F0 m 401 ls (((([.int (b2i false), .int (xs (Int32.toNatClampNeg (nI i + 2)))] : List Value)).map (vq E.2.1)).reverse ++ .ref (E.2.1 0) :: [])) rfl ?_
  refine w_call (bb := 0) (as := [.int (b2i false), .int (xs (Int32.toNatClampNeg (nI i + 2)))]) (rest := []) X hP hS hl.1 hcs dL_law_401 kX4_best lL_57 (by decide) rfl ⟨_, _, rfl⟩ rfl (Nat.le_of_ble_eq_true rfl) (by decide) (cx_best4 X0 (fun h1 X1 F1 H1 locs1 hP1 hS1 => ?_))
  refine W.eq (g2 := F0 m 404 ls [.int _]) rfl ?_
  refine lv_aload_n hx hb dL_law_404 rfl (lv_at hl 2 rfl) ?_
  refine lv_aload_n hx hb dL_law_405 rfl (lv_at hl 0 rfl) ?_
  refine lv_iload_n hx hb dL_law_406 rfl (lv_at hl 3 rfl) ?_
  refine lv_iconst (v := 1) hx hb dL_law_407 (by decide) ?_
  refine lv_iadd hx hb dL_law_408 ?_
  refine va_sld hx hb hX hbl hbA hS1 h_1 dL_law_409 ?_
  refine lv_if_eq (tgt := 417) hx hb dL_law_410 (by decide) (fun _ => ?_) (fun z => absurd hz z)
  refine lv_iconst (v := 0) hx hb dL_law_417 (by decide) ?_
  refine lv_aload_n hx hb dL_law_418 rfl (lv_at hl 0 rfl) ?_
  refine lv_iload_n hx hb dL_law_419 rfl (lv_at hl 3 rfl) ?_
  refine lv_iconst (v := 2) hx hb dL_law_420 (by decide) ?_
  refine lv_iadd hx hb dL_law_421 ?_
  refine va_sld hx hb hX hbl hbA hS1 h_2 dL_law_422 ?_
  refine W.eq (g2 := F0 m 423 ls (((([.int (b2i false), .int (xs (Int32.toNatClampNeg (nI i + 2)))] : List Value)).map (vq E.2.1)).reverse ++ .ref (E.2.1 15) :: [.int _])) rfl ?_
  refine w_call (bb := 15) (as := [.int (b2i false), .int (xs (Int32.toNatClampNeg (nI i + 2)))]) (rest := [.int _]) X hP1 hS1 hl.1 hcs dL_law_423 kX5_best lL_61 (by decide) rfl ⟨_, _, rfl⟩ rfl (Nat.le_of_ble_eq_true rfl) (by decide) (cy_best (st := false) (Y0.frx F1) (fun h2 Y2 F2 H2 locs2 hP2 hS2 => ?_))
  refine W.eq (g2 := F0 m 426 ls [.int _, .int _]) rfl ?_
  exact lv_icmp_eq (tgt := 592) hx hb dL_law_426 (by decide) (fun _ => bk _ _ _ _ (X1.fry F2) Y2 hP2 hS2) (fun z => absurd rfl z)
theorem lc10_1 (X : LX p s m meth c b L xs E) (hl : lv_has ls 4 [(0, .ref b), (1, .ref (E.2.1 0)), (2, .ref (E.2.1 15)), (3, .int (nI i))]) (hi : i + 3 ≤ L) (hL : L ≤ 1536) (hcs : cells ≤ 600000 ∧ slots ≤ 7302250) (bk : BK p l e s m args below meth c cells slots Q E ls) (X0 : XI σ h) (Y0 : YI σ h) (hP : va_P E.1 vwCl (wl E h) H) (hS : va_S (fun q => s.heap.size ≤ q) s.heap H locs) (hz : ¬ xs (Int32.toNatClampNeg (nI i + 1)) = 0) : W p l e room_1 s m args below meth c H locs cells slots Q (F0 m 382 ls []) := by
  have hx := X.1
  have hb := X.2.1
  have hX := X.2.2.2.2.2.2.1
  have hbl := X.2.2.2.2.2.2.2.1
  have hbA : ¬ (fun q : Nat => s.heap.size ≤ q) b := Nat.not_le.mpr hbl
  have h_1 : vp_in (nI i + 1) L := by rw [nI_1]; exact vp_in_nI (by omega) (by omega)
  have h_2 : vp_in (nI i + 2) L := by rw [show (2 : Int32) = nI 2 from rfl, nI_add]; exact vp_in_nI (by omega) (by omega)
  refine lv_aload_n hx hb dL_law_382 rfl (lv_at hl 1 rfl) ?_
  refine lv_aload_n hx hb dL_law_383 rfl (lv_at hl 0 rfl) ?_
  refine lv_iload_n hx hb dL_law_384 rfl (lv_at hl 3 rfl) ?_
  refine lv_iconst (v := 1) hx hb dL_law_385 (by decide) ?_
  refine lv_iadd hx hb dL_law_386 ?_
  refine va_sld hx hb hX hbl hbA hS h_1 dL_law_387 ?_
  refine lv_if_eq (tgt := 395) hx hb dL_law_388 (by decide) (fun z => absurd z hz) (fun _ => ?_)
  refine lv_iconst (v := 1) hx hb dL_law_391 (by decide) ?_
  refine lv_goto (tgt := 396) hx hb dL_law_392 (by decide) ?_
  refine lv_aload_n hx hb dL_law_396 rfl (lv_at hl 0 rfl) ?_
  refine lv_iload_n hx hb dL_law_397 rfl (lv_at hl 3 rfl) ?_
  refine lv_iconst (v := 2) hx hb dL_law_398 (by decide) ?_
  refine lv_iadd hx hb dL_law_399 ?_
  refine va_sld hx hb hX hbl hbA hS h_2 dL_law_400 ?_
  refine W.eq (g2 := F0 m 401 ls (((([.int (b2i true), .int (xs (Int32.toNatClampNeg (nI i + 2)))] : List Value)).map (vq E.2.1)).reverse ++ .ref (E.2.1 0) :: [])) rfl ?_
  refine w_call (bb := 0) (as := [.int (b2i true), .int (xs (Int32.toNatClampNeg (nI i + 2)))]) (rest := []) X hP hS hl.1 hcs dL_law_401 kX4_best lL_57 (by decide) rfl ⟨_, _, rfl⟩ rfl (Nat.le_of_ble_eq_true rfl) (by decide) (cx_best5 X0 (fun h1 X1 F1 H1 locs1 hP1 hS1 => ?_))
  refine W.eq (g2 := F0 m 404 ls [.int _]) rfl ?_
  refine lv_aload_n hx hb dL_law_404 rfl (lv_at hl 2 rfl) ?_
  refine lv_aload_n hx hb dL_law_405 rfl (lv_at hl 0 rfl) ?_
  refine lv_iload_n hx hb dL_law_406 rfl (lv_at hl 3 rfl) ?_
  refine lv_iconst (v := 1) hx hb dL_law_407 (by decide) ?_
  refine lv_iadd hx hb dL_law_408 ?_
  refine va_sld hx hb hX hbl hbA hS1 h_1 dL_law_409 ?_
  refine lv_if_eq (tgt := 417) hx hb dL_law_410 (by decide) (fun z => absurd z hz) (fun _ => ?_)
  refine lv_iconst (v := 1) hx hb dL_law_413 (by decide) ?_
  refine lv_goto (tgt := 418) hx hb dL_law_414 (by decide) ?_
  refine lv_aload_n hx hb dL_law_418 rfl (lv_at hl 0 rfl) ?_
  refine lv_iload_n hx hb dL_law_419 rfl (lv_at hl 3 rfl) ?_
  refine lv_iconst (v := 2) hx hb dL_law_420 (by decide) ?_
  refine lv_iadd hx hb dL_law_421 ?_
  refine va_sld hx hb hX hbl hbA hS1 h_2 dL_law_422 ?_
  refine W.eq (g2 := F0 m 423 ls (((([.int (b2i true), .int (xs (Int32.toNatClampNeg (nI i + 2)))] : List Value)).map (vq E.2.1)).reverse ++ .ref (E.2.1 15) :: [.int _])) rfl ?_
  refine w_call (bb := 15) (as := [.int (b2i true), .int (xs (Int32.toNatClampNeg (nI i + 2)))]) (rest := [.int _]) X hP1 hS1 hl.1 hcs dL_law_423 kX5_best lL_61 (by decide) rfl ⟨_, _, rfl⟩ rfl (Nat.le_of_ble_eq_true rfl) (by decide) (cy_best (st := true) (Y0.frx F1) (fun h2 Y2 F2 H2 locs2 hP2 hS2 => ?_))
  refine W.eq (g2 := F0 m 426 ls [.int _, .int _]) rfl ?_
  exact lv_icmp_eq (tgt := 592) hx hb dL_law_426 (by decide) (fun _ => bk _ _ _ _ (X1.fry F2) Y2 hP2 hS2) (fun z => absurd rfl z)
theorem lc11_0 (X : LX p s m meth c b L xs E) (hl : lv_has ls 4 [(0, .ref b), (1, .ref (E.2.1 0)), (2, .ref (E.2.1 15)), (3, .int (nI i))]) (hi : i + 3 ≤ L) (hL : L ≤ 1536) (hcs : cells ≤ 600000 ∧ slots ≤ 7302250) (bk : BK p l e s m args below meth c cells slots Q E ls) (X0 : XI σ h) (Y0 : YI σ h) (hP : va_P E.1 vwCl (wl E h) H) (hS : va_S (fun q => s.heap.size ≤ q) s.heap H locs) (hz : xs (Int32.toNatClampNeg (nI i + 1)) = 0) : W p l e room_1 s m args below meth c H locs cells slots Q (F0 m 431 ls []) := by
  have hx := X.1
  have hb := X.2.1
  have hX := X.2.2.2.2.2.2.1
  have hbl := X.2.2.2.2.2.2.2.1
  have hbA : ¬ (fun q : Nat => s.heap.size ≤ q) b := Nat.not_le.mpr hbl
  have h_1 : vp_in (nI i + 1) L := by rw [nI_1]; exact vp_in_nI (by omega) (by omega)
  have h_2 : vp_in (nI i + 2) L := by rw [show (2 : Int32) = nI 2 from rfl, nI_add]; exact vp_in_nI (by omega) (by omega)
  refine lv_aload_n hx hb dL_law_431 rfl (lv_at hl 1 rfl) ?_
  refine lv_aload_n hx hb dL_law_432 rfl (lv_at hl 0 rfl) ?_
  refine lv_iload_n hx hb dL_law_433 rfl (lv_at hl 3 rfl) ?_
  refine lv_iconst (v := 1) hx hb dL_law_434 (by decide) ?_
  refine lv_iadd hx hb dL_law_435 ?_
  refine va_sld hx hb hX hbl hbA hS h_1 dL_law_436 ?_
  refine lv_if_eq (tgt := 444) hx hb dL_law_437 (by decide) (fun _ => ?_) (fun z => absurd hz z)
  refine lv_iconst (v := 0) hx hb dL_law_444 (by decide) ?_
  refine lv_aload_n hx hb dL_law_445 rfl (lv_at hl 0 rfl) ?_
  refine lv_iload_n hx hb dL_law_446 rfl (lv_at hl 3 rfl) ?_
  refine lv_iconst (v := 2) hx hb dL_law_447 (by decide) ?_
  refine lv_iadd hx hb dL_law_448 ?_
  refine va_sld hx hb hX hbl hbA hS h_2 dL_law_449 ?_
  refine W.eq (g2 := F0 m 450 ls (((([.int (b2i false), .int (xs (Int32.toNatClampNeg (nI i + 2)))] : List Value)).map (vq E.2.1)).reverse ++ .ref (E.2.1 0) :: [])) rfl ?_
  refine w_call (bb := 0) (as := [.int (b2i false), .int (xs (Int32.toNatClampNeg (nI i + 2)))]) (rest := []) X hP hS hl.1 hcs dL_law_450 kX4_change lL_62 (by decide) rfl ⟨_, _, rfl⟩ rfl (Nat.le_of_ble_eq_true rfl) (by decide) (cx_change4 X0 (fun h1 X1 F1 H1 locs1 hP1 hS1 => ?_))
  refine W.eq (g2 := F0 m 453 ls [.int _]) rfl ?_
  refine lv_aload_n hx hb dL_law_453 rfl (lv_at hl 2 rfl) ?_
  refine lv_aload_n hx hb dL_law_454 rfl (lv_at hl 0 rfl) ?_
  refine lv_iload_n hx hb dL_law_455 rfl (lv_at hl 3 rfl) ?_
  refine lv_iconst (v := 1) hx hb dL_law_456 (by decide) ?_
  refine lv_iadd hx hb dL_law_457 ?_
  refine va_sld hx hb hX hbl hbA hS1 h_1 dL_law_458 ?_
  refine lv_if_eq (tgt := 466) hx hb dL_law_459 (by decide) (fun _ => ?_) (fun z => absurd hz z)
  refine lv_iconst (v := 0) hx hb dL_law_466 (by decide) ?_
  refine lv_aload_n hx hb dL_law_467 rfl (lv_at hl 0 rfl) ?_
  refine lv_iload_n hx hb dL_law_468 rfl (lv_at hl 3 rfl) ?_
  refine lv_iconst (v := 2) hx hb dL_law_469 (by decide) ?_
  refine lv_iadd hx hb dL_law_470 ?_
  refine va_sld hx hb hX hbl hbA hS1 h_2 dL_law_471 ?_
  refine W.eq (g2 := F0 m 472 ls (((([.int (b2i false), .int (xs (Int32.toNatClampNeg (nI i + 2)))] : List Value)).map (vq E.2.1)).reverse ++ .ref (E.2.1 15) :: [.int _])) rfl ?_
  refine w_call (bb := 15) (as := [.int (b2i false), .int (xs (Int32.toNatClampNeg (nI i + 2)))]) (rest := [.int _]) X hP1 hS1 hl.1 hcs dL_law_472 kX5_change lL_65 (by decide) rfl ⟨_, _, rfl⟩ rfl (Nat.le_of_ble_eq_true rfl) (by decide) (cy_change (st := false) (Y0.frx F1) (fun h2 Y2 F2 H2 locs2 hP2 hS2 => ?_))
  refine W.eq (g2 := F0 m 475 ls [.int _, .int _]) rfl ?_
  exact lv_icmp_eq (tgt := 592) hx hb dL_law_475 (by decide) (fun _ => bk _ _ _ _ (X1.fry F2) Y2 hP2 hS2) (fun z => absurd rfl z)
theorem lc11_1 (X : LX p s m meth c b L xs E) (hl : lv_has ls 4 [(0, .ref b), (1, .ref (E.2.1 0)), (2, .ref (E.2.1 15)), (3, .int (nI i))]) (hi : i + 3 ≤ L) (hL : L ≤ 1536) (hcs : cells ≤ 600000 ∧ slots ≤ 7302250) (bk : BK p l e s m args below meth c cells slots Q E ls) (X0 : XI σ h) (Y0 : YI σ h) (hP : va_P E.1 vwCl (wl E h) H) (hS : va_S (fun q => s.heap.size ≤ q) s.heap H locs) (hz : ¬ xs (Int32.toNatClampNeg (nI i + 1)) = 0) : W p l e room_1 s m args below meth c H locs cells slots Q (F0 m 431 ls []) := by
  have hx := X.1
  have hb := X.2.1
  have hX := X.2.2.2.2.2.2.1
  have hbl := X.2.2.2.2.2.2.2.1
  have hbA : ¬ (fun q : Nat => s.heap.size ≤ q) b := Nat.not_le.mpr hbl
  have h_1 : vp_in (nI i + 1) L := by rw [nI_1]; exact vp_in_nI (by omega) (by omega)
  have h_2 : vp_in (nI i + 2) L := by rw [show (2 : Int32) = nI 2 from rfl, nI_add]; exact vp_in_nI (by omega) (by omega)
  refine lv_aload_n hx hb dL_law_431 rfl (lv_at hl 1 rfl) ?_
  refine lv_aload_n hx hb dL_law_432 rfl (lv_at hl 0 rfl) ?_
  refine lv_iload_n hx hb dL_law_433 rfl (lv_at hl 3 rfl) ?_
  refine lv_iconst (v := 1) hx hb dL_law_434 (by decide) ?_
  refine lv_iadd hx hb dL_law_435 ?_
  refine va_sld hx hb hX hbl hbA hS h_1 dL_law_436 ?_
  refine lv_if_eq (tgt := 444) hx hb dL_law_437 (by decide) (fun z => absurd z hz) (fun _ => ?_)
  refine lv_iconst (v := 1) hx hb dL_law_440 (by decide) ?_
  refine lv_goto (tgt := 445) hx hb dL_law_441 (by decide) ?_
  refine lv_aload_n hx hb dL_law_445 rfl (lv_at hl 0 rfl) ?_
  refine lv_iload_n hx hb dL_law_446 rfl (lv_at hl 3 rfl) ?_
  refine lv_iconst (v := 2) hx hb dL_law_447 (by decide) ?_
  refine lv_iadd hx hb dL_law_448 ?_
  refine va_sld hx hb hX hbl hbA hS h_2 dL_law_449 ?_
  refine W.eq (g2 := F0 m 450 ls (((([.int (b2i true), .int (xs (Int32.toNatClampNeg (nI i + 2)))] : List Value)).map (vq E.2.1)).reverse ++ .ref (E.2.1 0) :: [])) rfl ?_
  refine w_call (bb := 0) (as := [.int (b2i true), .int (xs (Int32.toNatClampNeg (nI i + 2)))]) (rest := []) X hP hS hl.1 hcs dL_law_450 kX4_change lL_62 (by decide) rfl ⟨_, _, rfl⟩ rfl (Nat.le_of_ble_eq_true rfl) (by decide) (cx_change5 X0 (fun h1 X1 F1 H1 locs1 hP1 hS1 => ?_))
  refine W.eq (g2 := F0 m 453 ls [.int _]) rfl ?_
  refine lv_aload_n hx hb dL_law_453 rfl (lv_at hl 2 rfl) ?_
  refine lv_aload_n hx hb dL_law_454 rfl (lv_at hl 0 rfl) ?_
  refine lv_iload_n hx hb dL_law_455 rfl (lv_at hl 3 rfl) ?_
  refine lv_iconst (v := 1) hx hb dL_law_456 (by decide) ?_
  refine lv_iadd hx hb dL_law_457 ?_
  refine va_sld hx hb hX hbl hbA hS1 h_1 dL_law_458 ?_
  refine lv_if_eq (tgt := 466) hx hb dL_law_459 (by decide) (fun z => absurd z hz) (fun _ => ?_)
  refine lv_iconst (v := 1) hx hb dL_law_462 (by decide) ?_
  refine lv_goto (tgt := 467) hx hb dL_law_463 (by decide) ?_
  refine lv_aload_n hx hb dL_law_467 rfl (lv_at hl 0 rfl) ?_
  refine lv_iload_n hx hb dL_law_468 rfl (lv_at hl 3 rfl) ?_
  refine lv_iconst (v := 2) hx hb dL_law_469 (by decide) ?_
  refine lv_iadd hx hb dL_law_470 ?_
  refine va_sld hx hb hX hbl hbA hS1 h_2 dL_law_471 ?_
  refine W.eq (g2 := F0 m 472 ls (((([.int (b2i true), .int (xs (Int32.toNatClampNeg (nI i + 2)))] : List Value)).map (vq E.2.1)).reverse ++ .ref (E.2.1 15) :: [.int _])) rfl ?_
  refine w_call (bb := 15) (as := [.int (b2i true), .int (xs (Int32.toNatClampNeg (nI i + 2)))]) (rest := [.int _]) X hP1 hS1 hl.1 hcs dL_law_472 kX5_change lL_65 (by decide) rfl ⟨_, _, rfl⟩ rfl (Nat.le_of_ble_eq_true rfl) (by decide) (cy_change (st := true) (Y0.frx F1) (fun h2 Y2 F2 H2 locs2 hP2 hS2 => ?_))
  refine W.eq (g2 := F0 m 475 ls [.int _, .int _]) rfl ?_
  exact lv_icmp_eq (tgt := 592) hx hb dL_law_475 (by decide) (fun _ => bk _ _ _ _ (X1.fry F2) Y2 hP2 hS2) (fun z => absurd rfl z)
theorem lc12_0 (X : LX p s m meth c b L xs E) (hl : lv_has ls 4 [(0, .ref b), (1, .ref (E.2.1 0)), (2, .ref (E.2.1 15)), (3, .int (nI i))]) (hi : i + 3 ≤ L) (hL : L ≤ 1536) (hcs : cells ≤ 600000 ∧ slots ≤ 7302250) (bk : BK p l e s m args below meth c cells slots Q E ls) (X0 : XI σ h) (Y0 : YI σ h) (hP : va_P E.1 vwCl (wl E h) H) (hS : va_S (fun q => s.heap.size ≤ q) s.heap H locs) (hz : xs (Int32.toNatClampNeg (nI i + 1)) = 0) : W p l e room_1 s m args below meth c H locs cells slots Q (F0 m 480 ls []) := by
  have hx := X.1
  have hb := X.2.1
  have hX := X.2.2.2.2.2.2.1
  have hbl := X.2.2.2.2.2.2.2.1
  have hbA : ¬ (fun q : Nat => s.heap.size ≤ q) b := Nat.not_le.mpr hbl
  have h_1 : vp_in (nI i + 1) L := by rw [nI_1]; exact vp_in_nI (by omega) (by omega)
  have h_2 : vp_in (nI i + 2) L := by rw [show (2 : Int32) = nI 2 from rfl, nI_add]; exact vp_in_nI (by omega) (by omega)
  refine lv_aload_n hx hb dL_law_480 rfl (lv_at hl 1 rfl) ?_
  refine lv_aload_n hx hb dL_law_481 rfl (lv_at hl 0 rfl) ?_
  refine lv_iload_n hx hb dL_law_482 rfl (lv_at hl 3 rfl) ?_
  refine lv_iconst (v := 1) hx hb dL_law_483 (by decide) ?_
  refine lv_iadd hx hb dL_law_484 ?_
  refine va_sld hx hb hX hbl hbA hS h_1 dL_law_485 ?_
  refine lv_if_eq (tgt := 493) hx hb dL_law_486 (by decide) (fun _ => ?_) (fun z => absurd hz z)
  refine lv_iconst (v := 0) hx hb dL_law_493 (by decide) ?_
  refine W.eq (g2 := F0 m 494 ls (((([.int (b2i false)] : List Value)).map (vq E.2.1)).reverse ++ .ref (E.2.1 0) :: [])) rfl ?_
  refine w_call (bb := 0) (as := [.int (b2i false)]) (rest := []) X hP hS hl.1 hcs dL_law_494 kX4_go lL_66 (by decide) rfl ⟨_, _, rfl⟩ rfl (Nat.le_of_ble_eq_true rfl) (by decide) (cx_go4 X0 (fun h1 X1 F1 H1 locs1 hP1 hS1 => ?_))
  refine W.eq (g2 := F0 m 497 ls [.int _]) rfl ?_
  refine lv_aload_n hx hb dL_law_497 rfl (lv_at hl 2 rfl) ?_
  refine lv_aload_n hx hb dL_law_498 rfl (lv_at hl 0 rfl) ?_
  refine lv_iload_n hx hb dL_law_499 rfl (lv_at hl 3 rfl) ?_
  refine lv_iconst (v := 1) hx hb dL_law_500 (by decide) ?_
  refine lv_iadd hx hb dL_law_501 ?_
  refine va_sld hx hb hX hbl hbA hS1 h_1 dL_law_502 ?_
  refine lv_if_eq (tgt := 510) hx hb dL_law_503 (by decide) (fun _ => ?_) (fun z => absurd hz z)
  refine lv_iconst (v := 0) hx hb dL_law_510 (by decide) ?_
  refine W.eq (g2 := F0 m 511 ls (((([.int (b2i false)] : List Value)).map (vq E.2.1)).reverse ++ .ref (E.2.1 15) :: [.int _])) rfl ?_
  refine w_call (bb := 15) (as := [.int (b2i false)]) (rest := [.int _]) X hP1 hS1 hl.1 hcs dL_law_511 kX5_go lL_70 (by decide) rfl ⟨_, _, rfl⟩ rfl (Nat.le_of_ble_eq_true rfl) (by decide) (cy_go (st := false) (Y0.frx F1) (fun h2 Y2 F2 H2 locs2 hP2 hS2 => ?_))
  refine W.eq (g2 := F0 m 514 ls [.int _, .int _]) rfl ?_
  exact lv_icmp_eq (tgt := 592) hx hb dL_law_514 (by decide) (fun _ => bk _ _ _ _ (X1.fry F2) Y2 hP2 hS2) (fun z => absurd rfl z)
theorem lc12_1 (X : LX p s m meth c b L xs E) (hl : lv_has ls 4 [(0, .ref b), (1, .ref (E.2.1 0)), (2, .ref (E.2.1 15)), (3, .int (nI i))]) (hi : i + 3 ≤ L) (hL : L ≤ 1536) (hcs : cells ≤ 600000 ∧ slots ≤ 7302250) (bk : BK p l e s m args below meth c cells slots Q E ls) (X0 : XI σ h) (Y0 : YI σ h) (hP : va_P E.1 vwCl (wl E h) H) (hS : va_S (fun q => s.heap.size ≤ q) s.heap H locs) (hz : ¬ xs (Int32.toNatClampNeg (nI i + 1)) = 0) : W p l e room_1 s m args below meth c H locs cells slots Q (F0 m 480 ls []) := by
  have hx := X.1
  have hb := X.2.1
  have hX := X.2.2.2.2.2.2.1
  have hbl := X.2.2.2.2.2.2.2.1
  have hbA : ¬ (fun q : Nat => s.heap.size ≤ q) b := Nat.not_le.mpr hbl
  have h_1 : vp_in (nI i + 1) L := by rw [nI_1]; exact vp_in_nI (by omega) (by omega)
  have h_2 : vp_in (nI i + 2) L := by rw [show (2 : Int32) = nI 2 from rfl, nI_add]; exact vp_in_nI (by omega) (by omega)
  refine lv_aload_n hx hb dL_law_480 rfl (lv_at hl 1 rfl) ?_
  refine lv_aload_n hx hb dL_law_481 rfl (lv_at hl 0 rfl) ?_
  refine lv_iload_n hx hb dL_law_482 rfl (lv_at hl 3 rfl) ?_
  refine lv_iconst (v := 1) hx hb dL_law_483 (by decide) ?_
  refine lv_iadd hx hb dL_law_484 ?_
  refine va_sld hx hb hX hbl hbA hS h_1 dL_law_485 ?_
  refine lv_if_eq (tgt := 493) hx hb dL_law_486 (by decide) (fun z => absurd z hz) (fun _ => ?_)
  refine lv_iconst (v := 1) hx hb dL_law_489 (by decide) ?_
  refine lv_goto (tgt := 494) hx hb dL_law_490 (by decide) ?_
  refine W.eq (g2 := F0 m 494 ls (((([.int (b2i true)] : List Value)).map (vq E.2.1)).reverse ++ .ref (E.2.1 0) :: [])) rfl ?_
  refine w_call (bb := 0) (as := [.int (b2i true)]) (rest := []) X hP hS hl.1 hcs dL_law_494 kX4_go lL_66 (by decide) rfl ⟨_, _, rfl⟩ rfl (Nat.le_of_ble_eq_true rfl) (by decide) (cx_go5 X0 (fun h1 X1 F1 H1 locs1 hP1 hS1 => ?_))
  refine W.eq (g2 := F0 m 497 ls [.int _]) rfl ?_
  refine lv_aload_n hx hb dL_law_497 rfl (lv_at hl 2 rfl) ?_
  refine lv_aload_n hx hb dL_law_498 rfl (lv_at hl 0 rfl) ?_
  refine lv_iload_n hx hb dL_law_499 rfl (lv_at hl 3 rfl) ?_
  refine lv_iconst (v := 1) hx hb dL_law_500 (by decide) ?_
  refine lv_iadd hx hb dL_law_501 ?_
  refine va_sld hx hb hX hbl hbA hS1 h_1 dL_law_502 ?_
  refine lv_if_eq (tgt := 510) hx hb dL_law_503 (by decide) (fun z => absurd z hz) (fun _ => ?_)
  refine lv_iconst (v := 1) hx hb dL_law_506 (by decide) ?_
  refine lv_goto (tgt := 511) hx hb dL_law_507 (by decide) ?_
  refine W.eq (g2 := F0 m 511 ls (((([.int (b2i true)] : List Value)).map (vq E.2.1)).reverse ++ .ref (E.2.1 15) :: [.int _])) rfl ?_
  refine w_call (bb := 15) (as := [.int (b2i true)]) (rest := [.int _]) X hP1 hS1 hl.1 hcs dL_law_511 kX5_go lL_70 (by decide) rfl ⟨_, _, rfl⟩ rfl (Nat.le_of_ble_eq_true rfl) (by decide) (cy_go (st := true) (Y0.frx F1) (fun h2 Y2 F2 H2 locs2 hP2 hS2 => ?_))
  refine W.eq (g2 := F0 m 514 ls [.int _, .int _]) rfl ?_
  exact lv_icmp_eq (tgt := 592) hx hb dL_law_514 (by decide) (fun _ => bk _ _ _ _ (X1.fry F2) Y2 hP2 hS2) (fun z => absurd rfl z)
theorem lc13 (X : LX p s m meth c b L xs E) (hl : lv_has ls 4 [(0, .ref b), (1, .ref (E.2.1 0)), (2, .ref (E.2.1 15)), (3, .int (nI i))]) (hi : i + 3 ≤ L) (hL : L ≤ 1536) (hcs : cells ≤ 600000 ∧ slots ≤ 7302250) (bk : BK p l e s m args below meth c cells slots Q E ls) (X0 : XI σ h) (Y0 : YI σ h) (hP : va_P E.1 vwCl (wl E h) H) (hS : va_S (fun q => s.heap.size ≤ q) s.heap H locs) : W p l e room_1 s m args below meth c H locs cells slots Q (F0 m 519 ls []) := by
  have hx := X.1
  have hb := X.2.1
  have hX := X.2.2.2.2.2.2.1
  have hbl := X.2.2.2.2.2.2.2.1
  have hbA : ¬ (fun q : Nat => s.heap.size ≤ q) b := Nat.not_le.mpr hbl
  have h_1 : vp_in (nI i + 1) L := by rw [nI_1]; exact vp_in_nI (by omega) (by omega)
  have h_2 : vp_in (nI i + 2) L := by rw [show (2 : Int32) = nI 2 from rfl, nI_add]; exact vp_in_nI (by omega) (by omega)
  refine lv_aload_n hx hb dL_law_519 rfl (lv_at hl 1 rfl) ?_
  refine lv_aload_n hx hb dL_law_520 rfl (lv_at hl 0 rfl) ?_
  refine lv_iload_n hx hb dL_law_521 rfl (lv_at hl 3 rfl) ?_
  refine lv_iconst (v := 1) hx hb dL_law_522 (by decide) ?_
  refine lv_iadd hx hb dL_law_523 ?_
  refine va_sld hx hb hX hbl hbA hS h_1 dL_law_524 ?_
  refine W.eq (g2 := F0 m 525 ls (((([.int (xs (Int32.toNatClampNeg (nI i + 1)))] : List Value)).map (vq E.2.1)).reverse ++ .ref (E.2.1 0) :: [])) rfl ?_
  refine w_call (bb := 0) (as := [.int (xs (Int32.toNatClampNeg (nI i + 1)))]) (rest := []) X hP hS hl.1 hcs dL_law_525 kX4_trade lL_71 (by decide) rfl ⟨_, _, rfl⟩ rfl (Nat.le_of_ble_eq_true rfl) (by decide) (cx_trade X0 (fun H1 locs1 hP1 hS1 => ?_))
  have F1 := FrX.rf h
  have X1 := X0
  refine W.eq (g2 := F0 m 528 ls [.int _]) rfl ?_
  refine lv_aload_n hx hb dL_law_528 rfl (lv_at hl 2 rfl) ?_
  refine lv_aload_n hx hb dL_law_529 rfl (lv_at hl 0 rfl) ?_
  refine lv_iload_n hx hb dL_law_530 rfl (lv_at hl 3 rfl) ?_
  refine lv_iconst (v := 1) hx hb dL_law_531 (by decide) ?_
  refine lv_iadd hx hb dL_law_532 ?_
  refine va_sld hx hb hX hbl hbA hS1 h_1 dL_law_533 ?_
  refine W.eq (g2 := F0 m 534 ls (((([.int (xs (Int32.toNatClampNeg (nI i + 1)))] : List Value)).map (vq E.2.1)).reverse ++ .ref (E.2.1 15) :: [.int _])) rfl ?_
  refine w_call (bb := 15) (as := [.int (xs (Int32.toNatClampNeg (nI i + 1)))]) (rest := [.int _]) X hP1 hS1 hl.1 hcs dL_law_534 kX5_trade lL_74 (by decide) rfl ⟨_, _, rfl⟩ rfl (Nat.le_of_ble_eq_true rfl) (by decide) (cy_trade (Y0.frx F1) (fun h2 Y2 F2 H2 locs2 hP2 hS2 => ?_))
  refine W.eq (g2 := F0 m 537 ls [.int _, .int _]) rfl ?_
  exact lv_icmp_eq (tgt := 592) hx hb dL_law_537 (by decide) (fun _ => bk _ _ _ _ (X1.fry F2) Y2 hP2 hS2) (fun z => absurd rfl z)
theorem lc14 (X : LX p s m meth c b L xs E) (hl : lv_has ls 4 [(0, .ref b), (1, .ref (E.2.1 0)), (2, .ref (E.2.1 15)), (3, .int (nI i))]) (hi : i + 3 ≤ L) (hL : L ≤ 1536) (hcs : cells ≤ 600000 ∧ slots ≤ 7302250) (bk : BK p l e s m args below meth c cells slots Q E ls) (X0 : XI σ h) (Y0 : YI σ h) (hP : va_P E.1 vwCl (wl E h) H) (hS : va_S (fun q => s.heap.size ≤ q) s.heap H locs) : W p l e room_1 s m args below meth c H locs cells slots Q (F0 m 542 ls []) := by
  have hx := X.1
  have hb := X.2.1
  have hX := X.2.2.2.2.2.2.1
  have hbl := X.2.2.2.2.2.2.2.1
  have hbA : ¬ (fun q : Nat => s.heap.size ≤ q) b := Nat.not_le.mpr hbl
  have h_1 : vp_in (nI i + 1) L := by rw [nI_1]; exact vp_in_nI (by omega) (by omega)
  have h_2 : vp_in (nI i + 2) L := by rw [show (2 : Int32) = nI 2 from rfl, nI_add]; exact vp_in_nI (by omega) (by omega)
  refine lv_aload_n hx hb dL_law_542 rfl (lv_at hl 1 rfl) ?_
  refine W.eq (g2 := F0 m 543 ls (((([] : List Value)).map (vq E.2.1)).reverse ++ .ref (E.2.1 0) :: [])) rfl ?_
  refine w_call (bb := 0) (as := []) (rest := []) X hP hS hl.1 hcs dL_law_543 kX4_relief lL_75 (by decide) rfl ⟨_, _, rfl⟩ rfl (Nat.le_of_ble_eq_true rfl) (by decide) (cx_relief X0 (fun H1 locs1 hP1 hS1 => ?_))
  have F1 := FrX.rf h
  have X1 := X0
  refine W.eq (g2 := F0 m 546 ls [.int _]) rfl ?_
  refine lv_aload_n hx hb dL_law_546 rfl (lv_at hl 2 rfl) ?_
  refine W.eq (g2 := F0 m 547 ls (((([] : List Value)).map (vq E.2.1)).reverse ++ .ref (E.2.1 15) :: [.int _])) rfl ?_
  refine w_call (bb := 15) (as := []) (rest := [.int _]) X hP1 hS1 hl.1 hcs dL_law_547 kX5_relief lL_78 (by decide) rfl ⟨_, _, rfl⟩ rfl (Nat.le_of_ble_eq_true rfl) (by decide) (cy_relief (Y0.frx F1) (fun h2 Y2 F2 H2 locs2 hP2 hS2 => ?_))
  refine W.eq (g2 := F0 m 550 ls [.int _, .int _]) rfl ?_
  exact lv_icmp_eq (tgt := 592) hx hb dL_law_550 (by decide) (fun _ => bk _ _ _ _ (X1.fry F2) Y2 hP2 hS2) (fun z => absurd rfl z)
theorem lc15 (X : LX p s m meth c b L xs E) (hl : lv_has ls 4 [(0, .ref b), (1, .ref (E.2.1 0)), (2, .ref (E.2.1 15)), (3, .int (nI i))]) (hi : i + 3 ≤ L) (hL : L ≤ 1536) (hcs : cells ≤ 600000 ∧ slots ≤ 7302250) (bk : BK p l e s m args below meth c cells slots Q E ls) (X0 : XI σ h) (Y0 : YI σ h) (hP : va_P E.1 vwCl (wl E h) H) (hS : va_S (fun q => s.heap.size ≤ q) s.heap H locs) : W p l e room_1 s m args below meth c H locs cells slots Q (F0 m 555 ls []) := by
  have hx := X.1
  have hb := X.2.1
  have hX := X.2.2.2.2.2.2.1
  have hbl := X.2.2.2.2.2.2.2.1
  have hbA : ¬ (fun q : Nat => s.heap.size ≤ q) b := Nat.not_le.mpr hbl
  have h_1 : vp_in (nI i + 1) L := by rw [nI_1]; exact vp_in_nI (by omega) (by omega)
  have h_2 : vp_in (nI i + 2) L := by rw [show (2 : Int32) = nI 2 from rfl, nI_add]; exact vp_in_nI (by omega) (by omega)
  refine lv_aload_n hx hb dL_law_555 rfl (lv_at hl 1 rfl) ?_
  refine lv_aload_n hx hb dL_law_556 rfl (lv_at hl 0 rfl) ?_
  refine lv_iload_n hx hb dL_law_557 rfl (lv_at hl 3 rfl) ?_
  refine lv_iconst (v := 1) hx hb dL_law_558 (by decide) ?_
  refine lv_iadd hx hb dL_law_559 ?_
  refine va_sld hx hb hX hbl hbA hS h_1 dL_law_560 ?_
  refine W.eq (g2 := F0 m 561 ls (((([.int (xs (Int32.toNatClampNeg (nI i + 1)))] : List Value)).map (vq E.2.1)).reverse ++ .ref (E.2.1 0) :: [])) rfl ?_
  refine w_call (bb := 0) (as := [.int (xs (Int32.toNatClampNeg (nI i + 1)))]) (rest := []) X hP hS hl.1 hcs dL_law_561 kX4_count lL_79 (by decide) rfl ⟨_, _, rfl⟩ rfl (Nat.le_of_ble_eq_true rfl) (by decide) (cx_count X0 (fun H1 locs1 hP1 hS1 => ?_))
  have F1 := FrX.rf h
  have X1 := X0
  refine W.eq (g2 := F0 m 564 ls [.int _]) rfl ?_
  refine lv_aload_n hx hb dL_law_564 rfl (lv_at hl 2 rfl) ?_
  refine lv_aload_n hx hb dL_law_565 rfl (lv_at hl 0 rfl) ?_
  refine lv_iload_n hx hb dL_law_566 rfl (lv_at hl 3 rfl) ?_
  refine lv_iconst (v := 1) hx hb dL_law_567 (by decide) ?_
  refine lv_iadd hx hb dL_law_568 ?_
  refine va_sld hx hb hX hbl hbA hS1 h_1 dL_law_569 ?_
  refine W.eq (g2 := F0 m 570 ls (((([.int (xs (Int32.toNatClampNeg (nI i + 1)))] : List Value)).map (vq E.2.1)).reverse ++ .ref (E.2.1 15) :: [.int _])) rfl ?_
  refine w_call (bb := 15) (as := [.int (xs (Int32.toNatClampNeg (nI i + 1)))]) (rest := [.int _]) X hP1 hS1 hl.1 hcs dL_law_570 kX5_count lL_82 (by decide) rfl ⟨_, _, rfl⟩ rfl (Nat.le_of_ble_eq_true rfl) (by decide) (cy_count (Y0.frx F1) (fun h2 Y2 F2 H2 locs2 hP2 hS2 => ?_))
  refine W.eq (g2 := F0 m 573 ls [.int _, .int _]) rfl ?_
  exact lv_icmp_eq (tgt := 592) hx hb dL_law_573 (by decide) (fun _ => bk _ _ _ _ (X1.fry F2) Y2 hP2 hS2) (fun z => absurd rfl z)
theorem lc16 (X : LX p s m meth c b L xs E) (hl : lv_has ls 4 [(0, .ref b), (1, .ref (E.2.1 0)), (2, .ref (E.2.1 15)), (3, .int (nI i))]) (hi : i + 3 ≤ L) (hL : L ≤ 1536) (hcs : cells ≤ 600000 ∧ slots ≤ 7302250) (bk : BK p l e s m args below meth c cells slots Q E ls) (X0 : XI σ h) (Y0 : YI σ h) (hP : va_P E.1 vwCl (wl E h) H) (hS : va_S (fun q => s.heap.size ≤ q) s.heap H locs) : W p l e room_1 s m args below meth c H locs cells slots Q (F0 m 578 ls []) := by
  have hx := X.1
  have hb := X.2.1
  have hX := X.2.2.2.2.2.2.1
  have hbl := X.2.2.2.2.2.2.2.1
  have hbA : ¬ (fun q : Nat => s.heap.size ≤ q) b := Nat.not_le.mpr hbl
  have h_1 : vp_in (nI i + 1) L := by rw [nI_1]; exact vp_in_nI (by omega) (by omega)
  have h_2 : vp_in (nI i + 2) L := by rw [show (2 : Int32) = nI 2 from rfl, nI_add]; exact vp_in_nI (by omega) (by omega)
  refine lv_aload_n hx hb dL_law_578 rfl (lv_at hl 1 rfl) ?_
  refine W.eq (g2 := F0 m 579 ls (((([] : List Value)).map (vq E.2.1)).reverse ++ .ref (E.2.1 0) :: [])) rfl ?_
  refine w_call (bb := 0) (as := []) (rest := []) X hP hS hl.1 hcs dL_law_579 kX4_digest lL_83 (by decide) rfl ⟨_, _, rfl⟩ rfl (Nat.le_of_ble_eq_true rfl) (by decide) (cx_digest X0 (fun h1 X1 F1 H1 locs1 hP1 hS1 => ?_))
  refine W.eq (g2 := F0 m 582 ls [.long _]) rfl ?_
  refine lv_aload_n hx hb dL_law_582 rfl (lv_at hl 2 rfl) ?_
  refine W.eq (g2 := F0 m 583 ls (((([] : List Value)).map (vq E.2.1)).reverse ++ .ref (E.2.1 15) :: [.long _])) rfl ?_
  refine w_call (bb := 15) (as := []) (rest := [.long _]) X hP1 hS1 hl.1 hcs dL_law_583 kX5_digest lL_87 (by decide) rfl ⟨_, _, rfl⟩ rfl (Nat.le_of_ble_eq_true rfl) (by decide) (cy_digest (Y0.frx F1) (fun h2 Y2 F2 H2 locs2 hP2 hS2 => ?_))
  refine W.eq (g2 := F0 m 586 ls [.long _, .long _]) rfl ?_
  refine W.lcmp hx hb dL_law_586 ?_
  rw [lcmp0]
  exact lv_if_eq (tgt := 592) hx hb dL_law_587 (by decide) (fun _ => bk _ _ _ _ (X1.fry F2) Y2 hP2 hS2) (fun z => absurd rfl z)
end LC
