/-! the law's loop -/
theorem law_loop {p : Program} {l : Launch} {e : Env} {s : State} {m : MethodId} {below : List Frame} {meth : Method} {c : Code} {cells slots : Nat} {b L : Nat} {xs : Nat → Int32} {E : EE} (X : LX p s m meth c b L xs E) (hL : L ≤ 1536) (hcs : cells ≤ 600000 ∧ slots ≤ 7302250) :
    ∀ n i, L - i ≤ n → i ≤ L → ∀ (σ : Ab) (h : PH) (H : Heap) (locs : List Loc) (ls : Array Slot), XI σ h → YI σ h → va_P E.1 vwCl (wl E h) H → va_S (fun q => s.heap.size ≤ q) s.heap H locs → lv_has ls 4 [(0, .ref b), (1, .ref (E.2.1 0)), (2, .ref (E.2.1 15)), (3, .int (nI i))] → W p l e room_1 s m #[Value.ref b] below meth c H locs cells slots (lw_Z below #[Value.ref b] s) (F0 m 18 ls []) := by
  have hx := X.1
  have hb := X.2.1
  have hr := X.2.2.1
  have hlocks := X.2.2.2.2.2.1
  have hX := X.2.2.2.2.2.2.1
  have hbl := X.2.2.2.2.2.2.2.1
  have hbA : ¬ (fun q : Nat => s.heap.size ≤ q) b := Nat.not_le.mpr hbl
  intro n
  induction n with
  | zero =>
    intro i hn hi σ h H locs ls X0 Y0 hP hS hl
    refine lv_iload_n hx hb dL_law_18 rfl (lv_at hl 3 rfl) ?_
    refine lv_aload_n hx hb dL_law_19 rfl (lv_at hl 0 rfl) ?_
    refine va_slen hx hb hX hbl hbA hS dL_law_20 ?_
    refine lv_iconst (v := 3) hx hb dL_law_21 (by decide) ?_
    refine lv_isub hx hb dL_law_22 ?_
    refine lv_icmp_gt (tgt := 598) hx hb dL_law_23 (by decide) (fun _ => ?_) (fun z => absurd ?_ z)
    · refine lv_iconst (v := 1) hx hb dL_law_598 (by decide) ?_
      exact va_forget hS.2.2 (W.widen hcs.1 hcs.2 (lw_ret hx hb hr hlocks dL_law_599))
    · show nI L - nI 3 < nI i
      rw [Int32.lt_iff_toInt_lt, pk_sub_toInt (by omega) (by omega), nI_toInt (by omega)]
      omega
  | succ n ih =>
    intro i hn hi σ h H locs ls X0 Y0 hP hS hl
    refine lv_iload_n hx hb dL_law_18 rfl (lv_at hl 3 rfl) ?_
    refine lv_aload_n hx hb dL_law_19 rfl (lv_at hl 0 rfl) ?_
    refine va_slen hx hb hX hbl hbA hS dL_law_20 ?_
    refine lv_iconst (v := 3) hx hb dL_law_21 (by decide) ?_
    refine lv_isub hx hb dL_law_22 ?_
    have cmp : nI L - nI 3 < nI i ↔ L < i + 3 := by
      rw [Int32.lt_iff_toInt_lt, pk_sub_toInt (by omega) (by omega), nI_toInt (by omega)]
      omega
    refine lv_icmp_gt (tgt := 598) hx hb dL_law_23 (by decide) (fun _ => ?_) (fun z => ?_)
    · refine lv_iconst (v := 1) hx hb dL_law_598 (by decide) ?_
      exact va_forget hS.2.2 (W.widen hcs.1 hcs.2 (lw_ret hx hb hr hlocks dL_law_599))
    · have z : ¬ nI L - nI 3 < nI i := z
      rw [cmp] at z
      have hi3 : i + 3 ≤ L := by omega
      have bk : BK p l e s m #[Value.ref b] below meth c cells slots (lw_Z below #[Value.ref b] s) E ls := by
        intro σ h H locs X0 Y0 hP hS
        refine lv_iinc (v := nI (i + 3)) (lv' := [(3, .int (nI (i + 3))), (0, .ref b), (1, .ref (E.2.1 0)), (2, .ref (E.2.1 15))]) hx hb dL_law_592 hl (k := 3) rfl (nI_add i 3) (by decide) rfl (fun ls hl => ?_)
        refine lv_goto (tgt := 18) hx hb dL_law_595 (by decide) ?_
        exact ih (i + 3) (by omega) (by omega) σ h H locs ls X0 Y0 hP hS (lv_sub hl [1, 2, 3, 0] rfl)
      refine lv_aload_n hx hb dL_law_26 rfl (lv_at hl 0 rfl) ?_
      refine lv_iload_n hx hb dL_law_27 rfl (lv_at hl 3 rfl) ?_
      refine va_sld hx hb hX hbl hbA hS (vp_in_nI (by omega) (by omega)) dL_law_28 ?_
      refine lv_bipush (v := 31) hx hb dL_law_29 (by decide) ?_
      refine lv_iand hx hb dL_law_31 ?_
      generalize xs (Int32.toNatClampNeg (nI i)) &&& 31 = v
      by_cases out : v.toInt < 0 ∨ 16 < v.toInt
      · exact lv_tableOut (tgt := 592) hx hb dL_law_32 out (by decide) (bk σ h H locs X0 Y0 hP hS)
      · rcases (show v.toInt = 0 ∨ v.toInt = 1 ∨ v.toInt = 2 ∨ v.toInt = 3 ∨ v.toInt = 4 ∨ v.toInt = 5 ∨ v.toInt = 6 ∨ v.toInt = 7 ∨ v.toInt = 8 ∨ v.toInt = 9 ∨ v.toInt = 10 ∨ v.toInt = 11 ∨ v.toInt = 12 ∨ v.toInt = 13 ∨ v.toInt = 14 ∨ v.toInt = 15 ∨ v.toInt = 16 by omega) with q | q | q | q | q | q | q | q | q | q | q | q | q | q | q | q | q
        · exact lv_tableIn (tgt := 116) (off := 84) hx hb dL_law_32 (by rw [q]; decide) (by rw [q]; decide) (by rw [q]; rfl) (by decide) (lc0 X hl hi3 hL hcs bk X0 Y0 hP hS)
        · exact lv_tableIn (tgt := 139) (off := 107) hx hb dL_law_32 (by rw [q]; decide) (by rw [q]; decide) (by rw [q]; rfl) (by decide) (lc1 X hl hi3 hL hcs bk X0 Y0 hP hS)
        · exact lv_tableIn (tgt := 152) (off := 120) hx hb dL_law_32 (by rw [q]; decide) (by rw [q]; decide) (by rw [q]; rfl) (by decide) (lc2 X hl hi3 hL hcs bk X0 Y0 hP hS)
        · exact lv_tableIn (tgt := 165) (off := 133) hx hb dL_law_32 (by rw [q]; decide) (by rw [q]; decide) (by rw [q]; rfl) (by decide) (lc3 X hl hi3 hL hcs bk X0 Y0 hP hS)
        · exact lv_tableIn (tgt := 178) (off := 146) hx hb dL_law_32 (by rw [q]; decide) (by rw [q]; decide) (by rw [q]; rfl) (by decide) (lc4 X hl hi3 hL hcs bk X0 Y0 hP hS)
        · exact lv_tableIn (tgt := 211) (off := 179) hx hb dL_law_32 (by rw [q]; decide) (by rw [q]; decide) (by rw [q]; rfl) (by decide) (lc5 X hl hi3 hL hcs bk X0 Y0 hP hS)
        · exact lv_tableIn (tgt := 234) (off := 202) hx hb dL_law_32 (by rw [q]; decide) (by rw [q]; decide) (by rw [q]; rfl) (by decide) (if hz : xs (Int32.toNatClampNeg (nI i + 2)) = 0 then lc6_0 X hl hi3 hL hcs bk X0 Y0 hP hS hz else lc6_1 X hl hi3 hL hcs bk X0 Y0 hP hS hz)
        · exact lv_tableIn (tgt := 283) (off := 251) hx hb dL_law_32 (by rw [q]; decide) (by rw [q]; decide) (by rw [q]; rfl) (by decide) (lc7 X hl hi3 hL hcs bk X0 Y0 hP hS)
        · exact lv_tableIn (tgt := 316) (off := 284) hx hb dL_law_32 (by rw [q]; decide) (by rw [q]; decide) (by rw [q]; rfl) (by decide) (lc8 X hl hi3 hL hcs bk X0 Y0 hP hS)
        · exact lv_tableIn (tgt := 349) (off := 317) hx hb dL_law_32 (by rw [q]; decide) (by rw [q]; decide) (by rw [q]; rfl) (by decide) (lc9 X hl hi3 hL hcs bk X0 Y0 hP hS)
        · exact lv_tableIn (tgt := 382) (off := 350) hx hb dL_law_32 (by rw [q]; decide) (by rw [q]; decide) (by rw [q]; rfl) (by decide) (if hz : xs (Int32.toNatClampNeg (nI i + 1)) = 0 then lc10_0 X hl hi3 hL hcs bk X0 Y0 hP hS hz else lc10_1 X hl hi3 hL hcs bk X0 Y0 hP hS hz)
        · exact lv_tableIn (tgt := 431) (off := 399) hx hb dL_law_32 (by rw [q]; decide) (by rw [q]; decide) (by rw [q]; rfl) (by decide) (if hz : xs (Int32.toNatClampNeg (nI i + 1)) = 0 then lc11_0 X hl hi3 hL hcs bk X0 Y0 hP hS hz else lc11_1 X hl hi3 hL hcs bk X0 Y0 hP hS hz)
        · exact lv_tableIn (tgt := 480) (off := 448) hx hb dL_law_32 (by rw [q]; decide) (by rw [q]; decide) (by rw [q]; rfl) (by decide) (if hz : xs (Int32.toNatClampNeg (nI i + 1)) = 0 then lc12_0 X hl hi3 hL hcs bk X0 Y0 hP hS hz else lc12_1 X hl hi3 hL hcs bk X0 Y0 hP hS hz)
        · exact lv_tableIn (tgt := 519) (off := 487) hx hb dL_law_32 (by rw [q]; decide) (by rw [q]; decide) (by rw [q]; rfl) (by decide) (lc13 X hl hi3 hL hcs bk X0 Y0 hP hS)
        · exact lv_tableIn (tgt := 542) (off := 510) hx hb dL_law_32 (by rw [q]; decide) (by rw [q]; decide) (by rw [q]; rfl) (by decide) (lc14 X hl hi3 hL hcs bk X0 Y0 hP hS)
        · exact lv_tableIn (tgt := 555) (off := 523) hx hb dL_law_32 (by rw [q]; decide) (by rw [q]; decide) (by rw [q]; rfl) (by decide) (lc15 X hl hi3 hL hcs bk X0 Y0 hP hS)
        · exact lv_tableIn (tgt := 578) (off := 546) hx hb dL_law_32 (by rw [q]; decide) (by rw [q]; decide) (by rw [q]; rfl) (by decide) (lc16 X hl hi3 hL hcs bk X0 Y0 hP hS)
theorem arr_of {s : State} {args : Array Value} {ty : FieldType} (ht : ∀ C, ty ≠ .object C) (h : (Cond.arrayClass ty).before args s = true) : ∃ cA : ClassId, ArrOfT s cA ty ∧ va_RA s cA ty := by
  obtain ⟨cA, kA, comp, h1, h2, h3⟩ := Cond.arrayClass_spec h
  refine ⟨cA, fun n z => ⟨fun k h => (by cases h), kA, h2, comp, h3⟩, ?_⟩
  cases ty with
  | object C => exact absurd rfl (ht C)
  | _ => exact h1
theorem steps_of {s : State} {args : Array Value} (hgv : (Jvm.Cond.and given_1 narrow_1).before args s = true) (hl : (Cond.laysStatic "AimDesk" "STEPS" "[I").before args s = true) (hi : (Cond.initialized "AimDesk").before args s = true) :
    ∃ t : Nat, va_Z "AimDesk" "STEPS" "[I" (.ref t) (fun q => s.heap.size ≤ q) s s.heap ∧ va_T .int t 5 (fun j => .int (stp5 j)) (fun q => s.heap.size ≤ q) s s.heap := by
  have hs := flat_of_before _ hgv
  have hA : ∀ a : Nat, a < s.heap.size → ¬ (fun q => s.heap.size ≤ q) a := fun a h => Nat.not_le.mpr h
  obtain ⟨t, h1, h2⟩ := va_Tof (tm := .static "AimDesk" "STEPS" "[I") (ty := .int) (N := 5) (f := fun j => .int (stp5 j)) (A := fun q => s.heap.size ≤ q) (by decide) (hs (Cond.arrayOf (.static "AimDesk" "STEPS" "[I") .int) (by decide +kernel)) (va_eqt (hs (Cond.eq (.length (.static "AimDesk" "STEPS" "[I")) (.int 5)) (by decide +kernel))) (fun j hj => by
    rcases cases5 hj with rfl | rfl | rfl | rfl | rfl
    · exact va_eqt (hs (Cond.eq (.elem (.static "AimDesk" "STEPS" "[I") (.int 0)) (.int 1)) (by decide +kernel))
    · exact va_eqt (hs (Cond.eq (.elem (.static "AimDesk" "STEPS" "[I") (.int 1)) (.int 5)) (by decide +kernel))
    · exact va_eqt (hs (Cond.eq (.elem (.static "AimDesk" "STEPS" "[I") (.int 2)) (.int 25)) (by decide +kernel))
    · exact va_eqt (hs (Cond.eq (.elem (.static "AimDesk" "STEPS" "[I") (.int 3)) (.int 125)) (by decide +kernel))
    · exact va_eqt (hs (Cond.eq (.elem (.static "AimDesk" "STEPS" "[I") (.int 4)) (.int 625)) (by decide +kernel))) hA
  exact ⟨t, va_Zof hl hi h1 hA, h2⟩
set_option maxHeartbeats 4000000 in
set_option maxRecDepth 100000 in
theorem law_ck {s : State} {args : Array Value} (hts : ∀ w ∈ lw_tbl, w.before args s = true) : ∃ K : CE, CK K s ∧ K.2.2.2 = fun q => s.heap.size ≤ q := by
  obtain ⟨c0, i0, k0⟩ := u_known (C := RX0) (T := TX0) (N := 2) (n := 2) hts (fun w hw => (cf0.2.1 w hw).1) (hts (.instantiable RX0 2) (List.mem_of_getElem? (i := 90) (by decide +kernel)))
  obtain ⟨c1, i1, k1⟩ := u_known (C := RX1) (T := TX1) (N := 7) (n := 7) hts (fun w hw => (cf1.2.1 w hw).1) (hts (.instantiable RX1 7) (List.mem_of_getElem? (i := 164) (by decide +kernel)))
  obtain ⟨c2, i2, k2⟩ := u_known (C := RX2) (T := TX2) (N := 3) (n := 3) hts (fun w hw => (cf2.2.1 w hw).1) (hts (.instantiable RX2 3) (List.mem_of_getElem? (i := 158) (by decide +kernel)))
  obtain ⟨c3, i3, k3⟩ := u_known (C := RX3) (T := TX3) (N := 11) (n := 11) hts (fun w hw => (cf3.2.1 w hw).1) (hts (.instantiable RX3 11) (List.mem_of_getElem? (i := 106) (by decide +kernel)))
  obtain ⟨c4, i4, k4⟩ := u_known (C := RX4) (T := TX4) (N := 5) (n := 5) hts (fun w hw => (cf4.2.1 w hw).1) (hts (.instantiable RX4 5) (List.mem_of_getElem? (i := 82) (by decide +kernel)))
  obtain ⟨c5, i5, k5⟩ := u_known (C := RX5) (T := TX5) (N := 24) (n := 24) hts (fun w hw => (cf5.2.1 w hw).1) (hts (.instantiable RX5 24) (List.mem_of_getElem? (i := 517) (by decide +kernel)))
  obtain ⟨cI, hI1, hI2⟩ := arr_of (ty := .int) (fun C h => by cases h) (hts _ arrI)
  obtain ⟨cZ, hZ1, hZ2⟩ := arr_of (ty := .boolean) (fun C h => by cases h) (hts _ arrZ)
  refine ⟨((fun k => match k with | 0 => c0 | 1 => c1 | 2 => c2 | 3 => c3 | 4 => c4 | _ => c5, fun k => match k with | 0 => i0 | 1 => i1 | 2 => i2 | 3 => i3 | 4 => i4 | _ => i5), cI, cZ, fun q => s.heap.size ≤ q), ⟨fun w hw hk => va_Nw.of (okw_tabs hk) (hts w hw), ⟨fun k q hq => ?_, fun k q hq => ?_⟩, fun _ => hts _ arrI, fun _ => hts _ arrZ⟩, rfl⟩
  · match k, hq with
    | 0, hq => cases hq; exact k0
    | 1, hq => cases hq; exact k1
    | 2, hq => cases hq; exact k2
    | 3, hq => cases hq; exact k3
    | 4, hq => cases hq; exact k4
    | 5, hq => cases hq; exact k5
    | k + 6, hq => simp [vwCl] at hq
  · match k, hq with
    | 0, hq => cases hq; exact ⟨hI1, hI2⟩
    | 1, hq => cases hq; exact ⟨hZ1, hZ2⟩
    | k + 2, hq => simp at hq
set_option maxHeartbeats 4000000 in
set_option maxRecDepth 100000 in
/-- THE LAW, from its entry -/
theorem whole_start {p : Program} {e : Env} {s : State} {m : MethodId} {below : List Frame} {meth : Method} {c : Code} (l : Launch) (hflags : l.flags = flags0) {b L : Nat} {xs : Nat → Int32} (hL : L ≤ 1536) (C0 : lw_At p s m meth c b L xs) : W p l e room_1 s m #[Value.ref b] below meth c s.heap [] 0 0 (lw_Z below #[Value.ref b] s) (entryFrame m ([Value.ref b] : List Value).toArray 4) := by
  obtain ⟨hx, hb, hr, hml, hown, hts, hX, hbl, hlocks, hgv⟩ := id C0
  have hown : s.vm.findClass RL = some m.cls := hown
  obtain ⟨K, hK, hKA⟩ := law_ck hts
  have hA : ∀ q : Nat, s.heap.size ≤ q → K.2.2.2 q := fun q h => by rw [hKA]; exact h
  obtain ⟨t, hZ, hT⟩ := steps_of hgv (hts _ (List.mem_of_getElem? (i := 392) (by decide +kernel))) (hts _ (List.mem_of_getElem? (i := 72) (by decide +kernel)))
  have hS : va_S K.2.2.2 s.heap s.heap [] := va_S.rf
  have hP : va_P K.1 vwCl (([] : va_W) ++ []) s.heap := fun k q h => by simp at h
  have hD : va_D K.2.2.2 (([] : va_W) ++ []) := ⟨fun i j p q h => by simp at h, fun k q h => by simp at h⟩
  have hl := lv_entry ([.ref b]) (n := 4) (Nat.le_of_ble_eq_true rfl)
  rw [lg_entry_eq]
  generalize (lg_sl ([.ref b]) ++ List.replicate (4 - (lg_sl ([.ref b])).length) Slot.unset).toArray = ls at hl ⊢
  have hl : lv_has ls 4 [(0, .ref b)] := hl
  refine w_new (fs := [.null, .null, .null, .int 0, .int 0]) hx hb hown hK hA hP hD hS cf4 tyX4 tyX4_ok (List.mem_of_getElem? (i := 81) (by decide +kernel)) (List.mem_of_getElem? (i := 82) (by decide +kernel)) (List.mem_of_getElem? (i := 72) (by decide +kernel)) (fun j hj => by rcases (show j = 0 ∨ j = 1 ∨ j = 2 ∨ j = 3 ∨ j = 4 by omega) with rfl | rfl | rfl | rfl | rfl <;> rfl) (Nat.le_of_ble_eq_true rfl) (Nat.le_of_ble_eq_true rfl) dL_law_0 (fun x H hP hD hS => ?_)
  refine lv_dup hx hb dL_law_3 rfl ?_
  refine w_init (own := RL) (nL := 4) (rest := [.ref x]) (as := []) hx hb hml hl.1 hown hK hA hP hD hS kX4_init iX4_init rfl rfl liL_9 rfl (Nat.le_of_ble_eq_true rfl) ⟨Nat.le_of_ble_eq_true rfl, Nat.le_of_ble_eq_true rfl⟩ ⟨Nat.le_of_ble_eq_true rfl, Nat.le_of_ble_eq_true rfl⟩ dL_law_4 (n_X4 K [] x) (fun ws1 H locs hq hP hD hS => ?_)
  obtain ⟨q0, q1, q2, q3, q4, q5, q6, q7, q8, q9, q10, q11, q12, q13, rfl⟩ := hq
  have hP : va_P K.1 vwCl ([(x, .inr (4, [.ref q0, .ref q2, .ref q8, .int 0, .int 0])), (q0, .inr (0, [.ref q1, .int 0])), (q1, .inl (K.2.1, 21, .inl (fun _ => 0))), (q2, .inr (3, [.int 0, .int 0, .int 0, .int 0, .int 0, .int 0, .ref q3, .ref q4, .ref q5, .ref q6, .ref q7])), (q3, .inl (K.2.1, 5, .inl (fun _ => 0))), (q4, .inl (K.2.1, 5, .inl (fun _ => 0))), (q5, .inl (K.2.1, 5, .inl (fun _ => 0))), (q6, .inl (K.2.1, 20, .inl (fun _ => 0))), (q7, .inl (K.2.1, 4, .inl (fun _ => 0))), (q8, .inr (2, [.ref q9, .ref q11, .ref q13])), (q9, .inr (1, [.int 0, .ref q10, .int 0, .int 0, .int 0, .int 0, .int 0])), (q10, .inl (K.2.1, 15, .inl (fun _ => 0))), (q11, .inr (1, [.int 1, .ref q12, .int 0, .int 0, .int 0, .int 0, .int 0])), (q12, .inl (K.2.1, 15, .inl (fun _ => 0))), (q13, .inl (K.2.1, 3125, .inl (fun _ => 0)))] ++ []) H := hP
  have hD : va_D K.2.2.2 ([(x, .inr (4, [.ref q0, .ref q2, .ref q8, .int 0, .int 0])), (q0, .inr (0, [.ref q1, .int 0])), (q1, .inl (K.2.1, 21, .inl (fun _ => 0))), (q2, .inr (3, [.int 0, .int 0, .int 0, .int 0, .int 0, .int 0, .ref q3, .ref q4, .ref q5, .ref q6, .ref q7])), (q3, .inl (K.2.1, 5, .inl (fun _ => 0))), (q4, .inl (K.2.1, 5, .inl (fun _ => 0))), (q5, .inl (K.2.1, 5, .inl (fun _ => 0))), (q6, .inl (K.2.1, 20, .inl (fun _ => 0))), (q7, .inl (K.2.1, 4, .inl (fun _ => 0))), (q8, .inr (2, [.ref q9, .ref q11, .ref q13])), (q9, .inr (1, [.int 0, .ref q10, .int 0, .int 0, .int 0, .int 0, .int 0])), (q10, .inl (K.2.1, 15, .inl (fun _ => 0))), (q11, .inr (1, [.int 1, .ref q12, .int 0, .int 0, .int 0, .int 0, .int 0])), (q12, .inl (K.2.1, 15, .inl (fun _ => 0))), (q13, .inl (K.2.1, 3125, .inl (fun _ => 0)))] ++ []) := hD
  refine lv_astore_n (lv' := [(1, .ref x), (0, .ref b)]) hx hb dL_law_7 rfl hl (by decide) rfl (fun ls hl => ?_)
  refine w_new (fs := [.int 0, .null, .int 0, .int 0, .null, .null, .null, .null, .int 0, .int 0, .int 0, .int 0, .null, .null, .null, .int 0, .int 0, .null, .int 0, .null, .int 0, .int 0, .int 0, .long 0]) hx hb hown hK hA hP hD hS cf5 tyX5 tyX5_ok (List.mem_of_getElem? (i := 516) (by decide +kernel)) (List.mem_of_getElem? (i := 517) (by decide +kernel)) (List.mem_of_getElem? (i := 77) (by decide +kernel)) (fun j hj => by rcases (show j = 0 ∨ j = 1 ∨ j = 2 ∨ j = 3 ∨ j = 4 ∨ j = 5 ∨ j = 6 ∨ j = 7 ∨ j = 8 ∨ j = 9 ∨ j = 10 ∨ j = 11 ∨ j = 12 ∨ j = 13 ∨ j = 14 ∨ j = 15 ∨ j = 16 ∨ j = 17 ∨ j = 18 ∨ j = 19 ∨ j = 20 ∨ j = 21 ∨ j = 22 ∨ j = 23 by omega) with rfl | rfl | rfl | rfl | rfl | rfl | rfl | rfl | rfl | rfl | rfl | rfl | rfl | rfl | rfl | rfl | rfl | rfl | rfl | rfl | rfl | rfl | rfl | rfl <;> rfl) (Nat.le_of_ble_eq_true rfl) (Nat.le_of_ble_eq_true rfl) dL_law_8 (fun y H hP hD hS => ?_)
  have hP : va_P K.1 vwCl ([(x, .inr (4, [.ref q0, .ref q2, .ref q8, .int 0, .int 0])), (q0, .inr (0, [.ref q1, .int 0])), (q1, .inl (K.2.1, 21, .inl (fun _ => 0))), (q2, .inr (3, [.int 0, .int 0, .int 0, .int 0, .int 0, .int 0, .ref q3, .ref q4, .ref q5, .ref q6, .ref q7])), (q3, .inl (K.2.1, 5, .inl (fun _ => 0))), (q4, .inl (K.2.1, 5, .inl (fun _ => 0))), (q5, .inl (K.2.1, 5, .inl (fun _ => 0))), (q6, .inl (K.2.1, 20, .inl (fun _ => 0))), (q7, .inl (K.2.1, 4, .inl (fun _ => 0))), (q8, .inr (2, [.ref q9, .ref q11, .ref q13])), (q9, .inr (1, [.int 0, .ref q10, .int 0, .int 0, .int 0, .int 0, .int 0])), (q10, .inl (K.2.1, 15, .inl (fun _ => 0))), (q11, .inr (1, [.int 1, .ref q12, .int 0, .int 0, .int 0, .int 0, .int 0])), (q12, .inl (K.2.1, 15, .inl (fun _ => 0))), (q13, .inl (K.2.1, 3125, .inl (fun _ => 0)))] ++ [(y, .inr (5, [.int 0, .null, .int 0, .int 0, .null, .null, .null, .null, .int 0, .int 0, .int 0, .int 0, .null, .null, .null, .int 0, .int 0, .null, .int 0, .null, .int 0, .int 0, .int 0, .long 0]))]) H := hP
  have hD : va_D K.2.2.2 ([(x, .inr (4, [.ref q0, .ref q2, .ref q8, .int 0, .int 0])), (q0, .inr (0, [.ref q1, .int 0])), (q1, .inl (K.2.1, 21, .inl (fun _ => 0))), (q2, .inr (3, [.int 0, .int 0, .int 0, .int 0, .int 0, .int 0, .ref q3, .ref q4, .ref q5, .ref q6, .ref q7])), (q3, .inl (K.2.1, 5, .inl (fun _ => 0))), (q4, .inl (K.2.1, 5, .inl (fun _ => 0))), (q5, .inl (K.2.1, 5, .inl (fun _ => 0))), (q6, .inl (K.2.1, 20, .inl (fun _ => 0))), (q7, .inl (K.2.1, 4, .inl (fun _ => 0))), (q8, .inr (2, [.ref q9, .ref q11, .ref q13])), (q9, .inr (1, [.int 0, .ref q10, .int 0, .int 0, .int 0, .int 0, .int 0])), (q10, .inl (K.2.1, 15, .inl (fun _ => 0))), (q11, .inr (1, [.int 1, .ref q12, .int 0, .int 0, .int 0, .int 0, .int 0])), (q12, .inl (K.2.1, 15, .inl (fun _ => 0))), (q13, .inl (K.2.1, 3125, .inl (fun _ => 0)))] ++ [(y, .inr (5, [.int 0, .null, .int 0, .int 0, .null, .null, .null, .null, .int 0, .int 0, .int 0, .int 0, .null, .null, .null, .int 0, .int 0, .null, .int 0, .null, .int 0, .int 0, .int 0, .long 0]))]) := hD
  refine lv_dup hx hb dL_law_11 rfl ?_
  refine w_init (own := RL) (nL := 4) (rest := [.ref y]) (as := []) hx hb hml hl.1 hown hK hA hP hD hS kX5_init iX5_init rfl rfl liL_12 rfl (Nat.le_of_ble_eq_true rfl) ⟨Nat.le_of_ble_eq_true rfl, Nat.le_of_ble_eq_true rfl⟩ ⟨Nat.le_of_ble_eq_true rfl, Nat.le_of_ble_eq_true rfl⟩ dL_law_12 (n_X5 K [(x, .inr (4, [.ref q0, .ref q2, .ref q8, .int 0, .int 0])), (q0, .inr (0, [.ref q1, .int 0])), (q1, .inl (K.2.1, 21, .inl (fun _ => 0))), (q2, .inr (3, [.int 0, .int 0, .int 0, .int 0, .int 0, .int 0, .ref q3, .ref q4, .ref q5, .ref q6, .ref q7])), (q3, .inl (K.2.1, 5, .inl (fun _ => 0))), (q4, .inl (K.2.1, 5, .inl (fun _ => 0))), (q5, .inl (K.2.1, 5, .inl (fun _ => 0))), (q6, .inl (K.2.1, 20, .inl (fun _ => 0))), (q7, .inl (K.2.1, 4, .inl (fun _ => 0))), (q8, .inr (2, [.ref q9, .ref q11, .ref q13])), (q9, .inr (1, [.int 0, .ref q10, .int 0, .int 0, .int 0, .int 0, .int 0])), (q10, .inl (K.2.1, 15, .inl (fun _ => 0))), (q11, .inr (1, [.int 1, .ref q12, .int 0, .int 0, .int 0, .int 0, .int 0])), (q12, .inl (K.2.1, 15, .inl (fun _ => 0))), (q13, .inl (K.2.1, 3125, .inl (fun _ => 0)))] y) (fun ws1 H locs hq hP hD hS => ?_)
  obtain ⟨r0, r1, r2, r3, r4, r5, r6, r7, r8, r9, rfl⟩ := hq
  obtain ⟨E, E1, E2, E3, E4, E5, E6, hinj, hPE, hAE⟩ := world0 (K := K) (H := H) t x q0 q1 q2 q3 q4 q5 q6 q7 q8 q9 q10 q11 q12 q13 y r0 r1 r2 r3 r4 r5 r6 r7 r8 r9 hP hD
  rw [hKA] at hS hAE
  have hKx : Kx E s := ⟨hK.1, by rw [E1]; show va_K K.1 vwCl [(E.2.2.1, .int), (E.2.2.2, .boolean)] s; rw [E2, E3]; exact hK.2.1, hinj⟩
  have hRd : Rd E s s.heap := ⟨by rw [E6]; exact hZ.narrow hAE, by rw [E6]; exact hT.narrow hAE⟩
  have XL : LX p s m meth c b L xs E := ⟨hx, hb, hr, hml, hown, hlocks, hX, hbl, hKx, hRd, hAE⟩
  refine lv_astore_n (lv' := [(2, .ref y), (1, .ref x), (0, .ref b)]) hx hb dL_law_15 rfl hl (by decide) rfl (fun ls hl => ?_)
  refine lv_iconst (v := 0) hx hb dL_law_16 (by decide) ?_
  refine lv_istore_n (lv' := [(3, .int 0), (2, .ref y), (1, .ref x), (0, .ref b)]) hx hb dL_law_17 rfl hl (by decide) rfl (fun ls hl => ?_)
  exact law_loop XL hL ⟨Nat.le_of_ble_eq_true rfl, Nat.le_of_ble_eq_true rfl⟩ L 0 (by omega) (Nat.zero_le _) ab0 hp0 H locs ls xi0 yi0 hPE hS (by rw [E4, E5]; exact lv_sub hl [3, 2, 1, 0] rfl)
