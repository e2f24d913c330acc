theorem sX0_append_0 {post : Option Value → PH → Prop} {h : PH} {x1 : Int32} (k1 : 21 ≤ (h.1 1 1) → G 0 mX0_append post 32 [none, none] [] h) (k2 : ¬ 21 ≤ (h.1 1 1) → G 0 mX0_append post 12 [some (.ref 1), some (.int x1)] [] h) : G 0 mX0_append post 0 [some (.ref 1), some (.int x1)] [] h := by
  refine g_aload_n dX0_append_0 rfl ?_
  refine g_getfield (kd := 0) (v := .int (h.1 1 1)) dX0_append_1 fX0_15 (by decide) rfl rfl rfl rfl ?_
  refine g_aload_n dX0_append_4 rfl ?_
  refine g_getfield (kd := 8) (v := .ref 6) dX0_append_5 fX0_9 (by decide) rfl rfl rfl rfl ?_
  refine g_arraylength (n := 21) dX0_append_8 (by decide) rfl rfl rfl ?_
  exact g_icmp_ge (tgt := 32) dX0_append_9 (by decide) (fun hc => by refine g_forget (mask := [false, false]) (L' := [none, none]) rfl ?_; exact k1 hc) (fun hc => k2 hc)
theorem sX0_append_32 {post : Option Value → PH → Prop} {h : PH} (k : post none h) : G 0 mX0_append post 32 [none, none] [] h := by
  exact g_return dX0_append_32 rfl k
theorem sX0_append_12 {post : Option Value → PH → Prop} {h : PH} {x1 : Int32} (hb1 : vp_in (h.1 1 1) 21) (k : post none ((upd2 (upd2 h.1 6 (Int32.toNatClampNeg (h.1 1 1)) x1) 1 1 ((h.1 1 1) + 1)), h.2)) : G 0 mX0_append post 12 [some (.ref 1), some (.int x1)] [] h := by
  refine g_aload_n dX0_append_12 rfl ?_
  refine g_getfield (kd := 8) (v := .ref 6) dX0_append_13 fX0_9 (by decide) rfl rfl rfl rfl ?_
  refine g_aload_n dX0_append_16 rfl ?_
  refine g_getfield (kd := 0) (v := .int (h.1 1 1)) dX0_append_17 fX0_15 (by decide) rfl rfl rfl rfl ?_
  refine g_iload_n dX0_append_20 rfl ?_
  refine g_iastore (n := 21) dX0_append_21 (by decide) rfl rfl rfl hb1 ?_
  refine g_aload_n dX0_append_22 rfl ?_
  refine g_dup dX0_append_23 rfl ?_
  refine g_getfield (kd := 0) (v := .int (h.1 1 1)) dX0_append_24 fX0_15 (by decide) rfl rfl rfl rfl ?_
  refine g_iconst (v := 1) dX0_append_27 rfl ?_
  refine g_iadd dX0_append_28 ?_
  refine g_putfield dX0_append_29 fX0_15 (by decide) rfl rfl rfl rfl rfl ?_
  exact g_return dX0_append_32 rfl k
theorem sX0_codeAt_0 {post : Option Value → PH → Prop} {h : PH} {x1 : Int32} (k1 : x1 < 0 → G 0 mX0_codeAt post 21 [none, none] [] h) (k2 : ¬ x1 < 0 → G 0 mX0_codeAt post 4 [some (.ref 1), some (.int x1)] [] h) : G 0 mX0_codeAt post 0 [some (.ref 1), some (.int x1)] [] h := by
  refine g_iload_n dX0_codeAt_0 rfl ?_
  exact g_if_lt (tgt := 21) dX0_codeAt_1 (by decide) (fun hc => by refine g_forget (mask := [false, false]) (L' := [none, none]) rfl ?_; exact k1 hc) (fun hc => k2 hc)
theorem sX0_codeAt_21 {post : Option Value → PH → Prop} {h : PH} (k : post (some (.int (-1001))) h) : G 0 mX0_codeAt post 21 [none, none] [] h := by
  refine g_sipush (v := (-1001)) dX0_codeAt_21 rfl ?_
  exact g_ireturn (ty := .int) dX0_codeAt_24 rfl rfl k
theorem sX0_codeAt_4 {post : Option Value → PH → Prop} {h : PH} {x1 : Int32} (k1 : (h.1 1 1) ≤ x1 → G 0 mX0_codeAt post 21 [none, none] [] h) (k2 : ¬ (h.1 1 1) ≤ x1 → G 0 mX0_codeAt post 12 [some (.ref 1), some (.int x1)] [] h) : G 0 mX0_codeAt post 4 [some (.ref 1), some (.int x1)] [] h := by
  refine g_iload_n dX0_codeAt_4 rfl ?_
  refine g_aload_n dX0_codeAt_5 rfl ?_
  refine g_getfield (kd := 0) (v := .int (h.1 1 1)) dX0_codeAt_6 fX0_15 (by decide) rfl rfl rfl rfl ?_
  exact g_icmp_ge (tgt := 21) dX0_codeAt_9 (by decide) (fun hc => by refine g_forget (mask := [false, false]) (L' := [none, none]) rfl ?_; exact k1 hc) (fun hc => k2 hc)
theorem sX0_codeAt_12 {post : Option Value → PH → Prop} {h : PH} {x1 : Int32} (hb1 : vp_in x1 21) (k : post (some (.int (h.1 6 (Int32.toNatClampNeg x1)))) h) : G 0 mX0_codeAt post 12 [some (.ref 1), some (.int x1)] [] h := by
  refine g_aload_n dX0_codeAt_12 rfl ?_
  refine g_getfield (kd := 8) (v := .ref 6) dX0_codeAt_13 fX0_9 (by decide) rfl rfl rfl rfl ?_
  refine g_iload_n dX0_codeAt_16 rfl ?_
  refine g_iaload (n := 21) dX0_codeAt_17 (by decide) rfl rfl rfl hb1 ?_
  refine g_goto (tgt := 24) dX0_codeAt_18 (by decide) ?_
  exact g_ireturn (ty := .int) dX0_codeAt_24 rfl rfl k
theorem sX0_figureAt_0 {post : Option Value → PH → Prop} {h : PH} {x1 : Int32} (k : Ev 0 mX0_codeAt [.ref 1, .int x1] h (fun r h' => G 1 mX0_figureAt post 5 [none, none] (r.toList ++ []) h')) : G 1 mX0_figureAt post 0 [some (.ref 1), some (.int x1)] [] h := by
  refine g_aload_n dX0_figureAt_0 rfl ?_
  refine g_iload_n dX0_figureAt_1 rfl ?_
  refine g_forget (mask := [false, false]) (L' := [none, none]) rfl ?_
  exact g_callV (n := 1) (b := 1) (as := [.int x1]) (rest := []) dX0_figureAt_2 kX0_codeAt lX0_19 (by decide) rfl ⟨_, _, rfl⟩ rfl rfl (by simp only [List.map, Value.category]; decide) (by decide) k
theorem sX0_figureAt_5 {post : Option Value → PH → Prop} {h : PH} {s0 : Int32} (k : post (some (.int (s0 - 48))) h) : G 1 mX0_figureAt post 5 [none, none] [.int s0] h := by
  refine g_bipush (v := 48) dX0_figureAt_5 rfl ?_
  refine g_isub dX0_figureAt_7 ?_
  exact g_ireturn (ty := .int) dX0_figureAt_8 rfl rfl k
theorem sX0_firstFault_0 {post : Option Value → PH → Prop} {h : PH} (k : G 2 mX0_firstFault post 2 [some (.ref 1), some (.int 0)] [] h) : G 2 mX0_firstFault post 0 [some (.ref 1), none] [] h := by
  refine g_iconst (v := 0) dX0_firstFault_0 rfl ?_
  refine g_istore_n (L' := [some (.ref 1), some (.int 0)]) dX0_firstFault_1 rfl (by decide) rfl ?_
  exact k
theorem sX0_firstFault_2 {post : Option Value → PH → Prop} {h : PH} {x1 : Int32} (k1 : (h.1 1 1) ≤ x1 → G 2 mX0_firstFault post 24 [none, some (.int x1)] [] h) (k2 : ¬ (h.1 1 1) ≤ x1 → G 2 mX0_firstFault post 10 [some (.ref 1), some (.int x1)] [] h) : G 2 mX0_firstFault post 2 [some (.ref 1), some (.int x1)] [] h := by
  refine g_iload_n dX0_firstFault_2 rfl ?_
  refine g_aload_n dX0_firstFault_3 rfl ?_
  refine g_getfield (kd := 0) (v := .int (h.1 1 1)) dX0_firstFault_4 fX0_15 (by decide) rfl rfl rfl rfl ?_
  exact g_icmp_ge (tgt := 24) dX0_firstFault_7 (by decide) (fun hc => by refine g_forget (mask := [false, true]) (L' := [none, some (.int x1)]) rfl ?_; exact k1 hc) (fun hc => k2 hc)
theorem sX0_firstFault_24 {post : Option Value → PH → Prop} {h : PH} {x1 : Int32} (k : post (some (.int x1)) h) : G 2 mX0_firstFault post 24 [none, some (.int x1)] [] h := by
  refine g_iload_n dX0_firstFault_24 rfl ?_
  exact g_ireturn (ty := .int) dX0_firstFault_25 rfl rfl k
theorem sX0_firstFault_10 {post : Option Value → PH → Prop} {h : PH} {x1 : Int32} (k : Ev 1 mX0_fits [.ref 1, .int x1] h (fun r h' => G 2 mX0_firstFault post 15 [some (.ref 1), some (.int x1)] (r.toList ++ []) h')) : G 2 mX0_firstFault post 10 [some (.ref 1), some (.int x1)] [] h := by
  refine g_aload_n dX0_firstFault_10 rfl ?_
  refine g_iload_n dX0_firstFault_11 rfl ?_
  exact g_callV (n := 1) (b := 1) (as := [.int x1]) (rest := []) dX0_firstFault_12 kX0_fits lX0_23 (by decide) rfl ⟨_, _, rfl⟩ rfl rfl (by simp only [List.map, Value.category]; decide) (by decide) k
theorem sX0_firstFault_15 {post : Option Value → PH → Prop} {h : PH} {x1 s0 : Int32} (k1 : s0 = 0 → G 2 mX0_firstFault post 24 [none, some (.int x1)] [] h) (k2 : ¬ s0 = 0 → G 2 mX0_firstFault post 18 [some (.ref 1), some (.int x1)] [] h) : G 2 mX0_firstFault post 15 [some (.ref 1), some (.int x1)] [.int s0] h := by
  exact g_if_eq (tgt := 24) dX0_firstFault_15 (by decide) (fun hc => by refine g_forget (mask := [false, true]) (L' := [none, some (.int x1)]) rfl ?_; exact k1 hc) (fun hc => k2 hc)
theorem sX0_firstFault_18 {post : Option Value → PH → Prop} {h : PH} {x1 : Int32} (k : G 2 mX0_firstFault post 2 [some (.ref 1), some (.int (x1 + 1))] [] h) : G 2 mX0_firstFault post 18 [some (.ref 1), some (.int x1)] [] h := by
  refine g_iinc (v := (x1 + 1)) (L' := [some (.ref 1), some (.int (x1 + 1))]) dX0_firstFault_18 rfl rfl rfl (by decide) rfl ?_
  refine g_goto (tgt := 2) dX0_firstFault_21 (by decide) ?_
  exact k
theorem sX0_fits_0 {post : Option Value → PH → Prop} {h : PH} {x1 : Int32} (k : Ev 0 mX0_codeAt [.ref 1, .int x1] h (fun r h' => G 1 mX0_fits post 5 [none, some (.int x1), none] (r.toList ++ []) h')) : G 1 mX0_fits post 0 [some (.ref 1), some (.int x1), none] [] h := by
  refine g_aload_n dX0_fits_0 rfl ?_
  refine g_iload_n dX0_fits_1 rfl ?_
  refine g_forget (mask := [false, true, true]) (L' := [none, some (.int x1), none]) rfl ?_
  exact g_callV (n := 1) (b := 1) (as := [.int x1]) (rest := []) dX0_fits_2 kX0_codeAt lX0_19 (by decide) rfl ⟨_, _, rfl⟩ rfl rfl (by simp only [List.map, Value.category]; decide) (by decide) k
theorem sX0_fits_5 {post : Option Value → PH → Prop} {h : PH} {x1 s0 : Int32} (k1 : ¬ x1 = 0 → G 1 mX0_fits post 28 [none, some (.int x1), some (.int s0)] [] h) (k2 : x1 = 0 → G 1 mX0_fits post 10 [none, none, some (.int s0)] [] h) : G 1 mX0_fits post 5 [none, some (.int x1), none] [.int s0] h := by
  refine g_istore_n (L' := [none, some (.int x1), some (.int s0)]) dX0_fits_5 rfl (by decide) rfl ?_
  refine g_iload_n dX0_fits_6 rfl ?_
  exact g_if_ne (tgt := 28) dX0_fits_7 (by decide) (fun hc => k1 hc) (fun hc => by refine g_forget (mask := [true, false, true]) (L' := [none, none, some (.int s0)]) rfl ?_; exact k2 hc)
theorem sX0_fits_28 {post : Option Value → PH → Prop} {h : PH} {x1 x2 : Int32} (kd : (Int32.toInt (x1 - x1 / 4 * 4)) < 1 ∨ 3 < (Int32.toInt (x1 - x1 / 4 * 4)) → G 1 mX0_fits post 98 [none, none, some (.int x2)] [] h) (k0 : (Int32.toInt (x1 - x1 / 4 * 4)) = 1 → G 1 mX0_fits post 56 [none, none, some (.int x2)] [] h) (k1 : (Int32.toInt (x1 - x1 / 4 * 4)) = 2 → G 1 mX0_fits post 68 [none, none, some (.int x2)] [] h) (k2 : (Int32.toInt (x1 - x1 / 4 * 4)) = 3 → G 1 mX0_fits post 86 [none, none, some (.int x2)] [] h) : G 1 mX0_fits post 28 [none, some (.int x1), some (.int x2)] [] h := by
  refine g_iload_n dX0_fits_28 rfl ?_
  refine g_iconst (v := 4) dX0_fits_29 rfl ?_
  refine g_irem dX0_fits_30 (by decide) ?_
  by_cases hc : (Int32.toInt (x1 - x1 / 4 * 4)) < 1 ∨ 3 < (Int32.toInt (x1 - x1 / 4 * 4))
  · exact g_tableOut (tgt := 98) dX0_fits_31 hc (by decide) (by refine g_forget (mask := [true, false, true]) (L' := [none, none, some (.int x2)]) rfl ?_; exact kd hc)
  rcases (show (Int32.toInt (x1 - x1 / 4 * 4)) = 1 ∨ (Int32.toInt (x1 - x1 / 4 * 4)) = 2 ∨ (Int32.toInt (x1 - x1 / 4 * 4)) = 3 by omega) with hv | hv | hv
  · exact g_tableIn (tgt := 56) dX0_fits_31 (by omega) (by omega) (by rw [hv]; rfl) (by decide) (by refine g_forget (mask := [true, false, true]) (L' := [none, none, some (.int x2)]) rfl ?_; exact k0 hv)
  · exact g_tableIn (tgt := 68) dX0_fits_31 (by omega) (by omega) (by rw [hv]; rfl) (by decide) (by refine g_forget (mask := [true, false, true]) (L' := [none, none, some (.int x2)]) rfl ?_; exact k1 hv)
  · exact g_tableIn (tgt := 86) dX0_fits_31 (by omega) (by omega) (by rw [hv]; rfl) (by decide) (by refine g_forget (mask := [true, false, true]) (L' := [none, none, some (.int x2)]) rfl ?_; exact k2 hv)
theorem sX0_fits_10 {post : Option Value → PH → Prop} {h : PH} {x2 : Int32} (k1 : x2 < 49 → G 1 mX0_fits post 26 [none, none, none] [] h) (k2 : ¬ x2 < 49 → G 1 mX0_fits post 16 [none, none, some (.int x2)] [] h) : G 1 mX0_fits post 10 [none, none, some (.int x2)] [] h := by
  refine g_iload_n dX0_fits_10 rfl ?_
  refine g_bipush (v := 49) dX0_fits_11 rfl ?_
  exact g_icmp_lt (tgt := 26) dX0_fits_13 (by decide) (fun hc => by refine g_forget (mask := [true, true, false]) (L' := [none, none, none]) rfl ?_; exact k1 hc) (fun hc => k2 hc)
theorem sX0_fits_98 {post : Option Value → PH → Prop} {h : PH} {x2 : Int32} (k1 : x2 < 48 → G 1 mX0_fits post 114 [none, none, none] [] h) (k2 : ¬ x2 < 48 → G 1 mX0_fits post 104 [none, none, some (.int x2)] [] h) : G 1 mX0_fits post 98 [none, none, some (.int x2)] [] h := by
  refine g_iload_n dX0_fits_98 rfl ?_
  refine g_bipush (v := 48) dX0_fits_99 rfl ?_
  exact g_icmp_lt (tgt := 114) dX0_fits_101 (by decide) (fun hc => by refine g_forget (mask := [true, true, false]) (L' := [none, none, none]) rfl ?_; exact k1 hc) (fun hc => k2 hc)
theorem sX0_fits_56 {post : Option Value → PH → Prop} {h : PH} {x2 : Int32} (k1 : ¬ x2 = 59 → G 1 mX0_fits post 66 [none, none, none] [] h) (k2 : x2 = 59 → G 1 mX0_fits post 62 [none, none, none] [] h) : G 1 mX0_fits post 56 [none, none, some (.int x2)] [] h := by
  refine g_iload_n dX0_fits_56 rfl ?_
  refine g_bipush (v := 59) dX0_fits_57 rfl ?_
  exact g_icmp_ne (tgt := 66) dX0_fits_59 (by decide) (fun hc => by refine g_forget (mask := [true, true, false]) (L' := [none, none, none]) rfl ?_; exact k1 hc) (fun hc => by refine g_forget (mask := [true, true, false]) (L' := [none, none, none]) rfl ?_; exact k2 hc)
theorem sX0_fits_68 {post : Option Value → PH → Prop} {h : PH} {x2 : Int32} (k1 : x2 < 49 → G 1 mX0_fits post 84 [none, none, none] [] h) (k2 : ¬ x2 < 49 → G 1 mX0_fits post 74 [none, none, some (.int x2)] [] h) : G 1 mX0_fits post 68 [none, none, some (.int x2)] [] h := by
  refine g_iload_n dX0_fits_68 rfl ?_
  refine g_bipush (v := 49) dX0_fits_69 rfl ?_
  exact g_icmp_lt (tgt := 84) dX0_fits_71 (by decide) (fun hc => by refine g_forget (mask := [true, true, false]) (L' := [none, none, none]) rfl ?_; exact k1 hc) (fun hc => k2 hc)
theorem sX0_fits_86 {post : Option Value → PH → Prop} {h : PH} {x2 : Int32} (k1 : ¬ x2 = 44 → G 1 mX0_fits post 96 [none, none, none] [] h) (k2 : x2 = 44 → G 1 mX0_fits post 92 [none, none, none] [] h) : G 1 mX0_fits post 86 [none, none, some (.int x2)] [] h := by
  refine g_iload_n dX0_fits_86 rfl ?_
  refine g_bipush (v := 44) dX0_fits_87 rfl ?_
  exact g_icmp_ne (tgt := 96) dX0_fits_89 (by decide) (fun hc => by refine g_forget (mask := [true, true, false]) (L' := [none, none, none]) rfl ?_; exact k1 hc) (fun hc => by refine g_forget (mask := [true, true, false]) (L' := [none, none, none]) rfl ?_; exact k2 hc)
theorem sX0_fits_26 {post : Option Value → PH → Prop} {h : PH} (k : post (some (.int 0)) h) : G 1 mX0_fits post 26 [none, none, none] [] h := by
  refine g_iconst (v := 0) dX0_fits_26 rfl ?_
  exact g_ireturn (ty := .boolean) dX0_fits_27 rfl rfl k
theorem sX0_fits_16 {post : Option Value → PH → Prop} {h : PH} {x2 : Int32} (k1 : 52 < x2 → G 1 mX0_fits post 26 [none, none, none] [] h) (k2 : ¬ 52 < x2 → G 1 mX0_fits post 22 [none, none, none] [] h) : G 1 mX0_fits post 16 [none, none, some (.int x2)] [] h := by
  refine g_iload_n dX0_fits_16 rfl ?_
  refine g_bipush (v := 52) dX0_fits_17 rfl ?_
  exact g_icmp_gt (tgt := 26) dX0_fits_19 (by decide) (fun hc => by refine g_forget (mask := [true, true, false]) (L' := [none, none, none]) rfl ?_; exact k1 hc) (fun hc => by refine g_forget (mask := [true, true, false]) (L' := [none, none, none]) rfl ?_; exact k2 hc)
theorem sX0_fits_114 {post : Option Value → PH → Prop} {h : PH} (k : post (some (.int 0)) h) : G 1 mX0_fits post 114 [none, none, none] [] h := by
  refine g_iconst (v := 0) dX0_fits_114 rfl ?_
  exact g_ireturn (ty := .boolean) dX0_fits_115 rfl rfl k
theorem sX0_fits_104 {post : Option Value → PH → Prop} {h : PH} {x2 : Int32} (k1 : 57 < x2 → G 1 mX0_fits post 114 [none, none, none] [] h) (k2 : ¬ 57 < x2 → G 1 mX0_fits post 110 [none, none, none] [] h) : G 1 mX0_fits post 104 [none, none, some (.int x2)] [] h := by
  refine g_iload_n dX0_fits_104 rfl ?_
  refine g_bipush (v := 57) dX0_fits_105 rfl ?_
  exact g_icmp_gt (tgt := 114) dX0_fits_107 (by decide) (fun hc => by refine g_forget (mask := [true, true, false]) (L' := [none, none, none]) rfl ?_; exact k1 hc) (fun hc => by refine g_forget (mask := [true, true, false]) (L' := [none, none, none]) rfl ?_; exact k2 hc)
theorem sX0_fits_66 {post : Option Value → PH → Prop} {h : PH} (k : post (some (.int 0)) h) : G 1 mX0_fits post 66 [none, none, none] [] h := by
  refine g_iconst (v := 0) dX0_fits_66 rfl ?_
  exact g_ireturn (ty := .boolean) dX0_fits_67 rfl rfl k
theorem sX0_fits_62 {post : Option Value → PH → Prop} {h : PH} (k : post (some (.int 1)) h) : G 1 mX0_fits post 62 [none, none, none] [] h := by
  refine g_iconst (v := 1) dX0_fits_62 rfl ?_
  refine g_goto (tgt := 67) dX0_fits_63 (by decide) ?_
  exact g_ireturn (ty := .boolean) dX0_fits_67 rfl rfl k
theorem sX0_fits_84 {post : Option Value → PH → Prop} {h : PH} (k : post (some (.int 0)) h) : G 1 mX0_fits post 84 [none, none, none] [] h := by
  refine g_iconst (v := 0) dX0_fits_84 rfl ?_
  exact g_ireturn (ty := .boolean) dX0_fits_85 rfl rfl k
theorem sX0_fits_74 {post : Option Value → PH → Prop} {h : PH} {x2 : Int32} (k1 : 57 < x2 → G 1 mX0_fits post 84 [none, none, none] [] h) (k2 : ¬ 57 < x2 → G 1 mX0_fits post 80 [none, none, none] [] h) : G 1 mX0_fits post 74 [none, none, some (.int x2)] [] h := by
  refine g_iload_n dX0_fits_74 rfl ?_
  refine g_bipush (v := 57) dX0_fits_75 rfl ?_
  exact g_icmp_gt (tgt := 84) dX0_fits_77 (by decide) (fun hc => by refine g_forget (mask := [true, true, false]) (L' := [none, none, none]) rfl ?_; exact k1 hc) (fun hc => by refine g_forget (mask := [true, true, false]) (L' := [none, none, none]) rfl ?_; exact k2 hc)
theorem sX0_fits_96 {post : Option Value → PH → Prop} {h : PH} (k : post (some (.int 0)) h) : G 1 mX0_fits post 96 [none, none, none] [] h := by
  refine g_iconst (v := 0) dX0_fits_96 rfl ?_
  exact g_ireturn (ty := .boolean) dX0_fits_97 rfl rfl k
theorem sX0_fits_92 {post : Option Value → PH → Prop} {h : PH} (k : post (some (.int 1)) h) : G 1 mX0_fits post 92 [none, none, none] [] h := by
  refine g_iconst (v := 1) dX0_fits_92 rfl ?_
  refine g_goto (tgt := 97) dX0_fits_93 (by decide) ?_
  exact g_ireturn (ty := .boolean) dX0_fits_97 rfl rfl k
theorem sX0_fits_22 {post : Option Value → PH → Prop} {h : PH} (k : post (some (.int 1)) h) : G 1 mX0_fits post 22 [none, none, none] [] h := by
  refine g_iconst (v := 1) dX0_fits_22 rfl ?_
  refine g_goto (tgt := 27) dX0_fits_23 (by decide) ?_
  exact g_ireturn (ty := .boolean) dX0_fits_27 rfl rfl k
theorem sX0_fits_110 {post : Option Value → PH → Prop} {h : PH} (k : post (some (.int 1)) h) : G 1 mX0_fits post 110 [none, none, none] [] h := by
  refine g_iconst (v := 1) dX0_fits_110 rfl ?_
  refine g_goto (tgt := 115) dX0_fits_111 (by decide) ?_
  exact g_ireturn (ty := .boolean) dX0_fits_115 rfl rfl k
theorem sX0_fits_80 {post : Option Value → PH → Prop} {h : PH} (k : post (some (.int 1)) h) : G 1 mX0_fits post 80 [none, none, none] [] h := by
  refine g_iconst (v := 1) dX0_fits_80 rfl ?_
  refine g_goto (tgt := 85) dX0_fits_81 (by decide) ?_
  exact g_ireturn (ty := .boolean) dX0_fits_85 rfl rfl k
theorem sX0_isField_0 {post : Option Value → PH → Prop} {h : PH} (k1 : (h.1 1 1) ≤ 1 → G 3 mX0_isField post 33 [none] [] h) (k2 : ¬ (h.1 1 1) ≤ 1 → G 3 mX0_isField post 8 [some (.ref 1)] [] h) : G 3 mX0_isField post 0 [some (.ref 1)] [] h := by
  refine g_aload_n dX0_isField_0 rfl ?_
  refine g_getfield (kd := 0) (v := .int (h.1 1 1)) dX0_isField_1 fX0_15 (by decide) rfl rfl rfl rfl ?_
  refine g_iconst (v := 1) dX0_isField_4 rfl ?_
  exact g_icmp_le (tgt := 33) dX0_isField_5 (by decide) (fun hc => by refine g_forget (mask := [false]) (L' := [none]) rfl ?_; exact k1 hc) (fun hc => k2 hc)
theorem sX0_isField_33 {post : Option Value → PH → Prop} {h : PH} (k : post (some (.int 0)) h) : G 3 mX0_isField post 33 [none] [] h := by
  refine g_iconst (v := 0) dX0_isField_33 rfl ?_
  exact g_ireturn (ty := .boolean) dX0_isField_34 rfl rfl k
theorem sX0_isField_8 {post : Option Value → PH → Prop} {h : PH} (k1 : ¬ ((h.1 1 1) - (h.1 1 1) / 4 * 4) = 1 → G 3 mX0_isField post 33 [none] [] h) (k2 : ((h.1 1 1) - (h.1 1 1) / 4 * 4) = 1 → G 3 mX0_isField post 18 [some (.ref 1)] [] h) : G 3 mX0_isField post 8 [some (.ref 1)] [] h := by
  refine g_aload_n dX0_isField_8 rfl ?_
  refine g_getfield (kd := 0) (v := .int (h.1 1 1)) dX0_isField_9 fX0_15 (by decide) rfl rfl rfl rfl ?_
  refine g_iconst (v := 4) dX0_isField_12 rfl ?_
  refine g_irem dX0_isField_13 (by decide) ?_
  refine g_iconst (v := 1) dX0_isField_14 rfl ?_
  exact g_icmp_ne (tgt := 33) dX0_isField_15 (by decide) (fun hc => by refine g_forget (mask := [false]) (L' := [none]) rfl ?_; exact k1 hc) (fun hc => k2 hc)
theorem sX0_isField_18 {post : Option Value → PH → Prop} {h : PH} (k : Ev 2 mX0_firstFault [.ref 1] h (fun r h' => G 3 mX0_isField post 22 [some (.ref 1)] (r.toList ++ []) h')) : G 3 mX0_isField post 18 [some (.ref 1)] [] h := by
  refine g_aload_n dX0_isField_18 rfl ?_
  exact g_callV (n := 0) (b := 1) (as := []) (rest := []) dX0_isField_19 kX0_firstFault lX0_27 (by decide) rfl ⟨_, _, rfl⟩ rfl rfl (by simp only [List.map, Value.category]; decide) (by decide) k
theorem sX0_isField_22 {post : Option Value → PH → Prop} {h : PH} {s0 : Int32} (k1 : ¬ s0 = (h.1 1 1) → G 3 mX0_isField post 33 [none] [] h) (k2 : s0 = (h.1 1 1) → G 3 mX0_isField post 29 [none] [] h) : G 3 mX0_isField post 22 [some (.ref 1)] [.int s0] h := by
  refine g_aload_n dX0_isField_22 rfl ?_
  refine g_getfield (kd := 0) (v := .int (h.1 1 1)) dX0_isField_23 fX0_15 (by decide) rfl rfl rfl rfl ?_
  exact g_icmp_ne (tgt := 33) dX0_isField_26 (by decide) (fun hc => by refine g_forget (mask := [false]) (L' := [none]) rfl ?_; exact k1 hc) (fun hc => by refine g_forget (mask := [false]) (L' := [none]) rfl ?_; exact k2 hc)
theorem sX0_isField_29 {post : Option Value → PH → Prop} {h : PH} (k : post (some (.int 1)) h) : G 3 mX0_isField post 29 [none] [] h := by
  refine g_iconst (v := 1) dX0_isField_29 rfl ?_
  refine g_goto (tgt := 34) dX0_isField_30 (by decide) ?_
  exact g_ireturn (ty := .boolean) dX0_isField_34 rfl rfl k
theorem sX1_moveAt_0_p4 {post : Option Value → PH → Prop} {h : PH} {x1 : Int32} (k1 : x1 < 0 → G 0 mX1_moveAt post 30 [none, none] [] h) (k2 : ¬ x1 < 0 → G 0 mX1_moveAt post 4 [some (.ref 4), some (.int x1)] [] h) : G 0 mX1_moveAt post 0 [some (.ref 4), some (.int x1)] [] h := by
  refine g_iload_n dX1_moveAt_0 rfl ?_
  exact g_if_lt (tgt := 30) dX1_moveAt_1 (by decide) (fun hc => by refine g_forget (mask := [false, false]) (L' := [none, none]) rfl ?_; exact k1 hc) (fun hc => k2 hc)
theorem sX1_moveAt_30_p4 {post : Option Value → PH → Prop} {h : PH} (k : post (some (.int (-1001))) h) : G 0 mX1_moveAt post 30 [none, none] [] h := by
  refine g_sipush (v := (-1001)) dX1_moveAt_30 rfl ?_
  exact g_ireturn (ty := .int) dX1_moveAt_33 rfl rfl k
theorem sX1_moveAt_4_p4 {post : Option Value → PH → Prop} {h : PH} {x1 : Int32} (k1 : (h.1 4 6) ≤ x1 → G 0 mX1_moveAt post 30 [none, none] [] h) (k2 : ¬ (h.1 4 6) ≤ x1 → G 0 mX1_moveAt post 12 [some (.ref 4), some (.int x1)] [] h) : G 0 mX1_moveAt post 4 [some (.ref 4), some (.int x1)] [] h := by
  refine g_iload_n dX1_moveAt_4 rfl ?_
  refine g_aload_n dX1_moveAt_5 rfl ?_
  refine g_getfield (kd := 0) (v := .int (h.1 4 6)) dX1_moveAt_6 fX1_19 (by decide) rfl rfl rfl rfl ?_
  exact g_icmp_ge (tgt := 30) dX1_moveAt_9 (by decide) (fun hc => by refine g_forget (mask := [false, false]) (L' := [none, none]) rfl ?_; exact k1 hc) (fun hc => k2 hc)
theorem sX1_moveAt_12_p4 {post : Option Value → PH → Prop} {h : PH} {x1 : Int32} (k1 : 15 ≤ x1 → G 0 mX1_moveAt post 30 [none, none] [] h) (k2 : ¬ 15 ≤ x1 → G 0 mX1_moveAt post 21 [some (.ref 4), some (.int x1)] [] h) : G 0 mX1_moveAt post 12 [some (.ref 4), some (.int x1)] [] h := by
  refine g_iload_n dX1_moveAt_12 rfl ?_
  refine g_aload_n dX1_moveAt_13 rfl ?_
  refine g_getfield (kd := 15) (v := .ref 13) dX1_moveAt_14 fX1_9 (by decide) rfl rfl rfl rfl ?_
  refine g_arraylength (n := 15) dX1_moveAt_17 (by decide) rfl rfl rfl ?_
  exact g_icmp_ge (tgt := 30) dX1_moveAt_18 (by decide) (fun hc => by refine g_forget (mask := [false, false]) (L' := [none, none]) rfl ?_; exact k1 hc) (fun hc => k2 hc)
theorem sX1_moveAt_21_p4 {post : Option Value → PH → Prop} {h : PH} {x1 : Int32} (hb1 : vp_in x1 15) (k : post (some (.int (h.1 13 (Int32.toNatClampNeg x1)))) h) : G 0 mX1_moveAt post 21 [some (.ref 4), some (.int x1)] [] h := by
  refine g_aload_n dX1_moveAt_21 rfl ?_
  refine g_getfield (kd := 15) (v := .ref 13) dX1_moveAt_22 fX1_9 (by decide) rfl rfl rfl rfl ?_
  refine g_iload_n dX1_moveAt_25 rfl ?_
  refine g_iaload (n := 15) dX1_moveAt_26 (by decide) rfl rfl rfl hb1 ?_
  refine g_goto (tgt := 33) dX1_moveAt_27 (by decide) ?_
  exact g_ireturn (ty := .int) dX1_moveAt_33 rfl rfl k
theorem sX1_moveAt_0_p5 {post : Option Value → PH → Prop} {h : PH} {x1 : Int32} (k1 : x1 < 0 → G 0 mX1_moveAt post 30 [none, none] [] h) (k2 : ¬ x1 < 0 → G 0 mX1_moveAt post 4 [some (.ref 5), some (.int x1)] [] h) : G 0 mX1_moveAt post 0 [some (.ref 5), some (.int x1)] [] h := by
  refine g_iload_n dX1_moveAt_0 rfl ?_
  exact g_if_lt (tgt := 30) dX1_moveAt_1 (by decide) (fun hc => by refine g_forget (mask := [false, false]) (L' := [none, none]) rfl ?_; exact k1 hc) (fun hc => k2 hc)
theorem sX1_moveAt_30_p5 {post : Option Value → PH → Prop} {h : PH} (k : post (some (.int (-1001))) h) : G 0 mX1_moveAt post 30 [none, none] [] h := by
  refine g_sipush (v := (-1001)) dX1_moveAt_30 rfl ?_
  exact g_ireturn (ty := .int) dX1_moveAt_33 rfl rfl k
theorem sX1_moveAt_4_p5 {post : Option Value → PH → Prop} {h : PH} {x1 : Int32} (k1 : (h.1 5 6) ≤ x1 → G 0 mX1_moveAt post 30 [none, none] [] h) (k2 : ¬ (h.1 5 6) ≤ x1 → G 0 mX1_moveAt post 12 [some (.ref 5), some (.int x1)] [] h) : G 0 mX1_moveAt post 4 [some (.ref 5), some (.int x1)] [] h := by
  refine g_iload_n dX1_moveAt_4 rfl ?_
  refine g_aload_n dX1_moveAt_5 rfl ?_
  refine g_getfield (kd := 0) (v := .int (h.1 5 6)) dX1_moveAt_6 fX1_19 (by decide) rfl rfl rfl rfl ?_
  exact g_icmp_ge (tgt := 30) dX1_moveAt_9 (by decide) (fun hc => by refine g_forget (mask := [false, false]) (L' := [none, none]) rfl ?_; exact k1 hc) (fun hc => k2 hc)
theorem sX1_moveAt_12_p5 {post : Option Value → PH → Prop} {h : PH} {x1 : Int32} (k1 : 15 ≤ x1 → G 0 mX1_moveAt post 30 [none, none] [] h) (k2 : ¬ 15 ≤ x1 → G 0 mX1_moveAt post 21 [some (.ref 5), some (.int x1)] [] h) : G 0 mX1_moveAt post 12 [some (.ref 5), some (.int x1)] [] h := by
  refine g_iload_n dX1_moveAt_12 rfl ?_
  refine g_aload_n dX1_moveAt_13 rfl ?_
  refine g_getfield (kd := 16) (v := .ref 14) dX1_moveAt_14 fX1_9 (by decide) rfl rfl rfl rfl ?_
  refine g_arraylength (n := 15) dX1_moveAt_17 (by decide) rfl rfl rfl ?_
  exact g_icmp_ge (tgt := 30) dX1_moveAt_18 (by decide) (fun hc => by refine g_forget (mask := [false, false]) (L' := [none, none]) rfl ?_; exact k1 hc) (fun hc => k2 hc)
theorem sX1_moveAt_21_p5 {post : Option Value → PH → Prop} {h : PH} {x1 : Int32} (hb1 : vp_in x1 15) (k : post (some (.int (h.1 14 (Int32.toNatClampNeg x1)))) h) : G 0 mX1_moveAt post 21 [some (.ref 5), some (.int x1)] [] h := by
  refine g_aload_n dX1_moveAt_21 rfl ?_
  refine g_getfield (kd := 16) (v := .ref 14) dX1_moveAt_22 fX1_9 (by decide) rfl rfl rfl rfl ?_
  refine g_iload_n dX1_moveAt_25 rfl ?_
  refine g_iaload (n := 15) dX1_moveAt_26 (by decide) rfl rfl rfl hb1 ?_
  refine g_goto (tgt := 33) dX1_moveAt_27 (by decide) ?_
  exact g_ireturn (ty := .int) dX1_moveAt_33 rfl rfl k
