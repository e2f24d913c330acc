theorem sX3_isRead_0 {post : Option Value → PH → Prop} {h : PH} (k1 : (h.1 2 0) ≤ 0 → G 0 mX3_isRead post 11 [none] [] h) (k2 : ¬ (h.1 2 0) ≤ 0 → G 0 mX3_isRead post 7 [none] [] h) : G 0 mX3_isRead post 0 [some (.ref 2)] [] h := by
  refine g_aload_n dX3_isRead_0 rfl ?_
  refine g_getfield (kd := 0) (v := .int (h.1 2 0)) dX3_isRead_1 fX3_27 (by decide) rfl rfl rfl rfl ?_
  exact g_if_le (tgt := 11) dX3_isRead_4 (by decide) (fun hc => by refine g_forget (mask := [false]) (L' := [none]) rfl ?_; exact k1 hc) (fun hc => by refine g_forget (mask := [false]) (L' := [none]) rfl ?_; exact k2 hc)
theorem sX3_isRead_11 {post : Option Value → PH → Prop} {h : PH} (k : post (some (.int 0)) h) : G 0 mX3_isRead post 11 [none] [] h := by
  refine g_iconst (v := 0) dX3_isRead_11 rfl ?_
  exact g_ireturn (ty := .boolean) dX3_isRead_12 rfl rfl k
theorem sX3_isRead_7 {post : Option Value → PH → Prop} {h : PH} (k : post (some (.int 1)) h) : G 0 mX3_isRead post 7 [none] [] h := by
  refine g_iconst (v := 1) dX3_isRead_7 rfl ?_
  refine g_goto (tgt := 12) dX3_isRead_8 (by decide) ?_
  exact g_ireturn (ty := .boolean) dX3_isRead_12 rfl rfl k
theorem sX3_hasMirror_0 {post : Option Value → PH → Prop} {h : PH} {x1 : Int32} (k1 : x1 < 0 → G 0 mX3_hasMirror post 16 [none, none] [] h) (k2 : ¬ x1 < 0 → G 0 mX3_hasMirror post 4 [some (.ref 2), some (.int x1)] [] h) : G 0 mX3_hasMirror post 0 [some (.ref 2), some (.int x1)] [] h := by
  refine g_iload_n dX3_hasMirror_0 rfl ?_
  exact g_if_lt (tgt := 16) dX3_hasMirror_1 (by decide) (fun hc => by refine g_forget (mask := [false, false]) (L' := [none, none]) rfl ?_; exact k1 hc) (fun hc => k2 hc)
theorem sX3_hasMirror_16 {post : Option Value → PH → Prop} {h : PH} (k : post (some (.int 0)) h) : G 0 mX3_hasMirror post 16 [none, none] [] h := by
  refine g_iconst (v := 0) dX3_hasMirror_16 rfl ?_
  exact g_ireturn (ty := .boolean) dX3_hasMirror_17 rfl rfl k
theorem sX3_hasMirror_4 {post : Option Value → PH → Prop} {h : PH} {x1 : Int32} (k1 : (h.1 2 0) ≤ x1 → G 0 mX3_hasMirror post 16 [none, none] [] h) (k2 : ¬ (h.1 2 0) ≤ x1 → G 0 mX3_hasMirror post 12 [none, none] [] h) : G 0 mX3_hasMirror post 4 [some (.ref 2), some (.int x1)] [] h := by
  refine g_iload_n dX3_hasMirror_4 rfl ?_
  refine g_aload_n dX3_hasMirror_5 rfl ?_
  refine g_getfield (kd := 0) (v := .int (h.1 2 0)) dX3_hasMirror_6 fX3_27 (by decide) rfl rfl rfl rfl ?_
  exact g_icmp_ge (tgt := 16) dX3_hasMirror_9 (by decide) (fun hc => by refine g_forget (mask := [false, false]) (L' := [none, none]) rfl ?_; exact k1 hc) (fun hc => by refine g_forget (mask := [false, false]) (L' := [none, none]) rfl ?_; exact k2 hc)
theorem sX3_hasMirror_12 {post : Option Value → PH → Prop} {h : PH} (k : post (some (.int 1)) h) : G 0 mX3_hasMirror post 12 [none, none] [] h := by
  refine g_iconst (v := 1) dX3_hasMirror_12 rfl ?_
  refine g_goto (tgt := 17) dX3_hasMirror_13 (by decide) ?_
  exact g_ireturn (ty := .boolean) dX3_hasMirror_17 rfl rfl k
theorem sX3_hasPatch_0 {post : Option Value → PH → Prop} {h : PH} {x1 : Int32} (k1 : x1 < 0 → G 0 mX3_hasPatch post 16 [none, none] [] h) (k2 : ¬ x1 < 0 → G 0 mX3_hasPatch post 4 [some (.ref 2), some (.int x1)] [] h) : G 0 mX3_hasPatch post 0 [some (.ref 2), some (.int x1)] [] h := by
  refine g_iload_n dX3_hasPatch_0 rfl ?_
  exact g_if_lt (tgt := 16) dX3_hasPatch_1 (by decide) (fun hc => by refine g_forget (mask := [false, false]) (L' := [none, none]) rfl ?_; exact k1 hc) (fun hc => k2 hc)
theorem sX3_hasPatch_16 {post : Option Value → PH → Prop} {h : PH} (k : post (some (.int 0)) h) : G 0 mX3_hasPatch post 16 [none, none] [] h := by
  refine g_iconst (v := 0) dX3_hasPatch_16 rfl ?_
  exact g_ireturn (ty := .boolean) dX3_hasPatch_17 rfl rfl k
theorem sX3_hasPatch_4 {post : Option Value → PH → Prop} {h : PH} {x1 : Int32} (k1 : (h.1 2 1) ≤ x1 → G 0 mX3_hasPatch post 16 [none, none] [] h) (k2 : ¬ (h.1 2 1) ≤ x1 → G 0 mX3_hasPatch post 12 [none, none] [] h) : G 0 mX3_hasPatch post 4 [some (.ref 2), some (.int x1)] [] h := by
  refine g_iload_n dX3_hasPatch_4 rfl ?_
  refine g_aload_n dX3_hasPatch_5 rfl ?_
  refine g_getfield (kd := 0) (v := .int (h.1 2 1)) dX3_hasPatch_6 fX3_31 (by decide) rfl rfl rfl rfl ?_
  exact g_icmp_ge (tgt := 16) dX3_hasPatch_9 (by decide) (fun hc => by refine g_forget (mask := [false, false]) (L' := [none, none]) rfl ?_; exact k1 hc) (fun hc => by refine g_forget (mask := [false, false]) (L' := [none, none]) rfl ?_; exact k2 hc)
theorem sX3_hasPatch_12 {post : Option Value → PH → Prop} {h : PH} (k : post (some (.int 1)) h) : G 0 mX3_hasPatch post 12 [none, none] [] h := by
  refine g_iconst (v := 1) dX3_hasPatch_12 rfl ?_
  refine g_goto (tgt := 17) dX3_hasPatch_13 (by decide) ?_
  exact g_ireturn (ty := .boolean) dX3_hasPatch_17 rfl rfl k
theorem sX3_isShaded_0 {post : Option Value → PH → Prop} {h : PH} {x1 : Int32} (k : Ev 0 mX4_bit [.int (h.1 2 3), .int x1] h (fun r h' => G 1 mX3_isShaded post 8 [none, none] (r.toList ++ []) h')) : G 1 mX3_isShaded post 0 [some (.ref 2), some (.int x1)] [] h := by
  refine g_aload_n dX3_isShaded_0 rfl ?_
  refine g_getfield (kd := 0) (v := .int (h.1 2 3)) dX3_isShaded_1 fX3_34 (by decide) rfl rfl rfl rfl ?_
  refine g_iload_n dX3_isShaded_4 rfl ?_
  refine g_forget (mask := [false, false]) (L' := [none, none]) rfl ?_
  exact g_callS (n := 2) (as := [.int (h.1 2 3), .int x1]) (rest := []) dX3_isShaded_5 kX4_bit lX3_37 rfl rfl (by simp only [List.map, Value.category]; decide) (by decide) k
theorem sX3_isShaded_8 {post : Option Value → PH → Prop} {h : PH} {s0 : Int32} (k1 : ¬ s0 = 1 → G 1 mX3_isShaded post 16 [none, none] [] h) (k2 : s0 = 1 → G 1 mX3_isShaded post 12 [none, none] [] h) : G 1 mX3_isShaded post 8 [none, none] [.int s0] h := by
  refine g_iconst (v := 1) dX3_isShaded_8 rfl ?_
  exact g_icmp_ne (tgt := 16) dX3_isShaded_9 (by decide) (fun hc => k1 hc) (fun hc => k2 hc)
theorem sX3_isShaded_16 {post : Option Value → PH → Prop} {h : PH} (k : post (some (.int 0)) h) : G 1 mX3_isShaded post 16 [none, none] [] h := by
  refine g_iconst (v := 0) dX3_isShaded_16 rfl ?_
  exact g_ireturn (ty := .boolean) dX3_isShaded_17 rfl rfl k
theorem sX3_isShaded_12 {post : Option Value → PH → Prop} {h : PH} (k : post (some (.int 1)) h) : G 1 mX3_isShaded post 12 [none, none] [] h := by
  refine g_iconst (v := 1) dX3_isShaded_12 rfl ?_
  refine g_goto (tgt := 17) dX3_isShaded_13 (by decide) ?_
  exact g_ireturn (ty := .boolean) dX3_isShaded_17 rfl rfl k
theorem sX3_isStuck_0 {post : Option Value → PH → Prop} {h : PH} {x1 : Int32} (k : Ev 0 mX4_bit [.int (h.1 2 4), .int x1] h (fun r h' => G 1 mX3_isStuck post 8 [none, none] (r.toList ++ []) h')) : G 1 mX3_isStuck post 0 [some (.ref 2), some (.int x1)] [] h := by
  refine g_aload_n dX3_isStuck_0 rfl ?_
  refine g_getfield (kd := 0) (v := .int (h.1 2 4)) dX3_isStuck_1 fX3_41 (by decide) rfl rfl rfl rfl ?_
  refine g_iload_n dX3_isStuck_4 rfl ?_
  refine g_forget (mask := [false, false]) (L' := [none, none]) rfl ?_
  exact g_callS (n := 2) (as := [.int (h.1 2 4), .int x1]) (rest := []) dX3_isStuck_5 kX4_bit lX3_37 rfl rfl (by simp only [List.map, Value.category]; decide) (by decide) k
theorem sX3_isStuck_8 {post : Option Value → PH → Prop} {h : PH} {s0 : Int32} (k1 : ¬ s0 = 1 → G 1 mX3_isStuck post 16 [none, none] [] h) (k2 : s0 = 1 → G 1 mX3_isStuck post 12 [none, none] [] h) : G 1 mX3_isStuck post 8 [none, none] [.int s0] h := by
  refine g_iconst (v := 1) dX3_isStuck_8 rfl ?_
  exact g_icmp_ne (tgt := 16) dX3_isStuck_9 (by decide) (fun hc => k1 hc) (fun hc => k2 hc)
theorem sX3_isStuck_16 {post : Option Value → PH → Prop} {h : PH} (k : post (some (.int 0)) h) : G 1 mX3_isStuck post 16 [none, none] [] h := by
  refine g_iconst (v := 0) dX3_isStuck_16 rfl ?_
  exact g_ireturn (ty := .boolean) dX3_isStuck_17 rfl rfl k
theorem sX3_isStuck_12 {post : Option Value → PH → Prop} {h : PH} (k : post (some (.int 1)) h) : G 1 mX3_isStuck post 12 [none, none] [] h := by
  refine g_iconst (v := 1) dX3_isStuck_12 rfl ?_
  refine g_goto (tgt := 17) dX3_isStuck_13 (by decide) ?_
  exact g_ireturn (ty := .boolean) dX3_isStuck_17 rfl rfl k
theorem sX3_read_0 {post : Option Value → PH → Prop} {h : PH} (k : Ev 1 mX0_figureAt [.ref 1, .int 0] h (fun r h' => G 2 mX3_read post 6 [some (.ref 2), some (.ref 1), none, none] (r.toList ++ [.ref 2]) h')) : G 2 mX3_read post 0 [some (.ref 2), some (.ref 1), none, none] [] h := by
  refine g_aload_n dX3_read_0 rfl ?_
  refine g_aload_n dX3_read_1 rfl ?_
  refine g_iconst (v := 0) dX3_read_2 rfl ?_
  exact g_callV (n := 1) (b := 1) (as := [.int 0]) (rest := [.ref 2]) dX3_read_3 kX0_figureAt lX3_44 (by decide) rfl ⟨_, _, rfl⟩ rfl rfl (by simp only [List.map, Value.category]; decide) (by decide) k
theorem sX3_read_6 {post : Option Value → PH → Prop} {h : PH} {s0 : Int32} (k : G 2 mX3_read post 44 [some (.ref 2), some (.ref 1), some (.int 0), none] [] ((upd2 (upd2 (upd2 (upd2 (upd2 h.1 2 1 (if 4 < s0 then 4 else s0)) 2 0 (if 5 < ((h.1 1 1) / 4) then 5 else ((h.1 1 1) / 4))) 2 2 1) 2 3 0) 2 4 0), h.2)) : G 2 mX3_read post 6 [some (.ref 2), some (.ref 1), none, none] [.int s0, .ref 2] h := by
  refine g_iconst (v := 4) dX3_read_6 rfl ?_
  refine g_mmin dX3_read_7 mmX3_50 (by simp only [List.map, Value.category]; decide) (by decide) ?_
  refine g_putfield dX3_read_10 fX3_31 (by decide) rfl rfl rfl rfl rfl ?_
  refine g_aload_n dX3_read_13 rfl ?_
  refine g_aload_n dX3_read_14 rfl ?_
  refine g_getfield (kd := 0) (v := .int (h.1 1 1)) dX3_read_15 fX3_55 (by decide) rfl rfl rfl rfl ?_
  refine g_iconst (v := 4) dX3_read_18 rfl ?_
  refine g_idiv dX3_read_19 (by decide) ?_
  refine g_iconst (v := 5) dX3_read_20 rfl ?_
  refine g_mmin dX3_read_21 mmX3_50 (by simp only [List.map, Value.category]; decide) (by decide) ?_
  refine g_putfield dX3_read_24 fX3_27 (by decide) rfl rfl rfl rfl rfl ?_
  refine g_aload_n dX3_read_27 rfl ?_
  refine g_iconst (v := 1) dX3_read_28 rfl ?_
  refine g_putfield dX3_read_29 fX3_58 (by decide) rfl rfl rfl rfl rfl ?_
  refine g_aload_n dX3_read_32 rfl ?_
  refine g_iconst (v := 0) dX3_read_33 rfl ?_
  refine g_putfield dX3_read_34 fX3_34 (by decide) rfl rfl rfl rfl rfl ?_
  refine g_aload_n dX3_read_37 rfl ?_
  refine g_iconst (v := 0) dX3_read_38 rfl ?_
  refine g_putfield dX3_read_39 fX3_41 (by decide) rfl rfl rfl rfl rfl ?_
  refine g_iconst (v := 0) dX3_read_42 rfl ?_
  refine g_istore_n (L' := [some (.ref 2), some (.ref 1), some (.int 0), none]) dX3_read_43 rfl (by decide) rfl ?_
  exact k
theorem sX3_read_44 {post : Option Value → PH → Prop} {h : PH} {x2 : Int32} (k1 : (h.1 2 0) ≤ x2 → G 2 mX3_read post 148 [some (.ref 2), none, none, none] [] h) (k2 : ¬ (h.1 2 0) ≤ x2 → G 2 mX3_read post 52 [some (.ref 2), some (.ref 1), some (.int x2), none] [] h) : G 2 mX3_read post 44 [some (.ref 2), some (.ref 1), some (.int x2), none] [] h := by
  refine g_iload_n dX3_read_44 rfl ?_
  refine g_aload_n dX3_read_45 rfl ?_
  refine g_getfield (kd := 0) (v := .int (h.1 2 0)) dX3_read_46 fX3_27 (by decide) rfl rfl rfl rfl ?_
  exact g_icmp_ge (tgt := 148) dX3_read_49 (by decide) (fun hc => by refine g_forget (mask := [true, false, false, true]) (L' := [some (.ref 2), none, none, none]) rfl ?_; exact k1 hc) (fun hc => k2 hc)
theorem sX3_read_148 {post : Option Value → PH → Prop} {h : PH} (k : Ev 0 mJ7_fill_53178 [.ref 11, .int 20] h (fun r h' => G 2 mX3_read post 157 [some (.ref 2), none, none, none] (r.toList ++ []) h')) : G 2 mX3_read post 148 [some (.ref 2), none, none, none] [] h := by
  refine g_aload_n dX3_read_148 rfl ?_
  refine g_getfield (kd := 13) (v := .ref 11) dX3_read_149 fX3_24 (by decide) rfl rfl rfl rfl ?_
  refine g_bipush (v := 20) dX3_read_152 rfl ?_
  exact g_callS (n := 2) (as := [.ref 11, .int 20]) (rest := []) dX3_read_154 kJ7_fill_53178 lX3_65 rfl rfl (by simp only [List.map, Value.category]; decide) (by decide) k
theorem sX3_read_52 {post : Option Value → PH → Prop} {h : PH} {x2 : Int32} (k : Ev 1 mX0_figureAt [.ref 1, .int ((4 * x2) + 2)] ((upd2 h.1 2 2 ((h.1 2 2) * 5)), h.2) (fun r h' => G 2 mX3_read post 76 [some (.ref 2), some (.ref 1), some (.int x2), none] (r.toList ++ [.int x2, .ref 7]) h')) : G 2 mX3_read post 52 [some (.ref 2), some (.ref 1), some (.int x2), none] [] h := by
  refine g_aload_n dX3_read_52 rfl ?_
  refine g_dup dX3_read_53 rfl ?_
  refine g_getfield (kd := 0) (v := .int (h.1 2 2)) dX3_read_54 fX3_58 (by decide) rfl rfl rfl rfl ?_
  refine g_iconst (v := 5) dX3_read_57 rfl ?_
  refine g_imul dX3_read_58 ?_
  refine g_putfield dX3_read_59 fX3_58 (by decide) rfl rfl rfl rfl rfl ?_
  refine g_aload_n dX3_read_62 rfl ?_
  refine g_getfield (kd := 9) (v := .ref 7) dX3_read_63 fX3_9 (by decide) rfl rfl rfl rfl ?_
  refine g_iload_n dX3_read_66 rfl ?_
  refine g_aload_n dX3_read_67 rfl ?_
  refine g_iconst (v := 4) dX3_read_68 rfl ?_
  refine g_iload_n dX3_read_69 rfl ?_
  refine g_imul dX3_read_70 ?_
  refine g_iconst (v := 2) dX3_read_71 rfl ?_
  refine g_iadd dX3_read_72 ?_
  exact g_callV (n := 1) (b := 1) (as := [.int ((4 * x2) + 2)]) (rest := [.int x2, .ref 7]) dX3_read_73 kX0_figureAt lX3_44 (by decide) rfl ⟨_, _, rfl⟩ rfl rfl (by simp only [List.map, Value.category]; decide) (by decide) k
theorem sX3_read_157 {post : Option Value → PH → Prop} {h : PH} (k : Ev 0 mX3_measureSlack [.ref 2] h (fun r h' => G 2 mX3_read post 161 [none, none, none, none] (r.toList ++ []) h')) : G 2 mX3_read post 157 [some (.ref 2), none, none, none] [] h := by
  refine g_aload_n dX3_read_157 rfl ?_
  refine g_forget (mask := [false, true, true, true]) (L' := [none, none, none, none]) rfl ?_
  exact g_callV (n := 0) (b := 2) (as := []) (rest := []) dX3_read_158 kX3_measureSlack lX3_71 (by decide) rfl ⟨_, _, rfl⟩ rfl rfl (by simp only [List.map, Value.category]; decide) (by decide) k
theorem sX3_read_76 {post : Option Value → PH → Prop} {h : PH} {x2 s0 s1 : Int32} (hb1 : vp_in s1 5) (k : Ev 1 mX0_figureAt [.ref 1, .int ((4 * x2) + 4)] ((upd2 h.1 7 (Int32.toNatClampNeg s1) s0), h.2) (fun r h' => G 2 mX3_read post 91 [some (.ref 2), some (.ref 1), some (.int x2), none] (r.toList ++ [.int x2, .ref 8]) h')) : G 2 mX3_read post 76 [some (.ref 2), some (.ref 1), some (.int x2), none] [.int s0, .int s1, .ref 7] h := by
  refine g_iastore (n := 5) dX3_read_76 (by decide) rfl rfl rfl hb1 ?_
  refine g_aload_n dX3_read_77 rfl ?_
  refine g_getfield (kd := 10) (v := .ref 8) dX3_read_78 fX3_15 (by decide) rfl rfl rfl rfl ?_
  refine g_iload_n dX3_read_81 rfl ?_
  refine g_aload_n dX3_read_82 rfl ?_
  refine g_iconst (v := 4) dX3_read_83 rfl ?_
  refine g_iload_n dX3_read_84 rfl ?_
  refine g_imul dX3_read_85 ?_
  refine g_iconst (v := 4) dX3_read_86 rfl ?_
  refine g_iadd dX3_read_87 ?_
  exact g_callV (n := 1) (b := 1) (as := [.int ((4 * x2) + 4)]) (rest := [.int x2, .ref 8]) dX3_read_88 kX0_figureAt lX3_44 (by decide) rfl ⟨_, _, rfl⟩ rfl rfl (by simp only [List.map, Value.category]; decide) (by decide) k
theorem sX3_read_161 {post : Option Value → PH → Prop} {h : PH} (k : post none h) : G 2 mX3_read post 161 [none, none, none, none] [] h := by
  exact g_return dX3_read_161 rfl k
theorem sX3_read_91 {post : Option Value → PH → Prop} {h : PH} {x2 s0 s1 : Int32} (hb1 : vp_in s1 5) (hb2 : vp_in x2 5) (k : G 2 mX3_read post 101 [some (.ref 2), some (.ref 1), some (.int x2), some (.int 0)] [] ((upd2 (upd2 h.1 8 (Int32.toNatClampNeg s1) s0) 9 (Int32.toNatClampNeg x2) (-1)), h.2)) : G 2 mX3_read post 91 [some (.ref 2), some (.ref 1), some (.int x2), none] [.int s0, .int s1, .ref 8] h := by
  refine g_iastore (n := 5) dX3_read_91 (by decide) rfl rfl rfl hb1 ?_
  refine g_aload_n dX3_read_92 rfl ?_
  refine g_getfield (kd := 11) (v := .ref 9) dX3_read_93 fX3_18 (by decide) rfl rfl rfl rfl ?_
  refine g_iload_n dX3_read_96 rfl ?_
  refine g_iconst (v := (-1)) dX3_read_97 rfl ?_
  refine g_iastore (n := 5) dX3_read_98 (by decide) rfl rfl rfl hb2 ?_
  refine g_iconst (v := 0) dX3_read_99 rfl ?_
  refine g_istore_n (L' := [some (.ref 2), some (.ref 1), some (.int x2), some (.int 0)]) dX3_read_100 rfl (by decide) rfl ?_
  exact k
theorem sX3_read_101 {post : Option Value → PH → Prop} {h : PH} {x2 x3 : Int32} (k1 : (h.1 2 1) ≤ x3 → G 2 mX3_read post 142 [some (.ref 2), some (.ref 1), some (.int x2), none] [] h) (k2 : ¬ (h.1 2 1) ≤ x3 → G 2 mX3_read post 109 [some (.ref 2), some (.ref 1), some (.int x2), some (.int x3)] [] h) : G 2 mX3_read post 101 [some (.ref 2), some (.ref 1), some (.int x2), some (.int x3)] [] h := by
  refine g_iload_n dX3_read_101 rfl ?_
  refine g_aload_n dX3_read_102 rfl ?_
  refine g_getfield (kd := 0) (v := .int (h.1 2 1)) dX3_read_103 fX3_31 (by decide) rfl rfl rfl rfl ?_
  exact g_icmp_ge (tgt := 142) dX3_read_106 (by decide) (fun hc => by refine g_forget (mask := [true, true, true, false]) (L' := [some (.ref 2), some (.ref 1), some (.int x2), none]) rfl ?_; exact k1 hc) (fun hc => k2 hc)
theorem sX3_read_142 {post : Option Value → PH → Prop} {h : PH} {x2 : Int32} (k : G 2 mX3_read post 44 [some (.ref 2), some (.ref 1), some (.int (x2 + 1)), none] [] h) : G 2 mX3_read post 142 [some (.ref 2), some (.ref 1), some (.int x2), none] [] h := by
  refine g_iinc (v := (x2 + 1)) (L' := [some (.ref 2), some (.ref 1), some (.int (x2 + 1)), none]) dX3_read_142 rfl rfl rfl (by decide) rfl ?_
  refine g_goto (tgt := 44) dX3_read_145 (by decide) ?_
  exact k
theorem sX3_read_109 {post : Option Value → PH → Prop} {h : PH} {x2 x3 : Int32} (hb1 : vp_in x2 5) (hb2 : vp_in x2 5) (k : Ev 1 mX3_lightAt [.ref 2, .int x3, .int (h.1 7 (Int32.toNatClampNeg x2)), .int (h.1 8 (Int32.toNatClampNeg x2))] h (fun r h' => G 2 mX3_read post 135 [some (.ref 2), some (.ref 1), some (.int x2), some (.int x3)] (r.toList ++ [.int ((x2 * 4) + x3), .ref 10]) h')) : G 2 mX3_read post 109 [some (.ref 2), some (.ref 1), some (.int x2), some (.int x3)] [] h := by
  refine g_aload_n dX3_read_109 rfl ?_
  refine g_getfield (kd := 12) (v := .ref 10) dX3_read_110 fX3_21 (by decide) rfl rfl rfl rfl ?_
  refine g_iload_n dX3_read_113 rfl ?_
  refine g_iconst (v := 4) dX3_read_114 rfl ?_
  refine g_imul dX3_read_115 ?_
  refine g_iload_n dX3_read_116 rfl ?_
  refine g_iadd dX3_read_117 ?_
  refine g_aload_n dX3_read_118 rfl ?_
  refine g_iload_n dX3_read_119 rfl ?_
  refine g_aload_n dX3_read_120 rfl ?_
  refine g_getfield (kd := 9) (v := .ref 7) dX3_read_121 fX3_9 (by decide) rfl rfl rfl rfl ?_
  refine g_iload_n dX3_read_124 rfl ?_
  refine g_iaload (n := 5) dX3_read_125 (by decide) rfl rfl rfl hb1 ?_
  refine g_aload_n dX3_read_126 rfl ?_
  refine g_getfield (kd := 10) (v := .ref 8) dX3_read_127 fX3_15 (by decide) rfl rfl rfl rfl ?_
  refine g_iload_n dX3_read_130 rfl ?_
  refine g_iaload (n := 5) dX3_read_131 (by decide) rfl rfl rfl hb2 ?_
  exact g_callV (n := 3) (b := 2) (as := [.int x3, .int (h.1 7 (Int32.toNatClampNeg x2)), .int (h.1 8 (Int32.toNatClampNeg x2))]) (rest := [.int ((x2 * 4) + x3), .ref 10]) dX3_read_132 kX3_lightAt lX3_61 (by decide) rfl ⟨_, _, rfl⟩ rfl rfl (by simp only [List.map, Value.category]; decide) (by decide) k
theorem sX3_read_135 {post : Option Value → PH → Prop} {h : PH} {x2 x3 s0 s1 : Int32} (hb1 : vp_in s1 20) (k : G 2 mX3_read post 101 [some (.ref 2), some (.ref 1), some (.int x2), some (.int (x3 + 1))] [] ((upd2 h.1 10 (Int32.toNatClampNeg s1) s0), h.2)) : G 2 mX3_read post 135 [some (.ref 2), some (.ref 1), some (.int x2), some (.int x3)] [.int s0, .int s1, .ref 10] h := by
  refine g_iastore (n := 20) dX3_read_135 (by decide) rfl rfl rfl hb1 ?_
  refine g_iinc (v := (x3 + 1)) (L' := [some (.ref 2), some (.ref 1), some (.int x2), some (.int (x3 + 1))]) dX3_read_136 rfl rfl rfl (by decide) rfl ?_
  refine g_goto (tgt := 101) dX3_read_139 (by decide) ?_
  exact k
theorem sX3_lightAt_0 {post : Option Value → PH → Prop} {h : PH} {x1 x2 x3 : Int32} (k : Ev 0 mX3_hasPatch [.ref 2, .int (x1 - 1)] h (fun r h' => G 1 mX3_lightAt post 15 [some (.ref 2), some (.int x1), none, some (.int x3), some (.int (x2 <<< ((8 * x1) &&& 31)))] (r.toList ++ []) h')) : G 1 mX3_lightAt post 0 [some (.ref 2), some (.int x1), some (.int x2), some (.int x3), none] [] h := by
  refine g_iload_n dX3_lightAt_0 rfl ?_
  refine g_bipush (v := 8) dX3_lightAt_1 rfl ?_
  refine g_iload_n dX3_lightAt_3 rfl ?_
  refine g_imul dX3_lightAt_4 ?_
  refine g_ishl dX3_lightAt_5 ?_
  refine g_istore (L' := [some (.ref 2), some (.int x1), some (.int x2), some (.int x3), some (.int (x2 <<< ((8 * x1) &&& 31)))]) dX3_lightAt_6 rfl (by decide) rfl ?_
  refine g_aload_n dX3_lightAt_8 rfl ?_
  refine g_iload_n dX3_lightAt_9 rfl ?_
  refine g_iconst (v := 1) dX3_lightAt_10 rfl ?_
  refine g_isub dX3_lightAt_11 ?_
  refine g_forget (mask := [true, true, false, true, true]) (L' := [some (.ref 2), some (.int x1), none, some (.int x3), some (.int (x2 <<< ((8 * x1) &&& 31)))]) rfl ?_
  exact g_callV (n := 1) (b := 2) (as := [.int (x1 - 1)]) (rest := []) dX3_lightAt_12 kX3_hasPatch lX3_74 (by decide) rfl ⟨_, _, rfl⟩ rfl rfl (by simp only [List.map, Value.category]; decide) (by decide) k
theorem sX3_lightAt_15 {post : Option Value → PH → Prop} {h : PH} {x1 x3 x4 s0 : Int32} (k1 : s0 = 0 → G 1 mX3_lightAt post 31 [some (.ref 2), some (.int x1), none, some (.int x3), some (.int x4)] [] h) (k2 : ¬ s0 = 0 → G 1 mX3_lightAt post 18 [some (.ref 2), some (.int x1), none, some (.int x3), some (.int x4)] [] h) : G 1 mX3_lightAt post 15 [some (.ref 2), some (.int x1), none, some (.int x3), some (.int x4)] [.int s0] h := by
  exact g_if_eq (tgt := 31) dX3_lightAt_15 (by decide) (fun hc => k1 hc) (fun hc => k2 hc)
theorem sX3_lightAt_31 {post : Option Value → PH → Prop} {h : PH} {x1 x3 x4 : Int32} (k : Ev 0 mX3_hasPatch [.ref 2, .int (x1 + 1)] h (fun r h' => G 1 mX3_lightAt post 38 [none, some (.int x1), none, some (.int x3), some (.int x4)] (r.toList ++ []) h')) : G 1 mX3_lightAt post 31 [some (.ref 2), some (.int x1), none, some (.int x3), some (.int x4)] [] h := by
  refine g_aload_n dX3_lightAt_31 rfl ?_
  refine g_iload_n dX3_lightAt_32 rfl ?_
  refine g_iconst (v := 1) dX3_lightAt_33 rfl ?_
  refine g_iadd dX3_lightAt_34 ?_
  refine g_forget (mask := [false, true, true, true, true]) (L' := [none, some (.int x1), none, some (.int x3), some (.int x4)]) rfl ?_
  exact g_callV (n := 1) (b := 2) (as := [.int (x1 + 1)]) (rest := []) dX3_lightAt_35 kX3_hasPatch lX3_74 (by decide) rfl ⟨_, _, rfl⟩ rfl rfl (by simp only [List.map, Value.category]; decide) (by decide) k
theorem sX3_lightAt_18 {post : Option Value → PH → Prop} {h : PH} {x1 x3 x4 : Int32} (k : G 1 mX3_lightAt post 31 [some (.ref 2), some (.int x1), none, some (.int x3), some (.int (x4 + (x3 <<< ((8 * (x1 - 1)) &&& 31))))] [] h) : G 1 mX3_lightAt post 18 [some (.ref 2), some (.int x1), none, some (.int x3), some (.int x4)] [] h := by
  refine g_iload dX3_lightAt_18 rfl ?_
  refine g_iload_n dX3_lightAt_20 rfl ?_
  refine g_bipush (v := 8) dX3_lightAt_21 rfl ?_
  refine g_iload_n dX3_lightAt_23 rfl ?_
  refine g_iconst (v := 1) dX3_lightAt_24 rfl ?_
  refine g_isub dX3_lightAt_25 ?_
  refine g_imul dX3_lightAt_26 ?_
  refine g_ishl dX3_lightAt_27 ?_
  refine g_iadd dX3_lightAt_28 ?_
  refine g_istore (L' := [some (.ref 2), some (.int x1), none, some (.int x3), some (.int (x4 + (x3 <<< ((8 * (x1 - 1)) &&& 31))))]) dX3_lightAt_29 rfl (by decide) rfl ?_
  exact k
theorem sX3_lightAt_38 {post : Option Value → PH → Prop} {h : PH} {x1 x3 x4 s0 : Int32} (k1 : s0 = 0 → G 1 mX3_lightAt post 54 [none, none, none, none, some (.int x4)] [] h) (k2 : ¬ s0 = 0 → G 1 mX3_lightAt post 41 [none, some (.int x1), none, some (.int x3), some (.int x4)] [] h) : G 1 mX3_lightAt post 38 [none, some (.int x1), none, some (.int x3), some (.int x4)] [.int s0] h := by
  exact g_if_eq (tgt := 54) dX3_lightAt_38 (by decide) (fun hc => by refine g_forget (mask := [true, false, true, false, true]) (L' := [none, none, none, none, some (.int x4)]) rfl ?_; exact k1 hc) (fun hc => k2 hc)
theorem sX3_lightAt_54 {post : Option Value → PH → Prop} {h : PH} {x4 : Int32} (k : post (some (.int x4)) h) : G 1 mX3_lightAt post 54 [none, none, none, none, some (.int x4)] [] h := by
  refine g_iload dX3_lightAt_54 rfl ?_
  exact g_ireturn (ty := .int) dX3_lightAt_56 rfl rfl k
theorem sX3_lightAt_41 {post : Option Value → PH → Prop} {h : PH} {x1 x3 x4 : Int32} (k : G 1 mX3_lightAt post 54 [none, none, none, none, some (.int (x4 + (x3 <<< ((8 * (x1 + 1)) &&& 31))))] [] h) : G 1 mX3_lightAt post 41 [none, some (.int x1), none, some (.int x3), some (.int x4)] [] h := by
  refine g_iload dX3_lightAt_41 rfl ?_
  refine g_iload_n dX3_lightAt_43 rfl ?_
  refine g_bipush (v := 8) dX3_lightAt_44 rfl ?_
  refine g_iload_n dX3_lightAt_46 rfl ?_
  refine g_iconst (v := 1) dX3_lightAt_47 rfl ?_
  refine g_iadd dX3_lightAt_48 ?_
  refine g_imul dX3_lightAt_49 ?_
  refine g_ishl dX3_lightAt_50 ?_
  refine g_iadd dX3_lightAt_51 ?_
  refine g_istore (L' := [none, some (.int x1), none, some (.int x3), some (.int (x4 + (x3 <<< ((8 * (x1 + 1)) &&& 31))))]) dX3_lightAt_52 rfl (by decide) rfl ?_
  refine g_forget (mask := [true, false, true, false, true]) (L' := [none, none, none, none, some (.int (x4 + (x3 <<< ((8 * (x1 + 1)) &&& 31))))]) rfl ?_
  exact k
theorem sX3_light_0 {post : Option Value → PH → Prop} {h : PH} {x1 x2 : Int32} (k : Ev 0 mX3_hasMirror [.ref 2, .int x1] h (fun r h' => G 1 mX3_light post 5 [some (.ref 2), some (.int x1), some (.int x2)] (r.toList ++ []) h')) : G 1 mX3_light post 0 [some (.ref 2), some (.int x1), some (.int x2)] [] h := by
  refine g_aload_n dX3_light_0 rfl ?_
  refine g_iload_n dX3_light_1 rfl ?_
  exact g_callV (n := 1) (b := 2) (as := [.int x1]) (rest := []) dX3_light_2 kX3_hasMirror lX3_78 (by decide) rfl ⟨_, _, rfl⟩ rfl rfl (by simp only [List.map, Value.category]; decide) (by decide) k
theorem sX3_light_5 {post : Option Value → PH → Prop} {h : PH} {x1 x2 s0 : Int32} (k1 : s0 = 0 → G 1 mX3_light post 29 [none, none, none] [] h) (k2 : ¬ s0 = 0 → G 1 mX3_light post 8 [some (.ref 2), some (.int x1), some (.int x2)] [] h) : G 1 mX3_light post 5 [some (.ref 2), some (.int x1), some (.int x2)] [.int s0] h := by
  exact g_if_eq (tgt := 29) dX3_light_5 (by decide) (fun hc => by refine g_forget (mask := [false, false, false]) (L' := [none, none, none]) rfl ?_; exact k1 hc) (fun hc => k2 hc)
theorem sX3_light_29 {post : Option Value → PH → Prop} {h : PH} (k : post (some (.int 0)) h) : G 1 mX3_light post 29 [none, none, none] [] h := by
  refine g_iconst (v := 0) dX3_light_29 rfl ?_
  exact g_ireturn (ty := .int) dX3_light_30 rfl rfl k
theorem sX3_light_8 {post : Option Value → PH → Prop} {h : PH} {x1 x2 : Int32} (k : Ev 0 mX3_hasPatch [.ref 2, .int x2] h (fun r h' => G 1 mX3_light post 13 [some (.ref 2), some (.int x1), some (.int x2)] (r.toList ++ []) h')) : G 1 mX3_light post 8 [some (.ref 2), some (.int x1), some (.int x2)] [] h := by
  refine g_aload_n dX3_light_8 rfl ?_
  refine g_iload_n dX3_light_9 rfl ?_
  exact g_callV (n := 1) (b := 2) (as := [.int x2]) (rest := []) dX3_light_10 kX3_hasPatch lX3_74 (by decide) rfl ⟨_, _, rfl⟩ rfl rfl (by simp only [List.map, Value.category]; decide) (by decide) k
theorem sX3_light_13 {post : Option Value → PH → Prop} {h : PH} {x1 x2 s0 : Int32} (k1 : s0 = 0 → G 1 mX3_light post 29 [none, none, none] [] h) (k2 : ¬ s0 = 0 → G 1 mX3_light post 16 [some (.ref 2), some (.int x1), some (.int x2)] [] h) : G 1 mX3_light post 13 [some (.ref 2), some (.int x1), some (.int x2)] [.int s0] h := by
  exact g_if_eq (tgt := 29) dX3_light_13 (by decide) (fun hc => by refine g_forget (mask := [false, false, false]) (L' := [none, none, none]) rfl ?_; exact k1 hc) (fun hc => k2 hc)
theorem sX3_light_16 {post : Option Value → PH → Prop} {h : PH} {x1 x2 : Int32} (hb1 : vp_in ((x1 * 4) + x2) 20) (k : post (some (.int (h.1 10 (Int32.toNatClampNeg ((x1 * 4) + x2))))) h) : G 1 mX3_light post 16 [some (.ref 2), some (.int x1), some (.int x2)] [] h := by
  refine g_aload_n dX3_light_16 rfl ?_
  refine g_getfield (kd := 12) (v := .ref 10) dX3_light_17 fX3_21 (by decide) rfl rfl rfl rfl ?_
  refine g_iload_n dX3_light_20 rfl ?_
  refine g_iconst (v := 4) dX3_light_21 rfl ?_
  refine g_imul dX3_light_22 ?_
  refine g_iload_n dX3_light_23 rfl ?_
  refine g_iadd dX3_light_24 ?_
  refine g_iaload (n := 20) dX3_light_25 (by decide) rfl rfl rfl hb1 ?_
  refine g_goto (tgt := 30) dX3_light_26 (by decide) ?_
  exact g_ireturn (ty := .int) dX3_light_30 rfl rfl k
theorem sX3_measureSlack_0 {post : Option Value → PH → Prop} {h : PH} (k : G 0 mX3_measureSlack post 7 [some (.ref 2), some (.int 0)] [] ((upd2 h.1 2 5 0), h.2)) : G 0 mX3_measureSlack post 0 [some (.ref 2), none] [] h := by
  refine g_aload_n dX3_measureSlack_0 rfl ?_
  refine g_iconst (v := 0) dX3_measureSlack_1 rfl ?_
  refine g_putfield dX3_measureSlack_2 fX3_81 (by decide) rfl rfl rfl rfl rfl ?_
  refine g_iconst (v := 0) dX3_measureSlack_5 rfl ?_
  refine g_istore_n (L' := [some (.ref 2), some (.int 0)]) dX3_measureSlack_6 rfl (by decide) rfl ?_
  exact k
theorem sX3_measureSlack_7 {post : Option Value → PH → Prop} {h : PH} {x1 : Int32} (k1 : (h.1 2 1) ≤ x1 → G 0 mX3_measureSlack post 44 [none, none] [] h) (k2 : ¬ (h.1 2 1) ≤ x1 → G 0 mX3_measureSlack post 15 [some (.ref 2), some (.int x1)] [] h) : G 0 mX3_measureSlack post 7 [some (.ref 2), some (.int x1)] [] h := by
  refine g_iload_n dX3_measureSlack_7 rfl ?_
  refine g_aload_n dX3_measureSlack_8 rfl ?_
  refine g_getfield (kd := 0) (v := .int (h.1 2 1)) dX3_measureSlack_9 fX3_31 (by decide) rfl rfl rfl rfl ?_
  exact g_icmp_ge (tgt := 44) dX3_measureSlack_12 (by decide) (fun hc => by refine g_forget (mask := [false, false]) (L' := [none, none]) rfl ?_; exact k1 hc) (fun hc => k2 hc)
theorem sX3_measureSlack_44 {post : Option Value → PH → Prop} {h : PH} (k : post none h) : G 0 mX3_measureSlack post 44 [none, none] [] h := by
  exact g_return dX3_measureSlack_44 rfl k
theorem sX3_measureSlack_15 {post : Option Value → PH → Prop} {h : PH} {x1 : Int32} (hb1 : vp_in x1 4) (k : G 0 mX3_measureSlack post 7 [some (.ref 2), some (.int (x1 + 1))] [] ((upd2 h.1 2 5 ((h.1 2 5) + ((127 - (h.1 11 (Int32.toNatClampNeg x1))) <<< ((8 * x1) &&& 31)))), h.2)) : G 0 mX3_measureSlack post 15 [some (.ref 2), some (.int x1)] [] h := by
  refine g_aload_n dX3_measureSlack_15 rfl ?_
  refine g_dup dX3_measureSlack_16 rfl ?_
  refine g_getfield (kd := 0) (v := .int (h.1 2 5)) dX3_measureSlack_17 fX3_81 (by decide) rfl rfl rfl rfl ?_
  refine g_bipush (v := 127) dX3_measureSlack_20 rfl ?_
  refine g_aload_n dX3_measureSlack_22 rfl ?_
  refine g_getfield (kd := 13) (v := .ref 11) dX3_measureSlack_23 fX3_24 (by decide) rfl rfl rfl rfl ?_
  refine g_iload_n dX3_measureSlack_26 rfl ?_
  refine g_iaload (n := 4) dX3_measureSlack_27 (by decide) rfl rfl rfl hb1 ?_
  refine g_isub dX3_measureSlack_28 ?_
  refine g_bipush (v := 8) dX3_measureSlack_29 rfl ?_
  refine g_iload_n dX3_measureSlack_31 rfl ?_
  refine g_imul dX3_measureSlack_32 ?_
  refine g_ishl dX3_measureSlack_33 ?_
  refine g_iadd dX3_measureSlack_34 ?_
  refine g_putfield dX3_measureSlack_35 fX3_81 (by decide) rfl rfl rfl rfl rfl ?_
  refine g_iinc (v := (x1 + 1)) (L' := [some (.ref 2), some (.int (x1 + 1))]) dX3_measureSlack_38 rfl rfl rfl (by decide) rfl ?_
  refine g_goto (tgt := 7) dX3_measureSlack_41 (by decide) ?_
  exact k
theorem sX3_isSafe_0 {post : Option Value → PH → Prop} {h : PH} {x1 : Int32} (k1 : ¬ ((x1 + (h.1 2 5)) &&& (-2139062144)) = 0 → G 0 mX3_isSafe post 16 [none, none] [] h) (k2 : ((x1 + (h.1 2 5)) &&& (-2139062144)) = 0 → G 0 mX3_isSafe post 12 [none, none] [] h) : G 0 mX3_isSafe post 0 [some (.ref 2), some (.int x1)] [] h := by
  refine g_iload_n dX3_isSafe_0 rfl ?_
  refine g_aload_n dX3_isSafe_1 rfl ?_
  refine g_getfield (kd := 0) (v := .int (h.1 2 5)) dX3_isSafe_2 fX3_81 (by decide) rfl rfl rfl rfl ?_
  refine g_iadd dX3_isSafe_5 ?_
  refine g_ldc dX3_isSafe_6 pX3_84 ?_
  refine g_iand dX3_isSafe_8 ?_
  exact g_if_ne (tgt := 16) dX3_isSafe_9 (by decide) (fun hc => by refine g_forget (mask := [false, false]) (L' := [none, none]) rfl ?_; exact k1 hc) (fun hc => by refine g_forget (mask := [false, false]) (L' := [none, none]) rfl ?_; exact k2 hc)
theorem sX3_isSafe_16 {post : Option Value → PH → Prop} {h : PH} (k : post (some (.int 0)) h) : G 0 mX3_isSafe post 16 [none, none] [] h := by
  refine g_iconst (v := 0) dX3_isSafe_16 rfl ?_
  exact g_ireturn (ty := .boolean) dX3_isSafe_17 rfl rfl k
theorem sX3_isSafe_12 {post : Option Value → PH → Prop} {h : PH} (k : post (some (.int 1)) h) : G 0 mX3_isSafe post 12 [none, none] [] h := by
  refine g_iconst (v := 1) dX3_isSafe_12 rfl ?_
  refine g_goto (tgt := 17) dX3_isSafe_13 (by decide) ?_
  exact g_ireturn (ty := .boolean) dX3_isSafe_17 rfl rfl k
theorem sX3_heats_0 {post : Option Value → PH → Prop} {h : PH} (k : Ev 2 mX3_heatsWithout [.ref 2, .int (h.1 2 3)] h (fun r h' => G 3 mX3_heats post 8 [none] (r.toList ++ []) h')) : G 3 mX3_heats post 0 [some (.ref 2)] [] h := by
  refine g_aload_n dX3_heats_0 rfl ?_
  refine g_aload_n dX3_heats_1 rfl ?_
  refine g_getfield (kd := 0) (v := .int (h.1 2 3)) dX3_heats_2 fX3_34 (by decide) rfl rfl rfl rfl ?_
  refine g_forget (mask := [false]) (L' := [none]) rfl ?_
  exact g_callV (n := 1) (b := 2) (as := [.int (h.1 2 3)]) (rest := []) dX3_heats_5 kX3_heatsWithout lX3_85 (by decide) rfl ⟨_, _, rfl⟩ rfl rfl (by simp only [List.map, Value.category]; decide) (by decide) k
theorem sX3_heats_8 {post : Option Value → PH → Prop} {h : PH} {s0 : Int32} (k : post (some (.int s0)) h) : G 3 mX3_heats post 8 [none] [.int s0] h := by
  exact g_ireturn (ty := .int) dX3_heats_8 rfl rfl k
theorem sX3_heatsWithout_0 {post : Option Value → PH → Prop} {h : PH} {x1 : Int32} (k : G 2 mX3_heatsWithout post 4 [some (.ref 2), some (.int x1), some (.int 0), some (.int 0)] [] h) : G 2 mX3_heatsWithout post 0 [some (.ref 2), some (.int x1), none, none] [] h := by
  refine g_iconst (v := 0) dX3_heatsWithout_0 rfl ?_
  refine g_istore_n (L' := [some (.ref 2), some (.int x1), some (.int 0), none]) dX3_heatsWithout_1 rfl (by decide) rfl ?_
  refine g_iconst (v := 0) dX3_heatsWithout_2 rfl ?_
  refine g_istore_n (L' := [some (.ref 2), some (.int x1), some (.int 0), some (.int 0)]) dX3_heatsWithout_3 rfl (by decide) rfl ?_
  exact k
theorem sX3_heatsWithout_4 {post : Option Value → PH → Prop} {h : PH} {x1 x2 x3 : Int32} (k1 : (h.1 2 0) ≤ x3 → G 2 mX3_heatsWithout post 40 [none, none, some (.int x2), none] [] h) (k2 : ¬ (h.1 2 0) ≤ x3 → G 2 mX3_heatsWithout post 12 [some (.ref 2), some (.int x1), some (.int x2), some (.int x3)] [] h) : G 2 mX3_heatsWithout post 4 [some (.ref 2), some (.int x1), some (.int x2), some (.int x3)] [] h := by
  refine g_iload_n dX3_heatsWithout_4 rfl ?_
  refine g_aload_n dX3_heatsWithout_5 rfl ?_
  refine g_getfield (kd := 0) (v := .int (h.1 2 0)) dX3_heatsWithout_6 fX3_27 (by decide) rfl rfl rfl rfl ?_
  exact g_icmp_ge (tgt := 40) dX3_heatsWithout_9 (by decide) (fun hc => by refine g_forget (mask := [false, false, true, false]) (L' := [none, none, some (.int x2), none]) rfl ?_; exact k1 hc) (fun hc => k2 hc)
theorem sX3_heatsWithout_40 {post : Option Value → PH → Prop} {h : PH} {x2 : Int32} (k : post (some (.int x2)) h) : G 2 mX3_heatsWithout post 40 [none, none, some (.int x2), none] [] h := by
  refine g_iload_n dX3_heatsWithout_40 rfl ?_
  exact g_ireturn (ty := .int) dX3_heatsWithout_41 rfl rfl k
theorem sX3_heatsWithout_12 {post : Option Value → PH → Prop} {h : PH} {x1 x2 x3 : Int32} (k : Ev 0 mX4_bit [.int x1, .int x3] h (fun r h' => G 2 mX3_heatsWithout post 17 [some (.ref 2), some (.int x1), some (.int x2), some (.int x3)] (r.toList ++ []) h')) : G 2 mX3_heatsWithout post 12 [some (.ref 2), some (.int x1), some (.int x2), some (.int x3)] [] h := by
  refine g_iload_n dX3_heatsWithout_12 rfl ?_
  refine g_iload_n dX3_heatsWithout_13 rfl ?_
  exact g_callS (n := 2) (as := [.int x1, .int x3]) (rest := []) dX3_heatsWithout_14 kX4_bit lX3_37 rfl rfl (by simp only [List.map, Value.category]; decide) (by decide) k
theorem sX3_heatsWithout_17 {post : Option Value → PH → Prop} {h : PH} {x1 x2 x3 s0 : Int32} (k1 : ¬ s0 = 0 → G 2 mX3_heatsWithout post 34 [some (.ref 2), some (.int x1), some (.int x2), some (.int x3)] [] h) (k2 : s0 = 0 → G 2 mX3_heatsWithout post 20 [some (.ref 2), some (.int x1), some (.int x2), some (.int x3)] [] h) : G 2 mX3_heatsWithout post 17 [some (.ref 2), some (.int x1), some (.int x2), some (.int x3)] [.int s0] h := by
  exact g_if_ne (tgt := 34) dX3_heatsWithout_17 (by decide) (fun hc => k1 hc) (fun hc => k2 hc)
theorem sX3_heatsWithout_34 {post : Option Value → PH → Prop} {h : PH} {x1 x2 x3 : Int32} (k : G 2 mX3_heatsWithout post 4 [some (.ref 2), some (.int x1), some (.int x2), some (.int (x3 + 1))] [] h) : G 2 mX3_heatsWithout post 34 [some (.ref 2), some (.int x1), some (.int x2), some (.int x3)] [] h := by
  refine g_iinc (v := (x3 + 1)) (L' := [some (.ref 2), some (.int x1), some (.int x2), some (.int (x3 + 1))]) dX3_heatsWithout_34 rfl rfl rfl (by decide) rfl ?_
  refine g_goto (tgt := 4) dX3_heatsWithout_37 (by decide) ?_
  exact k
theorem sX3_heatsWithout_20 {post : Option Value → PH → Prop} {h : PH} {x1 x2 x3 : Int32} (hb1 : vp_in x3 5) (k : Ev 1 mX3_light [.ref 2, .int x3, .int (h.1 9 (Int32.toNatClampNeg x3))] h (fun r h' => G 2 mX3_heatsWithout post 32 [some (.ref 2), some (.int x1), none, some (.int x3)] (r.toList ++ [.int x2]) h')) : G 2 mX3_heatsWithout post 20 [some (.ref 2), some (.int x1), some (.int x2), some (.int x3)] [] h := by
  refine g_iload_n dX3_heatsWithout_20 rfl ?_
  refine g_aload_n dX3_heatsWithout_21 rfl ?_
  refine g_iload_n dX3_heatsWithout_22 rfl ?_
  refine g_aload_n dX3_heatsWithout_23 rfl ?_
  refine g_getfield (kd := 11) (v := .ref 9) dX3_heatsWithout_24 fX3_18 (by decide) rfl rfl rfl rfl ?_
  refine g_iload_n dX3_heatsWithout_27 rfl ?_
  refine g_iaload (n := 5) dX3_heatsWithout_28 (by decide) rfl rfl rfl hb1 ?_
  refine g_forget (mask := [true, true, false, true]) (L' := [some (.ref 2), some (.int x1), none, some (.int x3)]) rfl ?_
  exact g_callV (n := 2) (b := 2) (as := [.int x3, .int (h.1 9 (Int32.toNatClampNeg x3))]) (rest := [.int x2]) dX3_heatsWithout_29 kX3_light lX3_88 (by decide) rfl ⟨_, _, rfl⟩ rfl rfl (by simp only [List.map, Value.category]; decide) (by decide) k
theorem sX3_heatsWithout_32 {post : Option Value → PH → Prop} {h : PH} {x1 x3 s0 s1 : Int32} (k : G 2 mX3_heatsWithout post 34 [some (.ref 2), some (.int x1), some (.int (s1 + s0)), some (.int x3)] [] h) : G 2 mX3_heatsWithout post 32 [some (.ref 2), some (.int x1), none, some (.int x3)] [.int s0, .int s1] h := by
  refine g_iadd dX3_heatsWithout_32 ?_
  refine g_istore_n (L' := [some (.ref 2), some (.int x1), some (.int (s1 + s0)), some (.int x3)]) dX3_heatsWithout_33 rfl (by decide) rfl ?_
  exact k
theorem sX3_aimingAt_0 {post : Option Value → PH → Prop} {h : PH} {x1 : Int32} (k : G 0 mX3_aimingAt post 4 [some (.ref 2), some (.int x1), some (.int 0), some (.int 0)] [] h) : G 0 mX3_aimingAt post 0 [some (.ref 2), some (.int x1), none, none] [] h := by
  refine g_iconst (v := 0) dX3_aimingAt_0 rfl ?_
  refine g_istore_n (L' := [some (.ref 2), some (.int x1), some (.int 0), none]) dX3_aimingAt_1 rfl (by decide) rfl ?_
  refine g_iconst (v := 0) dX3_aimingAt_2 rfl ?_
  refine g_istore_n (L' := [some (.ref 2), some (.int x1), some (.int 0), some (.int 0)]) dX3_aimingAt_3 rfl (by decide) rfl ?_
  exact k
theorem sX3_aimingAt_4 {post : Option Value → PH → Prop} {h : PH} {x1 x2 x3 : Int32} (k1 : (h.1 2 0) ≤ x3 → G 0 mX3_aimingAt post 31 [none, none, some (.int x2), none] [] h) (k2 : ¬ (h.1 2 0) ≤ x3 → G 0 mX3_aimingAt post 12 [some (.ref 2), some (.int x1), some (.int x2), some (.int x3)] [] h) : G 0 mX3_aimingAt post 4 [some (.ref 2), some (.int x1), some (.int x2), some (.int x3)] [] h := by
  refine g_iload_n dX3_aimingAt_4 rfl ?_
  refine g_aload_n dX3_aimingAt_5 rfl ?_
  refine g_getfield (kd := 0) (v := .int (h.1 2 0)) dX3_aimingAt_6 fX3_27 (by decide) rfl rfl rfl rfl ?_
  exact g_icmp_ge (tgt := 31) dX3_aimingAt_9 (by decide) (fun hc => by refine g_forget (mask := [false, false, true, false]) (L' := [none, none, some (.int x2), none]) rfl ?_; exact k1 hc) (fun hc => k2 hc)
theorem sX3_aimingAt_31 {post : Option Value → PH → Prop} {h : PH} {x2 : Int32} (k : post (some (.int x2)) h) : G 0 mX3_aimingAt post 31 [none, none, some (.int x2), none] [] h := by
  refine g_iload_n dX3_aimingAt_31 rfl ?_
  exact g_ireturn (ty := .int) dX3_aimingAt_32 rfl rfl k
theorem sX3_aimingAt_12 {post : Option Value → PH → Prop} {h : PH} {x1 x2 x3 : Int32} (hb1 : vp_in x3 5) (k1 : ¬ (h.1 9 (Int32.toNatClampNeg x3)) = x1 → G 0 mX3_aimingAt post 25 [some (.ref 2), some (.int x1), some (.int x2), some (.int x3)] [] h) (k2 : (h.1 9 (Int32.toNatClampNeg x3)) = x1 → G 0 mX3_aimingAt post 22 [some (.ref 2), some (.int x1), some (.int x2), some (.int x3)] [] h) : G 0 mX3_aimingAt post 12 [some (.ref 2), some (.int x1), some (.int x2), some (.int x3)] [] h := by
  refine g_aload_n dX3_aimingAt_12 rfl ?_
  refine g_getfield (kd := 11) (v := .ref 9) dX3_aimingAt_13 fX3_18 (by decide) rfl rfl rfl rfl ?_
  refine g_iload_n dX3_aimingAt_16 rfl ?_
  refine g_iaload (n := 5) dX3_aimingAt_17 (by decide) rfl rfl rfl hb1 ?_
  refine g_iload_n dX3_aimingAt_18 rfl ?_
  exact g_icmp_ne (tgt := 25) dX3_aimingAt_19 (by decide) (fun hc => k1 hc) (fun hc => k2 hc)
theorem sX3_aimingAt_25 {post : Option Value → PH → Prop} {h : PH} {x1 x2 x3 : Int32} (k : G 0 mX3_aimingAt post 4 [some (.ref 2), some (.int x1), some (.int x2), some (.int (x3 + 1))] [] h) : G 0 mX3_aimingAt post 25 [some (.ref 2), some (.int x1), some (.int x2), some (.int x3)] [] h := by
  refine g_iinc (v := (x3 + 1)) (L' := [some (.ref 2), some (.int x1), some (.int x2), some (.int (x3 + 1))]) dX3_aimingAt_25 rfl rfl rfl (by decide) rfl ?_
  refine g_goto (tgt := 4) dX3_aimingAt_28 (by decide) ?_
  exact k
theorem sX3_aimingAt_22 {post : Option Value → PH → Prop} {h : PH} {x1 x2 x3 : Int32} (k : G 0 mX3_aimingAt post 25 [some (.ref 2), some (.int x1), some (.int (x2 + 1)), some (.int x3)] [] h) : G 0 mX3_aimingAt post 22 [some (.ref 2), some (.int x1), some (.int x2), some (.int x3)] [] h := by
  refine g_iinc (v := (x2 + 1)) (L' := [some (.ref 2), some (.int x1), some (.int (x2 + 1)), some (.int x3)]) dX3_aimingAt_22 rfl rfl rfl (by decide) rfl ?_
  exact k
theorem sX3_bound_0 {post : Option Value → PH → Prop} {h : PH} (k : G 3 mX3_bound post 4 [some (.ref 2), some (.int 0), some (.int 0), none] [] h) : G 3 mX3_bound post 0 [some (.ref 2), none, none, none] [] h := by
  refine g_iconst (v := 0) dX3_bound_0 rfl ?_
  refine g_istore_n (L' := [some (.ref 2), some (.int 0), none, none]) dX3_bound_1 rfl (by decide) rfl ?_
  refine g_iconst (v := 0) dX3_bound_2 rfl ?_
  refine g_istore_n (L' := [some (.ref 2), some (.int 0), some (.int 0), none]) dX3_bound_3 rfl (by decide) rfl ?_
  exact k
theorem sX3_bound_4 {post : Option Value → PH → Prop} {h : PH} {x1 x2 : Int32} (k1 : (h.1 2 0) ≤ x2 → G 3 mX3_bound post 59 [some (.ref 2), some (.int x1), none, none] [] h) (k2 : ¬ (h.1 2 0) ≤ x2 → G 3 mX3_bound post 12 [some (.ref 2), some (.int x1), some (.int x2), none] [] h) : G 3 mX3_bound post 4 [some (.ref 2), some (.int x1), some (.int x2), none] [] h := by
  refine g_iload_n dX3_bound_4 rfl ?_
  refine g_aload_n dX3_bound_5 rfl ?_
  refine g_getfield (kd := 0) (v := .int (h.1 2 0)) dX3_bound_6 fX3_27 (by decide) rfl rfl rfl rfl ?_
  exact g_icmp_ge (tgt := 59) dX3_bound_9 (by decide) (fun hc => by refine g_forget (mask := [true, true, false, true]) (L' := [some (.ref 2), some (.int x1), none, none]) rfl ?_; exact k1 hc) (fun hc => k2 hc)
theorem sX3_bound_59 {post : Option Value → PH → Prop} {h : PH} {x1 : Int32} (k : G 3 mX3_bound post 63 [some (.ref 2), some (.int x1), some (.int 0), some (.int 0)] [] h) : G 3 mX3_bound post 59 [some (.ref 2), some (.int x1), none, none] [] h := by
  refine g_iconst (v := 0) dX3_bound_59 rfl ?_
  refine g_istore_n (L' := [some (.ref 2), some (.int x1), some (.int 0), none]) dX3_bound_60 rfl (by decide) rfl ?_
  refine g_iconst (v := 0) dX3_bound_61 rfl ?_
  refine g_istore_n (L' := [some (.ref 2), some (.int x1), some (.int 0), some (.int 0)]) dX3_bound_62 rfl (by decide) rfl ?_
  exact k
theorem sX3_bound_12 {post : Option Value → PH → Prop} {h : PH} {x1 x2 : Int32} (k : Ev 1 mX3_isShaded [.ref 2, .int x2] h (fun r h' => G 3 mX3_bound post 17 [some (.ref 2), some (.int x1), some (.int x2), none] (r.toList ++ []) h')) : G 3 mX3_bound post 12 [some (.ref 2), some (.int x1), some (.int x2), none] [] h := by
  refine g_aload_n dX3_bound_12 rfl ?_
  refine g_iload_n dX3_bound_13 rfl ?_
  exact g_callV (n := 1) (b := 2) (as := [.int x2]) (rest := []) dX3_bound_14 kX3_isShaded lX3_91 (by decide) rfl ⟨_, _, rfl⟩ rfl rfl (by simp only [List.map, Value.category]; decide) (by decide) k
theorem sX3_bound_63 {post : Option Value → PH → Prop} {h : PH} {x1 x2 x3 : Int32} (k1 : (h.1 2 1) ≤ x3 → G 3 mX3_bound post 86 [none, some (.int x1), some (.int x2), none] [] h) (k2 : ¬ (h.1 2 1) ≤ x3 → G 3 mX3_bound post 71 [some (.ref 2), some (.int x1), some (.int x2), some (.int x3)] [] h) : G 3 mX3_bound post 63 [some (.ref 2), some (.int x1), some (.int x2), some (.int x3)] [] h := by
  refine g_iload_n dX3_bound_63 rfl ?_
  refine g_aload_n dX3_bound_64 rfl ?_
  refine g_getfield (kd := 0) (v := .int (h.1 2 1)) dX3_bound_65 fX3_31 (by decide) rfl rfl rfl rfl ?_
  exact g_icmp_ge (tgt := 86) dX3_bound_68 (by decide) (fun hc => by refine g_forget (mask := [false, true, true, false]) (L' := [none, some (.int x1), some (.int x2), none]) rfl ?_; exact k1 hc) (fun hc => k2 hc)
theorem sX3_bound_17 {post : Option Value → PH → Prop} {h : PH} {x1 x2 s0 : Int32} (k1 : ¬ s0 = 0 → G 3 mX3_bound post 53 [some (.ref 2), some (.int x1), some (.int x2), none] [] h) (k2 : s0 = 0 → G 3 mX3_bound post 20 [some (.ref 2), some (.int x1), some (.int x2), none] [] h) : G 3 mX3_bound post 17 [some (.ref 2), some (.int x1), some (.int x2), none] [.int s0] h := by
  exact g_if_ne (tgt := 53) dX3_bound_17 (by decide) (fun hc => k1 hc) (fun hc => k2 hc)
theorem sX3_bound_86 {post : Option Value → PH → Prop} {h : PH} {x1 x2 : Int32} (k : post (some (.int (if x2 < x1 then x2 else x1))) h) : G 3 mX3_bound post 86 [none, some (.int x1), some (.int x2), none] [] h := by
  refine g_iload_n dX3_bound_86 rfl ?_
  refine g_iload_n dX3_bound_87 rfl ?_
  refine g_mmin dX3_bound_88 mmX3_50 (by simp only [List.map, Value.category]; decide) (by decide) ?_
  exact g_ireturn (ty := .int) dX3_bound_91 rfl rfl k
theorem sX3_bound_71 {post : Option Value → PH → Prop} {h : PH} {x1 x2 x3 : Int32} (hb1 : vp_in x3 4) (k : G 3 mX3_bound post 63 [some (.ref 2), some (.int x1), some (.int (x2 + (h.1 11 (Int32.toNatClampNeg x3)))), some (.int (x3 + 1))] [] h) : G 3 mX3_bound post 71 [some (.ref 2), some (.int x1), some (.int x2), some (.int x3)] [] h := by
  refine g_iload_n dX3_bound_71 rfl ?_
  refine g_aload_n dX3_bound_72 rfl ?_
  refine g_getfield (kd := 13) (v := .ref 11) dX3_bound_73 fX3_24 (by decide) rfl rfl rfl rfl ?_
  refine g_iload_n dX3_bound_76 rfl ?_
  refine g_iaload (n := 4) dX3_bound_77 (by decide) rfl rfl rfl hb1 ?_
  refine g_iadd dX3_bound_78 ?_
  refine g_istore_n (L' := [some (.ref 2), some (.int x1), some (.int (x2 + (h.1 11 (Int32.toNatClampNeg x3)))), some (.int x3)]) dX3_bound_79 rfl (by decide) rfl ?_
  refine g_iinc (v := (x3 + 1)) (L' := [some (.ref 2), some (.int x1), some (.int (x2 + (h.1 11 (Int32.toNatClampNeg x3)))), some (.int (x3 + 1))]) dX3_bound_80 rfl rfl rfl (by decide) rfl ?_
  refine g_goto (tgt := 63) dX3_bound_83 (by decide) ?_
  exact k
theorem sX3_bound_53 {post : Option Value → PH → Prop} {h : PH} {x1 x2 : Int32} (k : G 3 mX3_bound post 4 [some (.ref 2), some (.int x1), some (.int (x2 + 1)), none] [] h) : G 3 mX3_bound post 53 [some (.ref 2), some (.int x1), some (.int x2), none] [] h := by
  refine g_iinc (v := (x2 + 1)) (L' := [some (.ref 2), some (.int x1), some (.int (x2 + 1)), none]) dX3_bound_53 rfl rfl rfl (by decide) rfl ?_
  refine g_goto (tgt := 4) dX3_bound_56 (by decide) ?_
  exact k
theorem sX3_bound_20 {post : Option Value → PH → Prop} {h : PH} {x1 x2 : Int32} (k : Ev 1 mX3_isStuck [.ref 2, .int x2] h (fun r h' => G 3 mX3_bound post 26 [some (.ref 2), none, some (.int x2), none] (r.toList ++ [.int x1]) h')) : G 3 mX3_bound post 20 [some (.ref 2), some (.int x1), some (.int x2), none] [] h := by
  refine g_iload_n dX3_bound_20 rfl ?_
  refine g_aload_n dX3_bound_21 rfl ?_
  refine g_iload_n dX3_bound_22 rfl ?_
  refine g_forget (mask := [true, false, true, true]) (L' := [some (.ref 2), none, some (.int x2), none]) rfl ?_
  exact g_callV (n := 1) (b := 2) (as := [.int x2]) (rest := [.int x1]) dX3_bound_23 kX3_isStuck lX3_94 (by decide) rfl ⟨_, _, rfl⟩ rfl rfl (by simp only [List.map, Value.category]; decide) (by decide) k
theorem sX3_bound_26 {post : Option Value → PH → Prop} {h : PH} {x2 s0 s1 : Int32} (k1 : s0 = 0 → G 3 mX3_bound post 46 [some (.ref 2), none, some (.int x2), none] [.int s1] h) (k2 : ¬ s0 = 0 → G 3 mX3_bound post 29 [some (.ref 2), none, some (.int x2), none] [.int s1] h) : G 3 mX3_bound post 26 [some (.ref 2), none, some (.int x2), none] [.int s0, .int s1] h := by
  exact g_if_eq (tgt := 46) dX3_bound_26 (by decide) (fun hc => k1 hc) (fun hc => k2 hc)
theorem sX3_bound_46 {post : Option Value → PH → Prop} {h : PH} {x2 s0 : Int32} (k : Ev 2 mX3_mostLight [.ref 2, .int x2] h (fun r h' => G 3 mX3_bound post 51 [some (.ref 2), none, some (.int x2), none] (r.toList ++ [.int s0]) h')) : G 3 mX3_bound post 46 [some (.ref 2), none, some (.int x2), none] [.int s0] h := by
  refine g_aload_n dX3_bound_46 rfl ?_
  refine g_iload_n dX3_bound_47 rfl ?_
  exact g_callV (n := 1) (b := 2) (as := [.int x2]) (rest := [.int s0]) dX3_bound_48 kX3_mostLight lX3_100 (by decide) rfl ⟨_, _, rfl⟩ rfl rfl (by simp only [List.map, Value.category]; decide) (by decide) k
theorem sX3_bound_29 {post : Option Value → PH → Prop} {h : PH} {x2 s0 : Int32} (hb1 : vp_in x2 5) (k : Ev 1 mX3_light [.ref 2, .int x2, .int (h.1 9 (Int32.toNatClampNeg x2))] h (fun r h' => G 3 mX3_bound post 40 [some (.ref 2), none, some (.int x2), none] (r.toList ++ [.int s0]) h')) : G 3 mX3_bound post 29 [some (.ref 2), none, some (.int x2), none] [.int s0] h := by
  refine g_aload_n dX3_bound_29 rfl ?_
  refine g_iload_n dX3_bound_30 rfl ?_
  refine g_aload_n dX3_bound_31 rfl ?_
  refine g_getfield (kd := 11) (v := .ref 9) dX3_bound_32 fX3_18 (by decide) rfl rfl rfl rfl ?_
  refine g_iload_n dX3_bound_35 rfl ?_
  refine g_iaload (n := 5) dX3_bound_36 (by decide) rfl rfl rfl hb1 ?_
  exact g_callV (n := 2) (b := 2) (as := [.int x2, .int (h.1 9 (Int32.toNatClampNeg x2))]) (rest := [.int s0]) dX3_bound_37 kX3_light lX3_88 (by decide) rfl ⟨_, _, rfl⟩ rfl rfl (by simp only [List.map, Value.category]; decide) (by decide) k
theorem sX3_bound_51 {post : Option Value → PH → Prop} {h : PH} {x2 s0 s1 : Int32} (k : G 3 mX3_bound post 53 [some (.ref 2), some (.int (s1 + s0)), some (.int x2), none] [] h) : G 3 mX3_bound post 51 [some (.ref 2), none, some (.int x2), none] [.int s0, .int s1] h := by
  refine g_iadd dX3_bound_51 ?_
  refine g_istore_n (L' := [some (.ref 2), some (.int (s1 + s0)), some (.int x2), none]) dX3_bound_52 rfl (by decide) rfl ?_
  exact k
theorem sX3_bound_40 {post : Option Value → PH → Prop} {h : PH} {x2 s0 s1 : Int32} (k : Ev 1 mX4_sum [.int s0] h (fun r h' => G 3 mX3_bound post 43 [some (.ref 2), none, some (.int x2), none] (r.toList ++ [.int s1]) h')) : G 3 mX3_bound post 40 [some (.ref 2), none, some (.int x2), none] [.int s0, .int s1] h := by
  exact g_callS (n := 1) (as := [.int s0]) (rest := [.int s1]) dX3_bound_40 kX4_sum lX3_97 rfl rfl (by simp only [List.map, Value.category]; decide) (by decide) k
theorem sX3_bound_43 {post : Option Value → PH → Prop} {h : PH} {x2 s0 s1 : Int32} (k : G 3 mX3_bound post 53 [some (.ref 2), some (.int (s1 + s0)), some (.int x2), none] [] h) : G 3 mX3_bound post 43 [some (.ref 2), none, some (.int x2), none] [.int s0, .int s1] h := by
  refine g_goto (tgt := 51) dX3_bound_43 (by decide) ?_
  refine g_iadd dX3_bound_51 ?_
  refine g_istore_n (L' := [some (.ref 2), some (.int (s1 + s0)), some (.int x2), none]) dX3_bound_52 rfl (by decide) rfl ?_
  exact k
theorem sX3_mostLight_0 {post : Option Value → PH → Prop} {h : PH} {x1 : Int32} (k : G 2 mX3_mostLight post 4 [some (.ref 2), some (.int x1), some (.int 0), some (.int 0)] [] h) : G 2 mX3_mostLight post 0 [some (.ref 2), some (.int x1), none, none] [] h := by
  refine g_iconst (v := 0) dX3_mostLight_0 rfl ?_
  refine g_istore_n (L' := [some (.ref 2), some (.int x1), some (.int 0), none]) dX3_mostLight_1 rfl (by decide) rfl ?_
  refine g_iconst (v := 0) dX3_mostLight_2 rfl ?_
  refine g_istore_n (L' := [some (.ref 2), some (.int x1), some (.int 0), some (.int 0)]) dX3_mostLight_3 rfl (by decide) rfl ?_
  exact k
theorem sX3_mostLight_4 {post : Option Value → PH → Prop} {h : PH} {x1 x2 x3 : Int32} (k1 : (h.1 2 1) ≤ x3 → G 2 mX3_mostLight post 32 [none, none, some (.int x2), none] [] h) (k2 : ¬ (h.1 2 1) ≤ x3 → G 2 mX3_mostLight post 12 [some (.ref 2), some (.int x1), some (.int x2), some (.int x3)] [] h) : G 2 mX3_mostLight post 4 [some (.ref 2), some (.int x1), some (.int x2), some (.int x3)] [] h := by
  refine g_iload_n dX3_mostLight_4 rfl ?_
  refine g_aload_n dX3_mostLight_5 rfl ?_
  refine g_getfield (kd := 0) (v := .int (h.1 2 1)) dX3_mostLight_6 fX3_31 (by decide) rfl rfl rfl rfl ?_
  exact g_icmp_ge (tgt := 32) dX3_mostLight_9 (by decide) (fun hc => by refine g_forget (mask := [false, false, true, false]) (L' := [none, none, some (.int x2), none]) rfl ?_; exact k1 hc) (fun hc => k2 hc)
theorem sX3_mostLight_32 {post : Option Value → PH → Prop} {h : PH} {x2 : Int32} (k : post (some (.int x2)) h) : G 2 mX3_mostLight post 32 [none, none, some (.int x2), none] [] h := by
  refine g_iload_n dX3_mostLight_32 rfl ?_
  exact g_ireturn (ty := .int) dX3_mostLight_33 rfl rfl k
theorem sX3_mostLight_12 {post : Option Value → PH → Prop} {h : PH} {x1 x2 x3 : Int32} (k : Ev 1 mX3_light [.ref 2, .int x1, .int x3] h (fun r h' => G 2 mX3_mostLight post 19 [some (.ref 2), some (.int x1), none, some (.int x3)] (r.toList ++ [.int x2]) h')) : G 2 mX3_mostLight post 12 [some (.ref 2), some (.int x1), some (.int x2), some (.int x3)] [] h := by
  refine g_iload_n dX3_mostLight_12 rfl ?_
  refine g_aload_n dX3_mostLight_13 rfl ?_
  refine g_iload_n dX3_mostLight_14 rfl ?_
  refine g_iload_n dX3_mostLight_15 rfl ?_
  refine g_forget (mask := [true, true, false, true]) (L' := [some (.ref 2), some (.int x1), none, some (.int x3)]) rfl ?_
  exact g_callV (n := 2) (b := 2) (as := [.int x1, .int x3]) (rest := [.int x2]) dX3_mostLight_16 kX3_light lX3_88 (by decide) rfl ⟨_, _, rfl⟩ rfl rfl (by simp only [List.map, Value.category]; decide) (by decide) k
theorem sX3_mostLight_19 {post : Option Value → PH → Prop} {h : PH} {x1 x3 s0 s1 : Int32} (k : Ev 1 mX4_sum [.int s0] h (fun r h' => G 2 mX3_mostLight post 22 [some (.ref 2), some (.int x1), none, some (.int x3)] (r.toList ++ [.int s1]) h')) : G 2 mX3_mostLight post 19 [some (.ref 2), some (.int x1), none, some (.int x3)] [.int s0, .int s1] h := by
  exact g_callS (n := 1) (as := [.int s0]) (rest := [.int s1]) dX3_mostLight_19 kX4_sum lX3_97 rfl rfl (by simp only [List.map, Value.category]; decide) (by decide) k
theorem sX3_mostLight_22 {post : Option Value → PH → Prop} {h : PH} {x1 x3 s0 s1 : Int32} (k : G 2 mX3_mostLight post 4 [some (.ref 2), some (.int x1), some (.int (if s1 < s0 then s0 else s1)), some (.int (x3 + 1))] [] h) : G 2 mX3_mostLight post 22 [some (.ref 2), some (.int x1), none, some (.int x3)] [.int s0, .int s1] h := by
  refine g_mmax dX3_mostLight_22 mmX3_103 (by simp only [List.map, Value.category]; decide) (by decide) ?_
  refine g_istore_n (L' := [some (.ref 2), some (.int x1), some (.int (if s1 < s0 then s0 else s1)), some (.int x3)]) dX3_mostLight_25 rfl (by decide) rfl ?_
  refine g_iinc (v := (x3 + 1)) (L' := [some (.ref 2), some (.int x1), some (.int (if s1 < s0 then s0 else s1)), some (.int (x3 + 1))]) dX3_mostLight_26 rfl rfl rfl (by decide) rfl ?_
  refine g_goto (tgt := 4) dX3_mostLight_29 (by decide) ?_
  exact k
theorem sX3_placeNow_0 {post : Option Value → PH → Prop} {h : PH} (k : G 0 mX3_placeNow post 4 [some (.ref 2), some (.int 0), some (.int 0)] [] h) : G 0 mX3_placeNow post 0 [some (.ref 2), none, none] [] h := by
  refine g_iconst (v := 0) dX3_placeNow_0 rfl ?_
  refine g_istore_n (L' := [some (.ref 2), some (.int 0), none]) dX3_placeNow_1 rfl (by decide) rfl ?_
  refine g_iconst (v := 0) dX3_placeNow_2 rfl ?_
  refine g_istore_n (L' := [some (.ref 2), some (.int 0), some (.int 0)]) dX3_placeNow_3 rfl (by decide) rfl ?_
  exact k
theorem sX3_placeNow_4 {post : Option Value → PH → Prop} {h : PH} {x1 x2 : Int32} (k1 : (h.1 2 0) ≤ x2 → G 0 mX3_placeNow post 35 [none, some (.int x1), none] [] h) (k2 : ¬ (h.1 2 0) ≤ x2 → G 0 mX3_placeNow post 12 [some (.ref 2), some (.int x1), some (.int x2)] [] h) : G 0 mX3_placeNow post 4 [some (.ref 2), some (.int x1), some (.int x2)] [] h := by
  refine g_iload_n dX3_placeNow_4 rfl ?_
  refine g_aload_n dX3_placeNow_5 rfl ?_
  refine g_getfield (kd := 0) (v := .int (h.1 2 0)) dX3_placeNow_6 fX3_27 (by decide) rfl rfl rfl rfl ?_
  exact g_icmp_ge (tgt := 35) dX3_placeNow_9 (by decide) (fun hc => by refine g_forget (mask := [false, true, false]) (L' := [none, some (.int x1), none]) rfl ?_; exact k1 hc) (fun hc => k2 hc)
theorem sX3_placeNow_35 {post : Option Value → PH → Prop} {h : PH} {x1 : Int32} (k : post (some (.int x1)) h) : G 0 mX3_placeNow post 35 [none, some (.int x1), none] [] h := by
  refine g_iload_n dX3_placeNow_35 rfl ?_
  exact g_ireturn (ty := .int) dX3_placeNow_36 rfl rfl k
theorem sX3_placeNow_12 {post : Option Value → PH → Prop} {h : PH} {x1 x2 : Int32} (hb1 : vp_in x2 5) (hb2 : vp_in x2 5) (k : G 0 mX3_placeNow post 4 [some (.ref 2), some (.int (x1 + (((h.1 9 (Int32.toNatClampNeg x2)) + 1) * (stp5 (Int32.toNatClampNeg x2))))), some (.int (x2 + 1))] [] h) : G 0 mX3_placeNow post 12 [some (.ref 2), some (.int x1), some (.int x2)] [] h := by
  refine g_iload_n dX3_placeNow_12 rfl ?_
  refine g_aload_n dX3_placeNow_13 rfl ?_
  refine g_getfield (kd := 11) (v := .ref 9) dX3_placeNow_14 fX3_18 (by decide) rfl rfl rfl rfl ?_
  refine g_iload_n dX3_placeNow_17 rfl ?_
  refine g_iaload (n := 5) dX3_placeNow_18 (by decide) rfl rfl rfl hb1 ?_
  refine g_iconst (v := 1) dX3_placeNow_19 rfl ?_
  refine g_iadd dX3_placeNow_20 ?_
  refine g_steps dX3_placeNow_21 fX3_106 ?_
  refine g_iload_n dX3_placeNow_24 rfl ?_
  refine g_stepsload dX3_placeNow_25 hb2 ?_
  refine g_imul dX3_placeNow_26 ?_
  refine g_iadd dX3_placeNow_27 ?_
  refine g_istore_n (L' := [some (.ref 2), some (.int (x1 + (((h.1 9 (Int32.toNatClampNeg x2)) + 1) * (stp5 (Int32.toNatClampNeg x2))))), some (.int x2)]) dX3_placeNow_28 rfl (by decide) rfl ?_
  refine g_iinc (v := (x2 + 1)) (L' := [some (.ref 2), some (.int (x1 + (((h.1 9 (Int32.toNatClampNeg x2)) + 1) * (stp5 (Int32.toNatClampNeg x2))))), some (.int (x2 + 1))]) dX3_placeNow_29 rfl rfl rfl (by decide) rfl ?_
  refine g_goto (tgt := 4) dX3_placeNow_32 (by decide) ?_
  exact k
theorem sX3_bestTrade_0 {post : Option Value → PH → Prop} {h : PH} (k : Ev 3 mX3_heats [.ref 2] h (fun r h' => G 4 mX3_bestTrade post 8 [some (.ref 2), some (.int (-1001)), none, none, none, none] (r.toList ++ []) h')) : G 4 mX3_bestTrade post 0 [some (.ref 2), none, none, none, none, none] [] h := by
  refine g_sipush (v := (-1001)) dX3_bestTrade_0 rfl ?_
  refine g_istore_n (L' := [some (.ref 2), some (.int (-1001)), none, none, none, none]) dX3_bestTrade_3 rfl (by decide) rfl ?_
  refine g_aload_n dX3_bestTrade_4 rfl ?_
  exact g_callV (n := 0) (b := 2) (as := []) (rest := []) dX3_bestTrade_5 kX3_heats lX3_109 (by decide) rfl ⟨_, _, rfl⟩ rfl rfl (by simp only [List.map, Value.category]; decide) (by decide) k
theorem sX3_bestTrade_8 {post : Option Value → PH → Prop} {h : PH} {x1 s0 : Int32} (k : Ev 1 mX4_sum [.int s0] h (fun r h' => G 4 mX3_bestTrade post 11 [some (.ref 2), some (.int x1), none, none, none, none] (r.toList ++ []) h')) : G 4 mX3_bestTrade post 8 [some (.ref 2), some (.int x1), none, none, none, none] [.int s0] h := by
  exact g_callS (n := 1) (as := [.int s0]) (rest := []) dX3_bestTrade_8 kX4_sum lX3_97 rfl rfl (by simp only [List.map, Value.category]; decide) (by decide) k
theorem sX3_bestTrade_11 {post : Option Value → PH → Prop} {h : PH} {x1 s0 : Int32} (k : G 4 mX3_bestTrade post 14 [some (.ref 2), some (.int x1), some (.int s0), some (.int 0), none, none] [] h) : G 4 mX3_bestTrade post 11 [some (.ref 2), some (.int x1), none, none, none, none] [.int s0] h := by
  refine g_istore_n (L' := [some (.ref 2), some (.int x1), some (.int s0), none, none, none]) dX3_bestTrade_11 rfl (by decide) rfl ?_
  refine g_iconst (v := 0) dX3_bestTrade_12 rfl ?_
  refine g_istore_n (L' := [some (.ref 2), some (.int x1), some (.int s0), some (.int 0), none, none]) dX3_bestTrade_13 rfl (by decide) rfl ?_
  exact k
theorem sX3_bestTrade_14 {post : Option Value → PH → Prop} {h : PH} {x1 x2 x3 : Int32} (k1 : (h.1 2 0) ≤ x3 → G 4 mX3_bestTrade post 125 [none, some (.int x1), none, none, none, none] [] h) (k2 : ¬ (h.1 2 0) ≤ x3 → G 4 mX3_bestTrade post 22 [some (.ref 2), some (.int x1), some (.int x2), some (.int x3), none, none] [] h) : G 4 mX3_bestTrade post 14 [some (.ref 2), some (.int x1), some (.int x2), some (.int x3), none, none] [] h := by
  refine g_iload_n dX3_bestTrade_14 rfl ?_
  refine g_aload_n dX3_bestTrade_15 rfl ?_
  refine g_getfield (kd := 0) (v := .int (h.1 2 0)) dX3_bestTrade_16 fX3_27 (by decide) rfl rfl rfl rfl ?_
  exact g_icmp_ge (tgt := 125) dX3_bestTrade_19 (by decide) (fun hc => by refine g_forget (mask := [false, true, false, false, true, true]) (L' := [none, some (.int x1), none, none, none, none]) rfl ?_; exact k1 hc) (fun hc => k2 hc)
theorem sX3_bestTrade_125 {post : Option Value → PH → Prop} {h : PH} {x1 : Int32} (k : post (some (.int x1)) h) : G 4 mX3_bestTrade post 125 [none, some (.int x1), none, none, none, none] [] h := by
  refine g_iload_n dX3_bestTrade_125 rfl ?_
  exact g_ireturn (ty := .int) dX3_bestTrade_126 rfl rfl k
theorem sX3_bestTrade_22 {post : Option Value → PH → Prop} {h : PH} {x1 x2 x3 : Int32} (k : G 4 mX3_bestTrade post 27 [some (.ref 2), some (.int x1), some (.int x2), some (.int x3), some (.int (x3 + 1)), none] [] h) : G 4 mX3_bestTrade post 22 [some (.ref 2), some (.int x1), some (.int x2), some (.int x3), none, none] [] h := by
  refine g_iload_n dX3_bestTrade_22 rfl ?_
  refine g_iconst (v := 1) dX3_bestTrade_23 rfl ?_
  refine g_iadd dX3_bestTrade_24 ?_
  refine g_istore (L' := [some (.ref 2), some (.int x1), some (.int x2), some (.int x3), some (.int (x3 + 1)), none]) dX3_bestTrade_25 rfl (by decide) rfl ?_
  exact k
theorem sX3_bestTrade_27 {post : Option Value → PH → Prop} {h : PH} {x1 x2 x3 x4 : Int32} (k1 : (h.1 2 0) ≤ x4 → G 4 mX3_bestTrade post 119 [some (.ref 2), some (.int x1), some (.int x2), some (.int x3), none, none] [] h) (k2 : ¬ (h.1 2 0) ≤ x4 → G 4 mX3_bestTrade post 36 [some (.ref 2), some (.int x1), some (.int x2), some (.int x3), some (.int x4), none] [] h) : G 4 mX3_bestTrade post 27 [some (.ref 2), some (.int x1), some (.int x2), some (.int x3), some (.int x4), none] [] h := by
  refine g_iload dX3_bestTrade_27 rfl ?_
  refine g_aload_n dX3_bestTrade_29 rfl ?_
  refine g_getfield (kd := 0) (v := .int (h.1 2 0)) dX3_bestTrade_30 fX3_27 (by decide) rfl rfl rfl rfl ?_
  exact g_icmp_ge (tgt := 119) dX3_bestTrade_33 (by decide) (fun hc => by refine g_forget (mask := [true, true, true, true, false, true]) (L' := [some (.ref 2), some (.int x1), some (.int x2), some (.int x3), none, none]) rfl ?_; exact k1 hc) (fun hc => k2 hc)
theorem sX3_bestTrade_119 {post : Option Value → PH → Prop} {h : PH} {x1 x2 x3 : Int32} (k : G 4 mX3_bestTrade post 14 [some (.ref 2), some (.int x1), some (.int x2), some (.int (x3 + 1)), none, none] [] h) : G 4 mX3_bestTrade post 119 [some (.ref 2), some (.int x1), some (.int x2), some (.int x3), none, none] [] h := by
  refine g_iinc (v := (x3 + 1)) (L' := [some (.ref 2), some (.int x1), some (.int x2), some (.int (x3 + 1)), none, none]) dX3_bestTrade_119 rfl rfl rfl (by decide) rfl ?_
  refine g_goto (tgt := 14) dX3_bestTrade_122 (by decide) ?_
  exact k
theorem sX3_bestTrade_36 {post : Option Value → PH → Prop} {h : PH} {x1 x2 x3 x4 : Int32} (k : Ev 1 mX3_isStuck [.ref 2, .int x3] h (fun r h' => G 4 mX3_bestTrade post 41 [some (.ref 2), some (.int x1), some (.int x2), some (.int x3), some (.int x4), none] (r.toList ++ []) h')) : G 4 mX3_bestTrade post 36 [some (.ref 2), some (.int x1), some (.int x2), some (.int x3), some (.int x4), none] [] h := by
  refine g_aload_n dX3_bestTrade_36 rfl ?_
  refine g_iload_n dX3_bestTrade_37 rfl ?_
  exact g_callV (n := 1) (b := 2) (as := [.int x3]) (rest := []) dX3_bestTrade_38 kX3_isStuck lX3_94 (by decide) rfl ⟨_, _, rfl⟩ rfl rfl (by simp only [List.map, Value.category]; decide) (by decide) k
theorem sX3_bestTrade_41 {post : Option Value → PH → Prop} {h : PH} {x1 x2 x3 x4 s0 : Int32} (k1 : ¬ s0 = 0 → G 4 mX3_bestTrade post 113 [some (.ref 2), some (.int x1), some (.int x2), some (.int x3), some (.int x4), none] [] h) (k2 : s0 = 0 → G 4 mX3_bestTrade post 44 [some (.ref 2), some (.int x1), some (.int x2), some (.int x3), some (.int x4), none] [] h) : G 4 mX3_bestTrade post 41 [some (.ref 2), some (.int x1), some (.int x2), some (.int x3), some (.int x4), none] [.int s0] h := by
  exact g_if_ne (tgt := 113) dX3_bestTrade_41 (by decide) (fun hc => k1 hc) (fun hc => k2 hc)
theorem sX3_bestTrade_113 {post : Option Value → PH → Prop} {h : PH} {x1 x2 x3 x4 : Int32} (k : G 4 mX3_bestTrade post 27 [some (.ref 2), some (.int x1), some (.int x2), some (.int x3), some (.int (x4 + 1)), none] [] h) : G 4 mX3_bestTrade post 113 [some (.ref 2), some (.int x1), some (.int x2), some (.int x3), some (.int x4), none] [] h := by
  refine g_iinc (v := (x4 + 1)) (L' := [some (.ref 2), some (.int x1), some (.int x2), some (.int x3), some (.int (x4 + 1)), none]) dX3_bestTrade_113 rfl rfl rfl (by decide) rfl ?_
  refine g_goto (tgt := 27) dX3_bestTrade_116 (by decide) ?_
  exact k
theorem sX3_bestTrade_44 {post : Option Value → PH → Prop} {h : PH} {x1 x2 x3 x4 : Int32} (k : Ev 1 mX3_isStuck [.ref 2, .int x4] h (fun r h' => G 4 mX3_bestTrade post 50 [some (.ref 2), some (.int x1), some (.int x2), some (.int x3), some (.int x4), none] (r.toList ++ []) h')) : G 4 mX3_bestTrade post 44 [some (.ref 2), some (.int x1), some (.int x2), some (.int x3), some (.int x4), none] [] h := by
  refine g_aload_n dX3_bestTrade_44 rfl ?_
  refine g_iload dX3_bestTrade_45 rfl ?_
  exact g_callV (n := 1) (b := 2) (as := [.int x4]) (rest := []) dX3_bestTrade_47 kX3_isStuck lX3_94 (by decide) rfl ⟨_, _, rfl⟩ rfl rfl (by simp only [List.map, Value.category]; decide) (by decide) k
theorem sX3_bestTrade_50 {post : Option Value → PH → Prop} {h : PH} {x1 x2 x3 x4 s0 : Int32} (k1 : ¬ s0 = 0 → G 4 mX3_bestTrade post 113 [some (.ref 2), some (.int x1), some (.int x2), some (.int x3), some (.int x4), none] [] h) (k2 : s0 = 0 → G 4 mX3_bestTrade post 53 [some (.ref 2), some (.int x1), some (.int x2), some (.int x3), some (.int x4), none] [] h) : G 4 mX3_bestTrade post 50 [some (.ref 2), some (.int x1), some (.int x2), some (.int x3), some (.int x4), none] [.int s0] h := by
  exact g_if_ne (tgt := 113) dX3_bestTrade_50 (by decide) (fun hc => k1 hc) (fun hc => k2 hc)
theorem sX3_bestTrade_53 {post : Option Value → PH → Prop} {h : PH} {x1 x2 x3 x4 : Int32} (hb1 : vp_in x3 5) (hb2 : vp_in x4 5) (k1 : ¬ (h.1 9 (Int32.toNatClampNeg x3)) = (h.1 9 (Int32.toNatClampNeg x4)) → G 4 mX3_bestTrade post 72 [some (.ref 2), some (.int x1), some (.int x2), some (.int x3), some (.int x4), none] [] h) (k2 : (h.1 9 (Int32.toNatClampNeg x3)) = (h.1 9 (Int32.toNatClampNeg x4)) → G 4 mX3_bestTrade post 69 [some (.ref 2), some (.int x1), some (.int x2), some (.int x3), some (.int x4), none] [] h) : G 4 mX3_bestTrade post 53 [some (.ref 2), some (.int x1), some (.int x2), some (.int x3), some (.int x4), none] [] h := by
  refine g_aload_n dX3_bestTrade_53 rfl ?_
  refine g_getfield (kd := 11) (v := .ref 9) dX3_bestTrade_54 fX3_18 (by decide) rfl rfl rfl rfl ?_
  refine g_iload_n dX3_bestTrade_57 rfl ?_
  refine g_iaload (n := 5) dX3_bestTrade_58 (by decide) rfl rfl rfl hb1 ?_
  refine g_aload_n dX3_bestTrade_59 rfl ?_
  refine g_getfield (kd := 11) (v := .ref 9) dX3_bestTrade_60 fX3_18 (by decide) rfl rfl rfl rfl ?_
  refine g_iload dX3_bestTrade_63 rfl ?_
  refine g_iaload (n := 5) dX3_bestTrade_65 (by decide) rfl rfl rfl hb2 ?_
  exact g_icmp_ne (tgt := 72) dX3_bestTrade_66 (by decide) (fun hc => k1 hc) (fun hc => k2 hc)
theorem sX3_bestTrade_72 {post : Option Value → PH → Prop} {h : PH} {x1 x2 x3 x4 : Int32} (k : Ev 3 mX3_heatsByTrade [.ref 2, .int x3, .int x4] h (fun r h' => G 4 mX3_bestTrade post 79 [some (.ref 2), some (.int x1), some (.int x2), some (.int x3), some (.int x4), none] (r.toList ++ []) h')) : G 4 mX3_bestTrade post 72 [some (.ref 2), some (.int x1), some (.int x2), some (.int x3), some (.int x4), none] [] h := by
  refine g_aload_n dX3_bestTrade_72 rfl ?_
  refine g_iload_n dX3_bestTrade_73 rfl ?_
  refine g_iload dX3_bestTrade_74 rfl ?_
  exact g_callV (n := 2) (b := 2) (as := [.int x3, .int x4]) (rest := []) dX3_bestTrade_76 kX3_heatsByTrade lX3_113 (by decide) rfl ⟨_, _, rfl⟩ rfl rfl (by simp only [List.map, Value.category]; decide) (by decide) k
theorem sX3_bestTrade_69 {post : Option Value → PH → Prop} {h : PH} {x1 x2 x3 x4 : Int32} (k : G 4 mX3_bestTrade post 113 [some (.ref 2), some (.int x1), some (.int x2), some (.int x3), some (.int x4), none] [] h) : G 4 mX3_bestTrade post 69 [some (.ref 2), some (.int x1), some (.int x2), some (.int x3), some (.int x4), none] [] h := by
  refine g_goto (tgt := 113) dX3_bestTrade_69 (by decide) ?_
  exact k
theorem sX3_bestTrade_79 {post : Option Value → PH → Prop} {h : PH} {x1 x2 x3 x4 s0 : Int32} (k : Ev 0 mX3_isSafe [.ref 2, .int s0] h (fun r h' => G 4 mX3_bestTrade post 87 [some (.ref 2), some (.int x1), some (.int x2), some (.int x3), some (.int x4), some (.int s0)] (r.toList ++ []) h')) : G 4 mX3_bestTrade post 79 [some (.ref 2), some (.int x1), some (.int x2), some (.int x3), some (.int x4), none] [.int s0] h := by
  refine g_istore (L' := [some (.ref 2), some (.int x1), some (.int x2), some (.int x3), some (.int x4), some (.int s0)]) dX3_bestTrade_79 rfl (by decide) rfl ?_
  refine g_aload_n dX3_bestTrade_81 rfl ?_
  refine g_iload dX3_bestTrade_82 rfl ?_
  exact g_callV (n := 1) (b := 2) (as := [.int s0]) (rest := []) dX3_bestTrade_84 kX3_isSafe lX3_116 (by decide) rfl ⟨_, _, rfl⟩ rfl rfl (by simp only [List.map, Value.category]; decide) (by decide) k
theorem sX3_bestTrade_87 {post : Option Value → PH → Prop} {h : PH} {x1 x2 x3 x4 x5 s0 : Int32} (k1 : s0 = 0 → G 4 mX3_bestTrade post 113 [some (.ref 2), some (.int x1), some (.int x2), some (.int x3), some (.int x4), none] [] h) (k2 : ¬ s0 = 0 → G 4 mX3_bestTrade post 90 [some (.ref 2), some (.int x1), some (.int x2), some (.int x3), some (.int x4), some (.int x5)] [] h) : G 4 mX3_bestTrade post 87 [some (.ref 2), some (.int x1), some (.int x2), some (.int x3), some (.int x4), some (.int x5)] [.int s0] h := by
  exact g_if_eq (tgt := 113) dX3_bestTrade_87 (by decide) (fun hc => by refine g_forget (mask := [true, true, true, true, true, false]) (L' := [some (.ref 2), some (.int x1), some (.int x2), some (.int x3), some (.int x4), none]) rfl ?_; exact k1 hc) (fun hc => k2 hc)
theorem sX3_bestTrade_90 {post : Option Value → PH → Prop} {h : PH} {x1 x2 x3 x4 x5 : Int32} (k : Ev 1 mX4_sum [.int x5] h (fun r h' => G 4 mX3_bestTrade post 95 [some (.ref 2), some (.int x1), some (.int x2), some (.int x3), some (.int x4), some (.int x5)] (r.toList ++ []) h')) : G 4 mX3_bestTrade post 90 [some (.ref 2), some (.int x1), some (.int x2), some (.int x3), some (.int x4), some (.int x5)] [] h := by
  refine g_iload dX3_bestTrade_90 rfl ?_
  exact g_callS (n := 1) (as := [.int x5]) (rest := []) dX3_bestTrade_92 kX4_sum lX3_97 rfl rfl (by simp only [List.map, Value.category]; decide) (by decide) k
theorem sX3_bestTrade_95 {post : Option Value → PH → Prop} {h : PH} {x1 x2 x3 x4 x5 s0 : Int32} (k1 : s0 ≤ x2 → G 4 mX3_bestTrade post 113 [some (.ref 2), some (.int x1), some (.int x2), some (.int x3), some (.int x4), none] [] h) (k2 : ¬ s0 ≤ x2 → G 4 mX3_bestTrade post 99 [some (.ref 2), none, none, some (.int x3), some (.int x4), some (.int x5)] [] h) : G 4 mX3_bestTrade post 95 [some (.ref 2), some (.int x1), some (.int x2), some (.int x3), some (.int x4), some (.int x5)] [.int s0] h := by
  refine g_iload_n dX3_bestTrade_95 rfl ?_
  exact g_icmp_le (tgt := 113) dX3_bestTrade_96 (by decide) (fun hc => by refine g_forget (mask := [true, true, true, true, true, false]) (L' := [some (.ref 2), some (.int x1), some (.int x2), some (.int x3), some (.int x4), none]) rfl ?_; exact k1 hc) (fun hc => by refine g_forget (mask := [true, false, false, true, true, true]) (L' := [some (.ref 2), none, none, some (.int x3), some (.int x4), some (.int x5)]) rfl ?_; exact k2 hc)
theorem sX3_bestTrade_99 {post : Option Value → PH → Prop} {h : PH} {x3 x4 x5 : Int32} (k : Ev 1 mX4_sum [.int x5] h (fun r h' => G 4 mX3_bestTrade post 104 [some (.ref 2), none, none, some (.int x3), some (.int x4), none] (r.toList ++ []) h')) : G 4 mX3_bestTrade post 99 [some (.ref 2), none, none, some (.int x3), some (.int x4), some (.int x5)] [] h := by
  refine g_iload dX3_bestTrade_99 rfl ?_
  refine g_forget (mask := [true, true, true, true, true, false]) (L' := [some (.ref 2), none, none, some (.int x3), some (.int x4), none]) rfl ?_
  exact g_callS (n := 1) (as := [.int x5]) (rest := []) dX3_bestTrade_101 kX4_sum lX3_97 rfl rfl (by simp only [List.map, Value.category]; decide) (by decide) k
theorem sX3_bestTrade_104 {post : Option Value → PH → Prop} {h : PH} {x3 x4 s0 : Int32} (k : G 4 mX3_bestTrade post 113 [some (.ref 2), some (.int ((8 * x3) + x4)), some (.int s0), some (.int x3), some (.int x4), none] [] h) : G 4 mX3_bestTrade post 104 [some (.ref 2), none, none, some (.int x3), some (.int x4), none] [.int s0] h := by
  refine g_istore_n (L' := [some (.ref 2), none, some (.int s0), some (.int x3), some (.int x4), none]) dX3_bestTrade_104 rfl (by decide) rfl ?_
  refine g_bipush (v := 8) dX3_bestTrade_105 rfl ?_
  refine g_iload_n dX3_bestTrade_107 rfl ?_
  refine g_imul dX3_bestTrade_108 ?_
  refine g_iload dX3_bestTrade_109 rfl ?_
  refine g_iadd dX3_bestTrade_111 ?_
  refine g_istore_n (L' := [some (.ref 2), some (.int ((8 * x3) + x4)), some (.int s0), some (.int x3), some (.int x4), none]) dX3_bestTrade_112 rfl (by decide) rfl ?_
  exact k
theorem sX3_heatsByTrade_0 {post : Option Value → PH → Prop} {h : PH} {x1 x2 : Int32} (k : Ev 1 mX3_swapAims [.ref 2, .int x1, .int x2] h (fun r h' => G 3 mX3_heatsByTrade post 6 [some (.ref 2), some (.int x1), some (.int x2), none] (r.toList ++ []) h')) : G 3 mX3_heatsByTrade post 0 [some (.ref 2), some (.int x1), some (.int x2), none] [] h := by
  refine g_aload_n dX3_heatsByTrade_0 rfl ?_
  refine g_iload_n dX3_heatsByTrade_1 rfl ?_
  refine g_iload_n dX3_heatsByTrade_2 rfl ?_
  exact g_callV (n := 2) (b := 2) (as := [.int x1, .int x2]) (rest := []) dX3_heatsByTrade_3 kX3_swapAims lX3_119 (by decide) rfl ⟨_, _, rfl⟩ rfl rfl (by simp only [List.map, Value.category]; decide) (by decide) k
theorem sX3_heatsByTrade_6 {post : Option Value → PH → Prop} {h : PH} {x1 x2 : Int32} (k : Ev 2 mX3_heatsWithout [.ref 2, .int (h.1 2 3)] h (fun r h' => G 3 mX3_heatsByTrade post 14 [some (.ref 2), some (.int x1), some (.int x2), none] (r.toList ++ []) h')) : G 3 mX3_heatsByTrade post 6 [some (.ref 2), some (.int x1), some (.int x2), none] [] h := by
  refine g_aload_n dX3_heatsByTrade_6 rfl ?_
  refine g_aload_n dX3_heatsByTrade_7 rfl ?_
  refine g_getfield (kd := 0) (v := .int (h.1 2 3)) dX3_heatsByTrade_8 fX3_34 (by decide) rfl rfl rfl rfl ?_
  exact g_callV (n := 1) (b := 2) (as := [.int (h.1 2 3)]) (rest := []) dX3_heatsByTrade_11 kX3_heatsWithout lX3_85 (by decide) rfl ⟨_, _, rfl⟩ rfl rfl (by simp only [List.map, Value.category]; decide) (by decide) k
theorem sX3_heatsByTrade_14 {post : Option Value → PH → Prop} {h : PH} {x1 x2 s0 : Int32} (k : Ev 1 mX3_swapAims [.ref 2, .int x1, .int x2] h (fun r h' => G 3 mX3_heatsByTrade post 21 [none, none, none, some (.int s0)] (r.toList ++ []) h')) : G 3 mX3_heatsByTrade post 14 [some (.ref 2), some (.int x1), some (.int x2), none] [.int s0] h := by
  refine g_istore_n (L' := [some (.ref 2), some (.int x1), some (.int x2), some (.int s0)]) dX3_heatsByTrade_14 rfl (by decide) rfl ?_
  refine g_aload_n dX3_heatsByTrade_15 rfl ?_
  refine g_iload_n dX3_heatsByTrade_16 rfl ?_
  refine g_iload_n dX3_heatsByTrade_17 rfl ?_
  refine g_forget (mask := [false, false, false, true]) (L' := [none, none, none, some (.int s0)]) rfl ?_
  exact g_callV (n := 2) (b := 2) (as := [.int x1, .int x2]) (rest := []) dX3_heatsByTrade_18 kX3_swapAims lX3_119 (by decide) rfl ⟨_, _, rfl⟩ rfl rfl (by simp only [List.map, Value.category]; decide) (by decide) k
theorem sX3_heatsByTrade_21 {post : Option Value → PH → Prop} {h : PH} {x3 : Int32} (k : post (some (.int x3)) h) : G 3 mX3_heatsByTrade post 21 [none, none, none, some (.int x3)] [] h := by
  refine g_iload_n dX3_heatsByTrade_21 rfl ?_
  exact g_ireturn (ty := .int) dX3_heatsByTrade_22 rfl rfl k
theorem sX3_swapAims_0 {post : Option Value → PH → Prop} {h : PH} {x1 x2 : Int32} (k : Ev 0 mX3_hasMirror [.ref 2, .int x1] h (fun r h' => G 1 mX3_swapAims post 5 [some (.ref 2), some (.int x1), some (.int x2), none] (r.toList ++ []) h')) : G 1 mX3_swapAims post 0 [some (.ref 2), some (.int x1), some (.int x2), none] [] h := by
  refine g_aload_n dX3_swapAims_0 rfl ?_
  refine g_iload_n dX3_swapAims_1 rfl ?_
  exact g_callV (n := 1) (b := 2) (as := [.int x1]) (rest := []) dX3_swapAims_2 kX3_hasMirror lX3_78 (by decide) rfl ⟨_, _, rfl⟩ rfl rfl (by simp only [List.map, Value.category]; decide) (by decide) k
theorem sX3_swapAims_5 {post : Option Value → PH → Prop} {h : PH} {x1 x2 s0 : Int32} (k1 : s0 = 0 → G 1 mX3_swapAims post 42 [none, none, none, none] [] h) (k2 : ¬ s0 = 0 → G 1 mX3_swapAims post 8 [some (.ref 2), some (.int x1), some (.int x2), none] [] h) : G 1 mX3_swapAims post 5 [some (.ref 2), some (.int x1), some (.int x2), none] [.int s0] h := by
  exact g_if_eq (tgt := 42) dX3_swapAims_5 (by decide) (fun hc => by refine g_forget (mask := [false, false, false, true]) (L' := [none, none, none, none]) rfl ?_; exact k1 hc) (fun hc => k2 hc)
theorem sX3_swapAims_42 {post : Option Value → PH → Prop} {h : PH} (k : post none h) : G 1 mX3_swapAims post 42 [none, none, none, none] [] h := by
  exact g_return dX3_swapAims_42 rfl k
theorem sX3_swapAims_8 {post : Option Value → PH → Prop} {h : PH} {x1 x2 : Int32} (k : Ev 0 mX3_hasMirror [.ref 2, .int x2] h (fun r h' => G 1 mX3_swapAims post 13 [some (.ref 2), some (.int x1), some (.int x2), none] (r.toList ++ []) h')) : G 1 mX3_swapAims post 8 [some (.ref 2), some (.int x1), some (.int x2), none] [] h := by
  refine g_aload_n dX3_swapAims_8 rfl ?_
  refine g_iload_n dX3_swapAims_9 rfl ?_
  exact g_callV (n := 1) (b := 2) (as := [.int x2]) (rest := []) dX3_swapAims_10 kX3_hasMirror lX3_78 (by decide) rfl ⟨_, _, rfl⟩ rfl rfl (by simp only [List.map, Value.category]; decide) (by decide) k
theorem sX3_swapAims_13 {post : Option Value → PH → Prop} {h : PH} {x1 x2 s0 : Int32} (k1 : s0 = 0 → G 1 mX3_swapAims post 42 [none, none, none, none] [] h) (k2 : ¬ s0 = 0 → G 1 mX3_swapAims post 16 [some (.ref 2), some (.int x1), some (.int x2), none] [] h) : G 1 mX3_swapAims post 13 [some (.ref 2), some (.int x1), some (.int x2), none] [.int s0] h := by
  exact g_if_eq (tgt := 42) dX3_swapAims_13 (by decide) (fun hc => by refine g_forget (mask := [false, false, false, true]) (L' := [none, none, none, none]) rfl ?_; exact k1 hc) (fun hc => k2 hc)
theorem sX3_swapAims_16 {post : Option Value → PH → Prop} {h : PH} {x1 x2 : Int32} (hb1 : vp_in x1 5) (hb2 : vp_in x2 5) (hb3 : vp_in x1 5) (hb4 : vp_in x2 5) (k : post none ((upd2 (upd2 h.1 9 (Int32.toNatClampNeg x1) (h.1 9 (Int32.toNatClampNeg x2))) 9 (Int32.toNatClampNeg x2) (h.1 9 (Int32.toNatClampNeg x1))), h.2)) : G 1 mX3_swapAims post 16 [some (.ref 2), some (.int x1), some (.int x2), none] [] h := by
  refine g_aload_n dX3_swapAims_16 rfl ?_
  refine g_getfield (kd := 11) (v := .ref 9) dX3_swapAims_17 fX3_18 (by decide) rfl rfl rfl rfl ?_
  refine g_iload_n dX3_swapAims_20 rfl ?_
  refine g_iaload (n := 5) dX3_swapAims_21 (by decide) rfl rfl rfl hb1 ?_
  refine g_istore_n (L' := [some (.ref 2), some (.int x1), some (.int x2), some (.int (h.1 9 (Int32.toNatClampNeg x1)))]) dX3_swapAims_22 rfl (by decide) rfl ?_
  refine g_aload_n dX3_swapAims_23 rfl ?_
  refine g_getfield (kd := 11) (v := .ref 9) dX3_swapAims_24 fX3_18 (by decide) rfl rfl rfl rfl ?_
  refine g_iload_n dX3_swapAims_27 rfl ?_
  refine g_aload_n dX3_swapAims_28 rfl ?_
  refine g_getfield (kd := 11) (v := .ref 9) dX3_swapAims_29 fX3_18 (by decide) rfl rfl rfl rfl ?_
  refine g_iload_n dX3_swapAims_32 rfl ?_
  refine g_iaload (n := 5) dX3_swapAims_33 (by decide) rfl rfl rfl hb2 ?_
  refine g_iastore (n := 5) dX3_swapAims_34 (by decide) rfl rfl rfl hb3 ?_
  refine g_aload_n dX3_swapAims_35 rfl ?_
  refine g_getfield (kd := 11) (v := .ref 9) dX3_swapAims_36 fX3_18 (by decide) rfl rfl rfl rfl ?_
  refine g_iload_n dX3_swapAims_39 rfl ?_
  refine g_iload_n dX3_swapAims_40 rfl ?_
  refine g_iastore (n := 5) dX3_swapAims_41 (by decide) rfl rfl rfl hb4 ?_
  exact g_return dX3_swapAims_42 rfl k
theorem sX3_bestRelief_0 {post : Option Value → PH → Prop} {h : PH} (k : G 3 mX3_bestRelief post 12 [some (.ref 2), some (.int (-1001)), some (.int 6), some (.int 0), some (.int 0), none, none] [] h) : G 3 mX3_bestRelief post 0 [some (.ref 2), none, none, none, none, none, none] [] h := by
  refine g_sipush (v := (-1001)) dX3_bestRelief_0 rfl ?_
  refine g_istore_n (L' := [some (.ref 2), some (.int (-1001)), none, none, none, none, none]) dX3_bestRelief_3 rfl (by decide) rfl ?_
  refine g_bipush (v := 6) dX3_bestRelief_4 rfl ?_
  refine g_istore_n (L' := [some (.ref 2), some (.int (-1001)), some (.int 6), none, none, none, none]) dX3_bestRelief_6 rfl (by decide) rfl ?_
  refine g_iconst (v := 0) dX3_bestRelief_7 rfl ?_
  refine g_istore_n (L' := [some (.ref 2), some (.int (-1001)), some (.int 6), some (.int 0), none, none, none]) dX3_bestRelief_8 rfl (by decide) rfl ?_
  refine g_iconst (v := 0) dX3_bestRelief_9 rfl ?_
  refine g_istore (L' := [some (.ref 2), some (.int (-1001)), some (.int 6), some (.int 0), some (.int 0), none, none]) dX3_bestRelief_10 rfl (by decide) rfl ?_
  exact k
theorem sX3_bestRelief_12 {post : Option Value → PH → Prop} {h : PH} {x1 x2 x3 x4 : Int32} (k1 : (1 <<< ((h.1 2 0) &&& 31)) ≤ x4 → G 3 mX3_bestRelief post 104 [none, some (.int x1), none, none, none, none, none] [] h) (k2 : ¬ (1 <<< ((h.1 2 0) &&& 31)) ≤ x4 → G 3 mX3_bestRelief post 23 [some (.ref 2), some (.int x1), some (.int x2), some (.int x3), some (.int x4), none, none] [] h) : G 3 mX3_bestRelief post 12 [some (.ref 2), some (.int x1), some (.int x2), some (.int x3), some (.int x4), none, none] [] h := by
  refine g_iload dX3_bestRelief_12 rfl ?_
  refine g_iconst (v := 1) dX3_bestRelief_14 rfl ?_
  refine g_aload_n dX3_bestRelief_15 rfl ?_
  refine g_getfield (kd := 0) (v := .int (h.1 2 0)) dX3_bestRelief_16 fX3_27 (by decide) rfl rfl rfl rfl ?_
  refine g_ishl dX3_bestRelief_19 ?_
  exact g_icmp_ge (tgt := 104) dX3_bestRelief_20 (by decide) (fun hc => by refine g_forget (mask := [false, true, false, false, false, true, true]) (L' := [none, some (.int x1), none, none, none, none, none]) rfl ?_; exact k1 hc) (fun hc => k2 hc)
theorem sX3_bestRelief_104 {post : Option Value → PH → Prop} {h : PH} {x1 : Int32} (k : post (some (.int x1)) h) : G 3 mX3_bestRelief post 104 [none, some (.int x1), none, none, none, none, none] [] h := by
  refine g_iload_n dX3_bestRelief_104 rfl ?_
  exact g_ireturn (ty := .int) dX3_bestRelief_105 rfl rfl k
theorem sX3_bestRelief_23 {post : Option Value → PH → Prop} {h : PH} {x1 x2 x3 x4 : Int32} (k : Ev 2 mX3_heatsWithout [.ref 2, .int ((h.1 2 3) ||| x4)] h (fun r h' => G 3 mX3_bestRelief post 34 [some (.ref 2), some (.int x1), some (.int x2), some (.int x3), some (.int x4), none, none] (r.toList ++ []) h')) : G 3 mX3_bestRelief post 23 [some (.ref 2), some (.int x1), some (.int x2), some (.int x3), some (.int x4), none, none] [] h := by
  refine g_aload_n dX3_bestRelief_23 rfl ?_
  refine g_aload_n dX3_bestRelief_24 rfl ?_
  refine g_getfield (kd := 0) (v := .int (h.1 2 3)) dX3_bestRelief_25 fX3_34 (by decide) rfl rfl rfl rfl ?_
  refine g_iload dX3_bestRelief_28 rfl ?_
  refine g_ior dX3_bestRelief_30 ?_
  exact g_callV (n := 1) (b := 2) (as := [.int ((h.1 2 3) ||| x4)]) (rest := []) dX3_bestRelief_31 kX3_heatsWithout lX3_85 (by decide) rfl ⟨_, _, rfl⟩ rfl rfl (by simp only [List.map, Value.category]; decide) (by decide) k
theorem sX3_bestRelief_34 {post : Option Value → PH → Prop} {h : PH} {x1 x2 x3 x4 s0 : Int32} (k1 : ¬ (x4 &&& (h.1 2 4)) = 0 → G 3 mX3_bestRelief post 98 [some (.ref 2), some (.int x1), some (.int x2), some (.int x3), some (.int x4), none, none] [] h) (k2 : (x4 &&& (h.1 2 4)) = 0 → G 3 mX3_bestRelief post 46 [some (.ref 2), some (.int x1), some (.int x2), some (.int x3), some (.int x4), some (.int s0), none] [] h) : G 3 mX3_bestRelief post 34 [some (.ref 2), some (.int x1), some (.int x2), some (.int x3), some (.int x4), none, none] [.int s0] h := by
  refine g_istore (L' := [some (.ref 2), some (.int x1), some (.int x2), some (.int x3), some (.int x4), some (.int s0), none]) dX3_bestRelief_34 rfl (by decide) rfl ?_
  refine g_iload dX3_bestRelief_36 rfl ?_
  refine g_aload_n dX3_bestRelief_38 rfl ?_
  refine g_getfield (kd := 0) (v := .int (h.1 2 4)) dX3_bestRelief_39 fX3_41 (by decide) rfl rfl rfl rfl ?_
  refine g_iand dX3_bestRelief_42 ?_
  exact g_if_ne (tgt := 98) dX3_bestRelief_43 (by decide) (fun hc => by refine g_forget (mask := [true, true, true, true, true, false, true]) (L' := [some (.ref 2), some (.int x1), some (.int x2), some (.int x3), some (.int x4), none, none]) rfl ?_; exact k1 hc) (fun hc => k2 hc)
theorem sX3_bestRelief_98 {post : Option Value → PH → Prop} {h : PH} {x1 x2 x3 x4 : Int32} (k : G 3 mX3_bestRelief post 12 [some (.ref 2), some (.int x1), some (.int x2), some (.int x3), some (.int (x4 + 1)), none, none] [] h) : G 3 mX3_bestRelief post 98 [some (.ref 2), some (.int x1), some (.int x2), some (.int x3), some (.int x4), none, none] [] h := by
  refine g_iinc (v := (x4 + 1)) (L' := [some (.ref 2), some (.int x1), some (.int x2), some (.int x3), some (.int (x4 + 1)), none, none]) dX3_bestRelief_98 rfl rfl rfl (by decide) rfl ?_
  refine g_goto (tgt := 12) dX3_bestRelief_101 (by decide) ?_
  exact k
theorem sX3_bestRelief_46 {post : Option Value → PH → Prop} {h : PH} {x1 x2 x3 x4 x5 : Int32} (k : Ev 0 mX3_isSafe [.ref 2, .int x5] h (fun r h' => G 3 mX3_bestRelief post 52 [some (.ref 2), some (.int x1), some (.int x2), some (.int x3), some (.int x4), some (.int x5), none] (r.toList ++ []) h')) : G 3 mX3_bestRelief post 46 [some (.ref 2), some (.int x1), some (.int x2), some (.int x3), some (.int x4), some (.int x5), none] [] h := by
  refine g_aload_n dX3_bestRelief_46 rfl ?_
  refine g_iload dX3_bestRelief_47 rfl ?_
  exact g_callV (n := 1) (b := 2) (as := [.int x5]) (rest := []) dX3_bestRelief_49 kX3_isSafe lX3_116 (by decide) rfl ⟨_, _, rfl⟩ rfl rfl (by simp only [List.map, Value.category]; decide) (by decide) k
theorem sX3_bestRelief_52 {post : Option Value → PH → Prop} {h : PH} {x1 x2 x3 x4 x5 s0 : Int32} (k1 : ¬ s0 = 0 → G 3 mX3_bestRelief post 58 [some (.ref 2), some (.int x1), some (.int x2), some (.int x3), some (.int x4), some (.int x5), none] [] h) (k2 : s0 = 0 → G 3 mX3_bestRelief post 55 [some (.ref 2), some (.int x1), some (.int x2), some (.int x3), some (.int x4), none, none] [] h) : G 3 mX3_bestRelief post 52 [some (.ref 2), some (.int x1), some (.int x2), some (.int x3), some (.int x4), some (.int x5), none] [.int s0] h := by
  exact g_if_ne (tgt := 58) dX3_bestRelief_52 (by decide) (fun hc => k1 hc) (fun hc => by refine g_forget (mask := [true, true, true, true, true, false, true]) (L' := [some (.ref 2), some (.int x1), some (.int x2), some (.int x3), some (.int x4), none, none]) rfl ?_; exact k2 hc)
theorem sX3_bestRelief_58 {post : Option Value → PH → Prop} {h : PH} {x1 x2 x3 x4 x5 : Int32} (k : Ev 0 mJ6_bitCount_0f7a4 [.int x4] h (fun r h' => G 3 mX3_bestRelief post 63 [some (.ref 2), some (.int x1), some (.int x2), some (.int x3), some (.int x4), some (.int x5), none] (r.toList ++ []) h')) : G 3 mX3_bestRelief post 58 [some (.ref 2), some (.int x1), some (.int x2), some (.int x3), some (.int x4), some (.int x5), none] [] h := by
  refine g_iload dX3_bestRelief_58 rfl ?_
  exact g_callS (n := 1) (as := [.int x4]) (rest := []) dX3_bestRelief_60 kJ6_bitCount_0f7a4 lX3_123 rfl rfl (by simp only [List.map, Value.category]; decide) (by decide) k
theorem sX3_bestRelief_55 {post : Option Value → PH → Prop} {h : PH} {x1 x2 x3 x4 : Int32} (k : G 3 mX3_bestRelief post 98 [some (.ref 2), some (.int x1), some (.int x2), some (.int x3), some (.int x4), none, none] [] h) : G 3 mX3_bestRelief post 55 [some (.ref 2), some (.int x1), some (.int x2), some (.int x3), some (.int x4), none, none] [] h := by
  refine g_goto (tgt := 98) dX3_bestRelief_55 (by decide) ?_
  exact k
theorem sX3_bestRelief_63 {post : Option Value → PH → Prop} {h : PH} {x1 x2 x3 x4 x5 s0 : Int32} (k1 : s0 < x2 → G 3 mX3_bestRelief post 86 [some (.ref 2), none, none, none, some (.int x4), some (.int x5), some (.int s0)] [] h) (k2 : ¬ s0 < x2 → G 3 mX3_bestRelief post 71 [some (.ref 2), some (.int x1), some (.int x2), some (.int x3), some (.int x4), some (.int x5), some (.int s0)] [] h) : G 3 mX3_bestRelief post 63 [some (.ref 2), some (.int x1), some (.int x2), some (.int x3), some (.int x4), some (.int x5), none] [.int s0] h := by
  refine g_istore (L' := [some (.ref 2), some (.int x1), some (.int x2), some (.int x3), some (.int x4), some (.int x5), some (.int s0)]) dX3_bestRelief_63 rfl (by decide) rfl ?_
  refine g_iload dX3_bestRelief_65 rfl ?_
  refine g_iload_n dX3_bestRelief_67 rfl ?_
  exact g_icmp_lt (tgt := 86) dX3_bestRelief_68 (by decide) (fun hc => by refine g_forget (mask := [true, false, false, false, true, true, true]) (L' := [some (.ref 2), none, none, none, some (.int x4), some (.int x5), some (.int s0)]) rfl ?_; exact k1 hc) (fun hc => k2 hc)
theorem sX3_bestRelief_86 {post : Option Value → PH → Prop} {h : PH} {x4 x5 x6 : Int32} (k : Ev 1 mX4_sum [.int x5] h (fun r h' => G 3 mX3_bestRelief post 97 [some (.ref 2), some (.int x4), some (.int x6), none, some (.int x4), none, none] (r.toList ++ []) h')) : G 3 mX3_bestRelief post 86 [some (.ref 2), none, none, none, some (.int x4), some (.int x5), some (.int x6)] [] h := by
  refine g_iload dX3_bestRelief_86 rfl ?_
  refine g_istore_n (L' := [some (.ref 2), some (.int x4), none, none, some (.int x4), some (.int x5), some (.int x6)]) dX3_bestRelief_88 rfl (by decide) rfl ?_
  refine g_iload dX3_bestRelief_89 rfl ?_
  refine g_istore_n (L' := [some (.ref 2), some (.int x4), some (.int x6), none, some (.int x4), some (.int x5), some (.int x6)]) dX3_bestRelief_91 rfl (by decide) rfl ?_
  refine g_iload dX3_bestRelief_92 rfl ?_
  refine g_forget (mask := [true, true, true, true, true, false, false]) (L' := [some (.ref 2), some (.int x4), some (.int x6), none, some (.int x4), none, none]) rfl ?_
  exact g_callS (n := 1) (as := [.int x5]) (rest := []) dX3_bestRelief_94 kX4_sum lX3_97 rfl rfl (by simp only [List.map, Value.category]; decide) (by decide) k
theorem sX3_bestRelief_71 {post : Option Value → PH → Prop} {h : PH} {x1 x2 x3 x4 x5 x6 : Int32} (k1 : ¬ x6 = x2 → G 3 mX3_bestRelief post 98 [some (.ref 2), some (.int x1), some (.int x2), some (.int x3), some (.int x4), none, none] [] h) (k2 : x6 = x2 → G 3 mX3_bestRelief post 77 [some (.ref 2), some (.int x1), some (.int x2), some (.int x3), some (.int x4), some (.int x5), some (.int x6)] [] h) : G 3 mX3_bestRelief post 71 [some (.ref 2), some (.int x1), some (.int x2), some (.int x3), some (.int x4), some (.int x5), some (.int x6)] [] h := by
  refine g_iload dX3_bestRelief_71 rfl ?_
  refine g_iload_n dX3_bestRelief_73 rfl ?_
  exact g_icmp_ne (tgt := 98) dX3_bestRelief_74 (by decide) (fun hc => by refine g_forget (mask := [true, true, true, true, true, false, false]) (L' := [some (.ref 2), some (.int x1), some (.int x2), some (.int x3), some (.int x4), none, none]) rfl ?_; exact k1 hc) (fun hc => k2 hc)
theorem sX3_bestRelief_97 {post : Option Value → PH → Prop} {h : PH} {x1 x2 x4 s0 : Int32} (k : G 3 mX3_bestRelief post 98 [some (.ref 2), some (.int x1), some (.int x2), some (.int s0), some (.int x4), none, none] [] h) : G 3 mX3_bestRelief post 97 [some (.ref 2), some (.int x1), some (.int x2), none, some (.int x4), none, none] [.int s0] h := by
  refine g_istore_n (L' := [some (.ref 2), some (.int x1), some (.int x2), some (.int s0), some (.int x4), none, none]) dX3_bestRelief_97 rfl (by decide) rfl ?_
  exact k
theorem sX3_bestRelief_77 {post : Option Value → PH → Prop} {h : PH} {x1 x2 x3 x4 x5 x6 : Int32} (k : Ev 1 mX4_sum [.int x5] h (fun r h' => G 3 mX3_bestRelief post 82 [some (.ref 2), some (.int x1), some (.int x2), some (.int x3), some (.int x4), some (.int x5), some (.int x6)] (r.toList ++ []) h')) : G 3 mX3_bestRelief post 77 [some (.ref 2), some (.int x1), some (.int x2), some (.int x3), some (.int x4), some (.int x5), some (.int x6)] [] h := by
  refine g_iload dX3_bestRelief_77 rfl ?_
  exact g_callS (n := 1) (as := [.int x5]) (rest := []) dX3_bestRelief_79 kX4_sum lX3_97 rfl rfl (by simp only [List.map, Value.category]; decide) (by decide) k
theorem sX3_bestRelief_82 {post : Option Value → PH → Prop} {h : PH} {x1 x2 x3 x4 x5 x6 s0 : Int32} (k1 : s0 ≤ x3 → G 3 mX3_bestRelief post 98 [some (.ref 2), some (.int x1), some (.int x2), some (.int x3), some (.int x4), none, none] [] h) (k2 : ¬ s0 ≤ x3 → G 3 mX3_bestRelief post 86 [some (.ref 2), none, none, none, some (.int x4), some (.int x5), some (.int x6)] [] h) : G 3 mX3_bestRelief post 82 [some (.ref 2), some (.int x1), some (.int x2), some (.int x3), some (.int x4), some (.int x5), some (.int x6)] [.int s0] h := by
  refine g_iload_n dX3_bestRelief_82 rfl ?_
  exact g_icmp_le (tgt := 98) dX3_bestRelief_83 (by decide) (fun hc => by refine g_forget (mask := [true, true, true, true, true, false, false]) (L' := [some (.ref 2), some (.int x1), some (.int x2), some (.int x3), some (.int x4), none, none]) rfl ?_; exact k1 hc) (fun hc => by refine g_forget (mask := [true, false, false, false, true, true, true]) (L' := [some (.ref 2), none, none, none, some (.int x4), some (.int x5), some (.int x6)]) rfl ?_; exact k2 hc)
