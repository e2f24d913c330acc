theorem sX5_best_31 {post : Option Value → PH → Prop} {h : PH} (k : post (some (.int (-1003))) h) : G 4 mX5_best post 31 [none, none, none] [] h := by
  refine g_sipush (v := (-1003)) dX5_best_31 rfl ?_
  exact g_ireturn (ty := .int) dX5_best_34 rfl rfl k
theorem sX5_figure_0 {post : Option Value → PH → Prop} {h : PH} {x0 x1 : Int32} (hb1 : ¬ x1 = 0) (k : post (some (.int ((x0 / x1) - (x0 / x1) / 5 * 5))) h) : G 0 mX5_figure post 0 [some (.int x0), some (.int x1)] [] h := by
  refine g_iload_n dX5_figure_0 rfl ?_
  refine g_iload_n dX5_figure_1 rfl ?_
  refine g_idiv dX5_figure_2 hb1 ?_
  refine g_iconst (v := 5) dX5_figure_3 rfl ?_
  refine g_irem dX5_figure_4 (by decide) ?_
  exact g_ireturn (ty := .int) dX5_figure_5 rfl rfl k
theorem sX5_layFar_0 {post : Option Value → PH → Prop} {h : PH} (k : G 1 mX5_layFar post 2 [some (.ref 15), some (.int 0), none, none, none, none, none, none, none] [] h) : G 1 mX5_layFar post 0 [some (.ref 15), none, none, none, none, none, none, none, none] [] h := by
  refine g_iconst (v := 0) dX5_layFar_0 rfl ?_
  refine g_istore_n (L' := [some (.ref 15), some (.int 0), none, none, none, none, none, none, none]) dX5_layFar_1 rfl (by decide) rfl ?_
  exact k
theorem sX5_layFar_2 {post : Option Value → PH → Prop} {h : PH} {x1 : Int32} (k1 : 3125 ≤ x1 → G 1 mX5_layFar post 24 [some (.ref 15), none, none, none, none, none, none, none, none] [] h) (k2 : ¬ 3125 ≤ x1 → G 1 mX5_layFar post 9 [some (.ref 15), some (.int x1), none, none, none, none, none, none, none] [] h) : G 1 mX5_layFar post 2 [some (.ref 15), some (.int x1), none, none, none, none, none, none, none] [] h := by
  refine g_iload_n dX5_layFar_2 rfl ?_
  refine g_sipush (v := 3125) dX5_layFar_3 rfl ?_
  exact g_icmp_ge (tgt := 24) dX5_layFar_6 (by decide) (fun hc => by refine g_forget (mask := [true, false, true, true, true, true, true, true, true]) (L' := [some (.ref 15), none, none, none, none, none, none, none, none]) rfl ?_; exact k1 hc) (fun hc => k2 hc)
theorem sX5_layFar_24 {post : Option Value → PH → Prop} {h : PH} (k1 : (h.1 15 15) = (-1001) → G 1 mX5_layFar post 58 [some (.ref 15), some (.int 0), none, none, none, none, none, none, none] [] h) (k2 : ¬ (h.1 15 15) = (-1001) → G 1 mX5_layFar post 36 [some (.ref 15), none, none, none, none, none, none, none, none] [] h) : G 1 mX5_layFar post 24 [some (.ref 15), none, none, none, none, none, none, none, none] [] h := by
  refine g_iconst (v := 0) dX5_layFar_24 rfl ?_
  refine g_istore_n (L' := [some (.ref 15), some (.int 0), none, none, none, none, none, none, none]) dX5_layFar_25 rfl (by decide) rfl ?_
  refine g_aload_n dX5_layFar_26 rfl ?_
  refine g_getfield (kd := 0) (v := .int (h.1 15 15)) dX5_layFar_27 fX5_114 (by decide) rfl rfl rfl rfl ?_
  refine g_sipush (v := (-1001)) dX5_layFar_30 rfl ?_
  exact g_icmp_eq (tgt := 58) dX5_layFar_33 (by decide) (fun hc => k1 hc) (fun hc => by refine g_forget (mask := [true, false, true, true, true, true, true, true, true]) (L' := [some (.ref 15), none, none, none, none, none, none, none, none]) rfl ?_; exact k2 hc)
theorem sX5_layFar_9 {post : Option Value → PH → Prop} {h : PH} {x1 : Int32} (hb1 : vp_in x1 3125) (k : G 1 mX5_layFar post 2 [some (.ref 15), some (.int (x1 + 1)), none, none, none, none, none, none, none] [] ((upd2 h.1 23 (Int32.toNatClampNeg x1) (-1001)), h.2)) : G 1 mX5_layFar post 9 [some (.ref 15), some (.int x1), none, none, none, none, none, none, none] [] h := by
  refine g_aload_n dX5_layFar_9 rfl ?_
  refine g_getfield (kd := 25) (v := .ref 23) dX5_layFar_10 fX5_32 (by decide) rfl rfl rfl rfl ?_
  refine g_iload_n dX5_layFar_13 rfl ?_
  refine g_sipush (v := (-1001)) dX5_layFar_14 rfl ?_
  refine g_iastore (n := 3125) dX5_layFar_17 (by decide) rfl rfl rfl hb1 ?_
  refine g_iinc (v := (x1 + 1)) (L' := [some (.ref 15), some (.int (x1 + 1)), none, none, none, none, none, none, none]) dX5_layFar_18 rfl rfl rfl (by decide) rfl ?_
  refine g_goto (tgt := 2) dX5_layFar_21 (by decide) ?_
  exact k
theorem sX5_layFar_58 {post : Option Value → PH → Prop} {h : PH} {x1 : Int32} (k : G 1 mX5_layFar post 60 [some (.ref 15), some (.int x1), some (.int 0), none, none, none, none, none, none] [] h) : G 1 mX5_layFar post 58 [some (.ref 15), some (.int x1), none, none, none, none, none, none, none] [] h := by
  refine g_iconst (v := 0) dX5_layFar_58 rfl ?_
  refine g_istore_n (L' := [some (.ref 15), some (.int x1), some (.int 0), none, none, none, none, none, none]) dX5_layFar_59 rfl (by decide) rfl ?_
  exact k
theorem sX5_layFar_36 {post : Option Value → PH → Prop} {h : PH} (hb1 : vp_in (h.1 15 15) 3125) (hb2 : vp_in 0 3125) (k : G 1 mX5_layFar post 58 [some (.ref 15), some (.int 1), none, none, none, none, none, none, none] [] ((upd2 (upd2 h.1 23 (Int32.toNatClampNeg (h.1 15 15)) 0) 24 (Int32.toNatClampNeg 0) (h.1 15 15)), h.2)) : G 1 mX5_layFar post 36 [some (.ref 15), none, none, none, none, none, none, none, none] [] h := by
  refine g_aload_n dX5_layFar_36 rfl ?_
  refine g_getfield (kd := 25) (v := .ref 23) dX5_layFar_37 fX5_32 (by decide) rfl rfl rfl rfl ?_
  refine g_aload_n dX5_layFar_40 rfl ?_
  refine g_getfield (kd := 0) (v := .int (h.1 15 15)) dX5_layFar_41 fX5_114 (by decide) rfl rfl rfl rfl ?_
  refine g_iconst (v := 0) dX5_layFar_44 rfl ?_
  refine g_iastore (n := 3125) dX5_layFar_45 (by decide) rfl rfl rfl hb1 ?_
  refine g_aload_n dX5_layFar_46 rfl ?_
  refine g_getfield (kd := 26) (v := .ref 24) dX5_layFar_47 fX5_35 (by decide) rfl rfl rfl rfl ?_
  refine g_iconst (v := 0) dX5_layFar_50 rfl ?_
  refine g_aload_n dX5_layFar_51 rfl ?_
  refine g_getfield (kd := 0) (v := .int (h.1 15 15)) dX5_layFar_52 fX5_114 (by decide) rfl rfl rfl rfl ?_
  refine g_iastore (n := 3125) dX5_layFar_55 (by decide) rfl rfl rfl hb2 ?_
  refine g_iconst (v := 1) dX5_layFar_56 rfl ?_
  refine g_istore_n (L' := [some (.ref 15), some (.int 1), none, none, none, none, none, none, none]) dX5_layFar_57 rfl (by decide) rfl ?_
  exact k
theorem sX5_layFar_60 {post : Option Value → PH → Prop} {h : PH} {x1 x2 : Int32} (k1 : x1 ≤ x2 → G 1 mX5_layFar post 194 [none, none, none, none, none, none, none, none, none] [] h) (k2 : ¬ x1 ≤ x2 → G 1 mX5_layFar post 65 [some (.ref 15), some (.int x1), some (.int x2), none, none, none, none, none, none] [] h) : G 1 mX5_layFar post 60 [some (.ref 15), some (.int x1), some (.int x2), none, none, none, none, none, none] [] h := by
  refine g_iload_n dX5_layFar_60 rfl ?_
  refine g_iload_n dX5_layFar_61 rfl ?_
  exact g_icmp_ge (tgt := 194) dX5_layFar_62 (by decide) (fun hc => by refine g_forget (mask := [false, false, false, true, true, true, true, true, true]) (L' := [none, none, none, none, none, none, none, none, none]) rfl ?_; exact k1 hc) (fun hc => k2 hc)
theorem sX5_layFar_194 {post : Option Value → PH → Prop} {h : PH} (k : post none h) : G 1 mX5_layFar post 194 [none, none, none, none, none, none, none, none, none] [] h := by
  exact g_return dX5_layFar_194 rfl k
theorem sX5_layFar_65 {post : Option Value → PH → Prop} {h : PH} {x1 x2 : Int32} (hb1 : vp_in x2 3125) (k : G 1 mX5_layFar post 75 [some (.ref 15), some (.int x1), some (.int x2), some (.int (h.1 24 (Int32.toNatClampNeg x2))), some (.int 0), none, none, none, none] [] h) : G 1 mX5_layFar post 65 [some (.ref 15), some (.int x1), some (.int x2), none, none, none, none, none, none] [] h := by
  refine g_aload_n dX5_layFar_65 rfl ?_
  refine g_getfield (kd := 26) (v := .ref 24) dX5_layFar_66 fX5_35 (by decide) rfl rfl rfl rfl ?_
  refine g_iload_n dX5_layFar_69 rfl ?_
  refine g_iaload (n := 3125) dX5_layFar_70 (by decide) rfl rfl rfl hb1 ?_
  refine g_istore_n (L' := [some (.ref 15), some (.int x1), some (.int x2), some (.int (h.1 24 (Int32.toNatClampNeg x2))), none, none, none, none, none]) dX5_layFar_71 rfl (by decide) rfl ?_
  refine g_iconst (v := 0) dX5_layFar_72 rfl ?_
  refine g_istore (L' := [some (.ref 15), some (.int x1), some (.int x2), some (.int (h.1 24 (Int32.toNatClampNeg x2))), some (.int 0), none, none, none, none]) dX5_layFar_73 rfl (by decide) rfl ?_
  exact k
theorem sX5_layFar_75 {post : Option Value → PH → Prop} {h : PH} {x1 x2 x3 x4 : Int32} (k1 : (h.1 15 2) ≤ x4 → G 1 mX5_layFar post 188 [some (.ref 15), some (.int x1), some (.int x2), none, none, none, none, none, none] [] h) (k2 : ¬ (h.1 15 2) ≤ x4 → G 1 mX5_layFar post 84 [some (.ref 15), some (.int x1), some (.int x2), some (.int x3), some (.int x4), none, none, none, none] [] h) : G 1 mX5_layFar post 75 [some (.ref 15), some (.int x1), some (.int x2), some (.int x3), some (.int x4), none, none, none, none] [] h := by
  refine g_iload dX5_layFar_75 rfl ?_
  refine g_aload_n dX5_layFar_77 rfl ?_
  refine g_getfield (kd := 0) (v := .int (h.1 15 2)) dX5_layFar_78 fX5_60 (by decide) rfl rfl rfl rfl ?_
  exact g_icmp_ge (tgt := 188) dX5_layFar_81 (by decide) (fun hc => by refine g_forget (mask := [true, true, true, false, false, true, true, true, true]) (L' := [some (.ref 15), some (.int x1), some (.int x2), none, none, none, none, none, none]) rfl ?_; exact k1 hc) (fun hc => k2 hc)
theorem sX5_layFar_188 {post : Option Value → PH → Prop} {h : PH} {x1 x2 : Int32} (k : G 1 mX5_layFar post 60 [some (.ref 15), some (.int x1), some (.int (x2 + 1)), none, none, none, none, none, none] [] h) : G 1 mX5_layFar post 188 [some (.ref 15), some (.int x1), some (.int x2), none, none, none, none, none, none] [] h := by
  refine g_iinc (v := (x2 + 1)) (L' := [some (.ref 15), some (.int x1), some (.int (x2 + 1)), none, none, none, none, none, none]) dX5_layFar_188 rfl rfl rfl (by decide) rfl ?_
  refine g_goto (tgt := 60) dX5_layFar_191 (by decide) ?_
  exact k
theorem sX5_layFar_84 {post : Option Value → PH → Prop} {h : PH} {x1 x2 x3 x4 : Int32} (k : Ev 0 mX5_unitOf [.ref 15, .int x4] h (fun r h' => G 1 mX5_layFar post 90 [some (.ref 15), some (.int x1), some (.int x2), some (.int x3), some (.int x4), none, none, none, none] (r.toList ++ []) h')) : G 1 mX5_layFar post 84 [some (.ref 15), some (.int x1), some (.int x2), some (.int x3), some (.int x4), none, none, none, none] [] h := by
  refine g_aload_n dX5_layFar_84 rfl ?_
  refine g_iload dX5_layFar_85 rfl ?_
  exact g_callV (n := 1) (b := 15) (as := [.int x4]) (rest := []) dX5_layFar_87 kX5_unitOf lX5_141 (by decide) rfl ⟨_, _, rfl⟩ rfl rfl (by simp only [List.map, Value.category]; decide) (by decide) k
theorem sX5_layFar_90 {post : Option Value → PH → Prop} {h : PH} {x1 x2 x3 x4 s0 : Int32} (k : Ev 0 mX5_figure [.int x3, .int s0] h (fun r h' => G 1 mX5_layFar post 101 [some (.ref 15), some (.int x1), some (.int x2), some (.int x3), some (.int x4), some (.int s0), none, none, none] (r.toList ++ [.int s0, .int x3]) h')) : G 1 mX5_layFar post 90 [some (.ref 15), some (.int x1), some (.int x2), some (.int x3), some (.int x4), none, none, none, none] [.int s0] h := by
  refine g_istore (L' := [some (.ref 15), some (.int x1), some (.int x2), some (.int x3), some (.int x4), some (.int s0), none, none, none]) dX5_layFar_90 rfl (by decide) rfl ?_
  refine g_iload_n dX5_layFar_92 rfl ?_
  refine g_iload dX5_layFar_93 rfl ?_
  refine g_iload_n dX5_layFar_95 rfl ?_
  refine g_iload dX5_layFar_96 rfl ?_
  exact g_callS (n := 2) (as := [.int x3, .int s0]) (rest := [.int s0, .int x3]) dX5_layFar_98 kX5_figure lX5_144 rfl rfl (by simp only [List.map, Value.category]; decide) (by decide) k
theorem sX5_layFar_101 {post : Option Value → PH → Prop} {h : PH} {x1 x2 x3 x4 x5 s0 s1 s2 : Int32} (k : G 1 mX5_layFar post 108 [some (.ref 15), some (.int x1), some (.int x2), some (.int x3), some (.int x4), some (.int x5), some (.int (s2 - (s1 * s0))), some (.int 0), none] [] h) : G 1 mX5_layFar post 101 [some (.ref 15), some (.int x1), some (.int x2), some (.int x3), some (.int x4), some (.int x5), none, none, none] [.int s0, .int s1, .int s2] h := by
  refine g_imul dX5_layFar_101 ?_
  refine g_isub dX5_layFar_102 ?_
  refine g_istore (L' := [some (.ref 15), some (.int x1), some (.int x2), some (.int x3), some (.int x4), some (.int x5), some (.int (s2 - (s1 * s0))), none, none]) dX5_layFar_103 rfl (by decide) rfl ?_
  refine g_iconst (v := 0) dX5_layFar_105 rfl ?_
  refine g_istore (L' := [some (.ref 15), some (.int x1), some (.int x2), some (.int x3), some (.int x4), some (.int x5), some (.int (s2 - (s1 * s0))), some (.int 0), none]) dX5_layFar_106 rfl (by decide) rfl ?_
  exact k
theorem sX5_layFar_108 {post : Option Value → PH → Prop} {h : PH} {x1 x2 x3 x4 x5 x6 x7 : Int32} (k1 : (h.1 15 3) < x7 → G 1 mX5_layFar post 182 [some (.ref 15), some (.int x1), some (.int x2), some (.int x3), some (.int x4), none, none, none, none] [] h) (k2 : ¬ (h.1 15 3) < x7 → G 1 mX5_layFar post 117 [some (.ref 15), some (.int x1), some (.int x2), some (.int x3), some (.int x4), some (.int x5), some (.int x6), some (.int x7), none] [] h) : G 1 mX5_layFar post 108 [some (.ref 15), some (.int x1), some (.int x2), some (.int x3), some (.int x4), some (.int x5), some (.int x6), some (.int x7), none] [] h := by
  refine g_iload dX5_layFar_108 rfl ?_
  refine g_aload_n dX5_layFar_110 rfl ?_
  refine g_getfield (kd := 0) (v := .int (h.1 15 3)) dX5_layFar_111 fX5_57 (by decide) rfl rfl rfl rfl ?_
  exact g_icmp_gt (tgt := 182) dX5_layFar_114 (by decide) (fun hc => by refine g_forget (mask := [true, true, true, true, true, false, false, false, true]) (L' := [some (.ref 15), some (.int x1), some (.int x2), some (.int x3), some (.int x4), none, none, none, none]) rfl ?_; exact k1 hc) (fun hc => k2 hc)
theorem sX5_layFar_182 {post : Option Value → PH → Prop} {h : PH} {x1 x2 x3 x4 : Int32} (k : G 1 mX5_layFar post 75 [some (.ref 15), some (.int x1), some (.int x2), some (.int x3), some (.int (x4 + 1)), none, none, none, none] [] h) : G 1 mX5_layFar post 182 [some (.ref 15), some (.int x1), some (.int x2), some (.int x3), some (.int x4), none, none, none, none] [] h := by
  refine g_iinc (v := (x4 + 1)) (L' := [some (.ref 15), some (.int x1), some (.int x2), some (.int x3), some (.int (x4 + 1)), none, none, none, none]) dX5_layFar_182 rfl rfl rfl (by decide) rfl ?_
  refine g_goto (tgt := 75) dX5_layFar_185 (by decide) ?_
  exact k
theorem sX5_layFar_117 {post : Option Value → PH → Prop} {h : PH} {x1 x2 x3 x4 x5 x6 x7 : Int32} (hb1 : vp_in (x6 + (x5 * x7)) 3125) (k1 : (h.1 22 (Int32.toNatClampNeg (x6 + (x5 * x7)))) = 0 → G 1 mX5_layFar post 176 [some (.ref 15), some (.int x1), some (.int x2), some (.int x3), some (.int x4), some (.int x5), some (.int x6), some (.int x7), none] [] h) (k2 : ¬ (h.1 22 (Int32.toNatClampNeg (x6 + (x5 * x7)))) = 0 → G 1 mX5_layFar post 137 [some (.ref 15), some (.int x1), some (.int x2), some (.int x3), some (.int x4), some (.int x5), some (.int x6), some (.int x7), some (.int (x6 + (x5 * x7)))] [] h) : G 1 mX5_layFar post 117 [some (.ref 15), some (.int x1), some (.int x2), some (.int x3), some (.int x4), some (.int x5), some (.int x6), some (.int x7), none] [] h := by
  refine g_iload dX5_layFar_117 rfl ?_
  refine g_iload dX5_layFar_119 rfl ?_
  refine g_iload dX5_layFar_121 rfl ?_
  refine g_imul dX5_layFar_123 ?_
  refine g_iadd dX5_layFar_124 ?_
  refine g_istore (L' := [some (.ref 15), some (.int x1), some (.int x2), some (.int x3), some (.int x4), some (.int x5), some (.int x6), some (.int x7), some (.int (x6 + (x5 * x7)))]) dX5_layFar_125 rfl (by decide) rfl ?_
  refine g_aload_n dX5_layFar_127 rfl ?_
  refine g_getfield (kd := 24) (v := .ref 22) dX5_layFar_128 fX5_28 (by decide) rfl rfl rfl rfl ?_
  refine g_iload dX5_layFar_131 rfl ?_
  refine g_baload (n := 3125) dX5_layFar_133 (by decide) rfl rfl rfl hb1 ?_
  exact g_if_eq (tgt := 176) dX5_layFar_134 (by decide) (fun hc => by refine g_forget (mask := [true, true, true, true, true, true, true, true, false]) (L' := [some (.ref 15), some (.int x1), some (.int x2), some (.int x3), some (.int x4), some (.int x5), some (.int x6), some (.int x7), none]) rfl ?_; exact k1 hc) (fun hc => k2 hc)
theorem sX5_layFar_176 {post : Option Value → PH → Prop} {h : PH} {x1 x2 x3 x4 x5 x6 x7 : Int32} (k : G 1 mX5_layFar post 108 [some (.ref 15), some (.int x1), some (.int x2), some (.int x3), some (.int x4), some (.int x5), some (.int x6), some (.int (x7 + 1)), none] [] h) : G 1 mX5_layFar post 176 [some (.ref 15), some (.int x1), some (.int x2), some (.int x3), some (.int x4), some (.int x5), some (.int x6), some (.int x7), none] [] h := by
  refine g_iinc (v := (x7 + 1)) (L' := [some (.ref 15), some (.int x1), some (.int x2), some (.int x3), some (.int x4), some (.int x5), some (.int x6), some (.int (x7 + 1)), none]) dX5_layFar_176 rfl rfl rfl (by decide) rfl ?_
  refine g_goto (tgt := 108) dX5_layFar_179 (by decide) ?_
  exact k
theorem sX5_layFar_137 {post : Option Value → PH → Prop} {h : PH} {x1 x2 x3 x4 x5 x6 x7 x8 : Int32} (hb1 : vp_in x8 3125) (k1 : ¬ (h.1 23 (Int32.toNatClampNeg x8)) = (-1001) → G 1 mX5_layFar post 176 [some (.ref 15), some (.int x1), some (.int x2), some (.int x3), some (.int x4), some (.int x5), some (.int x6), some (.int x7), none] [] h) (k2 : (h.1 23 (Int32.toNatClampNeg x8)) = (-1001) → G 1 mX5_layFar post 150 [some (.ref 15), some (.int x1), some (.int x2), some (.int x3), some (.int x4), some (.int x5), some (.int x6), some (.int x7), some (.int x8)] [] h) : G 1 mX5_layFar post 137 [some (.ref 15), some (.int x1), some (.int x2), some (.int x3), some (.int x4), some (.int x5), some (.int x6), some (.int x7), some (.int x8)] [] h := by
  refine g_aload_n dX5_layFar_137 rfl ?_
  refine g_getfield (kd := 25) (v := .ref 23) dX5_layFar_138 fX5_32 (by decide) rfl rfl rfl rfl ?_
  refine g_iload dX5_layFar_141 rfl ?_
  refine g_iaload (n := 3125) dX5_layFar_143 (by decide) rfl rfl rfl hb1 ?_
  refine g_sipush (v := (-1001)) dX5_layFar_144 rfl ?_
  exact g_icmp_ne (tgt := 176) dX5_layFar_147 (by decide) (fun hc => by refine g_forget (mask := [true, true, true, true, true, true, true, true, false]) (L' := [some (.ref 15), some (.int x1), some (.int x2), some (.int x3), some (.int x4), some (.int x5), some (.int x6), some (.int x7), none]) rfl ?_; exact k1 hc) (fun hc => k2 hc)
theorem sX5_layFar_150 {post : Option Value → PH → Prop} {h : PH} {x1 x2 x3 x4 x5 x6 x7 x8 : Int32} (hb1 : vp_in x3 3125) (hb2 : vp_in x8 3125) (hb3 : vp_in x1 3125) (k : G 1 mX5_layFar post 176 [some (.ref 15), some (.int (x1 + 1)), some (.int x2), some (.int x3), some (.int x4), some (.int x5), some (.int x6), some (.int x7), none] [] ((upd2 (upd2 h.1 23 (Int32.toNatClampNeg x8) ((h.1 23 (Int32.toNatClampNeg x3)) + 1)) 24 (Int32.toNatClampNeg x1) x8), h.2)) : G 1 mX5_layFar post 150 [some (.ref 15), some (.int x1), some (.int x2), some (.int x3), some (.int x4), some (.int x5), some (.int x6), some (.int x7), some (.int x8)] [] h := by
  refine g_aload_n dX5_layFar_150 rfl ?_
  refine g_getfield (kd := 25) (v := .ref 23) dX5_layFar_151 fX5_32 (by decide) rfl rfl rfl rfl ?_
  refine g_iload dX5_layFar_154 rfl ?_
  refine g_aload_n dX5_layFar_156 rfl ?_
  refine g_getfield (kd := 25) (v := .ref 23) dX5_layFar_157 fX5_32 (by decide) rfl rfl rfl rfl ?_
  refine g_iload_n dX5_layFar_160 rfl ?_
  refine g_iaload (n := 3125) dX5_layFar_161 (by decide) rfl rfl rfl hb1 ?_
  refine g_iconst (v := 1) dX5_layFar_162 rfl ?_
  refine g_iadd dX5_layFar_163 ?_
  refine g_iastore (n := 3125) dX5_layFar_164 (by decide) rfl rfl rfl hb2 ?_
  refine g_aload_n dX5_layFar_165 rfl ?_
  refine g_getfield (kd := 26) (v := .ref 24) dX5_layFar_166 fX5_35 (by decide) rfl rfl rfl rfl ?_
  refine g_iload_n dX5_layFar_169 rfl ?_
  refine g_iload dX5_layFar_170 rfl ?_
  refine g_iastore (n := 3125) dX5_layFar_172 (by decide) rfl rfl rfl hb3 ?_
  refine g_iinc (v := (x1 + 1)) (L' := [some (.ref 15), some (.int (x1 + 1)), some (.int x2), some (.int x3), some (.int x4), some (.int x5), some (.int x6), some (.int x7), some (.int x8)]) dX5_layFar_173 rfl rfl rfl (by decide) rfl ?_
  refine g_forget (mask := [true, true, true, true, true, true, true, true, false]) (L' := [some (.ref 15), some (.int (x1 + 1)), some (.int x2), some (.int x3), some (.int x4), some (.int x5), some (.int x6), some (.int x7), none]) rfl ?_
  exact k
theorem sX5_moveFrom_0 {post : Option Value → PH → Prop} {h : PH} {x1 x2 : Int32} (k : G 1 mX5_moveFrom post 2 [some (.ref 15), some (.int x1), some (.int x2), some (.int 0), none, none, none] [] h) : G 1 mX5_moveFrom post 0 [some (.ref 15), some (.int x1), some (.int x2), none, none, none, none] [] h := by
  refine g_iconst (v := 0) dX5_moveFrom_0 rfl ?_
  refine g_istore_n (L' := [some (.ref 15), some (.int x1), some (.int x2), some (.int 0), none, none, none]) dX5_moveFrom_1 rfl (by decide) rfl ?_
  exact k
theorem sX5_moveFrom_2 {post : Option Value → PH → Prop} {h : PH} {x1 x2 x3 : Int32} (k1 : (h.1 15 2) ≤ x3 → G 1 mX5_moveFrom post 103 [none, none, none, none, none, none, none] [] h) (k2 : ¬ (h.1 15 2) ≤ x3 → G 1 mX5_moveFrom post 10 [some (.ref 15), some (.int x1), some (.int x2), some (.int x3), none, none, none] [] h) : G 1 mX5_moveFrom post 2 [some (.ref 15), some (.int x1), some (.int x2), some (.int x3), none, none, none] [] h := by
  refine g_iload_n dX5_moveFrom_2 rfl ?_
  refine g_aload_n dX5_moveFrom_3 rfl ?_
  refine g_getfield (kd := 0) (v := .int (h.1 15 2)) dX5_moveFrom_4 fX5_60 (by decide) rfl rfl rfl rfl ?_
  exact g_icmp_ge (tgt := 103) dX5_moveFrom_7 (by decide) (fun hc => by refine g_forget (mask := [false, false, false, false, true, true, true]) (L' := [none, none, none, none, none, none, none]) rfl ?_; exact k1 hc) (fun hc => k2 hc)
theorem sX5_moveFrom_103 {post : Option Value → PH → Prop} {h : PH} (k : post (some (.int (-1001))) h) : G 1 mX5_moveFrom post 103 [none, none, none, none, none, none, none] [] h := by
  refine g_sipush (v := (-1001)) dX5_moveFrom_103 rfl ?_
  exact g_ireturn (ty := .int) dX5_moveFrom_106 rfl rfl k
theorem sX5_moveFrom_10 {post : Option Value → PH → Prop} {h : PH} {x1 x2 x3 : Int32} (k : Ev 0 mX5_unitOf [.ref 15, .int x3] h (fun r h' => G 1 mX5_moveFrom post 15 [some (.ref 15), some (.int x1), some (.int x2), some (.int x3), none, none, none] (r.toList ++ []) h')) : G 1 mX5_moveFrom post 10 [some (.ref 15), some (.int x1), some (.int x2), some (.int x3), none, none, none] [] h := by
  refine g_aload_n dX5_moveFrom_10 rfl ?_
  refine g_iload_n dX5_moveFrom_11 rfl ?_
  exact g_callV (n := 1) (b := 15) (as := [.int x3]) (rest := []) dX5_moveFrom_12 kX5_unitOf lX5_141 (by decide) rfl ⟨_, _, rfl⟩ rfl rfl (by simp only [List.map, Value.category]; decide) (by decide) k
theorem sX5_moveFrom_15 {post : Option Value → PH → Prop} {h : PH} {x1 x2 x3 s0 : Int32} (k : G 1 mX5_moveFrom post 20 [some (.ref 15), some (.int x1), some (.int x2), some (.int x3), some (.int s0), some (.int 0), none] [] h) : G 1 mX5_moveFrom post 15 [some (.ref 15), some (.int x1), some (.int x2), some (.int x3), none, none, none] [.int s0] h := by
  refine g_istore (L' := [some (.ref 15), some (.int x1), some (.int x2), some (.int x3), some (.int s0), none, none]) dX5_moveFrom_15 rfl (by decide) rfl ?_
  refine g_iconst (v := 0) dX5_moveFrom_17 rfl ?_
  refine g_istore (L' := [some (.ref 15), some (.int x1), some (.int x2), some (.int x3), some (.int s0), some (.int 0), none]) dX5_moveFrom_18 rfl (by decide) rfl ?_
  exact k
theorem sX5_moveFrom_20 {post : Option Value → PH → Prop} {h : PH} {x1 x2 x3 x4 x5 : Int32} (k1 : (h.1 15 3) < x5 → G 1 mX5_moveFrom post 97 [some (.ref 15), some (.int x1), some (.int x2), some (.int x3), none, none, none] [] h) (k2 : ¬ (h.1 15 3) < x5 → G 1 mX5_moveFrom post 29 [some (.ref 15), some (.int x1), some (.int x2), some (.int x3), some (.int x4), some (.int x5), none] [] h) : G 1 mX5_moveFrom post 20 [some (.ref 15), some (.int x1), some (.int x2), some (.int x3), some (.int x4), some (.int x5), none] [] h := by
  refine g_iload dX5_moveFrom_20 rfl ?_
  refine g_aload_n dX5_moveFrom_22 rfl ?_
  refine g_getfield (kd := 0) (v := .int (h.1 15 3)) dX5_moveFrom_23 fX5_57 (by decide) rfl rfl rfl rfl ?_
  exact g_icmp_gt (tgt := 97) dX5_moveFrom_26 (by decide) (fun hc => by refine g_forget (mask := [true, true, true, true, false, false, true]) (L' := [some (.ref 15), some (.int x1), some (.int x2), some (.int x3), none, none, none]) rfl ?_; exact k1 hc) (fun hc => k2 hc)
theorem sX5_moveFrom_97 {post : Option Value → PH → Prop} {h : PH} {x1 x2 x3 : Int32} (k : G 1 mX5_moveFrom post 2 [some (.ref 15), some (.int x1), some (.int x2), some (.int (x3 + 1)), none, none, none] [] h) : G 1 mX5_moveFrom post 97 [some (.ref 15), some (.int x1), some (.int x2), some (.int x3), none, none, none] [] h := by
  refine g_iinc (v := (x3 + 1)) (L' := [some (.ref 15), some (.int x1), some (.int x2), some (.int (x3 + 1)), none, none, none]) dX5_moveFrom_97 rfl rfl rfl (by decide) rfl ?_
  refine g_goto (tgt := 2) dX5_moveFrom_100 (by decide) ?_
  exact k
theorem sX5_moveFrom_29 {post : Option Value → PH → Prop} {h : PH} {x1 x2 x3 x4 x5 : Int32} (k : Ev 0 mX5_has [.int (h.1 15 9), .int x3] h (fun r h' => G 1 mX5_moveFrom post 37 [some (.ref 15), some (.int x1), some (.int x2), some (.int x3), some (.int x4), some (.int x5), none] (r.toList ++ []) h')) : G 1 mX5_moveFrom post 29 [some (.ref 15), some (.int x1), some (.int x2), some (.int x3), some (.int x4), some (.int x5), none] [] h := by
  refine g_aload_n dX5_moveFrom_29 rfl ?_
  refine g_getfield (kd := 0) (v := .int (h.1 15 9)) dX5_moveFrom_30 fX5_66 (by decide) rfl rfl rfl rfl ?_
  refine g_iload_n dX5_moveFrom_33 rfl ?_
  exact g_callS (n := 2) (as := [.int (h.1 15 9), .int x3]) (rest := []) dX5_moveFrom_34 kX5_has lX5_76 rfl rfl (by simp only [List.map, Value.category]; decide) (by decide) k
theorem sX5_moveFrom_37 {post : Option Value → PH → Prop} {h : PH} {x1 x2 x3 x4 x5 s0 : Int32} (k1 : ¬ s0 = 0 → G 1 mX5_moveFrom post 97 [some (.ref 15), some (.int x1), some (.int x2), some (.int x3), none, none, none] [] h) (k2 : s0 = 0 → G 1 mX5_moveFrom post 40 [some (.ref 15), some (.int x1), some (.int x2), some (.int x3), some (.int x4), some (.int x5), none] [] h) : G 1 mX5_moveFrom post 37 [some (.ref 15), some (.int x1), some (.int x2), some (.int x3), some (.int x4), some (.int x5), none] [.int s0] h := by
  exact g_if_ne (tgt := 97) dX5_moveFrom_37 (by decide) (fun hc => by refine g_forget (mask := [true, true, true, true, false, false, true]) (L' := [some (.ref 15), some (.int x1), some (.int x2), some (.int x3), none, none, none]) rfl ?_; exact k1 hc) (fun hc => k2 hc)
theorem sX5_moveFrom_40 {post : Option Value → PH → Prop} {h : PH} {x1 x2 x3 x4 x5 : Int32} (k : Ev 0 mX5_figure [.int x1, .int x4] h (fun r h' => G 1 mX5_moveFrom post 51 [some (.ref 15), some (.int x1), some (.int x2), some (.int x3), some (.int x4), some (.int x5), none] (r.toList ++ [.int x5, .int x4, .int x1]) h')) : G 1 mX5_moveFrom post 40 [some (.ref 15), some (.int x1), some (.int x2), some (.int x3), some (.int x4), some (.int x5), none] [] h := by
  refine g_iload_n dX5_moveFrom_40 rfl ?_
  refine g_iload dX5_moveFrom_41 rfl ?_
  refine g_iload dX5_moveFrom_43 rfl ?_
  refine g_iload_n dX5_moveFrom_45 rfl ?_
  refine g_iload dX5_moveFrom_46 rfl ?_
  exact g_callS (n := 2) (as := [.int x1, .int x4]) (rest := [.int x5, .int x4, .int x1]) dX5_moveFrom_48 kX5_figure lX5_144 rfl rfl (by simp only [List.map, Value.category]; decide) (by decide) k
theorem sX5_moveFrom_51 {post : Option Value → PH → Prop} {h : PH} {x1 x2 x3 x4 x5 s0 s1 s2 s3 : Int32} (k1 : (s3 + (s2 * (s1 - s0))) = x1 → G 1 mX5_moveFrom post 91 [some (.ref 15), some (.int x1), some (.int x2), some (.int x3), some (.int x4), some (.int x5), none] [] h) (k2 : ¬ (s3 + (s2 * (s1 - s0))) = x1 → G 1 mX5_moveFrom post 62 [some (.ref 15), some (.int x1), some (.int x2), some (.int x3), some (.int x4), some (.int x5), some (.int (s3 + (s2 * (s1 - s0))))] [] h) : G 1 mX5_moveFrom post 51 [some (.ref 15), some (.int x1), some (.int x2), some (.int x3), some (.int x4), some (.int x5), none] [.int s0, .int s1, .int s2, .int s3] h := by
  refine g_isub dX5_moveFrom_51 ?_
  refine g_imul dX5_moveFrom_52 ?_
  refine g_iadd dX5_moveFrom_53 ?_
  refine g_istore (L' := [some (.ref 15), some (.int x1), some (.int x2), some (.int x3), some (.int x4), some (.int x5), some (.int (s3 + (s2 * (s1 - s0))))]) dX5_moveFrom_54 rfl (by decide) rfl ?_
  refine g_iload dX5_moveFrom_56 rfl ?_
  refine g_iload_n dX5_moveFrom_58 rfl ?_
  exact g_icmp_eq (tgt := 91) dX5_moveFrom_59 (by decide) (fun hc => by refine g_forget (mask := [true, true, true, true, true, true, false]) (L' := [some (.ref 15), some (.int x1), some (.int x2), some (.int x3), some (.int x4), some (.int x5), none]) rfl ?_; exact k1 hc) (fun hc => k2 hc)
theorem sX5_moveFrom_91 {post : Option Value → PH → Prop} {h : PH} {x1 x2 x3 x4 x5 : Int32} (k : G 1 mX5_moveFrom post 20 [some (.ref 15), some (.int x1), some (.int x2), some (.int x3), some (.int x4), some (.int (x5 + 1)), none] [] h) : G 1 mX5_moveFrom post 91 [some (.ref 15), some (.int x1), some (.int x2), some (.int x3), some (.int x4), some (.int x5), none] [] h := by
  refine g_iinc (v := (x5 + 1)) (L' := [some (.ref 15), some (.int x1), some (.int x2), some (.int x3), some (.int x4), some (.int (x5 + 1)), none]) dX5_moveFrom_91 rfl rfl rfl (by decide) rfl ?_
  refine g_goto (tgt := 20) dX5_moveFrom_94 (by decide) ?_
  exact k
theorem sX5_moveFrom_62 {post : Option Value → PH → Prop} {h : PH} {x1 x2 x3 x4 x5 x6 : Int32} (hb1 : vp_in x6 3125) (k1 : (h.1 22 (Int32.toNatClampNeg x6)) = 0 → G 1 mX5_moveFrom post 91 [some (.ref 15), some (.int x1), some (.int x2), some (.int x3), some (.int x4), some (.int x5), none] [] h) (k2 : ¬ (h.1 22 (Int32.toNatClampNeg x6)) = 0 → G 1 mX5_moveFrom post 72 [some (.ref 15), some (.int x1), some (.int x2), some (.int x3), some (.int x4), some (.int x5), some (.int x6)] [] h) : G 1 mX5_moveFrom post 62 [some (.ref 15), some (.int x1), some (.int x2), some (.int x3), some (.int x4), some (.int x5), some (.int x6)] [] h := by
  refine g_aload_n dX5_moveFrom_62 rfl ?_
  refine g_getfield (kd := 24) (v := .ref 22) dX5_moveFrom_63 fX5_28 (by decide) rfl rfl rfl rfl ?_
  refine g_iload dX5_moveFrom_66 rfl ?_
  refine g_baload (n := 3125) dX5_moveFrom_68 (by decide) rfl rfl rfl hb1 ?_
  exact g_if_eq (tgt := 91) dX5_moveFrom_69 (by decide) (fun hc => by refine g_forget (mask := [true, true, true, true, true, true, false]) (L' := [some (.ref 15), some (.int x1), some (.int x2), some (.int x3), some (.int x4), some (.int x5), none]) rfl ?_; exact k1 hc) (fun hc => k2 hc)
theorem sX5_moveFrom_72 {post : Option Value → PH → Prop} {h : PH} {x1 x2 x3 x4 x5 x6 : Int32} (hb1 : vp_in x6 3125) (k1 : ¬ (h.1 23 (Int32.toNatClampNeg x6)) = x2 → G 1 mX5_moveFrom post 91 [some (.ref 15), some (.int x1), some (.int x2), some (.int x3), some (.int x4), some (.int x5), none] [] h) (k2 : (h.1 23 (Int32.toNatClampNeg x6)) = x2 → G 1 mX5_moveFrom post 83 [none, none, none, some (.int x3), none, some (.int x5), none] [] h) : G 1 mX5_moveFrom post 72 [some (.ref 15), some (.int x1), some (.int x2), some (.int x3), some (.int x4), some (.int x5), some (.int x6)] [] h := by
  refine g_aload_n dX5_moveFrom_72 rfl ?_
  refine g_getfield (kd := 25) (v := .ref 23) dX5_moveFrom_73 fX5_32 (by decide) rfl rfl rfl rfl ?_
  refine g_iload dX5_moveFrom_76 rfl ?_
  refine g_iaload (n := 3125) dX5_moveFrom_78 (by decide) rfl rfl rfl hb1 ?_
  refine g_iload_n dX5_moveFrom_79 rfl ?_
  exact g_icmp_ne (tgt := 91) dX5_moveFrom_80 (by decide) (fun hc => by refine g_forget (mask := [true, true, true, true, true, true, false]) (L' := [some (.ref 15), some (.int x1), some (.int x2), some (.int x3), some (.int x4), some (.int x5), none]) rfl ?_; exact k1 hc) (fun hc => by refine g_forget (mask := [false, false, false, true, false, true, false]) (L' := [none, none, none, some (.int x3), none, some (.int x5), none]) rfl ?_; exact k2 hc)
theorem sX5_moveFrom_83 {post : Option Value → PH → Prop} {h : PH} {x3 x5 : Int32} (k : post (some (.int ((8 * x3) + x5))) h) : G 1 mX5_moveFrom post 83 [none, none, none, some (.int x3), none, some (.int x5), none] [] h := by
  refine g_bipush (v := 8) dX5_moveFrom_83 rfl ?_
  refine g_iload_n dX5_moveFrom_85 rfl ?_
  refine g_imul dX5_moveFrom_86 ?_
  refine g_iload dX5_moveFrom_87 rfl ?_
  refine g_iadd dX5_moveFrom_89 ?_
  exact g_ireturn (ty := .int) dX5_moveFrom_90 rfl rfl k
theorem sX5_moved_0 {post : Option Value → PH → Prop} {h : PH} {x1 x2 : Int32} (k : Ev 0 mX5_unitOf [.ref 15, .int (x2 / 8)] h (fun r h' => G 1 mX5_moved post 8 [none, some (.int x1), some (.int x2), none] (r.toList ++ []) h')) : G 1 mX5_moved post 0 [some (.ref 15), some (.int x1), some (.int x2), none] [] h := by
  refine g_aload_n dX5_moved_0 rfl ?_
  refine g_iload_n dX5_moved_1 rfl ?_
  refine g_bipush (v := 8) dX5_moved_2 rfl ?_
  refine g_idiv dX5_moved_4 (by decide) ?_
  refine g_forget (mask := [false, true, true, true]) (L' := [none, some (.int x1), some (.int x2), none]) rfl ?_
  exact g_callV (n := 1) (b := 15) (as := [.int (x2 / 8)]) (rest := []) dX5_moved_5 kX5_unitOf lX5_141 (by decide) rfl ⟨_, _, rfl⟩ rfl rfl (by simp only [List.map, Value.category]; decide) (by decide) k
theorem sX5_moved_8 {post : Option Value → PH → Prop} {h : PH} {x1 x2 s0 : Int32} (k : Ev 0 mX5_figure [.int x1, .int s0] h (fun r h' => G 1 mX5_moved post 20 [none, none, none, none] (r.toList ++ [.int (x2 - x2 / 8 * 8), .int s0, .int x1]) h')) : G 1 mX5_moved post 8 [none, some (.int x1), some (.int x2), none] [.int s0] h := by
  refine g_istore_n (L' := [none, some (.int x1), some (.int x2), some (.int s0)]) dX5_moved_8 rfl (by decide) rfl ?_
  refine g_iload_n dX5_moved_9 rfl ?_
  refine g_iload_n dX5_moved_10 rfl ?_
  refine g_iload_n dX5_moved_11 rfl ?_
  refine g_bipush (v := 8) dX5_moved_12 rfl ?_
  refine g_irem dX5_moved_14 (by decide) ?_
  refine g_iload_n dX5_moved_15 rfl ?_
  refine g_iload_n dX5_moved_16 rfl ?_
  refine g_forget (mask := [true, false, false, false]) (L' := [none, none, none, none]) rfl ?_
  exact g_callS (n := 2) (as := [.int x1, .int s0]) (rest := [.int (x2 - x2 / 8 * 8), .int s0, .int x1]) dX5_moved_17 kX5_figure lX5_144 rfl rfl (by simp only [List.map, Value.category]; decide) (by decide) k
theorem sX5_moved_20 {post : Option Value → PH → Prop} {h : PH} {s0 s1 s2 s3 : Int32} (k : post (some (.int (s3 + (s2 * (s1 - s0))))) h) : G 1 mX5_moved post 20 [none, none, none, none] [.int s0, .int s1, .int s2, .int s3] h := by
  refine g_isub dX5_moved_20 ?_
  refine g_imul dX5_moved_21 ?_
  refine g_iadd dX5_moved_22 ?_
  exact g_ireturn (ty := .int) dX5_moved_23 rfl rfl k
theorem sX5_layChange_0 {post : Option Value → PH → Prop} {h : PH} {x1 : Int32} (k : Ev 3 mX5_layBest [.ref 15, .int x1] h (fun r h' => G 4 mX5_layChange post 5 [some (.ref 15), none, none, none] (r.toList ++ []) h')) : G 4 mX5_layChange post 0 [some (.ref 15), some (.int x1), none, none] [] h := by
  refine g_aload_n dX5_layChange_0 rfl ?_
  refine g_iload_n dX5_layChange_1 rfl ?_
  refine g_forget (mask := [true, false, true, true]) (L' := [some (.ref 15), none, none, none]) rfl ?_
  exact g_callV (n := 1) (b := 15) (as := [.int x1]) (rest := []) dX5_layChange_2 kX5_layBest lX5_134 (by decide) rfl ⟨_, _, rfl⟩ rfl rfl (by simp only [List.map, Value.category]; decide) (by decide) k
theorem sX5_layChange_5 {post : Option Value → PH → Prop} {h : PH} (k : Ev 1 mX5_layFar [.ref 15] h (fun r h' => G 4 mX5_layChange post 9 [some (.ref 15), none, none, none] (r.toList ++ []) h')) : G 4 mX5_layChange post 5 [some (.ref 15), none, none, none] [] h := by
  refine g_aload_n dX5_layChange_5 rfl ?_
  exact g_callV (n := 0) (b := 15) (as := []) (rest := []) dX5_layChange_6 kX5_layFar lX5_147 (by decide) rfl ⟨_, _, rfl⟩ rfl rfl (by simp only [List.map, Value.category]; decide) (by decide) k
theorem sX5_layChange_9 {post : Option Value → PH → Prop} {h : PH} (k : Ev 0 mX5_asTheyAre [.ref 15] h (fun r h' => G 4 mX5_layChange post 13 [some (.ref 15), none, none, none] (r.toList ++ []) h')) : G 4 mX5_layChange post 9 [some (.ref 15), none, none, none] [] h := by
  refine g_aload_n dX5_layChange_9 rfl ?_
  exact g_callV (n := 0) (b := 15) (as := []) (rest := []) dX5_layChange_10 kX5_asTheyAre lX5_90 (by decide) rfl ⟨_, _, rfl⟩ rfl rfl (by simp only [List.map, Value.category]; decide) (by decide) k
theorem sX5_layChange_13 {post : Option Value → PH → Prop} {h : PH} (k : Ev 0 mX5_codeNow [.ref 15] h (fun r h' => G 4 mX5_layChange post 17 [some (.ref 15), none, none, none] (r.toList ++ []) h')) : G 4 mX5_layChange post 13 [some (.ref 15), none, none, none] [] h := by
  refine g_aload_n dX5_layChange_13 rfl ?_
  exact g_callV (n := 0) (b := 15) (as := []) (rest := []) dX5_layChange_14 kX5_codeNow lX5_150 (by decide) rfl ⟨_, _, rfl⟩ rfl rfl (by simp only [List.map, Value.category]; decide) (by decide) k
theorem sX5_layChange_17 {post : Option Value → PH → Prop} {h : PH} {s0 : Int32} (k1 : ¬ s0 = (h.1 15 15) → G 4 mX5_layChange post 31 [some (.ref 15), none, some (.int s0), none] [.ref 15] h) (k2 : s0 = (h.1 15 15) → G 4 mX5_layChange post 27 [some (.ref 15), none, some (.int s0), none] [.ref 15] h) : G 4 mX5_layChange post 17 [some (.ref 15), none, none, none] [.int s0] h := by
  refine g_istore_n (L' := [some (.ref 15), none, some (.int s0), none]) dX5_layChange_17 rfl (by decide) rfl ?_
  refine g_aload_n dX5_layChange_18 rfl ?_
  refine g_iload_n dX5_layChange_19 rfl ?_
  refine g_aload_n dX5_layChange_20 rfl ?_
  refine g_getfield (kd := 0) (v := .int (h.1 15 15)) dX5_layChange_21 fX5_114 (by decide) rfl rfl rfl rfl ?_
  exact g_icmp_ne (tgt := 31) dX5_layChange_24 (by decide) (fun hc => k1 hc) (fun hc => k2 hc)
theorem sX5_layChange_31 {post : Option Value → PH → Prop} {h : PH} {x2 : Int32} (k : G 4 mX5_layChange post 39 [some (.ref 15), none, some (.int x2), some (.int 0)] [] ((upd2 h.1 15 18 (-1001)), h.2)) : G 4 mX5_layChange post 31 [some (.ref 15), none, some (.int x2), none] [.ref 15] h := by
  refine g_sipush (v := (-1001)) dX5_layChange_31 rfl ?_
  refine g_putfield dX5_layChange_34 fX5_153 (by decide) rfl rfl rfl rfl rfl ?_
  refine g_iconst (v := 0) dX5_layChange_37 rfl ?_
  refine g_istore_n (L' := [some (.ref 15), none, some (.int x2), some (.int 0)]) dX5_layChange_38 rfl (by decide) rfl ?_
  exact k
theorem sX5_layChange_27 {post : Option Value → PH → Prop} {h : PH} {x2 : Int32} (k : G 4 mX5_layChange post 39 [some (.ref 15), none, some (.int x2), some (.int 0)] [] ((upd2 h.1 15 18 0), h.2)) : G 4 mX5_layChange post 27 [some (.ref 15), none, some (.int x2), none] [.ref 15] h := by
  refine g_iconst (v := 0) dX5_layChange_27 rfl ?_
  refine g_goto (tgt := 34) dX5_layChange_28 (by decide) ?_
  refine g_putfield dX5_layChange_34 fX5_153 (by decide) rfl rfl rfl rfl rfl ?_
  refine g_iconst (v := 0) dX5_layChange_37 rfl ?_
  refine g_istore_n (L' := [some (.ref 15), none, some (.int x2), some (.int 0)]) dX5_layChange_38 rfl (by decide) rfl ?_
  exact k
theorem sX5_layChange_39 {post : Option Value → PH → Prop} {h : PH} {x2 x3 : Int32} (k1 : 3125 ≤ x3 → G 4 mX5_layChange post 97 [some (.ref 15), none, some (.int x2), none] [] h) (k2 : ¬ 3125 ≤ x3 → G 4 mX5_layChange post 46 [some (.ref 15), none, some (.int x2), some (.int x3)] [] h) : G 4 mX5_layChange post 39 [some (.ref 15), none, some (.int x2), some (.int x3)] [] h := by
  refine g_iload_n dX5_layChange_39 rfl ?_
  refine g_sipush (v := 3125) dX5_layChange_40 rfl ?_
  exact g_icmp_ge (tgt := 97) dX5_layChange_43 (by decide) (fun hc => by refine g_forget (mask := [true, true, true, false]) (L' := [some (.ref 15), none, some (.int x2), none]) rfl ?_; exact k1 hc) (fun hc => k2 hc)
theorem sX5_layChange_97 {post : Option Value → PH → Prop} {h : PH} {x2 : Int32} (k : G 4 mX5_layChange post 99 [some (.ref 15), none, some (.int x2), some (.int 0)] [] h) : G 4 mX5_layChange post 97 [some (.ref 15), none, some (.int x2), none] [] h := by
  refine g_iconst (v := 0) dX5_layChange_97 rfl ?_
  refine g_istore_n (L' := [some (.ref 15), none, some (.int x2), some (.int 0)]) dX5_layChange_98 rfl (by decide) rfl ?_
  exact k
theorem sX5_layChange_46 {post : Option Value → PH → Prop} {h : PH} {x2 x3 : Int32} (k1 : ¬ (h.1 15 18) = (-1001) → G 4 mX5_layChange post 97 [some (.ref 15), none, some (.int x2), none] [] h) (k2 : (h.1 15 18) = (-1001) → G 4 mX5_layChange post 56 [some (.ref 15), none, some (.int x2), some (.int x3)] [] h) : G 4 mX5_layChange post 46 [some (.ref 15), none, some (.int x2), some (.int x3)] [] h := by
  refine g_aload_n dX5_layChange_46 rfl ?_
  refine g_getfield (kd := 0) (v := .int (h.1 15 18)) dX5_layChange_47 fX5_153 (by decide) rfl rfl rfl rfl ?_
  refine g_sipush (v := (-1001)) dX5_layChange_50 rfl ?_
  exact g_icmp_ne (tgt := 97) dX5_layChange_53 (by decide) (fun hc => by refine g_forget (mask := [true, true, true, false]) (L' := [some (.ref 15), none, some (.int x2), none]) rfl ?_; exact k1 hc) (fun hc => k2 hc)
theorem sX5_layChange_99 {post : Option Value → PH → Prop} {h : PH} {x2 x3 : Int32} (k1 : (h.1 15 18) ≤ x3 → G 4 mX5_layChange post 150 [none, none, none, none] [] h) (k2 : ¬ (h.1 15 18) ≤ x3 → G 4 mX5_layChange post 107 [some (.ref 15), none, some (.int x2), some (.int x3)] [] h) : G 4 mX5_layChange post 99 [some (.ref 15), none, some (.int x2), some (.int x3)] [] h := by
  refine g_iload_n dX5_layChange_99 rfl ?_
  refine g_aload_n dX5_layChange_100 rfl ?_
  refine g_getfield (kd := 0) (v := .int (h.1 15 18)) dX5_layChange_101 fX5_153 (by decide) rfl rfl rfl rfl ?_
  exact g_icmp_ge (tgt := 150) dX5_layChange_104 (by decide) (fun hc => by refine g_forget (mask := [false, true, false, false]) (L' := [none, none, none, none]) rfl ?_; exact k1 hc) (fun hc => k2 hc)
theorem sX5_layChange_56 {post : Option Value → PH → Prop} {h : PH} {x2 x3 : Int32} (k1 : (h.1 15 15) = (-1001) → G 4 mX5_layChange post 97 [some (.ref 15), none, some (.int x2), none] [] h) (k2 : ¬ (h.1 15 15) = (-1001) → G 4 mX5_layChange post 66 [some (.ref 15), none, some (.int x2), some (.int x3)] [] h) : G 4 mX5_layChange post 56 [some (.ref 15), none, some (.int x2), some (.int x3)] [] h := by
  refine g_aload_n dX5_layChange_56 rfl ?_
  refine g_getfield (kd := 0) (v := .int (h.1 15 15)) dX5_layChange_57 fX5_114 (by decide) rfl rfl rfl rfl ?_
  refine g_sipush (v := (-1001)) dX5_layChange_60 rfl ?_
  exact g_icmp_eq (tgt := 97) dX5_layChange_63 (by decide) (fun hc => by refine g_forget (mask := [true, true, true, false]) (L' := [some (.ref 15), none, some (.int x2), none]) rfl ?_; exact k1 hc) (fun hc => k2 hc)
theorem sX5_layChange_150 {post : Option Value → PH → Prop} {h : PH} (k : post none h) : G 4 mX5_layChange post 150 [none, none, none, none] [] h := by
  exact g_return dX5_layChange_150 rfl k
theorem sX5_layChange_107 {post : Option Value → PH → Prop} {h : PH} {x2 x3 : Int32} (k1 : 15 ≤ x3 → G 4 mX5_layChange post 150 [none, none, none, none] [] h) (k2 : ¬ 15 ≤ x3 → G 4 mX5_layChange post 113 [some (.ref 15), none, some (.int x2), some (.int x3)] [] h) : G 4 mX5_layChange post 107 [some (.ref 15), none, some (.int x2), some (.int x3)] [] h := by
  refine g_iload_n dX5_layChange_107 rfl ?_
  refine g_bipush (v := 15) dX5_layChange_108 rfl ?_
  exact g_icmp_ge (tgt := 150) dX5_layChange_110 (by decide) (fun hc => by refine g_forget (mask := [false, true, false, false]) (L' := [none, none, none, none]) rfl ?_; exact k1 hc) (fun hc => k2 hc)
theorem sX5_layChange_66 {post : Option Value → PH → Prop} {h : PH} {x2 x3 : Int32} (k : Ev 1 mX5_moveFrom [.ref 15, .int x2, .int x3] h (fun r h' => G 4 mX5_layChange post 73 [some (.ref 15), none, some (.int x2), some (.int x3)] (r.toList ++ [.ref 15]) h')) : G 4 mX5_layChange post 66 [some (.ref 15), none, some (.int x2), some (.int x3)] [] h := by
  refine g_aload_n dX5_layChange_66 rfl ?_
  refine g_aload_n dX5_layChange_67 rfl ?_
  refine g_iload_n dX5_layChange_68 rfl ?_
  refine g_iload_n dX5_layChange_69 rfl ?_
  exact g_callV (n := 2) (b := 15) (as := [.int x2, .int x3]) (rest := [.ref 15]) dX5_layChange_70 kX5_moveFrom lX5_156 (by decide) rfl ⟨_, _, rfl⟩ rfl rfl (by simp only [List.map, Value.category]; decide) (by decide) k
theorem sX5_layChange_113 {post : Option Value → PH → Prop} {h : PH} {x2 x3 : Int32} (k : Ev 1 mX5_moveFrom [.ref 15, .int x2, .int (((h.1 15 18) - 1) - x3)] h (fun r h' => G 4 mX5_layChange post 131 [some (.ref 15), none, some (.int x2), some (.int x3)] (r.toList ++ [.int x3, .ref 25]) h')) : G 4 mX5_layChange post 113 [some (.ref 15), none, some (.int x2), some (.int x3)] [] h := by
  refine g_aload_n dX5_layChange_113 rfl ?_
  refine g_getfield (kd := 27) (v := .ref 25) dX5_layChange_114 fX5_38 (by decide) rfl rfl rfl rfl ?_
  refine g_iload_n dX5_layChange_117 rfl ?_
  refine g_aload_n dX5_layChange_118 rfl ?_
  refine g_iload_n dX5_layChange_119 rfl ?_
  refine g_aload_n dX5_layChange_120 rfl ?_
  refine g_getfield (kd := 0) (v := .int (h.1 15 18)) dX5_layChange_121 fX5_153 (by decide) rfl rfl rfl rfl ?_
  refine g_iconst (v := 1) dX5_layChange_124 rfl ?_
  refine g_isub dX5_layChange_125 ?_
  refine g_iload_n dX5_layChange_126 rfl ?_
  refine g_isub dX5_layChange_127 ?_
  exact g_callV (n := 2) (b := 15) (as := [.int x2, .int (((h.1 15 18) - 1) - x3)]) (rest := [.int x3, .ref 25]) dX5_layChange_128 kX5_moveFrom lX5_156 (by decide) rfl ⟨_, _, rfl⟩ rfl rfl (by simp only [List.map, Value.category]; decide) (by decide) k
theorem sX5_layChange_73 {post : Option Value → PH → Prop} {h : PH} {x2 x3 s0 : Int32} (k1 : ¬ s0 = (-1001) → G 4 mX5_layChange post 85 [some (.ref 15), none, some (.int x2), some (.int x3)] [.ref 15] h) (k2 : s0 = (-1001) → G 4 mX5_layChange post 79 [some (.ref 15), none, some (.int x2), some (.int x3)] [.ref 15] h) : G 4 mX5_layChange post 73 [some (.ref 15), none, some (.int x2), some (.int x3)] [.int s0, .ref 15] h := by
  refine g_sipush (v := (-1001)) dX5_layChange_73 rfl ?_
  exact g_icmp_ne (tgt := 85) dX5_layChange_76 (by decide) (fun hc => k1 hc) (fun hc => k2 hc)
theorem sX5_layChange_131 {post : Option Value → PH → Prop} {h : PH} {x2 x3 s0 s1 : Int32} (hb1 : vp_in s1 15) (hb2 : vp_in x3 15) (k : Ev 1 mX5_moved [.ref 15, .int x2, .int ((upd2 h.1 25 (Int32.toNatClampNeg s1) s0) 25 (Int32.toNatClampNeg x3))] ((upd2 h.1 25 (Int32.toNatClampNeg s1) s0), h.2) (fun r h' => G 4 mX5_layChange post 143 [some (.ref 15), none, none, some (.int x3)] (r.toList ++ []) h')) : G 4 mX5_layChange post 131 [some (.ref 15), none, some (.int x2), some (.int x3)] [.int s0, .int s1, .ref 25] h := by
  refine g_iastore (n := 15) dX5_layChange_131 (by decide) rfl rfl rfl hb1 ?_
  refine g_aload_n dX5_layChange_132 rfl ?_
  refine g_iload_n dX5_layChange_133 rfl ?_
  refine g_aload_n dX5_layChange_134 rfl ?_
  refine g_getfield (kd := 27) (v := .ref 25) dX5_layChange_135 fX5_38 (by decide) rfl rfl rfl rfl ?_
  refine g_iload_n dX5_layChange_138 rfl ?_
  refine g_iaload (n := 15) dX5_layChange_139 (by decide) rfl rfl rfl hb2 ?_
  refine g_forget (mask := [true, true, false, true]) (L' := [some (.ref 15), none, none, some (.int x3)]) rfl ?_
  exact g_callV (n := 2) (b := 15) (as := [.int x2, .int ((upd2 h.1 25 (Int32.toNatClampNeg s1) s0) 25 (Int32.toNatClampNeg x3))]) (rest := []) dX5_layChange_140 kX5_moved lX5_159 (by decide) rfl ⟨_, _, rfl⟩ rfl rfl (by simp only [List.map, Value.category]; decide) (by decide) k
theorem sX5_layChange_85 {post : Option Value → PH → Prop} {h : PH} {x2 x3 : Int32} (k : G 4 mX5_layChange post 39 [some (.ref 15), none, some (.int x2), some (.int (x3 + 1))] [] ((upd2 h.1 15 18 (x3 + 1)), h.2)) : G 4 mX5_layChange post 85 [some (.ref 15), none, some (.int x2), some (.int x3)] [.ref 15] h := by
  refine g_iload_n dX5_layChange_85 rfl ?_
  refine g_iconst (v := 1) dX5_layChange_86 rfl ?_
  refine g_iadd dX5_layChange_87 ?_
  refine g_putfield dX5_layChange_88 fX5_153 (by decide) rfl rfl rfl rfl rfl ?_
  refine g_iinc (v := (x3 + 1)) (L' := [some (.ref 15), none, some (.int x2), some (.int (x3 + 1))]) dX5_layChange_91 rfl rfl rfl (by decide) rfl ?_
  refine g_goto (tgt := 39) dX5_layChange_94 (by decide) ?_
  exact k
theorem sX5_layChange_79 {post : Option Value → PH → Prop} {h : PH} {x2 x3 : Int32} (k : G 4 mX5_layChange post 39 [some (.ref 15), none, some (.int x2), some (.int (x3 + 1))] [] ((upd2 h.1 15 18 (-1001)), h.2)) : G 4 mX5_layChange post 79 [some (.ref 15), none, some (.int x2), some (.int x3)] [.ref 15] h := by
  refine g_sipush (v := (-1001)) dX5_layChange_79 rfl ?_
  refine g_goto (tgt := 88) dX5_layChange_82 (by decide) ?_
  refine g_putfield dX5_layChange_88 fX5_153 (by decide) rfl rfl rfl rfl rfl ?_
  refine g_iinc (v := (x3 + 1)) (L' := [some (.ref 15), none, some (.int x2), some (.int (x3 + 1))]) dX5_layChange_91 rfl rfl rfl (by decide) rfl ?_
  refine g_goto (tgt := 39) dX5_layChange_94 (by decide) ?_
  exact k
theorem sX5_layChange_143 {post : Option Value → PH → Prop} {h : PH} {x3 s0 : Int32} (k : G 4 mX5_layChange post 99 [some (.ref 15), none, some (.int s0), some (.int (x3 + 1))] [] h) : G 4 mX5_layChange post 143 [some (.ref 15), none, none, some (.int x3)] [.int s0] h := by
  refine g_istore_n (L' := [some (.ref 15), none, some (.int s0), some (.int x3)]) dX5_layChange_143 rfl (by decide) rfl ?_
  refine g_iinc (v := (x3 + 1)) (L' := [some (.ref 15), none, some (.int s0), some (.int (x3 + 1))]) dX5_layChange_144 rfl rfl rfl (by decide) rfl ?_
  refine g_goto (tgt := 99) dX5_layChange_147 (by decide) ?_
  exact k
theorem sX5_changeNow_0 {post : Option Value → PH → Prop} {h : PH} {x1 : Int32} (k1 : ¬ x1 = 0 → G 0 mX5_changeNow post 9 [some (.ref 15), some (.int x1)] [] h) (k2 : x1 = 0 → G 0 mX5_changeNow post 4 [some (.ref 15), none] [] h) : G 0 mX5_changeNow post 0 [some (.ref 15), some (.int x1)] [] h := by
  refine g_iload_n dX5_changeNow_0 rfl ?_
  exact g_if_ne (tgt := 9) dX5_changeNow_1 (by decide) (fun hc => k1 hc) (fun hc => by refine g_forget (mask := [true, false]) (L' := [some (.ref 15), none]) rfl ?_; exact k2 hc)
theorem sX5_changeNow_9 {post : Option Value → PH → Prop} {h : PH} {x1 : Int32} (k1 : (h.1 15 18) ≤ (x1 - 10) → G 0 mX5_changeNow post 32 [none, none] [] h) (k2 : ¬ (h.1 15 18) ≤ (x1 - 10) → G 0 mX5_changeNow post 20 [some (.ref 15), some (.int x1)] [] h) : G 0 mX5_changeNow post 9 [some (.ref 15), some (.int x1)] [] h := by
  refine g_iload_n dX5_changeNow_9 rfl ?_
  refine g_bipush (v := 10) dX5_changeNow_10 rfl ?_
  refine g_isub dX5_changeNow_12 ?_
  refine g_aload_n dX5_changeNow_13 rfl ?_
  refine g_getfield (kd := 0) (v := .int (h.1 15 18)) dX5_changeNow_14 fX5_153 (by decide) rfl rfl rfl rfl ?_
  exact g_icmp_ge (tgt := 32) dX5_changeNow_17 (by decide) (fun hc => by refine g_forget (mask := [false, false]) (L' := [none, none]) rfl ?_; exact k1 hc) (fun hc => k2 hc)
theorem sX5_changeNow_4 {post : Option Value → PH → Prop} {h : PH} (k : post (some (.int (h.1 15 18))) h) : G 0 mX5_changeNow post 4 [some (.ref 15), none] [] h := by
  refine g_aload_n dX5_changeNow_4 rfl ?_
  refine g_getfield (kd := 0) (v := .int (h.1 15 18)) dX5_changeNow_5 fX5_153 (by decide) rfl rfl rfl rfl ?_
  exact g_ireturn (ty := .int) dX5_changeNow_8 rfl rfl k
theorem sX5_changeNow_32 {post : Option Value → PH → Prop} {h : PH} (k : post (some (.int (-1001))) h) : G 0 mX5_changeNow post 32 [none, none] [] h := by
  refine g_sipush (v := (-1001)) dX5_changeNow_32 rfl ?_
  exact g_ireturn (ty := .int) dX5_changeNow_35 rfl rfl k
theorem sX5_changeNow_20 {post : Option Value → PH → Prop} {h : PH} {x1 : Int32} (hb1 : vp_in (x1 - 10) 15) (k : post (some (.int (h.1 25 (Int32.toNatClampNeg (x1 - 10))))) h) : G 0 mX5_changeNow post 20 [some (.ref 15), some (.int x1)] [] h := by
  refine g_aload_n dX5_changeNow_20 rfl ?_
  refine g_getfield (kd := 27) (v := .ref 25) dX5_changeNow_21 fX5_38 (by decide) rfl rfl rfl rfl ?_
  refine g_iload_n dX5_changeNow_24 rfl ?_
  refine g_bipush (v := 10) dX5_changeNow_25 rfl ?_
  refine g_isub dX5_changeNow_27 ?_
  refine g_iaload (n := 15) dX5_changeNow_28 (by decide) rfl rfl rfl hb1 ?_
  refine g_goto (tgt := 35) dX5_changeNow_29 (by decide) ?_
  exact g_ireturn (ty := .int) dX5_changeNow_35 rfl rfl k
theorem sX5_change_0 {post : Option Value → PH → Prop} {h : PH} {x1 x2 : Int32} (k1 : ¬ (h.1 15 2) = 0 → G 5 mX5_change post 11 [some (.ref 15), some (.int x1), some (.int x2)] [] h) (k2 : (h.1 15 2) = 0 → G 5 mX5_change post 7 [none, none, none] [] h) : G 5 mX5_change post 0 [some (.ref 15), some (.int x1), some (.int x2)] [] h := by
  refine g_aload_n dX5_change_0 rfl ?_
  refine g_getfield (kd := 0) (v := .int (h.1 15 2)) dX5_change_1 fX5_60 (by decide) rfl rfl rfl rfl ?_
  exact g_if_ne (tgt := 11) dX5_change_4 (by decide) (fun hc => k1 hc) (fun hc => by refine g_forget (mask := [false, false, false]) (L' := [none, none, none]) rfl ?_; exact k2 hc)
theorem sX5_change_11 {post : Option Value → PH → Prop} {h : PH} {x1 x2 : Int32} (k1 : x2 = 0 → G 5 mX5_change post 30 [some (.ref 15), some (.int x1), some (.int x2)] [] h) (k2 : ¬ x2 = 0 → G 5 mX5_change post 15 [some (.ref 15), some (.int x1), some (.int x2)] [] h) : G 5 mX5_change post 11 [some (.ref 15), some (.int x1), some (.int x2)] [] h := by
  refine g_iload_n dX5_change_11 rfl ?_
  exact g_if_eq (tgt := 30) dX5_change_12 (by decide) (fun hc => k1 hc) (fun hc => k2 hc)
theorem sX5_change_7 {post : Option Value → PH → Prop} {h : PH} (k : post (some (.int (-1004))) h) : G 5 mX5_change post 7 [none, none, none] [] h := by
  refine g_sipush (v := (-1004)) dX5_change_7 rfl ?_
  exact g_ireturn (ty := .int) dX5_change_10 rfl rfl k
theorem sX5_change_30 {post : Option Value → PH → Prop} {h : PH} {x1 x2 : Int32} (k : Ev 4 mX5_layChange [.ref 15, .int x1] h (fun r h' => G 5 mX5_change post 35 [some (.ref 15), none, some (.int x2)] (r.toList ++ []) h')) : G 5 mX5_change post 30 [some (.ref 15), some (.int x1), some (.int x2)] [] h := by
  refine g_aload_n dX5_change_30 rfl ?_
  refine g_iload_n dX5_change_31 rfl ?_
  refine g_forget (mask := [true, false, true]) (L' := [some (.ref 15), none, some (.int x2)]) rfl ?_
  exact g_callV (n := 1) (b := 15) (as := [.int x1]) (rest := []) dX5_change_32 kX5_layChange lX5_162 (by decide) rfl ⟨_, _, rfl⟩ rfl rfl (by simp only [List.map, Value.category]; decide) (by decide) k
theorem sX5_change_15 {post : Option Value → PH → Prop} {h : PH} {x1 x2 : Int32} (k : Ev 0 mX5_within [.int x2, .int 10, .int 24] h (fun r h' => G 5 mX5_change post 23 [some (.ref 15), some (.int x1), some (.int x2)] (r.toList ++ []) h')) : G 5 mX5_change post 15 [some (.ref 15), some (.int x1), some (.int x2)] [] h := by
  refine g_iload_n dX5_change_15 rfl ?_
  refine g_bipush (v := 10) dX5_change_16 rfl ?_
  refine g_bipush (v := 24) dX5_change_18 rfl ?_
  exact g_callS (n := 3) (as := [.int x2, .int 10, .int 24]) (rest := []) dX5_change_20 kX5_within lX5_41 rfl rfl (by simp only [List.map, Value.category]; decide) (by decide) k
theorem sX5_change_35 {post : Option Value → PH → Prop} {h : PH} {x2 : Int32} (k : Ev 0 mX5_changeNow [.ref 15, .int x2] h (fun r h' => G 5 mX5_change post 40 [none, none, none] (r.toList ++ []) h')) : G 5 mX5_change post 35 [some (.ref 15), none, some (.int x2)] [] h := by
  refine g_aload_n dX5_change_35 rfl ?_
  refine g_iload_n dX5_change_36 rfl ?_
  refine g_forget (mask := [false, true, false]) (L' := [none, none, none]) rfl ?_
  exact g_callV (n := 1) (b := 15) (as := [.int x2]) (rest := []) dX5_change_37 kX5_changeNow lX5_165 (by decide) rfl ⟨_, _, rfl⟩ rfl rfl (by simp only [List.map, Value.category]; decide) (by decide) k
theorem sX5_change_23 {post : Option Value → PH → Prop} {h : PH} {x1 x2 s0 : Int32} (k1 : ¬ s0 = 0 → G 5 mX5_change post 30 [some (.ref 15), some (.int x1), some (.int x2)] [] h) (k2 : s0 = 0 → G 5 mX5_change post 26 [none, none, none] [] h) : G 5 mX5_change post 23 [some (.ref 15), some (.int x1), some (.int x2)] [.int s0] h := by
  exact g_if_ne (tgt := 30) dX5_change_23 (by decide) (fun hc => k1 hc) (fun hc => by refine g_forget (mask := [false, false, false]) (L' := [none, none, none]) rfl ?_; exact k2 hc)
theorem sX5_change_40 {post : Option Value → PH → Prop} {h : PH} {s0 : Int32} (k : post (some (.int s0)) h) : G 5 mX5_change post 40 [none, none, none] [.int s0] h := by
  exact g_ireturn (ty := .int) dX5_change_40 rfl rfl k
theorem sX5_change_26 {post : Option Value → PH → Prop} {h : PH} (k : post (some (.int (-1003))) h) : G 5 mX5_change post 26 [none, none, none] [] h := by
  refine g_sipush (v := (-1003)) dX5_change_26 rfl ?_
  exact g_ireturn (ty := .int) dX5_change_29 rfl rfl k
theorem sX5_go_0 {post : Option Value → PH → Prop} {h : PH} {x1 : Int32} (k1 : ¬ (h.1 15 2) = 0 → G 5 mX5_go post 11 [some (.ref 15), some (.int x1)] [] h) (k2 : (h.1 15 2) = 0 → G 5 mX5_go post 7 [none, none] [] h) : G 5 mX5_go post 0 [some (.ref 15), some (.int x1)] [] h := by
  refine g_aload_n dX5_go_0 rfl ?_
  refine g_getfield (kd := 0) (v := .int (h.1 15 2)) dX5_go_1 fX5_60 (by decide) rfl rfl rfl rfl ?_
  exact g_if_ne (tgt := 11) dX5_go_4 (by decide) (fun hc => k1 hc) (fun hc => by refine g_forget (mask := [false, false]) (L' := [none, none]) rfl ?_; exact k2 hc)
theorem sX5_go_11 {post : Option Value → PH → Prop} {h : PH} {x1 : Int32} (k : Ev 4 mX5_layChange [.ref 15, .int x1] h (fun r h' => G 5 mX5_go post 16 [some (.ref 15), none] (r.toList ++ []) h')) : G 5 mX5_go post 11 [some (.ref 15), some (.int x1)] [] h := by
  refine g_aload_n dX5_go_11 rfl ?_
  refine g_iload_n dX5_go_12 rfl ?_
  refine g_forget (mask := [true, false]) (L' := [some (.ref 15), none]) rfl ?_
  exact g_callV (n := 1) (b := 15) (as := [.int x1]) (rest := []) dX5_go_13 kX5_layChange lX5_162 (by decide) rfl ⟨_, _, rfl⟩ rfl rfl (by simp only [List.map, Value.category]; decide) (by decide) k
theorem sX5_go_7 {post : Option Value → PH → Prop} {h : PH} (k : post (some (.int (-1004))) h) : G 5 mX5_go post 7 [none, none] [] h := by
  refine g_sipush (v := (-1004)) dX5_go_7 rfl ?_
  exact g_ireturn (ty := .int) dX5_go_10 rfl rfl k
theorem sX5_go_16 {post : Option Value → PH → Prop} {h : PH} (k1 : 1 ≤ (h.1 15 18) → G 5 mX5_go post 28 [some (.ref 15), none] [] h) (k2 : ¬ 1 ≤ (h.1 15 18) → G 5 mX5_go post 24 [none, none] [] h) : G 5 mX5_go post 16 [some (.ref 15), none] [] h := by
  refine g_aload_n dX5_go_16 rfl ?_
  refine g_getfield (kd := 0) (v := .int (h.1 15 18)) dX5_go_17 fX5_153 (by decide) rfl rfl rfl rfl ?_
  refine g_iconst (v := 1) dX5_go_20 rfl ?_
  exact g_icmp_ge (tgt := 28) dX5_go_21 (by decide) (fun hc => k1 hc) (fun hc => by refine g_forget (mask := [false, true]) (L' := [none, none]) rfl ?_; exact k2 hc)
theorem sX5_go_28 {post : Option Value → PH → Prop} {h : PH} (hb1 : vp_in 0 15) (hb2 : vp_in 0 15) (hb3 : vp_in ((h.1 25 (Int32.toNatClampNeg 0)) / 8) 5) (k : post (some (.int ((h.1 15 18) - 1))) ((upd2 (upd2 h.1 19 (Int32.toNatClampNeg ((h.1 25 (Int32.toNatClampNeg 0)) / 8)) (((h.1 25 (Int32.toNatClampNeg 0)) - (h.1 25 (Int32.toNatClampNeg 0)) / 8 * 8) - 1)) 15 11 ((h.1 15 11) + 1)), h.2)) : G 5 mX5_go post 28 [some (.ref 15), none] [] h := by
  refine g_aload_n dX5_go_28 rfl ?_
  refine g_getfield (kd := 21) (v := .ref 19) dX5_go_29 fX5_19 (by decide) rfl rfl rfl rfl ?_
  refine g_aload_n dX5_go_32 rfl ?_
  refine g_getfield (kd := 27) (v := .ref 25) dX5_go_33 fX5_38 (by decide) rfl rfl rfl rfl ?_
  refine g_iconst (v := 0) dX5_go_36 rfl ?_
  refine g_iaload (n := 15) dX5_go_37 (by decide) rfl rfl rfl hb1 ?_
  refine g_bipush (v := 8) dX5_go_38 rfl ?_
  refine g_idiv dX5_go_40 (by decide) ?_
  refine g_aload_n dX5_go_41 rfl ?_
  refine g_getfield (kd := 27) (v := .ref 25) dX5_go_42 fX5_38 (by decide) rfl rfl rfl rfl ?_
  refine g_iconst (v := 0) dX5_go_45 rfl ?_
  refine g_iaload (n := 15) dX5_go_46 (by decide) rfl rfl rfl hb2 ?_
  refine g_bipush (v := 8) dX5_go_47 rfl ?_
  refine g_irem dX5_go_49 (by decide) ?_
  refine g_iconst (v := 1) dX5_go_50 rfl ?_
  refine g_isub dX5_go_51 ?_
  refine g_iastore (n := 5) dX5_go_52 (by decide) rfl rfl rfl hb3 ?_
  refine g_aload_n dX5_go_53 rfl ?_
  refine g_dup dX5_go_54 rfl ?_
  refine g_getfield (kd := 0) (v := .int (h.1 15 11)) dX5_go_55 fX5_97 (by decide) rfl rfl rfl rfl ?_
  refine g_iconst (v := 1) dX5_go_58 rfl ?_
  refine g_iadd dX5_go_59 ?_
  refine g_putfield dX5_go_60 fX5_97 (by decide) rfl rfl rfl rfl rfl ?_
  refine g_aload_n dX5_go_63 rfl ?_
  refine g_getfield (kd := 0) (v := .int (h.1 15 18)) dX5_go_64 fX5_153 (by decide) rfl rfl rfl rfl ?_
  refine g_iconst (v := 1) dX5_go_67 rfl ?_
  refine g_isub dX5_go_68 ?_
  exact g_ireturn (ty := .int) dX5_go_69 rfl rfl k
theorem sX5_go_24 {post : Option Value → PH → Prop} {h : PH} (k : post (some (.int (-1004))) h) : G 5 mX5_go post 24 [none, none] [] h := by
  refine g_sipush (v := (-1004)) dX5_go_24 rfl ?_
  exact g_ireturn (ty := .int) dX5_go_27 rfl rfl k
theorem sX5_layTrade_0 {post : Option Value → PH → Prop} {h : PH} (k : Ev 0 mX5_asTheyAre [.ref 15] h (fun r h' => G 3 mX5_layTrade post 4 [some (.ref 15), none, none, none, none, none, none] (r.toList ++ []) h')) : G 3 mX5_layTrade post 0 [some (.ref 15), none, none, none, none, none, none] [] h := by
  refine g_aload_n dX5_layTrade_0 rfl ?_
  exact g_callV (n := 0) (b := 15) (as := []) (rest := []) dX5_layTrade_1 kX5_asTheyAre lX5_90 (by decide) rfl ⟨_, _, rfl⟩ rfl rfl (by simp only [List.map, Value.category]; decide) (by decide) k
theorem sX5_layTrade_4 {post : Option Value → PH → Prop} {h : PH} (k : Ev 2 mX5_caught [.ref 15] h (fun r h' => G 3 mX5_layTrade post 8 [some (.ref 15), none, none, none, none, none, none] (r.toList ++ []) h')) : G 3 mX5_layTrade post 4 [some (.ref 15), none, none, none, none, none, none] [] h := by
  refine g_aload_n dX5_layTrade_4 rfl ?_
  exact g_callV (n := 0) (b := 15) (as := []) (rest := []) dX5_layTrade_5 kX5_caught lX5_128 (by decide) rfl ⟨_, _, rfl⟩ rfl rfl (by simp only [List.map, Value.category]; decide) (by decide) k
theorem sX5_layTrade_8 {post : Option Value → PH → Prop} {h : PH} {s0 : Int32} (k : G 3 mX5_layTrade post 32 [some (.ref 15), some (.int s0), some (.int 0), none, none, none, none] [] ((upd2 (upd2 (upd2 h.1 15 20 (-1001)) 15 21 (-1001)) 15 22 (-1001)), h.2)) : G 3 mX5_layTrade post 8 [some (.ref 15), none, none, none, none, none, none] [.int s0] h := by
  refine g_istore_n (L' := [some (.ref 15), some (.int s0), none, none, none, none, none]) dX5_layTrade_8 rfl (by decide) rfl ?_
  refine g_aload_n dX5_layTrade_9 rfl ?_
  refine g_sipush (v := (-1001)) dX5_layTrade_10 rfl ?_
  refine g_putfield dX5_layTrade_13 fX5_168 (by decide) rfl rfl rfl rfl rfl ?_
  refine g_aload_n dX5_layTrade_16 rfl ?_
  refine g_sipush (v := (-1001)) dX5_layTrade_17 rfl ?_
  refine g_putfield dX5_layTrade_20 fX5_171 (by decide) rfl rfl rfl rfl rfl ?_
  refine g_aload_n dX5_layTrade_23 rfl ?_
  refine g_sipush (v := (-1001)) dX5_layTrade_24 rfl ?_
  refine g_putfield dX5_layTrade_27 fX5_174 (by decide) rfl rfl rfl rfl rfl ?_
  refine g_iconst (v := 0) dX5_layTrade_30 rfl ?_
  refine g_istore_n (L' := [some (.ref 15), some (.int s0), some (.int 0), none, none, none, none]) dX5_layTrade_31 rfl (by decide) rfl ?_
  exact k
theorem sX5_layTrade_32 {post : Option Value → PH → Prop} {h : PH} {x1 x2 : Int32} (k1 : 25 ≤ x2 → G 3 mX5_layTrade post 206 [none, none, none, none, none, none, none] [] h) (k2 : ¬ 25 ≤ x2 → G 3 mX5_layTrade post 38 [some (.ref 15), some (.int x1), some (.int x2), none, none, none, none] [] h) : G 3 mX5_layTrade post 32 [some (.ref 15), some (.int x1), some (.int x2), none, none, none, none] [] h := by
  refine g_iload_n dX5_layTrade_32 rfl ?_
  refine g_bipush (v := 25) dX5_layTrade_33 rfl ?_
  exact g_icmp_ge (tgt := 206) dX5_layTrade_35 (by decide) (fun hc => by refine g_forget (mask := [false, false, false, true, true, true, true]) (L' := [none, none, none, none, none, none, none]) rfl ?_; exact k1 hc) (fun hc => k2 hc)
theorem sX5_layTrade_206 {post : Option Value → PH → Prop} {h : PH} (k : post none h) : G 3 mX5_layTrade post 206 [none, none, none, none, none, none, none] [] h := by
  exact g_return dX5_layTrade_206 rfl k
theorem sX5_layTrade_38 {post : Option Value → PH → Prop} {h : PH} {x1 x2 : Int32} (k : Ev 0 mX5_asTheyAre [.ref 15] h (fun r h' => G 3 mX5_layTrade post 51 [some (.ref 15), some (.int x1), some (.int x2), some (.int (x2 / 5)), some (.int (x2 - x2 / 5 * 5)), none, none] (r.toList ++ []) h')) : G 3 mX5_layTrade post 38 [some (.ref 15), some (.int x1), some (.int x2), none, none, none, none] [] h := by
  refine g_iload_n dX5_layTrade_38 rfl ?_
  refine g_iconst (v := 5) dX5_layTrade_39 rfl ?_
  refine g_idiv dX5_layTrade_40 (by decide) ?_
  refine g_istore_n (L' := [some (.ref 15), some (.int x1), some (.int x2), some (.int (x2 / 5)), none, none, none]) dX5_layTrade_41 rfl (by decide) rfl ?_
  refine g_iload_n dX5_layTrade_42 rfl ?_
  refine g_iconst (v := 5) dX5_layTrade_43 rfl ?_
  refine g_irem dX5_layTrade_44 (by decide) ?_
  refine g_istore (L' := [some (.ref 15), some (.int x1), some (.int x2), some (.int (x2 / 5)), some (.int (x2 - x2 / 5 * 5)), none, none]) dX5_layTrade_45 rfl (by decide) rfl ?_
  refine g_aload_n dX5_layTrade_47 rfl ?_
  exact g_callV (n := 0) (b := 15) (as := []) (rest := []) dX5_layTrade_48 kX5_asTheyAre lX5_90 (by decide) rfl ⟨_, _, rfl⟩ rfl rfl (by simp only [List.map, Value.category]; decide) (by decide) k
theorem sX5_layTrade_51 {post : Option Value → PH → Prop} {h : PH} {x1 x2 x3 x4 : Int32} (hb1 : vp_in x4 5) (hb2 : vp_in x3 5) (hb3 : vp_in x3 5) (hb4 : vp_in x4 5) (k1 : x4 ≤ x3 → G 3 mX5_layTrade post 143 [some (.ref 15), some (.int x1), some (.int x2), some (.int x3), some (.int x4), none, none] [] ((upd2 (upd2 h.1 21 (Int32.toNatClampNeg x3) (h.1 19 (Int32.toNatClampNeg x4))) 21 (Int32.toNatClampNeg x4) (h.1 19 (Int32.toNatClampNeg x3))), h.2)) (k2 : ¬ x4 ≤ x3 → G 3 mX5_layTrade post 83 [some (.ref 15), some (.int x1), some (.int x2), some (.int x3), some (.int x4), none, none] [] ((upd2 (upd2 h.1 21 (Int32.toNatClampNeg x3) (h.1 19 (Int32.toNatClampNeg x4))) 21 (Int32.toNatClampNeg x4) (h.1 19 (Int32.toNatClampNeg x3))), h.2)) : G 3 mX5_layTrade post 51 [some (.ref 15), some (.int x1), some (.int x2), some (.int x3), some (.int x4), none, none] [] h := by
  refine g_aload_n dX5_layTrade_51 rfl ?_
  refine g_getfield (kd := 23) (v := .ref 21) dX5_layTrade_52 fX5_25 (by decide) rfl rfl rfl rfl ?_
  refine g_iload_n dX5_layTrade_55 rfl ?_
  refine g_aload_n dX5_layTrade_56 rfl ?_
  refine g_getfield (kd := 21) (v := .ref 19) dX5_layTrade_57 fX5_19 (by decide) rfl rfl rfl rfl ?_
  refine g_iload dX5_layTrade_60 rfl ?_
  refine g_iaload (n := 5) dX5_layTrade_62 (by decide) rfl rfl rfl hb1 ?_
  refine g_iastore (n := 5) dX5_layTrade_63 (by decide) rfl rfl rfl hb2 ?_
  refine g_aload_n dX5_layTrade_64 rfl ?_
  refine g_getfield (kd := 23) (v := .ref 21) dX5_layTrade_65 fX5_25 (by decide) rfl rfl rfl rfl ?_
  refine g_iload dX5_layTrade_68 rfl ?_
  refine g_aload_n dX5_layTrade_70 rfl ?_
  refine g_getfield (kd := 21) (v := .ref 19) dX5_layTrade_71 fX5_19 (by decide) rfl rfl rfl rfl ?_
  refine g_iload_n dX5_layTrade_74 rfl ?_
  refine g_iaload (n := 5) dX5_layTrade_75 (by decide) rfl rfl rfl hb3 ?_
  refine g_iastore (n := 5) dX5_layTrade_76 (by decide) rfl rfl rfl hb4 ?_
  refine g_iload_n dX5_layTrade_77 rfl ?_
  refine g_iload dX5_layTrade_78 rfl ?_
  exact g_icmp_ge (tgt := 143) dX5_layTrade_80 (by decide) (fun hc => k1 hc) (fun hc => k2 hc)
theorem sX5_layTrade_143 {post : Option Value → PH → Prop} {h : PH} {x1 x2 x3 x4 : Int32} (k : Ev 2 mX5_caught [.ref 15] h (fun r h' => G 3 mX5_layTrade post 150 [some (.ref 15), some (.int x1), some (.int x2), some (.int x3), some (.int x4), some (.int 0), none] (r.toList ++ []) h')) : G 3 mX5_layTrade post 143 [some (.ref 15), some (.int x1), some (.int x2), some (.int x3), some (.int x4), none, none] [] h := by
  refine g_iconst (v := 0) dX5_layTrade_143 rfl ?_
  refine g_istore (L' := [some (.ref 15), some (.int x1), some (.int x2), some (.int x3), some (.int x4), some (.int 0), none]) dX5_layTrade_144 rfl (by decide) rfl ?_
  refine g_aload_n dX5_layTrade_146 rfl ?_
  exact g_callV (n := 0) (b := 15) (as := []) (rest := []) dX5_layTrade_147 kX5_caught lX5_128 (by decide) rfl ⟨_, _, rfl⟩ rfl rfl (by simp only [List.map, Value.category]; decide) (by decide) k
theorem sX5_layTrade_83 {post : Option Value → PH → Prop} {h : PH} {x1 x2 x3 x4 : Int32} (k : Ev 1 mX5_isMirror [.ref 15, .int x4] h (fun r h' => G 3 mX5_layTrade post 89 [some (.ref 15), some (.int x1), some (.int x2), some (.int x3), some (.int x4), none, none] (r.toList ++ []) h')) : G 3 mX5_layTrade post 83 [some (.ref 15), some (.int x1), some (.int x2), some (.int x3), some (.int x4), none, none] [] h := by
  refine g_aload_n dX5_layTrade_83 rfl ?_
  refine g_iload dX5_layTrade_84 rfl ?_
  exact g_callV (n := 1) (b := 15) (as := [.int x4]) (rest := []) dX5_layTrade_86 kX5_isMirror lX5_87 (by decide) rfl ⟨_, _, rfl⟩ rfl rfl (by simp only [List.map, Value.category]; decide) (by decide) k
theorem sX5_layTrade_150 {post : Option Value → PH → Prop} {h : PH} {x1 x2 x3 x4 x5 s0 : Int32} (k1 : x5 = 0 → G 3 mX5_layTrade post 200 [some (.ref 15), some (.int x1), some (.int x2), none, none, none, none] [] h) (k2 : ¬ x5 = 0 → G 3 mX5_layTrade post 159 [some (.ref 15), some (.int x1), some (.int x2), some (.int x3), some (.int x4), none, some (.int (s0 - x1))] [] h) : G 3 mX5_layTrade post 150 [some (.ref 15), some (.int x1), some (.int x2), some (.int x3), some (.int x4), some (.int x5), none] [.int s0] h := by
  refine g_iload_n dX5_layTrade_150 rfl ?_
  refine g_isub dX5_layTrade_151 ?_
  refine g_istore (L' := [some (.ref 15), some (.int x1), some (.int x2), some (.int x3), some (.int x4), some (.int x5), some (.int (s0 - x1))]) dX5_layTrade_152 rfl (by decide) rfl ?_
  refine g_iload dX5_layTrade_154 rfl ?_
  exact g_if_eq (tgt := 200) dX5_layTrade_156 (by decide) (fun hc => by refine g_forget (mask := [true, true, true, false, false, false, false]) (L' := [some (.ref 15), some (.int x1), some (.int x2), none, none, none, none]) rfl ?_; exact k1 hc) (fun hc => by refine g_forget (mask := [true, true, true, true, true, false, true]) (L' := [some (.ref 15), some (.int x1), some (.int x2), some (.int x3), some (.int x4), none, some (.int (s0 - x1))]) rfl ?_; exact k2 hc)
theorem sX5_layTrade_89 {post : Option Value → PH → Prop} {h : PH} {x1 x2 x3 x4 s0 : Int32} (k1 : s0 = 0 → G 3 mX5_layTrade post 143 [some (.ref 15), some (.int x1), some (.int x2), some (.int x3), some (.int x4), none, none] [] h) (k2 : ¬ s0 = 0 → G 3 mX5_layTrade post 92 [some (.ref 15), some (.int x1), some (.int x2), some (.int x3), some (.int x4), none, none] [] h) : G 3 mX5_layTrade post 89 [some (.ref 15), some (.int x1), some (.int x2), some (.int x3), some (.int x4), none, none] [.int s0] h := by
  exact g_if_eq (tgt := 143) dX5_layTrade_89 (by decide) (fun hc => k1 hc) (fun hc => k2 hc)
theorem sX5_layTrade_200 {post : Option Value → PH → Prop} {h : PH} {x1 x2 : Int32} (k : G 3 mX5_layTrade post 32 [some (.ref 15), some (.int x1), some (.int (x2 + 1)), none, none, none, none] [] h) : G 3 mX5_layTrade post 200 [some (.ref 15), some (.int x1), some (.int x2), none, none, none, none] [] h := by
  refine g_iinc (v := (x2 + 1)) (L' := [some (.ref 15), some (.int x1), some (.int (x2 + 1)), none, none, none, none]) dX5_layTrade_200 rfl rfl rfl (by decide) rfl ?_
  refine g_goto (tgt := 32) dX5_layTrade_203 (by decide) ?_
  exact k
theorem sX5_layTrade_159 {post : Option Value → PH → Prop} {h : PH} {x1 x2 x3 x4 x6 : Int32} (k1 : x6 ≤ 0 → G 3 mX5_layTrade post 200 [some (.ref 15), some (.int x1), some (.int x2), none, none, none, none] [] h) (k2 : ¬ x6 ≤ 0 → G 3 mX5_layTrade post 164 [some (.ref 15), some (.int x1), some (.int x2), some (.int x3), some (.int x4), none, some (.int x6)] [] h) : G 3 mX5_layTrade post 159 [some (.ref 15), some (.int x1), some (.int x2), some (.int x3), some (.int x4), none, some (.int x6)] [] h := by
  refine g_iload dX5_layTrade_159 rfl ?_
  exact g_if_le (tgt := 200) dX5_layTrade_161 (by decide) (fun hc => by refine g_forget (mask := [true, true, true, false, false, true, false]) (L' := [some (.ref 15), some (.int x1), some (.int x2), none, none, none, none]) rfl ?_; exact k1 hc) (fun hc => k2 hc)
theorem sX5_layTrade_92 {post : Option Value → PH → Prop} {h : PH} {x1 x2 x3 x4 : Int32} (hb1 : vp_in x3 5) (hb2 : vp_in x4 5) (k1 : (h.1 19 (Int32.toNatClampNeg x3)) = (h.1 19 (Int32.toNatClampNeg x4)) → G 3 mX5_layTrade post 143 [some (.ref 15), some (.int x1), some (.int x2), some (.int x3), some (.int x4), none, none] [] h) (k2 : ¬ (h.1 19 (Int32.toNatClampNeg x3)) = (h.1 19 (Int32.toNatClampNeg x4)) → G 3 mX5_layTrade post 108 [some (.ref 15), some (.int x1), some (.int x2), some (.int x3), some (.int x4), none, none] [] h) : G 3 mX5_layTrade post 92 [some (.ref 15), some (.int x1), some (.int x2), some (.int x3), some (.int x4), none, none] [] h := by
  refine g_aload_n dX5_layTrade_92 rfl ?_
  refine g_getfield (kd := 21) (v := .ref 19) dX5_layTrade_93 fX5_19 (by decide) rfl rfl rfl rfl ?_
  refine g_iload_n dX5_layTrade_96 rfl ?_
  refine g_iaload (n := 5) dX5_layTrade_97 (by decide) rfl rfl rfl hb1 ?_
  refine g_aload_n dX5_layTrade_98 rfl ?_
  refine g_getfield (kd := 21) (v := .ref 19) dX5_layTrade_99 fX5_19 (by decide) rfl rfl rfl rfl ?_
  refine g_iload dX5_layTrade_102 rfl ?_
  refine g_iaload (n := 5) dX5_layTrade_104 (by decide) rfl rfl rfl hb2 ?_
  exact g_icmp_eq (tgt := 143) dX5_layTrade_105 (by decide) (fun hc => k1 hc) (fun hc => k2 hc)
theorem sX5_layTrade_164 {post : Option Value → PH → Prop} {h : PH} {x1 x2 x3 x4 x6 : Int32} (k1 : (h.1 15 20) = (-1001) → G 3 mX5_layTrade post 183 [some (.ref 15), some (.int x1), some (.int x2), some (.int x3), some (.int x4), none, some (.int x6)] [] h) (k2 : ¬ (h.1 15 20) = (-1001) → G 3 mX5_layTrade post 174 [some (.ref 15), some (.int x1), some (.int x2), some (.int x3), some (.int x4), none, some (.int x6)] [] h) : G 3 mX5_layTrade post 164 [some (.ref 15), some (.int x1), some (.int x2), some (.int x3), some (.int x4), none, some (.int x6)] [] h := by
  refine g_aload_n dX5_layTrade_164 rfl ?_
  refine g_getfield (kd := 0) (v := .int (h.1 15 20)) dX5_layTrade_165 fX5_168 (by decide) rfl rfl rfl rfl ?_
  refine g_sipush (v := (-1001)) dX5_layTrade_168 rfl ?_
  exact g_icmp_eq (tgt := 183) dX5_layTrade_171 (by decide) (fun hc => k1 hc) (fun hc => k2 hc)
theorem sX5_layTrade_108 {post : Option Value → PH → Prop} {h : PH} {x1 x2 x3 x4 : Int32} (k : Ev 0 mX5_has [.int (h.1 15 9), .int x3] h (fun r h' => G 3 mX5_layTrade post 116 [some (.ref 15), some (.int x1), some (.int x2), some (.int x3), some (.int x4), none, none] (r.toList ++ []) h')) : G 3 mX5_layTrade post 108 [some (.ref 15), some (.int x1), some (.int x2), some (.int x3), some (.int x4), none, none] [] h := by
  refine g_aload_n dX5_layTrade_108 rfl ?_
  refine g_getfield (kd := 0) (v := .int (h.1 15 9)) dX5_layTrade_109 fX5_66 (by decide) rfl rfl rfl rfl ?_
  refine g_iload_n dX5_layTrade_112 rfl ?_
  exact g_callS (n := 2) (as := [.int (h.1 15 9), .int x3]) (rest := []) dX5_layTrade_113 kX5_has lX5_76 rfl rfl (by simp only [List.map, Value.category]; decide) (by decide) k
theorem sX5_layTrade_183 {post : Option Value → PH → Prop} {h : PH} {x1 x2 x3 x4 x6 : Int32} (k : G 3 mX5_layTrade post 200 [some (.ref 15), some (.int x1), some (.int x2), none, none, none, none] [] ((upd2 (upd2 (upd2 h.1 15 20 x6) 15 21 x3) 15 22 x4), h.2)) : G 3 mX5_layTrade post 183 [some (.ref 15), some (.int x1), some (.int x2), some (.int x3), some (.int x4), none, some (.int x6)] [] h := by
  refine g_aload_n dX5_layTrade_183 rfl ?_
  refine g_iload dX5_layTrade_184 rfl ?_
  refine g_putfield dX5_layTrade_186 fX5_168 (by decide) rfl rfl rfl rfl rfl ?_
  refine g_aload_n dX5_layTrade_189 rfl ?_
  refine g_iload_n dX5_layTrade_190 rfl ?_
  refine g_putfield dX5_layTrade_191 fX5_171 (by decide) rfl rfl rfl rfl rfl ?_
  refine g_aload_n dX5_layTrade_194 rfl ?_
  refine g_iload dX5_layTrade_195 rfl ?_
  refine g_putfield dX5_layTrade_197 fX5_174 (by decide) rfl rfl rfl rfl rfl ?_
  refine g_forget (mask := [true, true, true, false, false, true, false]) (L' := [some (.ref 15), some (.int x1), some (.int x2), none, none, none, none]) rfl ?_
  exact k
theorem sX5_layTrade_174 {post : Option Value → PH → Prop} {h : PH} {x1 x2 x3 x4 x6 : Int32} (k1 : x6 ≤ (h.1 15 20) → G 3 mX5_layTrade post 200 [some (.ref 15), some (.int x1), some (.int x2), none, none, none, none] [] h) (k2 : ¬ x6 ≤ (h.1 15 20) → G 3 mX5_layTrade post 183 [some (.ref 15), some (.int x1), some (.int x2), some (.int x3), some (.int x4), none, some (.int x6)] [] h) : G 3 mX5_layTrade post 174 [some (.ref 15), some (.int x1), some (.int x2), some (.int x3), some (.int x4), none, some (.int x6)] [] h := by
  refine g_iload dX5_layTrade_174 rfl ?_
  refine g_aload_n dX5_layTrade_176 rfl ?_
  refine g_getfield (kd := 0) (v := .int (h.1 15 20)) dX5_layTrade_177 fX5_168 (by decide) rfl rfl rfl rfl ?_
  exact g_icmp_le (tgt := 200) dX5_layTrade_180 (by decide) (fun hc => by refine g_forget (mask := [true, true, true, false, false, true, false]) (L' := [some (.ref 15), some (.int x1), some (.int x2), none, none, none, none]) rfl ?_; exact k1 hc) (fun hc => k2 hc)
theorem sX5_layTrade_116 {post : Option Value → PH → Prop} {h : PH} {x1 x2 x3 x4 s0 : Int32} (k1 : ¬ s0 = 0 → G 3 mX5_layTrade post 143 [some (.ref 15), some (.int x1), some (.int x2), some (.int x3), some (.int x4), none, none] [] h) (k2 : s0 = 0 → G 3 mX5_layTrade post 119 [some (.ref 15), some (.int x1), some (.int x2), some (.int x3), some (.int x4), none, none] [] h) : G 3 mX5_layTrade post 116 [some (.ref 15), some (.int x1), some (.int x2), some (.int x3), some (.int x4), none, none] [.int s0] h := by
  exact g_if_ne (tgt := 143) dX5_layTrade_116 (by decide) (fun hc => k1 hc) (fun hc => k2 hc)
theorem sX5_layTrade_119 {post : Option Value → PH → Prop} {h : PH} {x1 x2 x3 x4 : Int32} (k : Ev 0 mX5_has [.int (h.1 15 9), .int x4] h (fun r h' => G 3 mX5_layTrade post 128 [some (.ref 15), some (.int x1), some (.int x2), some (.int x3), some (.int x4), none, none] (r.toList ++ []) h')) : G 3 mX5_layTrade post 119 [some (.ref 15), some (.int x1), some (.int x2), some (.int x3), some (.int x4), none, none] [] h := by
  refine g_aload_n dX5_layTrade_119 rfl ?_
  refine g_getfield (kd := 0) (v := .int (h.1 15 9)) dX5_layTrade_120 fX5_66 (by decide) rfl rfl rfl rfl ?_
  refine g_iload dX5_layTrade_123 rfl ?_
  exact g_callS (n := 2) (as := [.int (h.1 15 9), .int x4]) (rest := []) dX5_layTrade_125 kX5_has lX5_76 rfl rfl (by simp only [List.map, Value.category]; decide) (by decide) k
theorem sX5_layTrade_128 {post : Option Value → PH → Prop} {h : PH} {x1 x2 x3 x4 s0 : Int32} (k1 : ¬ s0 = 0 → G 3 mX5_layTrade post 143 [some (.ref 15), some (.int x1), some (.int x2), some (.int x3), some (.int x4), none, none] [] h) (k2 : s0 = 0 → G 3 mX5_layTrade post 131 [some (.ref 15), some (.int x1), some (.int x2), some (.int x3), some (.int x4), none, none] [] h) : G 3 mX5_layTrade post 128 [some (.ref 15), some (.int x1), some (.int x2), some (.int x3), some (.int x4), none, none] [.int s0] h := by
  exact g_if_ne (tgt := 143) dX5_layTrade_128 (by decide) (fun hc => k1 hc) (fun hc => k2 hc)
theorem sX5_layTrade_131 {post : Option Value → PH → Prop} {h : PH} {x1 x2 x3 x4 : Int32} (k : Ev 2 mX5_isGood [.ref 15, .int 0] h (fun r h' => G 3 mX5_layTrade post 136 [some (.ref 15), some (.int x1), some (.int x2), some (.int x3), some (.int x4), none, none] (r.toList ++ []) h')) : G 3 mX5_layTrade post 131 [some (.ref 15), some (.int x1), some (.int x2), some (.int x3), some (.int x4), none, none] [] h := by
  refine g_aload_n dX5_layTrade_131 rfl ?_
  refine g_iconst (v := 0) dX5_layTrade_132 rfl ?_
  exact g_callV (n := 1) (b := 15) (as := [.int 0]) (rest := []) dX5_layTrade_133 kX5_isGood lX5_93 (by decide) rfl ⟨_, _, rfl⟩ rfl rfl (by simp only [List.map, Value.category]; decide) (by decide) k
theorem sX5_layTrade_136 {post : Option Value → PH → Prop} {h : PH} {x1 x2 x3 x4 s0 : Int32} (k1 : s0 = 0 → G 3 mX5_layTrade post 143 [some (.ref 15), some (.int x1), some (.int x2), some (.int x3), some (.int x4), none, none] [] h) (k2 : ¬ s0 = 0 → G 3 mX5_layTrade post 139 [some (.ref 15), some (.int x1), some (.int x2), some (.int x3), some (.int x4), none, none] [] h) : G 3 mX5_layTrade post 136 [some (.ref 15), some (.int x1), some (.int x2), some (.int x3), some (.int x4), none, none] [.int s0] h := by
  exact g_if_eq (tgt := 143) dX5_layTrade_136 (by decide) (fun hc => k1 hc) (fun hc => k2 hc)
theorem sX5_layTrade_139 {post : Option Value → PH → Prop} {h : PH} {x1 x2 x3 x4 : Int32} (k : Ev 2 mX5_caught [.ref 15] h (fun r h' => G 3 mX5_layTrade post 150 [some (.ref 15), some (.int x1), some (.int x2), some (.int x3), some (.int x4), some (.int 1), none] (r.toList ++ []) h')) : G 3 mX5_layTrade post 139 [some (.ref 15), some (.int x1), some (.int x2), some (.int x3), some (.int x4), none, none] [] h := by
  refine g_iconst (v := 1) dX5_layTrade_139 rfl ?_
  refine g_goto (tgt := 144) dX5_layTrade_140 (by decide) ?_
  refine g_istore (L' := [some (.ref 15), some (.int x1), some (.int x2), some (.int x3), some (.int x4), some (.int 1), none]) dX5_layTrade_144 rfl (by decide) rfl ?_
  refine g_aload_n dX5_layTrade_146 rfl ?_
  exact g_callV (n := 0) (b := 15) (as := []) (rest := []) dX5_layTrade_147 kX5_caught lX5_128 (by decide) rfl ⟨_, _, rfl⟩ rfl rfl (by simp only [List.map, Value.category]; decide) (by decide) k
theorem sX5_tradeNow_0 {post : Option Value → PH → Prop} {h : PH} {x1 : Int32} (k1 : ¬ x1 = 0 → G 0 mX5_tradeNow post 11 [some (.ref 15), some (.int x1)] [] h) (k2 : x1 = 0 → G 0 mX5_tradeNow post 4 [some (.ref 15), none] [] h) : G 0 mX5_tradeNow post 0 [some (.ref 15), some (.int x1)] [] h := by
  refine g_iload_n dX5_tradeNow_0 rfl ?_
  exact g_if_ne (tgt := 11) dX5_tradeNow_1 (by decide) (fun hc => k1 hc) (fun hc => by refine g_forget (mask := [true, false]) (L' := [some (.ref 15), none]) rfl ?_; exact k2 hc)
theorem sX5_tradeNow_11 {post : Option Value → PH → Prop} {h : PH} {x1 : Int32} (k1 : ¬ x1 = 1 → G 0 mX5_tradeNow post 23 [some (.ref 15), none] [] h) (k2 : x1 = 1 → G 0 mX5_tradeNow post 16 [some (.ref 15), none] [] h) : G 0 mX5_tradeNow post 11 [some (.ref 15), some (.int x1)] [] h := by
  refine g_iload_n dX5_tradeNow_11 rfl ?_
  refine g_iconst (v := 1) dX5_tradeNow_12 rfl ?_
  exact g_icmp_ne (tgt := 23) dX5_tradeNow_13 (by decide) (fun hc => by refine g_forget (mask := [true, false]) (L' := [some (.ref 15), none]) rfl ?_; exact k1 hc) (fun hc => by refine g_forget (mask := [true, false]) (L' := [some (.ref 15), none]) rfl ?_; exact k2 hc)
theorem sX5_tradeNow_4 {post : Option Value → PH → Prop} {h : PH} (k : post (some (.int (h.1 15 20))) h) : G 0 mX5_tradeNow post 4 [some (.ref 15), none] [] h := by
  refine g_aload_n dX5_tradeNow_4 rfl ?_
  refine g_getfield (kd := 0) (v := .int (h.1 15 20)) dX5_tradeNow_5 fX5_168 (by decide) rfl rfl rfl rfl ?_
  refine g_goto (tgt := 27) dX5_tradeNow_8 (by decide) ?_
  exact g_ireturn (ty := .int) dX5_tradeNow_27 rfl rfl k
theorem sX5_tradeNow_23 {post : Option Value → PH → Prop} {h : PH} (k : post (some (.int (h.1 15 22))) h) : G 0 mX5_tradeNow post 23 [some (.ref 15), none] [] h := by
  refine g_aload_n dX5_tradeNow_23 rfl ?_
  refine g_getfield (kd := 0) (v := .int (h.1 15 22)) dX5_tradeNow_24 fX5_174 (by decide) rfl rfl rfl rfl ?_
  exact g_ireturn (ty := .int) dX5_tradeNow_27 rfl rfl k
theorem sX5_tradeNow_16 {post : Option Value → PH → Prop} {h : PH} (k : post (some (.int (h.1 15 21))) h) : G 0 mX5_tradeNow post 16 [some (.ref 15), none] [] h := by
  refine g_aload_n dX5_tradeNow_16 rfl ?_
  refine g_getfield (kd := 0) (v := .int (h.1 15 21)) dX5_tradeNow_17 fX5_171 (by decide) rfl rfl rfl rfl ?_
  refine g_goto (tgt := 27) dX5_tradeNow_20 (by decide) ?_
  exact g_ireturn (ty := .int) dX5_tradeNow_27 rfl rfl k
theorem sX5_trade_0 {post : Option Value → PH → Prop} {h : PH} {x1 : Int32} (k1 : ¬ (h.1 15 2) = 0 → G 4 mX5_trade post 11 [some (.ref 15), some (.int x1)] [] h) (k2 : (h.1 15 2) = 0 → G 4 mX5_trade post 7 [none, none] [] h) : G 4 mX5_trade post 0 [some (.ref 15), some (.int x1)] [] h := by
  refine g_aload_n dX5_trade_0 rfl ?_
  refine g_getfield (kd := 0) (v := .int (h.1 15 2)) dX5_trade_1 fX5_60 (by decide) rfl rfl rfl rfl ?_
  exact g_if_ne (tgt := 11) dX5_trade_4 (by decide) (fun hc => k1 hc) (fun hc => by refine g_forget (mask := [false, false]) (L' := [none, none]) rfl ?_; exact k2 hc)
theorem sX5_trade_11 {post : Option Value → PH → Prop} {h : PH} {x1 : Int32} (k : Ev 0 mX5_within [.int x1, .int 0, .int 2] h (fun r h' => G 4 mX5_trade post 17 [some (.ref 15), some (.int x1)] (r.toList ++ []) h')) : G 4 mX5_trade post 11 [some (.ref 15), some (.int x1)] [] h := by
  refine g_iload_n dX5_trade_11 rfl ?_
  refine g_iconst (v := 0) dX5_trade_12 rfl ?_
  refine g_iconst (v := 2) dX5_trade_13 rfl ?_
  exact g_callS (n := 3) (as := [.int x1, .int 0, .int 2]) (rest := []) dX5_trade_14 kX5_within lX5_41 rfl rfl (by simp only [List.map, Value.category]; decide) (by decide) k
theorem sX5_trade_7 {post : Option Value → PH → Prop} {h : PH} (k : post (some (.int (-1004))) h) : G 4 mX5_trade post 7 [none, none] [] h := by
  refine g_sipush (v := (-1004)) dX5_trade_7 rfl ?_
  exact g_ireturn (ty := .int) dX5_trade_10 rfl rfl k
theorem sX5_trade_17 {post : Option Value → PH → Prop} {h : PH} {x1 s0 : Int32} (k1 : ¬ s0 = 0 → G 4 mX5_trade post 24 [some (.ref 15), some (.int x1)] [] h) (k2 : s0 = 0 → G 4 mX5_trade post 20 [none, none] [] h) : G 4 mX5_trade post 17 [some (.ref 15), some (.int x1)] [.int s0] h := by
  exact g_if_ne (tgt := 24) dX5_trade_17 (by decide) (fun hc => k1 hc) (fun hc => by refine g_forget (mask := [false, false]) (L' := [none, none]) rfl ?_; exact k2 hc)
theorem sX5_trade_24 {post : Option Value → PH → Prop} {h : PH} {x1 : Int32} (k : Ev 3 mX5_layTrade [.ref 15] h (fun r h' => G 4 mX5_trade post 28 [some (.ref 15), some (.int x1)] (r.toList ++ []) h')) : G 4 mX5_trade post 24 [some (.ref 15), some (.int x1)] [] h := by
  refine g_aload_n dX5_trade_24 rfl ?_
  exact g_callV (n := 0) (b := 15) (as := []) (rest := []) dX5_trade_25 kX5_layTrade lX5_177 (by decide) rfl ⟨_, _, rfl⟩ rfl rfl (by simp only [List.map, Value.category]; decide) (by decide) k
theorem sX5_trade_20 {post : Option Value → PH → Prop} {h : PH} (k : post (some (.int (-1003))) h) : G 4 mX5_trade post 20 [none, none] [] h := by
  refine g_sipush (v := (-1003)) dX5_trade_20 rfl ?_
  exact g_ireturn (ty := .int) dX5_trade_23 rfl rfl k
theorem sX5_trade_28 {post : Option Value → PH → Prop} {h : PH} {x1 : Int32} (k : Ev 0 mX5_tradeNow [.ref 15, .int x1] h (fun r h' => G 4 mX5_trade post 33 [none, none] (r.toList ++ []) h')) : G 4 mX5_trade post 28 [some (.ref 15), some (.int x1)] [] h := by
  refine g_aload_n dX5_trade_28 rfl ?_
  refine g_iload_n dX5_trade_29 rfl ?_
  refine g_forget (mask := [false, false]) (L' := [none, none]) rfl ?_
  exact g_callV (n := 1) (b := 15) (as := [.int x1]) (rest := []) dX5_trade_30 kX5_tradeNow lX5_180 (by decide) rfl ⟨_, _, rfl⟩ rfl rfl (by simp only [List.map, Value.category]; decide) (by decide) k
theorem sX5_trade_33 {post : Option Value → PH → Prop} {h : PH} {s0 : Int32} (k : post (some (.int s0)) h) : G 4 mX5_trade post 33 [none, none] [.int s0] h := by
  exact g_ireturn (ty := .int) dX5_trade_33 rfl rfl k
theorem sX5_ones_0 {post : Option Value → PH → Prop} {h : PH} {x0 : Int32} (k : G 0 mX5_ones post 4 [some (.int x0), some (.int 0), some (.int 0)] [] h) : G 0 mX5_ones post 0 [some (.int x0), none, none] [] h := by
  refine g_iconst (v := 0) dX5_ones_0 rfl ?_
  refine g_istore_n (L' := [some (.int x0), some (.int 0), none]) dX5_ones_1 rfl (by decide) rfl ?_
  refine g_iconst (v := 0) dX5_ones_2 rfl ?_
  refine g_istore_n (L' := [some (.int x0), some (.int 0), some (.int 0)]) dX5_ones_3 rfl (by decide) rfl ?_
  exact k
theorem sX5_ones_4 {post : Option Value → PH → Prop} {h : PH} {x0 x1 x2 : Int32} (k1 : 5 ≤ x2 → G 0 mX5_ones post 23 [none, some (.int x1), none] [] h) (k2 : ¬ 5 ≤ x2 → G 0 mX5_ones post 9 [some (.int x0), some (.int x1), some (.int x2)] [] h) : G 0 mX5_ones post 4 [some (.int x0), some (.int x1), some (.int x2)] [] h := by
  refine g_iload_n dX5_ones_4 rfl ?_
  refine g_iconst (v := 5) dX5_ones_5 rfl ?_
  exact g_icmp_ge (tgt := 23) dX5_ones_6 (by decide) (fun hc => by refine g_forget (mask := [false, true, false]) (L' := [none, some (.int x1), none]) rfl ?_; exact k1 hc) (fun hc => k2 hc)
theorem sX5_ones_23 {post : Option Value → PH → Prop} {h : PH} {x1 : Int32} (k : post (some (.int x1)) h) : G 0 mX5_ones post 23 [none, some (.int x1), none] [] h := by
  refine g_iload_n dX5_ones_23 rfl ?_
  exact g_ireturn (ty := .int) dX5_ones_24 rfl rfl k
theorem sX5_ones_9 {post : Option Value → PH → Prop} {h : PH} {x0 x1 x2 : Int32} (k : G 0 mX5_ones post 4 [some (.int x0), some (.int (x1 + ((x0 >>> (x2 &&& 31)) &&& 1))), some (.int (x2 + 1))] [] h) : G 0 mX5_ones post 9 [some (.int x0), some (.int x1), some (.int x2)] [] h := by
  refine g_iload_n dX5_ones_9 rfl ?_
  refine g_iload_n dX5_ones_10 rfl ?_
  refine g_iload_n dX5_ones_11 rfl ?_
  refine g_ishr dX5_ones_12 ?_
  refine g_iconst (v := 1) dX5_ones_13 rfl ?_
  refine g_iand dX5_ones_14 ?_
  refine g_iadd dX5_ones_15 ?_
  refine g_istore_n (L' := [some (.int x0), some (.int (x1 + ((x0 >>> (x2 &&& 31)) &&& 1))), some (.int x2)]) dX5_ones_16 rfl (by decide) rfl ?_
  refine g_iinc (v := (x2 + 1)) (L' := [some (.int x0), some (.int (x1 + ((x0 >>> (x2 &&& 31)) &&& 1))), some (.int (x2 + 1))]) dX5_ones_17 rfl rfl rfl (by decide) rfl ?_
  refine g_goto (tgt := 4) dX5_ones_20 (by decide) ?_
  exact k
theorem sX5_reliefNow_0 {post : Option Value → PH → Prop} {h : PH} (k : G 3 mX5_reliefNow post 8 [some (.ref 15), some (.int (-1001)), some (.int 0), some (.int 0), none, none] [] h) : G 3 mX5_reliefNow post 0 [some (.ref 15), none, none, none, none, none] [] h := by
  refine g_sipush (v := (-1001)) dX5_reliefNow_0 rfl ?_
  refine g_istore_n (L' := [some (.ref 15), some (.int (-1001)), none, none, none, none]) dX5_reliefNow_3 rfl (by decide) rfl ?_
  refine g_iconst (v := 0) dX5_reliefNow_4 rfl ?_
  refine g_istore_n (L' := [some (.ref 15), some (.int (-1001)), some (.int 0), none, none, none]) dX5_reliefNow_5 rfl (by decide) rfl ?_
  refine g_iconst (v := 0) dX5_reliefNow_6 rfl ?_
  refine g_istore_n (L' := [some (.ref 15), some (.int (-1001)), some (.int 0), some (.int 0), none, none]) dX5_reliefNow_7 rfl (by decide) rfl ?_
  exact k
theorem sX5_reliefNow_8 {post : Option Value → PH → Prop} {h : PH} {x1 x2 x3 : Int32} (k1 : (1 <<< ((h.1 15 2) &&& 31)) ≤ x3 → G 3 mX5_reliefNow post 165 [none, some (.int x1), none, none, none, none] [] h) (k2 : ¬ (1 <<< ((h.1 15 2) &&& 31)) ≤ x3 → G 3 mX5_reliefNow post 18 [some (.ref 15), some (.int x1), some (.int x2), some (.int x3), none, none] [] h) : G 3 mX5_reliefNow post 8 [some (.ref 15), some (.int x1), some (.int x2), some (.int x3), none, none] [] h := by
  refine g_iload_n dX5_reliefNow_8 rfl ?_
  refine g_iconst (v := 1) dX5_reliefNow_9 rfl ?_
  refine g_aload_n dX5_reliefNow_10 rfl ?_
  refine g_getfield (kd := 0) (v := .int (h.1 15 2)) dX5_reliefNow_11 fX5_60 (by decide) rfl rfl rfl rfl ?_
  refine g_ishl dX5_reliefNow_14 ?_
  exact g_icmp_ge (tgt := 165) dX5_reliefNow_15 (by decide) (fun hc => by refine g_forget (mask := [false, true, false, false, true, true]) (L' := [none, some (.int x1), none, none, none, none]) rfl ?_; exact k1 hc) (fun hc => k2 hc)
theorem sX5_reliefNow_165 {post : Option Value → PH → Prop} {h : PH} {x1 : Int32} (k : post (some (.int x1)) h) : G 3 mX5_reliefNow post 165 [none, some (.int x1), none, none, none, none] [] h := by
  refine g_iload_n dX5_reliefNow_165 rfl ?_
  exact g_ireturn (ty := .int) dX5_reliefNow_166 rfl rfl k
theorem sX5_reliefNow_18 {post : Option Value → PH → Prop} {h : PH} {x1 x2 x3 : Int32} (k : Ev 0 mX5_asTheyAre [.ref 15] h (fun r h' => G 3 mX5_reliefNow post 22 [some (.ref 15), some (.int x1), some (.int x2), some (.int x3), none, none] (r.toList ++ []) h')) : G 3 mX5_reliefNow post 18 [some (.ref 15), some (.int x1), some (.int x2), some (.int x3), none, none] [] h := by
  refine g_aload_n dX5_reliefNow_18 rfl ?_
  exact g_callV (n := 0) (b := 15) (as := []) (rest := []) dX5_reliefNow_19 kX5_asTheyAre lX5_90 (by decide) rfl ⟨_, _, rfl⟩ rfl rfl (by simp only [List.map, Value.category]; decide) (by decide) k
theorem sX5_reliefNow_22 {post : Option Value → PH → Prop} {h : PH} {x1 x2 x3 : Int32} (k : G 3 mX5_reliefNow post 25 [some (.ref 15), some (.int x1), some (.int x2), some (.int x3), some (.int 0), none] [] h) : G 3 mX5_reliefNow post 22 [some (.ref 15), some (.int x1), some (.int x2), some (.int x3), none, none] [] h := by
  refine g_iconst (v := 0) dX5_reliefNow_22 rfl ?_
  refine g_istore (L' := [some (.ref 15), some (.int x1), some (.int x2), some (.int x3), some (.int 0), none]) dX5_reliefNow_23 rfl (by decide) rfl ?_
  exact k
theorem sX5_reliefNow_25 {post : Option Value → PH → Prop} {h : PH} {x1 x2 x3 x4 : Int32} (k1 : (h.1 15 2) ≤ x4 → G 3 mX5_reliefNow post 67 [some (.ref 15), some (.int x1), some (.int x2), some (.int x3), none, none] [] h) (k2 : ¬ (h.1 15 2) ≤ x4 → G 3 mX5_reliefNow post 34 [some (.ref 15), some (.int x1), some (.int x2), some (.int x3), some (.int x4), none] [] h) : G 3 mX5_reliefNow post 25 [some (.ref 15), some (.int x1), some (.int x2), some (.int x3), some (.int x4), none] [] h := by
  refine g_iload dX5_reliefNow_25 rfl ?_
  refine g_aload_n dX5_reliefNow_27 rfl ?_
  refine g_getfield (kd := 0) (v := .int (h.1 15 2)) dX5_reliefNow_28 fX5_60 (by decide) rfl rfl rfl rfl ?_
  exact g_icmp_ge (tgt := 67) dX5_reliefNow_31 (by decide) (fun hc => by refine g_forget (mask := [true, true, true, true, false, true]) (L' := [some (.ref 15), some (.int x1), some (.int x2), some (.int x3), none, none]) rfl ?_; exact k1 hc) (fun hc => k2 hc)
theorem sX5_reliefNow_67 {post : Option Value → PH → Prop} {h : PH} {x1 x2 x3 : Int32} (k1 : x1 = (-1001) → G 3 mX5_reliefNow post 85 [some (.ref 15), some (.int x1), some (.int x2), some (.int x3), none, none] [] h) (k2 : ¬ x1 = (-1001) → G 3 mX5_reliefNow post 74 [some (.ref 15), some (.int x1), some (.int x2), some (.int x3), none, none] [] h) : G 3 mX5_reliefNow post 67 [some (.ref 15), some (.int x1), some (.int x2), some (.int x3), none, none] [] h := by
  refine g_iload_n dX5_reliefNow_67 rfl ?_
  refine g_sipush (v := (-1001)) dX5_reliefNow_68 rfl ?_
  exact g_icmp_eq (tgt := 85) dX5_reliefNow_71 (by decide) (fun hc => k1 hc) (fun hc => k2 hc)
theorem sX5_reliefNow_34 {post : Option Value → PH → Prop} {h : PH} {x1 x2 x3 x4 : Int32} (k : Ev 0 mX5_has [.int x3, .int x4] h (fun r h' => G 3 mX5_reliefNow post 46 [some (.ref 15), some (.int x1), some (.int x2), some (.int x3), some (.int x4), none] (r.toList ++ [.int x4, .ref 21]) h')) : G 3 mX5_reliefNow post 34 [some (.ref 15), some (.int x1), some (.int x2), some (.int x3), some (.int x4), none] [] h := by
  refine g_aload_n dX5_reliefNow_34 rfl ?_
  refine g_getfield (kd := 23) (v := .ref 21) dX5_reliefNow_35 fX5_25 (by decide) rfl rfl rfl rfl ?_
  refine g_iload dX5_reliefNow_38 rfl ?_
  refine g_iload_n dX5_reliefNow_40 rfl ?_
  refine g_iload dX5_reliefNow_41 rfl ?_
  exact g_callS (n := 2) (as := [.int x3, .int x4]) (rest := [.int x4, .ref 21]) dX5_reliefNow_43 kX5_has lX5_76 rfl rfl (by simp only [List.map, Value.category]; decide) (by decide) k
theorem sX5_reliefNow_85 {post : Option Value → PH → Prop} {h : PH} {x1 x2 x3 : Int32} (k1 : x1 = (-1001) → G 3 mX5_reliefNow post 122 [some (.ref 15), some (.int x1), some (.int x2), some (.int x3), some (.int 1), none] [] h) (k2 : ¬ x1 = (-1001) → G 3 mX5_reliefNow post 99 [some (.ref 15), some (.int x1), some (.int x2), some (.int x3), some (.int 1), none] [] h) : G 3 mX5_reliefNow post 85 [some (.ref 15), some (.int x1), some (.int x2), some (.int x3), none, none] [] h := by
  refine g_iconst (v := 1) dX5_reliefNow_85 rfl ?_
  refine g_goto (tgt := 90) dX5_reliefNow_86 (by decide) ?_
  refine g_istore (L' := [some (.ref 15), some (.int x1), some (.int x2), some (.int x3), some (.int 1), none]) dX5_reliefNow_90 rfl (by decide) rfl ?_
  refine g_iload_n dX5_reliefNow_92 rfl ?_
  refine g_sipush (v := (-1001)) dX5_reliefNow_93 rfl ?_
  exact g_icmp_eq (tgt := 122) dX5_reliefNow_96 (by decide) (fun hc => k1 hc) (fun hc => k2 hc)
theorem sX5_reliefNow_74 {post : Option Value → PH → Prop} {h : PH} {x1 x2 x3 : Int32} (k : Ev 0 mX5_ones [.int x3] h (fun r h' => G 3 mX5_reliefNow post 78 [some (.ref 15), some (.int x1), some (.int x2), some (.int x3), none, none] (r.toList ++ []) h')) : G 3 mX5_reliefNow post 74 [some (.ref 15), some (.int x1), some (.int x2), some (.int x3), none, none] [] h := by
  refine g_iload_n dX5_reliefNow_74 rfl ?_
  exact g_callS (n := 1) (as := [.int x3]) (rest := []) dX5_reliefNow_75 kX5_ones lX5_183 rfl rfl (by simp only [List.map, Value.category]; decide) (by decide) k
theorem sX5_reliefNow_46 {post : Option Value → PH → Prop} {h : PH} {x1 x2 x3 x4 s0 s1 : Int32} (k1 : s0 = 0 → G 3 mX5_reliefNow post 53 [some (.ref 15), some (.int x1), some (.int x2), some (.int x3), some (.int x4), none] [.int s1, .ref 21] h) (k2 : ¬ s0 = 0 → G 3 mX5_reliefNow post 49 [some (.ref 15), some (.int x1), some (.int x2), some (.int x3), some (.int x4), none] [.int s1, .ref 21] h) : G 3 mX5_reliefNow post 46 [some (.ref 15), some (.int x1), some (.int x2), some (.int x3), some (.int x4), none] [.int s0, .int s1, .ref 21] h := by
  exact g_if_eq (tgt := 53) dX5_reliefNow_46 (by decide) (fun hc => k1 hc) (fun hc => k2 hc)
theorem sX5_reliefNow_122 {post : Option Value → PH → Prop} {h : PH} {x1 x2 x3 x4 : Int32} (k1 : ¬ (x3 &&& (h.1 15 9)) = 0 → G 3 mX5_reliefNow post 159 [some (.ref 15), some (.int x1), some (.int x2), some (.int x3), none, none] [] h) (k2 : (x3 &&& (h.1 15 9)) = 0 → G 3 mX5_reliefNow post 134 [some (.ref 15), some (.int x1), some (.int x2), some (.int x3), some (.int x4), some (.int 0)] [] h) : G 3 mX5_reliefNow post 122 [some (.ref 15), some (.int x1), some (.int x2), some (.int x3), some (.int x4), none] [] h := by
  refine g_iconst (v := 0) dX5_reliefNow_122 rfl ?_
  refine g_istore (L' := [some (.ref 15), some (.int x1), some (.int x2), some (.int x3), some (.int x4), some (.int 0)]) dX5_reliefNow_123 rfl (by decide) rfl ?_
  refine g_iload_n dX5_reliefNow_125 rfl ?_
  refine g_aload_n dX5_reliefNow_126 rfl ?_
  refine g_getfield (kd := 0) (v := .int (h.1 15 9)) dX5_reliefNow_127 fX5_66 (by decide) rfl rfl rfl rfl ?_
  refine g_iand dX5_reliefNow_130 ?_
  exact g_if_ne (tgt := 159) dX5_reliefNow_131 (by decide) (fun hc => by refine g_forget (mask := [true, true, true, true, false, false]) (L' := [some (.ref 15), some (.int x1), some (.int x2), some (.int x3), none, none]) rfl ?_; exact k1 hc) (fun hc => k2 hc)
theorem sX5_reliefNow_99 {post : Option Value → PH → Prop} {h : PH} {x1 x2 x3 x4 : Int32} (k : Ev 0 mX5_ones [.int x3] h (fun r h' => G 3 mX5_reliefNow post 103 [some (.ref 15), some (.int x1), some (.int x2), some (.int x3), some (.int x4), none] (r.toList ++ []) h')) : G 3 mX5_reliefNow post 99 [some (.ref 15), some (.int x1), some (.int x2), some (.int x3), some (.int x4), none] [] h := by
  refine g_iload_n dX5_reliefNow_99 rfl ?_
  exact g_callS (n := 1) (as := [.int x3]) (rest := []) dX5_reliefNow_100 kX5_ones lX5_183 rfl rfl (by simp only [List.map, Value.category]; decide) (by decide) k
theorem sX5_reliefNow_78 {post : Option Value → PH → Prop} {h : PH} {x1 x2 x3 s0 : Int32} (k : Ev 0 mX5_ones [.int x1] h (fun r h' => G 3 mX5_reliefNow post 82 [some (.ref 15), some (.int x1), some (.int x2), some (.int x3), none, none] (r.toList ++ [.int s0]) h')) : G 3 mX5_reliefNow post 78 [some (.ref 15), some (.int x1), some (.int x2), some (.int x3), none, none] [.int s0] h := by
  refine g_iload_n dX5_reliefNow_78 rfl ?_
  exact g_callS (n := 1) (as := [.int x1]) (rest := [.int s0]) dX5_reliefNow_79 kX5_ones lX5_183 rfl rfl (by simp only [List.map, Value.category]; decide) (by decide) k
theorem sX5_reliefNow_53 {post : Option Value → PH → Prop} {h : PH} {x1 x2 x3 x4 s0 : Int32} (hb1 : vp_in x4 5) (hb2 : vp_in s0 5) (k : G 3 mX5_reliefNow post 25 [some (.ref 15), some (.int x1), some (.int x2), some (.int x3), some (.int (x4 + 1)), none] [] ((upd2 h.1 21 (Int32.toNatClampNeg s0) (h.1 21 (Int32.toNatClampNeg x4))), h.2)) : G 3 mX5_reliefNow post 53 [some (.ref 15), some (.int x1), some (.int x2), some (.int x3), some (.int x4), none] [.int s0, .ref 21] h := by
  refine g_aload_n dX5_reliefNow_53 rfl ?_
  refine g_getfield (kd := 23) (v := .ref 21) dX5_reliefNow_54 fX5_25 (by decide) rfl rfl rfl rfl ?_
  refine g_iload dX5_reliefNow_57 rfl ?_
  refine g_iaload (n := 5) dX5_reliefNow_59 (by decide) rfl rfl rfl hb1 ?_
  refine g_iastore (n := 5) dX5_reliefNow_60 (by decide) rfl rfl rfl hb2 ?_
  refine g_iinc (v := (x4 + 1)) (L' := [some (.ref 15), some (.int x1), some (.int x2), some (.int x3), some (.int (x4 + 1)), none]) dX5_reliefNow_61 rfl rfl rfl (by decide) rfl ?_
  refine g_goto (tgt := 25) dX5_reliefNow_64 (by decide) ?_
  exact k
theorem sX5_reliefNow_49 {post : Option Value → PH → Prop} {h : PH} {x1 x2 x3 x4 s0 : Int32} (hb1 : vp_in s0 5) (k : G 3 mX5_reliefNow post 25 [some (.ref 15), some (.int x1), some (.int x2), some (.int x3), some (.int (x4 + 1)), none] [] ((upd2 h.1 21 (Int32.toNatClampNeg s0) (-1)), h.2)) : G 3 mX5_reliefNow post 49 [some (.ref 15), some (.int x1), some (.int x2), some (.int x3), some (.int x4), none] [.int s0, .ref 21] h := by
  refine g_iconst (v := (-1)) dX5_reliefNow_49 rfl ?_
  refine g_goto (tgt := 60) dX5_reliefNow_50 (by decide) ?_
  refine g_iastore (n := 5) dX5_reliefNow_60 (by decide) rfl rfl rfl hb1 ?_
  refine g_iinc (v := (x4 + 1)) (L' := [some (.ref 15), some (.int x1), some (.int x2), some (.int x3), some (.int (x4 + 1)), none]) dX5_reliefNow_61 rfl rfl rfl (by decide) rfl ?_
  refine g_goto (tgt := 25) dX5_reliefNow_64 (by decide) ?_
  exact k
theorem sX5_reliefNow_159 {post : Option Value → PH → Prop} {h : PH} {x1 x2 x3 : Int32} (k : G 3 mX5_reliefNow post 8 [some (.ref 15), some (.int x1), some (.int x2), some (.int (x3 + 1)), none, none] [] h) : G 3 mX5_reliefNow post 159 [some (.ref 15), some (.int x1), some (.int x2), some (.int x3), none, none] [] h := by
  refine g_iinc (v := (x3 + 1)) (L' := [some (.ref 15), some (.int x1), some (.int x2), some (.int (x3 + 1)), none, none]) dX5_reliefNow_159 rfl rfl rfl (by decide) rfl ?_
  refine g_goto (tgt := 8) dX5_reliefNow_162 (by decide) ?_
  exact k
theorem sX5_reliefNow_134 {post : Option Value → PH → Prop} {h : PH} {x1 x2 x3 x4 x5 : Int32} (k : Ev 2 mX5_isGood [.ref 15, .int 0] h (fun r h' => G 3 mX5_reliefNow post 139 [some (.ref 15), some (.int x1), some (.int x2), some (.int x3), some (.int x4), some (.int x5)] (r.toList ++ []) h')) : G 3 mX5_reliefNow post 134 [some (.ref 15), some (.int x1), some (.int x2), some (.int x3), some (.int x4), some (.int x5)] [] h := by
  refine g_aload_n dX5_reliefNow_134 rfl ?_
  refine g_iconst (v := 0) dX5_reliefNow_135 rfl ?_
  exact g_callV (n := 1) (b := 15) (as := [.int 0]) (rest := []) dX5_reliefNow_136 kX5_isGood lX5_93 (by decide) rfl ⟨_, _, rfl⟩ rfl rfl (by simp only [List.map, Value.category]; decide) (by decide) k
theorem sX5_reliefNow_103 {post : Option Value → PH → Prop} {h : PH} {x1 x2 x3 x4 s0 : Int32} (k : Ev 0 mX5_ones [.int x1] h (fun r h' => G 3 mX5_reliefNow post 107 [some (.ref 15), some (.int x1), some (.int x2), some (.int x3), some (.int x4), none] (r.toList ++ [.int s0]) h')) : G 3 mX5_reliefNow post 103 [some (.ref 15), some (.int x1), some (.int x2), some (.int x3), some (.int x4), none] [.int s0] h := by
  refine g_iload_n dX5_reliefNow_103 rfl ?_
  exact g_callS (n := 1) (as := [.int x1]) (rest := [.int s0]) dX5_reliefNow_104 kX5_ones lX5_183 rfl rfl (by simp only [List.map, Value.category]; decide) (by decide) k
theorem sX5_reliefNow_82 {post : Option Value → PH → Prop} {h : PH} {x1 x2 x3 s0 s1 : Int32} (k1 : s0 ≤ s1 → G 3 mX5_reliefNow post 89 [some (.ref 15), some (.int x1), some (.int x2), some (.int x3), none, none] [] h) (k2 : ¬ s0 ≤ s1 → G 3 mX5_reliefNow post 85 [some (.ref 15), some (.int x1), some (.int x2), some (.int x3), none, none] [] h) : G 3 mX5_reliefNow post 82 [some (.ref 15), some (.int x1), some (.int x2), some (.int x3), none, none] [.int s0, .int s1] h := by
  exact g_icmp_ge (tgt := 89) dX5_reliefNow_82 (by decide) (fun hc => k1 hc) (fun hc => k2 hc)
theorem sX5_reliefNow_139 {post : Option Value → PH → Prop} {h : PH} {x1 x2 x3 x4 x5 s0 : Int32} (k1 : s0 = 0 → G 3 mX5_reliefNow post 159 [some (.ref 15), some (.int x1), some (.int x2), some (.int x3), none, none] [] h) (k2 : ¬ s0 = 0 → G 3 mX5_reliefNow post 142 [some (.ref 15), some (.int x1), some (.int x2), some (.int x3), some (.int x4), some (.int x5)] [] h) : G 3 mX5_reliefNow post 139 [some (.ref 15), some (.int x1), some (.int x2), some (.int x3), some (.int x4), some (.int x5)] [.int s0] h := by
  exact g_if_eq (tgt := 159) dX5_reliefNow_139 (by decide) (fun hc => by refine g_forget (mask := [true, true, true, true, false, false]) (L' := [some (.ref 15), some (.int x1), some (.int x2), some (.int x3), none, none]) rfl ?_; exact k1 hc) (fun hc => k2 hc)
theorem sX5_reliefNow_107 {post : Option Value → PH → Prop} {h : PH} {x1 x2 x3 x4 s0 s1 : Int32} (k1 : ¬ s1 = s0 → G 3 mX5_reliefNow post 122 [some (.ref 15), some (.int x1), some (.int x2), some (.int x3), some (.int x4), none] [] h) (k2 : s1 = s0 → G 3 mX5_reliefNow post 110 [some (.ref 15), some (.int x1), some (.int x2), some (.int x3), some (.int x4), none] [] h) : G 3 mX5_reliefNow post 107 [some (.ref 15), some (.int x1), some (.int x2), some (.int x3), some (.int x4), none] [.int s0, .int s1] h := by
  exact g_icmp_ne (tgt := 122) dX5_reliefNow_107 (by decide) (fun hc => k1 hc) (fun hc => k2 hc)
theorem sX5_reliefNow_89 {post : Option Value → PH → Prop} {h : PH} {x1 x2 x3 : Int32} (k1 : x1 = (-1001) → G 3 mX5_reliefNow post 122 [some (.ref 15), some (.int x1), some (.int x2), some (.int x3), some (.int 0), none] [] h) (k2 : ¬ x1 = (-1001) → G 3 mX5_reliefNow post 99 [some (.ref 15), some (.int x1), some (.int x2), some (.int x3), some (.int 0), none] [] h) : G 3 mX5_reliefNow post 89 [some (.ref 15), some (.int x1), some (.int x2), some (.int x3), none, none] [] h := by
  refine g_iconst (v := 0) dX5_reliefNow_89 rfl ?_
  refine g_istore (L' := [some (.ref 15), some (.int x1), some (.int x2), some (.int x3), some (.int 0), none]) dX5_reliefNow_90 rfl (by decide) rfl ?_
  refine g_iload_n dX5_reliefNow_92 rfl ?_
  refine g_sipush (v := (-1001)) dX5_reliefNow_93 rfl ?_
  exact g_icmp_eq (tgt := 122) dX5_reliefNow_96 (by decide) (fun hc => k1 hc) (fun hc => k2 hc)
theorem sX5_reliefNow_142 {post : Option Value → PH → Prop} {h : PH} {x1 x2 x3 x4 x5 : Int32} (k1 : ¬ x4 = 0 → G 3 mX5_reliefNow post 152 [some (.ref 15), none, none, some (.int x3), none, none] [] h) (k2 : x4 = 0 → G 3 mX5_reliefNow post 147 [some (.ref 15), some (.int x1), some (.int x2), some (.int x3), none, some (.int x5)] [] h) : G 3 mX5_reliefNow post 142 [some (.ref 15), some (.int x1), some (.int x2), some (.int x3), some (.int x4), some (.int x5)] [] h := by
  refine g_iload dX5_reliefNow_142 rfl ?_
  exact g_if_ne (tgt := 152) dX5_reliefNow_144 (by decide) (fun hc => by refine g_forget (mask := [true, false, false, true, false, false]) (L' := [some (.ref 15), none, none, some (.int x3), none, none]) rfl ?_; exact k1 hc) (fun hc => by refine g_forget (mask := [true, true, true, true, false, true]) (L' := [some (.ref 15), some (.int x1), some (.int x2), some (.int x3), none, some (.int x5)]) rfl ?_; exact k2 hc)
theorem sX5_reliefNow_110 {post : Option Value → PH → Prop} {h : PH} {x1 x2 x3 x4 : Int32} (k : Ev 2 mX5_caught [.ref 15] h (fun r h' => G 3 mX5_reliefNow post 114 [some (.ref 15), some (.int x1), some (.int x2), some (.int x3), some (.int x4), none] (r.toList ++ []) h')) : G 3 mX5_reliefNow post 110 [some (.ref 15), some (.int x1), some (.int x2), some (.int x3), some (.int x4), none] [] h := by
  refine g_aload_n dX5_reliefNow_110 rfl ?_
  exact g_callV (n := 0) (b := 15) (as := []) (rest := []) dX5_reliefNow_111 kX5_caught lX5_128 (by decide) rfl ⟨_, _, rfl⟩ rfl rfl (by simp only [List.map, Value.category]; decide) (by decide) k
theorem sX5_reliefNow_152 {post : Option Value → PH → Prop} {h : PH} {x3 : Int32} (k : Ev 2 mX5_caught [.ref 15] h (fun r h' => G 3 mX5_reliefNow post 158 [some (.ref 15), some (.int x3), none, some (.int x3), none, none] (r.toList ++ []) h')) : G 3 mX5_reliefNow post 152 [some (.ref 15), none, none, some (.int x3), none, none] [] h := by
  refine g_iload_n dX5_reliefNow_152 rfl ?_
  refine g_istore_n (L' := [some (.ref 15), some (.int x3), none, some (.int x3), none, none]) dX5_reliefNow_153 rfl (by decide) rfl ?_
  refine g_aload_n dX5_reliefNow_154 rfl ?_
  exact g_callV (n := 0) (b := 15) (as := []) (rest := []) dX5_reliefNow_155 kX5_caught lX5_128 (by decide) rfl ⟨_, _, rfl⟩ rfl rfl (by simp only [List.map, Value.category]; decide) (by decide) k
theorem sX5_reliefNow_147 {post : Option Value → PH → Prop} {h : PH} {x1 x2 x3 x5 : Int32} (k1 : x5 = 0 → G 3 mX5_reliefNow post 159 [some (.ref 15), some (.int x1), some (.int x2), some (.int x3), none, none] [] h) (k2 : ¬ x5 = 0 → G 3 mX5_reliefNow post 152 [some (.ref 15), none, none, some (.int x3), none, none] [] h) : G 3 mX5_reliefNow post 147 [some (.ref 15), some (.int x1), some (.int x2), some (.int x3), none, some (.int x5)] [] h := by
  refine g_iload dX5_reliefNow_147 rfl ?_
  exact g_if_eq (tgt := 159) dX5_reliefNow_149 (by decide) (fun hc => by refine g_forget (mask := [true, true, true, true, true, false]) (L' := [some (.ref 15), some (.int x1), some (.int x2), some (.int x3), none, none]) rfl ?_; exact k1 hc) (fun hc => by refine g_forget (mask := [true, false, false, true, true, false]) (L' := [some (.ref 15), none, none, some (.int x3), none, none]) rfl ?_; exact k2 hc)
theorem sX5_reliefNow_114 {post : Option Value → PH → Prop} {h : PH} {x1 x2 x3 x4 s0 : Int32} (k1 : s0 ≤ x2 → G 3 mX5_reliefNow post 122 [some (.ref 15), some (.int x1), some (.int x2), some (.int x3), some (.int x4), none] [] h) (k2 : ¬ s0 ≤ x2 → G 3 mX5_reliefNow post 118 [some (.ref 15), some (.int x1), some (.int x2), some (.int x3), some (.int x4), none] [] h) : G 3 mX5_reliefNow post 114 [some (.ref 15), some (.int x1), some (.int x2), some (.int x3), some (.int x4), none] [.int s0] h := by
  refine g_iload_n dX5_reliefNow_114 rfl ?_
  exact g_icmp_le (tgt := 122) dX5_reliefNow_115 (by decide) (fun hc => k1 hc) (fun hc => k2 hc)
theorem sX5_reliefNow_158 {post : Option Value → PH → Prop} {h : PH} {x1 x3 s0 : Int32} (k : G 3 mX5_reliefNow post 159 [some (.ref 15), some (.int x1), some (.int s0), some (.int x3), none, none] [] h) : G 3 mX5_reliefNow post 158 [some (.ref 15), some (.int x1), none, some (.int x3), none, none] [.int s0] h := by
  refine g_istore_n (L' := [some (.ref 15), some (.int x1), some (.int s0), some (.int x3), none, none]) dX5_reliefNow_158 rfl (by decide) rfl ?_
  exact k
theorem sX5_reliefNow_118 {post : Option Value → PH → Prop} {h : PH} {x1 x2 x3 x4 : Int32} (k1 : ¬ (x3 &&& (h.1 15 9)) = 0 → G 3 mX5_reliefNow post 159 [some (.ref 15), some (.int x1), some (.int x2), some (.int x3), none, none] [] h) (k2 : (x3 &&& (h.1 15 9)) = 0 → G 3 mX5_reliefNow post 134 [some (.ref 15), some (.int x1), some (.int x2), some (.int x3), some (.int x4), some (.int 1)] [] h) : G 3 mX5_reliefNow post 118 [some (.ref 15), some (.int x1), some (.int x2), some (.int x3), some (.int x4), none] [] h := by
  refine g_iconst (v := 1) dX5_reliefNow_118 rfl ?_
  refine g_goto (tgt := 123) dX5_reliefNow_119 (by decide) ?_
  refine g_istore (L' := [some (.ref 15), some (.int x1), some (.int x2), some (.int x3), some (.int x4), some (.int 1)]) dX5_reliefNow_123 rfl (by decide) rfl ?_
  refine g_iload_n dX5_reliefNow_125 rfl ?_
  refine g_aload_n dX5_reliefNow_126 rfl ?_
  refine g_getfield (kd := 0) (v := .int (h.1 15 9)) dX5_reliefNow_127 fX5_66 (by decide) rfl rfl rfl rfl ?_
  refine g_iand dX5_reliefNow_130 ?_
  exact g_if_ne (tgt := 159) dX5_reliefNow_131 (by decide) (fun hc => by refine g_forget (mask := [true, true, true, true, false, false]) (L' := [some (.ref 15), some (.int x1), some (.int x2), some (.int x3), none, none]) rfl ?_; exact k1 hc) (fun hc => k2 hc)
theorem sX5_relief_0 {post : Option Value → PH → Prop} {h : PH} (k1 : ¬ (h.1 15 2) = 0 → G 4 mX5_relief post 13 [some (.ref 15)] [] h) (k2 : (h.1 15 2) = 0 → G 4 mX5_relief post 7 [none] [] h) : G 4 mX5_relief post 0 [some (.ref 15)] [] h := by
  refine g_aload_n dX5_relief_0 rfl ?_
  refine g_getfield (kd := 0) (v := .int (h.1 15 2)) dX5_relief_1 fX5_60 (by decide) rfl rfl rfl rfl ?_
  exact g_if_ne (tgt := 13) dX5_relief_4 (by decide) (fun hc => k1 hc) (fun hc => by refine g_forget (mask := [false]) (L' := [none]) rfl ?_; exact k2 hc)
theorem sX5_relief_13 {post : Option Value → PH → Prop} {h : PH} (k : Ev 3 mX5_reliefNow [.ref 15] h (fun r h' => G 4 mX5_relief post 17 [none] (r.toList ++ []) h')) : G 4 mX5_relief post 13 [some (.ref 15)] [] h := by
  refine g_aload_n dX5_relief_13 rfl ?_
  refine g_forget (mask := [false]) (L' := [none]) rfl ?_
  exact g_callV (n := 0) (b := 15) (as := []) (rest := []) dX5_relief_14 kX5_reliefNow lX5_186 (by decide) rfl ⟨_, _, rfl⟩ rfl rfl (by simp only [List.map, Value.category]; decide) (by decide) k
theorem sX5_relief_7 {post : Option Value → PH → Prop} {h : PH} (k : post (some (.int (-1004))) h) : G 4 mX5_relief post 7 [none] [] h := by
  refine g_sipush (v := (-1004)) dX5_relief_7 rfl ?_
  refine g_goto (tgt := 17) dX5_relief_10 (by decide) ?_
  exact g_ireturn (ty := .int) dX5_relief_17 rfl rfl k
theorem sX5_relief_17 {post : Option Value → PH → Prop} {h : PH} {s0 : Int32} (k : post (some (.int s0)) h) : G 4 mX5_relief post 17 [none] [.int s0] h := by
  exact g_ireturn (ty := .int) dX5_relief_17 rfl rfl k
theorem sX5_howMany_0 {post : Option Value → PH → Prop} {h : PH} {x1 : Int32} (k : Ev 0 mX5_asTheyAre [.ref 15] h (fun r h' => G 3 mX5_howMany post 4 [some (.ref 15), some (.int x1)] (r.toList ++ []) h')) : G 3 mX5_howMany post 0 [some (.ref 15), some (.int x1)] [] h := by
  refine g_aload_n dX5_howMany_0 rfl ?_
  exact g_callV (n := 0) (b := 15) (as := []) (rest := []) dX5_howMany_1 kX5_asTheyAre lX5_90 (by decide) rfl ⟨_, _, rfl⟩ rfl rfl (by simp only [List.map, Value.category]; decide) (by decide) k
theorem sX5_howMany_4 {post : Option Value → PH → Prop} {h : PH} {x1 : Int32} (kd : (Int32.toInt x1) < 0 ∨ 9 < (Int32.toInt x1) → G 3 mX5_howMany post 128 [none, none] [] h) (k0 : (Int32.toInt x1) = 0 → G 3 mX5_howMany post 60 [some (.ref 15), none] [] h) (k1 : (Int32.toInt x1) = 1 → G 3 mX5_howMany post 65 [some (.ref 15), none] [] h) (k2 : (Int32.toInt x1) = 2 → G 3 mX5_howMany post 70 [some (.ref 15), none] [] h) (k3 : (Int32.toInt x1) = 3 → G 3 mX5_howMany post 75 [some (.ref 15), none] [] h) (k4 : (Int32.toInt x1) = 4 → G 3 mX5_howMany post 80 [some (.ref 15), none] [] h) (k5 : (Int32.toInt x1) = 5 → G 3 mX5_howMany post 94 [some (.ref 15), none] [] h) (k6 : (Int32.toInt x1) = 6 → G 3 mX5_howMany post 108 [some (.ref 15), none] [] h) (k7 : (Int32.toInt x1) = 7 → G 3 mX5_howMany post 113 [some (.ref 15), none] [] h) (k8 : (Int32.toInt x1) = 8 → G 3 mX5_howMany post 118 [some (.ref 15), none] [] h) (k9 : (Int32.toInt x1) = 9 → G 3 mX5_howMany post 123 [some (.ref 15), none] [] h) : G 3 mX5_howMany post 4 [some (.ref 15), some (.int x1)] [] h := by
  refine g_iload_n dX5_howMany_4 rfl ?_
  by_cases hc : (Int32.toInt x1) < 0 ∨ 9 < (Int32.toInt x1)
  · exact g_tableOut (tgt := 128) dX5_howMany_5 hc (by decide) (by refine g_forget (mask := [false, false]) (L' := [none, none]) rfl ?_; exact kd hc)
  rcases (show (Int32.toInt x1) = 0 ∨ (Int32.toInt x1) = 1 ∨ (Int32.toInt x1) = 2 ∨ (Int32.toInt x1) = 3 ∨ (Int32.toInt x1) = 4 ∨ (Int32.toInt x1) = 5 ∨ (Int32.toInt x1) = 6 ∨ (Int32.toInt x1) = 7 ∨ (Int32.toInt x1) = 8 ∨ (Int32.toInt x1) = 9 by omega) with hv | hv | hv | hv | hv | hv | hv | hv | hv | hv
  · exact g_tableIn (tgt := 60) dX5_howMany_5 (by omega) (by omega) (by rw [hv]; rfl) (by decide) (by refine g_forget (mask := [true, false]) (L' := [some (.ref 15), none]) rfl ?_; exact k0 hv)
  · exact g_tableIn (tgt := 65) dX5_howMany_5 (by omega) (by omega) (by rw [hv]; rfl) (by decide) (by refine g_forget (mask := [true, false]) (L' := [some (.ref 15), none]) rfl ?_; exact k1 hv)
  · exact g_tableIn (tgt := 70) dX5_howMany_5 (by omega) (by omega) (by rw [hv]; rfl) (by decide) (by refine g_forget (mask := [true, false]) (L' := [some (.ref 15), none]) rfl ?_; exact k2 hv)
  · exact g_tableIn (tgt := 75) dX5_howMany_5 (by omega) (by omega) (by rw [hv]; rfl) (by decide) (by refine g_forget (mask := [true, false]) (L' := [some (.ref 15), none]) rfl ?_; exact k3 hv)
  · exact g_tableIn (tgt := 80) dX5_howMany_5 (by omega) (by omega) (by rw [hv]; rfl) (by decide) (by refine g_forget (mask := [true, false]) (L' := [some (.ref 15), none]) rfl ?_; exact k4 hv)
  · exact g_tableIn (tgt := 94) dX5_howMany_5 (by omega) (by omega) (by rw [hv]; rfl) (by decide) (by refine g_forget (mask := [true, false]) (L' := [some (.ref 15), none]) rfl ?_; exact k5 hv)
  · exact g_tableIn (tgt := 108) dX5_howMany_5 (by omega) (by omega) (by rw [hv]; rfl) (by decide) (by refine g_forget (mask := [true, false]) (L' := [some (.ref 15), none]) rfl ?_; exact k6 hv)
  · exact g_tableIn (tgt := 113) dX5_howMany_5 (by omega) (by omega) (by rw [hv]; rfl) (by decide) (by refine g_forget (mask := [true, false]) (L' := [some (.ref 15), none]) rfl ?_; exact k7 hv)
  · exact g_tableIn (tgt := 118) dX5_howMany_5 (by omega) (by omega) (by rw [hv]; rfl) (by decide) (by refine g_forget (mask := [true, false]) (L' := [some (.ref 15), none]) rfl ?_; exact k8 hv)
  · exact g_tableIn (tgt := 123) dX5_howMany_5 (by omega) (by omega) (by rw [hv]; rfl) (by decide) (by refine g_forget (mask := [true, false]) (L' := [some (.ref 15), none]) rfl ?_; exact k9 hv)
theorem sX5_howMany_128 {post : Option Value → PH → Prop} {h : PH} (k : post (some (.int (-1003))) h) : G 3 mX5_howMany post 128 [none, none] [] h := by
  refine g_sipush (v := (-1003)) dX5_howMany_128 rfl ?_
  exact g_ireturn (ty := .int) dX5_howMany_131 rfl rfl k
theorem sX5_howMany_60 {post : Option Value → PH → Prop} {h : PH} (k : post (some (.int (h.1 15 2))) h) : G 3 mX5_howMany post 60 [some (.ref 15), none] [] h := by
  refine g_aload_n dX5_howMany_60 rfl ?_
  refine g_getfield (kd := 0) (v := .int (h.1 15 2)) dX5_howMany_61 fX5_60 (by decide) rfl rfl rfl rfl ?_
  exact g_ireturn (ty := .int) dX5_howMany_64 rfl rfl k
theorem sX5_howMany_65 {post : Option Value → PH → Prop} {h : PH} (k : post (some (.int (h.1 15 3))) h) : G 3 mX5_howMany post 65 [some (.ref 15), none] [] h := by
  refine g_aload_n dX5_howMany_65 rfl ?_
  refine g_getfield (kd := 0) (v := .int (h.1 15 3)) dX5_howMany_66 fX5_57 (by decide) rfl rfl rfl rfl ?_
  exact g_ireturn (ty := .int) dX5_howMany_69 rfl rfl k
theorem sX5_howMany_70 {post : Option Value → PH → Prop} {h : PH} (k : post (some (.int (h.1 15 0))) h) : G 3 mX5_howMany post 70 [some (.ref 15), none] [] h := by
  refine g_aload_n dX5_howMany_70 rfl ?_
  refine g_getfield (kd := 0) (v := .int (h.1 15 0)) dX5_howMany_71 fX5_45 (by decide) rfl rfl rfl rfl ?_
  exact g_ireturn (ty := .int) dX5_howMany_74 rfl rfl k
theorem sX5_howMany_75 {post : Option Value → PH → Prop} {h : PH} (k : Ev 2 mX5_caught [.ref 15] h (fun r h' => G 3 mX5_howMany post 79 [none, none] (r.toList ++ []) h')) : G 3 mX5_howMany post 75 [some (.ref 15), none] [] h := by
  refine g_aload_n dX5_howMany_75 rfl ?_
  refine g_forget (mask := [false, true]) (L' := [none, none]) rfl ?_
  exact g_callV (n := 0) (b := 15) (as := []) (rest := []) dX5_howMany_76 kX5_caught lX5_128 (by decide) rfl ⟨_, _, rfl⟩ rfl rfl (by simp only [List.map, Value.category]; decide) (by decide) k
theorem sX5_howMany_80 {post : Option Value → PH → Prop} {h : PH} (k : Ev 2 mX5_isGood [.ref 15, .int 0] h (fun r h' => G 3 mX5_howMany post 85 [none, none] (r.toList ++ []) h')) : G 3 mX5_howMany post 80 [some (.ref 15), none] [] h := by
  refine g_aload_n dX5_howMany_80 rfl ?_
  refine g_iconst (v := 0) dX5_howMany_81 rfl ?_
  refine g_forget (mask := [false, true]) (L' := [none, none]) rfl ?_
  exact g_callV (n := 1) (b := 15) (as := [.int 0]) (rest := []) dX5_howMany_82 kX5_isGood lX5_93 (by decide) rfl ⟨_, _, rfl⟩ rfl rfl (by simp only [List.map, Value.category]; decide) (by decide) k
theorem sX5_howMany_94 {post : Option Value → PH → Prop} {h : PH} (k : Ev 2 mX5_isGood [.ref 15, .int 1] h (fun r h' => G 3 mX5_howMany post 99 [none, none] (r.toList ++ []) h')) : G 3 mX5_howMany post 94 [some (.ref 15), none] [] h := by
  refine g_aload_n dX5_howMany_94 rfl ?_
  refine g_iconst (v := 1) dX5_howMany_95 rfl ?_
  refine g_forget (mask := [false, true]) (L' := [none, none]) rfl ?_
  exact g_callV (n := 1) (b := 15) (as := [.int 1]) (rest := []) dX5_howMany_96 kX5_isGood lX5_93 (by decide) rfl ⟨_, _, rfl⟩ rfl rfl (by simp only [List.map, Value.category]; decide) (by decide) k
theorem sX5_howMany_108 {post : Option Value → PH → Prop} {h : PH} (k : post (some (.int (h.1 15 8))) h) : G 3 mX5_howMany post 108 [some (.ref 15), none] [] h := by
  refine g_aload_n dX5_howMany_108 rfl ?_
  refine g_getfield (kd := 0) (v := .int (h.1 15 8)) dX5_howMany_109 fX5_63 (by decide) rfl rfl rfl rfl ?_
  exact g_ireturn (ty := .int) dX5_howMany_112 rfl rfl k
theorem sX5_howMany_113 {post : Option Value → PH → Prop} {h : PH} (k : post (some (.int (h.1 15 9))) h) : G 3 mX5_howMany post 113 [some (.ref 15), none] [] h := by
  refine g_aload_n dX5_howMany_113 rfl ?_
  refine g_getfield (kd := 0) (v := .int (h.1 15 9)) dX5_howMany_114 fX5_66 (by decide) rfl rfl rfl rfl ?_
  exact g_ireturn (ty := .int) dX5_howMany_117 rfl rfl k
theorem sX5_howMany_118 {post : Option Value → PH → Prop} {h : PH} (k : post (some (.int (h.1 15 10))) h) : G 3 mX5_howMany post 118 [some (.ref 15), none] [] h := by
  refine g_aload_n dX5_howMany_118 rfl ?_
  refine g_getfield (kd := 0) (v := .int (h.1 15 10)) dX5_howMany_119 fX5_69 (by decide) rfl rfl rfl rfl ?_
  exact g_ireturn (ty := .int) dX5_howMany_122 rfl rfl k
theorem sX5_howMany_123 {post : Option Value → PH → Prop} {h : PH} (k : post (some (.int (h.1 15 11))) h) : G 3 mX5_howMany post 123 [some (.ref 15), none] [] h := by
  refine g_aload_n dX5_howMany_123 rfl ?_
  refine g_getfield (kd := 0) (v := .int (h.1 15 11)) dX5_howMany_124 fX5_97 (by decide) rfl rfl rfl rfl ?_
  exact g_ireturn (ty := .int) dX5_howMany_127 rfl rfl k
theorem sX5_howMany_79 {post : Option Value → PH → Prop} {h : PH} {s0 : Int32} (k : post (some (.int s0)) h) : G 3 mX5_howMany post 79 [none, none] [.int s0] h := by
  exact g_ireturn (ty := .int) dX5_howMany_79 rfl rfl k
theorem sX5_howMany_85 {post : Option Value → PH → Prop} {h : PH} {s0 : Int32} (k1 : s0 = 0 → G 3 mX5_howMany post 92 [none, none] [] h) (k2 : ¬ s0 = 0 → G 3 mX5_howMany post 88 [none, none] [] h) : G 3 mX5_howMany post 85 [none, none] [.int s0] h := by
  exact g_if_eq (tgt := 92) dX5_howMany_85 (by decide) (fun hc => k1 hc) (fun hc => k2 hc)
theorem sX5_howMany_99 {post : Option Value → PH → Prop} {h : PH} {s0 : Int32} (k1 : s0 = 0 → G 3 mX5_howMany post 106 [none, none] [] h) (k2 : ¬ s0 = 0 → G 3 mX5_howMany post 102 [none, none] [] h) : G 3 mX5_howMany post 99 [none, none] [.int s0] h := by
  exact g_if_eq (tgt := 106) dX5_howMany_99 (by decide) (fun hc => k1 hc) (fun hc => k2 hc)
theorem sX5_howMany_92 {post : Option Value → PH → Prop} {h : PH} (k : post (some (.int 0)) h) : G 3 mX5_howMany post 92 [none, none] [] h := by
  refine g_iconst (v := 0) dX5_howMany_92 rfl ?_
  exact g_ireturn (ty := .int) dX5_howMany_93 rfl rfl k
theorem sX5_howMany_88 {post : Option Value → PH → Prop} {h : PH} (k : post (some (.int 1)) h) : G 3 mX5_howMany post 88 [none, none] [] h := by
  refine g_iconst (v := 1) dX5_howMany_88 rfl ?_
  refine g_goto (tgt := 93) dX5_howMany_89 (by decide) ?_
  exact g_ireturn (ty := .int) dX5_howMany_93 rfl rfl k
theorem sX5_howMany_106 {post : Option Value → PH → Prop} {h : PH} (k : post (some (.int 0)) h) : G 3 mX5_howMany post 106 [none, none] [] h := by
  refine g_iconst (v := 0) dX5_howMany_106 rfl ?_
  exact g_ireturn (ty := .int) dX5_howMany_107 rfl rfl k
theorem sX5_howMany_102 {post : Option Value → PH → Prop} {h : PH} (k : post (some (.int 1)) h) : G 3 mX5_howMany post 102 [none, none] [] h := by
  refine g_iconst (v := 1) dX5_howMany_102 rfl ?_
  refine g_goto (tgt := 107) dX5_howMany_103 (by decide) ?_
  exact g_ireturn (ty := .int) dX5_howMany_107 rfl rfl k
theorem sX5_count_0 {post : Option Value → PH → Prop} {h : PH} {x1 : Int32} (k : Ev 3 mX5_howMany [.ref 15, .int x1] h (fun r h' => G 4 mX5_count post 5 [none, none] (r.toList ++ []) h')) : G 4 mX5_count post 0 [some (.ref 15), some (.int x1)] [] h := by
  refine g_aload_n dX5_count_0 rfl ?_
  refine g_iload_n dX5_count_1 rfl ?_
  refine g_forget (mask := [false, false]) (L' := [none, none]) rfl ?_
  exact g_callV (n := 1) (b := 15) (as := [.int x1]) (rest := []) dX5_count_2 kX5_howMany lX5_189 (by decide) rfl ⟨_, _, rfl⟩ rfl rfl (by simp only [List.map, Value.category]; decide) (by decide) k
theorem sX5_count_5 {post : Option Value → PH → Prop} {h : PH} {s0 : Int32} (k : post (some (.int s0)) h) : G 4 mX5_count post 5 [none, none] [.int s0] h := by
  exact g_ireturn (ty := .int) dX5_count_5 rfl rfl k
theorem sX5_mix_0 {post : Option Value → PH → Prop} {h : PH} {y1 : Int64} (k : post none (h.1, ((31 * (h.2)) + y1))) : G 0 mX5_mix post 0 [some (.ref 15), some (.long y1), none] [] h := by
  refine g_aload_n dX5_mix_0 rfl ?_
  refine g_ldc2 dX5_mix_1 pX5_192 ?_
  refine g_aload_n dX5_mix_4 rfl ?_
  refine g_getfield (kd := 1) (v := .long (h.2)) dX5_mix_5 fX5_194 (by decide) rfl rfl rfl rfl ?_
  refine g_lmul dX5_mix_8 ?_
  refine g_lload_n dX5_mix_9 rfl ?_
  refine g_ladd dX5_mix_10 ?_
  refine g_putlong dX5_mix_11 fX5_194 ?_
  exact g_return dX5_mix_14 rfl k
theorem sX5_mixPlans_0 {post : Option Value → PH → Prop} {h : PH} {x1 : Int32} (k : Ev 4 mX5_layChange [.ref 15, .int x1] h (fun r h' => G 5 mX5_mixPlans post 5 [some (.ref 15), none, none] (r.toList ++ []) h')) : G 5 mX5_mixPlans post 0 [some (.ref 15), some (.int x1), none] [] h := by
  refine g_aload_n dX5_mixPlans_0 rfl ?_
  refine g_iload_n dX5_mixPlans_1 rfl ?_
  refine g_forget (mask := [true, false, true]) (L' := [some (.ref 15), none, none]) rfl ?_
  exact g_callV (n := 1) (b := 15) (as := [.int x1]) (rest := []) dX5_mixPlans_2 kX5_layChange lX5_162 (by decide) rfl ⟨_, _, rfl⟩ rfl rfl (by simp only [List.map, Value.category]; decide) (by decide) k
theorem sX5_mixPlans_5 {post : Option Value → PH → Prop} {h : PH} (k : G 5 mX5_mixPlans post 7 [some (.ref 15), none, some (.int 0)] [] h) : G 5 mX5_mixPlans post 5 [some (.ref 15), none, none] [] h := by
  refine g_iconst (v := 0) dX5_mixPlans_5 rfl ?_
  refine g_istore_n (L' := [some (.ref 15), none, some (.int 0)]) dX5_mixPlans_6 rfl (by decide) rfl ?_
  exact k
theorem sX5_mixPlans_7 {post : Option Value → PH → Prop} {h : PH} {x2 : Int32} (k1 : 2 ≤ x2 → G 5 mX5_mixPlans post 28 [some (.ref 15), none, none] [] h) (k2 : ¬ 2 ≤ x2 → G 5 mX5_mixPlans post 12 [some (.ref 15), none, some (.int x2)] [] h) : G 5 mX5_mixPlans post 7 [some (.ref 15), none, some (.int x2)] [] h := by
  refine g_iload_n dX5_mixPlans_7 rfl ?_
  refine g_iconst (v := 2) dX5_mixPlans_8 rfl ?_
  exact g_icmp_ge (tgt := 28) dX5_mixPlans_9 (by decide) (fun hc => by refine g_forget (mask := [true, true, false]) (L' := [some (.ref 15), none, none]) rfl ?_; exact k1 hc) (fun hc => k2 hc)
theorem sX5_mixPlans_28 {post : Option Value → PH → Prop} {h : PH} (k : G 5 mX5_mixPlans post 31 [some (.ref 15), none, some (.int 10)] [] h) : G 5 mX5_mixPlans post 28 [some (.ref 15), none, none] [] h := by
  refine g_bipush (v := 10) dX5_mixPlans_28 rfl ?_
  refine g_istore_n (L' := [some (.ref 15), none, some (.int 10)]) dX5_mixPlans_30 rfl (by decide) rfl ?_
  exact k
theorem sX5_mixPlans_12 {post : Option Value → PH → Prop} {h : PH} {x2 : Int32} (k : Ev 3 mX5_bestNow [.ref 15, .int x2] h (fun r h' => G 5 mX5_mixPlans post 18 [some (.ref 15), none, some (.int x2)] (r.toList ++ [.ref 15]) h')) : G 5 mX5_mixPlans post 12 [some (.ref 15), none, some (.int x2)] [] h := by
  refine g_aload_n dX5_mixPlans_12 rfl ?_
  refine g_aload_n dX5_mixPlans_13 rfl ?_
  refine g_iload_n dX5_mixPlans_14 rfl ?_
  exact g_callV (n := 1) (b := 15) (as := [.int x2]) (rest := [.ref 15]) dX5_mixPlans_15 kX5_bestNow lX5_138 (by decide) rfl ⟨_, _, rfl⟩ rfl rfl (by simp only [List.map, Value.category]; decide) (by decide) k
theorem sX5_mixPlans_31 {post : Option Value → PH → Prop} {h : PH} {x2 : Int32} (k1 : 15 ≤ x2 → G 5 mX5_mixPlans post 53 [some (.ref 15), none, none] [] h) (k2 : ¬ 15 ≤ x2 → G 5 mX5_mixPlans post 37 [some (.ref 15), none, some (.int x2)] [] h) : G 5 mX5_mixPlans post 31 [some (.ref 15), none, some (.int x2)] [] h := by
  refine g_iload_n dX5_mixPlans_31 rfl ?_
  refine g_bipush (v := 15) dX5_mixPlans_32 rfl ?_
  exact g_icmp_ge (tgt := 53) dX5_mixPlans_34 (by decide) (fun hc => by refine g_forget (mask := [true, true, false]) (L' := [some (.ref 15), none, none]) rfl ?_; exact k1 hc) (fun hc => k2 hc)
theorem sX5_mixPlans_18 {post : Option Value → PH → Prop} {h : PH} {x2 s0 : Int32} (k : Ev 0 mX5_mix [.ref 15, .long (Int32.toInt64 s0)] h (fun r h' => G 5 mX5_mixPlans post 22 [some (.ref 15), none, some (.int x2)] (r.toList ++ []) h')) : G 5 mX5_mixPlans post 18 [some (.ref 15), none, some (.int x2)] [.int s0, .ref 15] h := by
  refine g_i2l dX5_mixPlans_18 ?_
  exact g_callV (n := 1) (b := 15) (as := [.long (Int32.toInt64 s0)]) (rest := []) dX5_mixPlans_19 kX5_mix lX5_198 (by decide) rfl ⟨_, _, rfl⟩ rfl rfl (by simp only [List.map, Value.category]; decide) (by decide) k
theorem sX5_mixPlans_53 {post : Option Value → PH → Prop} {h : PH} (k : Ev 0 mX5_changeNow [.ref 15, .int 0] h (fun r h' => G 5 mX5_mixPlans post 59 [some (.ref 15), none, none] (r.toList ++ [.ref 15]) h')) : G 5 mX5_mixPlans post 53 [some (.ref 15), none, none] [] h := by
  refine g_aload_n dX5_mixPlans_53 rfl ?_
  refine g_aload_n dX5_mixPlans_54 rfl ?_
  refine g_iconst (v := 0) dX5_mixPlans_55 rfl ?_
  exact g_callV (n := 1) (b := 15) (as := [.int 0]) (rest := [.ref 15]) dX5_mixPlans_56 kX5_changeNow lX5_165 (by decide) rfl ⟨_, _, rfl⟩ rfl rfl (by simp only [List.map, Value.category]; decide) (by decide) k
theorem sX5_mixPlans_37 {post : Option Value → PH → Prop} {h : PH} {x2 : Int32} (k : Ev 3 mX5_bestNow [.ref 15, .int x2] h (fun r h' => G 5 mX5_mixPlans post 43 [some (.ref 15), none, some (.int x2)] (r.toList ++ [.ref 15]) h')) : G 5 mX5_mixPlans post 37 [some (.ref 15), none, some (.int x2)] [] h := by
  refine g_aload_n dX5_mixPlans_37 rfl ?_
  refine g_aload_n dX5_mixPlans_38 rfl ?_
  refine g_iload_n dX5_mixPlans_39 rfl ?_
  exact g_callV (n := 1) (b := 15) (as := [.int x2]) (rest := [.ref 15]) dX5_mixPlans_40 kX5_bestNow lX5_138 (by decide) rfl ⟨_, _, rfl⟩ rfl rfl (by simp only [List.map, Value.category]; decide) (by decide) k
theorem sX5_mixPlans_22 {post : Option Value → PH → Prop} {h : PH} {x2 : Int32} (k : G 5 mX5_mixPlans post 7 [some (.ref 15), none, some (.int (x2 + 1))] [] h) : G 5 mX5_mixPlans post 22 [some (.ref 15), none, some (.int x2)] [] h := by
  refine g_iinc (v := (x2 + 1)) (L' := [some (.ref 15), none, some (.int (x2 + 1))]) dX5_mixPlans_22 rfl rfl rfl (by decide) rfl ?_
  refine g_goto (tgt := 7) dX5_mixPlans_25 (by decide) ?_
  exact k
theorem sX5_mixPlans_59 {post : Option Value → PH → Prop} {h : PH} {s0 : Int32} (k : Ev 0 mX5_mix [.ref 15, .long (Int32.toInt64 s0)] h (fun r h' => G 5 mX5_mixPlans post 63 [some (.ref 15), none, none] (r.toList ++ []) h')) : G 5 mX5_mixPlans post 59 [some (.ref 15), none, none] [.int s0, .ref 15] h := by
  refine g_i2l dX5_mixPlans_59 ?_
  exact g_callV (n := 1) (b := 15) (as := [.long (Int32.toInt64 s0)]) (rest := []) dX5_mixPlans_60 kX5_mix lX5_198 (by decide) rfl ⟨_, _, rfl⟩ rfl rfl (by simp only [List.map, Value.category]; decide) (by decide) k
theorem sX5_mixPlans_43 {post : Option Value → PH → Prop} {h : PH} {x2 s0 : Int32} (k : Ev 0 mX5_mix [.ref 15, .long (Int32.toInt64 s0)] h (fun r h' => G 5 mX5_mixPlans post 47 [some (.ref 15), none, some (.int x2)] (r.toList ++ []) h')) : G 5 mX5_mixPlans post 43 [some (.ref 15), none, some (.int x2)] [.int s0, .ref 15] h := by
  refine g_i2l dX5_mixPlans_43 ?_
  exact g_callV (n := 1) (b := 15) (as := [.long (Int32.toInt64 s0)]) (rest := []) dX5_mixPlans_44 kX5_mix lX5_198 (by decide) rfl ⟨_, _, rfl⟩ rfl rfl (by simp only [List.map, Value.category]; decide) (by decide) k
theorem sX5_mixPlans_63 {post : Option Value → PH → Prop} {h : PH} (k : G 5 mX5_mixPlans post 66 [some (.ref 15), none, some (.int 10)] [] h) : G 5 mX5_mixPlans post 63 [some (.ref 15), none, none] [] h := by
  refine g_bipush (v := 10) dX5_mixPlans_63 rfl ?_
  refine g_istore_n (L' := [some (.ref 15), none, some (.int 10)]) dX5_mixPlans_65 rfl (by decide) rfl ?_
  exact k
theorem sX5_mixPlans_47 {post : Option Value → PH → Prop} {h : PH} {x2 : Int32} (k : G 5 mX5_mixPlans post 31 [some (.ref 15), none, some (.int (x2 + 1))] [] h) : G 5 mX5_mixPlans post 47 [some (.ref 15), none, some (.int x2)] [] h := by
  refine g_iinc (v := (x2 + 1)) (L' := [some (.ref 15), none, some (.int (x2 + 1))]) dX5_mixPlans_47 rfl rfl rfl (by decide) rfl ?_
  refine g_goto (tgt := 31) dX5_mixPlans_50 (by decide) ?_
  exact k
theorem sX5_mixPlans_66 {post : Option Value → PH → Prop} {h : PH} {x2 : Int32} (k1 : 13 ≤ x2 → G 5 mX5_mixPlans post 88 [none, none, none] [] h) (k2 : ¬ 13 ≤ x2 → G 5 mX5_mixPlans post 72 [some (.ref 15), none, some (.int x2)] [] h) : G 5 mX5_mixPlans post 66 [some (.ref 15), none, some (.int x2)] [] h := by
  refine g_iload_n dX5_mixPlans_66 rfl ?_
  refine g_bipush (v := 13) dX5_mixPlans_67 rfl ?_
  exact g_icmp_ge (tgt := 88) dX5_mixPlans_69 (by decide) (fun hc => by refine g_forget (mask := [false, true, false]) (L' := [none, none, none]) rfl ?_; exact k1 hc) (fun hc => k2 hc)
theorem sX5_mixPlans_88 {post : Option Value → PH → Prop} {h : PH} (k : post none h) : G 5 mX5_mixPlans post 88 [none, none, none] [] h := by
  exact g_return dX5_mixPlans_88 rfl k
theorem sX5_mixPlans_72 {post : Option Value → PH → Prop} {h : PH} {x2 : Int32} (k : Ev 0 mX5_changeNow [.ref 15, .int x2] h (fun r h' => G 5 mX5_mixPlans post 78 [some (.ref 15), none, some (.int x2)] (r.toList ++ [.ref 15]) h')) : G 5 mX5_mixPlans post 72 [some (.ref 15), none, some (.int x2)] [] h := by
  refine g_aload_n dX5_mixPlans_72 rfl ?_
  refine g_aload_n dX5_mixPlans_73 rfl ?_
  refine g_iload_n dX5_mixPlans_74 rfl ?_
  exact g_callV (n := 1) (b := 15) (as := [.int x2]) (rest := [.ref 15]) dX5_mixPlans_75 kX5_changeNow lX5_165 (by decide) rfl ⟨_, _, rfl⟩ rfl rfl (by simp only [List.map, Value.category]; decide) (by decide) k
theorem sX5_mixPlans_78 {post : Option Value → PH → Prop} {h : PH} {x2 s0 : Int32} (k : Ev 0 mX5_mix [.ref 15, .long (Int32.toInt64 s0)] h (fun r h' => G 5 mX5_mixPlans post 82 [some (.ref 15), none, some (.int x2)] (r.toList ++ []) h')) : G 5 mX5_mixPlans post 78 [some (.ref 15), none, some (.int x2)] [.int s0, .ref 15] h := by
  refine g_i2l dX5_mixPlans_78 ?_
  exact g_callV (n := 1) (b := 15) (as := [.long (Int32.toInt64 s0)]) (rest := []) dX5_mixPlans_79 kX5_mix lX5_198 (by decide) rfl ⟨_, _, rfl⟩ rfl rfl (by simp only [List.map, Value.category]; decide) (by decide) k
theorem sX5_mixPlans_82 {post : Option Value → PH → Prop} {h : PH} {x2 : Int32} (k : G 5 mX5_mixPlans post 66 [some (.ref 15), none, some (.int (x2 + 1))] [] h) : G 5 mX5_mixPlans post 82 [some (.ref 15), none, some (.int x2)] [] h := by
  refine g_iinc (v := (x2 + 1)) (L' := [some (.ref 15), none, some (.int (x2 + 1))]) dX5_mixPlans_82 rfl rfl rfl (by decide) rfl ?_
  refine g_goto (tgt := 66) dX5_mixPlans_85 (by decide) ?_
  exact k
theorem sX5_mixField_0 {post : Option Value → PH → Prop} {h : PH} (k : Ev 5 mX5_mixPlans [.ref 15, .int 0] h (fun r h' => G 6 mX5_mixField post 5 [some (.ref 15), none] (r.toList ++ []) h')) : G 6 mX5_mixField post 0 [some (.ref 15), none] [] h := by
  refine g_aload_n dX5_mixField_0 rfl ?_
  refine g_iconst (v := 0) dX5_mixField_1 rfl ?_
  exact g_callV (n := 1) (b := 15) (as := [.int 0]) (rest := []) dX5_mixField_2 kX5_mixPlans lX5_202 (by decide) rfl ⟨_, _, rfl⟩ rfl rfl (by simp only [List.map, Value.category]; decide) (by decide) k
theorem sX5_mixField_5 {post : Option Value → PH → Prop} {h : PH} (k : Ev 5 mX5_mixPlans [.ref 15, .int 1] h (fun r h' => G 6 mX5_mixField post 10 [some (.ref 15), none] (r.toList ++ []) h')) : G 6 mX5_mixField post 5 [some (.ref 15), none] [] h := by
  refine g_aload_n dX5_mixField_5 rfl ?_
  refine g_iconst (v := 1) dX5_mixField_6 rfl ?_
  exact g_callV (n := 1) (b := 15) (as := [.int 1]) (rest := []) dX5_mixField_7 kX5_mixPlans lX5_202 (by decide) rfl ⟨_, _, rfl⟩ rfl rfl (by simp only [List.map, Value.category]; decide) (by decide) k
theorem sX5_mixField_10 {post : Option Value → PH → Prop} {h : PH} (k : Ev 3 mX5_layTrade [.ref 15] h (fun r h' => G 6 mX5_mixField post 14 [some (.ref 15), none] (r.toList ++ []) h')) : G 6 mX5_mixField post 10 [some (.ref 15), none] [] h := by
  refine g_aload_n dX5_mixField_10 rfl ?_
  exact g_callV (n := 0) (b := 15) (as := []) (rest := []) dX5_mixField_11 kX5_layTrade lX5_177 (by decide) rfl ⟨_, _, rfl⟩ rfl rfl (by simp only [List.map, Value.category]; decide) (by decide) k
theorem sX5_mixField_14 {post : Option Value → PH → Prop} {h : PH} (k : G 6 mX5_mixField post 16 [some (.ref 15), some (.int 0)] [] h) : G 6 mX5_mixField post 14 [some (.ref 15), none] [] h := by
  refine g_iconst (v := 0) dX5_mixField_14 rfl ?_
  refine g_istore_n (L' := [some (.ref 15), some (.int 0)]) dX5_mixField_15 rfl (by decide) rfl ?_
  exact k
theorem sX5_mixField_16 {post : Option Value → PH → Prop} {h : PH} {x1 : Int32} (k1 : 3 ≤ x1 → G 6 mX5_mixField post 37 [some (.ref 15), none] [] h) (k2 : ¬ 3 ≤ x1 → G 6 mX5_mixField post 21 [some (.ref 15), some (.int x1)] [] h) : G 6 mX5_mixField post 16 [some (.ref 15), some (.int x1)] [] h := by
  refine g_iload_n dX5_mixField_16 rfl ?_
  refine g_iconst (v := 3) dX5_mixField_17 rfl ?_
  exact g_icmp_ge (tgt := 37) dX5_mixField_18 (by decide) (fun hc => by refine g_forget (mask := [true, false]) (L' := [some (.ref 15), none]) rfl ?_; exact k1 hc) (fun hc => k2 hc)
theorem sX5_mixField_37 {post : Option Value → PH → Prop} {h : PH} (k : Ev 3 mX5_reliefNow [.ref 15] h (fun r h' => G 6 mX5_mixField post 42 [none, none] (r.toList ++ [.ref 15]) h')) : G 6 mX5_mixField post 37 [some (.ref 15), none] [] h := by
  refine g_aload_n dX5_mixField_37 rfl ?_
  refine g_aload_n dX5_mixField_38 rfl ?_
  refine g_forget (mask := [false, true]) (L' := [none, none]) rfl ?_
  exact g_callV (n := 0) (b := 15) (as := []) (rest := [.ref 15]) dX5_mixField_39 kX5_reliefNow lX5_186 (by decide) rfl ⟨_, _, rfl⟩ rfl rfl (by simp only [List.map, Value.category]; decide) (by decide) k
theorem sX5_mixField_21 {post : Option Value → PH → Prop} {h : PH} {x1 : Int32} (k : Ev 0 mX5_tradeNow [.ref 15, .int x1] h (fun r h' => G 6 mX5_mixField post 27 [some (.ref 15), some (.int x1)] (r.toList ++ [.ref 15]) h')) : G 6 mX5_mixField post 21 [some (.ref 15), some (.int x1)] [] h := by
  refine g_aload_n dX5_mixField_21 rfl ?_
  refine g_aload_n dX5_mixField_22 rfl ?_
  refine g_iload_n dX5_mixField_23 rfl ?_
  exact g_callV (n := 1) (b := 15) (as := [.int x1]) (rest := [.ref 15]) dX5_mixField_24 kX5_tradeNow lX5_180 (by decide) rfl ⟨_, _, rfl⟩ rfl rfl (by simp only [List.map, Value.category]; decide) (by decide) k
theorem sX5_mixField_42 {post : Option Value → PH → Prop} {h : PH} {s0 : Int32} (k : Ev 0 mX5_mix [.ref 15, .long (Int32.toInt64 s0)] h (fun r h' => G 6 mX5_mixField post 46 [none, none] (r.toList ++ []) h')) : G 6 mX5_mixField post 42 [none, none] [.int s0, .ref 15] h := by
  refine g_i2l dX5_mixField_42 ?_
  exact g_callV (n := 1) (b := 15) (as := [.long (Int32.toInt64 s0)]) (rest := []) dX5_mixField_43 kX5_mix lX5_198 (by decide) rfl ⟨_, _, rfl⟩ rfl rfl (by simp only [List.map, Value.category]; decide) (by decide) k
theorem sX5_mixField_27 {post : Option Value → PH → Prop} {h : PH} {x1 s0 : Int32} (k : Ev 0 mX5_mix [.ref 15, .long (Int32.toInt64 s0)] h (fun r h' => G 6 mX5_mixField post 31 [some (.ref 15), some (.int x1)] (r.toList ++ []) h')) : G 6 mX5_mixField post 27 [some (.ref 15), some (.int x1)] [.int s0, .ref 15] h := by
  refine g_i2l dX5_mixField_27 ?_
  exact g_callV (n := 1) (b := 15) (as := [.long (Int32.toInt64 s0)]) (rest := []) dX5_mixField_28 kX5_mix lX5_198 (by decide) rfl ⟨_, _, rfl⟩ rfl rfl (by simp only [List.map, Value.category]; decide) (by decide) k
theorem sX5_mixField_46 {post : Option Value → PH → Prop} {h : PH} (k : post none h) : G 6 mX5_mixField post 46 [none, none] [] h := by
  exact g_return dX5_mixField_46 rfl k
theorem sX5_mixField_31 {post : Option Value → PH → Prop} {h : PH} {x1 : Int32} (k : G 6 mX5_mixField post 16 [some (.ref 15), some (.int (x1 + 1))] [] h) : G 6 mX5_mixField post 31 [some (.ref 15), some (.int x1)] [] h := by
  refine g_iinc (v := (x1 + 1)) (L' := [some (.ref 15), some (.int (x1 + 1))]) dX5_mixField_31 rfl rfl rfl (by decide) rfl ?_
  refine g_goto (tgt := 16) dX5_mixField_34 (by decide) ?_
  exact k
theorem sX5_digest_0 {post : Option Value → PH → Prop} {h : PH} (k : G 7 mX5_digest post 9 [some (.ref 15), some (.int 0), none] [] (h.1, 1733)) : G 7 mX5_digest post 0 [some (.ref 15), none, none] [] h := by
  refine g_aload_n dX5_digest_0 rfl ?_
  refine g_ldc2 dX5_digest_1 pX5_205 ?_
  refine g_putlong dX5_digest_4 fX5_194 ?_
  refine g_iconst (v := 0) dX5_digest_7 rfl ?_
  refine g_istore_n (L' := [some (.ref 15), some (.int 0), none]) dX5_digest_8 rfl (by decide) rfl ?_
  exact k
theorem sX5_digest_9 {post : Option Value → PH → Prop} {h : PH} {x1 : Int32} (k1 : (h.1 15 2) ≤ x1 → G 7 mX5_digest post 48 [some (.ref 15), none, none] [] h) (k2 : ¬ (h.1 15 2) ≤ x1 → G 7 mX5_digest post 17 [some (.ref 15), some (.int x1), none] [] h) : G 7 mX5_digest post 9 [some (.ref 15), some (.int x1), none] [] h := by
  refine g_iload_n dX5_digest_9 rfl ?_
  refine g_aload_n dX5_digest_10 rfl ?_
  refine g_getfield (kd := 0) (v := .int (h.1 15 2)) dX5_digest_11 fX5_60 (by decide) rfl rfl rfl rfl ?_
  exact g_icmp_ge (tgt := 48) dX5_digest_14 (by decide) (fun hc => by refine g_forget (mask := [true, false, true]) (L' := [some (.ref 15), none, none]) rfl ?_; exact k1 hc) (fun hc => k2 hc)
theorem sX5_digest_48 {post : Option Value → PH → Prop} {h : PH} (k : G 7 mX5_digest post 50 [some (.ref 15), some (.int 0), none] [] h) : G 7 mX5_digest post 48 [some (.ref 15), none, none] [] h := by
  refine g_iconst (v := 0) dX5_digest_48 rfl ?_
  refine g_istore_n (L' := [some (.ref 15), some (.int 0), none]) dX5_digest_49 rfl (by decide) rfl ?_
  exact k
theorem sX5_digest_17 {post : Option Value → PH → Prop} {h : PH} {x1 : Int32} (k : G 7 mX5_digest post 19 [some (.ref 15), some (.int x1), some (.int 0)] [] h) : G 7 mX5_digest post 17 [some (.ref 15), some (.int x1), none] [] h := by
  refine g_iconst (v := 0) dX5_digest_17 rfl ?_
  refine g_istore_n (L' := [some (.ref 15), some (.int x1), some (.int 0)]) dX5_digest_18 rfl (by decide) rfl ?_
  exact k
theorem sX5_digest_50 {post : Option Value → PH → Prop} {h : PH} {x1 : Int32} (k1 : (h.1 15 3) ≤ x1 → G 7 mX5_digest post 88 [some (.ref 15), none, none] [] h) (k2 : ¬ (h.1 15 3) ≤ x1 → G 7 mX5_digest post 58 [some (.ref 15), some (.int x1), none] [] h) : G 7 mX5_digest post 50 [some (.ref 15), some (.int x1), none] [] h := by
  refine g_iload_n dX5_digest_50 rfl ?_
  refine g_aload_n dX5_digest_51 rfl ?_
  refine g_getfield (kd := 0) (v := .int (h.1 15 3)) dX5_digest_52 fX5_57 (by decide) rfl rfl rfl rfl ?_
  exact g_icmp_ge (tgt := 88) dX5_digest_55 (by decide) (fun hc => by refine g_forget (mask := [true, false, true]) (L' := [some (.ref 15), none, none]) rfl ?_; exact k1 hc) (fun hc => k2 hc)
theorem sX5_digest_19 {post : Option Value → PH → Prop} {h : PH} {x1 x2 : Int32} (k1 : 6 ≤ x2 → G 7 mX5_digest post 42 [some (.ref 15), some (.int x1), none] [] h) (k2 : ¬ 6 ≤ x2 → G 7 mX5_digest post 25 [some (.ref 15), some (.int x1), some (.int x2)] [] h) : G 7 mX5_digest post 19 [some (.ref 15), some (.int x1), some (.int x2)] [] h := by
  refine g_iload_n dX5_digest_19 rfl ?_
  refine g_bipush (v := 6) dX5_digest_20 rfl ?_
  exact g_icmp_ge (tgt := 42) dX5_digest_22 (by decide) (fun hc => by refine g_forget (mask := [true, true, false]) (L' := [some (.ref 15), some (.int x1), none]) rfl ?_; exact k1 hc) (fun hc => k2 hc)
theorem sX5_digest_88 {post : Option Value → PH → Prop} {h : PH} (k1 : (h.1 15 2) ≤ 0 → G 7 mX5_digest post 99 [some (.ref 15), none, none] [] h) (k2 : ¬ (h.1 15 2) ≤ 0 → G 7 mX5_digest post 95 [some (.ref 15), none, none] [] h) : G 7 mX5_digest post 88 [some (.ref 15), none, none] [] h := by
  refine g_aload_n dX5_digest_88 rfl ?_
  refine g_getfield (kd := 0) (v := .int (h.1 15 2)) dX5_digest_89 fX5_60 (by decide) rfl rfl rfl rfl ?_
  exact g_if_le (tgt := 99) dX5_digest_92 (by decide) (fun hc => k1 hc) (fun hc => k2 hc)
theorem sX5_digest_58 {post : Option Value → PH → Prop} {h : PH} {x1 : Int32} (k : G 7 mX5_digest post 60 [some (.ref 15), some (.int x1), some (.int 0)] [] h) : G 7 mX5_digest post 58 [some (.ref 15), some (.int x1), none] [] h := by
  refine g_iconst (v := 0) dX5_digest_58 rfl ?_
  refine g_istore_n (L' := [some (.ref 15), some (.int x1), some (.int 0)]) dX5_digest_59 rfl (by decide) rfl ?_
  exact k
theorem sX5_digest_42 {post : Option Value → PH → Prop} {h : PH} {x1 : Int32} (k : G 7 mX5_digest post 9 [some (.ref 15), some (.int (x1 + 1)), none] [] h) : G 7 mX5_digest post 42 [some (.ref 15), some (.int x1), none] [] h := by
  refine g_iinc (v := (x1 + 1)) (L' := [some (.ref 15), some (.int (x1 + 1)), none]) dX5_digest_42 rfl rfl rfl (by decide) rfl ?_
  refine g_goto (tgt := 9) dX5_digest_45 (by decide) ?_
  exact k
theorem sX5_digest_25 {post : Option Value → PH → Prop} {h : PH} {x1 x2 : Int32} (k : Ev 2 mX5_ofMirror [.ref 15, .int x1, .int x2] h (fun r h' => G 7 mX5_digest post 32 [some (.ref 15), some (.int x1), some (.int x2)] (r.toList ++ [.ref 15]) h')) : G 7 mX5_digest post 25 [some (.ref 15), some (.int x1), some (.int x2)] [] h := by
  refine g_aload_n dX5_digest_25 rfl ?_
  refine g_aload_n dX5_digest_26 rfl ?_
  refine g_iload_n dX5_digest_27 rfl ?_
  refine g_iload_n dX5_digest_28 rfl ?_
  exact g_callV (n := 2) (b := 15) (as := [.int x1, .int x2]) (rest := [.ref 15]) dX5_digest_29 kX5_ofMirror lX5_104 (by decide) rfl ⟨_, _, rfl⟩ rfl rfl (by simp only [List.map, Value.category]; decide) (by decide) k
theorem sX5_digest_99 {post : Option Value → PH → Prop} {h : PH} (k : G 7 mX5_digest post 101 [some (.ref 15), some (.int 0), none] [] h) : G 7 mX5_digest post 99 [some (.ref 15), none, none] [] h := by
  refine g_iconst (v := 0) dX5_digest_99 rfl ?_
  refine g_istore_n (L' := [some (.ref 15), some (.int 0), none]) dX5_digest_100 rfl (by decide) rfl ?_
  exact k
theorem sX5_digest_95 {post : Option Value → PH → Prop} {h : PH} (k : Ev 6 mX5_mixField [.ref 15] h (fun r h' => G 7 mX5_digest post 99 [some (.ref 15), none, none] (r.toList ++ []) h')) : G 7 mX5_digest post 95 [some (.ref 15), none, none] [] h := by
  refine g_aload_n dX5_digest_95 rfl ?_
  exact g_callV (n := 0) (b := 15) (as := []) (rest := []) dX5_digest_96 kX5_mixField lX5_207 (by decide) rfl ⟨_, _, rfl⟩ rfl rfl (by simp only [List.map, Value.category]; decide) (by decide) k
theorem sX5_digest_60 {post : Option Value → PH → Prop} {h : PH} {x1 x2 : Int32} (k1 : 4 ≤ x2 → G 7 mX5_digest post 82 [some (.ref 15), some (.int x1), none] [] h) (k2 : ¬ 4 ≤ x2 → G 7 mX5_digest post 65 [some (.ref 15), some (.int x1), some (.int x2)] [] h) : G 7 mX5_digest post 60 [some (.ref 15), some (.int x1), some (.int x2)] [] h := by
  refine g_iload_n dX5_digest_60 rfl ?_
  refine g_iconst (v := 4) dX5_digest_61 rfl ?_
  exact g_icmp_ge (tgt := 82) dX5_digest_62 (by decide) (fun hc => by refine g_forget (mask := [true, true, false]) (L' := [some (.ref 15), some (.int x1), none]) rfl ?_; exact k1 hc) (fun hc => k2 hc)
theorem sX5_digest_32 {post : Option Value → PH → Prop} {h : PH} {x1 x2 s0 : Int32} (k : Ev 0 mX5_mix [.ref 15, .long (Int32.toInt64 s0)] h (fun r h' => G 7 mX5_digest post 36 [some (.ref 15), some (.int x1), some (.int x2)] (r.toList ++ []) h')) : G 7 mX5_digest post 32 [some (.ref 15), some (.int x1), some (.int x2)] [.int s0, .ref 15] h := by
  refine g_i2l dX5_digest_32 ?_
  exact g_callV (n := 1) (b := 15) (as := [.long (Int32.toInt64 s0)]) (rest := []) dX5_digest_33 kX5_mix lX5_198 (by decide) rfl ⟨_, _, rfl⟩ rfl rfl (by simp only [List.map, Value.category]; decide) (by decide) k
theorem sX5_digest_101 {post : Option Value → PH → Prop} {h : PH} {x1 : Int32} (k1 : (h.1 15 0) ≤ x1 → G 7 mX5_digest post 126 [some (.ref 15), none, none] [] h) (k2 : ¬ (h.1 15 0) ≤ x1 → G 7 mX5_digest post 109 [some (.ref 15), some (.int x1), none] [] h) : G 7 mX5_digest post 101 [some (.ref 15), some (.int x1), none] [] h := by
  refine g_iload_n dX5_digest_101 rfl ?_
  refine g_aload_n dX5_digest_102 rfl ?_
  refine g_getfield (kd := 0) (v := .int (h.1 15 0)) dX5_digest_103 fX5_45 (by decide) rfl rfl rfl rfl ?_
  exact g_icmp_ge (tgt := 126) dX5_digest_106 (by decide) (fun hc => by refine g_forget (mask := [true, false, true]) (L' := [some (.ref 15), none, none]) rfl ?_; exact k1 hc) (fun hc => k2 hc)
theorem sX5_digest_82 {post : Option Value → PH → Prop} {h : PH} {x1 : Int32} (k : G 7 mX5_digest post 50 [some (.ref 15), some (.int (x1 + 1)), none] [] h) : G 7 mX5_digest post 82 [some (.ref 15), some (.int x1), none] [] h := by
  refine g_iinc (v := (x1 + 1)) (L' := [some (.ref 15), some (.int (x1 + 1)), none]) dX5_digest_82 rfl rfl rfl (by decide) rfl ?_
  refine g_goto (tgt := 50) dX5_digest_85 (by decide) ?_
  exact k
theorem sX5_digest_65 {post : Option Value → PH → Prop} {h : PH} {x1 x2 : Int32} (k : Ev 2 mX5_ofPatch [.ref 15, .int x1, .int x2] h (fun r h' => G 7 mX5_digest post 72 [some (.ref 15), some (.int x1), some (.int x2)] (r.toList ++ [.ref 15]) h')) : G 7 mX5_digest post 65 [some (.ref 15), some (.int x1), some (.int x2)] [] h := by
  refine g_aload_n dX5_digest_65 rfl ?_
  refine g_aload_n dX5_digest_66 rfl ?_
  refine g_iload_n dX5_digest_67 rfl ?_
  refine g_iload_n dX5_digest_68 rfl ?_
  exact g_callV (n := 2) (b := 15) (as := [.int x1, .int x2]) (rest := [.ref 15]) dX5_digest_69 kX5_ofPatch lX5_111 (by decide) rfl ⟨_, _, rfl⟩ rfl rfl (by simp only [List.map, Value.category]; decide) (by decide) k
theorem sX5_digest_36 {post : Option Value → PH → Prop} {h : PH} {x1 x2 : Int32} (k : G 7 mX5_digest post 19 [some (.ref 15), some (.int x1), some (.int (x2 + 1))] [] h) : G 7 mX5_digest post 36 [some (.ref 15), some (.int x1), some (.int x2)] [] h := by
  refine g_iinc (v := (x2 + 1)) (L' := [some (.ref 15), some (.int x1), some (.int (x2 + 1))]) dX5_digest_36 rfl rfl rfl (by decide) rfl ?_
  refine g_goto (tgt := 19) dX5_digest_39 (by decide) ?_
  exact k
theorem sX5_digest_126 {post : Option Value → PH → Prop} {h : PH} (k : G 7 mX5_digest post 128 [some (.ref 15), some (.int 0), none] [] h) : G 7 mX5_digest post 126 [some (.ref 15), none, none] [] h := by
  refine g_iconst (v := 0) dX5_digest_126 rfl ?_
  refine g_istore_n (L' := [some (.ref 15), some (.int 0), none]) dX5_digest_127 rfl (by decide) rfl ?_
  exact k
theorem sX5_digest_109 {post : Option Value → PH → Prop} {h : PH} {x1 : Int32} (hb1 : vp_in x1 21) (k : Ev 0 mX5_mix [.ref 15, .long (Int32.toInt64 (h.1 16 (Int32.toNatClampNeg x1)))] h (fun r h' => G 7 mX5_digest post 120 [some (.ref 15), some (.int x1), none] (r.toList ++ []) h')) : G 7 mX5_digest post 109 [some (.ref 15), some (.int x1), none] [] h := by
  refine g_aload_n dX5_digest_109 rfl ?_
  refine g_aload_n dX5_digest_110 rfl ?_
  refine g_getfield (kd := 18) (v := .ref 16) dX5_digest_111 fX5_7 (by decide) rfl rfl rfl rfl ?_
  refine g_iload_n dX5_digest_114 rfl ?_
  refine g_iaload (n := 21) dX5_digest_115 (by decide) rfl rfl rfl hb1 ?_
  refine g_i2l dX5_digest_116 ?_
  exact g_callV (n := 1) (b := 15) (as := [.long (Int32.toInt64 (h.1 16 (Int32.toNatClampNeg x1)))]) (rest := []) dX5_digest_117 kX5_mix lX5_198 (by decide) rfl ⟨_, _, rfl⟩ rfl rfl (by simp only [List.map, Value.category]; decide) (by decide) k
theorem sX5_digest_72 {post : Option Value → PH → Prop} {h : PH} {x1 x2 s0 : Int32} (k : Ev 0 mX5_mix [.ref 15, .long (Int32.toInt64 s0)] h (fun r h' => G 7 mX5_digest post 76 [some (.ref 15), some (.int x1), some (.int x2)] (r.toList ++ []) h')) : G 7 mX5_digest post 72 [some (.ref 15), some (.int x1), some (.int x2)] [.int s0, .ref 15] h := by
  refine g_i2l dX5_digest_72 ?_
  exact g_callV (n := 1) (b := 15) (as := [.long (Int32.toInt64 s0)]) (rest := []) dX5_digest_73 kX5_mix lX5_198 (by decide) rfl ⟨_, _, rfl⟩ rfl rfl (by simp only [List.map, Value.category]; decide) (by decide) k
theorem sX5_digest_128 {post : Option Value → PH → Prop} {h : PH} {x1 : Int32} (k1 : 10 ≤ x1 → G 7 mX5_digest post 150 [some (.ref 15), none, none] [] h) (k2 : ¬ 10 ≤ x1 → G 7 mX5_digest post 134 [some (.ref 15), some (.int x1), none] [] h) : G 7 mX5_digest post 128 [some (.ref 15), some (.int x1), none] [] h := by
  refine g_iload_n dX5_digest_128 rfl ?_
  refine g_bipush (v := 10) dX5_digest_129 rfl ?_
  exact g_icmp_ge (tgt := 150) dX5_digest_131 (by decide) (fun hc => by refine g_forget (mask := [true, false, true]) (L' := [some (.ref 15), none, none]) rfl ?_; exact k1 hc) (fun hc => k2 hc)
theorem sX5_digest_120 {post : Option Value → PH → Prop} {h : PH} {x1 : Int32} (k : G 7 mX5_digest post 101 [some (.ref 15), some (.int (x1 + 1)), none] [] h) : G 7 mX5_digest post 120 [some (.ref 15), some (.int x1), none] [] h := by
  refine g_iinc (v := (x1 + 1)) (L' := [some (.ref 15), some (.int (x1 + 1)), none]) dX5_digest_120 rfl rfl rfl (by decide) rfl ?_
  refine g_goto (tgt := 101) dX5_digest_123 (by decide) ?_
  exact k
theorem sX5_digest_76 {post : Option Value → PH → Prop} {h : PH} {x1 x2 : Int32} (k : G 7 mX5_digest post 60 [some (.ref 15), some (.int x1), some (.int (x2 + 1))] [] h) : G 7 mX5_digest post 76 [some (.ref 15), some (.int x1), some (.int x2)] [] h := by
  refine g_iinc (v := (x2 + 1)) (L' := [some (.ref 15), some (.int x1), some (.int (x2 + 1))]) dX5_digest_76 rfl rfl rfl (by decide) rfl ?_
  refine g_goto (tgt := 60) dX5_digest_79 (by decide) ?_
  exact k
theorem sX5_digest_150 {post : Option Value → PH → Prop} {h : PH} (k : post (some (.long (h.2))) h) : G 7 mX5_digest post 150 [some (.ref 15), none, none] [] h := by
  refine g_aload_n dX5_digest_150 rfl ?_
  refine g_getfield (kd := 1) (v := .long (h.2)) dX5_digest_151 fX5_194 (by decide) rfl rfl rfl rfl ?_
  exact g_lreturn dX5_digest_154 rfl k
theorem sX5_digest_134 {post : Option Value → PH → Prop} {h : PH} {x1 : Int32} (k : Ev 3 mX5_howMany [.ref 15, .int x1] h (fun r h' => G 7 mX5_digest post 140 [some (.ref 15), some (.int x1), none] (r.toList ++ [.ref 15]) h')) : G 7 mX5_digest post 134 [some (.ref 15), some (.int x1), none] [] h := by
  refine g_aload_n dX5_digest_134 rfl ?_
  refine g_aload_n dX5_digest_135 rfl ?_
  refine g_iload_n dX5_digest_136 rfl ?_
  exact g_callV (n := 1) (b := 15) (as := [.int x1]) (rest := [.ref 15]) dX5_digest_137 kX5_howMany lX5_189 (by decide) rfl ⟨_, _, rfl⟩ rfl rfl (by simp only [List.map, Value.category]; decide) (by decide) k
theorem sX5_digest_140 {post : Option Value → PH → Prop} {h : PH} {x1 s0 : Int32} (k : Ev 0 mX5_mix [.ref 15, .long (Int32.toInt64 s0)] h (fun r h' => G 7 mX5_digest post 144 [some (.ref 15), some (.int x1), none] (r.toList ++ []) h')) : G 7 mX5_digest post 140 [some (.ref 15), some (.int x1), none] [.int s0, .ref 15] h := by
  refine g_i2l dX5_digest_140 ?_
  exact g_callV (n := 1) (b := 15) (as := [.long (Int32.toInt64 s0)]) (rest := []) dX5_digest_141 kX5_mix lX5_198 (by decide) rfl ⟨_, _, rfl⟩ rfl rfl (by simp only [List.map, Value.category]; decide) (by decide) k
theorem sX5_digest_144 {post : Option Value → PH → Prop} {h : PH} {x1 : Int32} (k : G 7 mX5_digest post 128 [some (.ref 15), some (.int (x1 + 1)), none] [] h) : G 7 mX5_digest post 144 [some (.ref 15), some (.int x1), none] [] h := by
  refine g_iinc (v := (x1 + 1)) (L' := [some (.ref 15), some (.int (x1 + 1)), none]) dX5_digest_144 rfl rfl rfl (by decide) rfl ?_
  refine g_goto (tgt := 128) dX5_digest_147 (by decide) ?_
  exact k
