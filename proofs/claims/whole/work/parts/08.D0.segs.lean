theorem sX4_letter_0 {post : Option Value → PH → Prop} {h : PH} {x1 : Int32} (k1 : x1 < 32 → G 1 mX4_letter post 12 [none, none] [] h) (k2 : ¬ x1 < 32 → G 1 mX4_letter post 6 [some (.ref 0), some (.int x1)] [] h) : G 1 mX4_letter post 0 [some (.ref 0), some (.int x1)] [] h := by
  refine g_iload_n dX4_letter_0 rfl ?_
  refine g_bipush (v := 32) dX4_letter_1 rfl ?_
  exact g_icmp_lt (tgt := 12) dX4_letter_3 (by decide) (fun hc => by refine g_forget (mask := [false, false]) (L' := [none, none]) rfl ?_; exact k1 hc) (fun hc => k2 hc)
theorem sX4_letter_12 {post : Option Value → PH → Prop} {h : PH} (k : post (some (.int (-1003))) h) : G 1 mX4_letter post 12 [none, none] [] h := by
  refine g_sipush (v := (-1003)) dX4_letter_12 rfl ?_
  exact g_ireturn (ty := .int) dX4_letter_15 rfl rfl k
theorem sX4_letter_6 {post : Option Value → PH → Prop} {h : PH} {x1 : Int32} (k1 : x1 ≤ 126 → G 1 mX4_letter post 16 [some (.ref 0), some (.int x1)] [] h) (k2 : ¬ x1 ≤ 126 → G 1 mX4_letter post 12 [none, none] [] h) : G 1 mX4_letter post 6 [some (.ref 0), some (.int x1)] [] h := by
  refine g_iload_n dX4_letter_6 rfl ?_
  refine g_bipush (v := 126) dX4_letter_7 rfl ?_
  exact g_icmp_le (tgt := 16) dX4_letter_9 (by decide) (fun hc => k1 hc) (fun hc => by refine g_forget (mask := [false, false]) (L' := [none, none]) rfl ?_; exact k2 hc)
theorem sX4_letter_16 {post : Option Value → PH → Prop} {h : PH} {x1 : Int32} (k1 : (h.1 1 1) < 21 → G 1 mX4_letter post 32 [some (.ref 0), some (.int x1)] [] h) (k2 : ¬ (h.1 1 1) < 21 → G 1 mX4_letter post 28 [none, none] [] h) : G 1 mX4_letter post 16 [some (.ref 0), some (.int x1)] [] h := by
  refine g_aload_n dX4_letter_16 rfl ?_
  refine g_getfield (kd := 3) (v := .ref 1) dX4_letter_17 fX4_10 (by decide) rfl rfl rfl rfl ?_
  refine g_getfield (kd := 0) (v := .int (h.1 1 1)) dX4_letter_20 fX4_30 (by decide) rfl rfl rfl rfl ?_
  refine g_bipush (v := 21) dX4_letter_23 rfl ?_
  exact g_icmp_lt (tgt := 32) dX4_letter_25 (by decide) (fun hc => k1 hc) (fun hc => by refine g_forget (mask := [false, false]) (L' := [none, none]) rfl ?_; exact k2 hc)
theorem sX4_letter_32 {post : Option Value → PH → Prop} {h : PH} {x1 : Int32} (k : Ev 0 mX0_append [.ref 1, .int x1] h (fun r h' => G 1 mX4_letter post 40 [some (.ref 0), none] (r.toList ++ []) h')) : G 1 mX4_letter post 32 [some (.ref 0), some (.int x1)] [] h := by
  refine g_aload_n dX4_letter_32 rfl ?_
  refine g_getfield (kd := 3) (v := .ref 1) dX4_letter_33 fX4_10 (by decide) rfl rfl rfl rfl ?_
  refine g_iload_n dX4_letter_36 rfl ?_
  refine g_forget (mask := [true, false]) (L' := [some (.ref 0), none]) rfl ?_
  exact g_callV (n := 1) (b := 1) (as := [.int x1]) (rest := []) dX4_letter_37 kX0_append lX4_34 (by decide) rfl ⟨_, _, rfl⟩ rfl rfl (by simp only [List.map, Value.category]; decide) (by decide) k
theorem sX4_letter_28 {post : Option Value → PH → Prop} {h : PH} (k : post (some (.int (-1005))) h) : G 1 mX4_letter post 28 [none, none] [] h := by
  refine g_sipush (v := (-1005)) dX4_letter_28 rfl ?_
  exact g_ireturn (ty := .int) dX4_letter_31 rfl rfl k
theorem sX4_letter_40 {post : Option Value → PH → Prop} {h : PH} (k : post (some (.int (h.1 1 1))) h) : G 1 mX4_letter post 40 [some (.ref 0), none] [] h := by
  refine g_aload_n dX4_letter_40 rfl ?_
  refine g_getfield (kd := 3) (v := .ref 1) dX4_letter_41 fX4_10 (by decide) rfl rfl rfl rfl ?_
  refine g_getfield (kd := 0) (v := .int (h.1 1 1)) dX4_letter_44 fX4_30 (by decide) rfl rfl rfl rfl ?_
  exact g_ireturn (ty := .int) dX4_letter_47 rfl rfl k
theorem sX4_blank_0 {post : Option Value → PH → Prop} {h : PH} (k : post (some (.int (h.1 1 1))) ((upd2 h.1 1 1 0), h.2)) : G 0 mX4_blank post 0 [some (.ref 0), none] [] h := by
  refine g_aload_n dX4_blank_0 rfl ?_
  refine g_getfield (kd := 3) (v := .ref 1) dX4_blank_1 fX4_10 (by decide) rfl rfl rfl rfl ?_
  refine g_getfield (kd := 0) (v := .int (h.1 1 1)) dX4_blank_4 fX4_30 (by decide) rfl rfl rfl rfl ?_
  refine g_istore_n (L' := [some (.ref 0), some (.int (h.1 1 1))]) dX4_blank_7 rfl (by decide) rfl ?_
  refine g_aload_n dX4_blank_8 rfl ?_
  refine g_getfield (kd := 3) (v := .ref 1) dX4_blank_9 fX4_10 (by decide) rfl rfl rfl rfl ?_
  refine g_iconst (v := 0) dX4_blank_12 rfl ?_
  refine g_putfield dX4_blank_13 fX4_30 (by decide) rfl rfl rfl rfl rfl ?_
  refine g_iload_n dX4_blank_16 rfl ?_
  exact g_ireturn (ty := .int) dX4_blank_17 rfl rfl k
theorem sX4_fault_0 {post : Option Value → PH → Prop} {h : PH} (k : Ev 2 mX0_firstFault [.ref 1] h (fun r h' => G 3 mX4_fault post 7 [none] (r.toList ++ []) h')) : G 3 mX4_fault post 0 [some (.ref 0)] [] h := by
  refine g_aload_n dX4_fault_0 rfl ?_
  refine g_getfield (kd := 3) (v := .ref 1) dX4_fault_1 fX4_10 (by decide) rfl rfl rfl rfl ?_
  refine g_forget (mask := [false]) (L' := [none]) rfl ?_
  exact g_callV (n := 0) (b := 1) (as := []) (rest := []) dX4_fault_4 kX0_firstFault lX4_38 (by decide) rfl ⟨_, _, rfl⟩ rfl rfl (by simp only [List.map, Value.category]; decide) (by decide) k
theorem sX4_fault_7 {post : Option Value → PH → Prop} {h : PH} {s0 : Int32} (k : post (some (.int s0)) h) : G 3 mX4_fault post 7 [none] [.int s0] h := by
  exact g_ireturn (ty := .int) dX4_fault_7 rfl rfl k
theorem sX4_field_0 {post : Option Value → PH → Prop} {h : PH} (k : Ev 3 mX0_isField [.ref 1] h (fun r h' => G 4 mX4_field post 7 [some (.ref 0)] (r.toList ++ []) h')) : G 4 mX4_field post 0 [some (.ref 0)] [] h := by
  refine g_aload_n dX4_field_0 rfl ?_
  refine g_getfield (kd := 3) (v := .ref 1) dX4_field_1 fX4_10 (by decide) rfl rfl rfl rfl ?_
  exact g_callV (n := 0) (b := 1) (as := []) (rest := []) dX4_field_4 kX0_isField lX4_42 (by decide) rfl ⟨_, _, rfl⟩ rfl rfl (by simp only [List.map, Value.category]; decide) (by decide) k
theorem sX4_field_7 {post : Option Value → PH → Prop} {h : PH} {s0 : Int32} (k1 : ¬ s0 = 0 → G 4 mX4_field post 14 [some (.ref 0)] [] h) (k2 : s0 = 0 → G 4 mX4_field post 10 [none] [] h) : G 4 mX4_field post 7 [some (.ref 0)] [.int s0] h := by
  exact g_if_ne (tgt := 14) dX4_field_7 (by decide) (fun hc => k1 hc) (fun hc => by refine g_forget (mask := [false]) (L' := [none]) rfl ?_; exact k2 hc)
theorem sX4_field_14 {post : Option Value → PH → Prop} {h : PH} (k : Ev 2 mX3_read [.ref 2, .ref 1] h (fun r h' => G 4 mX4_field post 25 [some (.ref 0)] (r.toList ++ []) h')) : G 4 mX4_field post 14 [some (.ref 0)] [] h := by
  refine g_aload_n dX4_field_14 rfl ?_
  refine g_getfield (kd := 4) (v := .ref 2) dX4_field_15 fX4_19 (by decide) rfl rfl rfl rfl ?_
  refine g_aload_n dX4_field_18 rfl ?_
  refine g_getfield (kd := 3) (v := .ref 1) dX4_field_19 fX4_10 (by decide) rfl rfl rfl rfl ?_
  exact g_callV (n := 1) (b := 2) (as := [.ref 1]) (rest := []) dX4_field_22 kX3_read lX4_46 (by decide) rfl ⟨_, _, rfl⟩ rfl rfl (by simp only [List.map, Value.category]; decide) (by decide) k
theorem sX4_field_10 {post : Option Value → PH → Prop} {h : PH} (k : post (some (.int (-1004))) h) : G 4 mX4_field post 10 [none] [] h := by
  refine g_sipush (v := (-1004)) dX4_field_10 rfl ?_
  exact g_ireturn (ty := .int) dX4_field_13 rfl rfl k
theorem sX4_field_25 {post : Option Value → PH → Prop} {h : PH} (k : Ev 0 mX2_forget [.ref 3] ((upd2 h.1 1 1 0), h.2) (fun r h' => G 4 mX4_field post 40 [some (.ref 0)] (r.toList ++ []) h')) : G 4 mX4_field post 25 [some (.ref 0)] [] h := by
  refine g_aload_n dX4_field_25 rfl ?_
  refine g_getfield (kd := 3) (v := .ref 1) dX4_field_26 fX4_10 (by decide) rfl rfl rfl rfl ?_
  refine g_iconst (v := 0) dX4_field_29 rfl ?_
  refine g_putfield dX4_field_30 fX4_30 (by decide) rfl rfl rfl rfl rfl ?_
  refine g_aload_n dX4_field_33 rfl ?_
  refine g_getfield (kd := 5) (v := .ref 3) dX4_field_34 fX4_26 (by decide) rfl rfl rfl rfl ?_
  exact g_callV (n := 0) (b := 3) (as := []) (rest := []) dX4_field_37 kX2_forget lX4_50 (by decide) rfl ⟨_, _, rfl⟩ rfl rfl (by simp only [List.map, Value.category]; decide) (by decide) k
theorem sX4_field_40 {post : Option Value → PH → Prop} {h : PH} (k : post (some (.int (h.1 2 0))) ((upd2 h.1 0 3 ((h.1 0 3) + 1)), h.2)) : G 4 mX4_field post 40 [some (.ref 0)] [] h := by
  refine g_aload_n dX4_field_40 rfl ?_
  refine g_dup dX4_field_41 rfl ?_
  refine g_getfield (kd := 0) (v := .int (h.1 0 3)) dX4_field_42 fX4_53 (by decide) rfl rfl rfl rfl ?_
  refine g_iconst (v := 1) dX4_field_45 rfl ?_
  refine g_iadd dX4_field_46 ?_
  refine g_putfield dX4_field_47 fX4_53 (by decide) rfl rfl rfl rfl rfl ?_
  refine g_aload_n dX4_field_50 rfl ?_
  refine g_getfield (kd := 4) (v := .ref 2) dX4_field_51 fX4_19 (by decide) rfl rfl rfl rfl ?_
  refine g_getfield (kd := 0) (v := .int (h.1 2 0)) dX4_field_54 fX4_56 (by decide) rfl rfl rfl rfl ?_
  exact g_ireturn (ty := .int) dX4_field_57 rfl rfl k
theorem sX4_ceiling_0 {post : Option Value → PH → Prop} {h : PH} {x1 x2 : Int32} (k : Ev 0 mX3_hasPatch [.ref 2, .int x1] h (fun r h' => G 1 mX4_ceiling post 8 [some (.ref 0), some (.int x1), some (.int x2), none] (r.toList ++ []) h')) : G 1 mX4_ceiling post 0 [some (.ref 0), some (.int x1), some (.int x2), none] [] h := by
  refine g_aload_n dX4_ceiling_0 rfl ?_
  refine g_getfield (kd := 4) (v := .ref 2) dX4_ceiling_1 fX4_19 (by decide) rfl rfl rfl rfl ?_
  refine g_iload_n dX4_ceiling_4 rfl ?_
  exact g_callV (n := 1) (b := 2) (as := [.int x1]) (rest := []) dX4_ceiling_5 kX3_hasPatch lX4_59 (by decide) rfl ⟨_, _, rfl⟩ rfl rfl (by simp only [List.map, Value.category]; decide) (by decide) k
theorem sX4_ceiling_8 {post : Option Value → PH → Prop} {h : PH} {x1 x2 s0 : Int32} (k1 : ¬ s0 = 0 → G 1 mX4_ceiling post 15 [some (.ref 0), some (.int x1), some (.int x2), none] [] h) (k2 : s0 = 0 → G 1 mX4_ceiling post 11 [none, none, none, none] [] h) : G 1 mX4_ceiling post 8 [some (.ref 0), some (.int x1), some (.int x2), none] [.int s0] h := by
  exact g_if_ne (tgt := 15) dX4_ceiling_8 (by decide) (fun hc => k1 hc) (fun hc => by refine g_forget (mask := [false, false, false, true]) (L' := [none, none, none, none]) rfl ?_; exact k2 hc)
theorem sX4_ceiling_15 {post : Option Value → PH → Prop} {h : PH} {x1 x2 : Int32} (k1 : x2 < 0 → G 1 mX4_ceiling post 25 [none, none, none, none] [] h) (k2 : ¬ x2 < 0 → G 1 mX4_ceiling post 19 [some (.ref 0), some (.int x1), some (.int x2), none] [] h) : G 1 mX4_ceiling post 15 [some (.ref 0), some (.int x1), some (.int x2), none] [] h := by
  refine g_iload_n dX4_ceiling_15 rfl ?_
  exact g_if_lt (tgt := 25) dX4_ceiling_16 (by decide) (fun hc => by refine g_forget (mask := [false, false, false, true]) (L' := [none, none, none, none]) rfl ?_; exact k1 hc) (fun hc => k2 hc)
theorem sX4_ceiling_11 {post : Option Value → PH → Prop} {h : PH} (k : post (some (.int (-1002))) h) : G 1 mX4_ceiling post 11 [none, none, none, none] [] h := by
  refine g_sipush (v := (-1002)) dX4_ceiling_11 rfl ?_
  exact g_ireturn (ty := .int) dX4_ceiling_14 rfl rfl k
theorem sX4_ceiling_25 {post : Option Value → PH → Prop} {h : PH} (k : post (some (.int (-1003))) h) : G 1 mX4_ceiling post 25 [none, none, none, none] [] h := by
  refine g_sipush (v := (-1003)) dX4_ceiling_25 rfl ?_
  exact g_ireturn (ty := .int) dX4_ceiling_28 rfl rfl k
theorem sX4_ceiling_19 {post : Option Value → PH → Prop} {h : PH} {x1 x2 : Int32} (k1 : x2 ≤ 60 → G 1 mX4_ceiling post 29 [some (.ref 0), some (.int x1), some (.int x2), none] [] h) (k2 : ¬ x2 ≤ 60 → G 1 mX4_ceiling post 25 [none, none, none, none] [] h) : G 1 mX4_ceiling post 19 [some (.ref 0), some (.int x1), some (.int x2), none] [] h := by
  refine g_iload_n dX4_ceiling_19 rfl ?_
  refine g_bipush (v := 60) dX4_ceiling_20 rfl ?_
  exact g_icmp_le (tgt := 29) dX4_ceiling_22 (by decide) (fun hc => k1 hc) (fun hc => by refine g_forget (mask := [false, false, false, true]) (L' := [none, none, none, none]) rfl ?_; exact k2 hc)
theorem sX4_ceiling_29 {post : Option Value → PH → Prop} {h : PH} {x1 x2 : Int32} (hb1 : vp_in x1 4) (hb2 : vp_in x1 4) (k : Ev 0 mX3_measureSlack [.ref 2] ((upd2 h.1 11 (Int32.toNatClampNeg x1) x2), h.2) (fun r h' => G 1 mX4_ceiling post 56 [some (.ref 0), none, none, some (.int (h.1 11 (Int32.toNatClampNeg x1)))] (r.toList ++ []) h')) : G 1 mX4_ceiling post 29 [some (.ref 0), some (.int x1), some (.int x2), none] [] h := by
  refine g_aload_n dX4_ceiling_29 rfl ?_
  refine g_getfield (kd := 4) (v := .ref 2) dX4_ceiling_30 fX4_19 (by decide) rfl rfl rfl rfl ?_
  refine g_getfield (kd := 13) (v := .ref 11) dX4_ceiling_33 fX4_63 (by decide) rfl rfl rfl rfl ?_
  refine g_iload_n dX4_ceiling_36 rfl ?_
  refine g_iaload (n := 4) dX4_ceiling_37 (by decide) rfl rfl rfl hb1 ?_
  refine g_istore_n (L' := [some (.ref 0), some (.int x1), some (.int x2), some (.int (h.1 11 (Int32.toNatClampNeg x1)))]) dX4_ceiling_38 rfl (by decide) rfl ?_
  refine g_aload_n dX4_ceiling_39 rfl ?_
  refine g_getfield (kd := 4) (v := .ref 2) dX4_ceiling_40 fX4_19 (by decide) rfl rfl rfl rfl ?_
  refine g_getfield (kd := 13) (v := .ref 11) dX4_ceiling_43 fX4_63 (by decide) rfl rfl rfl rfl ?_
  refine g_iload_n dX4_ceiling_46 rfl ?_
  refine g_iload_n dX4_ceiling_47 rfl ?_
  refine g_iastore (n := 4) dX4_ceiling_48 (by decide) rfl rfl rfl hb2 ?_
  refine g_aload_n dX4_ceiling_49 rfl ?_
  refine g_getfield (kd := 4) (v := .ref 2) dX4_ceiling_50 fX4_19 (by decide) rfl rfl rfl rfl ?_
  refine g_forget (mask := [true, false, false, true]) (L' := [some (.ref 0), none, none, some (.int (h.1 11 (Int32.toNatClampNeg x1)))]) rfl ?_
  exact g_callV (n := 0) (b := 2) (as := []) (rest := []) dX4_ceiling_53 kX3_measureSlack lX4_67 (by decide) rfl ⟨_, _, rfl⟩ rfl rfl (by simp only [List.map, Value.category]; decide) (by decide) k
theorem sX4_ceiling_56 {post : Option Value → PH → Prop} {h : PH} {x3 : Int32} (k : Ev 0 mX2_forget [.ref 3] h (fun r h' => G 1 mX4_ceiling post 63 [none, none, none, some (.int x3)] (r.toList ++ []) h')) : G 1 mX4_ceiling post 56 [some (.ref 0), none, none, some (.int x3)] [] h := by
  refine g_aload_n dX4_ceiling_56 rfl ?_
  refine g_getfield (kd := 5) (v := .ref 3) dX4_ceiling_57 fX4_26 (by decide) rfl rfl rfl rfl ?_
  refine g_forget (mask := [false, true, true, true]) (L' := [none, none, none, some (.int x3)]) rfl ?_
  exact g_callV (n := 0) (b := 3) (as := []) (rest := []) dX4_ceiling_60 kX2_forget lX4_50 (by decide) rfl ⟨_, _, rfl⟩ rfl rfl (by simp only [List.map, Value.category]; decide) (by decide) k
theorem sX4_ceiling_63 {post : Option Value → PH → Prop} {h : PH} {x3 : Int32} (k : post (some (.int x3)) h) : G 1 mX4_ceiling post 63 [none, none, none, some (.int x3)] [] h := by
  refine g_iload_n dX4_ceiling_63 rfl ?_
  exact g_ireturn (ty := .int) dX4_ceiling_64 rfl rfl k
theorem sX4_shade_0 {post : Option Value → PH → Prop} {h : PH} {x1 : Int32} (k : Ev 0 mX3_isRead [.ref 2] h (fun r h' => G 1 mX4_shade post 7 [some (.ref 0), some (.int x1), none] (r.toList ++ []) h')) : G 1 mX4_shade post 0 [some (.ref 0), some (.int x1), none] [] h := by
  refine g_aload_n dX4_shade_0 rfl ?_
  refine g_getfield (kd := 4) (v := .ref 2) dX4_shade_1 fX4_19 (by decide) rfl rfl rfl rfl ?_
  exact g_callV (n := 0) (b := 2) (as := []) (rest := []) dX4_shade_4 kX3_isRead lX4_70 (by decide) rfl ⟨_, _, rfl⟩ rfl rfl (by simp only [List.map, Value.category]; decide) (by decide) k
theorem sX4_shade_7 {post : Option Value → PH → Prop} {h : PH} {x1 s0 : Int32} (k1 : ¬ s0 = 0 → G 1 mX4_shade post 14 [some (.ref 0), some (.int x1), none] [] h) (k2 : s0 = 0 → G 1 mX4_shade post 10 [none, none, none] [] h) : G 1 mX4_shade post 7 [some (.ref 0), some (.int x1), none] [.int s0] h := by
  exact g_if_ne (tgt := 14) dX4_shade_7 (by decide) (fun hc => k1 hc) (fun hc => by refine g_forget (mask := [false, false, true]) (L' := [none, none, none]) rfl ?_; exact k2 hc)
theorem sX4_shade_14 {post : Option Value → PH → Prop} {h : PH} {x1 : Int32} (k1 : x1 < 0 → G 1 mX4_shade post 31 [none, none, none] [] h) (k2 : ¬ x1 < 0 → G 1 mX4_shade post 18 [some (.ref 0), some (.int x1), none] [] h) : G 1 mX4_shade post 14 [some (.ref 0), some (.int x1), none] [] h := by
  refine g_iload_n dX4_shade_14 rfl ?_
  exact g_if_lt (tgt := 31) dX4_shade_15 (by decide) (fun hc => by refine g_forget (mask := [false, false, true]) (L' := [none, none, none]) rfl ?_; exact k1 hc) (fun hc => k2 hc)
theorem sX4_shade_10 {post : Option Value → PH → Prop} {h : PH} (k : post (some (.int (-1004))) h) : G 1 mX4_shade post 10 [none, none, none] [] h := by
  refine g_sipush (v := (-1004)) dX4_shade_10 rfl ?_
  exact g_ireturn (ty := .int) dX4_shade_13 rfl rfl k
theorem sX4_shade_31 {post : Option Value → PH → Prop} {h : PH} (k : post (some (.int (-1003))) h) : G 1 mX4_shade post 31 [none, none, none] [] h := by
  refine g_sipush (v := (-1003)) dX4_shade_31 rfl ?_
  exact g_ireturn (ty := .int) dX4_shade_34 rfl rfl k
theorem sX4_shade_18 {post : Option Value → PH → Prop} {h : PH} {x1 : Int32} (k1 : x1 < (1 <<< ((h.1 2 0) &&& 31)) → G 1 mX4_shade post 35 [some (.ref 0), some (.int x1), none] [] h) (k2 : ¬ x1 < (1 <<< ((h.1 2 0) &&& 31)) → G 1 mX4_shade post 31 [none, none, none] [] h) : G 1 mX4_shade post 18 [some (.ref 0), some (.int x1), none] [] h := by
  refine g_iload_n dX4_shade_18 rfl ?_
  refine g_iconst (v := 1) dX4_shade_19 rfl ?_
  refine g_aload_n dX4_shade_20 rfl ?_
  refine g_getfield (kd := 4) (v := .ref 2) dX4_shade_21 fX4_19 (by decide) rfl rfl rfl rfl ?_
  refine g_getfield (kd := 0) (v := .int (h.1 2 0)) dX4_shade_24 fX4_56 (by decide) rfl rfl rfl rfl ?_
  refine g_ishl dX4_shade_27 ?_
  exact g_icmp_lt (tgt := 35) dX4_shade_28 (by decide) (fun hc => k1 hc) (fun hc => by refine g_forget (mask := [false, false, true]) (L' := [none, none, none]) rfl ?_; exact k2 hc)
theorem sX4_shade_35 {post : Option Value → PH → Prop} {h : PH} {x1 : Int32} (k : Ev 0 mX2_forget [.ref 3] ((upd2 h.1 2 3 x1), h.2) (fun r h' => G 1 mX4_shade post 58 [none, none, some (.int (h.1 2 3))] (r.toList ++ []) h')) : G 1 mX4_shade post 35 [some (.ref 0), some (.int x1), none] [] h := by
  refine g_aload_n dX4_shade_35 rfl ?_
  refine g_getfield (kd := 4) (v := .ref 2) dX4_shade_36 fX4_19 (by decide) rfl rfl rfl rfl ?_
  refine g_getfield (kd := 0) (v := .int (h.1 2 3)) dX4_shade_39 fX4_73 (by decide) rfl rfl rfl rfl ?_
  refine g_istore_n (L' := [some (.ref 0), some (.int x1), some (.int (h.1 2 3))]) dX4_shade_42 rfl (by decide) rfl ?_
  refine g_aload_n dX4_shade_43 rfl ?_
  refine g_getfield (kd := 4) (v := .ref 2) dX4_shade_44 fX4_19 (by decide) rfl rfl rfl rfl ?_
  refine g_iload_n dX4_shade_47 rfl ?_
  refine g_putfield dX4_shade_48 fX4_73 (by decide) rfl rfl rfl rfl rfl ?_
  refine g_aload_n dX4_shade_51 rfl ?_
  refine g_getfield (kd := 5) (v := .ref 3) dX4_shade_52 fX4_26 (by decide) rfl rfl rfl rfl ?_
  refine g_forget (mask := [false, false, true]) (L' := [none, none, some (.int (h.1 2 3))]) rfl ?_
  exact g_callV (n := 0) (b := 3) (as := []) (rest := []) dX4_shade_55 kX2_forget lX4_50 (by decide) rfl ⟨_, _, rfl⟩ rfl rfl (by simp only [List.map, Value.category]; decide) (by decide) k
theorem sX4_shade_58 {post : Option Value → PH → Prop} {h : PH} {x2 : Int32} (k : post (some (.int x2)) h) : G 1 mX4_shade post 58 [none, none, some (.int x2)] [] h := by
  refine g_iload_n dX4_shade_58 rfl ?_
  exact g_ireturn (ty := .int) dX4_shade_59 rfl rfl k
theorem sX4_stuck_0 {post : Option Value → PH → Prop} {h : PH} {x1 x2 : Int32} (k : Ev 0 mX3_hasMirror [.ref 2, .int x1] h (fun r h' => G 1 mX4_stuck post 8 [some (.ref 0), some (.int x1), some (.int x2), none, none] (r.toList ++ []) h')) : G 1 mX4_stuck post 0 [some (.ref 0), some (.int x1), some (.int x2), none, none] [] h := by
  refine g_aload_n dX4_stuck_0 rfl ?_
  refine g_getfield (kd := 4) (v := .ref 2) dX4_stuck_1 fX4_19 (by decide) rfl rfl rfl rfl ?_
  refine g_iload_n dX4_stuck_4 rfl ?_
  exact g_callV (n := 1) (b := 2) (as := [.int x1]) (rest := []) dX4_stuck_5 kX3_hasMirror lX4_76 (by decide) rfl ⟨_, _, rfl⟩ rfl rfl (by simp only [List.map, Value.category]; decide) (by decide) k
theorem sX4_stuck_8 {post : Option Value → PH → Prop} {h : PH} {x1 x2 s0 : Int32} (k1 : ¬ s0 = 0 → G 1 mX4_stuck post 15 [some (.ref 0), some (.int x1), some (.int x2), none, none] [] h) (k2 : s0 = 0 → G 1 mX4_stuck post 11 [none, none, none, none, none] [] h) : G 1 mX4_stuck post 8 [some (.ref 0), some (.int x1), some (.int x2), none, none] [.int s0] h := by
  exact g_if_ne (tgt := 15) dX4_stuck_8 (by decide) (fun hc => k1 hc) (fun hc => by refine g_forget (mask := [false, false, false, true, true]) (L' := [none, none, none, none, none]) rfl ?_; exact k2 hc)
theorem sX4_stuck_15 {post : Option Value → PH → Prop} {h : PH} {x1 x2 : Int32} (k : Ev 0 mX4_bit [.int (h.1 2 4), .int x1] h (fun r h' => G 1 mX4_stuck post 26 [some (.ref 0), some (.int x1), some (.int x2), none, none] (r.toList ++ []) h')) : G 1 mX4_stuck post 15 [some (.ref 0), some (.int x1), some (.int x2), none, none] [] h := by
  refine g_aload_n dX4_stuck_15 rfl ?_
  refine g_getfield (kd := 4) (v := .ref 2) dX4_stuck_16 fX4_19 (by decide) rfl rfl rfl rfl ?_
  refine g_getfield (kd := 0) (v := .int (h.1 2 4)) dX4_stuck_19 fX4_79 (by decide) rfl rfl rfl rfl ?_
  refine g_iload_n dX4_stuck_22 rfl ?_
  exact g_callS (n := 2) (as := [.int (h.1 2 4), .int x1]) (rest := []) dX4_stuck_23 kX4_bit lX4_82 rfl rfl (by simp only [List.map, Value.category]; decide) (by decide) k
theorem sX4_stuck_11 {post : Option Value → PH → Prop} {h : PH} (k : post (some (.int (-1002))) h) : G 1 mX4_stuck post 11 [none, none, none, none, none] [] h := by
  refine g_sipush (v := (-1002)) dX4_stuck_11 rfl ?_
  exact g_ireturn (ty := .int) dX4_stuck_14 rfl rfl k
theorem sX4_stuck_26 {post : Option Value → PH → Prop} {h : PH} {x1 x2 s0 : Int32} (k1 : x2 = 0 → G 1 mX4_stuck post 59 [some (.ref 0), none, none, some (.int s0), some (.int ((h.1 2 4) &&& ((1 <<< (x1 &&& 31)) ^^^ (-1))))] [.ref 2] h) (k2 : ¬ x2 = 0 → G 1 mX4_stuck post 50 [some (.ref 0), some (.int x1), none, some (.int s0), some (.int ((h.1 2 4) &&& ((1 <<< (x1 &&& 31)) ^^^ (-1))))] [.ref 2] h) : G 1 mX4_stuck post 26 [some (.ref 0), some (.int x1), some (.int x2), none, none] [.int s0] h := by
  refine g_istore_n (L' := [some (.ref 0), some (.int x1), some (.int x2), some (.int s0), none]) dX4_stuck_26 rfl (by decide) rfl ?_
  refine g_aload_n dX4_stuck_27 rfl ?_
  refine g_getfield (kd := 4) (v := .ref 2) dX4_stuck_28 fX4_19 (by decide) rfl rfl rfl rfl ?_
  refine g_getfield (kd := 0) (v := .int (h.1 2 4)) dX4_stuck_31 fX4_79 (by decide) rfl rfl rfl rfl ?_
  refine g_iconst (v := 1) dX4_stuck_34 rfl ?_
  refine g_iload_n dX4_stuck_35 rfl ?_
  refine g_ishl dX4_stuck_36 ?_
  refine g_iconst (v := (-1)) dX4_stuck_37 rfl ?_
  refine g_ixor dX4_stuck_38 ?_
  refine g_iand dX4_stuck_39 ?_
  refine g_istore (L' := [some (.ref 0), some (.int x1), some (.int x2), some (.int s0), some (.int ((h.1 2 4) &&& ((1 <<< (x1 &&& 31)) ^^^ (-1))))]) dX4_stuck_40 rfl (by decide) rfl ?_
  refine g_aload_n dX4_stuck_42 rfl ?_
  refine g_getfield (kd := 4) (v := .ref 2) dX4_stuck_43 fX4_19 (by decide) rfl rfl rfl rfl ?_
  refine g_iload_n dX4_stuck_46 rfl ?_
  exact g_if_eq (tgt := 59) dX4_stuck_47 (by decide) (fun hc => by refine g_forget (mask := [true, false, false, true, true]) (L' := [some (.ref 0), none, none, some (.int s0), some (.int ((h.1 2 4) &&& ((1 <<< (x1 &&& 31)) ^^^ (-1))))]) rfl ?_; exact k1 hc) (fun hc => by refine g_forget (mask := [true, true, false, true, true]) (L' := [some (.ref 0), some (.int x1), none, some (.int s0), some (.int ((h.1 2 4) &&& ((1 <<< (x1 &&& 31)) ^^^ (-1))))]) rfl ?_; exact k2 hc)
theorem sX4_stuck_59 {post : Option Value → PH → Prop} {h : PH} {x3 x4 : Int32} (k : Ev 0 mX2_forget [.ref 3] ((upd2 h.1 2 4 x4), h.2) (fun r h' => G 1 mX4_stuck post 71 [none, none, none, some (.int x3), none] (r.toList ++ []) h')) : G 1 mX4_stuck post 59 [some (.ref 0), none, none, some (.int x3), some (.int x4)] [.ref 2] h := by
  refine g_iload dX4_stuck_59 rfl ?_
  refine g_putfield dX4_stuck_61 fX4_79 (by decide) rfl rfl rfl rfl rfl ?_
  refine g_aload_n dX4_stuck_64 rfl ?_
  refine g_getfield (kd := 5) (v := .ref 3) dX4_stuck_65 fX4_26 (by decide) rfl rfl rfl rfl ?_
  refine g_forget (mask := [false, true, true, true, false]) (L' := [none, none, none, some (.int x3), none]) rfl ?_
  exact g_callV (n := 0) (b := 3) (as := []) (rest := []) dX4_stuck_68 kX2_forget lX4_50 (by decide) rfl ⟨_, _, rfl⟩ rfl rfl (by simp only [List.map, Value.category]; decide) (by decide) k
theorem sX4_stuck_50 {post : Option Value → PH → Prop} {h : PH} {x1 x3 x4 : Int32} (k : Ev 0 mX2_forget [.ref 3] ((upd2 h.1 2 4 (x4 ||| (1 <<< (x1 &&& 31)))), h.2) (fun r h' => G 1 mX4_stuck post 71 [none, none, none, some (.int x3), none] (r.toList ++ []) h')) : G 1 mX4_stuck post 50 [some (.ref 0), some (.int x1), none, some (.int x3), some (.int x4)] [.ref 2] h := by
  refine g_iload dX4_stuck_50 rfl ?_
  refine g_iconst (v := 1) dX4_stuck_52 rfl ?_
  refine g_iload_n dX4_stuck_53 rfl ?_
  refine g_ishl dX4_stuck_54 ?_
  refine g_ior dX4_stuck_55 ?_
  refine g_goto (tgt := 61) dX4_stuck_56 (by decide) ?_
  refine g_putfield dX4_stuck_61 fX4_79 (by decide) rfl rfl rfl rfl rfl ?_
  refine g_aload_n dX4_stuck_64 rfl ?_
  refine g_getfield (kd := 5) (v := .ref 3) dX4_stuck_65 fX4_26 (by decide) rfl rfl rfl rfl ?_
  refine g_forget (mask := [false, false, true, true, false]) (L' := [none, none, none, some (.int x3), none]) rfl ?_
  exact g_callV (n := 0) (b := 3) (as := []) (rest := []) dX4_stuck_68 kX2_forget lX4_50 (by decide) rfl ⟨_, _, rfl⟩ rfl rfl (by simp only [List.map, Value.category]; decide) (by decide) k
theorem sX4_stuck_71 {post : Option Value → PH → Prop} {h : PH} {x3 : Int32} (k : post (some (.int x3)) h) : G 1 mX4_stuck post 71 [none, none, none, some (.int x3), none] [] h := by
  refine g_iload_n dX4_stuck_71 rfl ?_
  exact g_ireturn (ty := .int) dX4_stuck_72 rfl rfl k
theorem sX4_aim_0 {post : Option Value → PH → Prop} {h : PH} {x1 x2 : Int32} (k : Ev 0 mX3_hasMirror [.ref 2, .int x1] h (fun r h' => G 4 mX4_aim post 8 [some (.ref 0), some (.int x1), some (.int x2), none] (r.toList ++ []) h')) : G 4 mX4_aim post 0 [some (.ref 0), some (.int x1), some (.int x2), none] [] h := by
  refine g_aload_n dX4_aim_0 rfl ?_
  refine g_getfield (kd := 4) (v := .ref 2) dX4_aim_1 fX4_19 (by decide) rfl rfl rfl rfl ?_
  refine g_iload_n dX4_aim_4 rfl ?_
  exact g_callV (n := 1) (b := 2) (as := [.int x1]) (rest := []) dX4_aim_5 kX3_hasMirror lX4_76 (by decide) rfl ⟨_, _, rfl⟩ rfl rfl (by simp only [List.map, Value.category]; decide) (by decide) k
theorem sX4_aim_8 {post : Option Value → PH → Prop} {h : PH} {x1 x2 s0 : Int32} (k1 : ¬ s0 = 0 → G 4 mX4_aim post 15 [some (.ref 0), some (.int x1), some (.int x2), none] [] h) (k2 : s0 = 0 → G 4 mX4_aim post 11 [none, none, none, none] [] h) : G 4 mX4_aim post 8 [some (.ref 0), some (.int x1), some (.int x2), none] [.int s0] h := by
  exact g_if_ne (tgt := 15) dX4_aim_8 (by decide) (fun hc => k1 hc) (fun hc => by refine g_forget (mask := [false, false, false, true]) (L' := [none, none, none, none]) rfl ?_; exact k2 hc)
theorem sX4_aim_15 {post : Option Value → PH → Prop} {h : PH} {x1 x2 : Int32} (k1 : x2 = (-1) → G 4 mX4_aim post 35 [some (.ref 0), some (.int x1), some (.int x2), none] [] h) (k2 : ¬ x2 = (-1) → G 4 mX4_aim post 20 [some (.ref 0), some (.int x1), some (.int x2), none] [] h) : G 4 mX4_aim post 15 [some (.ref 0), some (.int x1), some (.int x2), none] [] h := by
  refine g_iload_n dX4_aim_15 rfl ?_
  refine g_iconst (v := (-1)) dX4_aim_16 rfl ?_
  exact g_icmp_eq (tgt := 35) dX4_aim_17 (by decide) (fun hc => k1 hc) (fun hc => k2 hc)
theorem sX4_aim_11 {post : Option Value → PH → Prop} {h : PH} (k : post (some (.int (-1002))) h) : G 4 mX4_aim post 11 [none, none, none, none] [] h := by
  refine g_sipush (v := (-1002)) dX4_aim_11 rfl ?_
  exact g_ireturn (ty := .int) dX4_aim_14 rfl rfl k
theorem sX4_aim_35 {post : Option Value → PH → Prop} {h : PH} {x1 x2 : Int32} (k : Ev 1 mX3_isStuck [.ref 2, .int x1] h (fun r h' => G 4 mX4_aim post 43 [some (.ref 0), some (.int x1), some (.int x2), none] (r.toList ++ []) h')) : G 4 mX4_aim post 35 [some (.ref 0), some (.int x1), some (.int x2), none] [] h := by
  refine g_aload_n dX4_aim_35 rfl ?_
  refine g_getfield (kd := 4) (v := .ref 2) dX4_aim_36 fX4_19 (by decide) rfl rfl rfl rfl ?_
  refine g_iload_n dX4_aim_39 rfl ?_
  exact g_callV (n := 1) (b := 2) (as := [.int x1]) (rest := []) dX4_aim_40 kX3_isStuck lX4_86 (by decide) rfl ⟨_, _, rfl⟩ rfl rfl (by simp only [List.map, Value.category]; decide) (by decide) k
theorem sX4_aim_20 {post : Option Value → PH → Prop} {h : PH} {x1 x2 : Int32} (k : Ev 0 mX3_hasPatch [.ref 2, .int x2] h (fun r h' => G 4 mX4_aim post 28 [some (.ref 0), some (.int x1), some (.int x2), none] (r.toList ++ []) h')) : G 4 mX4_aim post 20 [some (.ref 0), some (.int x1), some (.int x2), none] [] h := by
  refine g_aload_n dX4_aim_20 rfl ?_
  refine g_getfield (kd := 4) (v := .ref 2) dX4_aim_21 fX4_19 (by decide) rfl rfl rfl rfl ?_
  refine g_iload_n dX4_aim_24 rfl ?_
  exact g_callV (n := 1) (b := 2) (as := [.int x2]) (rest := []) dX4_aim_25 kX3_hasPatch lX4_59 (by decide) rfl ⟨_, _, rfl⟩ rfl rfl (by simp only [List.map, Value.category]; decide) (by decide) k
theorem sX4_aim_43 {post : Option Value → PH → Prop} {h : PH} {x1 x2 s0 : Int32} (k1 : s0 = 0 → G 4 mX4_aim post 50 [some (.ref 0), some (.int x1), some (.int x2), none] [] h) (k2 : ¬ s0 = 0 → G 4 mX4_aim post 46 [none, none, none, none] [] h) : G 4 mX4_aim post 43 [some (.ref 0), some (.int x1), some (.int x2), none] [.int s0] h := by
  exact g_if_eq (tgt := 50) dX4_aim_43 (by decide) (fun hc => k1 hc) (fun hc => by refine g_forget (mask := [false, false, false, true]) (L' := [none, none, none, none]) rfl ?_; exact k2 hc)
theorem sX4_aim_28 {post : Option Value → PH → Prop} {h : PH} {x1 x2 s0 : Int32} (k1 : ¬ s0 = 0 → G 4 mX4_aim post 35 [some (.ref 0), some (.int x1), some (.int x2), none] [] h) (k2 : s0 = 0 → G 4 mX4_aim post 31 [none, none, none, none] [] h) : G 4 mX4_aim post 28 [some (.ref 0), some (.int x1), some (.int x2), none] [.int s0] h := by
  exact g_if_ne (tgt := 35) dX4_aim_28 (by decide) (fun hc => k1 hc) (fun hc => by refine g_forget (mask := [false, false, false, true]) (L' := [none, none, none, none]) rfl ?_; exact k2 hc)
theorem sX4_aim_50 {post : Option Value → PH → Prop} {h : PH} {x1 x2 : Int32} (hb1 : vp_in x1 5) (hb2 : vp_in x1 5) (k1 : x2 = (-1) → G 4 mX4_aim post 106 [some (.ref 0), none, none, some (.int (h.1 9 (Int32.toNatClampNeg x1)))] [] ((upd2 h.1 9 (Int32.toNatClampNeg x1) x2), h.2)) (k2 : ¬ x2 = (-1) → G 4 mX4_aim post 75 [some (.ref 0), some (.int x1), none, some (.int (h.1 9 (Int32.toNatClampNeg x1)))] [] ((upd2 h.1 9 (Int32.toNatClampNeg x1) x2), h.2)) : G 4 mX4_aim post 50 [some (.ref 0), some (.int x1), some (.int x2), none] [] h := by
  refine g_aload_n dX4_aim_50 rfl ?_
  refine g_getfield (kd := 4) (v := .ref 2) dX4_aim_51 fX4_19 (by decide) rfl rfl rfl rfl ?_
  refine g_getfield (kd := 11) (v := .ref 9) dX4_aim_54 fX4_89 (by decide) rfl rfl rfl rfl ?_
  refine g_iload_n dX4_aim_57 rfl ?_
  refine g_iaload (n := 5) dX4_aim_58 (by decide) rfl rfl rfl hb1 ?_
  refine g_istore_n (L' := [some (.ref 0), some (.int x1), some (.int x2), some (.int (h.1 9 (Int32.toNatClampNeg x1)))]) dX4_aim_59 rfl (by decide) rfl ?_
  refine g_aload_n dX4_aim_60 rfl ?_
  refine g_getfield (kd := 4) (v := .ref 2) dX4_aim_61 fX4_19 (by decide) rfl rfl rfl rfl ?_
  refine g_getfield (kd := 11) (v := .ref 9) dX4_aim_64 fX4_89 (by decide) rfl rfl rfl rfl ?_
  refine g_iload_n dX4_aim_67 rfl ?_
  refine g_iload_n dX4_aim_68 rfl ?_
  refine g_iastore (n := 5) dX4_aim_69 (by decide) rfl rfl rfl hb2 ?_
  refine g_iload_n dX4_aim_70 rfl ?_
  refine g_iconst (v := (-1)) dX4_aim_71 rfl ?_
  exact g_icmp_eq (tgt := 106) dX4_aim_72 (by decide) (fun hc => by refine g_forget (mask := [true, false, false, true]) (L' := [some (.ref 0), none, none, some (.int (h.1 9 (Int32.toNatClampNeg x1)))]) rfl ?_; exact k1 hc) (fun hc => by refine g_forget (mask := [true, true, false, true]) (L' := [some (.ref 0), some (.int x1), none, some (.int (h.1 9 (Int32.toNatClampNeg x1)))]) rfl ?_; exact k2 hc)
theorem sX4_aim_46 {post : Option Value → PH → Prop} {h : PH} (k : post (some (.int (-1004))) h) : G 4 mX4_aim post 46 [none, none, none, none] [] h := by
  refine g_sipush (v := (-1004)) dX4_aim_46 rfl ?_
  exact g_ireturn (ty := .int) dX4_aim_49 rfl rfl k
theorem sX4_aim_31 {post : Option Value → PH → Prop} {h : PH} (k : post (some (.int (-1003))) h) : G 4 mX4_aim post 31 [none, none, none, none] [] h := by
  refine g_sipush (v := (-1003)) dX4_aim_31 rfl ?_
  exact g_ireturn (ty := .int) dX4_aim_34 rfl rfl k
theorem sX4_aim_106 {post : Option Value → PH → Prop} {h : PH} {x3 : Int32} (k : Ev 0 mX2_forget [.ref 3] h (fun r h' => G 4 mX4_aim post 113 [some (.ref 0), none, none, some (.int x3)] (r.toList ++ []) h')) : G 4 mX4_aim post 106 [some (.ref 0), none, none, some (.int x3)] [] h := by
  refine g_aload_n dX4_aim_106 rfl ?_
  refine g_getfield (kd := 5) (v := .ref 3) dX4_aim_107 fX4_26 (by decide) rfl rfl rfl rfl ?_
  exact g_callV (n := 0) (b := 3) (as := []) (rest := []) dX4_aim_110 kX2_forget lX4_50 (by decide) rfl ⟨_, _, rfl⟩ rfl rfl (by simp only [List.map, Value.category]; decide) (by decide) k
theorem sX4_aim_75 {post : Option Value → PH → Prop} {h : PH} {x1 x3 : Int32} (k : Ev 3 mX3_heats [.ref 2] h (fun r h' => G 4 mX4_aim post 86 [some (.ref 0), some (.int x1), none, some (.int x3)] (r.toList ++ [.ref 2]) h')) : G 4 mX4_aim post 75 [some (.ref 0), some (.int x1), none, some (.int x3)] [] h := by
  refine g_aload_n dX4_aim_75 rfl ?_
  refine g_getfield (kd := 4) (v := .ref 2) dX4_aim_76 fX4_19 (by decide) rfl rfl rfl rfl ?_
  refine g_aload_n dX4_aim_79 rfl ?_
  refine g_getfield (kd := 4) (v := .ref 2) dX4_aim_80 fX4_19 (by decide) rfl rfl rfl rfl ?_
  exact g_callV (n := 0) (b := 2) (as := []) (rest := [.ref 2]) dX4_aim_83 kX3_heats lX4_92 (by decide) rfl ⟨_, _, rfl⟩ rfl rfl (by simp only [List.map, Value.category]; decide) (by decide) k
theorem sX4_aim_113 {post : Option Value → PH → Prop} {h : PH} {x3 : Int32} (k : post (some (.int x3)) ((upd2 h.1 0 4 ((h.1 0 4) + 1)), h.2)) : G 4 mX4_aim post 113 [some (.ref 0), none, none, some (.int x3)] [] h := by
  refine g_aload_n dX4_aim_113 rfl ?_
  refine g_dup dX4_aim_114 rfl ?_
  refine g_getfield (kd := 0) (v := .int (h.1 0 4)) dX4_aim_115 fX4_98 (by decide) rfl rfl rfl rfl ?_
  refine g_iconst (v := 1) dX4_aim_118 rfl ?_
  refine g_iadd dX4_aim_119 ?_
  refine g_putfield dX4_aim_120 fX4_98 (by decide) rfl rfl rfl rfl rfl ?_
  refine g_iload_n dX4_aim_123 rfl ?_
  exact g_ireturn (ty := .int) dX4_aim_124 rfl rfl k
theorem sX4_aim_86 {post : Option Value → PH → Prop} {h : PH} {x1 x3 s0 : Int32} (k : Ev 0 mX3_isSafe [.ref 2, .int s0] h (fun r h' => G 4 mX4_aim post 89 [some (.ref 0), some (.int x1), none, some (.int x3)] (r.toList ++ []) h')) : G 4 mX4_aim post 86 [some (.ref 0), some (.int x1), none, some (.int x3)] [.int s0, .ref 2] h := by
  exact g_callV (n := 1) (b := 2) (as := [.int s0]) (rest := []) dX4_aim_86 kX3_isSafe lX4_95 (by decide) rfl ⟨_, _, rfl⟩ rfl rfl (by simp only [List.map, Value.category]; decide) (by decide) k
theorem sX4_aim_89 {post : Option Value → PH → Prop} {h : PH} {x1 x3 s0 : Int32} (k1 : ¬ s0 = 0 → G 4 mX4_aim post 106 [some (.ref 0), none, none, some (.int x3)] [] h) (k2 : s0 = 0 → G 4 mX4_aim post 92 [some (.ref 0), some (.int x1), none, some (.int x3)] [] h) : G 4 mX4_aim post 89 [some (.ref 0), some (.int x1), none, some (.int x3)] [.int s0] h := by
  exact g_if_ne (tgt := 106) dX4_aim_89 (by decide) (fun hc => by refine g_forget (mask := [true, false, true, true]) (L' := [some (.ref 0), none, none, some (.int x3)]) rfl ?_; exact k1 hc) (fun hc => k2 hc)
theorem sX4_aim_92 {post : Option Value → PH → Prop} {h : PH} {x1 x3 : Int32} (hb1 : vp_in x1 5) (k : post (some (.int (-1004))) ((upd2 h.1 9 (Int32.toNatClampNeg x1) x3), h.2)) : G 4 mX4_aim post 92 [some (.ref 0), some (.int x1), none, some (.int x3)] [] h := by
  refine g_aload_n dX4_aim_92 rfl ?_
  refine g_getfield (kd := 4) (v := .ref 2) dX4_aim_93 fX4_19 (by decide) rfl rfl rfl rfl ?_
  refine g_getfield (kd := 11) (v := .ref 9) dX4_aim_96 fX4_89 (by decide) rfl rfl rfl rfl ?_
  refine g_iload_n dX4_aim_99 rfl ?_
  refine g_iload_n dX4_aim_100 rfl ?_
  refine g_iastore (n := 5) dX4_aim_101 (by decide) rfl rfl rfl hb1 ?_
  refine g_sipush (v := (-1004)) dX4_aim_102 rfl ?_
  exact g_ireturn (ty := .int) dX4_aim_105 rfl rfl k
theorem sX4_mirror_0 {post : Option Value → PH → Prop} {h : PH} {x1 x2 : Int32} (k : Ev 0 mX3_hasMirror [.ref 2, .int x1] h (fun r h' => G 2 mX4_mirror post 8 [some (.ref 0), some (.int x1), some (.int x2)] (r.toList ++ []) h')) : G 2 mX4_mirror post 0 [some (.ref 0), some (.int x1), some (.int x2)] [] h := by
  refine g_aload_n dX4_mirror_0 rfl ?_
  refine g_getfield (kd := 4) (v := .ref 2) dX4_mirror_1 fX4_19 (by decide) rfl rfl rfl rfl ?_
  refine g_iload_n dX4_mirror_4 rfl ?_
  exact g_callV (n := 1) (b := 2) (as := [.int x1]) (rest := []) dX4_mirror_5 kX3_hasMirror lX4_76 (by decide) rfl ⟨_, _, rfl⟩ rfl rfl (by simp only [List.map, Value.category]; decide) (by decide) k
theorem sX4_mirror_8 {post : Option Value → PH → Prop} {h : PH} {x1 x2 s0 : Int32} (k1 : ¬ s0 = 0 → G 2 mX4_mirror post 15 [some (.ref 0), some (.int x1), some (.int x2)] [] h) (k2 : s0 = 0 → G 2 mX4_mirror post 11 [none, none, none] [] h) : G 2 mX4_mirror post 8 [some (.ref 0), some (.int x1), some (.int x2)] [.int s0] h := by
  exact g_if_ne (tgt := 15) dX4_mirror_8 (by decide) (fun hc => k1 hc) (fun hc => by refine g_forget (mask := [false, false, false]) (L' := [none, none, none]) rfl ?_; exact k2 hc)
theorem sX4_mirror_15 {post : Option Value → PH → Prop} {h : PH} {x1 x2 : Int32} (kd : (Int32.toInt x2) < 0 ∨ 5 < (Int32.toInt x2) → G 2 mX4_mirror post 146 [none, none, none] [] h) (k0 : (Int32.toInt x2) = 0 → G 2 mX4_mirror post 56 [some (.ref 0), some (.int x1), none] [] h) (k1 : (Int32.toInt x2) = 1 → G 2 mX4_mirror post 66 [some (.ref 0), some (.int x1), none] [] h) (k2 : (Int32.toInt x2) = 2 → G 2 mX4_mirror post 76 [some (.ref 0), some (.int x1), none] [] h) (k3 : (Int32.toInt x2) = 3 → G 2 mX4_mirror post 86 [some (.ref 0), some (.int x1), none] [] h) (k4 : (Int32.toInt x2) = 4 → G 2 mX4_mirror post 98 [some (.ref 0), some (.int x1), none] [] h) (k5 : (Int32.toInt x2) = 5 → G 2 mX4_mirror post 110 [some (.ref 0), some (.int x1), none] [] h) : G 2 mX4_mirror post 15 [some (.ref 0), some (.int x1), some (.int x2)] [] h := by
  refine g_iload_n dX4_mirror_15 rfl ?_
  by_cases hc : (Int32.toInt x2) < 0 ∨ 5 < (Int32.toInt x2)
  · exact g_tableOut (tgt := 146) dX4_mirror_16 hc (by decide) (by refine g_forget (mask := [false, false, false]) (L' := [none, none, none]) rfl ?_; exact kd hc)
  rcases (show (Int32.toInt x2) = 0 ∨ (Int32.toInt x2) = 1 ∨ (Int32.toInt x2) = 2 ∨ (Int32.toInt x2) = 3 ∨ (Int32.toInt x2) = 4 ∨ (Int32.toInt x2) = 5 by omega) with hv | hv | hv | hv | hv | hv
  · exact g_tableIn (tgt := 56) dX4_mirror_16 (by omega) (by omega) (by rw [hv]; rfl) (by decide) (by refine g_forget (mask := [true, true, false]) (L' := [some (.ref 0), some (.int x1), none]) rfl ?_; exact k0 hv)
  · exact g_tableIn (tgt := 66) dX4_mirror_16 (by omega) (by omega) (by rw [hv]; rfl) (by decide) (by refine g_forget (mask := [true, true, false]) (L' := [some (.ref 0), some (.int x1), none]) rfl ?_; exact k1 hv)
  · exact g_tableIn (tgt := 76) dX4_mirror_16 (by omega) (by omega) (by rw [hv]; rfl) (by decide) (by refine g_forget (mask := [true, true, false]) (L' := [some (.ref 0), some (.int x1), none]) rfl ?_; exact k2 hv)
  · exact g_tableIn (tgt := 86) dX4_mirror_16 (by omega) (by omega) (by rw [hv]; rfl) (by decide) (by refine g_forget (mask := [true, true, false]) (L' := [some (.ref 0), some (.int x1), none]) rfl ?_; exact k3 hv)
  · exact g_tableIn (tgt := 98) dX4_mirror_16 (by omega) (by omega) (by rw [hv]; rfl) (by decide) (by refine g_forget (mask := [true, true, false]) (L' := [some (.ref 0), some (.int x1), none]) rfl ?_; exact k4 hv)
  · exact g_tableIn (tgt := 110) dX4_mirror_16 (by omega) (by omega) (by rw [hv]; rfl) (by decide) (by refine g_forget (mask := [true, true, false]) (L' := [some (.ref 0), some (.int x1), none]) rfl ?_; exact k5 hv)
theorem sX4_mirror_11 {post : Option Value → PH → Prop} {h : PH} (k : post (some (.int (-1002))) h) : G 2 mX4_mirror post 11 [none, none, none] [] h := by
  refine g_sipush (v := (-1002)) dX4_mirror_11 rfl ?_
  exact g_ireturn (ty := .int) dX4_mirror_14 rfl rfl k
theorem sX4_mirror_146 {post : Option Value → PH → Prop} {h : PH} (k : post (some (.int (-1003))) h) : G 2 mX4_mirror post 146 [none, none, none] [] h := by
  refine g_sipush (v := (-1003)) dX4_mirror_146 rfl ?_
  exact g_ireturn (ty := .int) dX4_mirror_149 rfl rfl k
theorem sX4_mirror_56 {post : Option Value → PH → Prop} {h : PH} {x1 : Int32} (hb1 : vp_in x1 5) (k : post (some (.int (h.1 7 (Int32.toNatClampNeg x1)))) h) : G 2 mX4_mirror post 56 [some (.ref 0), some (.int x1), none] [] h := by
  refine g_aload_n dX4_mirror_56 rfl ?_
  refine g_getfield (kd := 4) (v := .ref 2) dX4_mirror_57 fX4_19 (by decide) rfl rfl rfl rfl ?_
  refine g_getfield (kd := 9) (v := .ref 7) dX4_mirror_60 fX4_101 (by decide) rfl rfl rfl rfl ?_
  refine g_iload_n dX4_mirror_63 rfl ?_
  refine g_iaload (n := 5) dX4_mirror_64 (by decide) rfl rfl rfl hb1 ?_
  exact g_ireturn (ty := .int) dX4_mirror_65 rfl rfl k
theorem sX4_mirror_66 {post : Option Value → PH → Prop} {h : PH} {x1 : Int32} (hb1 : vp_in x1 5) (k : post (some (.int (h.1 8 (Int32.toNatClampNeg x1)))) h) : G 2 mX4_mirror post 66 [some (.ref 0), some (.int x1), none] [] h := by
  refine g_aload_n dX4_mirror_66 rfl ?_
  refine g_getfield (kd := 4) (v := .ref 2) dX4_mirror_67 fX4_19 (by decide) rfl rfl rfl rfl ?_
  refine g_getfield (kd := 10) (v := .ref 8) dX4_mirror_70 fX4_104 (by decide) rfl rfl rfl rfl ?_
  refine g_iload_n dX4_mirror_73 rfl ?_
  refine g_iaload (n := 5) dX4_mirror_74 (by decide) rfl rfl rfl hb1 ?_
  exact g_ireturn (ty := .int) dX4_mirror_75 rfl rfl k
theorem sX4_mirror_76 {post : Option Value → PH → Prop} {h : PH} {x1 : Int32} (hb1 : vp_in x1 5) (k : post (some (.int (h.1 9 (Int32.toNatClampNeg x1)))) h) : G 2 mX4_mirror post 76 [some (.ref 0), some (.int x1), none] [] h := by
  refine g_aload_n dX4_mirror_76 rfl ?_
  refine g_getfield (kd := 4) (v := .ref 2) dX4_mirror_77 fX4_19 (by decide) rfl rfl rfl rfl ?_
  refine g_getfield (kd := 11) (v := .ref 9) dX4_mirror_80 fX4_89 (by decide) rfl rfl rfl rfl ?_
  refine g_iload_n dX4_mirror_83 rfl ?_
  refine g_iaload (n := 5) dX4_mirror_84 (by decide) rfl rfl rfl hb1 ?_
  exact g_ireturn (ty := .int) dX4_mirror_85 rfl rfl k
theorem sX4_mirror_86 {post : Option Value → PH → Prop} {h : PH} {x1 : Int32} (k : Ev 0 mX4_bit [.int (h.1 2 3), .int x1] h (fun r h' => G 2 mX4_mirror post 97 [none, none, none] (r.toList ++ []) h')) : G 2 mX4_mirror post 86 [some (.ref 0), some (.int x1), none] [] h := by
  refine g_aload_n dX4_mirror_86 rfl ?_
  refine g_getfield (kd := 4) (v := .ref 2) dX4_mirror_87 fX4_19 (by decide) rfl rfl rfl rfl ?_
  refine g_getfield (kd := 0) (v := .int (h.1 2 3)) dX4_mirror_90 fX4_73 (by decide) rfl rfl rfl rfl ?_
  refine g_iload_n dX4_mirror_93 rfl ?_
  refine g_forget (mask := [false, false, true]) (L' := [none, none, none]) rfl ?_
  exact g_callS (n := 2) (as := [.int (h.1 2 3), .int x1]) (rest := []) dX4_mirror_94 kX4_bit lX4_82 rfl rfl (by simp only [List.map, Value.category]; decide) (by decide) k
theorem sX4_mirror_98 {post : Option Value → PH → Prop} {h : PH} {x1 : Int32} (k : Ev 0 mX4_bit [.int (h.1 2 4), .int x1] h (fun r h' => G 2 mX4_mirror post 109 [none, none, none] (r.toList ++ []) h')) : G 2 mX4_mirror post 98 [some (.ref 0), some (.int x1), none] [] h := by
  refine g_aload_n dX4_mirror_98 rfl ?_
  refine g_getfield (kd := 4) (v := .ref 2) dX4_mirror_99 fX4_19 (by decide) rfl rfl rfl rfl ?_
  refine g_getfield (kd := 0) (v := .int (h.1 2 4)) dX4_mirror_102 fX4_79 (by decide) rfl rfl rfl rfl ?_
  refine g_iload_n dX4_mirror_105 rfl ?_
  refine g_forget (mask := [false, false, true]) (L' := [none, none, none]) rfl ?_
  exact g_callS (n := 2) (as := [.int (h.1 2 4), .int x1]) (rest := []) dX4_mirror_106 kX4_bit lX4_82 rfl rfl (by simp only [List.map, Value.category]; decide) (by decide) k
theorem sX4_mirror_110 {post : Option Value → PH → Prop} {h : PH} {x1 : Int32} (k : Ev 1 mX3_isShaded [.ref 2, .int x1] h (fun r h' => G 2 mX4_mirror post 118 [some (.ref 0), some (.int x1), none] (r.toList ++ []) h')) : G 2 mX4_mirror post 110 [some (.ref 0), some (.int x1), none] [] h := by
  refine g_aload_n dX4_mirror_110 rfl ?_
  refine g_getfield (kd := 4) (v := .ref 2) dX4_mirror_111 fX4_19 (by decide) rfl rfl rfl rfl ?_
  refine g_iload_n dX4_mirror_114 rfl ?_
  exact g_callV (n := 1) (b := 2) (as := [.int x1]) (rest := []) dX4_mirror_115 kX3_isShaded lX4_107 (by decide) rfl ⟨_, _, rfl⟩ rfl rfl (by simp only [List.map, Value.category]; decide) (by decide) k
theorem sX4_mirror_97 {post : Option Value → PH → Prop} {h : PH} {s0 : Int32} (k : post (some (.int s0)) h) : G 2 mX4_mirror post 97 [none, none, none] [.int s0] h := by
  exact g_ireturn (ty := .int) dX4_mirror_97 rfl rfl k
theorem sX4_mirror_109 {post : Option Value → PH → Prop} {h : PH} {s0 : Int32} (k : post (some (.int s0)) h) : G 2 mX4_mirror post 109 [none, none, none] [.int s0] h := by
  exact g_ireturn (ty := .int) dX4_mirror_109 rfl rfl k
theorem sX4_mirror_118 {post : Option Value → PH → Prop} {h : PH} {x1 s0 : Int32} (k1 : s0 = 0 → G 2 mX4_mirror post 125 [some (.ref 0), some (.int x1), none] [] h) (k2 : ¬ s0 = 0 → G 2 mX4_mirror post 121 [none, none, none] [] h) : G 2 mX4_mirror post 118 [some (.ref 0), some (.int x1), none] [.int s0] h := by
  exact g_if_eq (tgt := 125) dX4_mirror_118 (by decide) (fun hc => k1 hc) (fun hc => by refine g_forget (mask := [false, false, true]) (L' := [none, none, none]) rfl ?_; exact k2 hc)
theorem sX4_mirror_125 {post : Option Value → PH → Prop} {h : PH} {x1 : Int32} (hb1 : vp_in x1 5) (k : Ev 1 mX3_light [.ref 2, .int x1, .int (h.1 9 (Int32.toNatClampNeg x1))] h (fun r h' => G 2 mX4_mirror post 142 [none, none, none] (r.toList ++ []) h')) : G 2 mX4_mirror post 125 [some (.ref 0), some (.int x1), none] [] h := by
  refine g_aload_n dX4_mirror_125 rfl ?_
  refine g_getfield (kd := 4) (v := .ref 2) dX4_mirror_126 fX4_19 (by decide) rfl rfl rfl rfl ?_
  refine g_iload_n dX4_mirror_129 rfl ?_
  refine g_aload_n dX4_mirror_130 rfl ?_
  refine g_getfield (kd := 4) (v := .ref 2) dX4_mirror_131 fX4_19 (by decide) rfl rfl rfl rfl ?_
  refine g_getfield (kd := 11) (v := .ref 9) dX4_mirror_134 fX4_89 (by decide) rfl rfl rfl rfl ?_
  refine g_iload_n dX4_mirror_137 rfl ?_
  refine g_iaload (n := 5) dX4_mirror_138 (by decide) rfl rfl rfl hb1 ?_
  refine g_forget (mask := [false, false, true]) (L' := [none, none, none]) rfl ?_
  exact g_callV (n := 2) (b := 2) (as := [.int x1, .int (h.1 9 (Int32.toNatClampNeg x1))]) (rest := []) dX4_mirror_139 kX3_light lX4_110 (by decide) rfl ⟨_, _, rfl⟩ rfl rfl (by simp only [List.map, Value.category]; decide) (by decide) k
theorem sX4_mirror_121 {post : Option Value → PH → Prop} {h : PH} (k : post (some (.int 0)) h) : G 2 mX4_mirror post 121 [none, none, none] [] h := by
  refine g_iconst (v := 0) dX4_mirror_121 rfl ?_
  refine g_goto (tgt := 145) dX4_mirror_122 (by decide) ?_
  exact g_ireturn (ty := .int) dX4_mirror_145 rfl rfl k
theorem sX4_mirror_142 {post : Option Value → PH → Prop} {h : PH} {s0 : Int32} (k : Ev 1 mX4_sum [.int s0] h (fun r h' => G 2 mX4_mirror post 145 [none, none, none] (r.toList ++ []) h')) : G 2 mX4_mirror post 142 [none, none, none] [.int s0] h := by
  exact g_callS (n := 1) (as := [.int s0]) (rest := []) dX4_mirror_142 kX4_sum lX4_113 rfl rfl (by simp only [List.map, Value.category]; decide) (by decide) k
theorem sX4_mirror_145 {post : Option Value → PH → Prop} {h : PH} {s0 : Int32} (k : post (some (.int s0)) h) : G 2 mX4_mirror post 145 [none, none, none] [.int s0] h := by
  exact g_ireturn (ty := .int) dX4_mirror_145 rfl rfl k
theorem sX4_patch_0 {post : Option Value → PH → Prop} {h : PH} {x1 x2 : Int32} (k : Ev 0 mX3_hasPatch [.ref 2, .int x1] h (fun r h' => G 4 mX4_patch post 8 [some (.ref 0), some (.int x1), some (.int x2)] (r.toList ++ []) h')) : G 4 mX4_patch post 0 [some (.ref 0), some (.int x1), some (.int x2)] [] h := by
  refine g_aload_n dX4_patch_0 rfl ?_
  refine g_getfield (kd := 4) (v := .ref 2) dX4_patch_1 fX4_19 (by decide) rfl rfl rfl rfl ?_
  refine g_iload_n dX4_patch_4 rfl ?_
  exact g_callV (n := 1) (b := 2) (as := [.int x1]) (rest := []) dX4_patch_5 kX3_hasPatch lX4_59 (by decide) rfl ⟨_, _, rfl⟩ rfl rfl (by simp only [List.map, Value.category]; decide) (by decide) k
theorem sX4_patch_8 {post : Option Value → PH → Prop} {h : PH} {x1 x2 s0 : Int32} (k1 : ¬ s0 = 0 → G 4 mX4_patch post 15 [some (.ref 0), some (.int x1), some (.int x2)] [] h) (k2 : s0 = 0 → G 4 mX4_patch post 11 [none, none, none] [] h) : G 4 mX4_patch post 8 [some (.ref 0), some (.int x1), some (.int x2)] [.int s0] h := by
  exact g_if_ne (tgt := 15) dX4_patch_8 (by decide) (fun hc => k1 hc) (fun hc => by refine g_forget (mask := [false, false, false]) (L' := [none, none, none]) rfl ?_; exact k2 hc)
theorem sX4_patch_15 {post : Option Value → PH → Prop} {h : PH} {x1 x2 : Int32} (kd : (Int32.toInt x2) < 0 ∨ 3 < (Int32.toInt x2) → G 4 mX4_patch post 92 [none, none, none] [] h) (k0 : (Int32.toInt x2) = 0 → G 4 mX4_patch post 48 [some (.ref 0), some (.int x1), none] [] h) (k1 : (Int32.toInt x2) = 1 → G 4 mX4_patch post 60 [some (.ref 0), some (.int x1), none] [] h) (k2 : (Int32.toInt x2) = 2 → G 4 mX4_patch post 70 [some (.ref 0), some (.int x1), none] [] h) (k3 : (Int32.toInt x2) = 3 → G 4 mX4_patch post 83 [some (.ref 0), some (.int x1), none] [] h) : G 4 mX4_patch post 15 [some (.ref 0), some (.int x1), some (.int x2)] [] h := by
  refine g_iload_n dX4_patch_15 rfl ?_
  by_cases hc : (Int32.toInt x2) < 0 ∨ 3 < (Int32.toInt x2)
  · exact g_tableOut (tgt := 92) dX4_patch_16 hc (by decide) (by refine g_forget (mask := [false, false, false]) (L' := [none, none, none]) rfl ?_; exact kd hc)
  rcases (show (Int32.toInt x2) = 0 ∨ (Int32.toInt x2) = 1 ∨ (Int32.toInt x2) = 2 ∨ (Int32.toInt x2) = 3 by omega) with hv | hv | hv | hv
  · exact g_tableIn (tgt := 48) dX4_patch_16 (by omega) (by omega) (by rw [hv]; rfl) (by decide) (by refine g_forget (mask := [true, true, false]) (L' := [some (.ref 0), some (.int x1), none]) rfl ?_; exact k0 hv)
  · exact g_tableIn (tgt := 60) dX4_patch_16 (by omega) (by omega) (by rw [hv]; rfl) (by decide) (by refine g_forget (mask := [true, true, false]) (L' := [some (.ref 0), some (.int x1), none]) rfl ?_; exact k1 hv)
  · exact g_tableIn (tgt := 70) dX4_patch_16 (by omega) (by omega) (by rw [hv]; rfl) (by decide) (by refine g_forget (mask := [true, true, false]) (L' := [some (.ref 0), some (.int x1), none]) rfl ?_; exact k2 hv)
  · exact g_tableIn (tgt := 83) dX4_patch_16 (by omega) (by omega) (by rw [hv]; rfl) (by decide) (by refine g_forget (mask := [true, true, false]) (L' := [some (.ref 0), some (.int x1), none]) rfl ?_; exact k3 hv)
theorem sX4_patch_11 {post : Option Value → PH → Prop} {h : PH} (k : post (some (.int (-1002))) h) : G 4 mX4_patch post 11 [none, none, none] [] h := by
  refine g_sipush (v := (-1002)) dX4_patch_11 rfl ?_
  exact g_ireturn (ty := .int) dX4_patch_14 rfl rfl k
theorem sX4_patch_92 {post : Option Value → PH → Prop} {h : PH} (k : post (some (.int (-1003))) h) : G 4 mX4_patch post 92 [none, none, none] [] h := by
  refine g_sipush (v := (-1003)) dX4_patch_92 rfl ?_
  exact g_ireturn (ty := .int) dX4_patch_95 rfl rfl k
theorem sX4_patch_48 {post : Option Value → PH → Prop} {h : PH} {x1 : Int32} (k : Ev 3 mX3_heats [.ref 2] h (fun r h' => G 4 mX4_patch post 55 [none, some (.int x1), none] (r.toList ++ []) h')) : G 4 mX4_patch post 48 [some (.ref 0), some (.int x1), none] [] h := by
  refine g_aload_n dX4_patch_48 rfl ?_
  refine g_getfield (kd := 4) (v := .ref 2) dX4_patch_49 fX4_19 (by decide) rfl rfl rfl rfl ?_
  refine g_forget (mask := [false, true, true]) (L' := [none, some (.int x1), none]) rfl ?_
  exact g_callV (n := 0) (b := 2) (as := []) (rest := []) dX4_patch_52 kX3_heats lX4_92 (by decide) rfl ⟨_, _, rfl⟩ rfl rfl (by simp only [List.map, Value.category]; decide) (by decide) k
theorem sX4_patch_60 {post : Option Value → PH → Prop} {h : PH} {x1 : Int32} (hb1 : vp_in x1 4) (k : post (some (.int (h.1 11 (Int32.toNatClampNeg x1)))) h) : G 4 mX4_patch post 60 [some (.ref 0), some (.int x1), none] [] h := by
  refine g_aload_n dX4_patch_60 rfl ?_
  refine g_getfield (kd := 4) (v := .ref 2) dX4_patch_61 fX4_19 (by decide) rfl rfl rfl rfl ?_
  refine g_getfield (kd := 13) (v := .ref 11) dX4_patch_64 fX4_63 (by decide) rfl rfl rfl rfl ?_
  refine g_iload_n dX4_patch_67 rfl ?_
  refine g_iaload (n := 4) dX4_patch_68 (by decide) rfl rfl rfl hb1 ?_
  exact g_ireturn (ty := .int) dX4_patch_69 rfl rfl k
theorem sX4_patch_70 {post : Option Value → PH → Prop} {h : PH} {x1 : Int32} (k : Ev 2 mX3_heatsWithout [.ref 2, .int 0] h (fun r h' => G 4 mX4_patch post 78 [none, some (.int x1), none] (r.toList ++ []) h')) : G 4 mX4_patch post 70 [some (.ref 0), some (.int x1), none] [] h := by
  refine g_aload_n dX4_patch_70 rfl ?_
  refine g_getfield (kd := 4) (v := .ref 2) dX4_patch_71 fX4_19 (by decide) rfl rfl rfl rfl ?_
  refine g_iconst (v := 0) dX4_patch_74 rfl ?_
  refine g_forget (mask := [false, true, true]) (L' := [none, some (.int x1), none]) rfl ?_
  exact g_callV (n := 1) (b := 2) (as := [.int 0]) (rest := []) dX4_patch_75 kX3_heatsWithout lX4_120 (by decide) rfl ⟨_, _, rfl⟩ rfl rfl (by simp only [List.map, Value.category]; decide) (by decide) k
theorem sX4_patch_83 {post : Option Value → PH → Prop} {h : PH} {x1 : Int32} (k : Ev 0 mX3_aimingAt [.ref 2, .int x1] h (fun r h' => G 4 mX4_patch post 91 [none, none, none] (r.toList ++ []) h')) : G 4 mX4_patch post 83 [some (.ref 0), some (.int x1), none] [] h := by
  refine g_aload_n dX4_patch_83 rfl ?_
  refine g_getfield (kd := 4) (v := .ref 2) dX4_patch_84 fX4_19 (by decide) rfl rfl rfl rfl ?_
  refine g_iload_n dX4_patch_87 rfl ?_
  refine g_forget (mask := [false, false, true]) (L' := [none, none, none]) rfl ?_
  exact g_callV (n := 1) (b := 2) (as := [.int x1]) (rest := []) dX4_patch_88 kX3_aimingAt lX4_123 (by decide) rfl ⟨_, _, rfl⟩ rfl rfl (by simp only [List.map, Value.category]; decide) (by decide) k
theorem sX4_patch_55 {post : Option Value → PH → Prop} {h : PH} {x1 s0 : Int32} (k : Ev 0 mX4_heatOf [.int s0, .int x1] h (fun r h' => G 4 mX4_patch post 59 [none, none, none] (r.toList ++ []) h')) : G 4 mX4_patch post 55 [none, some (.int x1), none] [.int s0] h := by
  refine g_iload_n dX4_patch_55 rfl ?_
  refine g_forget (mask := [true, false, true]) (L' := [none, none, none]) rfl ?_
  exact g_callS (n := 2) (as := [.int s0, .int x1]) (rest := []) dX4_patch_56 kX4_heatOf lX4_117 rfl rfl (by simp only [List.map, Value.category]; decide) (by decide) k
theorem sX4_patch_78 {post : Option Value → PH → Prop} {h : PH} {x1 s0 : Int32} (k : Ev 0 mX4_heatOf [.int s0, .int x1] h (fun r h' => G 4 mX4_patch post 82 [none, none, none] (r.toList ++ []) h')) : G 4 mX4_patch post 78 [none, some (.int x1), none] [.int s0] h := by
  refine g_iload_n dX4_patch_78 rfl ?_
  refine g_forget (mask := [true, false, true]) (L' := [none, none, none]) rfl ?_
  exact g_callS (n := 2) (as := [.int s0, .int x1]) (rest := []) dX4_patch_79 kX4_heatOf lX4_117 rfl rfl (by simp only [List.map, Value.category]; decide) (by decide) k
theorem sX4_patch_91 {post : Option Value → PH → Prop} {h : PH} {s0 : Int32} (k : post (some (.int s0)) h) : G 4 mX4_patch post 91 [none, none, none] [.int s0] h := by
  exact g_ireturn (ty := .int) dX4_patch_91 rfl rfl k
theorem sX4_patch_59 {post : Option Value → PH → Prop} {h : PH} {s0 : Int32} (k : post (some (.int s0)) h) : G 4 mX4_patch post 59 [none, none, none] [.int s0] h := by
  exact g_ireturn (ty := .int) dX4_patch_59 rfl rfl k
theorem sX4_patch_82 {post : Option Value → PH → Prop} {h : PH} {s0 : Int32} (k : post (some (.int s0)) h) : G 4 mX4_patch post 82 [none, none, none] [.int s0] h := by
  exact g_ireturn (ty := .int) dX4_patch_82 rfl rfl k
theorem sX4_best_0 {post : Option Value → PH → Prop} {h : PH} {x1 x2 : Int32} (k : Ev 0 mX3_isRead [.ref 2] h (fun r h' => G 10 mX4_best post 7 [some (.ref 0), some (.int x1), some (.int x2), none] (r.toList ++ []) h')) : G 10 mX4_best post 0 [some (.ref 0), some (.int x1), some (.int x2), none] [] h := by
  refine g_aload_n dX4_best_0 rfl ?_
  refine g_getfield (kd := 4) (v := .ref 2) dX4_best_1 fX4_19 (by decide) rfl rfl rfl rfl ?_
  exact g_callV (n := 0) (b := 2) (as := []) (rest := []) dX4_best_4 kX3_isRead lX4_70 (by decide) rfl ⟨_, _, rfl⟩ rfl rfl (by simp only [List.map, Value.category]; decide) (by decide) k
theorem sX4_best_7 {post : Option Value → PH → Prop} {h : PH} {x1 x2 s0 : Int32} (k1 : ¬ s0 = 0 → G 10 mX4_best post 14 [some (.ref 0), some (.int x1), some (.int x2), none] [] h) (k2 : s0 = 0 → G 10 mX4_best post 10 [none, none, none, none] [] h) : G 10 mX4_best post 7 [some (.ref 0), some (.int x1), some (.int x2), none] [.int s0] h := by
  exact g_if_ne (tgt := 14) dX4_best_7 (by decide) (fun hc => k1 hc) (fun hc => by refine g_forget (mask := [false, false, false, true]) (L' := [none, none, none, none]) rfl ?_; exact k2 hc)
theorem sX4_best_14 {post : Option Value → PH → Prop} {h : PH} {x1 x2 : Int32} (k1 : x2 = 0 → G 10 mX4_best post 39 [some (.ref 0), some (.int x1), some (.int x2), none] [] h) (k2 : ¬ x2 = 0 → G 10 mX4_best post 18 [some (.ref 0), some (.int x1), some (.int x2), none] [] h) : G 10 mX4_best post 14 [some (.ref 0), some (.int x1), some (.int x2), none] [] h := by
  refine g_iload_n dX4_best_14 rfl ?_
  exact g_if_eq (tgt := 39) dX4_best_15 (by decide) (fun hc => k1 hc) (fun hc => k2 hc)
theorem sX4_best_10 {post : Option Value → PH → Prop} {h : PH} (k : post (some (.int (-1004))) h) : G 10 mX4_best post 10 [none, none, none, none] [] h := by
  refine g_sipush (v := (-1004)) dX4_best_10 rfl ?_
  exact g_ireturn (ty := .int) dX4_best_13 rfl rfl k
theorem sX4_best_39 {post : Option Value → PH → Prop} {h : PH} {x1 x2 : Int32} (k : Ev 9 mX2_planWithBest [.ref 3, .ref 2, .int x1] h (fun r h' => G 10 mX4_best post 51 [some (.ref 0), none, some (.int x2), none] (r.toList ++ []) h')) : G 10 mX4_best post 39 [some (.ref 0), some (.int x1), some (.int x2), none] [] h := by
  refine g_aload_n dX4_best_39 rfl ?_
  refine g_getfield (kd := 5) (v := .ref 3) dX4_best_40 fX4_26 (by decide) rfl rfl rfl rfl ?_
  refine g_aload_n dX4_best_43 rfl ?_
  refine g_getfield (kd := 4) (v := .ref 2) dX4_best_44 fX4_19 (by decide) rfl rfl rfl rfl ?_
  refine g_iload_n dX4_best_47 rfl ?_
  refine g_forget (mask := [true, false, true, true]) (L' := [some (.ref 0), none, some (.int x2), none]) rfl ?_
  exact g_callV (n := 2) (b := 3) (as := [.ref 2, .int x1]) (rest := []) dX4_best_48 kX2_planWithBest lX4_126 (by decide) rfl ⟨_, _, rfl⟩ rfl rfl (by simp only [List.map, Value.category]; decide) (by decide) k
theorem sX4_best_18 {post : Option Value → PH → Prop} {h : PH} {x1 x2 : Int32} (k1 : x2 = 1 → G 10 mX4_best post 39 [some (.ref 0), some (.int x1), some (.int x2), none] [] h) (k2 : ¬ x2 = 1 → G 10 mX4_best post 23 [some (.ref 0), some (.int x1), some (.int x2), none] [] h) : G 10 mX4_best post 18 [some (.ref 0), some (.int x1), some (.int x2), none] [] h := by
  refine g_iload_n dX4_best_18 rfl ?_
  refine g_iconst (v := 1) dX4_best_19 rfl ?_
  exact g_icmp_eq (tgt := 39) dX4_best_20 (by decide) (fun hc => k1 hc) (fun hc => k2 hc)
theorem sX4_best_51_p4 {post : Option Value → PH → Prop} {h : PH} {x2 : Int32} (k1 : (h.1 4 4) = (-1001) → G 10 mX4_best post 66 [none, none, none, some (.ref 4)] [] h) (k2 : ¬ (h.1 4 4) = (-1001) → G 10 mX4_best post 62 [some (.ref 0), none, some (.int x2), some (.ref 4)] [] h) : G 10 mX4_best post 51 [some (.ref 0), none, some (.int x2), none] [.ref 4] h := by
  refine g_astore_n (L' := [some (.ref 0), none, some (.int x2), some (.ref 4)]) dX4_best_51 rfl (by decide) rfl ?_
  refine g_aload_n dX4_best_52 rfl ?_
  refine g_getfield (kd := 0) (v := .int (h.1 4 4)) dX4_best_53 fX4_130 (by decide) rfl rfl rfl rfl ?_
  refine g_sipush (v := (-1001)) dX4_best_56 rfl ?_
  exact g_icmp_eq (tgt := 66) dX4_best_59 (by decide) (fun hc => by refine g_forget (mask := [false, true, false, true]) (L' := [none, none, none, some (.ref 4)]) rfl ?_; exact k1 hc) (fun hc => k2 hc)
theorem sX4_best_51_p5 {post : Option Value → PH → Prop} {h : PH} {x2 : Int32} (k1 : (h.1 5 4) = (-1001) → G 10 mX4_best post 66 [none, none, none, some (.ref 5)] [] h) (k2 : ¬ (h.1 5 4) = (-1001) → G 10 mX4_best post 62 [some (.ref 0), none, some (.int x2), some (.ref 5)] [] h) : G 10 mX4_best post 51 [some (.ref 0), none, some (.int x2), none] [.ref 5] h := by
  refine g_astore_n (L' := [some (.ref 0), none, some (.int x2), some (.ref 5)]) dX4_best_51 rfl (by decide) rfl ?_
  refine g_aload_n dX4_best_52 rfl ?_
  refine g_getfield (kd := 0) (v := .int (h.1 5 4)) dX4_best_53 fX4_130 (by decide) rfl rfl rfl rfl ?_
  refine g_sipush (v := (-1001)) dX4_best_56 rfl ?_
  exact g_icmp_eq (tgt := 66) dX4_best_59 (by decide) (fun hc => by refine g_forget (mask := [false, true, false, true]) (L' := [none, none, none, some (.ref 5)]) rfl ?_; exact k1 hc) (fun hc => k2 hc)
theorem sX4_best_23 {post : Option Value → PH → Prop} {h : PH} {x1 x2 : Int32} (k1 : x2 < 10 → G 10 mX4_best post 35 [none, none, none, none] [] h) (k2 : ¬ x2 < 10 → G 10 mX4_best post 29 [some (.ref 0), some (.int x1), some (.int x2), none] [] h) : G 10 mX4_best post 23 [some (.ref 0), some (.int x1), some (.int x2), none] [] h := by
  refine g_iload_n dX4_best_23 rfl ?_
  refine g_bipush (v := 10) dX4_best_24 rfl ?_
  exact g_icmp_lt (tgt := 35) dX4_best_26 (by decide) (fun hc => by refine g_forget (mask := [false, false, false, true]) (L' := [none, none, none, none]) rfl ?_; exact k1 hc) (fun hc => k2 hc)
theorem sX4_best_66_p4 {post : Option Value → PH → Prop} {h : PH} (k : post (some (.int (h.1 4 4))) h) : G 10 mX4_best post 66 [none, none, none, some (.ref 4)] [] h := by
  refine g_aload_n dX4_best_66 rfl ?_
  refine g_getfield (kd := 0) (v := .int (h.1 4 4)) dX4_best_67 fX4_130 (by decide) rfl rfl rfl rfl ?_
  exact g_ireturn (ty := .int) dX4_best_70 rfl rfl k
theorem sX4_best_62_p4 {post : Option Value → PH → Prop} {h : PH} {x2 : Int32} (k1 : ¬ x2 = 0 → G 10 mX4_best post 71 [some (.ref 0), none, some (.int x2), some (.ref 4)] [] h) (k2 : x2 = 0 → G 10 mX4_best post 66 [none, none, none, some (.ref 4)] [] h) : G 10 mX4_best post 62 [some (.ref 0), none, some (.int x2), some (.ref 4)] [] h := by
  refine g_iload_n dX4_best_62 rfl ?_
  exact g_if_ne (tgt := 71) dX4_best_63 (by decide) (fun hc => k1 hc) (fun hc => by refine g_forget (mask := [false, true, false, true]) (L' := [none, none, none, some (.ref 4)]) rfl ?_; exact k2 hc)
theorem sX4_best_66_p5 {post : Option Value → PH → Prop} {h : PH} (k : post (some (.int (h.1 5 4))) h) : G 10 mX4_best post 66 [none, none, none, some (.ref 5)] [] h := by
  refine g_aload_n dX4_best_66 rfl ?_
  refine g_getfield (kd := 0) (v := .int (h.1 5 4)) dX4_best_67 fX4_130 (by decide) rfl rfl rfl rfl ?_
  exact g_ireturn (ty := .int) dX4_best_70 rfl rfl k
theorem sX4_best_62_p5 {post : Option Value → PH → Prop} {h : PH} {x2 : Int32} (k1 : ¬ x2 = 0 → G 10 mX4_best post 71 [some (.ref 0), none, some (.int x2), some (.ref 5)] [] h) (k2 : x2 = 0 → G 10 mX4_best post 66 [none, none, none, some (.ref 5)] [] h) : G 10 mX4_best post 62 [some (.ref 0), none, some (.int x2), some (.ref 5)] [] h := by
  refine g_iload_n dX4_best_62 rfl ?_
  exact g_if_ne (tgt := 71) dX4_best_63 (by decide) (fun hc => k1 hc) (fun hc => by refine g_forget (mask := [false, true, false, true]) (L' := [none, none, none, some (.ref 5)]) rfl ?_; exact k2 hc)
theorem sX4_best_35 {post : Option Value → PH → Prop} {h : PH} (k : post (some (.int (-1003))) h) : G 10 mX4_best post 35 [none, none, none, none] [] h := by
  refine g_sipush (v := (-1003)) dX4_best_35 rfl ?_
  exact g_ireturn (ty := .int) dX4_best_38 rfl rfl k
theorem sX4_best_29 {post : Option Value → PH → Prop} {h : PH} {x1 x2 : Int32} (k1 : x2 ≤ 14 → G 10 mX4_best post 39 [some (.ref 0), some (.int x1), some (.int x2), none] [] h) (k2 : ¬ x2 ≤ 14 → G 10 mX4_best post 35 [none, none, none, none] [] h) : G 10 mX4_best post 29 [some (.ref 0), some (.int x1), some (.int x2), none] [] h := by
  refine g_iload_n dX4_best_29 rfl ?_
  refine g_bipush (v := 14) dX4_best_30 rfl ?_
  exact g_icmp_le (tgt := 39) dX4_best_32 (by decide) (fun hc => k1 hc) (fun hc => by refine g_forget (mask := [false, false, false, true]) (L' := [none, none, none, none]) rfl ?_; exact k2 hc)
theorem sX4_best_71_p4 {post : Option Value → PH → Prop} {h : PH} {x2 : Int32} (k1 : ¬ x2 = 1 → G 10 mX4_best post 89 [some (.ref 0), none, some (.int x2), some (.ref 4)] [] h) (k2 : x2 = 1 → G 10 mX4_best post 76 [some (.ref 0), none, none, some (.ref 4)] [] h) : G 10 mX4_best post 71 [some (.ref 0), none, some (.int x2), some (.ref 4)] [] h := by
  refine g_iload_n dX4_best_71 rfl ?_
  refine g_iconst (v := 1) dX4_best_72 rfl ?_
  exact g_icmp_ne (tgt := 89) dX4_best_73 (by decide) (fun hc => k1 hc) (fun hc => by refine g_forget (mask := [true, true, false, true]) (L' := [some (.ref 0), none, none, some (.ref 4)]) rfl ?_; exact k2 hc)
theorem sX4_best_71_p5 {post : Option Value → PH → Prop} {h : PH} {x2 : Int32} (k1 : ¬ x2 = 1 → G 10 mX4_best post 89 [some (.ref 0), none, some (.int x2), some (.ref 5)] [] h) (k2 : x2 = 1 → G 10 mX4_best post 76 [some (.ref 0), none, none, some (.ref 5)] [] h) : G 10 mX4_best post 71 [some (.ref 0), none, some (.int x2), some (.ref 5)] [] h := by
  refine g_iload_n dX4_best_71 rfl ?_
  refine g_iconst (v := 1) dX4_best_72 rfl ?_
  exact g_icmp_ne (tgt := 89) dX4_best_73 (by decide) (fun hc => k1 hc) (fun hc => by refine g_forget (mask := [true, true, false, true]) (L' := [some (.ref 0), none, none, some (.ref 5)]) rfl ?_; exact k2 hc)
theorem sX4_best_89_p4 {post : Option Value → PH → Prop} {h : PH} {x2 : Int32} (k : Ev 0 mX3_hasMirror [.ref 2, .int (x2 - 10)] h (fun r h' => G 10 mX4_best post 100 [none, none, some (.int x2), some (.ref 4)] (r.toList ++ []) h')) : G 10 mX4_best post 89 [some (.ref 0), none, some (.int x2), some (.ref 4)] [] h := by
  refine g_aload_n dX4_best_89 rfl ?_
  refine g_getfield (kd := 4) (v := .ref 2) dX4_best_90 fX4_19 (by decide) rfl rfl rfl rfl ?_
  refine g_iload_n dX4_best_93 rfl ?_
  refine g_bipush (v := 10) dX4_best_94 rfl ?_
  refine g_isub dX4_best_96 ?_
  refine g_forget (mask := [false, true, true, true]) (L' := [none, none, some (.int x2), some (.ref 4)]) rfl ?_
  exact g_callV (n := 1) (b := 2) (as := [.int (x2 - 10)]) (rest := []) dX4_best_97 kX3_hasMirror lX4_76 (by decide) rfl ⟨_, _, rfl⟩ rfl rfl (by simp only [List.map, Value.category]; decide) (by decide) k
theorem sX4_best_76_p4 {post : Option Value → PH → Prop} {h : PH} (k : Ev 3 mX3_bound [.ref 2] h (fun r h' => G 10 mX4_best post 83 [none, none, none, some (.ref 4)] (r.toList ++ []) h')) : G 10 mX4_best post 76 [some (.ref 0), none, none, some (.ref 4)] [] h := by
  refine g_aload_n dX4_best_76 rfl ?_
  refine g_getfield (kd := 4) (v := .ref 2) dX4_best_77 fX4_19 (by decide) rfl rfl rfl rfl ?_
  refine g_forget (mask := [false, true, true, true]) (L' := [none, none, none, some (.ref 4)]) rfl ?_
  exact g_callV (n := 0) (b := 2) (as := []) (rest := []) dX4_best_80 kX3_bound lX4_135 (by decide) rfl ⟨_, _, rfl⟩ rfl rfl (by simp only [List.map, Value.category]; decide) (by decide) k
theorem sX4_best_89_p5 {post : Option Value → PH → Prop} {h : PH} {x2 : Int32} (k : Ev 0 mX3_hasMirror [.ref 2, .int (x2 - 10)] h (fun r h' => G 10 mX4_best post 100 [none, none, some (.int x2), some (.ref 5)] (r.toList ++ []) h')) : G 10 mX4_best post 89 [some (.ref 0), none, some (.int x2), some (.ref 5)] [] h := by
  refine g_aload_n dX4_best_89 rfl ?_
  refine g_getfield (kd := 4) (v := .ref 2) dX4_best_90 fX4_19 (by decide) rfl rfl rfl rfl ?_
  refine g_iload_n dX4_best_93 rfl ?_
  refine g_bipush (v := 10) dX4_best_94 rfl ?_
  refine g_isub dX4_best_96 ?_
  refine g_forget (mask := [false, true, true, true]) (L' := [none, none, some (.int x2), some (.ref 5)]) rfl ?_
  exact g_callV (n := 1) (b := 2) (as := [.int (x2 - 10)]) (rest := []) dX4_best_97 kX3_hasMirror lX4_76 (by decide) rfl ⟨_, _, rfl⟩ rfl rfl (by simp only [List.map, Value.category]; decide) (by decide) k
theorem sX4_best_76_p5 {post : Option Value → PH → Prop} {h : PH} (k : Ev 3 mX3_bound [.ref 2] h (fun r h' => G 10 mX4_best post 83 [none, none, none, some (.ref 5)] (r.toList ++ []) h')) : G 10 mX4_best post 76 [some (.ref 0), none, none, some (.ref 5)] [] h := by
  refine g_aload_n dX4_best_76 rfl ?_
  refine g_getfield (kd := 4) (v := .ref 2) dX4_best_77 fX4_19 (by decide) rfl rfl rfl rfl ?_
  refine g_forget (mask := [false, true, true, true]) (L' := [none, none, none, some (.ref 5)]) rfl ?_
  exact g_callV (n := 0) (b := 2) (as := []) (rest := []) dX4_best_80 kX3_bound lX4_135 (by decide) rfl ⟨_, _, rfl⟩ rfl rfl (by simp only [List.map, Value.category]; decide) (by decide) k
theorem sX4_best_100_p4 {post : Option Value → PH → Prop} {h : PH} {x2 s0 : Int32} (k1 : s0 = 0 → G 10 mX4_best post 117 [none, none, none, none] [] h) (k2 : ¬ s0 = 0 → G 10 mX4_best post 103 [none, none, some (.int x2), some (.ref 4)] [] h) : G 10 mX4_best post 100 [none, none, some (.int x2), some (.ref 4)] [.int s0] h := by
  exact g_if_eq (tgt := 117) dX4_best_100 (by decide) (fun hc => by refine g_forget (mask := [true, true, false, false]) (L' := [none, none, none, none]) rfl ?_; exact k1 hc) (fun hc => k2 hc)
theorem sX4_best_83_p4 {post : Option Value → PH → Prop} {h : PH} {s0 : Int32} (k : post (some (.int (s0 - (h.1 4 4)))) h) : G 10 mX4_best post 83 [none, none, none, some (.ref 4)] [.int s0] h := by
  refine g_aload_n dX4_best_83 rfl ?_
  refine g_getfield (kd := 0) (v := .int (h.1 4 4)) dX4_best_84 fX4_130 (by decide) rfl rfl rfl rfl ?_
  refine g_isub dX4_best_87 ?_
  exact g_ireturn (ty := .int) dX4_best_88 rfl rfl k
theorem sX4_best_100_p5 {post : Option Value → PH → Prop} {h : PH} {x2 s0 : Int32} (k1 : s0 = 0 → G 10 mX4_best post 117 [none, none, none, none] [] h) (k2 : ¬ s0 = 0 → G 10 mX4_best post 103 [none, none, some (.int x2), some (.ref 5)] [] h) : G 10 mX4_best post 100 [none, none, some (.int x2), some (.ref 5)] [.int s0] h := by
  exact g_if_eq (tgt := 117) dX4_best_100 (by decide) (fun hc => by refine g_forget (mask := [true, true, false, false]) (L' := [none, none, none, none]) rfl ?_; exact k1 hc) (fun hc => k2 hc)
theorem sX4_best_83_p5 {post : Option Value → PH → Prop} {h : PH} {s0 : Int32} (k : post (some (.int (s0 - (h.1 5 4)))) h) : G 10 mX4_best post 83 [none, none, none, some (.ref 5)] [.int s0] h := by
  refine g_aload_n dX4_best_83 rfl ?_
  refine g_getfield (kd := 0) (v := .int (h.1 5 4)) dX4_best_84 fX4_130 (by decide) rfl rfl rfl rfl ?_
  refine g_isub dX4_best_87 ?_
  exact g_ireturn (ty := .int) dX4_best_88 rfl rfl k
theorem sX4_best_117 {post : Option Value → PH → Prop} {h : PH} (k : post (some (.int (-1001))) h) : G 10 mX4_best post 117 [none, none, none, none] [] h := by
  refine g_sipush (v := (-1001)) dX4_best_117 rfl ?_
  exact g_ireturn (ty := .int) dX4_best_120 rfl rfl k
theorem sX4_best_103_p4 {post : Option Value → PH → Prop} {h : PH} {x2 : Int32} (k : Ev 0 mX4_aimIn [.int (h.1 4 5), .int (x2 - 10)] h (fun r h' => G 10 mX4_best post 114 [none, none, none, none] (r.toList ++ []) h')) : G 10 mX4_best post 103 [none, none, some (.int x2), some (.ref 4)] [] h := by
  refine g_aload_n dX4_best_103 rfl ?_
  refine g_getfield (kd := 0) (v := .int (h.1 4 5)) dX4_best_104 fX4_138 (by decide) rfl rfl rfl rfl ?_
  refine g_iload_n dX4_best_107 rfl ?_
  refine g_bipush (v := 10) dX4_best_108 rfl ?_
  refine g_isub dX4_best_110 ?_
  refine g_forget (mask := [true, true, false, false]) (L' := [none, none, none, none]) rfl ?_
  exact g_callS (n := 2) (as := [.int (h.1 4 5), .int (x2 - 10)]) (rest := []) dX4_best_111 kX4_aimIn lX4_141 rfl rfl (by simp only [List.map, Value.category]; decide) (by decide) k
theorem sX4_best_103_p5 {post : Option Value → PH → Prop} {h : PH} {x2 : Int32} (k : Ev 0 mX4_aimIn [.int (h.1 5 5), .int (x2 - 10)] h (fun r h' => G 10 mX4_best post 114 [none, none, none, none] (r.toList ++ []) h')) : G 10 mX4_best post 103 [none, none, some (.int x2), some (.ref 5)] [] h := by
  refine g_aload_n dX4_best_103 rfl ?_
  refine g_getfield (kd := 0) (v := .int (h.1 5 5)) dX4_best_104 fX4_138 (by decide) rfl rfl rfl rfl ?_
  refine g_iload_n dX4_best_107 rfl ?_
  refine g_bipush (v := 10) dX4_best_108 rfl ?_
  refine g_isub dX4_best_110 ?_
  refine g_forget (mask := [true, true, false, false]) (L' := [none, none, none, none]) rfl ?_
  exact g_callS (n := 2) (as := [.int (h.1 5 5), .int (x2 - 10)]) (rest := []) dX4_best_111 kX4_aimIn lX4_141 rfl rfl (by simp only [List.map, Value.category]; decide) (by decide) k
theorem sX4_best_114 {post : Option Value → PH → Prop} {h : PH} {s0 : Int32} (k : post (some (.int s0)) h) : G 10 mX4_best post 114 [none, none, none, none] [.int s0] h := by
  refine g_goto (tgt := 120) dX4_best_114 (by decide) ?_
  exact g_ireturn (ty := .int) dX4_best_120 rfl rfl k
theorem sX4_change_0 {post : Option Value → PH → Prop} {h : PH} {x1 x2 : Int32} (k : Ev 0 mX3_isRead [.ref 2] h (fun r h' => G 10 mX4_change post 7 [some (.ref 0), some (.int x1), some (.int x2), none] (r.toList ++ []) h')) : G 10 mX4_change post 0 [some (.ref 0), some (.int x1), some (.int x2), none] [] h := by
  refine g_aload_n dX4_change_0 rfl ?_
  refine g_getfield (kd := 4) (v := .ref 2) dX4_change_1 fX4_19 (by decide) rfl rfl rfl rfl ?_
  exact g_callV (n := 0) (b := 2) (as := []) (rest := []) dX4_change_4 kX3_isRead lX4_70 (by decide) rfl ⟨_, _, rfl⟩ rfl rfl (by simp only [List.map, Value.category]; decide) (by decide) k
theorem sX4_change_7 {post : Option Value → PH → Prop} {h : PH} {x1 x2 s0 : Int32} (k1 : ¬ s0 = 0 → G 10 mX4_change post 14 [some (.ref 0), some (.int x1), some (.int x2), none] [] h) (k2 : s0 = 0 → G 10 mX4_change post 10 [none, none, none, none] [] h) : G 10 mX4_change post 7 [some (.ref 0), some (.int x1), some (.int x2), none] [.int s0] h := by
  exact g_if_ne (tgt := 14) dX4_change_7 (by decide) (fun hc => k1 hc) (fun hc => by refine g_forget (mask := [false, false, false, true]) (L' := [none, none, none, none]) rfl ?_; exact k2 hc)
theorem sX4_change_14 {post : Option Value → PH → Prop} {h : PH} {x1 x2 : Int32} (k1 : x2 = 0 → G 10 mX4_change post 34 [some (.ref 0), some (.int x1), some (.int x2), none] [] h) (k2 : ¬ x2 = 0 → G 10 mX4_change post 18 [some (.ref 0), some (.int x1), some (.int x2), none] [] h) : G 10 mX4_change post 14 [some (.ref 0), some (.int x1), some (.int x2), none] [] h := by
  refine g_iload_n dX4_change_14 rfl ?_
  exact g_if_eq (tgt := 34) dX4_change_15 (by decide) (fun hc => k1 hc) (fun hc => k2 hc)
theorem sX4_change_10 {post : Option Value → PH → Prop} {h : PH} (k : post (some (.int (-1004))) h) : G 10 mX4_change post 10 [none, none, none, none] [] h := by
  refine g_sipush (v := (-1004)) dX4_change_10 rfl ?_
  exact g_ireturn (ty := .int) dX4_change_13 rfl rfl k
theorem sX4_change_34 {post : Option Value → PH → Prop} {h : PH} {x1 x2 : Int32} (k : Ev 9 mX2_planWithChange [.ref 3, .ref 2, .int x1] h (fun r h' => G 10 mX4_change post 46 [none, none, some (.int x2), none] (r.toList ++ []) h')) : G 10 mX4_change post 34 [some (.ref 0), some (.int x1), some (.int x2), none] [] h := by
  refine g_aload_n dX4_change_34 rfl ?_
  refine g_getfield (kd := 5) (v := .ref 3) dX4_change_35 fX4_26 (by decide) rfl rfl rfl rfl ?_
  refine g_aload_n dX4_change_38 rfl ?_
  refine g_getfield (kd := 4) (v := .ref 2) dX4_change_39 fX4_19 (by decide) rfl rfl rfl rfl ?_
  refine g_iload_n dX4_change_42 rfl ?_
  refine g_forget (mask := [false, false, true, true]) (L' := [none, none, some (.int x2), none]) rfl ?_
  exact g_callV (n := 2) (b := 3) (as := [.ref 2, .int x1]) (rest := []) dX4_change_43 kX2_planWithChange lX4_144 (by decide) rfl ⟨_, _, rfl⟩ rfl rfl (by simp only [List.map, Value.category]; decide) (by decide) k
theorem sX4_change_18 {post : Option Value → PH → Prop} {h : PH} {x1 x2 : Int32} (k1 : x2 < 10 → G 10 mX4_change post 30 [none, none, none, none] [] h) (k2 : ¬ x2 < 10 → G 10 mX4_change post 24 [some (.ref 0), some (.int x1), some (.int x2), none] [] h) : G 10 mX4_change post 18 [some (.ref 0), some (.int x1), some (.int x2), none] [] h := by
  refine g_iload_n dX4_change_18 rfl ?_
  refine g_bipush (v := 10) dX4_change_19 rfl ?_
  exact g_icmp_lt (tgt := 30) dX4_change_21 (by decide) (fun hc => by refine g_forget (mask := [false, false, false, true]) (L' := [none, none, none, none]) rfl ?_; exact k1 hc) (fun hc => k2 hc)
theorem sX4_change_46_p4 {post : Option Value → PH → Prop} {h : PH} {x2 : Int32} (k1 : ¬ x2 = 0 → G 10 mX4_change post 58 [none, none, some (.int x2), some (.ref 4)] [] h) (k2 : x2 = 0 → G 10 mX4_change post 51 [none, none, none, some (.ref 4)] [] h) : G 10 mX4_change post 46 [none, none, some (.int x2), none] [.ref 4] h := by
  refine g_astore_n (L' := [none, none, some (.int x2), some (.ref 4)]) dX4_change_46 rfl (by decide) rfl ?_
  refine g_iload_n dX4_change_47 rfl ?_
  exact g_if_ne (tgt := 58) dX4_change_48 (by decide) (fun hc => k1 hc) (fun hc => by refine g_forget (mask := [true, true, false, true]) (L' := [none, none, none, some (.ref 4)]) rfl ?_; exact k2 hc)
theorem sX4_change_46_p5 {post : Option Value → PH → Prop} {h : PH} {x2 : Int32} (k1 : ¬ x2 = 0 → G 10 mX4_change post 58 [none, none, some (.int x2), some (.ref 5)] [] h) (k2 : x2 = 0 → G 10 mX4_change post 51 [none, none, none, some (.ref 5)] [] h) : G 10 mX4_change post 46 [none, none, some (.int x2), none] [.ref 5] h := by
  refine g_astore_n (L' := [none, none, some (.int x2), some (.ref 5)]) dX4_change_46 rfl (by decide) rfl ?_
  refine g_iload_n dX4_change_47 rfl ?_
  exact g_if_ne (tgt := 58) dX4_change_48 (by decide) (fun hc => k1 hc) (fun hc => by refine g_forget (mask := [true, true, false, true]) (L' := [none, none, none, some (.ref 5)]) rfl ?_; exact k2 hc)
theorem sX4_change_30 {post : Option Value → PH → Prop} {h : PH} (k : post (some (.int (-1003))) h) : G 10 mX4_change post 30 [none, none, none, none] [] h := by
  refine g_sipush (v := (-1003)) dX4_change_30 rfl ?_
  exact g_ireturn (ty := .int) dX4_change_33 rfl rfl k
theorem sX4_change_24 {post : Option Value → PH → Prop} {h : PH} {x1 x2 : Int32} (k1 : x2 ≤ 24 → G 10 mX4_change post 34 [some (.ref 0), some (.int x1), some (.int x2), none] [] h) (k2 : ¬ x2 ≤ 24 → G 10 mX4_change post 30 [none, none, none, none] [] h) : G 10 mX4_change post 24 [some (.ref 0), some (.int x1), some (.int x2), none] [] h := by
  refine g_iload_n dX4_change_24 rfl ?_
  refine g_bipush (v := 24) dX4_change_25 rfl ?_
  exact g_icmp_le (tgt := 34) dX4_change_27 (by decide) (fun hc => k1 hc) (fun hc => by refine g_forget (mask := [false, false, false, true]) (L' := [none, none, none, none]) rfl ?_; exact k2 hc)
theorem sX4_change_58_p4 {post : Option Value → PH → Prop} {h : PH} {x2 : Int32} (k : Ev 0 mX1_moveAt [.ref 4, .int (x2 - 10)] h (fun r h' => G 10 mX4_change post 66 [none, none, none, none] (r.toList ++ []) h')) : G 10 mX4_change post 58 [none, none, some (.int x2), some (.ref 4)] [] h := by
  refine g_aload_n dX4_change_58 rfl ?_
  refine g_iload_n dX4_change_59 rfl ?_
  refine g_bipush (v := 10) dX4_change_60 rfl ?_
  refine g_isub dX4_change_62 ?_
  refine g_forget (mask := [true, true, false, false]) (L' := [none, none, none, none]) rfl ?_
  exact g_callV (n := 1) (b := 4) (as := [.int (x2 - 10)]) (rest := []) dX4_change_63 kX1_moveAt lX4_150 (by decide) rfl ⟨_, _, rfl⟩ rfl rfl (by simp only [List.map, Value.category]; decide) (by decide) k
theorem sX4_change_51_p4 {post : Option Value → PH → Prop} {h : PH} (k : post (some (.int (h.1 4 6))) h) : G 10 mX4_change post 51 [none, none, none, some (.ref 4)] [] h := by
  refine g_aload_n dX4_change_51 rfl ?_
  refine g_getfield (kd := 0) (v := .int (h.1 4 6)) dX4_change_52 fX4_147 (by decide) rfl rfl rfl rfl ?_
  refine g_goto (tgt := 66) dX4_change_55 (by decide) ?_
  exact g_ireturn (ty := .int) dX4_change_66 rfl rfl k
theorem sX4_change_58_p5 {post : Option Value → PH → Prop} {h : PH} {x2 : Int32} (k : Ev 0 mX1_moveAt [.ref 5, .int (x2 - 10)] h (fun r h' => G 10 mX4_change post 66 [none, none, none, none] (r.toList ++ []) h')) : G 10 mX4_change post 58 [none, none, some (.int x2), some (.ref 5)] [] h := by
  refine g_aload_n dX4_change_58 rfl ?_
  refine g_iload_n dX4_change_59 rfl ?_
  refine g_bipush (v := 10) dX4_change_60 rfl ?_
  refine g_isub dX4_change_62 ?_
  refine g_forget (mask := [true, true, false, false]) (L' := [none, none, none, none]) rfl ?_
  exact g_callV (n := 1) (b := 5) (as := [.int (x2 - 10)]) (rest := []) dX4_change_63 kX1_moveAt lX4_150 (by decide) rfl ⟨_, _, rfl⟩ rfl rfl (by simp only [List.map, Value.category]; decide) (by decide) k
theorem sX4_change_51_p5 {post : Option Value → PH → Prop} {h : PH} (k : post (some (.int (h.1 5 6))) h) : G 10 mX4_change post 51 [none, none, none, some (.ref 5)] [] h := by
  refine g_aload_n dX4_change_51 rfl ?_
  refine g_getfield (kd := 0) (v := .int (h.1 5 6)) dX4_change_52 fX4_147 (by decide) rfl rfl rfl rfl ?_
  refine g_goto (tgt := 66) dX4_change_55 (by decide) ?_
  exact g_ireturn (ty := .int) dX4_change_66 rfl rfl k
theorem sX4_change_66 {post : Option Value → PH → Prop} {h : PH} {s0 : Int32} (k : post (some (.int s0)) h) : G 10 mX4_change post 66 [none, none, none, none] [.int s0] h := by
  exact g_ireturn (ty := .int) dX4_change_66 rfl rfl k
theorem sX4_go_0 {post : Option Value → PH → Prop} {h : PH} {x1 : Int32} (k : Ev 0 mX3_isRead [.ref 2] h (fun r h' => G 10 mX4_go post 7 [some (.ref 0), some (.int x1), none, none] (r.toList ++ []) h')) : G 10 mX4_go post 0 [some (.ref 0), some (.int x1), none, none] [] h := by
  refine g_aload_n dX4_go_0 rfl ?_
  refine g_getfield (kd := 4) (v := .ref 2) dX4_go_1 fX4_19 (by decide) rfl rfl rfl rfl ?_
  exact g_callV (n := 0) (b := 2) (as := []) (rest := []) dX4_go_4 kX3_isRead lX4_70 (by decide) rfl ⟨_, _, rfl⟩ rfl rfl (by simp only [List.map, Value.category]; decide) (by decide) k
theorem sX4_go_7 {post : Option Value → PH → Prop} {h : PH} {x1 s0 : Int32} (k1 : ¬ s0 = 0 → G 10 mX4_go post 14 [some (.ref 0), some (.int x1), none, none] [] h) (k2 : s0 = 0 → G 10 mX4_go post 10 [none, none, none, none] [] h) : G 10 mX4_go post 7 [some (.ref 0), some (.int x1), none, none] [.int s0] h := by
  exact g_if_ne (tgt := 14) dX4_go_7 (by decide) (fun hc => k1 hc) (fun hc => by refine g_forget (mask := [false, false, true, true]) (L' := [none, none, none, none]) rfl ?_; exact k2 hc)
theorem sX4_go_14 {post : Option Value → PH → Prop} {h : PH} {x1 : Int32} (k : Ev 9 mX2_planWithChange [.ref 3, .ref 2, .int x1] h (fun r h' => G 10 mX4_go post 26 [some (.ref 0), none, none, none] (r.toList ++ []) h')) : G 10 mX4_go post 14 [some (.ref 0), some (.int x1), none, none] [] h := by
  refine g_aload_n dX4_go_14 rfl ?_
  refine g_getfield (kd := 5) (v := .ref 3) dX4_go_15 fX4_26 (by decide) rfl rfl rfl rfl ?_
  refine g_aload_n dX4_go_18 rfl ?_
  refine g_getfield (kd := 4) (v := .ref 2) dX4_go_19 fX4_19 (by decide) rfl rfl rfl rfl ?_
  refine g_iload_n dX4_go_22 rfl ?_
  refine g_forget (mask := [true, false, true, true]) (L' := [some (.ref 0), none, none, none]) rfl ?_
  exact g_callV (n := 2) (b := 3) (as := [.ref 2, .int x1]) (rest := []) dX4_go_23 kX2_planWithChange lX4_144 (by decide) rfl ⟨_, _, rfl⟩ rfl rfl (by simp only [List.map, Value.category]; decide) (by decide) k
theorem sX4_go_10 {post : Option Value → PH → Prop} {h : PH} (k : post (some (.int (-1004))) h) : G 10 mX4_go post 10 [none, none, none, none] [] h := by
  refine g_sipush (v := (-1004)) dX4_go_10 rfl ?_
  exact g_ireturn (ty := .int) dX4_go_13 rfl rfl k
theorem sX4_go_26_p4 {post : Option Value → PH → Prop} {h : PH} (k : Ev 0 mX1_moveAt [.ref 4, .int 0] h (fun r h' => G 10 mX4_go post 32 [some (.ref 0), none, some (.ref 4), none] (r.toList ++ []) h')) : G 10 mX4_go post 26 [some (.ref 0), none, none, none] [.ref 4] h := by
  refine g_astore_n (L' := [some (.ref 0), none, some (.ref 4), none]) dX4_go_26 rfl (by decide) rfl ?_
  refine g_aload_n dX4_go_27 rfl ?_
  refine g_iconst (v := 0) dX4_go_28 rfl ?_
  exact g_callV (n := 1) (b := 4) (as := [.int 0]) (rest := []) dX4_go_29 kX1_moveAt lX4_150 (by decide) rfl ⟨_, _, rfl⟩ rfl rfl (by simp only [List.map, Value.category]; decide) (by decide) k
theorem sX4_go_26_p5 {post : Option Value → PH → Prop} {h : PH} (k : Ev 0 mX1_moveAt [.ref 5, .int 0] h (fun r h' => G 10 mX4_go post 32 [some (.ref 0), none, some (.ref 5), none] (r.toList ++ []) h')) : G 10 mX4_go post 26 [some (.ref 0), none, none, none] [.ref 5] h := by
  refine g_astore_n (L' := [some (.ref 0), none, some (.ref 5), none]) dX4_go_26 rfl (by decide) rfl ?_
  refine g_aload_n dX4_go_27 rfl ?_
  refine g_iconst (v := 0) dX4_go_28 rfl ?_
  exact g_callV (n := 1) (b := 5) (as := [.int 0]) (rest := []) dX4_go_29 kX1_moveAt lX4_150 (by decide) rfl ⟨_, _, rfl⟩ rfl rfl (by simp only [List.map, Value.category]; decide) (by decide) k
theorem sX4_go_32_p4 {post : Option Value → PH → Prop} {h : PH} {s0 : Int32} (k1 : s0 = (-1001) → G 10 mX4_go post 53 [none, none, none, none] [] h) (k2 : ¬ s0 = (-1001) → G 10 mX4_go post 40 [some (.ref 0), none, some (.ref 4), some (.int s0)] [] h) : G 10 mX4_go post 32 [some (.ref 0), none, some (.ref 4), none] [.int s0] h := by
  refine g_istore_n (L' := [some (.ref 0), none, some (.ref 4), some (.int s0)]) dX4_go_32 rfl (by decide) rfl ?_
  refine g_iload_n dX4_go_33 rfl ?_
  refine g_sipush (v := (-1001)) dX4_go_34 rfl ?_
  exact g_icmp_eq (tgt := 53) dX4_go_37 (by decide) (fun hc => by refine g_forget (mask := [false, true, false, false]) (L' := [none, none, none, none]) rfl ?_; exact k1 hc) (fun hc => k2 hc)
theorem sX4_go_32_p5 {post : Option Value → PH → Prop} {h : PH} {s0 : Int32} (k1 : s0 = (-1001) → G 10 mX4_go post 53 [none, none, none, none] [] h) (k2 : ¬ s0 = (-1001) → G 10 mX4_go post 40 [some (.ref 0), none, some (.ref 5), some (.int s0)] [] h) : G 10 mX4_go post 32 [some (.ref 0), none, some (.ref 5), none] [.int s0] h := by
  refine g_istore_n (L' := [some (.ref 0), none, some (.ref 5), some (.int s0)]) dX4_go_32 rfl (by decide) rfl ?_
  refine g_iload_n dX4_go_33 rfl ?_
  refine g_sipush (v := (-1001)) dX4_go_34 rfl ?_
  exact g_icmp_eq (tgt := 53) dX4_go_37 (by decide) (fun hc => by refine g_forget (mask := [false, true, false, false]) (L' := [none, none, none, none]) rfl ?_; exact k1 hc) (fun hc => k2 hc)
theorem sX4_go_53 {post : Option Value → PH → Prop} {h : PH} (k : post (some (.int (-1004))) h) : G 10 mX4_go post 53 [none, none, none, none] [] h := by
  refine g_sipush (v := (-1004)) dX4_go_53 rfl ?_
  exact g_ireturn (ty := .int) dX4_go_56 rfl rfl k
theorem sX4_go_40_p4 {post : Option Value → PH → Prop} {h : PH} {x3 : Int32} (k : Ev 0 mX3_hasMirror [.ref 2, .int (x3 >>> (3 &&& 31))] h (fun r h' => G 10 mX4_go post 50 [some (.ref 0), none, some (.ref 4), some (.int x3)] (r.toList ++ []) h')) : G 10 mX4_go post 40 [some (.ref 0), none, some (.ref 4), some (.int x3)] [] h := by
  refine g_aload_n dX4_go_40 rfl ?_
  refine g_getfield (kd := 4) (v := .ref 2) dX4_go_41 fX4_19 (by decide) rfl rfl rfl rfl ?_
  refine g_iload_n dX4_go_44 rfl ?_
  refine g_iconst (v := 3) dX4_go_45 rfl ?_
  refine g_ishr dX4_go_46 ?_
  exact g_callV (n := 1) (b := 2) (as := [.int (x3 >>> (3 &&& 31))]) (rest := []) dX4_go_47 kX3_hasMirror lX4_76 (by decide) rfl ⟨_, _, rfl⟩ rfl rfl (by simp only [List.map, Value.category]; decide) (by decide) k
theorem sX4_go_40_p5 {post : Option Value → PH → Prop} {h : PH} {x3 : Int32} (k : Ev 0 mX3_hasMirror [.ref 2, .int (x3 >>> (3 &&& 31))] h (fun r h' => G 10 mX4_go post 50 [some (.ref 0), none, some (.ref 5), some (.int x3)] (r.toList ++ []) h')) : G 10 mX4_go post 40 [some (.ref 0), none, some (.ref 5), some (.int x3)] [] h := by
  refine g_aload_n dX4_go_40 rfl ?_
  refine g_getfield (kd := 4) (v := .ref 2) dX4_go_41 fX4_19 (by decide) rfl rfl rfl rfl ?_
  refine g_iload_n dX4_go_44 rfl ?_
  refine g_iconst (v := 3) dX4_go_45 rfl ?_
  refine g_ishr dX4_go_46 ?_
  exact g_callV (n := 1) (b := 2) (as := [.int (x3 >>> (3 &&& 31))]) (rest := []) dX4_go_47 kX3_hasMirror lX4_76 (by decide) rfl ⟨_, _, rfl⟩ rfl rfl (by simp only [List.map, Value.category]; decide) (by decide) k
theorem sX4_go_50_p4 {post : Option Value → PH → Prop} {h : PH} {x3 s0 : Int32} (k1 : ¬ s0 = 0 → G 10 mX4_go post 57 [some (.ref 0), none, some (.ref 4), some (.int x3)] [] h) (k2 : s0 = 0 → G 10 mX4_go post 53 [none, none, none, none] [] h) : G 10 mX4_go post 50 [some (.ref 0), none, some (.ref 4), some (.int x3)] [.int s0] h := by
  exact g_if_ne (tgt := 57) dX4_go_50 (by decide) (fun hc => k1 hc) (fun hc => by refine g_forget (mask := [false, true, false, false]) (L' := [none, none, none, none]) rfl ?_; exact k2 hc)
theorem sX4_go_50_p5 {post : Option Value → PH → Prop} {h : PH} {x3 s0 : Int32} (k1 : ¬ s0 = 0 → G 10 mX4_go post 57 [some (.ref 0), none, some (.ref 5), some (.int x3)] [] h) (k2 : s0 = 0 → G 10 mX4_go post 53 [none, none, none, none] [] h) : G 10 mX4_go post 50 [some (.ref 0), none, some (.ref 5), some (.int x3)] [.int s0] h := by
  exact g_if_ne (tgt := 57) dX4_go_50 (by decide) (fun hc => k1 hc) (fun hc => by refine g_forget (mask := [false, true, false, false]) (L' := [none, none, none, none]) rfl ?_; exact k2 hc)
theorem sX4_go_57_p4 {post : Option Value → PH → Prop} {h : PH} {x3 : Int32} (hb1 : vp_in (x3 >>> (3 &&& 31)) 5) (k : Ev 0 mX2_forget [.ref 3] ((upd2 h.1 9 (Int32.toNatClampNeg (x3 >>> (3 &&& 31))) ((x3 &&& 7) - 1)), h.2) (fun r h' => G 10 mX4_go post 81 [some (.ref 0), none, some (.ref 4), none] (r.toList ++ []) h')) : G 10 mX4_go post 57 [some (.ref 0), none, some (.ref 4), some (.int x3)] [] h := by
  refine g_aload_n dX4_go_57 rfl ?_
  refine g_getfield (kd := 4) (v := .ref 2) dX4_go_58 fX4_19 (by decide) rfl rfl rfl rfl ?_
  refine g_getfield (kd := 11) (v := .ref 9) dX4_go_61 fX4_89 (by decide) rfl rfl rfl rfl ?_
  refine g_iload_n dX4_go_64 rfl ?_
  refine g_iconst (v := 3) dX4_go_65 rfl ?_
  refine g_ishr dX4_go_66 ?_
  refine g_iload_n dX4_go_67 rfl ?_
  refine g_bipush (v := 7) dX4_go_68 rfl ?_
  refine g_iand dX4_go_70 ?_
  refine g_iconst (v := 1) dX4_go_71 rfl ?_
  refine g_isub dX4_go_72 ?_
  refine g_iastore (n := 5) dX4_go_73 (by decide) rfl rfl rfl hb1 ?_
  refine g_aload_n dX4_go_74 rfl ?_
  refine g_getfield (kd := 5) (v := .ref 3) dX4_go_75 fX4_26 (by decide) rfl rfl rfl rfl ?_
  refine g_forget (mask := [true, true, true, false]) (L' := [some (.ref 0), none, some (.ref 4), none]) rfl ?_
  exact g_callV (n := 0) (b := 3) (as := []) (rest := []) dX4_go_78 kX2_forget lX4_50 (by decide) rfl ⟨_, _, rfl⟩ rfl rfl (by simp only [List.map, Value.category]; decide) (by decide) k
theorem sX4_go_57_p5 {post : Option Value → PH → Prop} {h : PH} {x3 : Int32} (hb1 : vp_in (x3 >>> (3 &&& 31)) 5) (k : Ev 0 mX2_forget [.ref 3] ((upd2 h.1 9 (Int32.toNatClampNeg (x3 >>> (3 &&& 31))) ((x3 &&& 7) - 1)), h.2) (fun r h' => G 10 mX4_go post 81 [some (.ref 0), none, some (.ref 5), none] (r.toList ++ []) h')) : G 10 mX4_go post 57 [some (.ref 0), none, some (.ref 5), some (.int x3)] [] h := by
  refine g_aload_n dX4_go_57 rfl ?_
  refine g_getfield (kd := 4) (v := .ref 2) dX4_go_58 fX4_19 (by decide) rfl rfl rfl rfl ?_
  refine g_getfield (kd := 11) (v := .ref 9) dX4_go_61 fX4_89 (by decide) rfl rfl rfl rfl ?_
  refine g_iload_n dX4_go_64 rfl ?_
  refine g_iconst (v := 3) dX4_go_65 rfl ?_
  refine g_ishr dX4_go_66 ?_
  refine g_iload_n dX4_go_67 rfl ?_
  refine g_bipush (v := 7) dX4_go_68 rfl ?_
  refine g_iand dX4_go_70 ?_
  refine g_iconst (v := 1) dX4_go_71 rfl ?_
  refine g_isub dX4_go_72 ?_
  refine g_iastore (n := 5) dX4_go_73 (by decide) rfl rfl rfl hb1 ?_
  refine g_aload_n dX4_go_74 rfl ?_
  refine g_getfield (kd := 5) (v := .ref 3) dX4_go_75 fX4_26 (by decide) rfl rfl rfl rfl ?_
  refine g_forget (mask := [true, true, true, false]) (L' := [some (.ref 0), none, some (.ref 5), none]) rfl ?_
  exact g_callV (n := 0) (b := 3) (as := []) (rest := []) dX4_go_78 kX2_forget lX4_50 (by decide) rfl ⟨_, _, rfl⟩ rfl rfl (by simp only [List.map, Value.category]; decide) (by decide) k
theorem sX4_go_81_p4 {post : Option Value → PH → Prop} {h : PH} (k : post (some (.int ((h.1 4 6) - 1))) ((upd2 h.1 0 4 ((h.1 0 4) + 1)), h.2)) : G 10 mX4_go post 81 [some (.ref 0), none, some (.ref 4), none] [] h := by
  refine g_aload_n dX4_go_81 rfl ?_
  refine g_dup dX4_go_82 rfl ?_
  refine g_getfield (kd := 0) (v := .int (h.1 0 4)) dX4_go_83 fX4_98 (by decide) rfl rfl rfl rfl ?_
  refine g_iconst (v := 1) dX4_go_86 rfl ?_
  refine g_iadd dX4_go_87 ?_
  refine g_putfield dX4_go_88 fX4_98 (by decide) rfl rfl rfl rfl rfl ?_
  refine g_aload_n dX4_go_91 rfl ?_
  refine g_getfield (kd := 0) (v := .int (h.1 4 6)) dX4_go_92 fX4_147 (by decide) rfl rfl rfl rfl ?_
  refine g_iconst (v := 1) dX4_go_95 rfl ?_
  refine g_isub dX4_go_96 ?_
  exact g_ireturn (ty := .int) dX4_go_97 rfl rfl k
theorem sX4_go_81_p5 {post : Option Value → PH → Prop} {h : PH} (k : post (some (.int ((h.1 5 6) - 1))) ((upd2 h.1 0 4 ((h.1 0 4) + 1)), h.2)) : G 10 mX4_go post 81 [some (.ref 0), none, some (.ref 5), none] [] h := by
  refine g_aload_n dX4_go_81 rfl ?_
  refine g_dup dX4_go_82 rfl ?_
  refine g_getfield (kd := 0) (v := .int (h.1 0 4)) dX4_go_83 fX4_98 (by decide) rfl rfl rfl rfl ?_
  refine g_iconst (v := 1) dX4_go_86 rfl ?_
  refine g_iadd dX4_go_87 ?_
  refine g_putfield dX4_go_88 fX4_98 (by decide) rfl rfl rfl rfl rfl ?_
  refine g_aload_n dX4_go_91 rfl ?_
  refine g_getfield (kd := 0) (v := .int (h.1 5 6)) dX4_go_92 fX4_147 (by decide) rfl rfl rfl rfl ?_
  refine g_iconst (v := 1) dX4_go_95 rfl ?_
  refine g_isub dX4_go_96 ?_
  exact g_ireturn (ty := .int) dX4_go_97 rfl rfl k
theorem sX4_trade_0 {post : Option Value → PH → Prop} {h : PH} {x1 : Int32} (k : Ev 0 mX3_isRead [.ref 2] h (fun r h' => G 5 mX4_trade post 7 [some (.ref 0), some (.int x1), none, none, none] (r.toList ++ []) h')) : G 5 mX4_trade post 0 [some (.ref 0), some (.int x1), none, none, none] [] h := by
  refine g_aload_n dX4_trade_0 rfl ?_
  refine g_getfield (kd := 4) (v := .ref 2) dX4_trade_1 fX4_19 (by decide) rfl rfl rfl rfl ?_
  exact g_callV (n := 0) (b := 2) (as := []) (rest := []) dX4_trade_4 kX3_isRead lX4_70 (by decide) rfl ⟨_, _, rfl⟩ rfl rfl (by simp only [List.map, Value.category]; decide) (by decide) k
theorem sX4_trade_7 {post : Option Value → PH → Prop} {h : PH} {x1 s0 : Int32} (k1 : ¬ s0 = 0 → G 5 mX4_trade post 14 [some (.ref 0), some (.int x1), none, none, none] [] h) (k2 : s0 = 0 → G 5 mX4_trade post 10 [none, none, none, none, none] [] h) : G 5 mX4_trade post 7 [some (.ref 0), some (.int x1), none, none, none] [.int s0] h := by
  exact g_if_ne (tgt := 14) dX4_trade_7 (by decide) (fun hc => k1 hc) (fun hc => by refine g_forget (mask := [false, false, true, true, true]) (L' := [none, none, none, none, none]) rfl ?_; exact k2 hc)
theorem sX4_trade_14 {post : Option Value → PH → Prop} {h : PH} {x1 : Int32} (k1 : x1 < 0 → G 5 mX4_trade post 23 [none, none, none, none, none] [] h) (k2 : ¬ x1 < 0 → G 5 mX4_trade post 18 [some (.ref 0), some (.int x1), none, none, none] [] h) : G 5 mX4_trade post 14 [some (.ref 0), some (.int x1), none, none, none] [] h := by
  refine g_iload_n dX4_trade_14 rfl ?_
  exact g_if_lt (tgt := 23) dX4_trade_15 (by decide) (fun hc => by refine g_forget (mask := [false, false, true, true, true]) (L' := [none, none, none, none, none]) rfl ?_; exact k1 hc) (fun hc => k2 hc)
theorem sX4_trade_10 {post : Option Value → PH → Prop} {h : PH} (k : post (some (.int (-1004))) h) : G 5 mX4_trade post 10 [none, none, none, none, none] [] h := by
  refine g_sipush (v := (-1004)) dX4_trade_10 rfl ?_
  exact g_ireturn (ty := .int) dX4_trade_13 rfl rfl k
theorem sX4_trade_23 {post : Option Value → PH → Prop} {h : PH} (k : post (some (.int (-1003))) h) : G 5 mX4_trade post 23 [none, none, none, none, none] [] h := by
  refine g_sipush (v := (-1003)) dX4_trade_23 rfl ?_
  exact g_ireturn (ty := .int) dX4_trade_26 rfl rfl k
theorem sX4_trade_18 {post : Option Value → PH → Prop} {h : PH} {x1 : Int32} (k1 : x1 ≤ 2 → G 5 mX4_trade post 27 [some (.ref 0), some (.int x1), none, none, none] [] h) (k2 : ¬ x1 ≤ 2 → G 5 mX4_trade post 23 [none, none, none, none, none] [] h) : G 5 mX4_trade post 18 [some (.ref 0), some (.int x1), none, none, none] [] h := by
  refine g_iload_n dX4_trade_18 rfl ?_
  refine g_iconst (v := 2) dX4_trade_19 rfl ?_
  exact g_icmp_le (tgt := 27) dX4_trade_20 (by decide) (fun hc => k1 hc) (fun hc => by refine g_forget (mask := [false, false, true, true, true]) (L' := [none, none, none, none, none]) rfl ?_; exact k2 hc)
theorem sX4_trade_27 {post : Option Value → PH → Prop} {h : PH} {x1 : Int32} (k : Ev 4 mX3_bestTrade [.ref 2] h (fun r h' => G 5 mX4_trade post 34 [some (.ref 0), some (.int x1), none, none, none] (r.toList ++ []) h')) : G 5 mX4_trade post 27 [some (.ref 0), some (.int x1), none, none, none] [] h := by
  refine g_aload_n dX4_trade_27 rfl ?_
  refine g_getfield (kd := 4) (v := .ref 2) dX4_trade_28 fX4_19 (by decide) rfl rfl rfl rfl ?_
  exact g_callV (n := 0) (b := 2) (as := []) (rest := []) dX4_trade_31 kX3_bestTrade lX4_153 (by decide) rfl ⟨_, _, rfl⟩ rfl rfl (by simp only [List.map, Value.category]; decide) (by decide) k
theorem sX4_trade_34 {post : Option Value → PH → Prop} {h : PH} {x1 s0 : Int32} (k1 : ¬ s0 = (-1001) → G 5 mX4_trade post 46 [some (.ref 0), some (.int x1), some (.int s0), none, none] [] h) (k2 : s0 = (-1001) → G 5 mX4_trade post 42 [none, none, none, none, none] [] h) : G 5 mX4_trade post 34 [some (.ref 0), some (.int x1), none, none, none] [.int s0] h := by
  refine g_istore_n (L' := [some (.ref 0), some (.int x1), some (.int s0), none, none]) dX4_trade_34 rfl (by decide) rfl ?_
  refine g_iload_n dX4_trade_35 rfl ?_
  refine g_sipush (v := (-1001)) dX4_trade_36 rfl ?_
  exact g_icmp_ne (tgt := 46) dX4_trade_39 (by decide) (fun hc => k1 hc) (fun hc => by refine g_forget (mask := [false, false, false, true, true]) (L' := [none, none, none, none, none]) rfl ?_; exact k2 hc)
theorem sX4_trade_46 {post : Option Value → PH → Prop} {h : PH} {x1 x2 : Int32} (k1 : ¬ x1 = 0 → G 5 mX4_trade post 85 [none, some (.int x1), none, some (.int (x2 >>> (3 &&& 31))), some (.int (x2 &&& 7))] [] h) (k2 : x1 = 0 → G 5 mX4_trade post 60 [some (.ref 0), none, none, some (.int (x2 >>> (3 &&& 31))), some (.int (x2 &&& 7))] [] h) : G 5 mX4_trade post 46 [some (.ref 0), some (.int x1), some (.int x2), none, none] [] h := by
  refine g_iload_n dX4_trade_46 rfl ?_
  refine g_iconst (v := 3) dX4_trade_47 rfl ?_
  refine g_ishr dX4_trade_48 ?_
  refine g_istore_n (L' := [some (.ref 0), some (.int x1), some (.int x2), some (.int (x2 >>> (3 &&& 31))), none]) dX4_trade_49 rfl (by decide) rfl ?_
  refine g_iload_n dX4_trade_50 rfl ?_
  refine g_bipush (v := 7) dX4_trade_51 rfl ?_
  refine g_iand dX4_trade_53 ?_
  refine g_istore (L' := [some (.ref 0), some (.int x1), some (.int x2), some (.int (x2 >>> (3 &&& 31))), some (.int (x2 &&& 7))]) dX4_trade_54 rfl (by decide) rfl ?_
  refine g_iload_n dX4_trade_56 rfl ?_
  exact g_if_ne (tgt := 85) dX4_trade_57 (by decide) (fun hc => by refine g_forget (mask := [false, true, false, true, true]) (L' := [none, some (.int x1), none, some (.int (x2 >>> (3 &&& 31))), some (.int (x2 &&& 7))]) rfl ?_; exact k1 hc) (fun hc => by refine g_forget (mask := [true, false, false, true, true]) (L' := [some (.ref 0), none, none, some (.int (x2 >>> (3 &&& 31))), some (.int (x2 &&& 7))]) rfl ?_; exact k2 hc)
theorem sX4_trade_42 {post : Option Value → PH → Prop} {h : PH} (k : post (some (.int (-1001))) h) : G 5 mX4_trade post 42 [none, none, none, none, none] [] h := by
  refine g_sipush (v := (-1001)) dX4_trade_42 rfl ?_
  exact g_ireturn (ty := .int) dX4_trade_45 rfl rfl k
theorem sX4_trade_85 {post : Option Value → PH → Prop} {h : PH} {x1 x3 x4 : Int32} (k1 : ¬ x1 = 1 → G 5 mX4_trade post 94 [none, none, none, none, some (.int x4)] [] h) (k2 : x1 = 1 → G 5 mX4_trade post 90 [none, none, none, some (.int x3), none] [] h) : G 5 mX4_trade post 85 [none, some (.int x1), none, some (.int x3), some (.int x4)] [] h := by
  refine g_iload_n dX4_trade_85 rfl ?_
  refine g_iconst (v := 1) dX4_trade_86 rfl ?_
  exact g_icmp_ne (tgt := 94) dX4_trade_87 (by decide) (fun hc => by refine g_forget (mask := [true, false, true, false, true]) (L' := [none, none, none, none, some (.int x4)]) rfl ?_; exact k1 hc) (fun hc => by refine g_forget (mask := [true, false, true, true, false]) (L' := [none, none, none, some (.int x3), none]) rfl ?_; exact k2 hc)
theorem sX4_trade_60 {post : Option Value → PH → Prop} {h : PH} {x3 x4 : Int32} (k : Ev 3 mX3_heatsByTrade [.ref 2, .int x3, .int x4] h (fun r h' => G 5 mX4_trade post 70 [some (.ref 0), none, none, none, none] (r.toList ++ []) h')) : G 5 mX4_trade post 60 [some (.ref 0), none, none, some (.int x3), some (.int x4)] [] h := by
  refine g_aload_n dX4_trade_60 rfl ?_
  refine g_getfield (kd := 4) (v := .ref 2) dX4_trade_61 fX4_19 (by decide) rfl rfl rfl rfl ?_
  refine g_iload_n dX4_trade_64 rfl ?_
  refine g_iload dX4_trade_65 rfl ?_
  refine g_forget (mask := [true, true, true, false, false]) (L' := [some (.ref 0), none, none, none, none]) rfl ?_
  exact g_callV (n := 2) (b := 2) (as := [.int x3, .int x4]) (rest := []) dX4_trade_67 kX3_heatsByTrade lX4_156 (by decide) rfl ⟨_, _, rfl⟩ rfl rfl (by simp only [List.map, Value.category]; decide) (by decide) k
theorem sX4_trade_94 {post : Option Value → PH → Prop} {h : PH} {x4 : Int32} (k : post (some (.int x4)) h) : G 5 mX4_trade post 94 [none, none, none, none, some (.int x4)] [] h := by
  refine g_iload dX4_trade_94 rfl ?_
  exact g_ireturn (ty := .int) dX4_trade_96 rfl rfl k
theorem sX4_trade_90 {post : Option Value → PH → Prop} {h : PH} {x3 : Int32} (k : post (some (.int x3)) h) : G 5 mX4_trade post 90 [none, none, none, some (.int x3), none] [] h := by
  refine g_iload_n dX4_trade_90 rfl ?_
  refine g_goto (tgt := 96) dX4_trade_91 (by decide) ?_
  exact g_ireturn (ty := .int) dX4_trade_96 rfl rfl k
theorem sX4_trade_70 {post : Option Value → PH → Prop} {h : PH} {s0 : Int32} (k : Ev 1 mX4_sum [.int s0] h (fun r h' => G 5 mX4_trade post 73 [some (.ref 0), none, none, none, none] (r.toList ++ []) h')) : G 5 mX4_trade post 70 [some (.ref 0), none, none, none, none] [.int s0] h := by
  exact g_callS (n := 1) (as := [.int s0]) (rest := []) dX4_trade_70 kX4_sum lX4_113 rfl rfl (by simp only [List.map, Value.category]; decide) (by decide) k
theorem sX4_trade_73 {post : Option Value → PH → Prop} {h : PH} {s0 : Int32} (k : Ev 3 mX3_heats [.ref 2] h (fun r h' => G 5 mX4_trade post 80 [none, none, none, none, none] (r.toList ++ [.int s0]) h')) : G 5 mX4_trade post 73 [some (.ref 0), none, none, none, none] [.int s0] h := by
  refine g_aload_n dX4_trade_73 rfl ?_
  refine g_getfield (kd := 4) (v := .ref 2) dX4_trade_74 fX4_19 (by decide) rfl rfl rfl rfl ?_
  refine g_forget (mask := [false, true, true, true, true]) (L' := [none, none, none, none, none]) rfl ?_
  exact g_callV (n := 0) (b := 2) (as := []) (rest := [.int s0]) dX4_trade_77 kX3_heats lX4_92 (by decide) rfl ⟨_, _, rfl⟩ rfl rfl (by simp only [List.map, Value.category]; decide) (by decide) k
theorem sX4_trade_80 {post : Option Value → PH → Prop} {h : PH} {s0 s1 : Int32} (k : Ev 1 mX4_sum [.int s0] h (fun r h' => G 5 mX4_trade post 83 [none, none, none, none, none] (r.toList ++ [.int s1]) h')) : G 5 mX4_trade post 80 [none, none, none, none, none] [.int s0, .int s1] h := by
  exact g_callS (n := 1) (as := [.int s0]) (rest := [.int s1]) dX4_trade_80 kX4_sum lX4_113 rfl rfl (by simp only [List.map, Value.category]; decide) (by decide) k
theorem sX4_trade_83 {post : Option Value → PH → Prop} {h : PH} {s0 s1 : Int32} (k : post (some (.int (s1 - s0))) h) : G 5 mX4_trade post 83 [none, none, none, none, none] [.int s0, .int s1] h := by
  refine g_isub dX4_trade_83 ?_
  exact g_ireturn (ty := .int) dX4_trade_84 rfl rfl k
theorem sX4_relief_0 {post : Option Value → PH → Prop} {h : PH} (k : Ev 0 mX3_isRead [.ref 2] h (fun r h' => G 4 mX4_relief post 7 [some (.ref 0)] (r.toList ++ []) h')) : G 4 mX4_relief post 0 [some (.ref 0)] [] h := by
  refine g_aload_n dX4_relief_0 rfl ?_
  refine g_getfield (kd := 4) (v := .ref 2) dX4_relief_1 fX4_19 (by decide) rfl rfl rfl rfl ?_
  exact g_callV (n := 0) (b := 2) (as := []) (rest := []) dX4_relief_4 kX3_isRead lX4_70 (by decide) rfl ⟨_, _, rfl⟩ rfl rfl (by simp only [List.map, Value.category]; decide) (by decide) k
theorem sX4_relief_7 {post : Option Value → PH → Prop} {h : PH} {s0 : Int32} (k1 : s0 = 0 → G 4 mX4_relief post 20 [none] [] h) (k2 : ¬ s0 = 0 → G 4 mX4_relief post 10 [some (.ref 0)] [] h) : G 4 mX4_relief post 7 [some (.ref 0)] [.int s0] h := by
  exact g_if_eq (tgt := 20) dX4_relief_7 (by decide) (fun hc => by refine g_forget (mask := [false]) (L' := [none]) rfl ?_; exact k1 hc) (fun hc => k2 hc)
theorem sX4_relief_20 {post : Option Value → PH → Prop} {h : PH} (k : post (some (.int (-1004))) h) : G 4 mX4_relief post 20 [none] [] h := by
  refine g_sipush (v := (-1004)) dX4_relief_20 rfl ?_
  exact g_ireturn (ty := .int) dX4_relief_23 rfl rfl k
theorem sX4_relief_10 {post : Option Value → PH → Prop} {h : PH} (k : Ev 3 mX3_bestRelief [.ref 2] h (fun r h' => G 4 mX4_relief post 17 [none] (r.toList ++ []) h')) : G 4 mX4_relief post 10 [some (.ref 0)] [] h := by
  refine g_aload_n dX4_relief_10 rfl ?_
  refine g_getfield (kd := 4) (v := .ref 2) dX4_relief_11 fX4_19 (by decide) rfl rfl rfl rfl ?_
  refine g_forget (mask := [false]) (L' := [none]) rfl ?_
  exact g_callV (n := 0) (b := 2) (as := []) (rest := []) dX4_relief_14 kX3_bestRelief lX4_159 (by decide) rfl ⟨_, _, rfl⟩ rfl rfl (by simp only [List.map, Value.category]; decide) (by decide) k
theorem sX4_relief_17 {post : Option Value → PH → Prop} {h : PH} {s0 : Int32} (k : post (some (.int s0)) h) : G 4 mX4_relief post 17 [none] [.int s0] h := by
  refine g_goto (tgt := 23) dX4_relief_17 (by decide) ?_
  exact g_ireturn (ty := .int) dX4_relief_23 rfl rfl k
theorem sX4_count_0 {post : Option Value → PH → Prop} {h : PH} {x1 : Int32} (kd : (Int32.toInt x1) < 0 ∨ 9 < (Int32.toInt x1) → G 4 mX4_count post 164 [none, none] [] h) (k0 : (Int32.toInt x1) = 0 → G 4 mX4_count post 56 [some (.ref 0), none] [] h) (k1 : (Int32.toInt x1) = 1 → G 4 mX4_count post 64 [some (.ref 0), none] [] h) (k2 : (Int32.toInt x1) = 2 → G 4 mX4_count post 72 [some (.ref 0), none] [] h) (k3 : (Int32.toInt x1) = 3 → G 4 mX4_count post 80 [some (.ref 0), none] [] h) (k4 : (Int32.toInt x1) = 4 → G 4 mX4_count post 91 [some (.ref 0), none] [] h) (k5 : (Int32.toInt x1) = 5 → G 4 mX4_count post 114 [some (.ref 0), none] [] h) (k6 : (Int32.toInt x1) = 6 → G 4 mX4_count post 138 [some (.ref 0), none] [] h) (k7 : (Int32.toInt x1) = 7 → G 4 mX4_count post 146 [some (.ref 0), none] [] h) (k8 : (Int32.toInt x1) = 8 → G 4 mX4_count post 154 [some (.ref 0), none] [] h) (k9 : (Int32.toInt x1) = 9 → G 4 mX4_count post 159 [some (.ref 0), none] [] h) : G 4 mX4_count post 0 [some (.ref 0), some (.int x1)] [] h := by
  refine g_iload_n dX4_count_0 rfl ?_
  by_cases hc : (Int32.toInt x1) < 0 ∨ 9 < (Int32.toInt x1)
  · exact g_tableOut (tgt := 164) dX4_count_1 hc (by decide) (by refine g_forget (mask := [false, false]) (L' := [none, none]) rfl ?_; exact kd hc)
  rcases (show (Int32.toInt x1) = 0 ∨ (Int32.toInt x1) = 1 ∨ (Int32.toInt x1) = 2 ∨ (Int32.toInt x1) = 3 ∨ (Int32.toInt x1) = 4 ∨ (Int32.toInt x1) = 5 ∨ (Int32.toInt x1) = 6 ∨ (Int32.toInt x1) = 7 ∨ (Int32.toInt x1) = 8 ∨ (Int32.toInt x1) = 9 by omega) with hv | hv | hv | hv | hv | hv | hv | hv | hv | hv
  · exact g_tableIn (tgt := 56) dX4_count_1 (by omega) (by omega) (by rw [hv]; rfl) (by decide) (by refine g_forget (mask := [true, false]) (L' := [some (.ref 0), none]) rfl ?_; exact k0 hv)
  · exact g_tableIn (tgt := 64) dX4_count_1 (by omega) (by omega) (by rw [hv]; rfl) (by decide) (by refine g_forget (mask := [true, false]) (L' := [some (.ref 0), none]) rfl ?_; exact k1 hv)
  · exact g_tableIn (tgt := 72) dX4_count_1 (by omega) (by omega) (by rw [hv]; rfl) (by decide) (by refine g_forget (mask := [true, false]) (L' := [some (.ref 0), none]) rfl ?_; exact k2 hv)
  · exact g_tableIn (tgt := 80) dX4_count_1 (by omega) (by omega) (by rw [hv]; rfl) (by decide) (by refine g_forget (mask := [true, false]) (L' := [some (.ref 0), none]) rfl ?_; exact k3 hv)
  · exact g_tableIn (tgt := 91) dX4_count_1 (by omega) (by omega) (by rw [hv]; rfl) (by decide) (by refine g_forget (mask := [true, false]) (L' := [some (.ref 0), none]) rfl ?_; exact k4 hv)
  · exact g_tableIn (tgt := 114) dX4_count_1 (by omega) (by omega) (by rw [hv]; rfl) (by decide) (by refine g_forget (mask := [true, false]) (L' := [some (.ref 0), none]) rfl ?_; exact k5 hv)
  · exact g_tableIn (tgt := 138) dX4_count_1 (by omega) (by omega) (by rw [hv]; rfl) (by decide) (by refine g_forget (mask := [true, false]) (L' := [some (.ref 0), none]) rfl ?_; exact k6 hv)
  · exact g_tableIn (tgt := 146) dX4_count_1 (by omega) (by omega) (by rw [hv]; rfl) (by decide) (by refine g_forget (mask := [true, false]) (L' := [some (.ref 0), none]) rfl ?_; exact k7 hv)
  · exact g_tableIn (tgt := 154) dX4_count_1 (by omega) (by omega) (by rw [hv]; rfl) (by decide) (by refine g_forget (mask := [true, false]) (L' := [some (.ref 0), none]) rfl ?_; exact k8 hv)
  · exact g_tableIn (tgt := 159) dX4_count_1 (by omega) (by omega) (by rw [hv]; rfl) (by decide) (by refine g_forget (mask := [true, false]) (L' := [some (.ref 0), none]) rfl ?_; exact k9 hv)
theorem sX4_count_164 {post : Option Value → PH → Prop} {h : PH} (k : post (some (.int (-1003))) h) : G 4 mX4_count post 164 [none, none] [] h := by
  refine g_sipush (v := (-1003)) dX4_count_164 rfl ?_
  exact g_ireturn (ty := .int) dX4_count_167 rfl rfl k
theorem sX4_count_56 {post : Option Value → PH → Prop} {h : PH} (k : post (some (.int (h.1 2 0))) h) : G 4 mX4_count post 56 [some (.ref 0), none] [] h := by
  refine g_aload_n dX4_count_56 rfl ?_
  refine g_getfield (kd := 4) (v := .ref 2) dX4_count_57 fX4_19 (by decide) rfl rfl rfl rfl ?_
  refine g_getfield (kd := 0) (v := .int (h.1 2 0)) dX4_count_60 fX4_56 (by decide) rfl rfl rfl rfl ?_
  exact g_ireturn (ty := .int) dX4_count_63 rfl rfl k
theorem sX4_count_64 {post : Option Value → PH → Prop} {h : PH} (k : post (some (.int (h.1 2 1))) h) : G 4 mX4_count post 64 [some (.ref 0), none] [] h := by
  refine g_aload_n dX4_count_64 rfl ?_
  refine g_getfield (kd := 4) (v := .ref 2) dX4_count_65 fX4_19 (by decide) rfl rfl rfl rfl ?_
  refine g_getfield (kd := 0) (v := .int (h.1 2 1)) dX4_count_68 fX4_162 (by decide) rfl rfl rfl rfl ?_
  exact g_ireturn (ty := .int) dX4_count_71 rfl rfl k
theorem sX4_count_72 {post : Option Value → PH → Prop} {h : PH} (k : post (some (.int (h.1 1 1))) h) : G 4 mX4_count post 72 [some (.ref 0), none] [] h := by
  refine g_aload_n dX4_count_72 rfl ?_
  refine g_getfield (kd := 3) (v := .ref 1) dX4_count_73 fX4_10 (by decide) rfl rfl rfl rfl ?_
  refine g_getfield (kd := 0) (v := .int (h.1 1 1)) dX4_count_76 fX4_30 (by decide) rfl rfl rfl rfl ?_
  exact g_ireturn (ty := .int) dX4_count_79 rfl rfl k
theorem sX4_count_80 {post : Option Value → PH → Prop} {h : PH} (k : Ev 3 mX3_heats [.ref 2] h (fun r h' => G 4 mX4_count post 87 [none, none] (r.toList ++ []) h')) : G 4 mX4_count post 80 [some (.ref 0), none] [] h := by
  refine g_aload_n dX4_count_80 rfl ?_
  refine g_getfield (kd := 4) (v := .ref 2) dX4_count_81 fX4_19 (by decide) rfl rfl rfl rfl ?_
  refine g_forget (mask := [false, true]) (L' := [none, none]) rfl ?_
  exact g_callV (n := 0) (b := 2) (as := []) (rest := []) dX4_count_84 kX3_heats lX4_92 (by decide) rfl ⟨_, _, rfl⟩ rfl rfl (by simp only [List.map, Value.category]; decide) (by decide) k
theorem sX4_count_91 {post : Option Value → PH → Prop} {h : PH} (k : Ev 3 mX3_heats [.ref 2] h (fun r h' => G 4 mX4_count post 102 [none, none] (r.toList ++ [.ref 2]) h')) : G 4 mX4_count post 91 [some (.ref 0), none] [] h := by
  refine g_aload_n dX4_count_91 rfl ?_
  refine g_getfield (kd := 4) (v := .ref 2) dX4_count_92 fX4_19 (by decide) rfl rfl rfl rfl ?_
  refine g_aload_n dX4_count_95 rfl ?_
  refine g_getfield (kd := 4) (v := .ref 2) dX4_count_96 fX4_19 (by decide) rfl rfl rfl rfl ?_
  refine g_forget (mask := [false, true]) (L' := [none, none]) rfl ?_
  exact g_callV (n := 0) (b := 2) (as := []) (rest := [.ref 2]) dX4_count_99 kX3_heats lX4_92 (by decide) rfl ⟨_, _, rfl⟩ rfl rfl (by simp only [List.map, Value.category]; decide) (by decide) k
theorem sX4_count_114 {post : Option Value → PH → Prop} {h : PH} (k : Ev 2 mX3_heatsWithout [.ref 2, .int 0] h (fun r h' => G 4 mX4_count post 126 [none, none] (r.toList ++ [.ref 2]) h')) : G 4 mX4_count post 114 [some (.ref 0), none] [] h := by
  refine g_aload_n dX4_count_114 rfl ?_
  refine g_getfield (kd := 4) (v := .ref 2) dX4_count_115 fX4_19 (by decide) rfl rfl rfl rfl ?_
  refine g_aload_n dX4_count_118 rfl ?_
  refine g_getfield (kd := 4) (v := .ref 2) dX4_count_119 fX4_19 (by decide) rfl rfl rfl rfl ?_
  refine g_iconst (v := 0) dX4_count_122 rfl ?_
  refine g_forget (mask := [false, true]) (L' := [none, none]) rfl ?_
  exact g_callV (n := 1) (b := 2) (as := [.int 0]) (rest := [.ref 2]) dX4_count_123 kX3_heatsWithout lX4_120 (by decide) rfl ⟨_, _, rfl⟩ rfl rfl (by simp only [List.map, Value.category]; decide) (by decide) k
theorem sX4_count_138 {post : Option Value → PH → Prop} {h : PH} (k : post (some (.int (h.1 2 3))) h) : G 4 mX4_count post 138 [some (.ref 0), none] [] h := by
  refine g_aload_n dX4_count_138 rfl ?_
  refine g_getfield (kd := 4) (v := .ref 2) dX4_count_139 fX4_19 (by decide) rfl rfl rfl rfl ?_
  refine g_getfield (kd := 0) (v := .int (h.1 2 3)) dX4_count_142 fX4_73 (by decide) rfl rfl rfl rfl ?_
  exact g_ireturn (ty := .int) dX4_count_145 rfl rfl k
theorem sX4_count_146 {post : Option Value → PH → Prop} {h : PH} (k : post (some (.int (h.1 2 4))) h) : G 4 mX4_count post 146 [some (.ref 0), none] [] h := by
  refine g_aload_n dX4_count_146 rfl ?_
  refine g_getfield (kd := 4) (v := .ref 2) dX4_count_147 fX4_19 (by decide) rfl rfl rfl rfl ?_
  refine g_getfield (kd := 0) (v := .int (h.1 2 4)) dX4_count_150 fX4_79 (by decide) rfl rfl rfl rfl ?_
  exact g_ireturn (ty := .int) dX4_count_153 rfl rfl k
theorem sX4_count_154 {post : Option Value → PH → Prop} {h : PH} (k : post (some (.int (h.1 0 3))) h) : G 4 mX4_count post 154 [some (.ref 0), none] [] h := by
  refine g_aload_n dX4_count_154 rfl ?_
  refine g_getfield (kd := 0) (v := .int (h.1 0 3)) dX4_count_155 fX4_53 (by decide) rfl rfl rfl rfl ?_
  exact g_ireturn (ty := .int) dX4_count_158 rfl rfl k
theorem sX4_count_159 {post : Option Value → PH → Prop} {h : PH} (k : post (some (.int (h.1 0 4))) h) : G 4 mX4_count post 159 [some (.ref 0), none] [] h := by
  refine g_aload_n dX4_count_159 rfl ?_
  refine g_getfield (kd := 0) (v := .int (h.1 0 4)) dX4_count_160 fX4_98 (by decide) rfl rfl rfl rfl ?_
  exact g_ireturn (ty := .int) dX4_count_163 rfl rfl k
theorem sX4_count_87 {post : Option Value → PH → Prop} {h : PH} {s0 : Int32} (k : Ev 1 mX4_sum [.int s0] h (fun r h' => G 4 mX4_count post 90 [none, none] (r.toList ++ []) h')) : G 4 mX4_count post 87 [none, none] [.int s0] h := by
  exact g_callS (n := 1) (as := [.int s0]) (rest := []) dX4_count_87 kX4_sum lX4_113 rfl rfl (by simp only [List.map, Value.category]; decide) (by decide) k
theorem sX4_count_102 {post : Option Value → PH → Prop} {h : PH} {s0 : Int32} (k : Ev 0 mX3_isSafe [.ref 2, .int s0] h (fun r h' => G 4 mX4_count post 105 [none, none] (r.toList ++ []) h')) : G 4 mX4_count post 102 [none, none] [.int s0, .ref 2] h := by
  exact g_callV (n := 1) (b := 2) (as := [.int s0]) (rest := []) dX4_count_102 kX3_isSafe lX4_95 (by decide) rfl ⟨_, _, rfl⟩ rfl rfl (by simp only [List.map, Value.category]; decide) (by decide) k
theorem sX4_count_126 {post : Option Value → PH → Prop} {h : PH} {s0 : Int32} (k : Ev 0 mX3_isSafe [.ref 2, .int s0] h (fun r h' => G 4 mX4_count post 129 [none, none] (r.toList ++ []) h')) : G 4 mX4_count post 126 [none, none] [.int s0, .ref 2] h := by
  exact g_callV (n := 1) (b := 2) (as := [.int s0]) (rest := []) dX4_count_126 kX3_isSafe lX4_95 (by decide) rfl ⟨_, _, rfl⟩ rfl rfl (by simp only [List.map, Value.category]; decide) (by decide) k
theorem sX4_count_90 {post : Option Value → PH → Prop} {h : PH} {s0 : Int32} (k : post (some (.int s0)) h) : G 4 mX4_count post 90 [none, none] [.int s0] h := by
  exact g_ireturn (ty := .int) dX4_count_90 rfl rfl k
theorem sX4_count_105 {post : Option Value → PH → Prop} {h : PH} {s0 : Int32} (k1 : s0 = 0 → G 4 mX4_count post 112 [none, none] [] h) (k2 : ¬ s0 = 0 → G 4 mX4_count post 108 [none, none] [] h) : G 4 mX4_count post 105 [none, none] [.int s0] h := by
  exact g_if_eq (tgt := 112) dX4_count_105 (by decide) (fun hc => k1 hc) (fun hc => k2 hc)
theorem sX4_count_129 {post : Option Value → PH → Prop} {h : PH} {s0 : Int32} (k1 : s0 = 0 → G 4 mX4_count post 136 [none, none] [] h) (k2 : ¬ s0 = 0 → G 4 mX4_count post 132 [none, none] [] h) : G 4 mX4_count post 129 [none, none] [.int s0] h := by
  exact g_if_eq (tgt := 136) dX4_count_129 (by decide) (fun hc => k1 hc) (fun hc => k2 hc)
theorem sX4_count_112 {post : Option Value → PH → Prop} {h : PH} (k : post (some (.int 0)) h) : G 4 mX4_count post 112 [none, none] [] h := by
  refine g_iconst (v := 0) dX4_count_112 rfl ?_
  exact g_ireturn (ty := .int) dX4_count_113 rfl rfl k
theorem sX4_count_108 {post : Option Value → PH → Prop} {h : PH} (k : post (some (.int 1)) h) : G 4 mX4_count post 108 [none, none] [] h := by
  refine g_iconst (v := 1) dX4_count_108 rfl ?_
  refine g_goto (tgt := 113) dX4_count_109 (by decide) ?_
  exact g_ireturn (ty := .int) dX4_count_113 rfl rfl k
theorem sX4_count_136 {post : Option Value → PH → Prop} {h : PH} (k : post (some (.int 0)) h) : G 4 mX4_count post 136 [none, none] [] h := by
  refine g_iconst (v := 0) dX4_count_136 rfl ?_
  exact g_ireturn (ty := .int) dX4_count_137 rfl rfl k
theorem sX4_count_132 {post : Option Value → PH → Prop} {h : PH} (k : post (some (.int 1)) h) : G 4 mX4_count post 132 [none, none] [] h := by
  refine g_iconst (v := 1) dX4_count_132 rfl ?_
  refine g_goto (tgt := 137) dX4_count_133 (by decide) ?_
  exact g_ireturn (ty := .int) dX4_count_137 rfl rfl k
theorem sX4_digest_0 {post : Option Value → PH → Prop} {h : PH} (k : Ev 5 mX4_digestOfParts [.ref 0, .long 1733] h (fun r h' => G 11 mX4_digest post 7 [some (.ref 0), none, none, none, none, none] (r.toList ++ []) h')) : G 11 mX4_digest post 0 [some (.ref 0), none, none, none, none, none] [] h := by
  refine g_aload_n dX4_digest_0 rfl ?_
  refine g_ldc2 dX4_digest_1 pX4_165 ?_
  exact g_callV (n := 1) (b := 0) (as := [.long 1733]) (rest := []) dX4_digest_4 kX4_digestOfParts lX4_167 (by decide) rfl ⟨_, _, rfl⟩ rfl rfl (by simp only [List.map, Value.category]; decide) (by decide) k
theorem sX4_digest_7 {post : Option Value → PH → Prop} {h : PH} {t0 : Int64} (k : Ev 0 mX3_isRead [.ref 2] h (fun r h' => G 11 mX4_digest post 15 [some (.ref 0), some (.long t0), none, none, none, none] (r.toList ++ []) h')) : G 11 mX4_digest post 7 [some (.ref 0), none, none, none, none, none] [.long t0] h := by
  refine g_lstore_n (L' := [some (.ref 0), some (.long t0), none, none, none, none]) dX4_digest_7 rfl (by decide) rfl ?_
  refine g_aload_n dX4_digest_8 rfl ?_
  refine g_getfield (kd := 4) (v := .ref 2) dX4_digest_9 fX4_19 (by decide) rfl rfl rfl rfl ?_
  exact g_callV (n := 0) (b := 2) (as := []) (rest := []) dX4_digest_12 kX3_isRead lX4_70 (by decide) rfl ⟨_, _, rfl⟩ rfl rfl (by simp only [List.map, Value.category]; decide) (by decide) k
theorem sX4_digest_15 {post : Option Value → PH → Prop} {h : PH} {s0 : Int32} {y1 : Int64} (k1 : s0 = 0 → G 11 mX4_digest post 192 [some (.ref 0), some (.long y1), none, none, none, none] [] h) (k2 : ¬ s0 = 0 → G 11 mX4_digest post 18 [some (.ref 0), some (.long y1), none, none, none, none] [] h) : G 11 mX4_digest post 15 [some (.ref 0), some (.long y1), none, none, none, none] [.int s0] h := by
  exact g_if_eq (tgt := 192) dX4_digest_15 (by decide) (fun hc => k1 hc) (fun hc => k2 hc)
theorem sX4_digest_192 {post : Option Value → PH → Prop} {h : PH} {y1 : Int64} (k : G 11 mX4_digest post 194 [some (.ref 0), some (.long y1), none, some (.int 0), none, none] [] h) : G 11 mX4_digest post 192 [some (.ref 0), some (.long y1), none, none, none, none] [] h := by
  refine g_iconst (v := 0) dX4_digest_192 rfl ?_
  refine g_istore_n (L' := [some (.ref 0), some (.long y1), none, some (.int 0), none, none]) dX4_digest_193 rfl (by decide) rfl ?_
  exact k
theorem sX4_digest_18 {post : Option Value → PH → Prop} {h : PH} {y1 : Int64} (k : G 11 mX4_digest post 20 [some (.ref 0), some (.long y1), none, some (.int 0), none, none] [] h) : G 11 mX4_digest post 18 [some (.ref 0), some (.long y1), none, none, none, none] [] h := by
  refine g_iconst (v := 0) dX4_digest_18 rfl ?_
  refine g_istore_n (L' := [some (.ref 0), some (.long y1), none, some (.int 0), none, none]) dX4_digest_19 rfl (by decide) rfl ?_
  exact k
theorem sX4_digest_194 {post : Option Value → PH → Prop} {h : PH} {x3 : Int32} {y1 : Int64} (k1 : (h.1 1 1) ≤ x3 → G 11 mX4_digest post 227 [some (.ref 0), some (.long y1), none, none, none, none] [] h) (k2 : ¬ (h.1 1 1) ≤ x3 → G 11 mX4_digest post 205 [some (.ref 0), some (.long y1), none, some (.int x3), none, none] [] h) : G 11 mX4_digest post 194 [some (.ref 0), some (.long y1), none, some (.int x3), none, none] [] h := by
  refine g_iload_n dX4_digest_194 rfl ?_
  refine g_aload_n dX4_digest_195 rfl ?_
  refine g_getfield (kd := 3) (v := .ref 1) dX4_digest_196 fX4_10 (by decide) rfl rfl rfl rfl ?_
  refine g_getfield (kd := 0) (v := .int (h.1 1 1)) dX4_digest_199 fX4_30 (by decide) rfl rfl rfl rfl ?_
  exact g_icmp_ge (tgt := 227) dX4_digest_202 (by decide) (fun hc => by refine g_forget (mask := [true, true, true, false, true, true]) (L' := [some (.ref 0), some (.long y1), none, none, none, none]) rfl ?_; exact k1 hc) (fun hc => k2 hc)
theorem sX4_digest_20 {post : Option Value → PH → Prop} {h : PH} {x3 : Int32} {y1 : Int64} (k1 : 1 < x3 → G 11 mX4_digest post 154 [some (.ref 0), some (.long y1), none, none, none, none] [] h) (k2 : ¬ 1 < x3 → G 11 mX4_digest post 25 [some (.ref 0), some (.long y1), none, some (.int x3), none, none] [] h) : G 11 mX4_digest post 20 [some (.ref 0), some (.long y1), none, some (.int x3), none, none] [] h := by
  refine g_iload_n dX4_digest_20 rfl ?_
  refine g_iconst (v := 1) dX4_digest_21 rfl ?_
  exact g_icmp_gt (tgt := 154) dX4_digest_22 (by decide) (fun hc => by refine g_forget (mask := [true, true, true, false, true, true]) (L' := [some (.ref 0), some (.long y1), none, none, none, none]) rfl ?_; exact k1 hc) (fun hc => k2 hc)
theorem sX4_digest_227 {post : Option Value → PH → Prop} {h : PH} {y1 : Int64} (k : G 11 mX4_digest post 229 [some (.ref 0), some (.long y1), none, some (.int 0), none, none] [] h) : G 11 mX4_digest post 227 [some (.ref 0), some (.long y1), none, none, none, none] [] h := by
  refine g_iconst (v := 0) dX4_digest_227 rfl ?_
  refine g_istore_n (L' := [some (.ref 0), some (.long y1), none, some (.int 0), none, none]) dX4_digest_228 rfl (by decide) rfl ?_
  exact k
theorem sX4_digest_205 {post : Option Value → PH → Prop} {h : PH} {x3 : Int32} {y1 : Int64} (k : Ev 0 mX0_codeAt [.ref 1, .int x3] h (fun r h' => G 11 mX4_digest post 218 [some (.ref 0), none, none, some (.int x3), none, none] (r.toList ++ [.long (31 * y1)]) h')) : G 11 mX4_digest post 205 [some (.ref 0), some (.long y1), none, some (.int x3), none, none] [] h := by
  refine g_ldc2 dX4_digest_205 pX4_171 ?_
  refine g_lload_n dX4_digest_208 rfl ?_
  refine g_lmul dX4_digest_209 ?_
  refine g_aload_n dX4_digest_210 rfl ?_
  refine g_getfield (kd := 3) (v := .ref 1) dX4_digest_211 fX4_10 (by decide) rfl rfl rfl rfl ?_
  refine g_iload_n dX4_digest_214 rfl ?_
  refine g_forget (mask := [true, false, true, true, true, true]) (L' := [some (.ref 0), none, none, some (.int x3), none, none]) rfl ?_
  exact g_callV (n := 1) (b := 1) (as := [.int x3]) (rest := [.long (31 * y1)]) dX4_digest_215 kX0_codeAt lX4_186 (by decide) rfl ⟨_, _, rfl⟩ rfl rfl (by simp only [List.map, Value.category]; decide) (by decide) k
theorem sX4_digest_154 {post : Option Value → PH → Prop} {h : PH} {y1 : Int64} (k : G 11 mX4_digest post 156 [some (.ref 0), some (.long y1), none, some (.int 0), none, none] [] h) : G 11 mX4_digest post 154 [some (.ref 0), some (.long y1), none, none, none, none] [] h := by
  refine g_iconst (v := 0) dX4_digest_154 rfl ?_
  refine g_istore_n (L' := [some (.ref 0), some (.long y1), none, some (.int 0), none, none]) dX4_digest_155 rfl (by decide) rfl ?_
  exact k
theorem sX4_digest_25 {post : Option Value → PH → Prop} {h : PH} {x3 : Int32} {y1 : Int64} (k1 : ¬ x3 = 1 → G 11 mX4_digest post 34 [some (.ref 0), some (.long y1), none, some (.int x3), none, none] [] h) (k2 : x3 = 1 → G 11 mX4_digest post 30 [some (.ref 0), some (.long y1), none, some (.int x3), none, none] [] h) : G 11 mX4_digest post 25 [some (.ref 0), some (.long y1), none, some (.int x3), none, none] [] h := by
  refine g_iload_n dX4_digest_25 rfl ?_
  refine g_iconst (v := 1) dX4_digest_26 rfl ?_
  exact g_icmp_ne (tgt := 34) dX4_digest_27 (by decide) (fun hc => k1 hc) (fun hc => k2 hc)
theorem sX4_digest_229 {post : Option Value → PH → Prop} {h : PH} {x3 : Int32} {y1 : Int64} (k1 : 9 < x3 → G 11 mX4_digest post 254 [none, some (.long y1), none, none, none, none] [] h) (k2 : ¬ 9 < x3 → G 11 mX4_digest post 235 [some (.ref 0), some (.long y1), none, some (.int x3), none, none] [] h) : G 11 mX4_digest post 229 [some (.ref 0), some (.long y1), none, some (.int x3), none, none] [] h := by
  refine g_iload_n dX4_digest_229 rfl ?_
  refine g_bipush (v := 9) dX4_digest_230 rfl ?_
  exact g_icmp_gt (tgt := 254) dX4_digest_232 (by decide) (fun hc => by refine g_forget (mask := [false, true, true, false, true, true]) (L' := [none, some (.long y1), none, none, none, none]) rfl ?_; exact k1 hc) (fun hc => k2 hc)
theorem sX4_digest_218 {post : Option Value → PH → Prop} {h : PH} {x3 s0 : Int32} {t1 : Int64} (k : G 11 mX4_digest post 194 [some (.ref 0), some (.long (t1 + (Int32.toInt64 s0))), none, some (.int (x3 + 1)), none, none] [] h) : G 11 mX4_digest post 218 [some (.ref 0), none, none, some (.int x3), none, none] [.int s0, .long t1] h := by
  refine g_i2l dX4_digest_218 ?_
  refine g_ladd dX4_digest_219 ?_
  refine g_lstore_n (L' := [some (.ref 0), some (.long (t1 + (Int32.toInt64 s0))), none, some (.int x3), none, none]) dX4_digest_220 rfl (by decide) rfl ?_
  refine g_iinc (v := (x3 + 1)) (L' := [some (.ref 0), some (.long (t1 + (Int32.toInt64 s0))), none, some (.int (x3 + 1)), none, none]) dX4_digest_221 rfl rfl rfl (by decide) rfl ?_
  refine g_goto (tgt := 194) dX4_digest_224 (by decide) ?_
  exact k
theorem sX4_digest_156 {post : Option Value → PH → Prop} {h : PH} {x3 : Int32} {y1 : Int64} (k1 : 2 < x3 → G 11 mX4_digest post 180 [some (.ref 0), some (.long y1), none, none, none, none] [] h) (k2 : ¬ 2 < x3 → G 11 mX4_digest post 161 [some (.ref 0), some (.long y1), none, some (.int x3), none, none] [] h) : G 11 mX4_digest post 156 [some (.ref 0), some (.long y1), none, some (.int x3), none, none] [] h := by
  refine g_iload_n dX4_digest_156 rfl ?_
  refine g_iconst (v := 2) dX4_digest_157 rfl ?_
  exact g_icmp_gt (tgt := 180) dX4_digest_158 (by decide) (fun hc => by refine g_forget (mask := [true, true, true, false, true, true]) (L' := [some (.ref 0), some (.long y1), none, none, none, none]) rfl ?_; exact k1 hc) (fun hc => k2 hc)
theorem sX4_digest_34 {post : Option Value → PH → Prop} {h : PH} {x3 : Int32} {y1 : Int64} (k : Ev 10 mX4_best [.ref 0, .int 0, .int 0] h (fun r h' => G 11 mX4_digest post 49 [some (.ref 0), none, none, some (.int x3), some (.int 0), none] (r.toList ++ [.long (31 * y1)]) h')) : G 11 mX4_digest post 34 [some (.ref 0), some (.long y1), none, some (.int x3), none, none] [] h := by
  refine g_iconst (v := 0) dX4_digest_34 rfl ?_
  refine g_istore (L' := [some (.ref 0), some (.long y1), none, some (.int x3), some (.int 0), none]) dX4_digest_35 rfl (by decide) rfl ?_
  refine g_ldc2 dX4_digest_37 pX4_171 ?_
  refine g_lload_n dX4_digest_40 rfl ?_
  refine g_lmul dX4_digest_41 ?_
  refine g_aload_n dX4_digest_42 rfl ?_
  refine g_iload dX4_digest_43 rfl ?_
  refine g_iconst (v := 0) dX4_digest_45 rfl ?_
  refine g_forget (mask := [true, false, true, true, true, true]) (L' := [some (.ref 0), none, none, some (.int x3), some (.int 0), none]) rfl ?_
  exact g_callV (n := 2) (b := 0) (as := [.int 0, .int 0]) (rest := [.long (31 * y1)]) dX4_digest_46 kX4_best lX4_173 (by decide) rfl ⟨_, _, rfl⟩ rfl rfl (by simp only [List.map, Value.category]; decide) (by decide) k
theorem sX4_digest_30 {post : Option Value → PH → Prop} {h : PH} {x3 : Int32} {y1 : Int64} (k : Ev 10 mX4_best [.ref 0, .int 1, .int 0] h (fun r h' => G 11 mX4_digest post 49 [some (.ref 0), none, none, some (.int x3), some (.int 1), none] (r.toList ++ [.long (31 * y1)]) h')) : G 11 mX4_digest post 30 [some (.ref 0), some (.long y1), none, some (.int x3), none, none] [] h := by
  refine g_iconst (v := 1) dX4_digest_30 rfl ?_
  refine g_goto (tgt := 35) dX4_digest_31 (by decide) ?_
  refine g_istore (L' := [some (.ref 0), some (.long y1), none, some (.int x3), some (.int 1), none]) dX4_digest_35 rfl (by decide) rfl ?_
  refine g_ldc2 dX4_digest_37 pX4_171 ?_
  refine g_lload_n dX4_digest_40 rfl ?_
  refine g_lmul dX4_digest_41 ?_
  refine g_aload_n dX4_digest_42 rfl ?_
  refine g_iload dX4_digest_43 rfl ?_
  refine g_iconst (v := 0) dX4_digest_45 rfl ?_
  refine g_forget (mask := [true, false, true, true, true, true]) (L' := [some (.ref 0), none, none, some (.int x3), some (.int 1), none]) rfl ?_
  exact g_callV (n := 2) (b := 0) (as := [.int 1, .int 0]) (rest := [.long (31 * y1)]) dX4_digest_46 kX4_best lX4_173 (by decide) rfl ⟨_, _, rfl⟩ rfl rfl (by simp only [List.map, Value.category]; decide) (by decide) k
theorem sX4_digest_254 {post : Option Value → PH → Prop} {h : PH} {y1 : Int64} (k : post (some (.long y1)) h) : G 11 mX4_digest post 254 [none, some (.long y1), none, none, none, none] [] h := by
  refine g_lload_n dX4_digest_254 rfl ?_
  exact g_lreturn dX4_digest_255 rfl k
theorem sX4_digest_235 {post : Option Value → PH → Prop} {h : PH} {x3 : Int32} {y1 : Int64} (k : Ev 4 mX4_count [.ref 0, .int x3] h (fun r h' => G 11 mX4_digest post 245 [some (.ref 0), none, none, some (.int x3), none, none] (r.toList ++ [.long (31 * y1)]) h')) : G 11 mX4_digest post 235 [some (.ref 0), some (.long y1), none, some (.int x3), none, none] [] h := by
  refine g_ldc2 dX4_digest_235 pX4_171 ?_
  refine g_lload_n dX4_digest_238 rfl ?_
  refine g_lmul dX4_digest_239 ?_
  refine g_aload_n dX4_digest_240 rfl ?_
  refine g_iload_n dX4_digest_241 rfl ?_
  refine g_forget (mask := [true, false, true, true, true, true]) (L' := [some (.ref 0), none, none, some (.int x3), none, none]) rfl ?_
  exact g_callV (n := 1) (b := 0) (as := [.int x3]) (rest := [.long (31 * y1)]) dX4_digest_242 kX4_count lX4_189 (by decide) rfl ⟨_, _, rfl⟩ rfl rfl (by simp only [List.map, Value.category]; decide) (by decide) k
theorem sX4_digest_180 {post : Option Value → PH → Prop} {h : PH} {y1 : Int64} (k : Ev 4 mX4_relief [.ref 0] h (fun r h' => G 11 mX4_digest post 189 [some (.ref 0), none, none, none, none, none] (r.toList ++ [.long (31 * y1)]) h')) : G 11 mX4_digest post 180 [some (.ref 0), some (.long y1), none, none, none, none] [] h := by
  refine g_ldc2 dX4_digest_180 pX4_171 ?_
  refine g_lload_n dX4_digest_183 rfl ?_
  refine g_lmul dX4_digest_184 ?_
  refine g_aload_n dX4_digest_185 rfl ?_
  refine g_forget (mask := [true, false, true, true, true, true]) (L' := [some (.ref 0), none, none, none, none, none]) rfl ?_
  exact g_callV (n := 0) (b := 0) (as := []) (rest := [.long (31 * y1)]) dX4_digest_186 kX4_relief lX4_183 (by decide) rfl ⟨_, _, rfl⟩ rfl rfl (by simp only [List.map, Value.category]; decide) (by decide) k
theorem sX4_digest_161 {post : Option Value → PH → Prop} {h : PH} {x3 : Int32} {y1 : Int64} (k : Ev 5 mX4_trade [.ref 0, .int x3] h (fun r h' => G 11 mX4_digest post 171 [some (.ref 0), none, none, some (.int x3), none, none] (r.toList ++ [.long (31 * y1)]) h')) : G 11 mX4_digest post 161 [some (.ref 0), some (.long y1), none, some (.int x3), none, none] [] h := by
  refine g_ldc2 dX4_digest_161 pX4_171 ?_
  refine g_lload_n dX4_digest_164 rfl ?_
  refine g_lmul dX4_digest_165 ?_
  refine g_aload_n dX4_digest_166 rfl ?_
  refine g_iload_n dX4_digest_167 rfl ?_
  refine g_forget (mask := [true, false, true, true, true, true]) (L' := [some (.ref 0), none, none, some (.int x3), none, none]) rfl ?_
  exact g_callV (n := 1) (b := 0) (as := [.int x3]) (rest := [.long (31 * y1)]) dX4_digest_168 kX4_trade lX4_180 (by decide) rfl ⟨_, _, rfl⟩ rfl rfl (by simp only [List.map, Value.category]; decide) (by decide) k
theorem sX4_digest_49 {post : Option Value → PH → Prop} {h : PH} {x3 x4 s0 : Int32} {t1 : Int64} (k : Ev 10 mX4_best [.ref 0, .int x4, .int 1] h (fun r h' => G 11 mX4_digest post 64 [some (.ref 0), none, none, some (.int x3), some (.int x4), none] (r.toList ++ [.long (31 * (t1 + (Int32.toInt64 s0)))]) h')) : G 11 mX4_digest post 49 [some (.ref 0), none, none, some (.int x3), some (.int x4), none] [.int s0, .long t1] h := by
  refine g_i2l dX4_digest_49 ?_
  refine g_ladd dX4_digest_50 ?_
  refine g_lstore_n (L' := [some (.ref 0), some (.long (t1 + (Int32.toInt64 s0))), none, some (.int x3), some (.int x4), none]) dX4_digest_51 rfl (by decide) rfl ?_
  refine g_ldc2 dX4_digest_52 pX4_171 ?_
  refine g_lload_n dX4_digest_55 rfl ?_
  refine g_lmul dX4_digest_56 ?_
  refine g_aload_n dX4_digest_57 rfl ?_
  refine g_iload dX4_digest_58 rfl ?_
  refine g_iconst (v := 1) dX4_digest_60 rfl ?_
  refine g_forget (mask := [true, false, true, true, true, true]) (L' := [some (.ref 0), none, none, some (.int x3), some (.int x4), none]) rfl ?_
  exact g_callV (n := 2) (b := 0) (as := [.int x4, .int 1]) (rest := [.long (31 * (t1 + (Int32.toInt64 s0)))]) dX4_digest_61 kX4_best lX4_173 (by decide) rfl ⟨_, _, rfl⟩ rfl rfl (by simp only [List.map, Value.category]; decide) (by decide) k
theorem sX4_digest_245 {post : Option Value → PH → Prop} {h : PH} {x3 s0 : Int32} {t1 : Int64} (k : G 11 mX4_digest post 229 [some (.ref 0), some (.long (t1 + (Int32.toInt64 s0))), none, some (.int (x3 + 1)), none, none] [] h) : G 11 mX4_digest post 245 [some (.ref 0), none, none, some (.int x3), none, none] [.int s0, .long t1] h := by
  refine g_i2l dX4_digest_245 ?_
  refine g_ladd dX4_digest_246 ?_
  refine g_lstore_n (L' := [some (.ref 0), some (.long (t1 + (Int32.toInt64 s0))), none, some (.int x3), none, none]) dX4_digest_247 rfl (by decide) rfl ?_
  refine g_iinc (v := (x3 + 1)) (L' := [some (.ref 0), some (.long (t1 + (Int32.toInt64 s0))), none, some (.int (x3 + 1)), none, none]) dX4_digest_248 rfl rfl rfl (by decide) rfl ?_
  refine g_goto (tgt := 229) dX4_digest_251 (by decide) ?_
  exact k
theorem sX4_digest_189 {post : Option Value → PH → Prop} {h : PH} {s0 : Int32} {t1 : Int64} (k : G 11 mX4_digest post 192 [some (.ref 0), some (.long (t1 + (Int32.toInt64 s0))), none, none, none, none] [] h) : G 11 mX4_digest post 189 [some (.ref 0), none, none, none, none, none] [.int s0, .long t1] h := by
  refine g_i2l dX4_digest_189 ?_
  refine g_ladd dX4_digest_190 ?_
  refine g_lstore_n (L' := [some (.ref 0), some (.long (t1 + (Int32.toInt64 s0))), none, none, none, none]) dX4_digest_191 rfl (by decide) rfl ?_
  exact k
theorem sX4_digest_171 {post : Option Value → PH → Prop} {h : PH} {x3 s0 : Int32} {t1 : Int64} (k : G 11 mX4_digest post 156 [some (.ref 0), some (.long (t1 + (Int32.toInt64 s0))), none, some (.int (x3 + 1)), none, none] [] h) : G 11 mX4_digest post 171 [some (.ref 0), none, none, some (.int x3), none, none] [.int s0, .long t1] h := by
  refine g_i2l dX4_digest_171 ?_
  refine g_ladd dX4_digest_172 ?_
  refine g_lstore_n (L' := [some (.ref 0), some (.long (t1 + (Int32.toInt64 s0))), none, some (.int x3), none, none]) dX4_digest_173 rfl (by decide) rfl ?_
  refine g_iinc (v := (x3 + 1)) (L' := [some (.ref 0), some (.long (t1 + (Int32.toInt64 s0))), none, some (.int (x3 + 1)), none, none]) dX4_digest_174 rfl rfl rfl (by decide) rfl ?_
  refine g_goto (tgt := 156) dX4_digest_177 (by decide) ?_
  exact k
theorem sX4_digest_64 {post : Option Value → PH → Prop} {h : PH} {x3 x4 s0 : Int32} {t1 : Int64} (k : G 11 mX4_digest post 71 [some (.ref 0), some (.long (t1 + (Int32.toInt64 s0))), none, some (.int x3), some (.int x4), some (.int 10)] [] h) : G 11 mX4_digest post 64 [some (.ref 0), none, none, some (.int x3), some (.int x4), none] [.int s0, .long t1] h := by
  refine g_i2l dX4_digest_64 ?_
  refine g_ladd dX4_digest_65 ?_
  refine g_lstore_n (L' := [some (.ref 0), some (.long (t1 + (Int32.toInt64 s0))), none, some (.int x3), some (.int x4), none]) dX4_digest_66 rfl (by decide) rfl ?_
  refine g_bipush (v := 10) dX4_digest_67 rfl ?_
  refine g_istore (L' := [some (.ref 0), some (.long (t1 + (Int32.toInt64 s0))), none, some (.int x3), some (.int x4), some (.int 10)]) dX4_digest_69 rfl (by decide) rfl ?_
  exact k
theorem sX4_digest_71 {post : Option Value → PH → Prop} {h : PH} {x3 x4 x5 : Int32} {y1 : Int64} (k1 : 14 < x5 → G 11 mX4_digest post 100 [some (.ref 0), some (.long y1), none, some (.int x3), some (.int x4), none] [] h) (k2 : ¬ 14 < x5 → G 11 mX4_digest post 78 [some (.ref 0), some (.long y1), none, some (.int x3), some (.int x4), some (.int x5)] [] h) : G 11 mX4_digest post 71 [some (.ref 0), some (.long y1), none, some (.int x3), some (.int x4), some (.int x5)] [] h := by
  refine g_iload dX4_digest_71 rfl ?_
  refine g_bipush (v := 14) dX4_digest_73 rfl ?_
  exact g_icmp_gt (tgt := 100) dX4_digest_75 (by decide) (fun hc => by refine g_forget (mask := [true, true, true, true, true, false]) (L' := [some (.ref 0), some (.long y1), none, some (.int x3), some (.int x4), none]) rfl ?_; exact k1 hc) (fun hc => k2 hc)
theorem sX4_digest_100 {post : Option Value → PH → Prop} {h : PH} {x3 x4 : Int32} {y1 : Int64} (k : Ev 10 mX4_change [.ref 0, .int x4, .int 0] h (fun r h' => G 11 mX4_digest post 112 [some (.ref 0), none, none, some (.int x3), some (.int x4), none] (r.toList ++ [.long (31 * y1)]) h')) : G 11 mX4_digest post 100 [some (.ref 0), some (.long y1), none, some (.int x3), some (.int x4), none] [] h := by
  refine g_ldc2 dX4_digest_100 pX4_171 ?_
  refine g_lload_n dX4_digest_103 rfl ?_
  refine g_lmul dX4_digest_104 ?_
  refine g_aload_n dX4_digest_105 rfl ?_
  refine g_iload dX4_digest_106 rfl ?_
  refine g_iconst (v := 0) dX4_digest_108 rfl ?_
  refine g_forget (mask := [true, false, true, true, true, true]) (L' := [some (.ref 0), none, none, some (.int x3), some (.int x4), none]) rfl ?_
  exact g_callV (n := 2) (b := 0) (as := [.int x4, .int 0]) (rest := [.long (31 * y1)]) dX4_digest_109 kX4_change lX4_177 (by decide) rfl ⟨_, _, rfl⟩ rfl rfl (by simp only [List.map, Value.category]; decide) (by decide) k
theorem sX4_digest_78 {post : Option Value → PH → Prop} {h : PH} {x3 x4 x5 : Int32} {y1 : Int64} (k : Ev 10 mX4_best [.ref 0, .int x4, .int x5] h (fun r h' => G 11 mX4_digest post 91 [some (.ref 0), none, none, some (.int x3), some (.int x4), some (.int x5)] (r.toList ++ [.long (31 * y1)]) h')) : G 11 mX4_digest post 78 [some (.ref 0), some (.long y1), none, some (.int x3), some (.int x4), some (.int x5)] [] h := by
  refine g_ldc2 dX4_digest_78 pX4_171 ?_
  refine g_lload_n dX4_digest_81 rfl ?_
  refine g_lmul dX4_digest_82 ?_
  refine g_aload_n dX4_digest_83 rfl ?_
  refine g_iload dX4_digest_84 rfl ?_
  refine g_iload dX4_digest_86 rfl ?_
  refine g_forget (mask := [true, false, true, true, true, true]) (L' := [some (.ref 0), none, none, some (.int x3), some (.int x4), some (.int x5)]) rfl ?_
  exact g_callV (n := 2) (b := 0) (as := [.int x4, .int x5]) (rest := [.long (31 * y1)]) dX4_digest_88 kX4_best lX4_173 (by decide) rfl ⟨_, _, rfl⟩ rfl rfl (by simp only [List.map, Value.category]; decide) (by decide) k
theorem sX4_digest_112 {post : Option Value → PH → Prop} {h : PH} {x3 x4 s0 : Int32} {t1 : Int64} (k : G 11 mX4_digest post 119 [some (.ref 0), some (.long (t1 + (Int32.toInt64 s0))), none, some (.int x3), some (.int x4), some (.int 10)] [] h) : G 11 mX4_digest post 112 [some (.ref 0), none, none, some (.int x3), some (.int x4), none] [.int s0, .long t1] h := by
  refine g_i2l dX4_digest_112 ?_
  refine g_ladd dX4_digest_113 ?_
  refine g_lstore_n (L' := [some (.ref 0), some (.long (t1 + (Int32.toInt64 s0))), none, some (.int x3), some (.int x4), none]) dX4_digest_114 rfl (by decide) rfl ?_
  refine g_bipush (v := 10) dX4_digest_115 rfl ?_
  refine g_istore (L' := [some (.ref 0), some (.long (t1 + (Int32.toInt64 s0))), none, some (.int x3), some (.int x4), some (.int 10)]) dX4_digest_117 rfl (by decide) rfl ?_
  exact k
theorem sX4_digest_91 {post : Option Value → PH → Prop} {h : PH} {x3 x4 x5 s0 : Int32} {t1 : Int64} (k : G 11 mX4_digest post 71 [some (.ref 0), some (.long (t1 + (Int32.toInt64 s0))), none, some (.int x3), some (.int x4), some (.int (x5 + 1))] [] h) : G 11 mX4_digest post 91 [some (.ref 0), none, none, some (.int x3), some (.int x4), some (.int x5)] [.int s0, .long t1] h := by
  refine g_i2l dX4_digest_91 ?_
  refine g_ladd dX4_digest_92 ?_
  refine g_lstore_n (L' := [some (.ref 0), some (.long (t1 + (Int32.toInt64 s0))), none, some (.int x3), some (.int x4), some (.int x5)]) dX4_digest_93 rfl (by decide) rfl ?_
  refine g_iinc (v := (x5 + 1)) (L' := [some (.ref 0), some (.long (t1 + (Int32.toInt64 s0))), none, some (.int x3), some (.int x4), some (.int (x5 + 1))]) dX4_digest_94 rfl rfl rfl (by decide) rfl ?_
  refine g_goto (tgt := 71) dX4_digest_97 (by decide) ?_
  exact k
theorem sX4_digest_119 {post : Option Value → PH → Prop} {h : PH} {x3 x4 x5 : Int32} {y1 : Int64} (k1 : 12 < x5 → G 11 mX4_digest post 148 [some (.ref 0), some (.long y1), none, some (.int x3), none, none] [] h) (k2 : ¬ 12 < x5 → G 11 mX4_digest post 126 [some (.ref 0), some (.long y1), none, some (.int x3), some (.int x4), some (.int x5)] [] h) : G 11 mX4_digest post 119 [some (.ref 0), some (.long y1), none, some (.int x3), some (.int x4), some (.int x5)] [] h := by
  refine g_iload dX4_digest_119 rfl ?_
  refine g_bipush (v := 12) dX4_digest_121 rfl ?_
  exact g_icmp_gt (tgt := 148) dX4_digest_123 (by decide) (fun hc => by refine g_forget (mask := [true, true, true, true, false, false]) (L' := [some (.ref 0), some (.long y1), none, some (.int x3), none, none]) rfl ?_; exact k1 hc) (fun hc => k2 hc)
theorem sX4_digest_148 {post : Option Value → PH → Prop} {h : PH} {x3 : Int32} {y1 : Int64} (k : G 11 mX4_digest post 20 [some (.ref 0), some (.long y1), none, some (.int (x3 + 1)), none, none] [] h) : G 11 mX4_digest post 148 [some (.ref 0), some (.long y1), none, some (.int x3), none, none] [] h := by
  refine g_iinc (v := (x3 + 1)) (L' := [some (.ref 0), some (.long y1), none, some (.int (x3 + 1)), none, none]) dX4_digest_148 rfl rfl rfl (by decide) rfl ?_
  refine g_goto (tgt := 20) dX4_digest_151 (by decide) ?_
  exact k
theorem sX4_digest_126 {post : Option Value → PH → Prop} {h : PH} {x3 x4 x5 : Int32} {y1 : Int64} (k : Ev 10 mX4_change [.ref 0, .int x4, .int x5] h (fun r h' => G 11 mX4_digest post 139 [some (.ref 0), none, none, some (.int x3), some (.int x4), some (.int x5)] (r.toList ++ [.long (31 * y1)]) h')) : G 11 mX4_digest post 126 [some (.ref 0), some (.long y1), none, some (.int x3), some (.int x4), some (.int x5)] [] h := by
  refine g_ldc2 dX4_digest_126 pX4_171 ?_
  refine g_lload_n dX4_digest_129 rfl ?_
  refine g_lmul dX4_digest_130 ?_
  refine g_aload_n dX4_digest_131 rfl ?_
  refine g_iload dX4_digest_132 rfl ?_
  refine g_iload dX4_digest_134 rfl ?_
  refine g_forget (mask := [true, false, true, true, true, true]) (L' := [some (.ref 0), none, none, some (.int x3), some (.int x4), some (.int x5)]) rfl ?_
  exact g_callV (n := 2) (b := 0) (as := [.int x4, .int x5]) (rest := [.long (31 * y1)]) dX4_digest_136 kX4_change lX4_177 (by decide) rfl ⟨_, _, rfl⟩ rfl rfl (by simp only [List.map, Value.category]; decide) (by decide) k
theorem sX4_digest_139 {post : Option Value → PH → Prop} {h : PH} {x3 x4 x5 s0 : Int32} {t1 : Int64} (k : G 11 mX4_digest post 119 [some (.ref 0), some (.long (t1 + (Int32.toInt64 s0))), none, some (.int x3), some (.int x4), some (.int (x5 + 1))] [] h) : G 11 mX4_digest post 139 [some (.ref 0), none, none, some (.int x3), some (.int x4), some (.int x5)] [.int s0, .long t1] h := by
  refine g_i2l dX4_digest_139 ?_
  refine g_ladd dX4_digest_140 ?_
  refine g_lstore_n (L' := [some (.ref 0), some (.long (t1 + (Int32.toInt64 s0))), none, some (.int x3), some (.int x4), some (.int x5)]) dX4_digest_141 rfl (by decide) rfl ?_
  refine g_iinc (v := (x5 + 1)) (L' := [some (.ref 0), some (.long (t1 + (Int32.toInt64 s0))), none, some (.int x3), some (.int x4), some (.int (x5 + 1))]) dX4_digest_142 rfl rfl rfl (by decide) rfl ?_
  refine g_goto (tgt := 119) dX4_digest_145 (by decide) ?_
  exact k
theorem sX4_digestOfParts_0 {post : Option Value → PH → Prop} {h : PH} {y1 : Int64} (k : G 5 mX4_digestOfParts post 5 [some (.ref 0), none, none, some (.long y1), none, some (.int 0), none] [] h) : G 5 mX4_digestOfParts post 0 [some (.ref 0), some (.long y1), none, none, none, none, none] [] h := by
  refine g_lload_n dX4_digestOfParts_0 rfl ?_
  refine g_lstore_n (L' := [some (.ref 0), some (.long y1), none, some (.long y1), none, none, none]) dX4_digestOfParts_1 rfl (by decide) rfl ?_
  refine g_iconst (v := 0) dX4_digestOfParts_2 rfl ?_
  refine g_istore (L' := [some (.ref 0), some (.long y1), none, some (.long y1), none, some (.int 0), none]) dX4_digestOfParts_3 rfl (by decide) rfl ?_
  refine g_forget (mask := [true, false, true, true, true, true, true]) (L' := [some (.ref 0), none, none, some (.long y1), none, some (.int 0), none]) rfl ?_
  exact k
theorem sX4_digestOfParts_5 {post : Option Value → PH → Prop} {h : PH} {x5 : Int32} {y3 : Int64} (k1 : (h.1 2 0) ≤ x5 → G 5 mX4_digestOfParts post 54 [some (.ref 0), none, none, some (.long y3), none, none, none] [] h) (k2 : ¬ (h.1 2 0) ≤ x5 → G 5 mX4_digestOfParts post 17 [some (.ref 0), none, none, some (.long y3), none, some (.int x5), none] [] h) : G 5 mX4_digestOfParts post 5 [some (.ref 0), none, none, some (.long y3), none, some (.int x5), none] [] h := by
  refine g_iload dX4_digestOfParts_5 rfl ?_
  refine g_aload_n dX4_digestOfParts_7 rfl ?_
  refine g_getfield (kd := 4) (v := .ref 2) dX4_digestOfParts_8 fX4_19 (by decide) rfl rfl rfl rfl ?_
  refine g_getfield (kd := 0) (v := .int (h.1 2 0)) dX4_digestOfParts_11 fX4_56 (by decide) rfl rfl rfl rfl ?_
  exact g_icmp_ge (tgt := 54) dX4_digestOfParts_14 (by decide) (fun hc => by refine g_forget (mask := [true, true, true, true, true, false, true]) (L' := [some (.ref 0), none, none, some (.long y3), none, none, none]) rfl ?_; exact k1 hc) (fun hc => k2 hc)
theorem sX4_digestOfParts_54 {post : Option Value → PH → Prop} {h : PH} {y3 : Int64} (k : G 5 mX4_digestOfParts post 57 [some (.ref 0), none, none, some (.long y3), none, some (.int 0), none] [] h) : G 5 mX4_digestOfParts post 54 [some (.ref 0), none, none, some (.long y3), none, none, none] [] h := by
  refine g_iconst (v := 0) dX4_digestOfParts_54 rfl ?_
  refine g_istore (L' := [some (.ref 0), none, none, some (.long y3), none, some (.int 0), none]) dX4_digestOfParts_55 rfl (by decide) rfl ?_
  exact k
theorem sX4_digestOfParts_17 {post : Option Value → PH → Prop} {h : PH} {x5 : Int32} {y3 : Int64} (k : G 5 mX4_digestOfParts post 20 [some (.ref 0), none, none, some (.long y3), none, some (.int x5), some (.int 0)] [] h) : G 5 mX4_digestOfParts post 17 [some (.ref 0), none, none, some (.long y3), none, some (.int x5), none] [] h := by
  refine g_iconst (v := 0) dX4_digestOfParts_17 rfl ?_
  refine g_istore (L' := [some (.ref 0), none, none, some (.long y3), none, some (.int x5), some (.int 0)]) dX4_digestOfParts_18 rfl (by decide) rfl ?_
  exact k
theorem sX4_digestOfParts_57 {post : Option Value → PH → Prop} {h : PH} {x5 : Int32} {y3 : Int64} (k1 : (h.1 2 1) ≤ x5 → G 5 mX4_digestOfParts post 106 [none, none, none, some (.long y3), none, none, none] [] h) (k2 : ¬ (h.1 2 1) ≤ x5 → G 5 mX4_digestOfParts post 69 [some (.ref 0), none, none, some (.long y3), none, some (.int x5), none] [] h) : G 5 mX4_digestOfParts post 57 [some (.ref 0), none, none, some (.long y3), none, some (.int x5), none] [] h := by
  refine g_iload dX4_digestOfParts_57 rfl ?_
  refine g_aload_n dX4_digestOfParts_59 rfl ?_
  refine g_getfield (kd := 4) (v := .ref 2) dX4_digestOfParts_60 fX4_19 (by decide) rfl rfl rfl rfl ?_
  refine g_getfield (kd := 0) (v := .int (h.1 2 1)) dX4_digestOfParts_63 fX4_162 (by decide) rfl rfl rfl rfl ?_
  exact g_icmp_ge (tgt := 106) dX4_digestOfParts_66 (by decide) (fun hc => by refine g_forget (mask := [false, true, true, true, true, false, true]) (L' := [none, none, none, some (.long y3), none, none, none]) rfl ?_; exact k1 hc) (fun hc => k2 hc)
theorem sX4_digestOfParts_20 {post : Option Value → PH → Prop} {h : PH} {x5 x6 : Int32} {y3 : Int64} (k1 : 5 < x6 → G 5 mX4_digestOfParts post 48 [some (.ref 0), none, none, some (.long y3), none, some (.int x5), none] [] h) (k2 : ¬ 5 < x6 → G 5 mX4_digestOfParts post 26 [some (.ref 0), none, none, some (.long y3), none, some (.int x5), some (.int x6)] [] h) : G 5 mX4_digestOfParts post 20 [some (.ref 0), none, none, some (.long y3), none, some (.int x5), some (.int x6)] [] h := by
  refine g_iload dX4_digestOfParts_20 rfl ?_
  refine g_iconst (v := 5) dX4_digestOfParts_22 rfl ?_
  exact g_icmp_gt (tgt := 48) dX4_digestOfParts_23 (by decide) (fun hc => by refine g_forget (mask := [true, true, true, true, true, true, false]) (L' := [some (.ref 0), none, none, some (.long y3), none, some (.int x5), none]) rfl ?_; exact k1 hc) (fun hc => k2 hc)
theorem sX4_digestOfParts_106 {post : Option Value → PH → Prop} {h : PH} {y3 : Int64} (k : post (some (.long y3)) h) : G 5 mX4_digestOfParts post 106 [none, none, none, some (.long y3), none, none, none] [] h := by
  refine g_lload_n dX4_digestOfParts_106 rfl ?_
  exact g_lreturn dX4_digestOfParts_107 rfl k
theorem sX4_digestOfParts_69 {post : Option Value → PH → Prop} {h : PH} {x5 : Int32} {y3 : Int64} (k : G 5 mX4_digestOfParts post 72 [some (.ref 0), none, none, some (.long y3), none, some (.int x5), some (.int 0)] [] h) : G 5 mX4_digestOfParts post 69 [some (.ref 0), none, none, some (.long y3), none, some (.int x5), none] [] h := by
  refine g_iconst (v := 0) dX4_digestOfParts_69 rfl ?_
  refine g_istore (L' := [some (.ref 0), none, none, some (.long y3), none, some (.int x5), some (.int 0)]) dX4_digestOfParts_70 rfl (by decide) rfl ?_
  exact k
theorem sX4_digestOfParts_48 {post : Option Value → PH → Prop} {h : PH} {x5 : Int32} {y3 : Int64} (k : G 5 mX4_digestOfParts post 5 [some (.ref 0), none, none, some (.long y3), none, some (.int (x5 + 1)), none] [] h) : G 5 mX4_digestOfParts post 48 [some (.ref 0), none, none, some (.long y3), none, some (.int x5), none] [] h := by
  refine g_iinc (v := (x5 + 1)) (L' := [some (.ref 0), none, none, some (.long y3), none, some (.int (x5 + 1)), none]) dX4_digestOfParts_48 rfl rfl rfl (by decide) rfl ?_
  refine g_goto (tgt := 5) dX4_digestOfParts_51 (by decide) ?_
  exact k
theorem sX4_digestOfParts_26 {post : Option Value → PH → Prop} {h : PH} {x5 x6 : Int32} {y3 : Int64} (k : Ev 2 mX4_mirror [.ref 0, .int x5, .int x6] h (fun r h' => G 5 mX4_digestOfParts post 39 [some (.ref 0), none, none, none, none, some (.int x5), some (.int x6)] (r.toList ++ [.long (31 * y3)]) h')) : G 5 mX4_digestOfParts post 26 [some (.ref 0), none, none, some (.long y3), none, some (.int x5), some (.int x6)] [] h := by
  refine g_ldc2 dX4_digestOfParts_26 pX4_171 ?_
  refine g_lload_n dX4_digestOfParts_29 rfl ?_
  refine g_lmul dX4_digestOfParts_30 ?_
  refine g_aload_n dX4_digestOfParts_31 rfl ?_
  refine g_iload dX4_digestOfParts_32 rfl ?_
  refine g_iload dX4_digestOfParts_34 rfl ?_
  refine g_forget (mask := [true, true, true, false, true, true, true]) (L' := [some (.ref 0), none, none, none, none, some (.int x5), some (.int x6)]) rfl ?_
  exact g_callV (n := 2) (b := 0) (as := [.int x5, .int x6]) (rest := [.long (31 * y3)]) dX4_digestOfParts_36 kX4_mirror lX4_192 (by decide) rfl ⟨_, _, rfl⟩ rfl rfl (by simp only [List.map, Value.category]; decide) (by decide) k
theorem sX4_digestOfParts_72 {post : Option Value → PH → Prop} {h : PH} {x5 x6 : Int32} {y3 : Int64} (k1 : 3 < x6 → G 5 mX4_digestOfParts post 100 [some (.ref 0), none, none, some (.long y3), none, some (.int x5), none] [] h) (k2 : ¬ 3 < x6 → G 5 mX4_digestOfParts post 78 [some (.ref 0), none, none, some (.long y3), none, some (.int x5), some (.int x6)] [] h) : G 5 mX4_digestOfParts post 72 [some (.ref 0), none, none, some (.long y3), none, some (.int x5), some (.int x6)] [] h := by
  refine g_iload dX4_digestOfParts_72 rfl ?_
  refine g_iconst (v := 3) dX4_digestOfParts_74 rfl ?_
  exact g_icmp_gt (tgt := 100) dX4_digestOfParts_75 (by decide) (fun hc => by refine g_forget (mask := [true, true, true, true, true, true, false]) (L' := [some (.ref 0), none, none, some (.long y3), none, some (.int x5), none]) rfl ?_; exact k1 hc) (fun hc => k2 hc)
theorem sX4_digestOfParts_39 {post : Option Value → PH → Prop} {h : PH} {x5 x6 s0 : Int32} {t1 : Int64} (k : G 5 mX4_digestOfParts post 20 [some (.ref 0), none, none, some (.long (t1 + (Int32.toInt64 s0))), none, some (.int x5), some (.int (x6 + 1))] [] h) : G 5 mX4_digestOfParts post 39 [some (.ref 0), none, none, none, none, some (.int x5), some (.int x6)] [.int s0, .long t1] h := by
  refine g_i2l dX4_digestOfParts_39 ?_
  refine g_ladd dX4_digestOfParts_40 ?_
  refine g_lstore_n (L' := [some (.ref 0), none, none, some (.long (t1 + (Int32.toInt64 s0))), none, some (.int x5), some (.int x6)]) dX4_digestOfParts_41 rfl (by decide) rfl ?_
  refine g_iinc (v := (x6 + 1)) (L' := [some (.ref 0), none, none, some (.long (t1 + (Int32.toInt64 s0))), none, some (.int x5), some (.int (x6 + 1))]) dX4_digestOfParts_42 rfl rfl rfl (by decide) rfl ?_
  refine g_goto (tgt := 20) dX4_digestOfParts_45 (by decide) ?_
  exact k
theorem sX4_digestOfParts_100 {post : Option Value → PH → Prop} {h : PH} {x5 : Int32} {y3 : Int64} (k : G 5 mX4_digestOfParts post 57 [some (.ref 0), none, none, some (.long y3), none, some (.int (x5 + 1)), none] [] h) : G 5 mX4_digestOfParts post 100 [some (.ref 0), none, none, some (.long y3), none, some (.int x5), none] [] h := by
  refine g_iinc (v := (x5 + 1)) (L' := [some (.ref 0), none, none, some (.long y3), none, some (.int (x5 + 1)), none]) dX4_digestOfParts_100 rfl rfl rfl (by decide) rfl ?_
  refine g_goto (tgt := 57) dX4_digestOfParts_103 (by decide) ?_
  exact k
theorem sX4_digestOfParts_78 {post : Option Value → PH → Prop} {h : PH} {x5 x6 : Int32} {y3 : Int64} (k : Ev 4 mX4_patch [.ref 0, .int x5, .int x6] h (fun r h' => G 5 mX4_digestOfParts post 91 [some (.ref 0), none, none, none, none, some (.int x5), some (.int x6)] (r.toList ++ [.long (31 * y3)]) h')) : G 5 mX4_digestOfParts post 78 [some (.ref 0), none, none, some (.long y3), none, some (.int x5), some (.int x6)] [] h := by
  refine g_ldc2 dX4_digestOfParts_78 pX4_171 ?_
  refine g_lload_n dX4_digestOfParts_81 rfl ?_
  refine g_lmul dX4_digestOfParts_82 ?_
  refine g_aload_n dX4_digestOfParts_83 rfl ?_
  refine g_iload dX4_digestOfParts_84 rfl ?_
  refine g_iload dX4_digestOfParts_86 rfl ?_
  refine g_forget (mask := [true, true, true, false, true, true, true]) (L' := [some (.ref 0), none, none, none, none, some (.int x5), some (.int x6)]) rfl ?_
  exact g_callV (n := 2) (b := 0) (as := [.int x5, .int x6]) (rest := [.long (31 * y3)]) dX4_digestOfParts_88 kX4_patch lX4_195 (by decide) rfl ⟨_, _, rfl⟩ rfl rfl (by simp only [List.map, Value.category]; decide) (by decide) k
theorem sX4_digestOfParts_91 {post : Option Value → PH → Prop} {h : PH} {x5 x6 s0 : Int32} {t1 : Int64} (k : G 5 mX4_digestOfParts post 72 [some (.ref 0), none, none, some (.long (t1 + (Int32.toInt64 s0))), none, some (.int x5), some (.int (x6 + 1))] [] h) : G 5 mX4_digestOfParts post 91 [some (.ref 0), none, none, none, none, some (.int x5), some (.int x6)] [.int s0, .long t1] h := by
  refine g_i2l dX4_digestOfParts_91 ?_
  refine g_ladd dX4_digestOfParts_92 ?_
  refine g_lstore_n (L' := [some (.ref 0), none, none, some (.long (t1 + (Int32.toInt64 s0))), none, some (.int x5), some (.int x6)]) dX4_digestOfParts_93 rfl (by decide) rfl ?_
  refine g_iinc (v := (x6 + 1)) (L' := [some (.ref 0), none, none, some (.long (t1 + (Int32.toInt64 s0))), none, some (.int x5), some (.int (x6 + 1))]) dX4_digestOfParts_94 rfl rfl rfl (by decide) rfl ?_
  refine g_goto (tgt := 72) dX4_digestOfParts_97 (by decide) ?_
  exact k
theorem sX4_bit_0 {post : Option Value → PH → Prop} {h : PH} {x0 x1 : Int32} (k : post (some (.int ((x0 >>> (x1 &&& 31)) &&& 1))) h) : G 0 mX4_bit post 0 [some (.int x0), some (.int x1)] [] h := by
  refine g_iload_n dX4_bit_0 rfl ?_
  refine g_iload_n dX4_bit_1 rfl ?_
  refine g_ishr dX4_bit_2 ?_
  refine g_iconst (v := 1) dX4_bit_3 rfl ?_
  refine g_iand dX4_bit_4 ?_
  exact g_ireturn (ty := .int) dX4_bit_5 rfl rfl k
theorem sX4_heatOf_0 {post : Option Value → PH → Prop} {h : PH} {x0 x1 : Int32} (k : post (some (.int (((Int32.toUInt32 x0 >>> (Int32.toUInt32 (8 * x1) &&& Int32.toUInt32 31)).toInt32) &&& 255))) h) : G 0 mX4_heatOf post 0 [some (.int x0), some (.int x1)] [] h := by
  refine g_iload_n dX4_heatOf_0 rfl ?_
  refine g_bipush (v := 8) dX4_heatOf_1 rfl ?_
  refine g_iload_n dX4_heatOf_3 rfl ?_
  refine g_imul dX4_heatOf_4 ?_
  refine g_iushr dX4_heatOf_5 ?_
  refine g_sipush (v := 255) dX4_heatOf_6 rfl ?_
  refine g_iand dX4_heatOf_9 ?_
  exact g_ireturn (ty := .int) dX4_heatOf_10 rfl rfl k
theorem sX4_sum_0 {post : Option Value → PH → Prop} {h : PH} {x0 : Int32} (k : Ev 0 mX4_heatOf [.int x0, .int 0] h (fun r h' => G 1 mX4_sum post 5 [some (.int x0)] (r.toList ++ []) h')) : G 1 mX4_sum post 0 [some (.int x0)] [] h := by
  refine g_iload_n dX4_sum_0 rfl ?_
  refine g_iconst (v := 0) dX4_sum_1 rfl ?_
  exact g_callS (n := 2) (as := [.int x0, .int 0]) (rest := []) dX4_sum_2 kX4_heatOf lX4_117 rfl rfl (by simp only [List.map, Value.category]; decide) (by decide) k
theorem sX4_sum_5 {post : Option Value → PH → Prop} {h : PH} {x0 s0 : Int32} (k : Ev 0 mX4_heatOf [.int x0, .int 1] h (fun r h' => G 1 mX4_sum post 10 [some (.int x0)] (r.toList ++ [.int s0]) h')) : G 1 mX4_sum post 5 [some (.int x0)] [.int s0] h := by
  refine g_iload_n dX4_sum_5 rfl ?_
  refine g_iconst (v := 1) dX4_sum_6 rfl ?_
  exact g_callS (n := 2) (as := [.int x0, .int 1]) (rest := [.int s0]) dX4_sum_7 kX4_heatOf lX4_117 rfl rfl (by simp only [List.map, Value.category]; decide) (by decide) k
theorem sX4_sum_10 {post : Option Value → PH → Prop} {h : PH} {x0 s0 s1 : Int32} (k : Ev 0 mX4_heatOf [.int x0, .int 2] h (fun r h' => G 1 mX4_sum post 16 [some (.int x0)] (r.toList ++ [.int (s1 + s0)]) h')) : G 1 mX4_sum post 10 [some (.int x0)] [.int s0, .int s1] h := by
  refine g_iadd dX4_sum_10 ?_
  refine g_iload_n dX4_sum_11 rfl ?_
  refine g_iconst (v := 2) dX4_sum_12 rfl ?_
  exact g_callS (n := 2) (as := [.int x0, .int 2]) (rest := [.int (s1 + s0)]) dX4_sum_13 kX4_heatOf lX4_117 rfl rfl (by simp only [List.map, Value.category]; decide) (by decide) k
theorem sX4_sum_16 {post : Option Value → PH → Prop} {h : PH} {x0 s0 s1 : Int32} (k : Ev 0 mX4_heatOf [.int x0, .int 3] h (fun r h' => G 1 mX4_sum post 22 [none] (r.toList ++ [.int (s1 + s0)]) h')) : G 1 mX4_sum post 16 [some (.int x0)] [.int s0, .int s1] h := by
  refine g_iadd dX4_sum_16 ?_
  refine g_iload_n dX4_sum_17 rfl ?_
  refine g_iconst (v := 3) dX4_sum_18 rfl ?_
  refine g_forget (mask := [false]) (L' := [none]) rfl ?_
  exact g_callS (n := 2) (as := [.int x0, .int 3]) (rest := [.int (s1 + s0)]) dX4_sum_19 kX4_heatOf lX4_117 rfl rfl (by simp only [List.map, Value.category]; decide) (by decide) k
theorem sX4_sum_22 {post : Option Value → PH → Prop} {h : PH} {s0 s1 : Int32} (k : post (some (.int (s1 + s0))) h) : G 1 mX4_sum post 22 [none] [.int s0, .int s1] h := by
  refine g_iadd dX4_sum_22 ?_
  exact g_ireturn (ty := .int) dX4_sum_23 rfl rfl k
theorem sX4_aimIn_0 {post : Option Value → PH → Prop} {h : PH} {x0 x1 : Int32} (k : G 0 mX4_aimIn post 4 [none, some (.int x1), some (.int x0), some (.int 0)] [] h) : G 0 mX4_aimIn post 0 [some (.int x0), some (.int x1), none, none] [] h := by
  refine g_iload_n dX4_aimIn_0 rfl ?_
  refine g_istore_n (L' := [some (.int x0), some (.int x1), some (.int x0), none]) dX4_aimIn_1 rfl (by decide) rfl ?_
  refine g_iconst (v := 0) dX4_aimIn_2 rfl ?_
  refine g_istore_n (L' := [some (.int x0), some (.int x1), some (.int x0), some (.int 0)]) dX4_aimIn_3 rfl (by decide) rfl ?_
  refine g_forget (mask := [false, true, true, true]) (L' := [none, some (.int x1), some (.int x0), some (.int 0)]) rfl ?_
  exact k
theorem sX4_aimIn_4 {post : Option Value → PH → Prop} {h : PH} {x1 x2 x3 : Int32} (k1 : x1 ≤ x3 → G 0 mX4_aimIn post 24 [none, none, some (.int x2), none] [] h) (k2 : ¬ x1 ≤ x3 → G 0 mX4_aimIn post 9 [none, some (.int x1), some (.int x2), some (.int x3)] [] h) : G 0 mX4_aimIn post 4 [none, some (.int x1), some (.int x2), some (.int x3)] [] h := by
  refine g_iload_n dX4_aimIn_4 rfl ?_
  refine g_iload_n dX4_aimIn_5 rfl ?_
  exact g_icmp_ge (tgt := 24) dX4_aimIn_6 (by decide) (fun hc => by refine g_forget (mask := [true, false, true, false]) (L' := [none, none, some (.int x2), none]) rfl ?_; exact k1 hc) (fun hc => k2 hc)
theorem sX4_aimIn_24 {post : Option Value → PH → Prop} {h : PH} {x2 : Int32} (k : post (some (.int ((x2 - x2 / 5 * 5) - 1))) h) : G 0 mX4_aimIn post 24 [none, none, some (.int x2), none] [] h := by
  refine g_iload_n dX4_aimIn_24 rfl ?_
  refine g_iconst (v := 5) dX4_aimIn_25 rfl ?_
  refine g_irem dX4_aimIn_26 (by decide) ?_
  refine g_iconst (v := 1) dX4_aimIn_27 rfl ?_
  refine g_isub dX4_aimIn_28 ?_
  exact g_ireturn (ty := .int) dX4_aimIn_29 rfl rfl k
theorem sX4_aimIn_9 {post : Option Value → PH → Prop} {h : PH} {x1 x2 x3 : Int32} (k1 : 5 ≤ x3 → G 0 mX4_aimIn post 24 [none, none, some (.int x2), none] [] h) (k2 : ¬ 5 ≤ x3 → G 0 mX4_aimIn post 14 [none, some (.int x1), some (.int x2), some (.int x3)] [] h) : G 0 mX4_aimIn post 9 [none, some (.int x1), some (.int x2), some (.int x3)] [] h := by
  refine g_iload_n dX4_aimIn_9 rfl ?_
  refine g_iconst (v := 5) dX4_aimIn_10 rfl ?_
  exact g_icmp_ge (tgt := 24) dX4_aimIn_11 (by decide) (fun hc => by refine g_forget (mask := [true, false, true, false]) (L' := [none, none, some (.int x2), none]) rfl ?_; exact k1 hc) (fun hc => k2 hc)
theorem sX4_aimIn_14 {post : Option Value → PH → Prop} {h : PH} {x1 x2 x3 : Int32} (k : G 0 mX4_aimIn post 4 [none, some (.int x1), some (.int (x2 / 5)), some (.int (x3 + 1))] [] h) : G 0 mX4_aimIn post 14 [none, some (.int x1), some (.int x2), some (.int x3)] [] h := by
  refine g_iload_n dX4_aimIn_14 rfl ?_
  refine g_iconst (v := 5) dX4_aimIn_15 rfl ?_
  refine g_idiv dX4_aimIn_16 (by decide) ?_
  refine g_istore_n (L' := [none, some (.int x1), some (.int (x2 / 5)), some (.int x3)]) dX4_aimIn_17 rfl (by decide) rfl ?_
  refine g_iinc (v := (x3 + 1)) (L' := [none, some (.int x1), some (.int (x2 / 5)), some (.int (x3 + 1))]) dX4_aimIn_18 rfl rfl rfl (by decide) rfl ?_
  refine g_goto (tgt := 4) dX4_aimIn_21 (by decide) ?_
  exact k
