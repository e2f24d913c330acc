theorem sX2_forget_0 {post : Option Value → PH → Prop} {h : PH} (k : post none ((upd2 (upd2 (upd2 (upd2 h.1 4 2 0) 4 3 0) 5 2 0) 5 3 0), h.2)) : G 0 mX2_forget post 0 [some (.ref 3)] [] h := by
  refine g_aload_n dX2_forget_0 rfl ?_
  refine g_getfield (kd := 6) (v := .ref 4) dX2_forget_1 fX2_14 (by decide) rfl rfl rfl rfl ?_
  refine g_iconst (v := 0) dX2_forget_4 rfl ?_
  refine g_putfield dX2_forget_5 fX2_27 (by decide) rfl rfl rfl rfl rfl ?_
  refine g_aload_n dX2_forget_8 rfl ?_
  refine g_getfield (kd := 6) (v := .ref 4) dX2_forget_9 fX2_14 (by decide) rfl rfl rfl rfl ?_
  refine g_iconst (v := 0) dX2_forget_12 rfl ?_
  refine g_putfield dX2_forget_13 fX2_31 (by decide) rfl rfl rfl rfl rfl ?_
  refine g_aload_n dX2_forget_16 rfl ?_
  refine g_getfield (kd := 7) (v := .ref 5) dX2_forget_17 fX2_20 (by decide) rfl rfl rfl rfl ?_
  refine g_iconst (v := 0) dX2_forget_20 rfl ?_
  refine g_putfield dX2_forget_21 fX2_27 (by decide) rfl rfl rfl rfl rfl ?_
  refine g_aload_n dX2_forget_24 rfl ?_
  refine g_getfield (kd := 7) (v := .ref 5) dX2_forget_25 fX2_20 (by decide) rfl rfl rfl rfl ?_
  refine g_iconst (v := 0) dX2_forget_28 rfl ?_
  refine g_putfield dX2_forget_29 fX2_31 (by decide) rfl rfl rfl rfl rfl ?_
  exact g_return dX2_forget_32 rfl k
theorem sX2_planWithBest_0 {post : Option Value → PH → Prop} {h : PH} {x2 : Int32} (k1 : x2 = 0 → G 9 mX2_planWithBest post 11 [some (.ref 3), some (.ref 2), none, none] [] h) (k2 : ¬ x2 = 0 → G 9 mX2_planWithBest post 4 [some (.ref 3), some (.ref 2), none, none] [] h) : G 9 mX2_planWithBest post 0 [some (.ref 3), some (.ref 2), some (.int x2), none] [] h := by
  refine g_iload_n dX2_planWithBest_0 rfl ?_
  exact g_if_eq (tgt := 11) dX2_planWithBest_1 (by decide) (fun hc => by refine g_forget (mask := [true, true, false, true]) (L' := [some (.ref 3), some (.ref 2), none, none]) rfl ?_; exact k1 hc) (fun hc => by refine g_forget (mask := [true, true, false, true]) (L' := [some (.ref 3), some (.ref 2), none, none]) rfl ?_; exact k2 hc)
theorem sX2_planWithBest_11 {post : Option Value → PH → Prop} {h : PH} (k1 : ¬ (h.1 4 2) = 0 → G 9 mX2_planWithBest post 34 [none, none, none, some (.ref 4)] [] h) (k2 : (h.1 4 2) = 0 → G 9 mX2_planWithBest post 23 [some (.ref 3), some (.ref 2), none, some (.ref 4)] [] h) : G 9 mX2_planWithBest post 11 [some (.ref 3), some (.ref 2), none, none] [] h := by
  refine g_aload_n dX2_planWithBest_11 rfl ?_
  refine g_getfield (kd := 6) (v := .ref 4) dX2_planWithBest_12 fX2_14 (by decide) rfl rfl rfl rfl ?_
  refine g_astore_n (L' := [some (.ref 3), some (.ref 2), none, some (.ref 4)]) dX2_planWithBest_15 rfl (by decide) rfl ?_
  refine g_aload_n dX2_planWithBest_16 rfl ?_
  refine g_getfield (kd := 0) (v := .int (h.1 4 2)) dX2_planWithBest_17 fX2_27 (by decide) rfl rfl rfl rfl ?_
  exact g_if_ne (tgt := 34) dX2_planWithBest_20 (by decide) (fun hc => by refine g_forget (mask := [false, false, true, true]) (L' := [none, none, none, some (.ref 4)]) rfl ?_; exact k1 hc) (fun hc => k2 hc)
theorem sX2_planWithBest_4 {post : Option Value → PH → Prop} {h : PH} (k1 : ¬ (h.1 5 2) = 0 → G 9 mX2_planWithBest post 34 [none, none, none, some (.ref 5)] [] h) (k2 : (h.1 5 2) = 0 → G 9 mX2_planWithBest post 23 [some (.ref 3), some (.ref 2), none, some (.ref 5)] [] h) : G 9 mX2_planWithBest post 4 [some (.ref 3), some (.ref 2), none, none] [] h := by
  refine g_aload_n dX2_planWithBest_4 rfl ?_
  refine g_getfield (kd := 7) (v := .ref 5) dX2_planWithBest_5 fX2_20 (by decide) rfl rfl rfl rfl ?_
  refine g_goto (tgt := 15) dX2_planWithBest_8 (by decide) ?_
  refine g_astore_n (L' := [some (.ref 3), some (.ref 2), none, some (.ref 5)]) dX2_planWithBest_15 rfl (by decide) rfl ?_
  refine g_aload_n dX2_planWithBest_16 rfl ?_
  refine g_getfield (kd := 0) (v := .int (h.1 5 2)) dX2_planWithBest_17 fX2_27 (by decide) rfl rfl rfl rfl ?_
  exact g_if_ne (tgt := 34) dX2_planWithBest_20 (by decide) (fun hc => by refine g_forget (mask := [false, false, true, true]) (L' := [none, none, none, some (.ref 5)]) rfl ?_; exact k1 hc) (fun hc => k2 hc)
theorem sX2_planWithBest_34_p4 {post : Option Value → PH → Prop} {h : PH} (k : post (some (.ref 4)) h) : G 9 mX2_planWithBest post 34 [none, none, none, some (.ref 4)] [] h := by
  refine g_aload_n dX2_planWithBest_34 rfl ?_
  exact g_areturn dX2_planWithBest_35 rfl k
theorem sX2_planWithBest_23_p4 {post : Option Value → PH → Prop} {h : PH} (k : Ev 8 mX2_findBest [.ref 3, .ref 2, .ref 4] h (fun r h' => G 9 mX2_planWithBest post 29 [none, none, none, some (.ref 4)] (r.toList ++ []) h')) : G 9 mX2_planWithBest post 23 [some (.ref 3), some (.ref 2), none, some (.ref 4)] [] h := by
  refine g_aload_n dX2_planWithBest_23 rfl ?_
  refine g_aload_n dX2_planWithBest_24 rfl ?_
  refine g_aload_n dX2_planWithBest_25 rfl ?_
  refine g_forget (mask := [false, false, true, true]) (L' := [none, none, none, some (.ref 4)]) rfl ?_
  exact g_callV (n := 2) (b := 3) (as := [.ref 2, .ref 4]) (rest := []) dX2_planWithBest_26 kX2_findBest lX2_34 (by decide) rfl ⟨_, _, rfl⟩ rfl rfl (by simp only [List.map, Value.category]; decide) (by decide) k
theorem sX2_planWithBest_34_p5 {post : Option Value → PH → Prop} {h : PH} (k : post (some (.ref 5)) h) : G 9 mX2_planWithBest post 34 [none, none, none, some (.ref 5)] [] h := by
  refine g_aload_n dX2_planWithBest_34 rfl ?_
  exact g_areturn dX2_planWithBest_35 rfl k
theorem sX2_planWithBest_23_p5 {post : Option Value → PH → Prop} {h : PH} (k : Ev 8 mX2_findBest [.ref 3, .ref 2, .ref 5] h (fun r h' => G 9 mX2_planWithBest post 29 [none, none, none, some (.ref 5)] (r.toList ++ []) h')) : G 9 mX2_planWithBest post 23 [some (.ref 3), some (.ref 2), none, some (.ref 5)] [] h := by
  refine g_aload_n dX2_planWithBest_23 rfl ?_
  refine g_aload_n dX2_planWithBest_24 rfl ?_
  refine g_aload_n dX2_planWithBest_25 rfl ?_
  refine g_forget (mask := [false, false, true, true]) (L' := [none, none, none, some (.ref 5)]) rfl ?_
  exact g_callV (n := 2) (b := 3) (as := [.ref 2, .ref 5]) (rest := []) dX2_planWithBest_26 kX2_findBest lX2_34 (by decide) rfl ⟨_, _, rfl⟩ rfl rfl (by simp only [List.map, Value.category]; decide) (by decide) k
theorem sX2_planWithBest_29_p4 {post : Option Value → PH → Prop} {h : PH} (k : G 9 mX2_planWithBest post 34 [none, none, none, some (.ref 4)] [] ((upd2 h.1 4 2 1), h.2)) : G 9 mX2_planWithBest post 29 [none, none, none, some (.ref 4)] [] h := by
  refine g_aload_n dX2_planWithBest_29 rfl ?_
  refine g_iconst (v := 1) dX2_planWithBest_30 rfl ?_
  refine g_putfield dX2_planWithBest_31 fX2_27 (by decide) rfl rfl rfl rfl rfl ?_
  exact k
theorem sX2_planWithBest_29_p5 {post : Option Value → PH → Prop} {h : PH} (k : G 9 mX2_planWithBest post 34 [none, none, none, some (.ref 5)] [] ((upd2 h.1 5 2 1), h.2)) : G 9 mX2_planWithBest post 29 [none, none, none, some (.ref 5)] [] h := by
  refine g_aload_n dX2_planWithBest_29 rfl ?_
  refine g_iconst (v := 1) dX2_planWithBest_30 rfl ?_
  refine g_putfield dX2_planWithBest_31 fX2_27 (by decide) rfl rfl rfl rfl rfl ?_
  exact k
theorem sX2_planWithChange_0 {post : Option Value → PH → Prop} {h : PH} {x2 : Int32} (k1 : x2 = 0 → G 9 mX2_planWithChange post 11 [some (.ref 3), some (.ref 2), none, none] [] h) (k2 : ¬ x2 = 0 → G 9 mX2_planWithChange post 4 [some (.ref 3), some (.ref 2), none, none] [] h) : G 9 mX2_planWithChange post 0 [some (.ref 3), some (.ref 2), some (.int x2), none] [] h := by
  refine g_iload_n dX2_planWithChange_0 rfl ?_
  exact g_if_eq (tgt := 11) dX2_planWithChange_1 (by decide) (fun hc => by refine g_forget (mask := [true, true, false, true]) (L' := [some (.ref 3), some (.ref 2), none, none]) rfl ?_; exact k1 hc) (fun hc => by refine g_forget (mask := [true, true, false, true]) (L' := [some (.ref 3), some (.ref 2), none, none]) rfl ?_; exact k2 hc)
theorem sX2_planWithChange_11 {post : Option Value → PH → Prop} {h : PH} (k1 : ¬ (h.1 4 3) = 0 → G 9 mX2_planWithChange post 45 [none, none, none, some (.ref 4)] [] h) (k2 : (h.1 4 3) = 0 → G 9 mX2_planWithChange post 23 [some (.ref 3), some (.ref 2), none, some (.ref 4)] [] h) : G 9 mX2_planWithChange post 11 [some (.ref 3), some (.ref 2), none, none] [] h := by
  refine g_aload_n dX2_planWithChange_11 rfl ?_
  refine g_getfield (kd := 6) (v := .ref 4) dX2_planWithChange_12 fX2_14 (by decide) rfl rfl rfl rfl ?_
  refine g_astore_n (L' := [some (.ref 3), some (.ref 2), none, some (.ref 4)]) dX2_planWithChange_15 rfl (by decide) rfl ?_
  refine g_aload_n dX2_planWithChange_16 rfl ?_
  refine g_getfield (kd := 0) (v := .int (h.1 4 3)) dX2_planWithChange_17 fX2_31 (by decide) rfl rfl rfl rfl ?_
  exact g_if_ne (tgt := 45) dX2_planWithChange_20 (by decide) (fun hc => by refine g_forget (mask := [false, false, true, true]) (L' := [none, none, none, some (.ref 4)]) rfl ?_; exact k1 hc) (fun hc => k2 hc)
theorem sX2_planWithChange_4 {post : Option Value → PH → Prop} {h : PH} (k1 : ¬ (h.1 5 3) = 0 → G 9 mX2_planWithChange post 45 [none, none, none, some (.ref 5)] [] h) (k2 : (h.1 5 3) = 0 → G 9 mX2_planWithChange post 23 [some (.ref 3), some (.ref 2), none, some (.ref 5)] [] h) : G 9 mX2_planWithChange post 4 [some (.ref 3), some (.ref 2), none, none] [] h := by
  refine g_aload_n dX2_planWithChange_4 rfl ?_
  refine g_getfield (kd := 7) (v := .ref 5) dX2_planWithChange_5 fX2_20 (by decide) rfl rfl rfl rfl ?_
  refine g_goto (tgt := 15) dX2_planWithChange_8 (by decide) ?_
  refine g_astore_n (L' := [some (.ref 3), some (.ref 2), none, some (.ref 5)]) dX2_planWithChange_15 rfl (by decide) rfl ?_
  refine g_aload_n dX2_planWithChange_16 rfl ?_
  refine g_getfield (kd := 0) (v := .int (h.1 5 3)) dX2_planWithChange_17 fX2_31 (by decide) rfl rfl rfl rfl ?_
  exact g_if_ne (tgt := 45) dX2_planWithChange_20 (by decide) (fun hc => by refine g_forget (mask := [false, false, true, true]) (L' := [none, none, none, some (.ref 5)]) rfl ?_; exact k1 hc) (fun hc => k2 hc)
theorem sX2_planWithChange_45_p4 {post : Option Value → PH → Prop} {h : PH} (k : post (some (.ref 4)) h) : G 9 mX2_planWithChange post 45 [none, none, none, some (.ref 4)] [] h := by
  refine g_aload_n dX2_planWithChange_45 rfl ?_
  exact g_areturn dX2_planWithChange_46 rfl k
theorem sX2_planWithChange_23_p4 {post : Option Value → PH → Prop} {h : PH} (k : Ev 8 mX2_findBest [.ref 3, .ref 2, .ref 4] h (fun r h' => G 9 mX2_planWithChange post 29 [some (.ref 3), some (.ref 2), none, some (.ref 4)] (r.toList ++ []) h')) : G 9 mX2_planWithChange post 23 [some (.ref 3), some (.ref 2), none, some (.ref 4)] [] h := by
  refine g_aload_n dX2_planWithChange_23 rfl ?_
  refine g_aload_n dX2_planWithChange_24 rfl ?_
  refine g_aload_n dX2_planWithChange_25 rfl ?_
  exact g_callV (n := 2) (b := 3) (as := [.ref 2, .ref 4]) (rest := []) dX2_planWithChange_26 kX2_findBest lX2_34 (by decide) rfl ⟨_, _, rfl⟩ rfl rfl (by simp only [List.map, Value.category]; decide) (by decide) k
theorem sX2_planWithChange_45_p5 {post : Option Value → PH → Prop} {h : PH} (k : post (some (.ref 5)) h) : G 9 mX2_planWithChange post 45 [none, none, none, some (.ref 5)] [] h := by
  refine g_aload_n dX2_planWithChange_45 rfl ?_
  exact g_areturn dX2_planWithChange_46 rfl k
theorem sX2_planWithChange_23_p5 {post : Option Value → PH → Prop} {h : PH} (k : Ev 8 mX2_findBest [.ref 3, .ref 2, .ref 5] h (fun r h' => G 9 mX2_planWithChange post 29 [some (.ref 3), some (.ref 2), none, some (.ref 5)] (r.toList ++ []) h')) : G 9 mX2_planWithChange post 23 [some (.ref 3), some (.ref 2), none, some (.ref 5)] [] h := by
  refine g_aload_n dX2_planWithChange_23 rfl ?_
  refine g_aload_n dX2_planWithChange_24 rfl ?_
  refine g_aload_n dX2_planWithChange_25 rfl ?_
  exact g_callV (n := 2) (b := 3) (as := [.ref 2, .ref 5]) (rest := []) dX2_planWithChange_26 kX2_findBest lX2_34 (by decide) rfl ⟨_, _, rfl⟩ rfl rfl (by simp only [List.map, Value.category]; decide) (by decide) k
theorem sX2_planWithChange_29_p4 {post : Option Value → PH → Prop} {h : PH} (k : Ev 3 mX2_findChange [.ref 3, .ref 2, .ref 4] h (fun r h' => G 9 mX2_planWithChange post 35 [none, none, none, some (.ref 4)] (r.toList ++ []) h')) : G 9 mX2_planWithChange post 29 [some (.ref 3), some (.ref 2), none, some (.ref 4)] [] h := by
  refine g_aload_n dX2_planWithChange_29 rfl ?_
  refine g_aload_n dX2_planWithChange_30 rfl ?_
  refine g_aload_n dX2_planWithChange_31 rfl ?_
  refine g_forget (mask := [false, false, true, true]) (L' := [none, none, none, some (.ref 4)]) rfl ?_
  exact g_callV (n := 2) (b := 3) (as := [.ref 2, .ref 4]) (rest := []) dX2_planWithChange_32 kX2_findChange lX2_38 (by decide) rfl ⟨_, _, rfl⟩ rfl rfl (by simp only [List.map, Value.category]; decide) (by decide) k
theorem sX2_planWithChange_29_p5 {post : Option Value → PH → Prop} {h : PH} (k : Ev 3 mX2_findChange [.ref 3, .ref 2, .ref 5] h (fun r h' => G 9 mX2_planWithChange post 35 [none, none, none, some (.ref 5)] (r.toList ++ []) h')) : G 9 mX2_planWithChange post 29 [some (.ref 3), some (.ref 2), none, some (.ref 5)] [] h := by
  refine g_aload_n dX2_planWithChange_29 rfl ?_
  refine g_aload_n dX2_planWithChange_30 rfl ?_
  refine g_aload_n dX2_planWithChange_31 rfl ?_
  refine g_forget (mask := [false, false, true, true]) (L' := [none, none, none, some (.ref 5)]) rfl ?_
  exact g_callV (n := 2) (b := 3) (as := [.ref 2, .ref 5]) (rest := []) dX2_planWithChange_32 kX2_findChange lX2_38 (by decide) rfl ⟨_, _, rfl⟩ rfl rfl (by simp only [List.map, Value.category]; decide) (by decide) k
theorem sX2_planWithChange_35_p4 {post : Option Value → PH → Prop} {h : PH} (k : G 9 mX2_planWithChange post 45 [none, none, none, some (.ref 4)] [] ((upd2 (upd2 h.1 4 2 1) 4 3 1), h.2)) : G 9 mX2_planWithChange post 35 [none, none, none, some (.ref 4)] [] h := by
  refine g_aload_n dX2_planWithChange_35 rfl ?_
  refine g_iconst (v := 1) dX2_planWithChange_36 rfl ?_
  refine g_putfield dX2_planWithChange_37 fX2_27 (by decide) rfl rfl rfl rfl rfl ?_
  refine g_aload_n dX2_planWithChange_40 rfl ?_
  refine g_iconst (v := 1) dX2_planWithChange_41 rfl ?_
  refine g_putfield dX2_planWithChange_42 fX2_31 (by decide) rfl rfl rfl rfl rfl ?_
  exact k
theorem sX2_planWithChange_35_p5 {post : Option Value → PH → Prop} {h : PH} (k : G 9 mX2_planWithChange post 45 [none, none, none, some (.ref 5)] [] ((upd2 (upd2 h.1 5 2 1) 5 3 1), h.2)) : G 9 mX2_planWithChange post 35 [none, none, none, some (.ref 5)] [] h := by
  refine g_aload_n dX2_planWithChange_35 rfl ?_
  refine g_iconst (v := 1) dX2_planWithChange_36 rfl ?_
  refine g_putfield dX2_planWithChange_37 fX2_27 (by decide) rfl rfl rfl rfl rfl ?_
  refine g_aload_n dX2_planWithChange_40 rfl ?_
  refine g_iconst (v := 1) dX2_planWithChange_41 rfl ?_
  refine g_putfield dX2_planWithChange_42 fX2_31 (by decide) rfl rfl rfl rfl rfl ?_
  exact k
theorem sX2_findBest_0_p4 {post : Option Value → PH → Prop} {h : PH} (k : Ev 0 mJ7_fill_53178 [.ref 12, .int (-2)] h (fun r h' => G 8 mX2_findBest post 9 [some (.ref 3), some (.ref 2), some (.ref 4)] (r.toList ++ []) h')) : G 8 mX2_findBest post 0 [some (.ref 3), some (.ref 2), some (.ref 4)] [] h := by
  refine g_aload_n dX2_findBest_0 rfl ?_
  refine g_getfield (kd := 14) (v := .ref 12) dX2_findBest_1 fX2_23 (by decide) rfl rfl rfl rfl ?_
  refine g_bipush (v := (-2)) dX2_findBest_4 rfl ?_
  exact g_callS (n := 2) (as := [.ref 12, .int (-2)]) (rest := []) dX2_findBest_6 kJ7_fill_53178 lX2_41 rfl rfl (by simp only [List.map, Value.category]; decide) (by decide) k
theorem sX2_findBest_9_p4 {post : Option Value → PH → Prop} {h : PH} (k : Ev 7 mX2_openFrom [.ref 2, .ref 4, .ref 12, .int 0, .int 0, .int 0, .int 0] ((upd2 (upd2 h.1 4 4 (-1001)) 4 5 0), h.2) (fun r h' => G 8 mX2_findBest post 34 [none, none, none] (r.toList ++ []) h')) : G 8 mX2_findBest post 9 [some (.ref 3), some (.ref 2), some (.ref 4)] [] h := by
  refine g_aload_n dX2_findBest_9 rfl ?_
  refine g_sipush (v := (-1001)) dX2_findBest_10 rfl ?_
  refine g_putfield dX2_findBest_13 fX2_47 (by decide) rfl rfl rfl rfl rfl ?_
  refine g_aload_n dX2_findBest_16 rfl ?_
  refine g_iconst (v := 0) dX2_findBest_17 rfl ?_
  refine g_putfield dX2_findBest_18 fX2_51 (by decide) rfl rfl rfl rfl rfl ?_
  refine g_aload_n dX2_findBest_21 rfl ?_
  refine g_aload_n dX2_findBest_22 rfl ?_
  refine g_aload_n dX2_findBest_23 rfl ?_
  refine g_getfield (kd := 14) (v := .ref 12) dX2_findBest_24 fX2_23 (by decide) rfl rfl rfl rfl ?_
  refine g_iconst (v := 0) dX2_findBest_27 rfl ?_
  refine g_iconst (v := 0) dX2_findBest_28 rfl ?_
  refine g_iconst (v := 0) dX2_findBest_29 rfl ?_
  refine g_iconst (v := 0) dX2_findBest_30 rfl ?_
  refine g_forget (mask := [false, false, false]) (L' := [none, none, none]) rfl ?_
  exact g_callS (n := 7) (as := [.ref 2, .ref 4, .ref 12, .int 0, .int 0, .int 0, .int 0]) (rest := []) dX2_findBest_31 kX2_openFrom lX2_54 rfl rfl (by simp only [List.map, Value.category]; decide) (by decide) k
theorem sX2_findBest_34_p4 {post : Option Value → PH → Prop} {h : PH} (k : post none h) : G 8 mX2_findBest post 34 [none, none, none] [] h := by
  exact g_return dX2_findBest_34 rfl k
theorem sX2_findBest_0_p5 {post : Option Value → PH → Prop} {h : PH} (k : Ev 0 mJ7_fill_53178 [.ref 12, .int (-2)] h (fun r h' => G 8 mX2_findBest post 9 [some (.ref 3), some (.ref 2), some (.ref 5)] (r.toList ++ []) h')) : G 8 mX2_findBest post 0 [some (.ref 3), some (.ref 2), some (.ref 5)] [] h := by
  refine g_aload_n dX2_findBest_0 rfl ?_
  refine g_getfield (kd := 14) (v := .ref 12) dX2_findBest_1 fX2_23 (by decide) rfl rfl rfl rfl ?_
  refine g_bipush (v := (-2)) dX2_findBest_4 rfl ?_
  exact g_callS (n := 2) (as := [.ref 12, .int (-2)]) (rest := []) dX2_findBest_6 kJ7_fill_53178 lX2_41 rfl rfl (by simp only [List.map, Value.category]; decide) (by decide) k
theorem sX2_findBest_9_p5 {post : Option Value → PH → Prop} {h : PH} (k : Ev 7 mX2_openFrom [.ref 2, .ref 5, .ref 12, .int 0, .int 0, .int 0, .int 0] ((upd2 (upd2 h.1 5 4 (-1001)) 5 5 0), h.2) (fun r h' => G 8 mX2_findBest post 34 [none, none, none] (r.toList ++ []) h')) : G 8 mX2_findBest post 9 [some (.ref 3), some (.ref 2), some (.ref 5)] [] h := by
  refine g_aload_n dX2_findBest_9 rfl ?_
  refine g_sipush (v := (-1001)) dX2_findBest_10 rfl ?_
  refine g_putfield dX2_findBest_13 fX2_47 (by decide) rfl rfl rfl rfl rfl ?_
  refine g_aload_n dX2_findBest_16 rfl ?_
  refine g_iconst (v := 0) dX2_findBest_17 rfl ?_
  refine g_putfield dX2_findBest_18 fX2_51 (by decide) rfl rfl rfl rfl rfl ?_
  refine g_aload_n dX2_findBest_21 rfl ?_
  refine g_aload_n dX2_findBest_22 rfl ?_
  refine g_aload_n dX2_findBest_23 rfl ?_
  refine g_getfield (kd := 14) (v := .ref 12) dX2_findBest_24 fX2_23 (by decide) rfl rfl rfl rfl ?_
  refine g_iconst (v := 0) dX2_findBest_27 rfl ?_
  refine g_iconst (v := 0) dX2_findBest_28 rfl ?_
  refine g_iconst (v := 0) dX2_findBest_29 rfl ?_
  refine g_iconst (v := 0) dX2_findBest_30 rfl ?_
  refine g_forget (mask := [false, false, false]) (L' := [none, none, none]) rfl ?_
  exact g_callS (n := 7) (as := [.ref 2, .ref 5, .ref 12, .int 0, .int 0, .int 0, .int 0]) (rest := []) dX2_findBest_31 kX2_openFrom lX2_54 rfl rfl (by simp only [List.map, Value.category]; decide) (by decide) k
theorem sX2_findBest_34_p5 {post : Option Value → PH → Prop} {h : PH} (k : post none h) : G 8 mX2_findBest post 34 [none, none, none] [] h := by
  exact g_return dX2_findBest_34 rfl k
theorem sX2_openFrom_0_p4 {d : Nat} {post : Option Value → PH → Prop} {h : PH} {x3 x4 x5 x6 : Int32} (k : Ev 0 mX3_isSafe [.ref 2, .int x5] h (fun r h' => G (d + 2) mX2_openFrom post 6 [some (.ref 2), some (.ref 4), some (.ref 12), some (.int x3), some (.int x4), some (.int x5), some (.int x6), none, none, none, none, none] (r.toList ++ []) h')) : G (d + 2) mX2_openFrom post 0 [some (.ref 2), some (.ref 4), some (.ref 12), some (.int x3), some (.int x4), some (.int x5), some (.int x6), none, none, none, none, none] [] h := by
  refine g_aload_n dX2_openFrom_0 rfl ?_
  refine g_iload dX2_openFrom_1 rfl ?_
  exact g_callV (n := 1) (b := 2) (as := [.int x5]) (rest := []) dX2_openFrom_3 kX3_isSafe lX2_58 (by decide) rfl ⟨_, _, rfl⟩ rfl rfl (by simp only [List.map, Value.category]; decide) (by omega) k
theorem sX2_openFrom_6_p4 {d : Nat} {post : Option Value → PH → Prop} {h : PH} {x3 x4 x5 x6 s0 : Int32} (k1 : ¬ s0 = 0 → G (d + 2) mX2_openFrom post 10 [some (.ref 2), some (.ref 4), some (.ref 12), some (.int x3), some (.int x4), some (.int x5), some (.int x6), none, none, none, none, none] [] h) (k2 : s0 = 0 → G (d + 2) mX2_openFrom post 9 [none, none, none, none, none, none, none, none, none, none, none, none] [] h) : G (d + 2) mX2_openFrom post 6 [some (.ref 2), some (.ref 4), some (.ref 12), some (.int x3), some (.int x4), some (.int x5), some (.int x6), none, none, none, none, none] [.int s0] h := by
  exact g_if_ne (tgt := 10) dX2_openFrom_6 (by decide) (fun hc => k1 hc) (fun hc => by refine g_forget (mask := [false, false, false, false, false, false, false, true, true, true, true, true]) (L' := [none, none, none, none, none, none, none, none, none, none, none, none]) rfl ?_; exact k2 hc)
theorem sX2_openFrom_10_p4 {d : Nat} {post : Option Value → PH → Prop} {h : PH} {x3 x4 x5 x6 : Int32} (k : Ev 0 mX3_hasMirror [.ref 2, .int x3] h (fun r h' => G (d + 2) mX2_openFrom post 15 [some (.ref 2), some (.ref 4), some (.ref 12), some (.int x3), some (.int x4), some (.int x5), some (.int x6), none, none, none, none, none] (r.toList ++ []) h')) : G (d + 2) mX2_openFrom post 10 [some (.ref 2), some (.ref 4), some (.ref 12), some (.int x3), some (.int x4), some (.int x5), some (.int x6), none, none, none, none, none] [] h := by
  refine g_aload_n dX2_openFrom_10 rfl ?_
  refine g_iload_n dX2_openFrom_11 rfl ?_
  exact g_callV (n := 1) (b := 2) (as := [.int x3]) (rest := []) dX2_openFrom_12 kX3_hasMirror lX2_64 (by decide) rfl ⟨_, _, rfl⟩ rfl rfl (by simp only [List.map, Value.category]; decide) (by omega) k
theorem sX2_openFrom_9_p4 {d : Nat} {post : Option Value → PH → Prop} {h : PH} (k : post none h) : G (d + 2) mX2_openFrom post 9 [none, none, none, none, none, none, none, none, none, none, none, none] [] h := by
  exact g_return dX2_openFrom_9 rfl k
theorem sX2_openFrom_15_p4 {d : Nat} {post : Option Value → PH → Prop} {h : PH} {x3 x4 x5 x6 s0 : Int32} (k1 : ¬ s0 = 0 → G (d + 2) mX2_openFrom post 28 [some (.ref 2), some (.ref 4), some (.ref 12), some (.int x3), some (.int x4), some (.int x5), some (.int x6), none, none, none, none, none] [] h) (k2 : s0 = 0 → G (d + 2) mX2_openFrom post 18 [none, some (.ref 4), some (.ref 12), none, some (.int x4), none, some (.int x6), none, none, none, none, none] [] h) : G (d + 2) mX2_openFrom post 15 [some (.ref 2), some (.ref 4), some (.ref 12), some (.int x3), some (.int x4), some (.int x5), some (.int x6), none, none, none, none, none] [.int s0] h := by
  exact g_if_ne (tgt := 28) dX2_openFrom_15 (by decide) (fun hc => k1 hc) (fun hc => by refine g_forget (mask := [false, true, true, false, true, false, true, true, true, true, true, true]) (L' := [none, some (.ref 4), some (.ref 12), none, some (.int x4), none, some (.int x6), none, none, none, none, none]) rfl ?_; exact k2 hc)
theorem sX2_openFrom_28_p4 {d : Nat} {post : Option Value → PH → Prop} {h : PH} {x3 x4 x5 x6 : Int32} (k : Ev 1 mX3_isShaded [.ref 2, .int x3] h (fun r h' => G (d + 2) mX2_openFrom post 33 [some (.ref 2), some (.ref 4), some (.ref 12), some (.int x3), some (.int x4), some (.int x5), some (.int x6), none, none, none, none, none] (r.toList ++ []) h')) : G (d + 2) mX2_openFrom post 28 [some (.ref 2), some (.ref 4), some (.ref 12), some (.int x3), some (.int x4), some (.int x5), some (.int x6), none, none, none, none, none] [] h := by
  refine g_aload_n dX2_openFrom_28 rfl ?_
  refine g_iload_n dX2_openFrom_29 rfl ?_
  exact g_callV (n := 1) (b := 2) (as := [.int x3]) (rest := []) dX2_openFrom_30 kX3_isShaded lX2_71 (by decide) rfl ⟨_, _, rfl⟩ rfl rfl (by simp only [List.map, Value.category]; decide) (by omega) k
theorem sX2_openFrom_18_p4 {d : Nat} {post : Option Value → PH → Prop} {h : PH} {x4 x6 : Int32} (k : Ev 0 mX2_open [.ref 4, .ref 12, .int x4, .int x6] h (fun r h' => G (d + 2) mX2_openFrom post 27 [none, none, none, none, none, none, none, none, none, none, none, none] (r.toList ++ []) h')) : G (d + 2) mX2_openFrom post 18 [none, some (.ref 4), some (.ref 12), none, some (.int x4), none, some (.int x6), none, none, none, none, none] [] h := by
  refine g_aload_n dX2_openFrom_18 rfl ?_
  refine g_aload_n dX2_openFrom_19 rfl ?_
  refine g_iload dX2_openFrom_20 rfl ?_
  refine g_iload dX2_openFrom_22 rfl ?_
  refine g_forget (mask := [true, false, false, true, false, true, false, true, true, true, true, true]) (L' := [none, none, none, none, none, none, none, none, none, none, none, none]) rfl ?_
  exact g_callS (n := 4) (as := [.ref 4, .ref 12, .int x4, .int x6]) (rest := []) dX2_openFrom_24 kX2_open lX2_67 rfl rfl (by simp only [List.map, Value.category]; decide) (by omega) k
theorem sX2_openFrom_33_p4 {d : Nat} {post : Option Value → PH → Prop} {h : PH} {x3 x4 x5 x6 s0 : Int32} (k : G (d + 2) mX2_openFrom post 38 [some (.ref 2), some (.ref 4), some (.ref 12), some (.int x3), some (.int x4), some (.int x5), some (.int x6), some (.int s0), some (.int (-1)), none, none, none] [] h) : G (d + 2) mX2_openFrom post 33 [some (.ref 2), some (.ref 4), some (.ref 12), some (.int x3), some (.int x4), some (.int x5), some (.int x6), none, none, none, none, none] [.int s0] h := by
  refine g_istore (L' := [some (.ref 2), some (.ref 4), some (.ref 12), some (.int x3), some (.int x4), some (.int x5), some (.int x6), some (.int s0), none, none, none, none]) dX2_openFrom_33 rfl (by decide) rfl ?_
  refine g_iconst (v := (-1)) dX2_openFrom_35 rfl ?_
  refine g_istore (L' := [some (.ref 2), some (.ref 4), some (.ref 12), some (.int x3), some (.int x4), some (.int x5), some (.int x6), some (.int s0), some (.int (-1)), none, none, none]) dX2_openFrom_36 rfl (by decide) rfl ?_
  exact k
theorem sX2_openFrom_27_p4 {d : Nat} {post : Option Value → PH → Prop} {h : PH} (k : post none h) : G (d + 2) mX2_openFrom post 27 [none, none, none, none, none, none, none, none, none, none, none, none] [] h := by
  exact g_return dX2_openFrom_27 rfl k
theorem sX2_openFrom_38_p4 {d : Nat} {post : Option Value → PH → Prop} {h : PH} {x3 x4 x5 x6 x7 x8 : Int32} (k1 : (h.1 2 1) ≤ x8 → G (d + 2) mX2_openFrom post 154 [none, none, none, none, none, none, none, none, none, none, none, none] [] h) (k2 : ¬ (h.1 2 1) ≤ x8 → G (d + 2) mX2_openFrom post 47 [some (.ref 2), some (.ref 4), some (.ref 12), some (.int x3), some (.int x4), some (.int x5), some (.int x6), some (.int x7), some (.int x8), none, none, none] [] h) : G (d + 2) mX2_openFrom post 38 [some (.ref 2), some (.ref 4), some (.ref 12), some (.int x3), some (.int x4), some (.int x5), some (.int x6), some (.int x7), some (.int x8), none, none, none] [] h := by
  refine g_iload dX2_openFrom_38 rfl ?_
  refine g_aload_n dX2_openFrom_40 rfl ?_
  refine g_getfield (kd := 0) (v := .int (h.1 2 1)) dX2_openFrom_41 fX2_74 (by decide) rfl rfl rfl rfl ?_
  exact g_icmp_ge (tgt := 154) dX2_openFrom_44 (by decide) (fun hc => by refine g_forget (mask := [false, false, false, false, false, false, false, false, false, true, true, true]) (L' := [none, none, none, none, none, none, none, none, none, none, none, none]) rfl ?_; exact k1 hc) (fun hc => k2 hc)
theorem sX2_openFrom_154_p4 {d : Nat} {post : Option Value → PH → Prop} {h : PH} (k : post none h) : G (d + 2) mX2_openFrom post 154 [none, none, none, none, none, none, none, none, none, none, none, none] [] h := by
  exact g_return dX2_openFrom_154 rfl k
theorem sX2_openFrom_47_p4 {d : Nat} {post : Option Value → PH → Prop} {h : PH} {x3 x4 x5 x6 x7 x8 : Int32} (k : Ev 1 mX3_isStuck [.ref 2, .int x3] h (fun r h' => G (d + 2) mX2_openFrom post 52 [some (.ref 2), some (.ref 4), some (.ref 12), some (.int x3), some (.int x4), some (.int x5), some (.int x6), some (.int x7), some (.int x8), none, none, none] (r.toList ++ []) h')) : G (d + 2) mX2_openFrom post 47 [some (.ref 2), some (.ref 4), some (.ref 12), some (.int x3), some (.int x4), some (.int x5), some (.int x6), some (.int x7), some (.int x8), none, none, none] [] h := by
  refine g_aload_n dX2_openFrom_47 rfl ?_
  refine g_iload_n dX2_openFrom_48 rfl ?_
  exact g_callV (n := 1) (b := 2) (as := [.int x3]) (rest := []) dX2_openFrom_49 kX3_isStuck lX2_77 (by decide) rfl ⟨_, _, rfl⟩ rfl rfl (by simp only [List.map, Value.category]; decide) (by omega) k
theorem sX2_openFrom_52_p4 {d : Nat} {post : Option Value → PH → Prop} {h : PH} {x3 x4 x5 x6 x7 x8 s0 : Int32} (k1 : s0 = 0 → G (d + 2) mX2_openFrom post 69 [some (.ref 2), some (.ref 4), some (.ref 12), some (.int x3), some (.int x4), some (.int x5), some (.int x6), some (.int x7), some (.int x8), none, none, none] [] h) (k2 : ¬ s0 = 0 → G (d + 2) mX2_openFrom post 55 [some (.ref 2), some (.ref 4), some (.ref 12), some (.int x3), some (.int x4), some (.int x5), some (.int x6), some (.int x7), some (.int x8), none, none, none] [] h) : G (d + 2) mX2_openFrom post 52 [some (.ref 2), some (.ref 4), some (.ref 12), some (.int x3), some (.int x4), some (.int x5), some (.int x6), some (.int x7), some (.int x8), none, none, none] [.int s0] h := by
  exact g_if_eq (tgt := 69) dX2_openFrom_52 (by decide) (fun hc => k1 hc) (fun hc => k2 hc)
theorem sX2_openFrom_69_p4 {d : Nat} {post : Option Value → PH → Prop} {h : PH} {x3 x4 x5 x6 x7 x8 : Int32} (k : Ev 1 mX3_light [.ref 2, .int x3, .int x8] h (fun r h' => G (d + 2) mX2_openFrom post 76 [some (.ref 2), some (.ref 4), some (.ref 12), some (.int x3), some (.int x4), some (.int x5), some (.int x6), some (.int x7), some (.int x8), none, none, none] (r.toList ++ []) h')) : G (d + 2) mX2_openFrom post 69 [some (.ref 2), some (.ref 4), some (.ref 12), some (.int x3), some (.int x4), some (.int x5), some (.int x6), some (.int x7), some (.int x8), none, none, none] [] h := by
  refine g_aload_n dX2_openFrom_69 rfl ?_
  refine g_iload_n dX2_openFrom_70 rfl ?_
  refine g_iload dX2_openFrom_71 rfl ?_
  exact g_callV (n := 2) (b := 2) (as := [.int x3, .int x8]) (rest := []) dX2_openFrom_73 kX3_light lX2_83 (by decide) rfl ⟨_, _, rfl⟩ rfl rfl (by simp only [List.map, Value.category]; decide) (by omega) k
theorem sX2_openFrom_55_p4 {d : Nat} {post : Option Value → PH → Prop} {h : PH} {x3 x4 x5 x6 x7 x8 : Int32} (hb1 : vp_in x3 5) (k1 : x8 = (h.1 9 (Int32.toNatClampNeg x3)) → G (d + 2) mX2_openFrom post 69 [some (.ref 2), some (.ref 4), some (.ref 12), some (.int x3), some (.int x4), some (.int x5), some (.int x6), some (.int x7), some (.int x8), none, none, none] [] h) (k2 : ¬ x8 = (h.1 9 (Int32.toNatClampNeg x3)) → G (d + 2) mX2_openFrom post 66 [some (.ref 2), some (.ref 4), some (.ref 12), some (.int x3), some (.int x4), some (.int x5), some (.int x6), some (.int x7), some (.int x8), none, none, none] [] h) : G (d + 2) mX2_openFrom post 55 [some (.ref 2), some (.ref 4), some (.ref 12), some (.int x3), some (.int x4), some (.int x5), some (.int x6), some (.int x7), some (.int x8), none, none, none] [] h := by
  refine g_iload dX2_openFrom_55 rfl ?_
  refine g_aload_n dX2_openFrom_57 rfl ?_
  refine g_getfield (kd := 11) (v := .ref 9) dX2_openFrom_58 fX2_80 (by decide) rfl rfl rfl rfl ?_
  refine g_iload_n dX2_openFrom_61 rfl ?_
  refine g_iaload (n := 5) dX2_openFrom_62 (by decide) rfl rfl rfl hb1 ?_
  exact g_icmp_eq (tgt := 69) dX2_openFrom_63 (by decide) (fun hc => k1 hc) (fun hc => k2 hc)
theorem sX2_openFrom_76_p4 {d : Nat} {post : Option Value → PH → Prop} {h : PH} {x3 x4 x5 x6 x7 x8 s0 : Int32} (k1 : x7 = 0 → G (d + 2) mX2_openFrom post 95 [some (.ref 2), some (.ref 4), some (.ref 12), some (.int x3), some (.int x4), some (.int x5), some (.int x6), some (.int x7), some (.int x8), some (.int s0), none, none] [] h) (k2 : ¬ x7 = 0 → G (d + 2) mX2_openFrom post 83 [some (.ref 2), some (.ref 4), some (.ref 12), some (.int x3), some (.int x4), some (.int x5), some (.int x6), some (.int x7), some (.int x8), some (.int s0), none, none] [] h) : G (d + 2) mX2_openFrom post 76 [some (.ref 2), some (.ref 4), some (.ref 12), some (.int x3), some (.int x4), some (.int x5), some (.int x6), some (.int x7), some (.int x8), none, none, none] [.int s0] h := by
  refine g_istore (L' := [some (.ref 2), some (.ref 4), some (.ref 12), some (.int x3), some (.int x4), some (.int x5), some (.int x6), some (.int x7), some (.int x8), some (.int s0), none, none]) dX2_openFrom_76 rfl (by decide) rfl ?_
  refine g_iload dX2_openFrom_78 rfl ?_
  exact g_if_eq (tgt := 95) dX2_openFrom_80 (by decide) (fun hc => k1 hc) (fun hc => k2 hc)
theorem sX2_openFrom_66_p4 {d : Nat} {post : Option Value → PH → Prop} {h : PH} {x3 x4 x5 x6 x7 x8 : Int32} (k : G (d + 2) mX2_openFrom post 148 [some (.ref 2), some (.ref 4), some (.ref 12), some (.int x3), some (.int x4), some (.int x5), some (.int x6), some (.int x7), some (.int x8), none, none, none] [] h) : G (d + 2) mX2_openFrom post 66 [some (.ref 2), some (.ref 4), some (.ref 12), some (.int x3), some (.int x4), some (.int x5), some (.int x6), some (.int x7), some (.int x8), none, none, none] [] h := by
  refine g_goto (tgt := 148) dX2_openFrom_66 (by decide) ?_
  exact k
theorem sX2_openFrom_95_p4 {d : Nat} {post : Option Value → PH → Prop} {h : PH} {x3 x4 x5 x6 x7 x8 x9 : Int32} (k1 : x7 = 0 → G (d + 2) mX2_openFrom post 112 [some (.ref 2), some (.ref 4), some (.ref 12), some (.int x3), some (.int x4), some (.int x5), some (.int x6), some (.int x7), some (.int x8), some (.int x9), some (.int (x5 + x9)), none] [] h) (k2 : ¬ x7 = 0 → G (d + 2) mX2_openFrom post 107 [some (.ref 2), some (.ref 4), some (.ref 12), some (.int x3), some (.int x4), some (.int x5), some (.int x6), some (.int x7), some (.int x8), none, some (.int (x5 + x9)), none] [] h) : G (d + 2) mX2_openFrom post 95 [some (.ref 2), some (.ref 4), some (.ref 12), some (.int x3), some (.int x4), some (.int x5), some (.int x6), some (.int x7), some (.int x8), some (.int x9), none, none] [] h := by
  refine g_iload dX2_openFrom_95 rfl ?_
  refine g_iload dX2_openFrom_97 rfl ?_
  refine g_iadd dX2_openFrom_99 ?_
  refine g_istore (L' := [some (.ref 2), some (.ref 4), some (.ref 12), some (.int x3), some (.int x4), some (.int x5), some (.int x6), some (.int x7), some (.int x8), some (.int x9), some (.int (x5 + x9)), none]) dX2_openFrom_100 rfl (by decide) rfl ?_
  refine g_iload dX2_openFrom_102 rfl ?_
  exact g_if_eq (tgt := 112) dX2_openFrom_104 (by decide) (fun hc => k1 hc) (fun hc => by refine g_forget (mask := [true, true, true, true, true, true, true, true, true, false, true, true]) (L' := [some (.ref 2), some (.ref 4), some (.ref 12), some (.int x3), some (.int x4), some (.int x5), some (.int x6), some (.int x7), some (.int x8), none, some (.int (x5 + x9)), none]) rfl ?_; exact k2 hc)
theorem sX2_openFrom_83_p4 {d : Nat} {post : Option Value → PH → Prop} {h : PH} {x3 x4 x5 x6 x7 x8 x9 : Int32} (k1 : ¬ (h.1 4 0) = 0 → G (d + 2) mX2_openFrom post 95 [some (.ref 2), some (.ref 4), some (.ref 12), some (.int x3), some (.int x4), some (.int x5), some (.int x6), some (.int x7), some (.int x8), some (.int x9), none, none] [] h) (k2 : (h.1 4 0) = 0 → G (d + 2) mX2_openFrom post 90 [some (.ref 2), some (.ref 4), some (.ref 12), some (.int x3), some (.int x4), some (.int x5), some (.int x6), some (.int x7), some (.int x8), some (.int x9), none, none] [] h) : G (d + 2) mX2_openFrom post 83 [some (.ref 2), some (.ref 4), some (.ref 12), some (.int x3), some (.int x4), some (.int x5), some (.int x6), some (.int x7), some (.int x8), some (.int x9), none, none] [] h := by
  refine g_aload_n dX2_openFrom_83 rfl ?_
  refine g_getfield (kd := 0) (v := .int (h.1 4 0)) dX2_openFrom_84 fX2_87 (by decide) rfl rfl rfl rfl ?_
  exact g_if_ne (tgt := 95) dX2_openFrom_87 (by decide) (fun hc => k1 hc) (fun hc => k2 hc)
theorem sX2_openFrom_148_p4 {d : Nat} {post : Option Value → PH → Prop} {h : PH} {x3 x4 x5 x6 x7 x8 : Int32} (k : G (d + 2) mX2_openFrom post 38 [some (.ref 2), some (.ref 4), some (.ref 12), some (.int x3), some (.int x4), some (.int x5), some (.int x6), some (.int x7), some (.int (x8 + 1)), none, none, none] [] h) : G (d + 2) mX2_openFrom post 148 [some (.ref 2), some (.ref 4), some (.ref 12), some (.int x3), some (.int x4), some (.int x5), some (.int x6), some (.int x7), some (.int x8), none, none, none] [] h := by
  refine g_iinc (v := (x8 + 1)) (L' := [some (.ref 2), some (.ref 4), some (.ref 12), some (.int x3), some (.int x4), some (.int x5), some (.int x6), some (.int x7), some (.int (x8 + 1)), none, none, none]) dX2_openFrom_148 rfl rfl rfl (by decide) rfl ?_
  refine g_goto (tgt := 38) dX2_openFrom_151 (by decide) ?_
  exact k
theorem sX2_openFrom_112_p4 {d : Nat} {post : Option Value → PH → Prop} {h : PH} {x3 x4 x5 x6 x7 x8 x9 x10 : Int32} (k : Ev 1 mX4_sum [.int x9] h (fun r h' => G (d + 2) mX2_openFrom post 119 [some (.ref 2), some (.ref 4), some (.ref 12), some (.int x3), some (.int x4), some (.int x5), some (.int x6), some (.int x7), some (.int x8), none, some (.int x10), none] (r.toList ++ [.int x6]) h')) : G (d + 2) mX2_openFrom post 112 [some (.ref 2), some (.ref 4), some (.ref 12), some (.int x3), some (.int x4), some (.int x5), some (.int x6), some (.int x7), some (.int x8), some (.int x9), some (.int x10), none] [] h := by
  refine g_iload dX2_openFrom_112 rfl ?_
  refine g_iload dX2_openFrom_114 rfl ?_
  refine g_forget (mask := [true, true, true, true, true, true, true, true, true, false, true, true]) (L' := [some (.ref 2), some (.ref 4), some (.ref 12), some (.int x3), some (.int x4), some (.int x5), some (.int x6), some (.int x7), some (.int x8), none, some (.int x10), none]) rfl ?_
  exact g_callS (n := 1) (as := [.int x9]) (rest := [.int x6]) dX2_openFrom_116 kX4_sum lX2_90 rfl rfl (by simp only [List.map, Value.category]; decide) (by omega) k
theorem sX2_openFrom_107_p4 {d : Nat} {post : Option Value → PH → Prop} {h : PH} {x3 x4 x5 x6 x7 x8 x10 : Int32} (hb1 : vp_in x3 5) (k : Ev (d + 2) mX2_openFrom [.ref 2, .ref 4, .ref 12, .int (x3 + 1), .int (x4 + ((x8 + 1) * (stp5 (Int32.toNatClampNeg x3)))), .int x10, .int x6] h (fun r h' => G (d + 1 + 2) mX2_openFrom post 148 [some (.ref 2), some (.ref 4), some (.ref 12), some (.int x3), some (.int x4), some (.int x5), some (.int x6), some (.int x7), some (.int x8), none, none, none] (r.toList ++ []) h')) : G (d + 1 + 2) mX2_openFrom post 107 [some (.ref 2), some (.ref 4), some (.ref 12), some (.int x3), some (.int x4), some (.int x5), some (.int x6), some (.int x7), some (.int x8), none, some (.int x10), none] [] h := by
  refine g_iload dX2_openFrom_107 rfl ?_
  refine g_goto (tgt := 120) dX2_openFrom_109 (by decide) ?_
  refine g_istore (L' := [some (.ref 2), some (.ref 4), some (.ref 12), some (.int x3), some (.int x4), some (.int x5), some (.int x6), some (.int x7), some (.int x8), none, some (.int x10), some (.int x6)]) dX2_openFrom_120 rfl (by decide) rfl ?_
  refine g_aload_n dX2_openFrom_122 rfl ?_
  refine g_aload_n dX2_openFrom_123 rfl ?_
  refine g_aload_n dX2_openFrom_124 rfl ?_
  refine g_iload_n dX2_openFrom_125 rfl ?_
  refine g_iconst (v := 1) dX2_openFrom_126 rfl ?_
  refine g_iadd dX2_openFrom_127 ?_
  refine g_iload dX2_openFrom_128 rfl ?_
  refine g_iload dX2_openFrom_130 rfl ?_
  refine g_iconst (v := 1) dX2_openFrom_132 rfl ?_
  refine g_iadd dX2_openFrom_133 ?_
  refine g_steps dX2_openFrom_134 fX2_94 ?_
  refine g_iload_n dX2_openFrom_137 rfl ?_
  refine g_stepsload dX2_openFrom_138 hb1 ?_
  refine g_imul dX2_openFrom_139 ?_
  refine g_iadd dX2_openFrom_140 ?_
  refine g_iload dX2_openFrom_141 rfl ?_
  refine g_iload dX2_openFrom_143 rfl ?_
  refine g_forget (mask := [true, true, true, true, true, true, true, true, true, true, false, false]) (L' := [some (.ref 2), some (.ref 4), some (.ref 12), some (.int x3), some (.int x4), some (.int x5), some (.int x6), some (.int x7), some (.int x8), none, none, none]) rfl ?_
  exact g_callS (n := 7) (as := [.ref 2, .ref 4, .ref 12, .int (x3 + 1), .int (x4 + ((x8 + 1) * (stp5 (Int32.toNatClampNeg x3)))), .int x10, .int x6]) (rest := []) dX2_openFrom_145 kX2_openFrom lX2_54 rfl rfl (by simp only [List.map, Value.category]; decide) (by omega) k
theorem sX2_openFrom_90_p4 {d : Nat} {post : Option Value → PH → Prop} {h : PH} {x3 x4 x5 x6 x7 x8 x9 : Int32} (k1 : x7 = 0 → G (d + 2) mX2_openFrom post 112 [some (.ref 2), some (.ref 4), some (.ref 12), some (.int x3), some (.int x4), some (.int x5), some (.int x6), some (.int x7), some (.int x8), some (.int x9), some (.int x5), none] [] h) (k2 : ¬ x7 = 0 → G (d + 2) mX2_openFrom post 107 [some (.ref 2), some (.ref 4), some (.ref 12), some (.int x3), some (.int x4), some (.int x5), some (.int x6), some (.int x7), some (.int x8), none, some (.int x5), none] [] h) : G (d + 2) mX2_openFrom post 90 [some (.ref 2), some (.ref 4), some (.ref 12), some (.int x3), some (.int x4), some (.int x5), some (.int x6), some (.int x7), some (.int x8), some (.int x9), none, none] [] h := by
  refine g_iload dX2_openFrom_90 rfl ?_
  refine g_goto (tgt := 100) dX2_openFrom_92 (by decide) ?_
  refine g_istore (L' := [some (.ref 2), some (.ref 4), some (.ref 12), some (.int x3), some (.int x4), some (.int x5), some (.int x6), some (.int x7), some (.int x8), some (.int x9), some (.int x5), none]) dX2_openFrom_100 rfl (by decide) rfl ?_
  refine g_iload dX2_openFrom_102 rfl ?_
  exact g_if_eq (tgt := 112) dX2_openFrom_104 (by decide) (fun hc => k1 hc) (fun hc => by refine g_forget (mask := [true, true, true, true, true, true, true, true, true, false, true, true]) (L' := [some (.ref 2), some (.ref 4), some (.ref 12), some (.int x3), some (.int x4), some (.int x5), some (.int x6), some (.int x7), some (.int x8), none, some (.int x5), none]) rfl ?_; exact k2 hc)
theorem sX2_openFrom_119_p4 {d : Nat} {post : Option Value → PH → Prop} {h : PH} {x3 x4 x5 x6 x7 x8 x10 s0 s1 : Int32} (hb1 : vp_in x3 5) (k : Ev (d + 2) mX2_openFrom [.ref 2, .ref 4, .ref 12, .int (x3 + 1), .int (x4 + ((x8 + 1) * (stp5 (Int32.toNatClampNeg x3)))), .int x10, .int (s1 + s0)] h (fun r h' => G (d + 1 + 2) mX2_openFrom post 148 [some (.ref 2), some (.ref 4), some (.ref 12), some (.int x3), some (.int x4), some (.int x5), some (.int x6), some (.int x7), some (.int x8), none, none, none] (r.toList ++ []) h')) : G (d + 1 + 2) mX2_openFrom post 119 [some (.ref 2), some (.ref 4), some (.ref 12), some (.int x3), some (.int x4), some (.int x5), some (.int x6), some (.int x7), some (.int x8), none, some (.int x10), none] [.int s0, .int s1] h := by
  refine g_iadd dX2_openFrom_119 ?_
  refine g_istore (L' := [some (.ref 2), some (.ref 4), some (.ref 12), some (.int x3), some (.int x4), some (.int x5), some (.int x6), some (.int x7), some (.int x8), none, some (.int x10), some (.int (s1 + s0))]) dX2_openFrom_120 rfl (by decide) rfl ?_
  refine g_aload_n dX2_openFrom_122 rfl ?_
  refine g_aload_n dX2_openFrom_123 rfl ?_
  refine g_aload_n dX2_openFrom_124 rfl ?_
  refine g_iload_n dX2_openFrom_125 rfl ?_
  refine g_iconst (v := 1) dX2_openFrom_126 rfl ?_
  refine g_iadd dX2_openFrom_127 ?_
  refine g_iload dX2_openFrom_128 rfl ?_
  refine g_iload dX2_openFrom_130 rfl ?_
  refine g_iconst (v := 1) dX2_openFrom_132 rfl ?_
  refine g_iadd dX2_openFrom_133 ?_
  refine g_steps dX2_openFrom_134 fX2_94 ?_
  refine g_iload_n dX2_openFrom_137 rfl ?_
  refine g_stepsload dX2_openFrom_138 hb1 ?_
  refine g_imul dX2_openFrom_139 ?_
  refine g_iadd dX2_openFrom_140 ?_
  refine g_iload dX2_openFrom_141 rfl ?_
  refine g_iload dX2_openFrom_143 rfl ?_
  refine g_forget (mask := [true, true, true, true, true, true, true, true, true, true, false, false]) (L' := [some (.ref 2), some (.ref 4), some (.ref 12), some (.int x3), some (.int x4), some (.int x5), some (.int x6), some (.int x7), some (.int x8), none, none, none]) rfl ?_
  exact g_callS (n := 7) (as := [.ref 2, .ref 4, .ref 12, .int (x3 + 1), .int (x4 + ((x8 + 1) * (stp5 (Int32.toNatClampNeg x3)))), .int x10, .int (s1 + s0)]) (rest := []) dX2_openFrom_145 kX2_openFrom lX2_54 rfl rfl (by simp only [List.map, Value.category]; decide) (by omega) k
theorem sX2_openFrom_0_p5 {d : Nat} {post : Option Value → PH → Prop} {h : PH} {x3 x4 x5 x6 : Int32} (k : Ev 0 mX3_isSafe [.ref 2, .int x5] h (fun r h' => G (d + 2) mX2_openFrom post 6 [some (.ref 2), some (.ref 5), some (.ref 12), some (.int x3), some (.int x4), some (.int x5), some (.int x6), none, none, none, none, none] (r.toList ++ []) h')) : G (d + 2) mX2_openFrom post 0 [some (.ref 2), some (.ref 5), some (.ref 12), some (.int x3), some (.int x4), some (.int x5), some (.int x6), none, none, none, none, none] [] h := by
  refine g_aload_n dX2_openFrom_0 rfl ?_
  refine g_iload dX2_openFrom_1 rfl ?_
  exact g_callV (n := 1) (b := 2) (as := [.int x5]) (rest := []) dX2_openFrom_3 kX3_isSafe lX2_58 (by decide) rfl ⟨_, _, rfl⟩ rfl rfl (by simp only [List.map, Value.category]; decide) (by omega) k
theorem sX2_openFrom_6_p5 {d : Nat} {post : Option Value → PH → Prop} {h : PH} {x3 x4 x5 x6 s0 : Int32} (k1 : ¬ s0 = 0 → G (d + 2) mX2_openFrom post 10 [some (.ref 2), some (.ref 5), some (.ref 12), some (.int x3), some (.int x4), some (.int x5), some (.int x6), none, none, none, none, none] [] h) (k2 : s0 = 0 → G (d + 2) mX2_openFrom post 9 [none, none, none, none, none, none, none, none, none, none, none, none] [] h) : G (d + 2) mX2_openFrom post 6 [some (.ref 2), some (.ref 5), some (.ref 12), some (.int x3), some (.int x4), some (.int x5), some (.int x6), none, none, none, none, none] [.int s0] h := by
  exact g_if_ne (tgt := 10) dX2_openFrom_6 (by decide) (fun hc => k1 hc) (fun hc => by refine g_forget (mask := [false, false, false, false, false, false, false, true, true, true, true, true]) (L' := [none, none, none, none, none, none, none, none, none, none, none, none]) rfl ?_; exact k2 hc)
theorem sX2_openFrom_10_p5 {d : Nat} {post : Option Value → PH → Prop} {h : PH} {x3 x4 x5 x6 : Int32} (k : Ev 0 mX3_hasMirror [.ref 2, .int x3] h (fun r h' => G (d + 2) mX2_openFrom post 15 [some (.ref 2), some (.ref 5), some (.ref 12), some (.int x3), some (.int x4), some (.int x5), some (.int x6), none, none, none, none, none] (r.toList ++ []) h')) : G (d + 2) mX2_openFrom post 10 [some (.ref 2), some (.ref 5), some (.ref 12), some (.int x3), some (.int x4), some (.int x5), some (.int x6), none, none, none, none, none] [] h := by
  refine g_aload_n dX2_openFrom_10 rfl ?_
  refine g_iload_n dX2_openFrom_11 rfl ?_
  exact g_callV (n := 1) (b := 2) (as := [.int x3]) (rest := []) dX2_openFrom_12 kX3_hasMirror lX2_64 (by decide) rfl ⟨_, _, rfl⟩ rfl rfl (by simp only [List.map, Value.category]; decide) (by omega) k
theorem sX2_openFrom_9_p5 {d : Nat} {post : Option Value → PH → Prop} {h : PH} (k : post none h) : G (d + 2) mX2_openFrom post 9 [none, none, none, none, none, none, none, none, none, none, none, none] [] h := by
  exact g_return dX2_openFrom_9 rfl k
theorem sX2_openFrom_15_p5 {d : Nat} {post : Option Value → PH → Prop} {h : PH} {x3 x4 x5 x6 s0 : Int32} (k1 : ¬ s0 = 0 → G (d + 2) mX2_openFrom post 28 [some (.ref 2), some (.ref 5), some (.ref 12), some (.int x3), some (.int x4), some (.int x5), some (.int x6), none, none, none, none, none] [] h) (k2 : s0 = 0 → G (d + 2) mX2_openFrom post 18 [none, some (.ref 5), some (.ref 12), none, some (.int x4), none, some (.int x6), none, none, none, none, none] [] h) : G (d + 2) mX2_openFrom post 15 [some (.ref 2), some (.ref 5), some (.ref 12), some (.int x3), some (.int x4), some (.int x5), some (.int x6), none, none, none, none, none] [.int s0] h := by
  exact g_if_ne (tgt := 28) dX2_openFrom_15 (by decide) (fun hc => k1 hc) (fun hc => by refine g_forget (mask := [false, true, true, false, true, false, true, true, true, true, true, true]) (L' := [none, some (.ref 5), some (.ref 12), none, some (.int x4), none, some (.int x6), none, none, none, none, none]) rfl ?_; exact k2 hc)
theorem sX2_openFrom_28_p5 {d : Nat} {post : Option Value → PH → Prop} {h : PH} {x3 x4 x5 x6 : Int32} (k : Ev 1 mX3_isShaded [.ref 2, .int x3] h (fun r h' => G (d + 2) mX2_openFrom post 33 [some (.ref 2), some (.ref 5), some (.ref 12), some (.int x3), some (.int x4), some (.int x5), some (.int x6), none, none, none, none, none] (r.toList ++ []) h')) : G (d + 2) mX2_openFrom post 28 [some (.ref 2), some (.ref 5), some (.ref 12), some (.int x3), some (.int x4), some (.int x5), some (.int x6), none, none, none, none, none] [] h := by
  refine g_aload_n dX2_openFrom_28 rfl ?_
  refine g_iload_n dX2_openFrom_29 rfl ?_
  exact g_callV (n := 1) (b := 2) (as := [.int x3]) (rest := []) dX2_openFrom_30 kX3_isShaded lX2_71 (by decide) rfl ⟨_, _, rfl⟩ rfl rfl (by simp only [List.map, Value.category]; decide) (by omega) k
theorem sX2_openFrom_18_p5 {d : Nat} {post : Option Value → PH → Prop} {h : PH} {x4 x6 : Int32} (k : Ev 0 mX2_open [.ref 5, .ref 12, .int x4, .int x6] h (fun r h' => G (d + 2) mX2_openFrom post 27 [none, none, none, none, none, none, none, none, none, none, none, none] (r.toList ++ []) h')) : G (d + 2) mX2_openFrom post 18 [none, some (.ref 5), some (.ref 12), none, some (.int x4), none, some (.int x6), none, none, none, none, none] [] h := by
  refine g_aload_n dX2_openFrom_18 rfl ?_
  refine g_aload_n dX2_openFrom_19 rfl ?_
  refine g_iload dX2_openFrom_20 rfl ?_
  refine g_iload dX2_openFrom_22 rfl ?_
  refine g_forget (mask := [true, false, false, true, false, true, false, true, true, true, true, true]) (L' := [none, none, none, none, none, none, none, none, none, none, none, none]) rfl ?_
  exact g_callS (n := 4) (as := [.ref 5, .ref 12, .int x4, .int x6]) (rest := []) dX2_openFrom_24 kX2_open lX2_67 rfl rfl (by simp only [List.map, Value.category]; decide) (by omega) k
theorem sX2_openFrom_33_p5 {d : Nat} {post : Option Value → PH → Prop} {h : PH} {x3 x4 x5 x6 s0 : Int32} (k : G (d + 2) mX2_openFrom post 38 [some (.ref 2), some (.ref 5), some (.ref 12), some (.int x3), some (.int x4), some (.int x5), some (.int x6), some (.int s0), some (.int (-1)), none, none, none] [] h) : G (d + 2) mX2_openFrom post 33 [some (.ref 2), some (.ref 5), some (.ref 12), some (.int x3), some (.int x4), some (.int x5), some (.int x6), none, none, none, none, none] [.int s0] h := by
  refine g_istore (L' := [some (.ref 2), some (.ref 5), some (.ref 12), some (.int x3), some (.int x4), some (.int x5), some (.int x6), some (.int s0), none, none, none, none]) dX2_openFrom_33 rfl (by decide) rfl ?_
  refine g_iconst (v := (-1)) dX2_openFrom_35 rfl ?_
  refine g_istore (L' := [some (.ref 2), some (.ref 5), some (.ref 12), some (.int x3), some (.int x4), some (.int x5), some (.int x6), some (.int s0), some (.int (-1)), none, none, none]) dX2_openFrom_36 rfl (by decide) rfl ?_
  exact k
theorem sX2_openFrom_27_p5 {d : Nat} {post : Option Value → PH → Prop} {h : PH} (k : post none h) : G (d + 2) mX2_openFrom post 27 [none, none, none, none, none, none, none, none, none, none, none, none] [] h := by
  exact g_return dX2_openFrom_27 rfl k
theorem sX2_openFrom_38_p5 {d : Nat} {post : Option Value → PH → Prop} {h : PH} {x3 x4 x5 x6 x7 x8 : Int32} (k1 : (h.1 2 1) ≤ x8 → G (d + 2) mX2_openFrom post 154 [none, none, none, none, none, none, none, none, none, none, none, none] [] h) (k2 : ¬ (h.1 2 1) ≤ x8 → G (d + 2) mX2_openFrom post 47 [some (.ref 2), some (.ref 5), some (.ref 12), some (.int x3), some (.int x4), some (.int x5), some (.int x6), some (.int x7), some (.int x8), none, none, none] [] h) : G (d + 2) mX2_openFrom post 38 [some (.ref 2), some (.ref 5), some (.ref 12), some (.int x3), some (.int x4), some (.int x5), some (.int x6), some (.int x7), some (.int x8), none, none, none] [] h := by
  refine g_iload dX2_openFrom_38 rfl ?_
  refine g_aload_n dX2_openFrom_40 rfl ?_
  refine g_getfield (kd := 0) (v := .int (h.1 2 1)) dX2_openFrom_41 fX2_74 (by decide) rfl rfl rfl rfl ?_
  exact g_icmp_ge (tgt := 154) dX2_openFrom_44 (by decide) (fun hc => by refine g_forget (mask := [false, false, false, false, false, false, false, false, false, true, true, true]) (L' := [none, none, none, none, none, none, none, none, none, none, none, none]) rfl ?_; exact k1 hc) (fun hc => k2 hc)
theorem sX2_openFrom_154_p5 {d : Nat} {post : Option Value → PH → Prop} {h : PH} (k : post none h) : G (d + 2) mX2_openFrom post 154 [none, none, none, none, none, none, none, none, none, none, none, none] [] h := by
  exact g_return dX2_openFrom_154 rfl k
theorem sX2_openFrom_47_p5 {d : Nat} {post : Option Value → PH → Prop} {h : PH} {x3 x4 x5 x6 x7 x8 : Int32} (k : Ev 1 mX3_isStuck [.ref 2, .int x3] h (fun r h' => G (d + 2) mX2_openFrom post 52 [some (.ref 2), some (.ref 5), some (.ref 12), some (.int x3), some (.int x4), some (.int x5), some (.int x6), some (.int x7), some (.int x8), none, none, none] (r.toList ++ []) h')) : G (d + 2) mX2_openFrom post 47 [some (.ref 2), some (.ref 5), some (.ref 12), some (.int x3), some (.int x4), some (.int x5), some (.int x6), some (.int x7), some (.int x8), none, none, none] [] h := by
  refine g_aload_n dX2_openFrom_47 rfl ?_
  refine g_iload_n dX2_openFrom_48 rfl ?_
  exact g_callV (n := 1) (b := 2) (as := [.int x3]) (rest := []) dX2_openFrom_49 kX3_isStuck lX2_77 (by decide) rfl ⟨_, _, rfl⟩ rfl rfl (by simp only [List.map, Value.category]; decide) (by omega) k
theorem sX2_openFrom_52_p5 {d : Nat} {post : Option Value → PH → Prop} {h : PH} {x3 x4 x5 x6 x7 x8 s0 : Int32} (k1 : s0 = 0 → G (d + 2) mX2_openFrom post 69 [some (.ref 2), some (.ref 5), some (.ref 12), some (.int x3), some (.int x4), some (.int x5), some (.int x6), some (.int x7), some (.int x8), none, none, none] [] h) (k2 : ¬ s0 = 0 → G (d + 2) mX2_openFrom post 55 [some (.ref 2), some (.ref 5), some (.ref 12), some (.int x3), some (.int x4), some (.int x5), some (.int x6), some (.int x7), some (.int x8), none, none, none] [] h) : G (d + 2) mX2_openFrom post 52 [some (.ref 2), some (.ref 5), some (.ref 12), some (.int x3), some (.int x4), some (.int x5), some (.int x6), some (.int x7), some (.int x8), none, none, none] [.int s0] h := by
  exact g_if_eq (tgt := 69) dX2_openFrom_52 (by decide) (fun hc => k1 hc) (fun hc => k2 hc)
theorem sX2_openFrom_69_p5 {d : Nat} {post : Option Value → PH → Prop} {h : PH} {x3 x4 x5 x6 x7 x8 : Int32} (k : Ev 1 mX3_light [.ref 2, .int x3, .int x8] h (fun r h' => G (d + 2) mX2_openFrom post 76 [some (.ref 2), some (.ref 5), some (.ref 12), some (.int x3), some (.int x4), some (.int x5), some (.int x6), some (.int x7), some (.int x8), none, none, none] (r.toList ++ []) h')) : G (d + 2) mX2_openFrom post 69 [some (.ref 2), some (.ref 5), some (.ref 12), some (.int x3), some (.int x4), some (.int x5), some (.int x6), some (.int x7), some (.int x8), none, none, none] [] h := by
  refine g_aload_n dX2_openFrom_69 rfl ?_
  refine g_iload_n dX2_openFrom_70 rfl ?_
  refine g_iload dX2_openFrom_71 rfl ?_
  exact g_callV (n := 2) (b := 2) (as := [.int x3, .int x8]) (rest := []) dX2_openFrom_73 kX3_light lX2_83 (by decide) rfl ⟨_, _, rfl⟩ rfl rfl (by simp only [List.map, Value.category]; decide) (by omega) k
theorem sX2_openFrom_55_p5 {d : Nat} {post : Option Value → PH → Prop} {h : PH} {x3 x4 x5 x6 x7 x8 : Int32} (hb1 : vp_in x3 5) (k1 : x8 = (h.1 9 (Int32.toNatClampNeg x3)) → G (d + 2) mX2_openFrom post 69 [some (.ref 2), some (.ref 5), some (.ref 12), some (.int x3), some (.int x4), some (.int x5), some (.int x6), some (.int x7), some (.int x8), none, none, none] [] h) (k2 : ¬ x8 = (h.1 9 (Int32.toNatClampNeg x3)) → G (d + 2) mX2_openFrom post 66 [some (.ref 2), some (.ref 5), some (.ref 12), some (.int x3), some (.int x4), some (.int x5), some (.int x6), some (.int x7), some (.int x8), none, none, none] [] h) : G (d + 2) mX2_openFrom post 55 [some (.ref 2), some (.ref 5), some (.ref 12), some (.int x3), some (.int x4), some (.int x5), some (.int x6), some (.int x7), some (.int x8), none, none, none] [] h := by
  refine g_iload dX2_openFrom_55 rfl ?_
  refine g_aload_n dX2_openFrom_57 rfl ?_
  refine g_getfield (kd := 11) (v := .ref 9) dX2_openFrom_58 fX2_80 (by decide) rfl rfl rfl rfl ?_
  refine g_iload_n dX2_openFrom_61 rfl ?_
  refine g_iaload (n := 5) dX2_openFrom_62 (by decide) rfl rfl rfl hb1 ?_
  exact g_icmp_eq (tgt := 69) dX2_openFrom_63 (by decide) (fun hc => k1 hc) (fun hc => k2 hc)
theorem sX2_openFrom_76_p5 {d : Nat} {post : Option Value → PH → Prop} {h : PH} {x3 x4 x5 x6 x7 x8 s0 : Int32} (k1 : x7 = 0 → G (d + 2) mX2_openFrom post 95 [some (.ref 2), some (.ref 5), some (.ref 12), some (.int x3), some (.int x4), some (.int x5), some (.int x6), some (.int x7), some (.int x8), some (.int s0), none, none] [] h) (k2 : ¬ x7 = 0 → G (d + 2) mX2_openFrom post 83 [some (.ref 2), some (.ref 5), some (.ref 12), some (.int x3), some (.int x4), some (.int x5), some (.int x6), some (.int x7), some (.int x8), some (.int s0), none, none] [] h) : G (d + 2) mX2_openFrom post 76 [some (.ref 2), some (.ref 5), some (.ref 12), some (.int x3), some (.int x4), some (.int x5), some (.int x6), some (.int x7), some (.int x8), none, none, none] [.int s0] h := by
  refine g_istore (L' := [some (.ref 2), some (.ref 5), some (.ref 12), some (.int x3), some (.int x4), some (.int x5), some (.int x6), some (.int x7), some (.int x8), some (.int s0), none, none]) dX2_openFrom_76 rfl (by decide) rfl ?_
  refine g_iload dX2_openFrom_78 rfl ?_
  exact g_if_eq (tgt := 95) dX2_openFrom_80 (by decide) (fun hc => k1 hc) (fun hc => k2 hc)
theorem sX2_openFrom_66_p5 {d : Nat} {post : Option Value → PH → Prop} {h : PH} {x3 x4 x5 x6 x7 x8 : Int32} (k : G (d + 2) mX2_openFrom post 148 [some (.ref 2), some (.ref 5), some (.ref 12), some (.int x3), some (.int x4), some (.int x5), some (.int x6), some (.int x7), some (.int x8), none, none, none] [] h) : G (d + 2) mX2_openFrom post 66 [some (.ref 2), some (.ref 5), some (.ref 12), some (.int x3), some (.int x4), some (.int x5), some (.int x6), some (.int x7), some (.int x8), none, none, none] [] h := by
  refine g_goto (tgt := 148) dX2_openFrom_66 (by decide) ?_
  exact k
theorem sX2_openFrom_95_p5 {d : Nat} {post : Option Value → PH → Prop} {h : PH} {x3 x4 x5 x6 x7 x8 x9 : Int32} (k1 : x7 = 0 → G (d + 2) mX2_openFrom post 112 [some (.ref 2), some (.ref 5), some (.ref 12), some (.int x3), some (.int x4), some (.int x5), some (.int x6), some (.int x7), some (.int x8), some (.int x9), some (.int (x5 + x9)), none] [] h) (k2 : ¬ x7 = 0 → G (d + 2) mX2_openFrom post 107 [some (.ref 2), some (.ref 5), some (.ref 12), some (.int x3), some (.int x4), some (.int x5), some (.int x6), some (.int x7), some (.int x8), none, some (.int (x5 + x9)), none] [] h) : G (d + 2) mX2_openFrom post 95 [some (.ref 2), some (.ref 5), some (.ref 12), some (.int x3), some (.int x4), some (.int x5), some (.int x6), some (.int x7), some (.int x8), some (.int x9), none, none] [] h := by
  refine g_iload dX2_openFrom_95 rfl ?_
  refine g_iload dX2_openFrom_97 rfl ?_
  refine g_iadd dX2_openFrom_99 ?_
  refine g_istore (L' := [some (.ref 2), some (.ref 5), some (.ref 12), some (.int x3), some (.int x4), some (.int x5), some (.int x6), some (.int x7), some (.int x8), some (.int x9), some (.int (x5 + x9)), none]) dX2_openFrom_100 rfl (by decide) rfl ?_
  refine g_iload dX2_openFrom_102 rfl ?_
  exact g_if_eq (tgt := 112) dX2_openFrom_104 (by decide) (fun hc => k1 hc) (fun hc => by refine g_forget (mask := [true, true, true, true, true, true, true, true, true, false, true, true]) (L' := [some (.ref 2), some (.ref 5), some (.ref 12), some (.int x3), some (.int x4), some (.int x5), some (.int x6), some (.int x7), some (.int x8), none, some (.int (x5 + x9)), none]) rfl ?_; exact k2 hc)
theorem sX2_openFrom_83_p5 {d : Nat} {post : Option Value → PH → Prop} {h : PH} {x3 x4 x5 x6 x7 x8 x9 : Int32} (k1 : ¬ (h.1 5 0) = 0 → G (d + 2) mX2_openFrom post 95 [some (.ref 2), some (.ref 5), some (.ref 12), some (.int x3), some (.int x4), some (.int x5), some (.int x6), some (.int x7), some (.int x8), some (.int x9), none, none] [] h) (k2 : (h.1 5 0) = 0 → G (d + 2) mX2_openFrom post 90 [some (.ref 2), some (.ref 5), some (.ref 12), some (.int x3), some (.int x4), some (.int x5), some (.int x6), some (.int x7), some (.int x8), some (.int x9), none, none] [] h) : G (d + 2) mX2_openFrom post 83 [some (.ref 2), some (.ref 5), some (.ref 12), some (.int x3), some (.int x4), some (.int x5), some (.int x6), some (.int x7), some (.int x8), some (.int x9), none, none] [] h := by
  refine g_aload_n dX2_openFrom_83 rfl ?_
  refine g_getfield (kd := 0) (v := .int (h.1 5 0)) dX2_openFrom_84 fX2_87 (by decide) rfl rfl rfl rfl ?_
  exact g_if_ne (tgt := 95) dX2_openFrom_87 (by decide) (fun hc => k1 hc) (fun hc => k2 hc)
theorem sX2_openFrom_148_p5 {d : Nat} {post : Option Value → PH → Prop} {h : PH} {x3 x4 x5 x6 x7 x8 : Int32} (k : G (d + 2) mX2_openFrom post 38 [some (.ref 2), some (.ref 5), some (.ref 12), some (.int x3), some (.int x4), some (.int x5), some (.int x6), some (.int x7), some (.int (x8 + 1)), none, none, none] [] h) : G (d + 2) mX2_openFrom post 148 [some (.ref 2), some (.ref 5), some (.ref 12), some (.int x3), some (.int x4), some (.int x5), some (.int x6), some (.int x7), some (.int x8), none, none, none] [] h := by
  refine g_iinc (v := (x8 + 1)) (L' := [some (.ref 2), some (.ref 5), some (.ref 12), some (.int x3), some (.int x4), some (.int x5), some (.int x6), some (.int x7), some (.int (x8 + 1)), none, none, none]) dX2_openFrom_148 rfl rfl rfl (by decide) rfl ?_
  refine g_goto (tgt := 38) dX2_openFrom_151 (by decide) ?_
  exact k
theorem sX2_openFrom_112_p5 {d : Nat} {post : Option Value → PH → Prop} {h : PH} {x3 x4 x5 x6 x7 x8 x9 x10 : Int32} (k : Ev 1 mX4_sum [.int x9] h (fun r h' => G (d + 2) mX2_openFrom post 119 [some (.ref 2), some (.ref 5), some (.ref 12), some (.int x3), some (.int x4), some (.int x5), some (.int x6), some (.int x7), some (.int x8), none, some (.int x10), none] (r.toList ++ [.int x6]) h')) : G (d + 2) mX2_openFrom post 112 [some (.ref 2), some (.ref 5), some (.ref 12), some (.int x3), some (.int x4), some (.int x5), some (.int x6), some (.int x7), some (.int x8), some (.int x9), some (.int x10), none] [] h := by
  refine g_iload dX2_openFrom_112 rfl ?_
  refine g_iload dX2_openFrom_114 rfl ?_
  refine g_forget (mask := [true, true, true, true, true, true, true, true, true, false, true, true]) (L' := [some (.ref 2), some (.ref 5), some (.ref 12), some (.int x3), some (.int x4), some (.int x5), some (.int x6), some (.int x7), some (.int x8), none, some (.int x10), none]) rfl ?_
  exact g_callS (n := 1) (as := [.int x9]) (rest := [.int x6]) dX2_openFrom_116 kX4_sum lX2_90 rfl rfl (by simp only [List.map, Value.category]; decide) (by omega) k
theorem sX2_openFrom_107_p5 {d : Nat} {post : Option Value → PH → Prop} {h : PH} {x3 x4 x5 x6 x7 x8 x10 : Int32} (hb1 : vp_in x3 5) (k : Ev (d + 2) mX2_openFrom [.ref 2, .ref 5, .ref 12, .int (x3 + 1), .int (x4 + ((x8 + 1) * (stp5 (Int32.toNatClampNeg x3)))), .int x10, .int x6] h (fun r h' => G (d + 1 + 2) mX2_openFrom post 148 [some (.ref 2), some (.ref 5), some (.ref 12), some (.int x3), some (.int x4), some (.int x5), some (.int x6), some (.int x7), some (.int x8), none, none, none] (r.toList ++ []) h')) : G (d + 1 + 2) mX2_openFrom post 107 [some (.ref 2), some (.ref 5), some (.ref 12), some (.int x3), some (.int x4), some (.int x5), some (.int x6), some (.int x7), some (.int x8), none, some (.int x10), none] [] h := by
  refine g_iload dX2_openFrom_107 rfl ?_
  refine g_goto (tgt := 120) dX2_openFrom_109 (by decide) ?_
  refine g_istore (L' := [some (.ref 2), some (.ref 5), some (.ref 12), some (.int x3), some (.int x4), some (.int x5), some (.int x6), some (.int x7), some (.int x8), none, some (.int x10), some (.int x6)]) dX2_openFrom_120 rfl (by decide) rfl ?_
  refine g_aload_n dX2_openFrom_122 rfl ?_
  refine g_aload_n dX2_openFrom_123 rfl ?_
  refine g_aload_n dX2_openFrom_124 rfl ?_
  refine g_iload_n dX2_openFrom_125 rfl ?_
  refine g_iconst (v := 1) dX2_openFrom_126 rfl ?_
  refine g_iadd dX2_openFrom_127 ?_
  refine g_iload dX2_openFrom_128 rfl ?_
  refine g_iload dX2_openFrom_130 rfl ?_
  refine g_iconst (v := 1) dX2_openFrom_132 rfl ?_
  refine g_iadd dX2_openFrom_133 ?_
  refine g_steps dX2_openFrom_134 fX2_94 ?_
  refine g_iload_n dX2_openFrom_137 rfl ?_
  refine g_stepsload dX2_openFrom_138 hb1 ?_
  refine g_imul dX2_openFrom_139 ?_
  refine g_iadd dX2_openFrom_140 ?_
  refine g_iload dX2_openFrom_141 rfl ?_
  refine g_iload dX2_openFrom_143 rfl ?_
  refine g_forget (mask := [true, true, true, true, true, true, true, true, true, true, false, false]) (L' := [some (.ref 2), some (.ref 5), some (.ref 12), some (.int x3), some (.int x4), some (.int x5), some (.int x6), some (.int x7), some (.int x8), none, none, none]) rfl ?_
  exact g_callS (n := 7) (as := [.ref 2, .ref 5, .ref 12, .int (x3 + 1), .int (x4 + ((x8 + 1) * (stp5 (Int32.toNatClampNeg x3)))), .int x10, .int x6]) (rest := []) dX2_openFrom_145 kX2_openFrom lX2_54 rfl rfl (by simp only [List.map, Value.category]; decide) (by omega) k
theorem sX2_openFrom_90_p5 {d : Nat} {post : Option Value → PH → Prop} {h : PH} {x3 x4 x5 x6 x7 x8 x9 : Int32} (k1 : x7 = 0 → G (d + 2) mX2_openFrom post 112 [some (.ref 2), some (.ref 5), some (.ref 12), some (.int x3), some (.int x4), some (.int x5), some (.int x6), some (.int x7), some (.int x8), some (.int x9), some (.int x5), none] [] h) (k2 : ¬ x7 = 0 → G (d + 2) mX2_openFrom post 107 [some (.ref 2), some (.ref 5), some (.ref 12), some (.int x3), some (.int x4), some (.int x5), some (.int x6), some (.int x7), some (.int x8), none, some (.int x5), none] [] h) : G (d + 2) mX2_openFrom post 90 [some (.ref 2), some (.ref 5), some (.ref 12), some (.int x3), some (.int x4), some (.int x5), some (.int x6), some (.int x7), some (.int x8), some (.int x9), none, none] [] h := by
  refine g_iload dX2_openFrom_90 rfl ?_
  refine g_goto (tgt := 100) dX2_openFrom_92 (by decide) ?_
  refine g_istore (L' := [some (.ref 2), some (.ref 5), some (.ref 12), some (.int x3), some (.int x4), some (.int x5), some (.int x6), some (.int x7), some (.int x8), some (.int x9), some (.int x5), none]) dX2_openFrom_100 rfl (by decide) rfl ?_
  refine g_iload dX2_openFrom_102 rfl ?_
  exact g_if_eq (tgt := 112) dX2_openFrom_104 (by decide) (fun hc => k1 hc) (fun hc => by refine g_forget (mask := [true, true, true, true, true, true, true, true, true, false, true, true]) (L' := [some (.ref 2), some (.ref 5), some (.ref 12), some (.int x3), some (.int x4), some (.int x5), some (.int x6), some (.int x7), some (.int x8), none, some (.int x5), none]) rfl ?_; exact k2 hc)
theorem sX2_openFrom_119_p5 {d : Nat} {post : Option Value → PH → Prop} {h : PH} {x3 x4 x5 x6 x7 x8 x10 s0 s1 : Int32} (hb1 : vp_in x3 5) (k : Ev (d + 2) mX2_openFrom [.ref 2, .ref 5, .ref 12, .int (x3 + 1), .int (x4 + ((x8 + 1) * (stp5 (Int32.toNatClampNeg x3)))), .int x10, .int (s1 + s0)] h (fun r h' => G (d + 1 + 2) mX2_openFrom post 148 [some (.ref 2), some (.ref 5), some (.ref 12), some (.int x3), some (.int x4), some (.int x5), some (.int x6), some (.int x7), some (.int x8), none, none, none] (r.toList ++ []) h')) : G (d + 1 + 2) mX2_openFrom post 119 [some (.ref 2), some (.ref 5), some (.ref 12), some (.int x3), some (.int x4), some (.int x5), some (.int x6), some (.int x7), some (.int x8), none, some (.int x10), none] [.int s0, .int s1] h := by
  refine g_iadd dX2_openFrom_119 ?_
  refine g_istore (L' := [some (.ref 2), some (.ref 5), some (.ref 12), some (.int x3), some (.int x4), some (.int x5), some (.int x6), some (.int x7), some (.int x8), none, some (.int x10), some (.int (s1 + s0))]) dX2_openFrom_120 rfl (by decide) rfl ?_
  refine g_aload_n dX2_openFrom_122 rfl ?_
  refine g_aload_n dX2_openFrom_123 rfl ?_
  refine g_aload_n dX2_openFrom_124 rfl ?_
  refine g_iload_n dX2_openFrom_125 rfl ?_
  refine g_iconst (v := 1) dX2_openFrom_126 rfl ?_
  refine g_iadd dX2_openFrom_127 ?_
  refine g_iload dX2_openFrom_128 rfl ?_
  refine g_iload dX2_openFrom_130 rfl ?_
  refine g_iconst (v := 1) dX2_openFrom_132 rfl ?_
  refine g_iadd dX2_openFrom_133 ?_
  refine g_steps dX2_openFrom_134 fX2_94 ?_
  refine g_iload_n dX2_openFrom_137 rfl ?_
  refine g_stepsload dX2_openFrom_138 hb1 ?_
  refine g_imul dX2_openFrom_139 ?_
  refine g_iadd dX2_openFrom_140 ?_
  refine g_iload dX2_openFrom_141 rfl ?_
  refine g_iload dX2_openFrom_143 rfl ?_
  refine g_forget (mask := [true, true, true, true, true, true, true, true, true, true, false, false]) (L' := [some (.ref 2), some (.ref 5), some (.ref 12), some (.int x3), some (.int x4), some (.int x5), some (.int x6), some (.int x7), some (.int x8), none, none, none]) rfl ?_
  exact g_callS (n := 7) (as := [.ref 2, .ref 5, .ref 12, .int (x3 + 1), .int (x4 + ((x8 + 1) * (stp5 (Int32.toNatClampNeg x3)))), .int x10, .int (s1 + s0)]) (rest := []) dX2_openFrom_145 kX2_openFrom lX2_54 rfl rfl (by simp only [List.map, Value.category]; decide) (by omega) k
theorem sX2_open_0_p4 {post : Option Value → PH → Prop} {h : PH} {x2 x3 : Int32} (k1 : x2 < 0 → G 0 mX2_open post 10 [none, none, none, none] [] h) (k2 : ¬ x2 < 0 → G 0 mX2_open post 4 [some (.ref 4), some (.ref 12), some (.int x2), some (.int x3)] [] h) : G 0 mX2_open post 0 [some (.ref 4), some (.ref 12), some (.int x2), some (.int x3)] [] h := by
  refine g_iload_n dX2_open_0 rfl ?_
  exact g_if_lt (tgt := 10) dX2_open_1 (by decide) (fun hc => by refine g_forget (mask := [false, false, false, false]) (L' := [none, none, none, none]) rfl ?_; exact k1 hc) (fun hc => k2 hc)
theorem sX2_open_10_p4 {post : Option Value → PH → Prop} {h : PH} (k : post none h) : G 0 mX2_open post 10 [none, none, none, none] [] h := by
  exact g_return dX2_open_10 rfl k
theorem sX2_open_4_p4 {post : Option Value → PH → Prop} {h : PH} {x2 x3 : Int32} (k1 : x2 < 3125 → G 0 mX2_open post 11 [some (.ref 4), some (.ref 12), some (.int x2), some (.int x3)] [] h) (k2 : ¬ x2 < 3125 → G 0 mX2_open post 10 [none, none, none, none] [] h) : G 0 mX2_open post 4 [some (.ref 4), some (.ref 12), some (.int x2), some (.int x3)] [] h := by
  refine g_iload_n dX2_open_4 rfl ?_
  refine g_aload_n dX2_open_5 rfl ?_
  refine g_arraylength (n := 3125) dX2_open_6 (by decide) rfl rfl rfl ?_
  exact g_icmp_lt (tgt := 11) dX2_open_7 (by decide) (fun hc => k1 hc) (fun hc => by refine g_forget (mask := [false, false, false, false]) (L' := [none, none, none, none]) rfl ?_; exact k2 hc)
theorem sX2_open_11_p4 {post : Option Value → PH → Prop} {h : PH} {x2 x3 : Int32} (hb1 : vp_in x2 3125) (k1 : x3 ≤ (h.1 4 4) → G 0 mX2_open post 33 [none, none, none, none] [] ((upd2 h.1 12 (Int32.toNatClampNeg x2) (-1)), h.2)) (k2 : ¬ x3 ≤ (h.1 4 4) → G 0 mX2_open post 23 [some (.ref 4), none, some (.int x2), some (.int x3)] [] ((upd2 h.1 12 (Int32.toNatClampNeg x2) (-1)), h.2)) : G 0 mX2_open post 11 [some (.ref 4), some (.ref 12), some (.int x2), some (.int x3)] [] h := by
  refine g_aload_n dX2_open_11 rfl ?_
  refine g_iload_n dX2_open_12 rfl ?_
  refine g_iconst (v := (-1)) dX2_open_13 rfl ?_
  refine g_iastore (n := 3125) dX2_open_14 (by decide) rfl rfl rfl hb1 ?_
  refine g_iload_n dX2_open_15 rfl ?_
  refine g_aload_n dX2_open_16 rfl ?_
  refine g_getfield (kd := 0) (v := .int (h.1 4 4)) dX2_open_17 fX2_47 (by decide) rfl rfl rfl rfl ?_
  exact g_icmp_le (tgt := 33) dX2_open_20 (by decide) (fun hc => by refine g_forget (mask := [false, false, false, false]) (L' := [none, none, none, none]) rfl ?_; exact k1 hc) (fun hc => by refine g_forget (mask := [true, false, true, true]) (L' := [some (.ref 4), none, some (.int x2), some (.int x3)]) rfl ?_; exact k2 hc)
theorem sX2_open_33_p4 {post : Option Value → PH → Prop} {h : PH} (k : post none h) : G 0 mX2_open post 33 [none, none, none, none] [] h := by
  exact g_return dX2_open_33 rfl k
theorem sX2_open_23_p4 {post : Option Value → PH → Prop} {h : PH} {x2 x3 : Int32} (k : post none ((upd2 (upd2 h.1 4 4 x3) 4 5 x2), h.2)) : G 0 mX2_open post 23 [some (.ref 4), none, some (.int x2), some (.int x3)] [] h := by
  refine g_aload_n dX2_open_23 rfl ?_
  refine g_iload_n dX2_open_24 rfl ?_
  refine g_putfield dX2_open_25 fX2_47 (by decide) rfl rfl rfl rfl rfl ?_
  refine g_aload_n dX2_open_28 rfl ?_
  refine g_iload_n dX2_open_29 rfl ?_
  refine g_putfield dX2_open_30 fX2_51 (by decide) rfl rfl rfl rfl rfl ?_
  exact g_return dX2_open_33 rfl k
theorem sX2_open_0_p5 {post : Option Value → PH → Prop} {h : PH} {x2 x3 : Int32} (k1 : x2 < 0 → G 0 mX2_open post 10 [none, none, none, none] [] h) (k2 : ¬ x2 < 0 → G 0 mX2_open post 4 [some (.ref 5), some (.ref 12), some (.int x2), some (.int x3)] [] h) : G 0 mX2_open post 0 [some (.ref 5), some (.ref 12), some (.int x2), some (.int x3)] [] h := by
  refine g_iload_n dX2_open_0 rfl ?_
  exact g_if_lt (tgt := 10) dX2_open_1 (by decide) (fun hc => by refine g_forget (mask := [false, false, false, false]) (L' := [none, none, none, none]) rfl ?_; exact k1 hc) (fun hc => k2 hc)
theorem sX2_open_10_p5 {post : Option Value → PH → Prop} {h : PH} (k : post none h) : G 0 mX2_open post 10 [none, none, none, none] [] h := by
  exact g_return dX2_open_10 rfl k
theorem sX2_open_4_p5 {post : Option Value → PH → Prop} {h : PH} {x2 x3 : Int32} (k1 : x2 < 3125 → G 0 mX2_open post 11 [some (.ref 5), some (.ref 12), some (.int x2), some (.int x3)] [] h) (k2 : ¬ x2 < 3125 → G 0 mX2_open post 10 [none, none, none, none] [] h) : G 0 mX2_open post 4 [some (.ref 5), some (.ref 12), some (.int x2), some (.int x3)] [] h := by
  refine g_iload_n dX2_open_4 rfl ?_
  refine g_aload_n dX2_open_5 rfl ?_
  refine g_arraylength (n := 3125) dX2_open_6 (by decide) rfl rfl rfl ?_
  exact g_icmp_lt (tgt := 11) dX2_open_7 (by decide) (fun hc => k1 hc) (fun hc => by refine g_forget (mask := [false, false, false, false]) (L' := [none, none, none, none]) rfl ?_; exact k2 hc)
theorem sX2_open_11_p5 {post : Option Value → PH → Prop} {h : PH} {x2 x3 : Int32} (hb1 : vp_in x2 3125) (k1 : x3 ≤ (h.1 5 4) → G 0 mX2_open post 33 [none, none, none, none] [] ((upd2 h.1 12 (Int32.toNatClampNeg x2) (-1)), h.2)) (k2 : ¬ x3 ≤ (h.1 5 4) → G 0 mX2_open post 23 [some (.ref 5), none, some (.int x2), some (.int x3)] [] ((upd2 h.1 12 (Int32.toNatClampNeg x2) (-1)), h.2)) : G 0 mX2_open post 11 [some (.ref 5), some (.ref 12), some (.int x2), some (.int x3)] [] h := by
  refine g_aload_n dX2_open_11 rfl ?_
  refine g_iload_n dX2_open_12 rfl ?_
  refine g_iconst (v := (-1)) dX2_open_13 rfl ?_
  refine g_iastore (n := 3125) dX2_open_14 (by decide) rfl rfl rfl hb1 ?_
  refine g_iload_n dX2_open_15 rfl ?_
  refine g_aload_n dX2_open_16 rfl ?_
  refine g_getfield (kd := 0) (v := .int (h.1 5 4)) dX2_open_17 fX2_47 (by decide) rfl rfl rfl rfl ?_
  exact g_icmp_le (tgt := 33) dX2_open_20 (by decide) (fun hc => by refine g_forget (mask := [false, false, false, false]) (L' := [none, none, none, none]) rfl ?_; exact k1 hc) (fun hc => by refine g_forget (mask := [true, false, true, true]) (L' := [some (.ref 5), none, some (.int x2), some (.int x3)]) rfl ?_; exact k2 hc)
theorem sX2_open_33_p5 {post : Option Value → PH → Prop} {h : PH} (k : post none h) : G 0 mX2_open post 33 [none, none, none, none] [] h := by
  exact g_return dX2_open_33 rfl k
theorem sX2_open_23_p5 {post : Option Value → PH → Prop} {h : PH} {x2 x3 : Int32} (k : post none ((upd2 (upd2 h.1 5 4 x3) 5 5 x2), h.2)) : G 0 mX2_open post 23 [some (.ref 5), none, some (.int x2), some (.int x3)] [] h := by
  refine g_aload_n dX2_open_23 rfl ?_
  refine g_iload_n dX2_open_24 rfl ?_
  refine g_putfield dX2_open_25 fX2_47 (by decide) rfl rfl rfl rfl rfl ?_
  refine g_aload_n dX2_open_28 rfl ?_
  refine g_iload_n dX2_open_29 rfl ?_
  refine g_putfield dX2_open_30 fX2_51 (by decide) rfl rfl rfl rfl rfl ?_
  exact g_return dX2_open_33 rfl k
theorem sX2_wayFrom_0 {post : Option Value → PH → Prop} {h : PH} {x1 : Int32} (k1 : x1 < 0 → G 0 mX2_wayFrom post 22 [none, none] [] h) (k2 : ¬ x1 < 0 → G 0 mX2_wayFrom post 4 [some (.ref 3), some (.int x1)] [] h) : G 0 mX2_wayFrom post 0 [some (.ref 3), some (.int x1)] [] h := by
  refine g_iload_n dX2_wayFrom_0 rfl ?_
  exact g_if_lt (tgt := 22) dX2_wayFrom_1 (by decide) (fun hc => by refine g_forget (mask := [false, false]) (L' := [none, none]) rfl ?_; exact k1 hc) (fun hc => k2 hc)
theorem sX2_wayFrom_22 {post : Option Value → PH → Prop} {h : PH} (k : post (some (.int (-2))) h) : G 0 mX2_wayFrom post 22 [none, none] [] h := by
  refine g_bipush (v := (-2)) dX2_wayFrom_22 rfl ?_
  exact g_ireturn (ty := .int) dX2_wayFrom_24 rfl rfl k
theorem sX2_wayFrom_4 {post : Option Value → PH → Prop} {h : PH} {x1 : Int32} (k1 : 3125 ≤ x1 → G 0 mX2_wayFrom post 22 [none, none] [] h) (k2 : ¬ 3125 ≤ x1 → G 0 mX2_wayFrom post 13 [some (.ref 3), some (.int x1)] [] h) : G 0 mX2_wayFrom post 4 [some (.ref 3), some (.int x1)] [] h := by
  refine g_iload_n dX2_wayFrom_4 rfl ?_
  refine g_aload_n dX2_wayFrom_5 rfl ?_
  refine g_getfield (kd := 14) (v := .ref 12) dX2_wayFrom_6 fX2_23 (by decide) rfl rfl rfl rfl ?_
  refine g_arraylength (n := 3125) dX2_wayFrom_9 (by decide) rfl rfl rfl ?_
  exact g_icmp_ge (tgt := 22) dX2_wayFrom_10 (by decide) (fun hc => by refine g_forget (mask := [false, false]) (L' := [none, none]) rfl ?_; exact k1 hc) (fun hc => k2 hc)
theorem sX2_wayFrom_13 {post : Option Value → PH → Prop} {h : PH} {x1 : Int32} (hb1 : vp_in x1 3125) (k : post (some (.int (h.1 12 (Int32.toNatClampNeg x1)))) h) : G 0 mX2_wayFrom post 13 [some (.ref 3), some (.int x1)] [] h := by
  refine g_aload_n dX2_wayFrom_13 rfl ?_
  refine g_getfield (kd := 14) (v := .ref 12) dX2_wayFrom_14 fX2_23 (by decide) rfl rfl rfl rfl ?_
  refine g_iload_n dX2_wayFrom_17 rfl ?_
  refine g_iaload (n := 3125) dX2_wayFrom_18 (by decide) rfl rfl rfl hb1 ?_
  refine g_goto (tgt := 24) dX2_wayFrom_19 (by decide) ?_
  exact g_ireturn (ty := .int) dX2_wayFrom_24 rfl rfl k
theorem sX2_setWay_0 {post : Option Value → PH → Prop} {h : PH} {x1 x2 : Int32} (k1 : x1 < 0 → G 0 mX2_setWay post 20 [none, none, none] [] h) (k2 : ¬ x1 < 0 → G 0 mX2_setWay post 4 [some (.ref 3), some (.int x1), some (.int x2)] [] h) : G 0 mX2_setWay post 0 [some (.ref 3), some (.int x1), some (.int x2)] [] h := by
  refine g_iload_n dX2_setWay_0 rfl ?_
  exact g_if_lt (tgt := 20) dX2_setWay_1 (by decide) (fun hc => by refine g_forget (mask := [false, false, false]) (L' := [none, none, none]) rfl ?_; exact k1 hc) (fun hc => k2 hc)
theorem sX2_setWay_20 {post : Option Value → PH → Prop} {h : PH} (k : post none h) : G 0 mX2_setWay post 20 [none, none, none] [] h := by
  exact g_return dX2_setWay_20 rfl k
theorem sX2_setWay_4 {post : Option Value → PH → Prop} {h : PH} {x1 x2 : Int32} (k1 : 3125 ≤ x1 → G 0 mX2_setWay post 20 [none, none, none] [] h) (k2 : ¬ 3125 ≤ x1 → G 0 mX2_setWay post 13 [some (.ref 3), some (.int x1), some (.int x2)] [] h) : G 0 mX2_setWay post 4 [some (.ref 3), some (.int x1), some (.int x2)] [] h := by
  refine g_iload_n dX2_setWay_4 rfl ?_
  refine g_aload_n dX2_setWay_5 rfl ?_
  refine g_getfield (kd := 14) (v := .ref 12) dX2_setWay_6 fX2_23 (by decide) rfl rfl rfl rfl ?_
  refine g_arraylength (n := 3125) dX2_setWay_9 (by decide) rfl rfl rfl ?_
  exact g_icmp_ge (tgt := 20) dX2_setWay_10 (by decide) (fun hc => by refine g_forget (mask := [false, false, false]) (L' := [none, none, none]) rfl ?_; exact k1 hc) (fun hc => k2 hc)
theorem sX2_setWay_13 {post : Option Value → PH → Prop} {h : PH} {x1 x2 : Int32} (hb1 : vp_in x1 3125) (k : post none ((upd2 h.1 12 (Int32.toNatClampNeg x1) x2), h.2)) : G 0 mX2_setWay post 13 [some (.ref 3), some (.int x1), some (.int x2)] [] h := by
  refine g_aload_n dX2_setWay_13 rfl ?_
  refine g_getfield (kd := 14) (v := .ref 12) dX2_setWay_14 fX2_23 (by decide) rfl rfl rfl rfl ?_
  refine g_iload_n dX2_setWay_17 rfl ?_
  refine g_iload_n dX2_setWay_18 rfl ?_
  refine g_iastore (n := 3125) dX2_setWay_19 (by decide) rfl rfl rfl hb1 ?_
  exact g_return dX2_setWay_20 rfl k
theorem sX2_findChange_0_p4 {post : Option Value → PH → Prop} {h : PH} (k1 : ¬ (h.1 4 4) = (-1001) → G 3 mX2_findChange post 18 [some (.ref 3), some (.ref 2), some (.ref 4), none, none, none] [] ((upd2 h.1 4 6 (-1001)), h.2)) (k2 : (h.1 4 4) = (-1001) → G 3 mX2_findChange post 17 [none, none, none, none, none, none] [] ((upd2 h.1 4 6 (-1001)), h.2)) : G 3 mX2_findChange post 0 [some (.ref 3), some (.ref 2), some (.ref 4), none, none, none] [] h := by
  refine g_aload_n dX2_findChange_0 rfl ?_
  refine g_sipush (v := (-1001)) dX2_findChange_1 rfl ?_
  refine g_putfield dX2_findChange_4 fX2_97 (by decide) rfl rfl rfl rfl rfl ?_
  refine g_aload_n dX2_findChange_7 rfl ?_
  refine g_getfield (kd := 0) (v := .int (h.1 4 4)) dX2_findChange_8 fX2_47 (by decide) rfl rfl rfl rfl ?_
  refine g_sipush (v := (-1001)) dX2_findChange_11 rfl ?_
  exact g_icmp_ne (tgt := 18) dX2_findChange_14 (by decide) (fun hc => k1 hc) (fun hc => by refine g_forget (mask := [false, false, false, true, true, true]) (L' := [none, none, none, none, none, none]) rfl ?_; exact k2 hc)
theorem sX2_findChange_18_p4 {post : Option Value → PH → Prop} {h : PH} (k : Ev 0 mX3_placeNow [.ref 2] h (fun r h' => G 3 mX2_findChange post 22 [some (.ref 3), some (.ref 2), some (.ref 4), none, none, none] (r.toList ++ []) h')) : G 3 mX2_findChange post 18 [some (.ref 3), some (.ref 2), some (.ref 4), none, none, none] [] h := by
  refine g_aload_n dX2_findChange_18 rfl ?_
  exact g_callV (n := 0) (b := 2) (as := []) (rest := []) dX2_findChange_19 kX3_placeNow lX2_100 (by decide) rfl ⟨_, _, rfl⟩ rfl rfl (by simp only [List.map, Value.category]; decide) (by decide) k
theorem sX2_findChange_17_p4 {post : Option Value → PH → Prop} {h : PH} (k : post none h) : G 3 mX2_findChange post 17 [none, none, none, none, none, none] [] h := by
  exact g_return dX2_findChange_17 rfl k
theorem sX2_findChange_22_p4 {post : Option Value → PH → Prop} {h : PH} {s0 : Int32} (k : Ev 0 mX2_setWay [.ref 3, .int s0, .int (-1)] h (fun r h' => G 3 mX2_findChange post 29 [some (.ref 3), some (.ref 2), some (.ref 4), some (.int s0), none, none] (r.toList ++ []) h')) : G 3 mX2_findChange post 22 [some (.ref 3), some (.ref 2), some (.ref 4), none, none, none] [.int s0] h := by
  refine g_istore_n (L' := [some (.ref 3), some (.ref 2), some (.ref 4), some (.int s0), none, none]) dX2_findChange_22 rfl (by decide) rfl ?_
  refine g_aload_n dX2_findChange_23 rfl ?_
  refine g_iload_n dX2_findChange_24 rfl ?_
  refine g_iconst (v := (-1)) dX2_findChange_25 rfl ?_
  exact g_callV (n := 2) (b := 3) (as := [.int s0, .int (-1)]) (rest := []) dX2_findChange_26 kX2_setWay lX2_104 (by decide) rfl ⟨_, _, rfl⟩ rfl rfl (by simp only [List.map, Value.category]; decide) (by decide) k
theorem sX2_findChange_29_p4 {post : Option Value → PH → Prop} {h : PH} {x3 : Int32} (k : Ev 0 mX2_setWay [.ref 3, .int (h.1 4 5), .int 0] h (fun r h' => G 3 mX2_findChange post 38 [some (.ref 3), some (.ref 2), some (.ref 4), some (.int x3), none, none] (r.toList ++ []) h')) : G 3 mX2_findChange post 29 [some (.ref 3), some (.ref 2), some (.ref 4), some (.int x3), none, none] [] h := by
  refine g_aload_n dX2_findChange_29 rfl ?_
  refine g_aload_n dX2_findChange_30 rfl ?_
  refine g_getfield (kd := 0) (v := .int (h.1 4 5)) dX2_findChange_31 fX2_51 (by decide) rfl rfl rfl rfl ?_
  refine g_iconst (v := 0) dX2_findChange_34 rfl ?_
  exact g_callV (n := 2) (b := 3) (as := [.int (h.1 4 5), .int 0]) (rest := []) dX2_findChange_35 kX2_setWay lX2_104 (by decide) rfl ⟨_, _, rfl⟩ rfl rfl (by simp only [List.map, Value.category]; decide) (by decide) k
theorem sX2_findChange_38_p4 {post : Option Value → PH → Prop} {h : PH} {x3 : Int32} (k : G 3 mX2_findChange post 44 [some (.ref 3), some (.ref 2), some (.ref 4), some (.int x3), some (.int 1), some (.int 0)] [] h) : G 3 mX2_findChange post 38 [some (.ref 3), some (.ref 2), some (.ref 4), some (.int x3), none, none] [] h := by
  refine g_iconst (v := 1) dX2_findChange_38 rfl ?_
  refine g_istore (L' := [some (.ref 3), some (.ref 2), some (.ref 4), some (.int x3), some (.int 1), none]) dX2_findChange_39 rfl (by decide) rfl ?_
  refine g_iconst (v := 0) dX2_findChange_41 rfl ?_
  refine g_istore (L' := [some (.ref 3), some (.ref 2), some (.ref 4), some (.int x3), some (.int 1), some (.int 0)]) dX2_findChange_42 rfl (by decide) rfl ?_
  exact k
theorem sX2_findChange_44_p4 {post : Option Value → PH → Prop} {h : PH} {x3 x4 x5 : Int32} (k1 : (h.1 2 2) ≤ x5 → G 3 mX2_findChange post 82 [some (.ref 3), some (.ref 2), some (.ref 4), some (.int x3), none, none] [] h) (k2 : ¬ (h.1 2 2) ≤ x5 → G 3 mX2_findChange post 53 [some (.ref 3), some (.ref 2), some (.ref 4), some (.int x3), some (.int x4), some (.int x5)] [] h) : G 3 mX2_findChange post 44 [some (.ref 3), some (.ref 2), some (.ref 4), some (.int x3), some (.int x4), some (.int x5)] [] h := by
  refine g_iload dX2_findChange_44 rfl ?_
  refine g_aload_n dX2_findChange_46 rfl ?_
  refine g_getfield (kd := 0) (v := .int (h.1 2 2)) dX2_findChange_47 fX2_108 (by decide) rfl rfl rfl rfl ?_
  exact g_icmp_ge (tgt := 82) dX2_findChange_50 (by decide) (fun hc => by refine g_forget (mask := [true, true, true, true, false, false]) (L' := [some (.ref 3), some (.ref 2), some (.ref 4), some (.int x3), none, none]) rfl ?_; exact k1 hc) (fun hc => k2 hc)
theorem sX2_findChange_82_p4 {post : Option Value → PH → Prop} {h : PH} {x3 : Int32} (k : Ev 0 mX2_wayFrom [.ref 3, .int x3] h (fun r h' => G 3 mX2_findChange post 87 [some (.ref 3), some (.ref 2), some (.ref 4), some (.int x3), none, none] (r.toList ++ []) h')) : G 3 mX2_findChange post 82 [some (.ref 3), some (.ref 2), some (.ref 4), some (.int x3), none, none] [] h := by
  refine g_aload_n dX2_findChange_82 rfl ?_
  refine g_iload_n dX2_findChange_83 rfl ?_
  exact g_callV (n := 1) (b := 3) (as := [.int x3]) (rest := []) dX2_findChange_84 kX2_wayFrom lX2_111 (by decide) rfl ⟨_, _, rfl⟩ rfl rfl (by simp only [List.map, Value.category]; decide) (by decide) k
theorem sX2_findChange_53_p4 {post : Option Value → PH → Prop} {h : PH} {x3 x4 x5 : Int32} (k1 : x4 = 0 → G 3 mX2_findChange post 82 [some (.ref 3), some (.ref 2), some (.ref 4), some (.int x3), none, none] [] h) (k2 : ¬ x4 = 0 → G 3 mX2_findChange post 58 [some (.ref 3), some (.ref 2), some (.ref 4), some (.int x3), none, some (.int x5)] [] h) : G 3 mX2_findChange post 53 [some (.ref 3), some (.ref 2), some (.ref 4), some (.int x3), some (.int x4), some (.int x5)] [] h := by
  refine g_iload dX2_findChange_53 rfl ?_
  exact g_if_eq (tgt := 82) dX2_findChange_55 (by decide) (fun hc => by refine g_forget (mask := [true, true, true, true, false, false]) (L' := [some (.ref 3), some (.ref 2), some (.ref 4), some (.int x3), none, none]) rfl ?_; exact k1 hc) (fun hc => by refine g_forget (mask := [true, true, true, true, false, true]) (L' := [some (.ref 3), some (.ref 2), some (.ref 4), some (.int x3), none, some (.int x5)]) rfl ?_; exact k2 hc)
theorem sX2_findChange_87_p4 {post : Option Value → PH → Prop} {h : PH} {x3 s0 : Int32} (k1 : s0 < 0 → G 3 mX2_findChange post 106 [none, none, none, none, none, none] [] h) (k2 : ¬ s0 < 0 → G 3 mX2_findChange post 90 [some (.ref 3), some (.ref 2), some (.ref 4), some (.int x3), none, none] [] h) : G 3 mX2_findChange post 87 [some (.ref 3), some (.ref 2), some (.ref 4), some (.int x3), none, none] [.int s0] h := by
  exact g_if_lt (tgt := 106) dX2_findChange_87 (by decide) (fun hc => by refine g_forget (mask := [false, false, false, false, true, true]) (L' := [none, none, none, none, none, none]) rfl ?_; exact k1 hc) (fun hc => k2 hc)
theorem sX2_findChange_58_p4 {post : Option Value → PH → Prop} {h : PH} {x3 x5 : Int32} (k : Ev 0 mX2_wayFrom [.ref 3, .int x3] h (fun r h' => G 3 mX2_findChange post 63 [some (.ref 3), some (.ref 2), some (.ref 4), some (.int x3), none, some (.int x5)] (r.toList ++ []) h')) : G 3 mX2_findChange post 58 [some (.ref 3), some (.ref 2), some (.ref 4), some (.int x3), none, some (.int x5)] [] h := by
  refine g_aload_n dX2_findChange_58 rfl ?_
  refine g_iload_n dX2_findChange_59 rfl ?_
  exact g_callV (n := 1) (b := 3) (as := [.int x3]) (rest := []) dX2_findChange_60 kX2_wayFrom lX2_111 (by decide) rfl ⟨_, _, rfl⟩ rfl rfl (by simp only [List.map, Value.category]; decide) (by decide) k
theorem sX2_findChange_106_p4 {post : Option Value → PH → Prop} {h : PH} (k : post none h) : G 3 mX2_findChange post 106 [none, none, none, none, none, none] [] h := by
  exact g_return dX2_findChange_106 rfl k
theorem sX2_findChange_90_p4 {post : Option Value → PH → Prop} {h : PH} {x3 : Int32} (k : Ev 0 mX2_wayFrom [.ref 3, .int x3] h (fun r h' => G 3 mX2_findChange post 96 [some (.ref 3), some (.ref 2), some (.ref 4), some (.int x3), none, none] (r.toList ++ [.ref 4]) h')) : G 3 mX2_findChange post 90 [some (.ref 3), some (.ref 2), some (.ref 4), some (.int x3), none, none] [] h := by
  refine g_aload_n dX2_findChange_90 rfl ?_
  refine g_aload_n dX2_findChange_91 rfl ?_
  refine g_iload_n dX2_findChange_92 rfl ?_
  exact g_callV (n := 1) (b := 3) (as := [.int x3]) (rest := [.ref 4]) dX2_findChange_93 kX2_wayFrom lX2_111 (by decide) rfl ⟨_, _, rfl⟩ rfl rfl (by simp only [List.map, Value.category]; decide) (by decide) k
theorem sX2_findChange_63_p4 {post : Option Value → PH → Prop} {h : PH} {x3 x5 s0 : Int32} (k1 : ¬ s0 = (-1) → G 3 mX2_findChange post 82 [some (.ref 3), some (.ref 2), some (.ref 4), some (.int x3), none, none] [] h) (k2 : s0 = (-1) → G 3 mX2_findChange post 67 [some (.ref 3), some (.ref 2), some (.ref 4), some (.int x3), none, some (.int x5)] [] h) : G 3 mX2_findChange post 63 [some (.ref 3), some (.ref 2), some (.ref 4), some (.int x3), none, some (.int x5)] [.int s0] h := by
  refine g_iconst (v := (-1)) dX2_findChange_63 rfl ?_
  exact g_icmp_ne (tgt := 82) dX2_findChange_64 (by decide) (fun hc => by refine g_forget (mask := [true, true, true, true, true, false]) (L' := [some (.ref 3), some (.ref 2), some (.ref 4), some (.int x3), none, none]) rfl ?_; exact k1 hc) (fun hc => k2 hc)
theorem sX2_findChange_96_p4 {post : Option Value → PH → Prop} {h : PH} {x3 s0 : Int32} (k : Ev 2 mX2_noteMoves [.ref 3, .ref 2, .ref 4, .int x3] ((upd2 h.1 4 6 s0), h.2) (fun r h' => G 3 mX2_findChange post 106 [none, none, none, none, none, none] (r.toList ++ []) h')) : G 3 mX2_findChange post 96 [some (.ref 3), some (.ref 2), some (.ref 4), some (.int x3), none, none] [.int s0, .ref 4] h := by
  refine g_putfield dX2_findChange_96 fX2_97 (by decide) rfl rfl rfl rfl rfl ?_
  refine g_aload_n dX2_findChange_99 rfl ?_
  refine g_aload_n dX2_findChange_100 rfl ?_
  refine g_aload_n dX2_findChange_101 rfl ?_
  refine g_iload_n dX2_findChange_102 rfl ?_
  refine g_forget (mask := [false, false, false, false, true, true]) (L' := [none, none, none, none, none, none]) rfl ?_
  exact g_callV (n := 3) (b := 3) (as := [.ref 2, .ref 4, .int x3]) (rest := []) dX2_findChange_103 kX2_noteMoves lX2_118 (by decide) rfl ⟨_, _, rfl⟩ rfl rfl (by simp only [List.map, Value.category]; decide) (by decide) k
theorem sX2_findChange_67_p4 {post : Option Value → PH → Prop} {h : PH} {x3 x5 : Int32} (k : Ev 2 mX2_widen [.ref 3, .ref 2, .int x5] h (fun r h' => G 3 mX2_findChange post 74 [some (.ref 3), some (.ref 2), some (.ref 4), some (.int x3), none, some (.int x5)] (r.toList ++ []) h')) : G 3 mX2_findChange post 67 [some (.ref 3), some (.ref 2), some (.ref 4), some (.int x3), none, some (.int x5)] [] h := by
  refine g_aload_n dX2_findChange_67 rfl ?_
  refine g_aload_n dX2_findChange_68 rfl ?_
  refine g_iload dX2_findChange_69 rfl ?_
  exact g_callV (n := 2) (b := 3) (as := [.ref 2, .int x5]) (rest := []) dX2_findChange_71 kX2_widen lX2_114 (by decide) rfl ⟨_, _, rfl⟩ rfl rfl (by simp only [List.map, Value.category]; decide) (by decide) k
theorem sX2_findChange_74_p4 {post : Option Value → PH → Prop} {h : PH} {x3 x5 s0 : Int32} (k : G 3 mX2_findChange post 44 [some (.ref 3), some (.ref 2), some (.ref 4), some (.int x3), some (.int s0), some (.int (x5 + 1))] [] h) : G 3 mX2_findChange post 74 [some (.ref 3), some (.ref 2), some (.ref 4), some (.int x3), none, some (.int x5)] [.int s0] h := by
  refine g_istore (L' := [some (.ref 3), some (.ref 2), some (.ref 4), some (.int x3), some (.int s0), some (.int x5)]) dX2_findChange_74 rfl (by decide) rfl ?_
  refine g_iinc (v := (x5 + 1)) (L' := [some (.ref 3), some (.ref 2), some (.ref 4), some (.int x3), some (.int s0), some (.int (x5 + 1))]) dX2_findChange_76 rfl rfl rfl (by decide) rfl ?_
  refine g_goto (tgt := 44) dX2_findChange_79 (by decide) ?_
  exact k
theorem sX2_findChange_0_p5 {post : Option Value → PH → Prop} {h : PH} (k1 : ¬ (h.1 5 4) = (-1001) → G 3 mX2_findChange post 18 [some (.ref 3), some (.ref 2), some (.ref 5), none, none, none] [] ((upd2 h.1 5 6 (-1001)), h.2)) (k2 : (h.1 5 4) = (-1001) → G 3 mX2_findChange post 17 [none, none, none, none, none, none] [] ((upd2 h.1 5 6 (-1001)), h.2)) : G 3 mX2_findChange post 0 [some (.ref 3), some (.ref 2), some (.ref 5), none, none, none] [] h := by
  refine g_aload_n dX2_findChange_0 rfl ?_
  refine g_sipush (v := (-1001)) dX2_findChange_1 rfl ?_
  refine g_putfield dX2_findChange_4 fX2_97 (by decide) rfl rfl rfl rfl rfl ?_
  refine g_aload_n dX2_findChange_7 rfl ?_
  refine g_getfield (kd := 0) (v := .int (h.1 5 4)) dX2_findChange_8 fX2_47 (by decide) rfl rfl rfl rfl ?_
  refine g_sipush (v := (-1001)) dX2_findChange_11 rfl ?_
  exact g_icmp_ne (tgt := 18) dX2_findChange_14 (by decide) (fun hc => k1 hc) (fun hc => by refine g_forget (mask := [false, false, false, true, true, true]) (L' := [none, none, none, none, none, none]) rfl ?_; exact k2 hc)
theorem sX2_findChange_18_p5 {post : Option Value → PH → Prop} {h : PH} (k : Ev 0 mX3_placeNow [.ref 2] h (fun r h' => G 3 mX2_findChange post 22 [some (.ref 3), some (.ref 2), some (.ref 5), none, none, none] (r.toList ++ []) h')) : G 3 mX2_findChange post 18 [some (.ref 3), some (.ref 2), some (.ref 5), none, none, none] [] h := by
  refine g_aload_n dX2_findChange_18 rfl ?_
  exact g_callV (n := 0) (b := 2) (as := []) (rest := []) dX2_findChange_19 kX3_placeNow lX2_100 (by decide) rfl ⟨_, _, rfl⟩ rfl rfl (by simp only [List.map, Value.category]; decide) (by decide) k
theorem sX2_findChange_17_p5 {post : Option Value → PH → Prop} {h : PH} (k : post none h) : G 3 mX2_findChange post 17 [none, none, none, none, none, none] [] h := by
  exact g_return dX2_findChange_17 rfl k
theorem sX2_findChange_22_p5 {post : Option Value → PH → Prop} {h : PH} {s0 : Int32} (k : Ev 0 mX2_setWay [.ref 3, .int s0, .int (-1)] h (fun r h' => G 3 mX2_findChange post 29 [some (.ref 3), some (.ref 2), some (.ref 5), some (.int s0), none, none] (r.toList ++ []) h')) : G 3 mX2_findChange post 22 [some (.ref 3), some (.ref 2), some (.ref 5), none, none, none] [.int s0] h := by
  refine g_istore_n (L' := [some (.ref 3), some (.ref 2), some (.ref 5), some (.int s0), none, none]) dX2_findChange_22 rfl (by decide) rfl ?_
  refine g_aload_n dX2_findChange_23 rfl ?_
  refine g_iload_n dX2_findChange_24 rfl ?_
  refine g_iconst (v := (-1)) dX2_findChange_25 rfl ?_
  exact g_callV (n := 2) (b := 3) (as := [.int s0, .int (-1)]) (rest := []) dX2_findChange_26 kX2_setWay lX2_104 (by decide) rfl ⟨_, _, rfl⟩ rfl rfl (by simp only [List.map, Value.category]; decide) (by decide) k
theorem sX2_findChange_29_p5 {post : Option Value → PH → Prop} {h : PH} {x3 : Int32} (k : Ev 0 mX2_setWay [.ref 3, .int (h.1 5 5), .int 0] h (fun r h' => G 3 mX2_findChange post 38 [some (.ref 3), some (.ref 2), some (.ref 5), some (.int x3), none, none] (r.toList ++ []) h')) : G 3 mX2_findChange post 29 [some (.ref 3), some (.ref 2), some (.ref 5), some (.int x3), none, none] [] h := by
  refine g_aload_n dX2_findChange_29 rfl ?_
  refine g_aload_n dX2_findChange_30 rfl ?_
  refine g_getfield (kd := 0) (v := .int (h.1 5 5)) dX2_findChange_31 fX2_51 (by decide) rfl rfl rfl rfl ?_
  refine g_iconst (v := 0) dX2_findChange_34 rfl ?_
  exact g_callV (n := 2) (b := 3) (as := [.int (h.1 5 5), .int 0]) (rest := []) dX2_findChange_35 kX2_setWay lX2_104 (by decide) rfl ⟨_, _, rfl⟩ rfl rfl (by simp only [List.map, Value.category]; decide) (by decide) k
theorem sX2_findChange_38_p5 {post : Option Value → PH → Prop} {h : PH} {x3 : Int32} (k : G 3 mX2_findChange post 44 [some (.ref 3), some (.ref 2), some (.ref 5), some (.int x3), some (.int 1), some (.int 0)] [] h) : G 3 mX2_findChange post 38 [some (.ref 3), some (.ref 2), some (.ref 5), some (.int x3), none, none] [] h := by
  refine g_iconst (v := 1) dX2_findChange_38 rfl ?_
  refine g_istore (L' := [some (.ref 3), some (.ref 2), some (.ref 5), some (.int x3), some (.int 1), none]) dX2_findChange_39 rfl (by decide) rfl ?_
  refine g_iconst (v := 0) dX2_findChange_41 rfl ?_
  refine g_istore (L' := [some (.ref 3), some (.ref 2), some (.ref 5), some (.int x3), some (.int 1), some (.int 0)]) dX2_findChange_42 rfl (by decide) rfl ?_
  exact k
theorem sX2_findChange_44_p5 {post : Option Value → PH → Prop} {h : PH} {x3 x4 x5 : Int32} (k1 : (h.1 2 2) ≤ x5 → G 3 mX2_findChange post 82 [some (.ref 3), some (.ref 2), some (.ref 5), some (.int x3), none, none] [] h) (k2 : ¬ (h.1 2 2) ≤ x5 → G 3 mX2_findChange post 53 [some (.ref 3), some (.ref 2), some (.ref 5), some (.int x3), some (.int x4), some (.int x5)] [] h) : G 3 mX2_findChange post 44 [some (.ref 3), some (.ref 2), some (.ref 5), some (.int x3), some (.int x4), some (.int x5)] [] h := by
  refine g_iload dX2_findChange_44 rfl ?_
  refine g_aload_n dX2_findChange_46 rfl ?_
  refine g_getfield (kd := 0) (v := .int (h.1 2 2)) dX2_findChange_47 fX2_108 (by decide) rfl rfl rfl rfl ?_
  exact g_icmp_ge (tgt := 82) dX2_findChange_50 (by decide) (fun hc => by refine g_forget (mask := [true, true, true, true, false, false]) (L' := [some (.ref 3), some (.ref 2), some (.ref 5), some (.int x3), none, none]) rfl ?_; exact k1 hc) (fun hc => k2 hc)
theorem sX2_findChange_82_p5 {post : Option Value → PH → Prop} {h : PH} {x3 : Int32} (k : Ev 0 mX2_wayFrom [.ref 3, .int x3] h (fun r h' => G 3 mX2_findChange post 87 [some (.ref 3), some (.ref 2), some (.ref 5), some (.int x3), none, none] (r.toList ++ []) h')) : G 3 mX2_findChange post 82 [some (.ref 3), some (.ref 2), some (.ref 5), some (.int x3), none, none] [] h := by
  refine g_aload_n dX2_findChange_82 rfl ?_
  refine g_iload_n dX2_findChange_83 rfl ?_
  exact g_callV (n := 1) (b := 3) (as := [.int x3]) (rest := []) dX2_findChange_84 kX2_wayFrom lX2_111 (by decide) rfl ⟨_, _, rfl⟩ rfl rfl (by simp only [List.map, Value.category]; decide) (by decide) k
theorem sX2_findChange_53_p5 {post : Option Value → PH → Prop} {h : PH} {x3 x4 x5 : Int32} (k1 : x4 = 0 → G 3 mX2_findChange post 82 [some (.ref 3), some (.ref 2), some (.ref 5), some (.int x3), none, none] [] h) (k2 : ¬ x4 = 0 → G 3 mX2_findChange post 58 [some (.ref 3), some (.ref 2), some (.ref 5), some (.int x3), none, some (.int x5)] [] h) : G 3 mX2_findChange post 53 [some (.ref 3), some (.ref 2), some (.ref 5), some (.int x3), some (.int x4), some (.int x5)] [] h := by
  refine g_iload dX2_findChange_53 rfl ?_
  exact g_if_eq (tgt := 82) dX2_findChange_55 (by decide) (fun hc => by refine g_forget (mask := [true, true, true, true, false, false]) (L' := [some (.ref 3), some (.ref 2), some (.ref 5), some (.int x3), none, none]) rfl ?_; exact k1 hc) (fun hc => by refine g_forget (mask := [true, true, true, true, false, true]) (L' := [some (.ref 3), some (.ref 2), some (.ref 5), some (.int x3), none, some (.int x5)]) rfl ?_; exact k2 hc)
theorem sX2_findChange_87_p5 {post : Option Value → PH → Prop} {h : PH} {x3 s0 : Int32} (k1 : s0 < 0 → G 3 mX2_findChange post 106 [none, none, none, none, none, none] [] h) (k2 : ¬ s0 < 0 → G 3 mX2_findChange post 90 [some (.ref 3), some (.ref 2), some (.ref 5), some (.int x3), none, none] [] h) : G 3 mX2_findChange post 87 [some (.ref 3), some (.ref 2), some (.ref 5), some (.int x3), none, none] [.int s0] h := by
  exact g_if_lt (tgt := 106) dX2_findChange_87 (by decide) (fun hc => by refine g_forget (mask := [false, false, false, false, true, true]) (L' := [none, none, none, none, none, none]) rfl ?_; exact k1 hc) (fun hc => k2 hc)
theorem sX2_findChange_58_p5 {post : Option Value → PH → Prop} {h : PH} {x3 x5 : Int32} (k : Ev 0 mX2_wayFrom [.ref 3, .int x3] h (fun r h' => G 3 mX2_findChange post 63 [some (.ref 3), some (.ref 2), some (.ref 5), some (.int x3), none, some (.int x5)] (r.toList ++ []) h')) : G 3 mX2_findChange post 58 [some (.ref 3), some (.ref 2), some (.ref 5), some (.int x3), none, some (.int x5)] [] h := by
  refine g_aload_n dX2_findChange_58 rfl ?_
  refine g_iload_n dX2_findChange_59 rfl ?_
  exact g_callV (n := 1) (b := 3) (as := [.int x3]) (rest := []) dX2_findChange_60 kX2_wayFrom lX2_111 (by decide) rfl ⟨_, _, rfl⟩ rfl rfl (by simp only [List.map, Value.category]; decide) (by decide) k
theorem sX2_findChange_106_p5 {post : Option Value → PH → Prop} {h : PH} (k : post none h) : G 3 mX2_findChange post 106 [none, none, none, none, none, none] [] h := by
  exact g_return dX2_findChange_106 rfl k
theorem sX2_findChange_90_p5 {post : Option Value → PH → Prop} {h : PH} {x3 : Int32} (k : Ev 0 mX2_wayFrom [.ref 3, .int x3] h (fun r h' => G 3 mX2_findChange post 96 [some (.ref 3), some (.ref 2), some (.ref 5), some (.int x3), none, none] (r.toList ++ [.ref 5]) h')) : G 3 mX2_findChange post 90 [some (.ref 3), some (.ref 2), some (.ref 5), some (.int x3), none, none] [] h := by
  refine g_aload_n dX2_findChange_90 rfl ?_
  refine g_aload_n dX2_findChange_91 rfl ?_
  refine g_iload_n dX2_findChange_92 rfl ?_
  exact g_callV (n := 1) (b := 3) (as := [.int x3]) (rest := [.ref 5]) dX2_findChange_93 kX2_wayFrom lX2_111 (by decide) rfl ⟨_, _, rfl⟩ rfl rfl (by simp only [List.map, Value.category]; decide) (by decide) k
theorem sX2_findChange_63_p5 {post : Option Value → PH → Prop} {h : PH} {x3 x5 s0 : Int32} (k1 : ¬ s0 = (-1) → G 3 mX2_findChange post 82 [some (.ref 3), some (.ref 2), some (.ref 5), some (.int x3), none, none] [] h) (k2 : s0 = (-1) → G 3 mX2_findChange post 67 [some (.ref 3), some (.ref 2), some (.ref 5), some (.int x3), none, some (.int x5)] [] h) : G 3 mX2_findChange post 63 [some (.ref 3), some (.ref 2), some (.ref 5), some (.int x3), none, some (.int x5)] [.int s0] h := by
  refine g_iconst (v := (-1)) dX2_findChange_63 rfl ?_
  exact g_icmp_ne (tgt := 82) dX2_findChange_64 (by decide) (fun hc => by refine g_forget (mask := [true, true, true, true, true, false]) (L' := [some (.ref 3), some (.ref 2), some (.ref 5), some (.int x3), none, none]) rfl ?_; exact k1 hc) (fun hc => k2 hc)
theorem sX2_findChange_96_p5 {post : Option Value → PH → Prop} {h : PH} {x3 s0 : Int32} (k : Ev 2 mX2_noteMoves [.ref 3, .ref 2, .ref 5, .int x3] ((upd2 h.1 5 6 s0), h.2) (fun r h' => G 3 mX2_findChange post 106 [none, none, none, none, none, none] (r.toList ++ []) h')) : G 3 mX2_findChange post 96 [some (.ref 3), some (.ref 2), some (.ref 5), some (.int x3), none, none] [.int s0, .ref 5] h := by
  refine g_putfield dX2_findChange_96 fX2_97 (by decide) rfl rfl rfl rfl rfl ?_
  refine g_aload_n dX2_findChange_99 rfl ?_
  refine g_aload_n dX2_findChange_100 rfl ?_
  refine g_aload_n dX2_findChange_101 rfl ?_
  refine g_iload_n dX2_findChange_102 rfl ?_
  refine g_forget (mask := [false, false, false, false, true, true]) (L' := [none, none, none, none, none, none]) rfl ?_
  exact g_callV (n := 3) (b := 3) (as := [.ref 2, .ref 5, .int x3]) (rest := []) dX2_findChange_103 kX2_noteMoves lX2_118 (by decide) rfl ⟨_, _, rfl⟩ rfl rfl (by simp only [List.map, Value.category]; decide) (by decide) k
theorem sX2_findChange_67_p5 {post : Option Value → PH → Prop} {h : PH} {x3 x5 : Int32} (k : Ev 2 mX2_widen [.ref 3, .ref 2, .int x5] h (fun r h' => G 3 mX2_findChange post 74 [some (.ref 3), some (.ref 2), some (.ref 5), some (.int x3), none, some (.int x5)] (r.toList ++ []) h')) : G 3 mX2_findChange post 67 [some (.ref 3), some (.ref 2), some (.ref 5), some (.int x3), none, some (.int x5)] [] h := by
  refine g_aload_n dX2_findChange_67 rfl ?_
  refine g_aload_n dX2_findChange_68 rfl ?_
  refine g_iload dX2_findChange_69 rfl ?_
  exact g_callV (n := 2) (b := 3) (as := [.ref 2, .int x5]) (rest := []) dX2_findChange_71 kX2_widen lX2_114 (by decide) rfl ⟨_, _, rfl⟩ rfl rfl (by simp only [List.map, Value.category]; decide) (by decide) k
theorem sX2_findChange_74_p5 {post : Option Value → PH → Prop} {h : PH} {x3 x5 s0 : Int32} (k : G 3 mX2_findChange post 44 [some (.ref 3), some (.ref 2), some (.ref 5), some (.int x3), some (.int s0), some (.int (x5 + 1))] [] h) : G 3 mX2_findChange post 74 [some (.ref 3), some (.ref 2), some (.ref 5), some (.int x3), none, some (.int x5)] [.int s0] h := by
  refine g_istore (L' := [some (.ref 3), some (.ref 2), some (.ref 5), some (.int x3), some (.int s0), some (.int x5)]) dX2_findChange_74 rfl (by decide) rfl ?_
  refine g_iinc (v := (x5 + 1)) (L' := [some (.ref 3), some (.ref 2), some (.ref 5), some (.int x3), some (.int s0), some (.int (x5 + 1))]) dX2_findChange_76 rfl rfl rfl (by decide) rfl ?_
  refine g_goto (tgt := 44) dX2_findChange_79 (by decide) ?_
  exact k
theorem sX2_widen_0 {post : Option Value → PH → Prop} {h : PH} {x2 : Int32} (k : G 2 mX2_widen post 5 [some (.ref 3), some (.ref 2), some (.int x2), some (.int 0), some (.int 0)] [] h) : G 2 mX2_widen post 0 [some (.ref 3), some (.ref 2), some (.int x2), none, none] [] h := by
  refine g_iconst (v := 0) dX2_widen_0 rfl ?_
  refine g_istore_n (L' := [some (.ref 3), some (.ref 2), some (.int x2), some (.int 0), none]) dX2_widen_1 rfl (by decide) rfl ?_
  refine g_iconst (v := 0) dX2_widen_2 rfl ?_
  refine g_istore (L' := [some (.ref 3), some (.ref 2), some (.int x2), some (.int 0), some (.int 0)]) dX2_widen_3 rfl (by decide) rfl ?_
  exact k
theorem sX2_widen_5 {post : Option Value → PH → Prop} {h : PH} {x2 x3 x4 : Int32} (k1 : (h.1 2 2) ≤ x4 → G 2 mX2_widen post 45 [none, none, none, some (.int x3), none] [] h) (k2 : ¬ (h.1 2 2) ≤ x4 → G 2 mX2_widen post 14 [some (.ref 3), some (.ref 2), some (.int x2), some (.int x3), some (.int x4)] [] h) : G 2 mX2_widen post 5 [some (.ref 3), some (.ref 2), some (.int x2), some (.int x3), some (.int x4)] [] h := by
  refine g_iload dX2_widen_5 rfl ?_
  refine g_aload_n dX2_widen_7 rfl ?_
  refine g_getfield (kd := 0) (v := .int (h.1 2 2)) dX2_widen_8 fX2_108 (by decide) rfl rfl rfl rfl ?_
  exact g_icmp_ge (tgt := 45) dX2_widen_11 (by decide) (fun hc => by refine g_forget (mask := [false, false, false, true, false]) (L' := [none, none, none, some (.int x3), none]) rfl ?_; exact k1 hc) (fun hc => k2 hc)
theorem sX2_widen_45 {post : Option Value → PH → Prop} {h : PH} {x3 : Int32} (hb1 : narrow .boolean (.int x3) = .int x3) (k : post (some (.int x3)) h) : G 2 mX2_widen post 45 [none, none, none, some (.int x3), none] [] h := by
  refine g_iload_n dX2_widen_45 rfl ?_
  exact g_ireturn (ty := .boolean) dX2_widen_46 rfl hb1 k
theorem sX2_widen_14 {post : Option Value → PH → Prop} {h : PH} {x2 x3 x4 : Int32} (k : Ev 0 mX2_wayFrom [.ref 3, .int x4] h (fun r h' => G 2 mX2_widen post 20 [some (.ref 3), some (.ref 2), some (.int x2), some (.int x3), some (.int x4)] (r.toList ++ []) h')) : G 2 mX2_widen post 14 [some (.ref 3), some (.ref 2), some (.int x2), some (.int x3), some (.int x4)] [] h := by
  refine g_aload_n dX2_widen_14 rfl ?_
  refine g_iload dX2_widen_15 rfl ?_
  exact g_callV (n := 1) (b := 3) (as := [.int x4]) (rest := []) dX2_widen_17 kX2_wayFrom lX2_111 (by decide) rfl ⟨_, _, rfl⟩ rfl rfl (by simp only [List.map, Value.category]; decide) (by decide) k
theorem sX2_widen_20 {post : Option Value → PH → Prop} {h : PH} {x2 x3 x4 s0 : Int32} (k1 : ¬ s0 = x2 → G 2 mX2_widen post 39 [some (.ref 3), some (.ref 2), some (.int x2), some (.int x3), some (.int x4)] [] h) (k2 : s0 = x2 → G 2 mX2_widen post 24 [some (.ref 3), some (.ref 2), some (.int x2), some (.int x3), some (.int x4)] [] h) : G 2 mX2_widen post 20 [some (.ref 3), some (.ref 2), some (.int x2), some (.int x3), some (.int x4)] [.int s0] h := by
  refine g_iload_n dX2_widen_20 rfl ?_
  exact g_icmp_ne (tgt := 39) dX2_widen_21 (by decide) (fun hc => k1 hc) (fun hc => k2 hc)
theorem sX2_widen_39 {post : Option Value → PH → Prop} {h : PH} {x2 x3 x4 : Int32} (k : G 2 mX2_widen post 5 [some (.ref 3), some (.ref 2), some (.int x2), some (.int x3), some (.int (x4 + 1))] [] h) : G 2 mX2_widen post 39 [some (.ref 3), some (.ref 2), some (.int x2), some (.int x3), some (.int x4)] [] h := by
  refine g_iinc (v := (x4 + 1)) (L' := [some (.ref 3), some (.ref 2), some (.int x2), some (.int x3), some (.int (x4 + 1))]) dX2_widen_39 rfl rfl rfl (by decide) rfl ?_
  refine g_goto (tgt := 5) dX2_widen_42 (by decide) ?_
  exact k
theorem sX2_widen_24 {post : Option Value → PH → Prop} {h : PH} {x2 x3 x4 : Int32} (k : Ev 1 mX2_markBeside [.ref 3, .ref 2, .int x4, .int (x2 + 1)] h (fun r h' => G 2 mX2_widen post 34 [some (.ref 3), some (.ref 2), some (.int x2), some (.int x3), some (.int x4)] (r.toList ++ []) h')) : G 2 mX2_widen post 24 [some (.ref 3), some (.ref 2), some (.int x2), some (.int x3), some (.int x4)] [] h := by
  refine g_aload_n dX2_widen_24 rfl ?_
  refine g_aload_n dX2_widen_25 rfl ?_
  refine g_iload dX2_widen_26 rfl ?_
  refine g_iload_n dX2_widen_28 rfl ?_
  refine g_iconst (v := 1) dX2_widen_29 rfl ?_
  refine g_iadd dX2_widen_30 ?_
  exact g_callV (n := 3) (b := 3) (as := [.ref 2, .int x4, .int (x2 + 1)]) (rest := []) dX2_widen_31 kX2_markBeside lX2_122 (by decide) rfl ⟨_, _, rfl⟩ rfl rfl (by simp only [List.map, Value.category]; decide) (by decide) k
theorem sX2_widen_34 {post : Option Value → PH → Prop} {h : PH} {x2 x3 x4 s0 : Int32} (k1 : s0 = 0 → G 2 mX2_widen post 39 [some (.ref 3), some (.ref 2), some (.int x2), some (.int x3), some (.int x4)] [] h) (k2 : ¬ s0 = 0 → G 2 mX2_widen post 37 [some (.ref 3), some (.ref 2), some (.int x2), none, some (.int x4)] [] h) : G 2 mX2_widen post 34 [some (.ref 3), some (.ref 2), some (.int x2), some (.int x3), some (.int x4)] [.int s0] h := by
  exact g_if_eq (tgt := 39) dX2_widen_34 (by decide) (fun hc => k1 hc) (fun hc => by refine g_forget (mask := [true, true, true, false, true]) (L' := [some (.ref 3), some (.ref 2), some (.int x2), none, some (.int x4)]) rfl ?_; exact k2 hc)
theorem sX2_widen_37 {post : Option Value → PH → Prop} {h : PH} {x2 x4 : Int32} (k : G 2 mX2_widen post 39 [some (.ref 3), some (.ref 2), some (.int x2), some (.int 1), some (.int x4)] [] h) : G 2 mX2_widen post 37 [some (.ref 3), some (.ref 2), some (.int x2), none, some (.int x4)] [] h := by
  refine g_iconst (v := 1) dX2_widen_37 rfl ?_
  refine g_istore_n (L' := [some (.ref 3), some (.ref 2), some (.int x2), some (.int 1), some (.int x4)]) dX2_widen_38 rfl (by decide) rfl ?_
  exact k
theorem sX2_markBeside_0 {post : Option Value → PH → Prop} {h : PH} {x2 x3 : Int32} (k : G 1 mX2_markBeside post 9 [some (.ref 3), some (.ref 2), some (.int x2), some (.int x3), some (.int 0), some (.int x2), some (.int 0), none, none] [] h) : G 1 mX2_markBeside post 0 [some (.ref 3), some (.ref 2), some (.int x2), some (.int x3), none, none, none, none, none] [] h := by
  refine g_iconst (v := 0) dX2_markBeside_0 rfl ?_
  refine g_istore (L' := [some (.ref 3), some (.ref 2), some (.int x2), some (.int x3), some (.int 0), none, none, none, none]) dX2_markBeside_1 rfl (by decide) rfl ?_
  refine g_iload_n dX2_markBeside_3 rfl ?_
  refine g_istore (L' := [some (.ref 3), some (.ref 2), some (.int x2), some (.int x3), some (.int 0), some (.int x2), none, none, none]) dX2_markBeside_4 rfl (by decide) rfl ?_
  refine g_iconst (v := 0) dX2_markBeside_6 rfl ?_
  refine g_istore (L' := [some (.ref 3), some (.ref 2), some (.int x2), some (.int x3), some (.int 0), some (.int x2), some (.int 0), none, none]) dX2_markBeside_7 rfl (by decide) rfl ?_
  exact k
theorem sX2_markBeside_9 {post : Option Value → PH → Prop} {h : PH} {x2 x3 x4 x5 x6 : Int32} (k1 : (h.1 2 0) ≤ x6 → G 1 mX2_markBeside post 94 [none, none, none, none, some (.int x4), none, none, none, none] [] h) (k2 : ¬ (h.1 2 0) ≤ x6 → G 1 mX2_markBeside post 18 [some (.ref 3), some (.ref 2), some (.int x2), some (.int x3), some (.int x4), some (.int x5), some (.int x6), none, none] [] h) : G 1 mX2_markBeside post 9 [some (.ref 3), some (.ref 2), some (.int x2), some (.int x3), some (.int x4), some (.int x5), some (.int x6), none, none] [] h := by
  refine g_iload dX2_markBeside_9 rfl ?_
  refine g_aload_n dX2_markBeside_11 rfl ?_
  refine g_getfield (kd := 0) (v := .int (h.1 2 0)) dX2_markBeside_12 fX2_126 (by decide) rfl rfl rfl rfl ?_
  exact g_icmp_ge (tgt := 94) dX2_markBeside_15 (by decide) (fun hc => by refine g_forget (mask := [false, false, false, false, true, false, false, true, true]) (L' := [none, none, none, none, some (.int x4), none, none, none, none]) rfl ?_; exact k1 hc) (fun hc => k2 hc)
theorem sX2_markBeside_94 {post : Option Value → PH → Prop} {h : PH} {x4 : Int32} (hb1 : narrow .boolean (.int x4) = .int x4) (k : post (some (.int x4)) h) : G 1 mX2_markBeside post 94 [none, none, none, none, some (.int x4), none, none, none, none] [] h := by
  refine g_iload dX2_markBeside_94 rfl ?_
  exact g_ireturn (ty := .boolean) dX2_markBeside_96 rfl hb1 k
theorem sX2_markBeside_18 {post : Option Value → PH → Prop} {h : PH} {x2 x3 x4 x5 x6 : Int32} (hb1 : vp_in x6 5) (k : G 1 mX2_markBeside post 36 [some (.ref 3), some (.ref 2), some (.int x2), some (.int x3), some (.int x4), some (.int x5), some (.int x6), some (.int (x2 - ((x5 - x5 / 5 * 5) * (stp5 (Int32.toNatClampNeg x6))))), some (.int (-1))] [] h) : G 1 mX2_markBeside post 18 [some (.ref 3), some (.ref 2), some (.int x2), some (.int x3), some (.int x4), some (.int x5), some (.int x6), none, none] [] h := by
  refine g_iload_n dX2_markBeside_18 rfl ?_
  refine g_iload dX2_markBeside_19 rfl ?_
  refine g_iconst (v := 5) dX2_markBeside_21 rfl ?_
  refine g_irem dX2_markBeside_22 (by decide) ?_
  refine g_steps dX2_markBeside_23 fX2_94 ?_
  refine g_iload dX2_markBeside_26 rfl ?_
  refine g_stepsload dX2_markBeside_28 hb1 ?_
  refine g_imul dX2_markBeside_29 ?_
  refine g_isub dX2_markBeside_30 ?_
  refine g_istore (L' := [some (.ref 3), some (.ref 2), some (.int x2), some (.int x3), some (.int x4), some (.int x5), some (.int x6), some (.int (x2 - ((x5 - x5 / 5 * 5) * (stp5 (Int32.toNatClampNeg x6))))), none]) dX2_markBeside_31 rfl (by decide) rfl ?_
  refine g_iconst (v := (-1)) dX2_markBeside_33 rfl ?_
  refine g_istore (L' := [some (.ref 3), some (.ref 2), some (.int x2), some (.int x3), some (.int x4), some (.int x5), some (.int x6), some (.int (x2 - ((x5 - x5 / 5 * 5) * (stp5 (Int32.toNatClampNeg x6))))), some (.int (-1))]) dX2_markBeside_34 rfl (by decide) rfl ?_
  exact k
theorem sX2_markBeside_36 {post : Option Value → PH → Prop} {h : PH} {x2 x3 x4 x5 x6 x7 x8 : Int32} (k1 : (h.1 2 1) ≤ x8 → G 1 mX2_markBeside post 82 [some (.ref 3), some (.ref 2), some (.int x2), some (.int x3), some (.int x4), some (.int x5), some (.int x6), none, none] [] h) (k2 : ¬ (h.1 2 1) ≤ x8 → G 1 mX2_markBeside post 45 [some (.ref 3), some (.ref 2), some (.int x2), some (.int x3), some (.int x4), some (.int x5), some (.int x6), some (.int x7), some (.int x8)] [] h) : G 1 mX2_markBeside post 36 [some (.ref 3), some (.ref 2), some (.int x2), some (.int x3), some (.int x4), some (.int x5), some (.int x6), some (.int x7), some (.int x8)] [] h := by
  refine g_iload dX2_markBeside_36 rfl ?_
  refine g_aload_n dX2_markBeside_38 rfl ?_
  refine g_getfield (kd := 0) (v := .int (h.1 2 1)) dX2_markBeside_39 fX2_74 (by decide) rfl rfl rfl rfl ?_
  exact g_icmp_ge (tgt := 82) dX2_markBeside_42 (by decide) (fun hc => by refine g_forget (mask := [true, true, true, true, true, true, true, false, false]) (L' := [some (.ref 3), some (.ref 2), some (.int x2), some (.int x3), some (.int x4), some (.int x5), some (.int x6), none, none]) rfl ?_; exact k1 hc) (fun hc => k2 hc)
theorem sX2_markBeside_82 {post : Option Value → PH → Prop} {h : PH} {x2 x3 x4 x5 x6 : Int32} (k : G 1 mX2_markBeside post 9 [some (.ref 3), some (.ref 2), some (.int x2), some (.int x3), some (.int x4), some (.int (x5 / 5)), some (.int (x6 + 1)), none, none] [] h) : G 1 mX2_markBeside post 82 [some (.ref 3), some (.ref 2), some (.int x2), some (.int x3), some (.int x4), some (.int x5), some (.int x6), none, none] [] h := by
  refine g_iload dX2_markBeside_82 rfl ?_
  refine g_iconst (v := 5) dX2_markBeside_84 rfl ?_
  refine g_idiv dX2_markBeside_85 (by decide) ?_
  refine g_istore (L' := [some (.ref 3), some (.ref 2), some (.int x2), some (.int x3), some (.int x4), some (.int (x5 / 5)), some (.int x6), none, none]) dX2_markBeside_86 rfl (by decide) rfl ?_
  refine g_iinc (v := (x6 + 1)) (L' := [some (.ref 3), some (.ref 2), some (.int x2), some (.int x3), some (.int x4), some (.int (x5 / 5)), some (.int (x6 + 1)), none, none]) dX2_markBeside_88 rfl rfl rfl (by decide) rfl ?_
  refine g_goto (tgt := 9) dX2_markBeside_91 (by decide) ?_
  exact k
theorem sX2_markBeside_45 {post : Option Value → PH → Prop} {h : PH} {x2 x3 x4 x5 x6 x7 x8 : Int32} (k : Ev 0 mX2_wayFrom [.ref 3, .int x7] h (fun r h' => G 1 mX2_markBeside post 51 [some (.ref 3), some (.ref 2), some (.int x2), some (.int x3), some (.int x4), some (.int x5), some (.int x6), some (.int x7), some (.int x8)] (r.toList ++ []) h')) : G 1 mX2_markBeside post 45 [some (.ref 3), some (.ref 2), some (.int x2), some (.int x3), some (.int x4), some (.int x5), some (.int x6), some (.int x7), some (.int x8)] [] h := by
  refine g_aload_n dX2_markBeside_45 rfl ?_
  refine g_iload dX2_markBeside_46 rfl ?_
  exact g_callV (n := 1) (b := 3) (as := [.int x7]) (rest := []) dX2_markBeside_48 kX2_wayFrom lX2_111 (by decide) rfl ⟨_, _, rfl⟩ rfl rfl (by simp only [List.map, Value.category]; decide) (by decide) k
theorem sX2_markBeside_51 {post : Option Value → PH → Prop} {h : PH} {x2 x3 x4 x5 x6 x7 x8 s0 : Int32} (k1 : ¬ s0 = (-1) → G 1 mX2_markBeside post 65 [some (.ref 3), some (.ref 2), some (.int x2), some (.int x3), some (.int x4), some (.int x5), some (.int x6), some (.int x7), some (.int x8)] [] h) (k2 : s0 = (-1) → G 1 mX2_markBeside post 55 [some (.ref 3), some (.ref 2), some (.int x2), some (.int x3), none, some (.int x5), some (.int x6), some (.int x7), some (.int x8)] [] h) : G 1 mX2_markBeside post 51 [some (.ref 3), some (.ref 2), some (.int x2), some (.int x3), some (.int x4), some (.int x5), some (.int x6), some (.int x7), some (.int x8)] [.int s0] h := by
  refine g_iconst (v := (-1)) dX2_markBeside_51 rfl ?_
  exact g_icmp_ne (tgt := 65) dX2_markBeside_52 (by decide) (fun hc => k1 hc) (fun hc => by refine g_forget (mask := [true, true, true, true, false, true, true, true, true]) (L' := [some (.ref 3), some (.ref 2), some (.int x2), some (.int x3), none, some (.int x5), some (.int x6), some (.int x7), some (.int x8)]) rfl ?_; exact k2 hc)
theorem sX2_markBeside_65 {post : Option Value → PH → Prop} {h : PH} {x2 x3 x4 x5 x6 x7 x8 : Int32} (hb1 : vp_in x6 5) (k : G 1 mX2_markBeside post 36 [some (.ref 3), some (.ref 2), some (.int x2), some (.int x3), some (.int x4), some (.int x5), some (.int x6), some (.int (x7 + (stp5 (Int32.toNatClampNeg x6)))), some (.int (x8 + 1))] [] h) : G 1 mX2_markBeside post 65 [some (.ref 3), some (.ref 2), some (.int x2), some (.int x3), some (.int x4), some (.int x5), some (.int x6), some (.int x7), some (.int x8)] [] h := by
  refine g_iload dX2_markBeside_65 rfl ?_
  refine g_steps dX2_markBeside_67 fX2_94 ?_
  refine g_iload dX2_markBeside_70 rfl ?_
  refine g_stepsload dX2_markBeside_72 hb1 ?_
  refine g_iadd dX2_markBeside_73 ?_
  refine g_istore (L' := [some (.ref 3), some (.ref 2), some (.int x2), some (.int x3), some (.int x4), some (.int x5), some (.int x6), some (.int (x7 + (stp5 (Int32.toNatClampNeg x6)))), some (.int x8)]) dX2_markBeside_74 rfl (by decide) rfl ?_
  refine g_iinc (v := (x8 + 1)) (L' := [some (.ref 3), some (.ref 2), some (.int x2), some (.int x3), some (.int x4), some (.int x5), some (.int x6), some (.int (x7 + (stp5 (Int32.toNatClampNeg x6)))), some (.int (x8 + 1))]) dX2_markBeside_76 rfl rfl rfl (by decide) rfl ?_
  refine g_goto (tgt := 36) dX2_markBeside_79 (by decide) ?_
  exact k
theorem sX2_markBeside_55 {post : Option Value → PH → Prop} {h : PH} {x2 x3 x5 x6 x7 x8 : Int32} (k : Ev 0 mX2_setWay [.ref 3, .int x7, .int x3] h (fun r h' => G 1 mX2_markBeside post 62 [some (.ref 3), some (.ref 2), some (.int x2), some (.int x3), none, some (.int x5), some (.int x6), some (.int x7), some (.int x8)] (r.toList ++ []) h')) : G 1 mX2_markBeside post 55 [some (.ref 3), some (.ref 2), some (.int x2), some (.int x3), none, some (.int x5), some (.int x6), some (.int x7), some (.int x8)] [] h := by
  refine g_aload_n dX2_markBeside_55 rfl ?_
  refine g_iload dX2_markBeside_56 rfl ?_
  refine g_iload_n dX2_markBeside_58 rfl ?_
  exact g_callV (n := 2) (b := 3) (as := [.int x7, .int x3]) (rest := []) dX2_markBeside_59 kX2_setWay lX2_104 (by decide) rfl ⟨_, _, rfl⟩ rfl rfl (by simp only [List.map, Value.category]; decide) (by decide) k
theorem sX2_markBeside_62 {post : Option Value → PH → Prop} {h : PH} {x2 x3 x5 x6 x7 x8 : Int32} (k : G 1 mX2_markBeside post 65 [some (.ref 3), some (.ref 2), some (.int x2), some (.int x3), some (.int 1), some (.int x5), some (.int x6), some (.int x7), some (.int x8)] [] h) : G 1 mX2_markBeside post 62 [some (.ref 3), some (.ref 2), some (.int x2), some (.int x3), none, some (.int x5), some (.int x6), some (.int x7), some (.int x8)] [] h := by
  refine g_iconst (v := 1) dX2_markBeside_62 rfl ?_
  refine g_istore (L' := [some (.ref 3), some (.ref 2), some (.int x2), some (.int x3), some (.int 1), some (.int x5), some (.int x6), some (.int x7), some (.int x8)]) dX2_markBeside_63 rfl (by decide) rfl ?_
  exact k
theorem sX2_noteMoves_0_p4 {post : Option Value → PH → Prop} {h : PH} {x3 : Int32} (k : G 2 mX2_noteMoves post 20 [some (.ref 3), some (.ref 2), some (.ref 4), none, some (.int x3), some (.int (if 15 < (h.1 4 6) then 15 else (h.1 4 6))), some (.int 0), none, none] [] h) : G 2 mX2_noteMoves post 0 [some (.ref 3), some (.ref 2), some (.ref 4), some (.int x3), none, none, none, none, none] [] h := by
  refine g_iload_n dX2_noteMoves_0 rfl ?_
  refine g_istore (L' := [some (.ref 3), some (.ref 2), some (.ref 4), some (.int x3), some (.int x3), none, none, none, none]) dX2_noteMoves_1 rfl (by decide) rfl ?_
  refine g_aload_n dX2_noteMoves_3 rfl ?_
  refine g_getfield (kd := 0) (v := .int (h.1 4 6)) dX2_noteMoves_4 fX2_97 (by decide) rfl rfl rfl rfl ?_
  refine g_aload_n dX2_noteMoves_7 rfl ?_
  refine g_getfield (kd := 15) (v := .ref 13) dX2_noteMoves_8 fX2_129 (by decide) rfl rfl rfl rfl ?_
  refine g_arraylength (n := 15) dX2_noteMoves_11 (by decide) rfl rfl rfl ?_
  refine g_mmin dX2_noteMoves_12 mmX2_132 (by simp only [List.map, Value.category]; decide) (by decide) ?_
  refine g_istore (L' := [some (.ref 3), some (.ref 2), some (.ref 4), some (.int x3), some (.int x3), some (.int (if 15 < (h.1 4 6) then 15 else (h.1 4 6))), none, none, none]) dX2_noteMoves_15 rfl (by decide) rfl ?_
  refine g_iconst (v := 0) dX2_noteMoves_17 rfl ?_
  refine g_istore (L' := [some (.ref 3), some (.ref 2), some (.ref 4), some (.int x3), some (.int x3), some (.int (if 15 < (h.1 4 6) then 15 else (h.1 4 6))), some (.int 0), none, none]) dX2_noteMoves_18 rfl (by decide) rfl ?_
  refine g_forget (mask := [true, true, true, false, true, true, true, true, true]) (L' := [some (.ref 3), some (.ref 2), some (.ref 4), none, some (.int x3), some (.int (if 15 < (h.1 4 6) then 15 else (h.1 4 6))), some (.int 0), none, none]) rfl ?_
  exact k
theorem sX2_noteMoves_20_p4 {post : Option Value → PH → Prop} {h : PH} {x4 x5 x6 : Int32} (k1 : x5 ≤ x6 → G 2 mX2_noteMoves post 102 [none, none, none, none, none, none, none, none, none] [] h) (k2 : ¬ x5 ≤ x6 → G 2 mX2_noteMoves post 27 [some (.ref 3), some (.ref 2), some (.ref 4), none, some (.int x4), some (.int x5), some (.int x6), none, none] [] h) : G 2 mX2_noteMoves post 20 [some (.ref 3), some (.ref 2), some (.ref 4), none, some (.int x4), some (.int x5), some (.int x6), none, none] [] h := by
  refine g_iload dX2_noteMoves_20 rfl ?_
  refine g_iload dX2_noteMoves_22 rfl ?_
  exact g_icmp_ge (tgt := 102) dX2_noteMoves_24 (by decide) (fun hc => by refine g_forget (mask := [false, false, false, true, false, false, false, true, true]) (L' := [none, none, none, none, none, none, none, none, none]) rfl ?_; exact k1 hc) (fun hc => k2 hc)
theorem sX2_noteMoves_102_p4 {post : Option Value → PH → Prop} {h : PH} (k : post none h) : G 2 mX2_noteMoves post 102 [none, none, none, none, none, none, none, none, none] [] h := by
  exact g_return dX2_noteMoves_102 rfl k
theorem sX2_noteMoves_27_p4 {post : Option Value → PH → Prop} {h : PH} {x4 x5 x6 : Int32} (k : Ev 1 mX2_leastMove [.ref 3, .ref 2, .int x4, .int (((h.1 4 6) - x6) - 1)] h (fun r h' => G 2 mX2_noteMoves post 43 [some (.ref 3), some (.ref 2), some (.ref 4), none, some (.int x4), some (.int x5), some (.int x6), none, none] (r.toList ++ []) h')) : G 2 mX2_noteMoves post 27 [some (.ref 3), some (.ref 2), some (.ref 4), none, some (.int x4), some (.int x5), some (.int x6), none, none] [] h := by
  refine g_aload_n dX2_noteMoves_27 rfl ?_
  refine g_aload_n dX2_noteMoves_28 rfl ?_
  refine g_iload dX2_noteMoves_29 rfl ?_
  refine g_aload_n dX2_noteMoves_31 rfl ?_
  refine g_getfield (kd := 0) (v := .int (h.1 4 6)) dX2_noteMoves_32 fX2_97 (by decide) rfl rfl rfl rfl ?_
  refine g_iload dX2_noteMoves_35 rfl ?_
  refine g_isub dX2_noteMoves_37 ?_
  refine g_iconst (v := 1) dX2_noteMoves_38 rfl ?_
  refine g_isub dX2_noteMoves_39 ?_
  exact g_callV (n := 3) (b := 3) (as := [.ref 2, .int x4, .int (((h.1 4 6) - x6) - 1)]) (rest := []) dX2_noteMoves_40 kX2_leastMove lX2_137 (by decide) rfl ⟨_, _, rfl⟩ rfl rfl (by simp only [List.map, Value.category]; decide) (by decide) k
theorem sX2_noteMoves_43_p4 {post : Option Value → PH → Prop} {h : PH} {x4 x5 x6 s0 : Int32} (hb1 : vp_in x6 15) (k : Ev 0 mX3_hasMirror [.ref 2, .int (s0 >>> (3 &&& 31))] ((upd2 h.1 13 (Int32.toNatClampNeg x6) s0), h.2) (fun r h' => G 2 mX2_noteMoves post 66 [some (.ref 3), some (.ref 2), some (.ref 4), none, some (.int x4), some (.int x5), some (.int x6), some (.int s0), some (.int (s0 >>> (3 &&& 31)))] (r.toList ++ []) h')) : G 2 mX2_noteMoves post 43 [some (.ref 3), some (.ref 2), some (.ref 4), none, some (.int x4), some (.int x5), some (.int x6), none, none] [.int s0] h := by
  refine g_istore (L' := [some (.ref 3), some (.ref 2), some (.ref 4), none, some (.int x4), some (.int x5), some (.int x6), some (.int s0), none]) dX2_noteMoves_43 rfl (by decide) rfl ?_
  refine g_iload dX2_noteMoves_45 rfl ?_
  refine g_iconst (v := 3) dX2_noteMoves_47 rfl ?_
  refine g_ishr dX2_noteMoves_48 ?_
  refine g_istore (L' := [some (.ref 3), some (.ref 2), some (.ref 4), none, some (.int x4), some (.int x5), some (.int x6), some (.int s0), some (.int (s0 >>> (3 &&& 31)))]) dX2_noteMoves_49 rfl (by decide) rfl ?_
  refine g_aload_n dX2_noteMoves_51 rfl ?_
  refine g_getfield (kd := 15) (v := .ref 13) dX2_noteMoves_52 fX2_129 (by decide) rfl rfl rfl rfl ?_
  refine g_iload dX2_noteMoves_55 rfl ?_
  refine g_iload dX2_noteMoves_57 rfl ?_
  refine g_iastore (n := 15) dX2_noteMoves_59 (by decide) rfl rfl rfl hb1 ?_
  refine g_aload_n dX2_noteMoves_60 rfl ?_
  refine g_iload dX2_noteMoves_61 rfl ?_
  exact g_callV (n := 1) (b := 2) (as := [.int (s0 >>> (3 &&& 31))]) (rest := []) dX2_noteMoves_63 kX3_hasMirror lX2_64 (by decide) rfl ⟨_, _, rfl⟩ rfl rfl (by simp only [List.map, Value.category]; decide) (by decide) k
theorem sX2_noteMoves_66_p4 {post : Option Value → PH → Prop} {h : PH} {x4 x5 x6 x7 x8 s0 : Int32} (k1 : s0 = 0 → G 2 mX2_noteMoves post 96 [some (.ref 3), some (.ref 2), some (.ref 4), none, some (.int x4), some (.int x5), some (.int x6), none, none] [] h) (k2 : ¬ s0 = 0 → G 2 mX2_noteMoves post 69 [some (.ref 3), some (.ref 2), some (.ref 4), none, some (.int x4), some (.int x5), some (.int x6), some (.int x7), some (.int x8)] [] h) : G 2 mX2_noteMoves post 66 [some (.ref 3), some (.ref 2), some (.ref 4), none, some (.int x4), some (.int x5), some (.int x6), some (.int x7), some (.int x8)] [.int s0] h := by
  exact g_if_eq (tgt := 96) dX2_noteMoves_66 (by decide) (fun hc => by refine g_forget (mask := [true, true, true, true, true, true, true, false, false]) (L' := [some (.ref 3), some (.ref 2), some (.ref 4), none, some (.int x4), some (.int x5), some (.int x6), none, none]) rfl ?_; exact k1 hc) (fun hc => k2 hc)
theorem sX2_noteMoves_96_p4 {post : Option Value → PH → Prop} {h : PH} {x4 x5 x6 : Int32} (k : G 2 mX2_noteMoves post 20 [some (.ref 3), some (.ref 2), some (.ref 4), none, some (.int x4), some (.int x5), some (.int (x6 + 1)), none, none] [] h) : G 2 mX2_noteMoves post 96 [some (.ref 3), some (.ref 2), some (.ref 4), none, some (.int x4), some (.int x5), some (.int x6), none, none] [] h := by
  refine g_iinc (v := (x6 + 1)) (L' := [some (.ref 3), some (.ref 2), some (.ref 4), none, some (.int x4), some (.int x5), some (.int (x6 + 1)), none, none]) dX2_noteMoves_96 rfl rfl rfl (by decide) rfl ?_
  refine g_goto (tgt := 20) dX2_noteMoves_99 (by decide) ?_
  exact k
theorem sX2_noteMoves_69_p4 {post : Option Value → PH → Prop} {h : PH} {x4 x5 x6 x7 x8 : Int32} (k : Ev 0 mX4_aimIn [.int x4, .int x8] h (fun r h' => G 2 mX2_noteMoves post 85 [some (.ref 3), some (.ref 2), some (.ref 4), none, none, some (.int x5), some (.int x6), none, some (.int x8)] (r.toList ++ [.int ((x7 &&& 7) - 1), .int x4]) h')) : G 2 mX2_noteMoves post 69 [some (.ref 3), some (.ref 2), some (.ref 4), none, some (.int x4), some (.int x5), some (.int x6), some (.int x7), some (.int x8)] [] h := by
  refine g_iload dX2_noteMoves_69 rfl ?_
  refine g_iload dX2_noteMoves_71 rfl ?_
  refine g_bipush (v := 7) dX2_noteMoves_73 rfl ?_
  refine g_iand dX2_noteMoves_75 ?_
  refine g_iconst (v := 1) dX2_noteMoves_76 rfl ?_
  refine g_isub dX2_noteMoves_77 ?_
  refine g_iload dX2_noteMoves_78 rfl ?_
  refine g_iload dX2_noteMoves_80 rfl ?_
  refine g_forget (mask := [true, true, true, true, false, true, true, false, true]) (L' := [some (.ref 3), some (.ref 2), some (.ref 4), none, none, some (.int x5), some (.int x6), none, some (.int x8)]) rfl ?_
  exact g_callS (n := 2) (as := [.int x4, .int x8]) (rest := [.int ((x7 &&& 7) - 1), .int x4]) dX2_noteMoves_82 kX4_aimIn lX2_141 rfl rfl (by simp only [List.map, Value.category]; decide) (by decide) k
theorem sX2_noteMoves_85_p4 {post : Option Value → PH → Prop} {h : PH} {x5 x6 x8 s0 s1 s2 : Int32} (hb1 : vp_in x8 5) (k : G 2 mX2_noteMoves post 96 [some (.ref 3), some (.ref 2), some (.ref 4), none, some (.int (s2 + ((s1 - s0) * (stp5 (Int32.toNatClampNeg x8))))), some (.int x5), some (.int x6), none, none] [] h) : G 2 mX2_noteMoves post 85 [some (.ref 3), some (.ref 2), some (.ref 4), none, none, some (.int x5), some (.int x6), none, some (.int x8)] [.int s0, .int s1, .int s2] h := by
  refine g_isub dX2_noteMoves_85 ?_
  refine g_steps dX2_noteMoves_86 fX2_94 ?_
  refine g_iload dX2_noteMoves_89 rfl ?_
  refine g_stepsload dX2_noteMoves_91 hb1 ?_
  refine g_imul dX2_noteMoves_92 ?_
  refine g_iadd dX2_noteMoves_93 ?_
  refine g_istore (L' := [some (.ref 3), some (.ref 2), some (.ref 4), none, some (.int (s2 + ((s1 - s0) * (stp5 (Int32.toNatClampNeg x8))))), some (.int x5), some (.int x6), none, some (.int x8)]) dX2_noteMoves_94 rfl (by decide) rfl ?_
  refine g_forget (mask := [true, true, true, true, true, true, true, true, false]) (L' := [some (.ref 3), some (.ref 2), some (.ref 4), none, some (.int (s2 + ((s1 - s0) * (stp5 (Int32.toNatClampNeg x8))))), some (.int x5), some (.int x6), none, none]) rfl ?_
  exact k
theorem sX2_noteMoves_0_p5 {post : Option Value → PH → Prop} {h : PH} {x3 : Int32} (k : G 2 mX2_noteMoves post 20 [some (.ref 3), some (.ref 2), some (.ref 5), none, some (.int x3), some (.int (if 15 < (h.1 5 6) then 15 else (h.1 5 6))), some (.int 0), none, none] [] h) : G 2 mX2_noteMoves post 0 [some (.ref 3), some (.ref 2), some (.ref 5), some (.int x3), none, none, none, none, none] [] h := by
  refine g_iload_n dX2_noteMoves_0 rfl ?_
  refine g_istore (L' := [some (.ref 3), some (.ref 2), some (.ref 5), some (.int x3), some (.int x3), none, none, none, none]) dX2_noteMoves_1 rfl (by decide) rfl ?_
  refine g_aload_n dX2_noteMoves_3 rfl ?_
  refine g_getfield (kd := 0) (v := .int (h.1 5 6)) dX2_noteMoves_4 fX2_97 (by decide) rfl rfl rfl rfl ?_
  refine g_aload_n dX2_noteMoves_7 rfl ?_
  refine g_getfield (kd := 16) (v := .ref 14) dX2_noteMoves_8 fX2_129 (by decide) rfl rfl rfl rfl ?_
  refine g_arraylength (n := 15) dX2_noteMoves_11 (by decide) rfl rfl rfl ?_
  refine g_mmin dX2_noteMoves_12 mmX2_132 (by simp only [List.map, Value.category]; decide) (by decide) ?_
  refine g_istore (L' := [some (.ref 3), some (.ref 2), some (.ref 5), some (.int x3), some (.int x3), some (.int (if 15 < (h.1 5 6) then 15 else (h.1 5 6))), none, none, none]) dX2_noteMoves_15 rfl (by decide) rfl ?_
  refine g_iconst (v := 0) dX2_noteMoves_17 rfl ?_
  refine g_istore (L' := [some (.ref 3), some (.ref 2), some (.ref 5), some (.int x3), some (.int x3), some (.int (if 15 < (h.1 5 6) then 15 else (h.1 5 6))), some (.int 0), none, none]) dX2_noteMoves_18 rfl (by decide) rfl ?_
  refine g_forget (mask := [true, true, true, false, true, true, true, true, true]) (L' := [some (.ref 3), some (.ref 2), some (.ref 5), none, some (.int x3), some (.int (if 15 < (h.1 5 6) then 15 else (h.1 5 6))), some (.int 0), none, none]) rfl ?_
  exact k
theorem sX2_noteMoves_20_p5 {post : Option Value → PH → Prop} {h : PH} {x4 x5 x6 : Int32} (k1 : x5 ≤ x6 → G 2 mX2_noteMoves post 102 [none, none, none, none, none, none, none, none, none] [] h) (k2 : ¬ x5 ≤ x6 → G 2 mX2_noteMoves post 27 [some (.ref 3), some (.ref 2), some (.ref 5), none, some (.int x4), some (.int x5), some (.int x6), none, none] [] h) : G 2 mX2_noteMoves post 20 [some (.ref 3), some (.ref 2), some (.ref 5), none, some (.int x4), some (.int x5), some (.int x6), none, none] [] h := by
  refine g_iload dX2_noteMoves_20 rfl ?_
  refine g_iload dX2_noteMoves_22 rfl ?_
  exact g_icmp_ge (tgt := 102) dX2_noteMoves_24 (by decide) (fun hc => by refine g_forget (mask := [false, false, false, true, false, false, false, true, true]) (L' := [none, none, none, none, none, none, none, none, none]) rfl ?_; exact k1 hc) (fun hc => k2 hc)
theorem sX2_noteMoves_102_p5 {post : Option Value → PH → Prop} {h : PH} (k : post none h) : G 2 mX2_noteMoves post 102 [none, none, none, none, none, none, none, none, none] [] h := by
  exact g_return dX2_noteMoves_102 rfl k
theorem sX2_noteMoves_27_p5 {post : Option Value → PH → Prop} {h : PH} {x4 x5 x6 : Int32} (k : Ev 1 mX2_leastMove [.ref 3, .ref 2, .int x4, .int (((h.1 5 6) - x6) - 1)] h (fun r h' => G 2 mX2_noteMoves post 43 [some (.ref 3), some (.ref 2), some (.ref 5), none, some (.int x4), some (.int x5), some (.int x6), none, none] (r.toList ++ []) h')) : G 2 mX2_noteMoves post 27 [some (.ref 3), some (.ref 2), some (.ref 5), none, some (.int x4), some (.int x5), some (.int x6), none, none] [] h := by
  refine g_aload_n dX2_noteMoves_27 rfl ?_
  refine g_aload_n dX2_noteMoves_28 rfl ?_
  refine g_iload dX2_noteMoves_29 rfl ?_
  refine g_aload_n dX2_noteMoves_31 rfl ?_
  refine g_getfield (kd := 0) (v := .int (h.1 5 6)) dX2_noteMoves_32 fX2_97 (by decide) rfl rfl rfl rfl ?_
  refine g_iload dX2_noteMoves_35 rfl ?_
  refine g_isub dX2_noteMoves_37 ?_
  refine g_iconst (v := 1) dX2_noteMoves_38 rfl ?_
  refine g_isub dX2_noteMoves_39 ?_
  exact g_callV (n := 3) (b := 3) (as := [.ref 2, .int x4, .int (((h.1 5 6) - x6) - 1)]) (rest := []) dX2_noteMoves_40 kX2_leastMove lX2_137 (by decide) rfl ⟨_, _, rfl⟩ rfl rfl (by simp only [List.map, Value.category]; decide) (by decide) k
theorem sX2_noteMoves_43_p5 {post : Option Value → PH → Prop} {h : PH} {x4 x5 x6 s0 : Int32} (hb1 : vp_in x6 15) (k : Ev 0 mX3_hasMirror [.ref 2, .int (s0 >>> (3 &&& 31))] ((upd2 h.1 14 (Int32.toNatClampNeg x6) s0), h.2) (fun r h' => G 2 mX2_noteMoves post 66 [some (.ref 3), some (.ref 2), some (.ref 5), none, some (.int x4), some (.int x5), some (.int x6), some (.int s0), some (.int (s0 >>> (3 &&& 31)))] (r.toList ++ []) h')) : G 2 mX2_noteMoves post 43 [some (.ref 3), some (.ref 2), some (.ref 5), none, some (.int x4), some (.int x5), some (.int x6), none, none] [.int s0] h := by
  refine g_istore (L' := [some (.ref 3), some (.ref 2), some (.ref 5), none, some (.int x4), some (.int x5), some (.int x6), some (.int s0), none]) dX2_noteMoves_43 rfl (by decide) rfl ?_
  refine g_iload dX2_noteMoves_45 rfl ?_
  refine g_iconst (v := 3) dX2_noteMoves_47 rfl ?_
  refine g_ishr dX2_noteMoves_48 ?_
  refine g_istore (L' := [some (.ref 3), some (.ref 2), some (.ref 5), none, some (.int x4), some (.int x5), some (.int x6), some (.int s0), some (.int (s0 >>> (3 &&& 31)))]) dX2_noteMoves_49 rfl (by decide) rfl ?_
  refine g_aload_n dX2_noteMoves_51 rfl ?_
  refine g_getfield (kd := 16) (v := .ref 14) dX2_noteMoves_52 fX2_129 (by decide) rfl rfl rfl rfl ?_
  refine g_iload dX2_noteMoves_55 rfl ?_
  refine g_iload dX2_noteMoves_57 rfl ?_
  refine g_iastore (n := 15) dX2_noteMoves_59 (by decide) rfl rfl rfl hb1 ?_
  refine g_aload_n dX2_noteMoves_60 rfl ?_
  refine g_iload dX2_noteMoves_61 rfl ?_
  exact g_callV (n := 1) (b := 2) (as := [.int (s0 >>> (3 &&& 31))]) (rest := []) dX2_noteMoves_63 kX3_hasMirror lX2_64 (by decide) rfl ⟨_, _, rfl⟩ rfl rfl (by simp only [List.map, Value.category]; decide) (by decide) k
theorem sX2_noteMoves_66_p5 {post : Option Value → PH → Prop} {h : PH} {x4 x5 x6 x7 x8 s0 : Int32} (k1 : s0 = 0 → G 2 mX2_noteMoves post 96 [some (.ref 3), some (.ref 2), some (.ref 5), none, some (.int x4), some (.int x5), some (.int x6), none, none] [] h) (k2 : ¬ s0 = 0 → G 2 mX2_noteMoves post 69 [some (.ref 3), some (.ref 2), some (.ref 5), none, some (.int x4), some (.int x5), some (.int x6), some (.int x7), some (.int x8)] [] h) : G 2 mX2_noteMoves post 66 [some (.ref 3), some (.ref 2), some (.ref 5), none, some (.int x4), some (.int x5), some (.int x6), some (.int x7), some (.int x8)] [.int s0] h := by
  exact g_if_eq (tgt := 96) dX2_noteMoves_66 (by decide) (fun hc => by refine g_forget (mask := [true, true, true, true, true, true, true, false, false]) (L' := [some (.ref 3), some (.ref 2), some (.ref 5), none, some (.int x4), some (.int x5), some (.int x6), none, none]) rfl ?_; exact k1 hc) (fun hc => k2 hc)
theorem sX2_noteMoves_96_p5 {post : Option Value → PH → Prop} {h : PH} {x4 x5 x6 : Int32} (k : G 2 mX2_noteMoves post 20 [some (.ref 3), some (.ref 2), some (.ref 5), none, some (.int x4), some (.int x5), some (.int (x6 + 1)), none, none] [] h) : G 2 mX2_noteMoves post 96 [some (.ref 3), some (.ref 2), some (.ref 5), none, some (.int x4), some (.int x5), some (.int x6), none, none] [] h := by
  refine g_iinc (v := (x6 + 1)) (L' := [some (.ref 3), some (.ref 2), some (.ref 5), none, some (.int x4), some (.int x5), some (.int (x6 + 1)), none, none]) dX2_noteMoves_96 rfl rfl rfl (by decide) rfl ?_
  refine g_goto (tgt := 20) dX2_noteMoves_99 (by decide) ?_
  exact k
theorem sX2_noteMoves_69_p5 {post : Option Value → PH → Prop} {h : PH} {x4 x5 x6 x7 x8 : Int32} (k : Ev 0 mX4_aimIn [.int x4, .int x8] h (fun r h' => G 2 mX2_noteMoves post 85 [some (.ref 3), some (.ref 2), some (.ref 5), none, none, some (.int x5), some (.int x6), none, some (.int x8)] (r.toList ++ [.int ((x7 &&& 7) - 1), .int x4]) h')) : G 2 mX2_noteMoves post 69 [some (.ref 3), some (.ref 2), some (.ref 5), none, some (.int x4), some (.int x5), some (.int x6), some (.int x7), some (.int x8)] [] h := by
  refine g_iload dX2_noteMoves_69 rfl ?_
  refine g_iload dX2_noteMoves_71 rfl ?_
  refine g_bipush (v := 7) dX2_noteMoves_73 rfl ?_
  refine g_iand dX2_noteMoves_75 ?_
  refine g_iconst (v := 1) dX2_noteMoves_76 rfl ?_
  refine g_isub dX2_noteMoves_77 ?_
  refine g_iload dX2_noteMoves_78 rfl ?_
  refine g_iload dX2_noteMoves_80 rfl ?_
  refine g_forget (mask := [true, true, true, true, false, true, true, false, true]) (L' := [some (.ref 3), some (.ref 2), some (.ref 5), none, none, some (.int x5), some (.int x6), none, some (.int x8)]) rfl ?_
  exact g_callS (n := 2) (as := [.int x4, .int x8]) (rest := [.int ((x7 &&& 7) - 1), .int x4]) dX2_noteMoves_82 kX4_aimIn lX2_141 rfl rfl (by simp only [List.map, Value.category]; decide) (by decide) k
theorem sX2_noteMoves_85_p5 {post : Option Value → PH → Prop} {h : PH} {x5 x6 x8 s0 s1 s2 : Int32} (hb1 : vp_in x8 5) (k : G 2 mX2_noteMoves post 96 [some (.ref 3), some (.ref 2), some (.ref 5), none, some (.int (s2 + ((s1 - s0) * (stp5 (Int32.toNatClampNeg x8))))), some (.int x5), some (.int x6), none, none] [] h) : G 2 mX2_noteMoves post 85 [some (.ref 3), some (.ref 2), some (.ref 5), none, none, some (.int x5), some (.int x6), none, some (.int x8)] [.int s0, .int s1, .int s2] h := by
  refine g_isub dX2_noteMoves_85 ?_
  refine g_steps dX2_noteMoves_86 fX2_94 ?_
  refine g_iload dX2_noteMoves_89 rfl ?_
  refine g_stepsload dX2_noteMoves_91 hb1 ?_
  refine g_imul dX2_noteMoves_92 ?_
  refine g_iadd dX2_noteMoves_93 ?_
  refine g_istore (L' := [some (.ref 3), some (.ref 2), some (.ref 5), none, some (.int (s2 + ((s1 - s0) * (stp5 (Int32.toNatClampNeg x8))))), some (.int x5), some (.int x6), none, some (.int x8)]) dX2_noteMoves_94 rfl (by decide) rfl ?_
  refine g_forget (mask := [true, true, true, true, true, true, true, true, false]) (L' := [some (.ref 3), some (.ref 2), some (.ref 5), none, some (.int (s2 + ((s1 - s0) * (stp5 (Int32.toNatClampNeg x8))))), some (.int x5), some (.int x6), none, none]) rfl ?_
  exact k
theorem sX2_leastMove_0 {post : Option Value → PH → Prop} {h : PH} {x2 x3 : Int32} (k : G 1 mX2_leastMove post 6 [some (.ref 3), some (.ref 2), some (.int x2), some (.int x3), some (.int x2), some (.int 0), none, none] [] h) : G 1 mX2_leastMove post 0 [some (.ref 3), some (.ref 2), some (.int x2), some (.int x3), none, none, none, none] [] h := by
  refine g_iload_n dX2_leastMove_0 rfl ?_
  refine g_istore (L' := [some (.ref 3), some (.ref 2), some (.int x2), some (.int x3), some (.int x2), none, none, none]) dX2_leastMove_1 rfl (by decide) rfl ?_
  refine g_iconst (v := 0) dX2_leastMove_3 rfl ?_
  refine g_istore (L' := [some (.ref 3), some (.ref 2), some (.int x2), some (.int x3), some (.int x2), some (.int 0), none, none]) dX2_leastMove_4 rfl (by decide) rfl ?_
  exact k
theorem sX2_leastMove_6 {post : Option Value → PH → Prop} {h : PH} {x2 x3 x4 x5 : Int32} (k1 : (h.1 2 0) ≤ x5 → G 1 mX2_leastMove post 92 [none, none, none, none, none, none, none, none] [] h) (k2 : ¬ (h.1 2 0) ≤ x5 → G 1 mX2_leastMove post 15 [some (.ref 3), some (.ref 2), some (.int x2), some (.int x3), some (.int x4), some (.int x5), none, none] [] h) : G 1 mX2_leastMove post 6 [some (.ref 3), some (.ref 2), some (.int x2), some (.int x3), some (.int x4), some (.int x5), none, none] [] h := by
  refine g_iload dX2_leastMove_6 rfl ?_
  refine g_aload_n dX2_leastMove_8 rfl ?_
  refine g_getfield (kd := 0) (v := .int (h.1 2 0)) dX2_leastMove_9 fX2_126 (by decide) rfl rfl rfl rfl ?_
  exact g_icmp_ge (tgt := 92) dX2_leastMove_12 (by decide) (fun hc => by refine g_forget (mask := [false, false, false, false, false, false, true, true]) (L' := [none, none, none, none, none, none, none, none]) rfl ?_; exact k1 hc) (fun hc => k2 hc)
theorem sX2_leastMove_92 {post : Option Value → PH → Prop} {h : PH} (k : post (some (.int (-1001))) h) : G 1 mX2_leastMove post 92 [none, none, none, none, none, none, none, none] [] h := by
  refine g_sipush (v := (-1001)) dX2_leastMove_92 rfl ?_
  exact g_ireturn (ty := .int) dX2_leastMove_95 rfl rfl k
theorem sX2_leastMove_15 {post : Option Value → PH → Prop} {h : PH} {x2 x3 x4 x5 : Int32} (hb1 : vp_in x5 5) (k : G 1 mX2_leastMove post 33 [some (.ref 3), some (.ref 2), some (.int x2), some (.int x3), some (.int x4), some (.int x5), some (.int (x2 - ((x4 - x4 / 5 * 5) * (stp5 (Int32.toNatClampNeg x5))))), some (.int (-1))] [] h) : G 1 mX2_leastMove post 15 [some (.ref 3), some (.ref 2), some (.int x2), some (.int x3), some (.int x4), some (.int x5), none, none] [] h := by
  refine g_iload_n dX2_leastMove_15 rfl ?_
  refine g_iload dX2_leastMove_16 rfl ?_
  refine g_iconst (v := 5) dX2_leastMove_18 rfl ?_
  refine g_irem dX2_leastMove_19 (by decide) ?_
  refine g_steps dX2_leastMove_20 fX2_94 ?_
  refine g_iload dX2_leastMove_23 rfl ?_
  refine g_stepsload dX2_leastMove_25 hb1 ?_
  refine g_imul dX2_leastMove_26 ?_
  refine g_isub dX2_leastMove_27 ?_
  refine g_istore (L' := [some (.ref 3), some (.ref 2), some (.int x2), some (.int x3), some (.int x4), some (.int x5), some (.int (x2 - ((x4 - x4 / 5 * 5) * (stp5 (Int32.toNatClampNeg x5))))), none]) dX2_leastMove_28 rfl (by decide) rfl ?_
  refine g_iconst (v := (-1)) dX2_leastMove_30 rfl ?_
  refine g_istore (L' := [some (.ref 3), some (.ref 2), some (.int x2), some (.int x3), some (.int x4), some (.int x5), some (.int (x2 - ((x4 - x4 / 5 * 5) * (stp5 (Int32.toNatClampNeg x5))))), some (.int (-1))]) dX2_leastMove_31 rfl (by decide) rfl ?_
  exact k
theorem sX2_leastMove_33 {post : Option Value → PH → Prop} {h : PH} {x2 x3 x4 x5 x6 x7 : Int32} (k1 : (h.1 2 1) ≤ x7 → G 1 mX2_leastMove post 80 [some (.ref 3), some (.ref 2), some (.int x2), some (.int x3), some (.int x4), some (.int x5), none, none] [] h) (k2 : ¬ (h.1 2 1) ≤ x7 → G 1 mX2_leastMove post 42 [some (.ref 3), some (.ref 2), some (.int x2), some (.int x3), some (.int x4), some (.int x5), some (.int x6), some (.int x7)] [] h) : G 1 mX2_leastMove post 33 [some (.ref 3), some (.ref 2), some (.int x2), some (.int x3), some (.int x4), some (.int x5), some (.int x6), some (.int x7)] [] h := by
  refine g_iload dX2_leastMove_33 rfl ?_
  refine g_aload_n dX2_leastMove_35 rfl ?_
  refine g_getfield (kd := 0) (v := .int (h.1 2 1)) dX2_leastMove_36 fX2_74 (by decide) rfl rfl rfl rfl ?_
  exact g_icmp_ge (tgt := 80) dX2_leastMove_39 (by decide) (fun hc => by refine g_forget (mask := [true, true, true, true, true, true, false, false]) (L' := [some (.ref 3), some (.ref 2), some (.int x2), some (.int x3), some (.int x4), some (.int x5), none, none]) rfl ?_; exact k1 hc) (fun hc => k2 hc)
theorem sX2_leastMove_80 {post : Option Value → PH → Prop} {h : PH} {x2 x3 x4 x5 : Int32} (k : G 1 mX2_leastMove post 6 [some (.ref 3), some (.ref 2), some (.int x2), some (.int x3), some (.int (x4 / 5)), some (.int (x5 + 1)), none, none] [] h) : G 1 mX2_leastMove post 80 [some (.ref 3), some (.ref 2), some (.int x2), some (.int x3), some (.int x4), some (.int x5), none, none] [] h := by
  refine g_iload dX2_leastMove_80 rfl ?_
  refine g_iconst (v := 5) dX2_leastMove_82 rfl ?_
  refine g_idiv dX2_leastMove_83 (by decide) ?_
  refine g_istore (L' := [some (.ref 3), some (.ref 2), some (.int x2), some (.int x3), some (.int (x4 / 5)), some (.int x5), none, none]) dX2_leastMove_84 rfl (by decide) rfl ?_
  refine g_iinc (v := (x5 + 1)) (L' := [some (.ref 3), some (.ref 2), some (.int x2), some (.int x3), some (.int (x4 / 5)), some (.int (x5 + 1)), none, none]) dX2_leastMove_86 rfl rfl rfl (by decide) rfl ?_
  refine g_goto (tgt := 6) dX2_leastMove_89 (by decide) ?_
  exact k
theorem sX2_leastMove_42 {post : Option Value → PH → Prop} {h : PH} {x2 x3 x4 x5 x6 x7 : Int32} (k : Ev 0 mX2_wayFrom [.ref 3, .int x6] h (fun r h' => G 1 mX2_leastMove post 48 [some (.ref 3), some (.ref 2), some (.int x2), some (.int x3), some (.int x4), some (.int x5), some (.int x6), some (.int x7)] (r.toList ++ []) h')) : G 1 mX2_leastMove post 42 [some (.ref 3), some (.ref 2), some (.int x2), some (.int x3), some (.int x4), some (.int x5), some (.int x6), some (.int x7)] [] h := by
  refine g_aload_n dX2_leastMove_42 rfl ?_
  refine g_iload dX2_leastMove_43 rfl ?_
  exact g_callV (n := 1) (b := 3) (as := [.int x6]) (rest := []) dX2_leastMove_45 kX2_wayFrom lX2_111 (by decide) rfl ⟨_, _, rfl⟩ rfl rfl (by simp only [List.map, Value.category]; decide) (by decide) k
theorem sX2_leastMove_48 {post : Option Value → PH → Prop} {h : PH} {x2 x3 x4 x5 x6 x7 s0 : Int32} (k1 : ¬ s0 = x3 → G 1 mX2_leastMove post 63 [some (.ref 3), some (.ref 2), some (.int x2), some (.int x3), some (.int x4), some (.int x5), some (.int x6), some (.int x7)] [] h) (k2 : s0 = x3 → G 1 mX2_leastMove post 52 [none, none, none, none, none, some (.int x5), none, some (.int x7)] [] h) : G 1 mX2_leastMove post 48 [some (.ref 3), some (.ref 2), some (.int x2), some (.int x3), some (.int x4), some (.int x5), some (.int x6), some (.int x7)] [.int s0] h := by
  refine g_iload_n dX2_leastMove_48 rfl ?_
  exact g_icmp_ne (tgt := 63) dX2_leastMove_49 (by decide) (fun hc => k1 hc) (fun hc => by refine g_forget (mask := [false, false, false, false, false, true, false, true]) (L' := [none, none, none, none, none, some (.int x5), none, some (.int x7)]) rfl ?_; exact k2 hc)
theorem sX2_leastMove_63 {post : Option Value → PH → Prop} {h : PH} {x2 x3 x4 x5 x6 x7 : Int32} (hb1 : vp_in x5 5) (k : G 1 mX2_leastMove post 33 [some (.ref 3), some (.ref 2), some (.int x2), some (.int x3), some (.int x4), some (.int x5), some (.int (x6 + (stp5 (Int32.toNatClampNeg x5)))), some (.int (x7 + 1))] [] h) : G 1 mX2_leastMove post 63 [some (.ref 3), some (.ref 2), some (.int x2), some (.int x3), some (.int x4), some (.int x5), some (.int x6), some (.int x7)] [] h := by
  refine g_iload dX2_leastMove_63 rfl ?_
  refine g_steps dX2_leastMove_65 fX2_94 ?_
  refine g_iload dX2_leastMove_68 rfl ?_
  refine g_stepsload dX2_leastMove_70 hb1 ?_
  refine g_iadd dX2_leastMove_71 ?_
  refine g_istore (L' := [some (.ref 3), some (.ref 2), some (.int x2), some (.int x3), some (.int x4), some (.int x5), some (.int (x6 + (stp5 (Int32.toNatClampNeg x5)))), some (.int x7)]) dX2_leastMove_72 rfl (by decide) rfl ?_
  refine g_iinc (v := (x7 + 1)) (L' := [some (.ref 3), some (.ref 2), some (.int x2), some (.int x3), some (.int x4), some (.int x5), some (.int (x6 + (stp5 (Int32.toNatClampNeg x5)))), some (.int (x7 + 1))]) dX2_leastMove_74 rfl rfl rfl (by decide) rfl ?_
  refine g_goto (tgt := 33) dX2_leastMove_77 (by decide) ?_
  exact k
theorem sX2_leastMove_52 {post : Option Value → PH → Prop} {h : PH} {x5 x7 : Int32} (k : post (some (.int (((8 * x5) + x7) + 1))) h) : G 1 mX2_leastMove post 52 [none, none, none, none, none, some (.int x5), none, some (.int x7)] [] h := by
  refine g_bipush (v := 8) dX2_leastMove_52 rfl ?_
  refine g_iload dX2_leastMove_54 rfl ?_
  refine g_imul dX2_leastMove_56 ?_
  refine g_iload dX2_leastMove_57 rfl ?_
  refine g_iadd dX2_leastMove_59 ?_
  refine g_iconst (v := 1) dX2_leastMove_60 rfl ?_
  refine g_iadd dX2_leastMove_61 ?_
  exact g_ireturn (ty := .int) dX2_leastMove_62 rfl rfl k
