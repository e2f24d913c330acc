theorem sX5_within_0 {post : Option Value → PH → Prop} {h : PH} {x0 x1 x2 : Int32} (k1 : x0 < x1 → G 0 mX5_within post 14 [none, none, none] [] h) (k2 : ¬ x0 < x1 → G 0 mX5_within post 5 [some (.int x0), none, some (.int x2)] [] h) : G 0 mX5_within post 0 [some (.int x0), some (.int x1), some (.int x2)] [] h := by
  refine g_iload_n dX5_within_0 rfl ?_
  refine g_iload_n dX5_within_1 rfl ?_
  exact g_icmp_lt (tgt := 14) dX5_within_2 (by decide) (fun hc => by refine g_forget (mask := [false, false, false]) (L' := [none, none, none]) rfl ?_; exact k1 hc) (fun hc => by refine g_forget (mask := [true, false, true]) (L' := [some (.int x0), none, some (.int x2)]) rfl ?_; exact k2 hc)
theorem sX5_within_14 {post : Option Value → PH → Prop} {h : PH} (k : post (some (.int 0)) h) : G 0 mX5_within post 14 [none, none, none] [] h := by
  refine g_iconst (v := 0) dX5_within_14 rfl ?_
  exact g_ireturn (ty := .boolean) dX5_within_15 rfl rfl k
theorem sX5_within_5 {post : Option Value → PH → Prop} {h : PH} {x0 x2 : Int32} (k1 : x2 < x0 → G 0 mX5_within post 14 [none, none, none] [] h) (k2 : ¬ x2 < x0 → G 0 mX5_within post 10 [none, none, none] [] h) : G 0 mX5_within post 5 [some (.int x0), none, some (.int x2)] [] h := by
  refine g_iload_n dX5_within_5 rfl ?_
  refine g_iload_n dX5_within_6 rfl ?_
  exact g_icmp_gt (tgt := 14) dX5_within_7 (by decide) (fun hc => by refine g_forget (mask := [false, true, false]) (L' := [none, none, none]) rfl ?_; exact k1 hc) (fun hc => by refine g_forget (mask := [false, true, false]) (L' := [none, none, none]) rfl ?_; exact k2 hc)
theorem sX5_within_10 {post : Option Value → PH → Prop} {h : PH} (k : post (some (.int 1)) h) : G 0 mX5_within post 10 [none, none, none] [] h := by
  refine g_iconst (v := 1) dX5_within_10 rfl ?_
  refine g_goto (tgt := 15) dX5_within_11 (by decide) ?_
  exact g_ireturn (ty := .boolean) dX5_within_15 rfl rfl k
theorem sX5_has_0 {post : Option Value → PH → Prop} {h : PH} {x0 x1 : Int32} (k1 : ¬ ((x0 >>> (x1 &&& 31)) &&& 1) = 1 → G 0 mX5_has post 13 [none, none] [] h) (k2 : ((x0 >>> (x1 &&& 31)) &&& 1) = 1 → G 0 mX5_has post 9 [none, none] [] h) : G 0 mX5_has post 0 [some (.int x0), some (.int x1)] [] h := by
  refine g_iload_n dX5_has_0 rfl ?_
  refine g_iload_n dX5_has_1 rfl ?_
  refine g_ishr dX5_has_2 ?_
  refine g_iconst (v := 1) dX5_has_3 rfl ?_
  refine g_iand dX5_has_4 ?_
  refine g_iconst (v := 1) dX5_has_5 rfl ?_
  exact g_icmp_ne (tgt := 13) dX5_has_6 (by decide) (fun hc => by refine g_forget (mask := [false, false]) (L' := [none, none]) rfl ?_; exact k1 hc) (fun hc => by refine g_forget (mask := [false, false]) (L' := [none, none]) rfl ?_; exact k2 hc)
theorem sX5_has_13 {post : Option Value → PH → Prop} {h : PH} (k : post (some (.int 0)) h) : G 0 mX5_has post 13 [none, none] [] h := by
  refine g_iconst (v := 0) dX5_has_13 rfl ?_
  exact g_ireturn (ty := .boolean) dX5_has_14 rfl rfl k
theorem sX5_has_9 {post : Option Value → PH → Prop} {h : PH} (k : post (some (.int 1)) h) : G 0 mX5_has post 9 [none, none] [] h := by
  refine g_iconst (v := 1) dX5_has_9 rfl ?_
  refine g_goto (tgt := 14) dX5_has_10 (by decide) ?_
  exact g_ireturn (ty := .boolean) dX5_has_14 rfl rfl k
theorem sX5_letter_0 {post : Option Value → PH → Prop} {h : PH} {x1 : Int32} (k : Ev 0 mX5_within [.int x1, .int 32, .int 126] h (fun r h' => G 1 mX5_letter post 8 [some (.ref 15), some (.int x1)] (r.toList ++ []) h')) : G 1 mX5_letter post 0 [some (.ref 15), some (.int x1)] [] h := by
  refine g_iload_n dX5_letter_0 rfl ?_
  refine g_bipush (v := 32) dX5_letter_1 rfl ?_
  refine g_bipush (v := 126) dX5_letter_3 rfl ?_
  exact g_callS (n := 3) (as := [.int x1, .int 32, .int 126]) (rest := []) dX5_letter_5 kX5_within lX5_41 rfl rfl (by simp only [List.map, Value.category]; decide) (by decide) k
theorem sX5_letter_8 {post : Option Value → PH → Prop} {h : PH} {x1 s0 : Int32} (k1 : ¬ s0 = 0 → G 1 mX5_letter post 15 [some (.ref 15), some (.int x1)] [] h) (k2 : s0 = 0 → G 1 mX5_letter post 11 [none, none] [] h) : G 1 mX5_letter post 8 [some (.ref 15), some (.int x1)] [.int s0] h := by
  exact g_if_ne (tgt := 15) dX5_letter_8 (by decide) (fun hc => k1 hc) (fun hc => by refine g_forget (mask := [false, false]) (L' := [none, none]) rfl ?_; exact k2 hc)
theorem sX5_letter_15 {post : Option Value → PH → Prop} {h : PH} {x1 : Int32} (k1 : ¬ (h.1 15 0) = 21 → G 1 mX5_letter post 28 [some (.ref 15), some (.int x1)] [] h) (k2 : (h.1 15 0) = 21 → G 1 mX5_letter post 24 [none, none] [] h) : G 1 mX5_letter post 15 [some (.ref 15), some (.int x1)] [] h := by
  refine g_aload_n dX5_letter_15 rfl ?_
  refine g_getfield (kd := 0) (v := .int (h.1 15 0)) dX5_letter_16 fX5_45 (by decide) rfl rfl rfl rfl ?_
  refine g_bipush (v := 21) dX5_letter_19 rfl ?_
  exact g_icmp_ne (tgt := 28) dX5_letter_21 (by decide) (fun hc => k1 hc) (fun hc => by refine g_forget (mask := [false, false]) (L' := [none, none]) rfl ?_; exact k2 hc)
theorem sX5_letter_11 {post : Option Value → PH → Prop} {h : PH} (k : post (some (.int (-1003))) h) : G 1 mX5_letter post 11 [none, none] [] h := by
  refine g_sipush (v := (-1003)) dX5_letter_11 rfl ?_
  exact g_ireturn (ty := .int) dX5_letter_14 rfl rfl k
theorem sX5_letter_28 {post : Option Value → PH → Prop} {h : PH} {x1 : Int32} (hb1 : vp_in (h.1 15 0) 21) (k : post (some (.int (((h.1 15 0) + 1)))) ((upd2 (upd2 h.1 16 (Int32.toNatClampNeg (h.1 15 0)) x1) 15 0 ((h.1 15 0) + 1)), h.2)) : G 1 mX5_letter post 28 [some (.ref 15), some (.int x1)] [] h := by
  refine g_aload_n dX5_letter_28 rfl ?_
  refine g_getfield (kd := 18) (v := .ref 16) dX5_letter_29 fX5_7 (by decide) rfl rfl rfl rfl ?_
  refine g_aload_n dX5_letter_32 rfl ?_
  refine g_getfield (kd := 0) (v := .int (h.1 15 0)) dX5_letter_33 fX5_45 (by decide) rfl rfl rfl rfl ?_
  refine g_iload_n dX5_letter_36 rfl ?_
  refine g_iastore (n := 21) dX5_letter_37 (by decide) rfl rfl rfl hb1 ?_
  refine g_aload_n dX5_letter_38 rfl ?_
  refine g_dup dX5_letter_39 rfl ?_
  refine g_getfield (kd := 0) (v := .int (h.1 15 0)) dX5_letter_40 fX5_45 (by decide) rfl rfl rfl rfl ?_
  refine g_iconst (v := 1) dX5_letter_43 rfl ?_
  refine g_iadd dX5_letter_44 ?_
  refine g_putfield dX5_letter_45 fX5_45 (by decide) rfl rfl rfl rfl rfl ?_
  refine g_aload_n dX5_letter_48 rfl ?_
  refine g_getfield (kd := 0) (v := .int (((h.1 15 0) + 1))) dX5_letter_49 fX5_45 (by decide) rfl rfl rfl rfl ?_
  exact g_ireturn (ty := .int) dX5_letter_52 rfl rfl k
theorem sX5_letter_24 {post : Option Value → PH → Prop} {h : PH} (k : post (some (.int (-1005))) h) : G 1 mX5_letter post 24 [none, none] [] h := by
  refine g_sipush (v := (-1005)) dX5_letter_24 rfl ?_
  exact g_ireturn (ty := .int) dX5_letter_27 rfl rfl k
theorem sX5_blank_0 {post : Option Value → PH → Prop} {h : PH} (k : post (some (.int (h.1 15 0))) ((upd2 h.1 15 0 0), h.2)) : G 0 mX5_blank post 0 [some (.ref 15), none] [] h := by
  refine g_aload_n dX5_blank_0 rfl ?_
  refine g_getfield (kd := 0) (v := .int (h.1 15 0)) dX5_blank_1 fX5_45 (by decide) rfl rfl rfl rfl ?_
  refine g_istore_n (L' := [some (.ref 15), some (.int (h.1 15 0))]) dX5_blank_4 rfl (by decide) rfl ?_
  refine g_aload_n dX5_blank_5 rfl ?_
  refine g_iconst (v := 0) dX5_blank_6 rfl ?_
  refine g_putfield dX5_blank_7 fX5_45 (by decide) rfl rfl rfl rfl rfl ?_
  refine g_iload_n dX5_blank_10 rfl ?_
  exact g_ireturn (ty := .int) dX5_blank_11 rfl rfl k
theorem sX5_isRight_0 {post : Option Value → PH → Prop} {h : PH} {x1 : Int32} (hb1 : vp_in x1 21) (k1 : ¬ x1 = 0 → G 1 mX5_isRight post 20 [none, some (.int x1), some (.int (h.1 16 (Int32.toNatClampNeg x1)))] [] h) (k2 : x1 = 0 → G 1 mX5_isRight post 11 [none, none, some (.int (h.1 16 (Int32.toNatClampNeg x1)))] [] h) : G 1 mX5_isRight post 0 [some (.ref 15), some (.int x1), none] [] h := by
  refine g_aload_n dX5_isRight_0 rfl ?_
  refine g_getfield (kd := 18) (v := .ref 16) dX5_isRight_1 fX5_7 (by decide) rfl rfl rfl rfl ?_
  refine g_iload_n dX5_isRight_4 rfl ?_
  refine g_iaload (n := 21) dX5_isRight_5 (by decide) rfl rfl rfl hb1 ?_
  refine g_istore_n (L' := [some (.ref 15), some (.int x1), some (.int (h.1 16 (Int32.toNatClampNeg x1)))]) dX5_isRight_6 rfl (by decide) rfl ?_
  refine g_iload_n dX5_isRight_7 rfl ?_
  exact g_if_ne (tgt := 20) dX5_isRight_8 (by decide) (fun hc => by refine g_forget (mask := [false, true, true]) (L' := [none, some (.int x1), some (.int (h.1 16 (Int32.toNatClampNeg x1)))]) rfl ?_; exact k1 hc) (fun hc => by refine g_forget (mask := [false, false, true]) (L' := [none, none, some (.int (h.1 16 (Int32.toNatClampNeg x1)))]) rfl ?_; exact k2 hc)
theorem sX5_isRight_20 {post : Option Value → PH → Prop} {h : PH} {x1 x2 : Int32} (kd : (Int32.toInt (x1 - x1 / 4 * 4)) < 1 ∨ 3 < (Int32.toInt (x1 - x1 / 4 * 4)) → G 1 mX5_isRight post 81 [none, none, some (.int x2)] [] h) (k0 : (Int32.toInt (x1 - x1 / 4 * 4)) = 1 → G 1 mX5_isRight post 48 [none, none, some (.int x2)] [] h) (k1 : (Int32.toInt (x1 - x1 / 4 * 4)) = 2 → G 1 mX5_isRight post 60 [none, none, some (.int x2)] [] h) (k2 : (Int32.toInt (x1 - x1 / 4 * 4)) = 3 → G 1 mX5_isRight post 69 [none, none, some (.int x2)] [] h) : G 1 mX5_isRight post 20 [none, some (.int x1), some (.int x2)] [] h := by
  refine g_iload_n dX5_isRight_20 rfl ?_
  refine g_iconst (v := 4) dX5_isRight_21 rfl ?_
  refine g_irem dX5_isRight_22 (by decide) ?_
  by_cases hc : (Int32.toInt (x1 - x1 / 4 * 4)) < 1 ∨ 3 < (Int32.toInt (x1 - x1 / 4 * 4))
  · exact g_tableOut (tgt := 81) dX5_isRight_23 hc (by decide) (by refine g_forget (mask := [true, false, true]) (L' := [none, none, some (.int x2)]) rfl ?_; exact kd hc)
  rcases (show (Int32.toInt (x1 - x1 / 4 * 4)) = 1 ∨ (Int32.toInt (x1 - x1 / 4 * 4)) = 2 ∨ (Int32.toInt (x1 - x1 / 4 * 4)) = 3 by omega) with hv | hv | hv
  · exact g_tableIn (tgt := 48) dX5_isRight_23 (by omega) (by omega) (by rw [hv]; rfl) (by decide) (by refine g_forget (mask := [true, false, true]) (L' := [none, none, some (.int x2)]) rfl ?_; exact k0 hv)
  · exact g_tableIn (tgt := 60) dX5_isRight_23 (by omega) (by omega) (by rw [hv]; rfl) (by decide) (by refine g_forget (mask := [true, false, true]) (L' := [none, none, some (.int x2)]) rfl ?_; exact k1 hv)
  · exact g_tableIn (tgt := 69) dX5_isRight_23 (by omega) (by omega) (by rw [hv]; rfl) (by decide) (by refine g_forget (mask := [true, false, true]) (L' := [none, none, some (.int x2)]) rfl ?_; exact k2 hv)
theorem sX5_isRight_11 {post : Option Value → PH → Prop} {h : PH} {x2 : Int32} (k : Ev 0 mX5_within [.int x2, .int 49, .int 52] h (fun r h' => G 1 mX5_isRight post 19 [none, none, none] (r.toList ++ []) h')) : G 1 mX5_isRight post 11 [none, none, some (.int x2)] [] h := by
  refine g_iload_n dX5_isRight_11 rfl ?_
  refine g_bipush (v := 49) dX5_isRight_12 rfl ?_
  refine g_bipush (v := 52) dX5_isRight_14 rfl ?_
  refine g_forget (mask := [true, true, false]) (L' := [none, none, none]) rfl ?_
  exact g_callS (n := 3) (as := [.int x2, .int 49, .int 52]) (rest := []) dX5_isRight_16 kX5_within lX5_41 rfl rfl (by simp only [List.map, Value.category]; decide) (by decide) k
theorem sX5_isRight_81 {post : Option Value → PH → Prop} {h : PH} {x2 : Int32} (k : Ev 0 mX5_within [.int x2, .int 48, .int 57] h (fun r h' => G 1 mX5_isRight post 89 [none, none, none] (r.toList ++ []) h')) : G 1 mX5_isRight post 81 [none, none, some (.int x2)] [] h := by
  refine g_iload_n dX5_isRight_81 rfl ?_
  refine g_bipush (v := 48) dX5_isRight_82 rfl ?_
  refine g_bipush (v := 57) dX5_isRight_84 rfl ?_
  refine g_forget (mask := [true, true, false]) (L' := [none, none, none]) rfl ?_
  exact g_callS (n := 3) (as := [.int x2, .int 48, .int 57]) (rest := []) dX5_isRight_86 kX5_within lX5_41 rfl rfl (by simp only [List.map, Value.category]; decide) (by decide) k
theorem sX5_isRight_48 {post : Option Value → PH → Prop} {h : PH} {x2 : Int32} (k1 : ¬ x2 = 59 → G 1 mX5_isRight post 58 [none, none, none] [] h) (k2 : x2 = 59 → G 1 mX5_isRight post 54 [none, none, none] [] h) : G 1 mX5_isRight post 48 [none, none, some (.int x2)] [] h := by
  refine g_iload_n dX5_isRight_48 rfl ?_
  refine g_bipush (v := 59) dX5_isRight_49 rfl ?_
  exact g_icmp_ne (tgt := 58) dX5_isRight_51 (by decide) (fun hc => by refine g_forget (mask := [true, true, false]) (L' := [none, none, none]) rfl ?_; exact k1 hc) (fun hc => by refine g_forget (mask := [true, true, false]) (L' := [none, none, none]) rfl ?_; exact k2 hc)
theorem sX5_isRight_60 {post : Option Value → PH → Prop} {h : PH} {x2 : Int32} (k : Ev 0 mX5_within [.int x2, .int 49, .int 57] h (fun r h' => G 1 mX5_isRight post 68 [none, none, none] (r.toList ++ []) h')) : G 1 mX5_isRight post 60 [none, none, some (.int x2)] [] h := by
  refine g_iload_n dX5_isRight_60 rfl ?_
  refine g_bipush (v := 49) dX5_isRight_61 rfl ?_
  refine g_bipush (v := 57) dX5_isRight_63 rfl ?_
  refine g_forget (mask := [true, true, false]) (L' := [none, none, none]) rfl ?_
  exact g_callS (n := 3) (as := [.int x2, .int 49, .int 57]) (rest := []) dX5_isRight_65 kX5_within lX5_41 rfl rfl (by simp only [List.map, Value.category]; decide) (by decide) k
theorem sX5_isRight_69 {post : Option Value → PH → Prop} {h : PH} {x2 : Int32} (k1 : ¬ x2 = 44 → G 1 mX5_isRight post 79 [none, none, none] [] h) (k2 : x2 = 44 → G 1 mX5_isRight post 75 [none, none, none] [] h) : G 1 mX5_isRight post 69 [none, none, some (.int x2)] [] h := by
  refine g_iload_n dX5_isRight_69 rfl ?_
  refine g_bipush (v := 44) dX5_isRight_70 rfl ?_
  exact g_icmp_ne (tgt := 79) dX5_isRight_72 (by decide) (fun hc => by refine g_forget (mask := [true, true, false]) (L' := [none, none, none]) rfl ?_; exact k1 hc) (fun hc => by refine g_forget (mask := [true, true, false]) (L' := [none, none, none]) rfl ?_; exact k2 hc)
theorem sX5_isRight_19 {post : Option Value → PH → Prop} {h : PH} {s0 : Int32} (hb1 : narrow .boolean (.int s0) = .int s0) (k : post (some (.int s0)) h) : G 1 mX5_isRight post 19 [none, none, none] [.int s0] h := by
  exact g_ireturn (ty := .boolean) dX5_isRight_19 rfl hb1 k
theorem sX5_isRight_89 {post : Option Value → PH → Prop} {h : PH} {s0 : Int32} (hb1 : narrow .boolean (.int s0) = .int s0) (k : post (some (.int s0)) h) : G 1 mX5_isRight post 89 [none, none, none] [.int s0] h := by
  exact g_ireturn (ty := .boolean) dX5_isRight_89 rfl hb1 k
theorem sX5_isRight_58 {post : Option Value → PH → Prop} {h : PH} (k : post (some (.int 0)) h) : G 1 mX5_isRight post 58 [none, none, none] [] h := by
  refine g_iconst (v := 0) dX5_isRight_58 rfl ?_
  exact g_ireturn (ty := .boolean) dX5_isRight_59 rfl rfl k
theorem sX5_isRight_54 {post : Option Value → PH → Prop} {h : PH} (k : post (some (.int 1)) h) : G 1 mX5_isRight post 54 [none, none, none] [] h := by
  refine g_iconst (v := 1) dX5_isRight_54 rfl ?_
  refine g_goto (tgt := 59) dX5_isRight_55 (by decide) ?_
  exact g_ireturn (ty := .boolean) dX5_isRight_59 rfl rfl k
theorem sX5_isRight_68 {post : Option Value → PH → Prop} {h : PH} {s0 : Int32} (hb1 : narrow .boolean (.int s0) = .int s0) (k : post (some (.int s0)) h) : G 1 mX5_isRight post 68 [none, none, none] [.int s0] h := by
  exact g_ireturn (ty := .boolean) dX5_isRight_68 rfl hb1 k
theorem sX5_isRight_79 {post : Option Value → PH → Prop} {h : PH} (k : post (some (.int 0)) h) : G 1 mX5_isRight post 79 [none, none, none] [] h := by
  refine g_iconst (v := 0) dX5_isRight_79 rfl ?_
  exact g_ireturn (ty := .boolean) dX5_isRight_80 rfl rfl k
theorem sX5_isRight_75 {post : Option Value → PH → Prop} {h : PH} (k : post (some (.int 1)) h) : G 1 mX5_isRight post 75 [none, none, none] [] h := by
  refine g_iconst (v := 1) dX5_isRight_75 rfl ?_
  refine g_goto (tgt := 80) dX5_isRight_76 (by decide) ?_
  exact g_ireturn (ty := .boolean) dX5_isRight_80 rfl rfl k
theorem sX5_rightLetters_0 {post : Option Value → PH → Prop} {h : PH} (k : G 2 mX5_rightLetters post 2 [some (.ref 15), some (.int 0)] [] h) : G 2 mX5_rightLetters post 0 [some (.ref 15), none] [] h := by
  refine g_iconst (v := 0) dX5_rightLetters_0 rfl ?_
  refine g_istore_n (L' := [some (.ref 15), some (.int 0)]) dX5_rightLetters_1 rfl (by decide) rfl ?_
  exact k
theorem sX5_rightLetters_2 {post : Option Value → PH → Prop} {h : PH} {x1 : Int32} (k1 : (h.1 15 0) ≤ x1 → G 2 mX5_rightLetters post 24 [none, some (.int x1)] [] h) (k2 : ¬ (h.1 15 0) ≤ x1 → G 2 mX5_rightLetters post 10 [some (.ref 15), some (.int x1)] [] h) : G 2 mX5_rightLetters post 2 [some (.ref 15), some (.int x1)] [] h := by
  refine g_iload_n dX5_rightLetters_2 rfl ?_
  refine g_aload_n dX5_rightLetters_3 rfl ?_
  refine g_getfield (kd := 0) (v := .int (h.1 15 0)) dX5_rightLetters_4 fX5_45 (by decide) rfl rfl rfl rfl ?_
  exact g_icmp_ge (tgt := 24) dX5_rightLetters_7 (by decide) (fun hc => by refine g_forget (mask := [false, true]) (L' := [none, some (.int x1)]) rfl ?_; exact k1 hc) (fun hc => k2 hc)
theorem sX5_rightLetters_24 {post : Option Value → PH → Prop} {h : PH} {x1 : Int32} (k : post (some (.int x1)) h) : G 2 mX5_rightLetters post 24 [none, some (.int x1)] [] h := by
  refine g_iload_n dX5_rightLetters_24 rfl ?_
  exact g_ireturn (ty := .int) dX5_rightLetters_25 rfl rfl k
theorem sX5_rightLetters_10 {post : Option Value → PH → Prop} {h : PH} {x1 : Int32} (k : Ev 1 mX5_isRight [.ref 15, .int x1] h (fun r h' => G 2 mX5_rightLetters post 15 [some (.ref 15), some (.int x1)] (r.toList ++ []) h')) : G 2 mX5_rightLetters post 10 [some (.ref 15), some (.int x1)] [] h := by
  refine g_aload_n dX5_rightLetters_10 rfl ?_
  refine g_iload_n dX5_rightLetters_11 rfl ?_
  exact g_callV (n := 1) (b := 15) (as := [.int x1]) (rest := []) dX5_rightLetters_12 kX5_isRight lX5_49 (by decide) rfl ⟨_, _, rfl⟩ rfl rfl (by simp only [List.map, Value.category]; decide) (by decide) k
theorem sX5_rightLetters_15 {post : Option Value → PH → Prop} {h : PH} {x1 s0 : Int32} (k1 : s0 = 0 → G 2 mX5_rightLetters post 24 [none, some (.int x1)] [] h) (k2 : ¬ s0 = 0 → G 2 mX5_rightLetters post 18 [some (.ref 15), some (.int x1)] [] h) : G 2 mX5_rightLetters post 15 [some (.ref 15), some (.int x1)] [.int s0] h := by
  exact g_if_eq (tgt := 24) dX5_rightLetters_15 (by decide) (fun hc => by refine g_forget (mask := [false, true]) (L' := [none, some (.int x1)]) rfl ?_; exact k1 hc) (fun hc => k2 hc)
theorem sX5_rightLetters_18 {post : Option Value → PH → Prop} {h : PH} {x1 : Int32} (k : G 2 mX5_rightLetters post 2 [some (.ref 15), some (.int (x1 + 1))] [] h) : G 2 mX5_rightLetters post 18 [some (.ref 15), some (.int x1)] [] h := by
  refine g_iinc (v := (x1 + 1)) (L' := [some (.ref 15), some (.int (x1 + 1))]) dX5_rightLetters_18 rfl rfl rfl (by decide) rfl ?_
  refine g_goto (tgt := 2) dX5_rightLetters_21 (by decide) ?_
  exact k
theorem sX5_fault_0 {post : Option Value → PH → Prop} {h : PH} (k : Ev 2 mX5_rightLetters [.ref 15] h (fun r h' => G 3 mX5_fault post 4 [none] (r.toList ++ []) h')) : G 3 mX5_fault post 0 [some (.ref 15)] [] h := by
  refine g_aload_n dX5_fault_0 rfl ?_
  refine g_forget (mask := [false]) (L' := [none]) rfl ?_
  exact g_callV (n := 0) (b := 15) (as := []) (rest := []) dX5_fault_1 kX5_rightLetters lX5_53 (by decide) rfl ⟨_, _, rfl⟩ rfl rfl (by simp only [List.map, Value.category]; decide) (by decide) k
theorem sX5_fault_4 {post : Option Value → PH → Prop} {h : PH} {s0 : Int32} (k : post (some (.int s0)) h) : G 3 mX5_fault post 4 [none] [.int s0] h := by
  exact g_ireturn (ty := .int) dX5_fault_4 rfl rfl k
theorem sX5_field_0 {post : Option Value → PH → Prop} {h : PH} (k1 : (h.1 15 0) < 5 → G 3 mX5_field post 29 [none, none] [] h) (k2 : ¬ (h.1 15 0) < 5 → G 3 mX5_field post 8 [some (.ref 15), none] [] h) : G 3 mX5_field post 0 [some (.ref 15), none] [] h := by
  refine g_aload_n dX5_field_0 rfl ?_
  refine g_getfield (kd := 0) (v := .int (h.1 15 0)) dX5_field_1 fX5_45 (by decide) rfl rfl rfl rfl ?_
  refine g_iconst (v := 5) dX5_field_4 rfl ?_
  exact g_icmp_lt (tgt := 29) dX5_field_5 (by decide) (fun hc => by refine g_forget (mask := [false, true]) (L' := [none, none]) rfl ?_; exact k1 hc) (fun hc => k2 hc)
theorem sX5_field_29 {post : Option Value → PH → Prop} {h : PH} (k : post (some (.int (-1004))) h) : G 3 mX5_field post 29 [none, none] [] h := by
  refine g_sipush (v := (-1004)) dX5_field_29 rfl ?_
  exact g_ireturn (ty := .int) dX5_field_32 rfl rfl k
theorem sX5_field_8 {post : Option Value → PH → Prop} {h : PH} (k1 : ¬ ((h.1 15 0) - (h.1 15 0) / 4 * 4) = 1 → G 3 mX5_field post 29 [none, none] [] h) (k2 : ((h.1 15 0) - (h.1 15 0) / 4 * 4) = 1 → G 3 mX5_field post 18 [some (.ref 15), none] [] h) : G 3 mX5_field post 8 [some (.ref 15), none] [] h := by
  refine g_aload_n dX5_field_8 rfl ?_
  refine g_getfield (kd := 0) (v := .int (h.1 15 0)) dX5_field_9 fX5_45 (by decide) rfl rfl rfl rfl ?_
  refine g_iconst (v := 4) dX5_field_12 rfl ?_
  refine g_irem dX5_field_13 (by decide) ?_
  refine g_iconst (v := 1) dX5_field_14 rfl ?_
  exact g_icmp_ne (tgt := 29) dX5_field_15 (by decide) (fun hc => by refine g_forget (mask := [false, true]) (L' := [none, none]) rfl ?_; exact k1 hc) (fun hc => k2 hc)
theorem sX5_field_18 {post : Option Value → PH → Prop} {h : PH} (k : Ev 2 mX5_rightLetters [.ref 15] h (fun r h' => G 3 mX5_field post 22 [some (.ref 15), none] (r.toList ++ []) h')) : G 3 mX5_field post 18 [some (.ref 15), none] [] h := by
  refine g_aload_n dX5_field_18 rfl ?_
  exact g_callV (n := 0) (b := 15) (as := []) (rest := []) dX5_field_19 kX5_rightLetters lX5_53 (by decide) rfl ⟨_, _, rfl⟩ rfl rfl (by simp only [List.map, Value.category]; decide) (by decide) k
theorem sX5_field_22 {post : Option Value → PH → Prop} {h : PH} {s0 : Int32} (k1 : (h.1 15 0) ≤ s0 → G 3 mX5_field post 33 [some (.ref 15), none] [] h) (k2 : ¬ (h.1 15 0) ≤ s0 → G 3 mX5_field post 29 [none, none] [] h) : G 3 mX5_field post 22 [some (.ref 15), none] [.int s0] h := by
  refine g_aload_n dX5_field_22 rfl ?_
  refine g_getfield (kd := 0) (v := .int (h.1 15 0)) dX5_field_23 fX5_45 (by decide) rfl rfl rfl rfl ?_
  exact g_icmp_ge (tgt := 33) dX5_field_26 (by decide) (fun hc => k1 hc) (fun hc => by refine g_forget (mask := [false, true]) (L' := [none, none]) rfl ?_; exact k2 hc)
theorem sX5_field_33 {post : Option Value → PH → Prop} {h : PH} (hb1 : vp_in 0 21) (k : G 3 mX5_field post 58 [some (.ref 15), some (.int 0)] [] ((upd2 (upd2 h.1 15 3 ((h.1 16 (Int32.toNatClampNeg 0)) - 48)) 15 2 ((h.1 15 0) / 4)), h.2)) : G 3 mX5_field post 33 [some (.ref 15), none] [] h := by
  refine g_aload_n dX5_field_33 rfl ?_
  refine g_aload_n dX5_field_34 rfl ?_
  refine g_getfield (kd := 18) (v := .ref 16) dX5_field_35 fX5_7 (by decide) rfl rfl rfl rfl ?_
  refine g_iconst (v := 0) dX5_field_38 rfl ?_
  refine g_iaload (n := 21) dX5_field_39 (by decide) rfl rfl rfl hb1 ?_
  refine g_bipush (v := 48) dX5_field_40 rfl ?_
  refine g_isub dX5_field_42 ?_
  refine g_putfield dX5_field_43 fX5_57 (by decide) rfl rfl rfl rfl rfl ?_
  refine g_aload_n dX5_field_46 rfl ?_
  refine g_aload_n dX5_field_47 rfl ?_
  refine g_getfield (kd := 0) (v := .int (h.1 15 0)) dX5_field_48 fX5_45 (by decide) rfl rfl rfl rfl ?_
  refine g_iconst (v := 4) dX5_field_51 rfl ?_
  refine g_idiv dX5_field_52 (by decide) ?_
  refine g_putfield dX5_field_53 fX5_60 (by decide) rfl rfl rfl rfl rfl ?_
  refine g_iconst (v := 0) dX5_field_56 rfl ?_
  refine g_istore_n (L' := [some (.ref 15), some (.int 0)]) dX5_field_57 rfl (by decide) rfl ?_
  exact k
theorem sX5_field_58 {post : Option Value → PH → Prop} {h : PH} {x1 : Int32} (k1 : 5 ≤ x1 → G 3 mX5_field post 138 [some (.ref 15), none] [] h) (k2 : ¬ 5 ≤ x1 → G 3 mX5_field post 63 [some (.ref 15), some (.int x1)] [] h) : G 3 mX5_field post 58 [some (.ref 15), some (.int x1)] [] h := by
  refine g_iload_n dX5_field_58 rfl ?_
  refine g_iconst (v := 5) dX5_field_59 rfl ?_
  exact g_icmp_ge (tgt := 138) dX5_field_60 (by decide) (fun hc => by refine g_forget (mask := [true, false]) (L' := [some (.ref 15), none]) rfl ?_; exact k1 hc) (fun hc => k2 hc)
theorem sX5_field_138 {post : Option Value → PH → Prop} {h : PH} (k : G 3 mX5_field post 140 [some (.ref 15), some (.int 0)] [] h) : G 3 mX5_field post 138 [some (.ref 15), none] [] h := by
  refine g_iconst (v := 0) dX5_field_138 rfl ?_
  refine g_istore_n (L' := [some (.ref 15), some (.int 0)]) dX5_field_139 rfl (by decide) rfl ?_
  exact k
theorem sX5_field_63 {post : Option Value → PH → Prop} {h : PH} {x1 : Int32} (k1 : (h.1 15 2) ≤ x1 → G 3 mX5_field post 92 [some (.ref 15), some (.int x1)] [.int x1, .ref 17] h) (k2 : ¬ (h.1 15 2) ≤ x1 → G 3 mX5_field post 76 [some (.ref 15), some (.int x1)] [.int x1, .ref 17] h) : G 3 mX5_field post 63 [some (.ref 15), some (.int x1)] [] h := by
  refine g_aload_n dX5_field_63 rfl ?_
  refine g_getfield (kd := 19) (v := .ref 17) dX5_field_64 fX5_13 (by decide) rfl rfl rfl rfl ?_
  refine g_iload_n dX5_field_67 rfl ?_
  refine g_iload_n dX5_field_68 rfl ?_
  refine g_aload_n dX5_field_69 rfl ?_
  refine g_getfield (kd := 0) (v := .int (h.1 15 2)) dX5_field_70 fX5_60 (by decide) rfl rfl rfl rfl ?_
  exact g_icmp_ge (tgt := 92) dX5_field_73 (by decide) (fun hc => k1 hc) (fun hc => k2 hc)
theorem sX5_field_140 {post : Option Value → PH → Prop} {h : PH} {x1 : Int32} (k1 : 4 ≤ x1 → G 3 mX5_field post 159 [some (.ref 15), none] [] h) (k2 : ¬ 4 ≤ x1 → G 3 mX5_field post 145 [some (.ref 15), some (.int x1)] [] h) : G 3 mX5_field post 140 [some (.ref 15), some (.int x1)] [] h := by
  refine g_iload_n dX5_field_140 rfl ?_
  refine g_iconst (v := 4) dX5_field_141 rfl ?_
  exact g_icmp_ge (tgt := 159) dX5_field_142 (by decide) (fun hc => by refine g_forget (mask := [true, false]) (L' := [some (.ref 15), none]) rfl ?_; exact k1 hc) (fun hc => k2 hc)
theorem sX5_field_92 {post : Option Value → PH → Prop} {h : PH} {x1 s0 : Int32} (hb1 : vp_in s0 5) (k1 : (h.1 15 2) ≤ x1 → G 3 mX5_field post 123 [some (.ref 15), some (.int x1)] [.int x1, .ref 18] ((upd2 h.1 17 (Int32.toNatClampNeg s0) 0), h.2)) (k2 : ¬ (h.1 15 2) ≤ x1 → G 3 mX5_field post 107 [some (.ref 15), some (.int x1)] [.int x1, .ref 18] ((upd2 h.1 17 (Int32.toNatClampNeg s0) 0), h.2)) : G 3 mX5_field post 92 [some (.ref 15), some (.int x1)] [.int s0, .ref 17] h := by
  refine g_iconst (v := 0) dX5_field_92 rfl ?_
  refine g_iastore (n := 5) dX5_field_93 (by decide) rfl rfl rfl hb1 ?_
  refine g_aload_n dX5_field_94 rfl ?_
  refine g_getfield (kd := 20) (v := .ref 18) dX5_field_95 fX5_16 (by decide) rfl rfl rfl rfl ?_
  refine g_iload_n dX5_field_98 rfl ?_
  refine g_iload_n dX5_field_99 rfl ?_
  refine g_aload_n dX5_field_100 rfl ?_
  refine g_getfield (kd := 0) (v := .int (h.1 15 2)) dX5_field_101 fX5_60 (by decide) rfl rfl rfl rfl ?_
  exact g_icmp_ge (tgt := 123) dX5_field_104 (by decide) (fun hc => k1 hc) (fun hc => k2 hc)
theorem sX5_field_76 {post : Option Value → PH → Prop} {h : PH} {x1 s0 : Int32} (hb1 : vp_in ((4 * x1) + 2) 21) (hb2 : vp_in s0 5) (k1 : (h.1 15 2) ≤ x1 → G 3 mX5_field post 123 [some (.ref 15), some (.int x1)] [.int x1, .ref 18] ((upd2 h.1 17 (Int32.toNatClampNeg s0) ((h.1 16 (Int32.toNatClampNeg ((4 * x1) + 2))) - 48)), h.2)) (k2 : ¬ (h.1 15 2) ≤ x1 → G 3 mX5_field post 107 [some (.ref 15), some (.int x1)] [.int x1, .ref 18] ((upd2 h.1 17 (Int32.toNatClampNeg s0) ((h.1 16 (Int32.toNatClampNeg ((4 * x1) + 2))) - 48)), h.2)) : G 3 mX5_field post 76 [some (.ref 15), some (.int x1)] [.int s0, .ref 17] h := by
  refine g_aload_n dX5_field_76 rfl ?_
  refine g_getfield (kd := 18) (v := .ref 16) dX5_field_77 fX5_7 (by decide) rfl rfl rfl rfl ?_
  refine g_iconst (v := 4) dX5_field_80 rfl ?_
  refine g_iload_n dX5_field_81 rfl ?_
  refine g_imul dX5_field_82 ?_
  refine g_iconst (v := 2) dX5_field_83 rfl ?_
  refine g_iadd dX5_field_84 ?_
  refine g_iaload (n := 21) dX5_field_85 (by decide) rfl rfl rfl hb1 ?_
  refine g_bipush (v := 48) dX5_field_86 rfl ?_
  refine g_isub dX5_field_88 ?_
  refine g_goto (tgt := 93) dX5_field_89 (by decide) ?_
  refine g_iastore (n := 5) dX5_field_93 (by decide) rfl rfl rfl hb2 ?_
  refine g_aload_n dX5_field_94 rfl ?_
  refine g_getfield (kd := 20) (v := .ref 18) dX5_field_95 fX5_16 (by decide) rfl rfl rfl rfl ?_
  refine g_iload_n dX5_field_98 rfl ?_
  refine g_iload_n dX5_field_99 rfl ?_
  refine g_aload_n dX5_field_100 rfl ?_
  refine g_getfield (kd := 0) (v := .int (h.1 15 2)) dX5_field_101 fX5_60 (by decide) rfl rfl rfl rfl ?_
  exact g_icmp_ge (tgt := 123) dX5_field_104 (by decide) (fun hc => k1 hc) (fun hc => k2 hc)
theorem sX5_field_159 {post : Option Value → PH → Prop} {h : PH} (k : post (some (.int (h.1 15 2))) ((upd2 (upd2 (upd2 (upd2 h.1 15 8 0) 15 9 0) 15 10 ((h.1 15 10) + 1)) 15 0 0), h.2)) : G 3 mX5_field post 159 [some (.ref 15), none] [] h := by
  refine g_aload_n dX5_field_159 rfl ?_
  refine g_iconst (v := 0) dX5_field_160 rfl ?_
  refine g_putfield dX5_field_161 fX5_63 (by decide) rfl rfl rfl rfl rfl ?_
  refine g_aload_n dX5_field_164 rfl ?_
  refine g_iconst (v := 0) dX5_field_165 rfl ?_
  refine g_putfield dX5_field_166 fX5_66 (by decide) rfl rfl rfl rfl rfl ?_
  refine g_aload_n dX5_field_169 rfl ?_
  refine g_dup dX5_field_170 rfl ?_
  refine g_getfield (kd := 0) (v := .int (h.1 15 10)) dX5_field_171 fX5_69 (by decide) rfl rfl rfl rfl ?_
  refine g_iconst (v := 1) dX5_field_174 rfl ?_
  refine g_iadd dX5_field_175 ?_
  refine g_putfield dX5_field_176 fX5_69 (by decide) rfl rfl rfl rfl rfl ?_
  refine g_aload_n dX5_field_179 rfl ?_
  refine g_iconst (v := 0) dX5_field_180 rfl ?_
  refine g_putfield dX5_field_181 fX5_45 (by decide) rfl rfl rfl rfl rfl ?_
  refine g_aload_n dX5_field_184 rfl ?_
  refine g_getfield (kd := 0) (v := .int (h.1 15 2)) dX5_field_185 fX5_60 (by decide) rfl rfl rfl rfl ?_
  exact g_ireturn (ty := .int) dX5_field_188 rfl rfl k
theorem sX5_field_145 {post : Option Value → PH → Prop} {h : PH} {x1 : Int32} (hb1 : vp_in x1 4) (k : G 3 mX5_field post 140 [some (.ref 15), some (.int (x1 + 1))] [] ((upd2 h.1 20 (Int32.toNatClampNeg x1) 20), h.2)) : G 3 mX5_field post 145 [some (.ref 15), some (.int x1)] [] h := by
  refine g_aload_n dX5_field_145 rfl ?_
  refine g_getfield (kd := 22) (v := .ref 20) dX5_field_146 fX5_22 (by decide) rfl rfl rfl rfl ?_
  refine g_iload_n dX5_field_149 rfl ?_
  refine g_bipush (v := 20) dX5_field_150 rfl ?_
  refine g_iastore (n := 4) dX5_field_152 (by decide) rfl rfl rfl hb1 ?_
  refine g_iinc (v := (x1 + 1)) (L' := [some (.ref 15), some (.int (x1 + 1))]) dX5_field_153 rfl rfl rfl (by decide) rfl ?_
  refine g_goto (tgt := 140) dX5_field_156 (by decide) ?_
  exact k
theorem sX5_field_123 {post : Option Value → PH → Prop} {h : PH} {x1 s0 : Int32} (hb1 : vp_in s0 5) (hb2 : vp_in x1 5) (k : G 3 mX5_field post 58 [some (.ref 15), some (.int (x1 + 1))] [] ((upd2 (upd2 h.1 18 (Int32.toNatClampNeg s0) 0) 19 (Int32.toNatClampNeg x1) (-1)), h.2)) : G 3 mX5_field post 123 [some (.ref 15), some (.int x1)] [.int s0, .ref 18] h := by
  refine g_iconst (v := 0) dX5_field_123 rfl ?_
  refine g_iastore (n := 5) dX5_field_124 (by decide) rfl rfl rfl hb1 ?_
  refine g_aload_n dX5_field_125 rfl ?_
  refine g_getfield (kd := 21) (v := .ref 19) dX5_field_126 fX5_19 (by decide) rfl rfl rfl rfl ?_
  refine g_iload_n dX5_field_129 rfl ?_
  refine g_iconst (v := (-1)) dX5_field_130 rfl ?_
  refine g_iastore (n := 5) dX5_field_131 (by decide) rfl rfl rfl hb2 ?_
  refine g_iinc (v := (x1 + 1)) (L' := [some (.ref 15), some (.int (x1 + 1))]) dX5_field_132 rfl rfl rfl (by decide) rfl ?_
  refine g_goto (tgt := 58) dX5_field_135 (by decide) ?_
  exact k
theorem sX5_field_107 {post : Option Value → PH → Prop} {h : PH} {x1 s0 : Int32} (hb1 : vp_in ((4 * x1) + 4) 21) (hb2 : vp_in s0 5) (hb3 : vp_in x1 5) (k : G 3 mX5_field post 58 [some (.ref 15), some (.int (x1 + 1))] [] ((upd2 (upd2 h.1 18 (Int32.toNatClampNeg s0) ((h.1 16 (Int32.toNatClampNeg ((4 * x1) + 4))) - 48)) 19 (Int32.toNatClampNeg x1) (-1)), h.2)) : G 3 mX5_field post 107 [some (.ref 15), some (.int x1)] [.int s0, .ref 18] h := by
  refine g_aload_n dX5_field_107 rfl ?_
  refine g_getfield (kd := 18) (v := .ref 16) dX5_field_108 fX5_7 (by decide) rfl rfl rfl rfl ?_
  refine g_iconst (v := 4) dX5_field_111 rfl ?_
  refine g_iload_n dX5_field_112 rfl ?_
  refine g_imul dX5_field_113 ?_
  refine g_iconst (v := 4) dX5_field_114 rfl ?_
  refine g_iadd dX5_field_115 ?_
  refine g_iaload (n := 21) dX5_field_116 (by decide) rfl rfl rfl hb1 ?_
  refine g_bipush (v := 48) dX5_field_117 rfl ?_
  refine g_isub dX5_field_119 ?_
  refine g_goto (tgt := 124) dX5_field_120 (by decide) ?_
  refine g_iastore (n := 5) dX5_field_124 (by decide) rfl rfl rfl hb2 ?_
  refine g_aload_n dX5_field_125 rfl ?_
  refine g_getfield (kd := 21) (v := .ref 19) dX5_field_126 fX5_19 (by decide) rfl rfl rfl rfl ?_
  refine g_iload_n dX5_field_129 rfl ?_
  refine g_iconst (v := (-1)) dX5_field_130 rfl ?_
  refine g_iastore (n := 5) dX5_field_131 (by decide) rfl rfl rfl hb3 ?_
  refine g_iinc (v := (x1 + 1)) (L' := [some (.ref 15), some (.int (x1 + 1))]) dX5_field_132 rfl rfl rfl (by decide) rfl ?_
  refine g_goto (tgt := 58) dX5_field_135 (by decide) ?_
  exact k
theorem sX5_isMirror_0 {post : Option Value → PH → Prop} {h : PH} {x1 : Int32} (k : Ev 0 mX5_within [.int x1, .int 0, .int ((h.1 15 2) - 1)] h (fun r h' => G 1 mX5_isMirror post 11 [none, none] (r.toList ++ []) h')) : G 1 mX5_isMirror post 0 [some (.ref 15), some (.int x1)] [] h := by
  refine g_iload_n dX5_isMirror_0 rfl ?_
  refine g_iconst (v := 0) dX5_isMirror_1 rfl ?_
  refine g_aload_n dX5_isMirror_2 rfl ?_
  refine g_getfield (kd := 0) (v := .int (h.1 15 2)) dX5_isMirror_3 fX5_60 (by decide) rfl rfl rfl rfl ?_
  refine g_iconst (v := 1) dX5_isMirror_6 rfl ?_
  refine g_isub dX5_isMirror_7 ?_
  refine g_forget (mask := [false, false]) (L' := [none, none]) rfl ?_
  exact g_callS (n := 3) (as := [.int x1, .int 0, .int ((h.1 15 2) - 1)]) (rest := []) dX5_isMirror_8 kX5_within lX5_41 rfl rfl (by simp only [List.map, Value.category]; decide) (by decide) k
theorem sX5_isMirror_11 {post : Option Value → PH → Prop} {h : PH} {s0 : Int32} (hb1 : narrow .boolean (.int s0) = .int s0) (k : post (some (.int s0)) h) : G 1 mX5_isMirror post 11 [none, none] [.int s0] h := by
  exact g_ireturn (ty := .boolean) dX5_isMirror_11 rfl hb1 k
theorem sX5_isPatch_0 {post : Option Value → PH → Prop} {h : PH} {x1 : Int32} (k : Ev 0 mX5_within [.int x1, .int 0, .int ((h.1 15 3) - 1)] h (fun r h' => G 1 mX5_isPatch post 11 [none, none] (r.toList ++ []) h')) : G 1 mX5_isPatch post 0 [some (.ref 15), some (.int x1)] [] h := by
  refine g_iload_n dX5_isPatch_0 rfl ?_
  refine g_iconst (v := 0) dX5_isPatch_1 rfl ?_
  refine g_aload_n dX5_isPatch_2 rfl ?_
  refine g_getfield (kd := 0) (v := .int (h.1 15 3)) dX5_isPatch_3 fX5_57 (by decide) rfl rfl rfl rfl ?_
  refine g_iconst (v := 1) dX5_isPatch_6 rfl ?_
  refine g_isub dX5_isPatch_7 ?_
  refine g_forget (mask := [false, false]) (L' := [none, none]) rfl ?_
  exact g_callS (n := 3) (as := [.int x1, .int 0, .int ((h.1 15 3) - 1)]) (rest := []) dX5_isPatch_8 kX5_within lX5_41 rfl rfl (by simp only [List.map, Value.category]; decide) (by decide) k
theorem sX5_isPatch_11 {post : Option Value → PH → Prop} {h : PH} {s0 : Int32} (hb1 : narrow .boolean (.int s0) = .int s0) (k : post (some (.int s0)) h) : G 1 mX5_isPatch post 11 [none, none] [.int s0] h := by
  exact g_ireturn (ty := .boolean) dX5_isPatch_11 rfl hb1 k
theorem sX5_gives_0 {post : Option Value → PH → Prop} {h : PH} {x1 x2 x3 : Int32} (k1 : ¬ x2 = (-1) → G 0 mX5_gives post 7 [some (.ref 15), some (.int x1), some (.int x2), some (.int x3), none] [] h) (k2 : x2 = (-1) → G 0 mX5_gives post 5 [none, none, none, none, none] [] h) : G 0 mX5_gives post 0 [some (.ref 15), some (.int x1), some (.int x2), some (.int x3), none] [] h := by
  refine g_iload_n dX5_gives_0 rfl ?_
  refine g_iconst (v := (-1)) dX5_gives_1 rfl ?_
  exact g_icmp_ne (tgt := 7) dX5_gives_2 (by decide) (fun hc => k1 hc) (fun hc => by refine g_forget (mask := [false, false, false, false, true]) (L' := [none, none, none, none, none]) rfl ?_; exact k2 hc)
theorem sX5_gives_7 {post : Option Value → PH → Prop} {h : PH} {x1 x2 x3 : Int32} (k1 : x3 ≤ x2 → G 0 mX5_gives post 18 [some (.ref 15), some (.int x1), some (.int x2), some (.int x3), none] [] h) (k2 : ¬ x3 ≤ x2 → G 0 mX5_gives post 12 [some (.ref 15), some (.int x1), some (.int x2), some (.int x3), none] [] h) : G 0 mX5_gives post 7 [some (.ref 15), some (.int x1), some (.int x2), some (.int x3), none] [] h := by
  refine g_iload_n dX5_gives_7 rfl ?_
  refine g_iload_n dX5_gives_8 rfl ?_
  exact g_icmp_ge (tgt := 18) dX5_gives_9 (by decide) (fun hc => k1 hc) (fun hc => k2 hc)
theorem sX5_gives_5 {post : Option Value → PH → Prop} {h : PH} (k : post (some (.int 0)) h) : G 0 mX5_gives post 5 [none, none, none, none, none] [] h := by
  refine g_iconst (v := 0) dX5_gives_5 rfl ?_
  exact g_ireturn (ty := .int) dX5_gives_6 rfl rfl k
theorem sX5_gives_18 {post : Option Value → PH → Prop} {h : PH} {x1 x2 x3 : Int32} (k1 : ¬ (x2 - x3) = 0 → G 0 mX5_gives post 37 [some (.ref 15), some (.int x1), none, none, some (.int (x2 - x3))] [] h) (k2 : (x2 - x3) = 0 → G 0 mX5_gives post 28 [some (.ref 15), some (.int x1), none, none, none] [] h) : G 0 mX5_gives post 18 [some (.ref 15), some (.int x1), some (.int x2), some (.int x3), none] [] h := by
  refine g_iload_n dX5_gives_18 rfl ?_
  refine g_iload_n dX5_gives_19 rfl ?_
  refine g_isub dX5_gives_20 ?_
  refine g_istore (L' := [some (.ref 15), some (.int x1), some (.int x2), some (.int x3), some (.int (x2 - x3))]) dX5_gives_21 rfl (by decide) rfl ?_
  refine g_iload dX5_gives_23 rfl ?_
  exact g_if_ne (tgt := 37) dX5_gives_25 (by decide) (fun hc => by refine g_forget (mask := [true, true, false, false, true]) (L' := [some (.ref 15), some (.int x1), none, none, some (.int (x2 - x3))]) rfl ?_; exact k1 hc) (fun hc => by refine g_forget (mask := [true, true, false, false, false]) (L' := [some (.ref 15), some (.int x1), none, none, none]) rfl ?_; exact k2 hc)
theorem sX5_gives_12 {post : Option Value → PH → Prop} {h : PH} {x1 x2 x3 : Int32} (k1 : ¬ (x3 - x2) = 0 → G 0 mX5_gives post 37 [some (.ref 15), some (.int x1), none, none, some (.int (x3 - x2))] [] h) (k2 : (x3 - x2) = 0 → G 0 mX5_gives post 28 [some (.ref 15), some (.int x1), none, none, none] [] h) : G 0 mX5_gives post 12 [some (.ref 15), some (.int x1), some (.int x2), some (.int x3), none] [] h := by
  refine g_iload_n dX5_gives_12 rfl ?_
  refine g_iload_n dX5_gives_13 rfl ?_
  refine g_isub dX5_gives_14 ?_
  refine g_goto (tgt := 21) dX5_gives_15 (by decide) ?_
  refine g_istore (L' := [some (.ref 15), some (.int x1), some (.int x2), some (.int x3), some (.int (x3 - x2))]) dX5_gives_21 rfl (by decide) rfl ?_
  refine g_iload dX5_gives_23 rfl ?_
  exact g_if_ne (tgt := 37) dX5_gives_25 (by decide) (fun hc => by refine g_forget (mask := [true, true, false, false, true]) (L' := [some (.ref 15), some (.int x1), none, none, some (.int (x3 - x2))]) rfl ?_; exact k1 hc) (fun hc => by refine g_forget (mask := [true, true, false, false, false]) (L' := [some (.ref 15), some (.int x1), none, none, none]) rfl ?_; exact k2 hc)
theorem sX5_gives_37 {post : Option Value → PH → Prop} {h : PH} {x1 x4 : Int32} (k1 : ¬ x4 = 1 → G 0 mX5_gives post 52 [none, none, none, none, none] [] h) (k2 : x4 = 1 → G 0 mX5_gives post 43 [some (.ref 15), some (.int x1), none, none, none] [] h) : G 0 mX5_gives post 37 [some (.ref 15), some (.int x1), none, none, some (.int x4)] [] h := by
  refine g_iload dX5_gives_37 rfl ?_
  refine g_iconst (v := 1) dX5_gives_39 rfl ?_
  exact g_icmp_ne (tgt := 52) dX5_gives_40 (by decide) (fun hc => by refine g_forget (mask := [false, false, true, true, false]) (L' := [none, none, none, none, none]) rfl ?_; exact k1 hc) (fun hc => by refine g_forget (mask := [true, true, true, true, false]) (L' := [some (.ref 15), some (.int x1), none, none, none]) rfl ?_; exact k2 hc)
theorem sX5_gives_28 {post : Option Value → PH → Prop} {h : PH} {x1 : Int32} (hb1 : vp_in x1 5) (k : post (some (.int (h.1 17 (Int32.toNatClampNeg x1)))) h) : G 0 mX5_gives post 28 [some (.ref 15), some (.int x1), none, none, none] [] h := by
  refine g_aload_n dX5_gives_28 rfl ?_
  refine g_getfield (kd := 19) (v := .ref 17) dX5_gives_29 fX5_13 (by decide) rfl rfl rfl rfl ?_
  refine g_iload_n dX5_gives_32 rfl ?_
  refine g_iaload (n := 5) dX5_gives_33 (by decide) rfl rfl rfl hb1 ?_
  refine g_goto (tgt := 53) dX5_gives_34 (by decide) ?_
  exact g_ireturn (ty := .int) dX5_gives_53 rfl rfl k
theorem sX5_gives_52 {post : Option Value → PH → Prop} {h : PH} (k : post (some (.int 0)) h) : G 0 mX5_gives post 52 [none, none, none, none, none] [] h := by
  refine g_iconst (v := 0) dX5_gives_52 rfl ?_
  exact g_ireturn (ty := .int) dX5_gives_53 rfl rfl k
theorem sX5_gives_43 {post : Option Value → PH → Prop} {h : PH} {x1 : Int32} (hb1 : vp_in x1 5) (k : post (some (.int (h.1 18 (Int32.toNatClampNeg x1)))) h) : G 0 mX5_gives post 43 [some (.ref 15), some (.int x1), none, none, none] [] h := by
  refine g_aload_n dX5_gives_43 rfl ?_
  refine g_getfield (kd := 20) (v := .ref 18) dX5_gives_44 fX5_16 (by decide) rfl rfl rfl rfl ?_
  refine g_iload_n dX5_gives_47 rfl ?_
  refine g_iaload (n := 5) dX5_gives_48 (by decide) rfl rfl rfl hb1 ?_
  refine g_goto (tgt := 53) dX5_gives_49 (by decide) ?_
  exact g_ireturn (ty := .int) dX5_gives_53 rfl rfl k
theorem sX5_givesAll_0 {post : Option Value → PH → Prop} {h : PH} {x1 x2 : Int32} (k : G 1 mX5_givesAll post 5 [some (.ref 15), some (.int x1), some (.int x2), some (.int 0), some (.int 0)] [] h) : G 1 mX5_givesAll post 0 [some (.ref 15), some (.int x1), some (.int x2), none, none] [] h := by
  refine g_iconst (v := 0) dX5_givesAll_0 rfl ?_
  refine g_istore_n (L' := [some (.ref 15), some (.int x1), some (.int x2), some (.int 0), none]) dX5_givesAll_1 rfl (by decide) rfl ?_
  refine g_iconst (v := 0) dX5_givesAll_2 rfl ?_
  refine g_istore (L' := [some (.ref 15), some (.int x1), some (.int x2), some (.int 0), some (.int 0)]) dX5_givesAll_3 rfl (by decide) rfl ?_
  exact k
theorem sX5_givesAll_5 {post : Option Value → PH → Prop} {h : PH} {x1 x2 x3 x4 : Int32} (k1 : (h.1 15 3) ≤ x4 → G 1 mX5_givesAll post 31 [none, none, none, some (.int x3), none] [] h) (k2 : ¬ (h.1 15 3) ≤ x4 → G 1 mX5_givesAll post 14 [some (.ref 15), some (.int x1), some (.int x2), some (.int x3), some (.int x4)] [] h) : G 1 mX5_givesAll post 5 [some (.ref 15), some (.int x1), some (.int x2), some (.int x3), some (.int x4)] [] h := by
  refine g_iload dX5_givesAll_5 rfl ?_
  refine g_aload_n dX5_givesAll_7 rfl ?_
  refine g_getfield (kd := 0) (v := .int (h.1 15 3)) dX5_givesAll_8 fX5_57 (by decide) rfl rfl rfl rfl ?_
  exact g_icmp_ge (tgt := 31) dX5_givesAll_11 (by decide) (fun hc => by refine g_forget (mask := [false, false, false, true, false]) (L' := [none, none, none, some (.int x3), none]) rfl ?_; exact k1 hc) (fun hc => k2 hc)
theorem sX5_givesAll_31 {post : Option Value → PH → Prop} {h : PH} {x3 : Int32} (k : post (some (.int x3)) h) : G 1 mX5_givesAll post 31 [none, none, none, some (.int x3), none] [] h := by
  refine g_iload_n dX5_givesAll_31 rfl ?_
  exact g_ireturn (ty := .int) dX5_givesAll_32 rfl rfl k
theorem sX5_givesAll_14 {post : Option Value → PH → Prop} {h : PH} {x1 x2 x3 x4 : Int32} (k : Ev 0 mX5_gives [.ref 15, .int x1, .int x2, .int x4] h (fun r h' => G 1 mX5_givesAll post 23 [some (.ref 15), some (.int x1), some (.int x2), none, some (.int x4)] (r.toList ++ [.int x3]) h')) : G 1 mX5_givesAll post 14 [some (.ref 15), some (.int x1), some (.int x2), some (.int x3), some (.int x4)] [] h := by
  refine g_iload_n dX5_givesAll_14 rfl ?_
  refine g_aload_n dX5_givesAll_15 rfl ?_
  refine g_iload_n dX5_givesAll_16 rfl ?_
  refine g_iload_n dX5_givesAll_17 rfl ?_
  refine g_iload dX5_givesAll_18 rfl ?_
  refine g_forget (mask := [true, true, true, false, true]) (L' := [some (.ref 15), some (.int x1), some (.int x2), none, some (.int x4)]) rfl ?_
  exact g_callV (n := 3) (b := 15) (as := [.int x1, .int x2, .int x4]) (rest := [.int x3]) dX5_givesAll_20 kX5_gives lX5_72 (by decide) rfl ⟨_, _, rfl⟩ rfl rfl (by simp only [List.map, Value.category]; decide) (by decide) k
theorem sX5_givesAll_23 {post : Option Value → PH → Prop} {h : PH} {x1 x2 x4 s0 s1 : Int32} (k : G 1 mX5_givesAll post 5 [some (.ref 15), some (.int x1), some (.int x2), some (.int (s1 + s0)), some (.int (x4 + 1))] [] h) : G 1 mX5_givesAll post 23 [some (.ref 15), some (.int x1), some (.int x2), none, some (.int x4)] [.int s0, .int s1] h := by
  refine g_iadd dX5_givesAll_23 ?_
  refine g_istore_n (L' := [some (.ref 15), some (.int x1), some (.int x2), some (.int (s1 + s0)), some (.int x4)]) dX5_givesAll_24 rfl (by decide) rfl ?_
  refine g_iinc (v := (x4 + 1)) (L' := [some (.ref 15), some (.int x1), some (.int x2), some (.int (s1 + s0)), some (.int (x4 + 1))]) dX5_givesAll_25 rfl rfl rfl (by decide) rfl ?_
  refine g_goto (tgt := 5) dX5_givesAll_28 (by decide) ?_
  exact k
theorem sX5_asTheyAre_0 {post : Option Value → PH → Prop} {h : PH} (k : G 0 mX5_asTheyAre post 2 [some (.ref 15), some (.int 0)] [] h) : G 0 mX5_asTheyAre post 0 [some (.ref 15), none] [] h := by
  refine g_iconst (v := 0) dX5_asTheyAre_0 rfl ?_
  refine g_istore_n (L' := [some (.ref 15), some (.int 0)]) dX5_asTheyAre_1 rfl (by decide) rfl ?_
  exact k
theorem sX5_asTheyAre_2 {post : Option Value → PH → Prop} {h : PH} {x1 : Int32} (k1 : 5 ≤ x1 → G 0 mX5_asTheyAre post 25 [none, none] [] h) (k2 : ¬ 5 ≤ x1 → G 0 mX5_asTheyAre post 7 [some (.ref 15), some (.int x1)] [] h) : G 0 mX5_asTheyAre post 2 [some (.ref 15), some (.int x1)] [] h := by
  refine g_iload_n dX5_asTheyAre_2 rfl ?_
  refine g_iconst (v := 5) dX5_asTheyAre_3 rfl ?_
  exact g_icmp_ge (tgt := 25) dX5_asTheyAre_4 (by decide) (fun hc => by refine g_forget (mask := [false, false]) (L' := [none, none]) rfl ?_; exact k1 hc) (fun hc => k2 hc)
theorem sX5_asTheyAre_25 {post : Option Value → PH → Prop} {h : PH} (k : post none h) : G 0 mX5_asTheyAre post 25 [none, none] [] h := by
  exact g_return dX5_asTheyAre_25 rfl k
theorem sX5_asTheyAre_7 {post : Option Value → PH → Prop} {h : PH} {x1 : Int32} (hb1 : vp_in x1 5) (hb2 : vp_in x1 5) (k : G 0 mX5_asTheyAre post 2 [some (.ref 15), some (.int (x1 + 1))] [] ((upd2 h.1 21 (Int32.toNatClampNeg x1) (h.1 19 (Int32.toNatClampNeg x1))), h.2)) : G 0 mX5_asTheyAre post 7 [some (.ref 15), some (.int x1)] [] h := by
  refine g_aload_n dX5_asTheyAre_7 rfl ?_
  refine g_getfield (kd := 23) (v := .ref 21) dX5_asTheyAre_8 fX5_25 (by decide) rfl rfl rfl rfl ?_
  refine g_iload_n dX5_asTheyAre_11 rfl ?_
  refine g_aload_n dX5_asTheyAre_12 rfl ?_
  refine g_getfield (kd := 21) (v := .ref 19) dX5_asTheyAre_13 fX5_19 (by decide) rfl rfl rfl rfl ?_
  refine g_iload_n dX5_asTheyAre_16 rfl ?_
  refine g_iaload (n := 5) dX5_asTheyAre_17 (by decide) rfl rfl rfl hb1 ?_
  refine g_iastore (n := 5) dX5_asTheyAre_18 (by decide) rfl rfl rfl hb2 ?_
  refine g_iinc (v := (x1 + 1)) (L' := [some (.ref 15), some (.int (x1 + 1))]) dX5_asTheyAre_19 rfl rfl rfl (by decide) rfl ?_
  refine g_goto (tgt := 2) dX5_asTheyAre_22 (by decide) ?_
  exact k
theorem sX5_heatAt_0 {post : Option Value → PH → Prop} {h : PH} {x1 x2 : Int32} (k : G 1 mX5_heatAt post 5 [some (.ref 15), some (.int x1), some (.int x2), some (.int 0), some (.int 0)] [] h) : G 1 mX5_heatAt post 0 [some (.ref 15), some (.int x1), some (.int x2), none, none] [] h := by
  refine g_iconst (v := 0) dX5_heatAt_0 rfl ?_
  refine g_istore_n (L' := [some (.ref 15), some (.int x1), some (.int x2), some (.int 0), none]) dX5_heatAt_1 rfl (by decide) rfl ?_
  refine g_iconst (v := 0) dX5_heatAt_2 rfl ?_
  refine g_istore (L' := [some (.ref 15), some (.int x1), some (.int x2), some (.int 0), some (.int 0)]) dX5_heatAt_3 rfl (by decide) rfl ?_
  exact k
theorem sX5_heatAt_5 {post : Option Value → PH → Prop} {h : PH} {x1 x2 x3 x4 : Int32} (k1 : (h.1 15 2) ≤ x4 → G 1 mX5_heatAt post 57 [none, none, none, some (.int x3), none] [] h) (k2 : ¬ (h.1 15 2) ≤ x4 → G 1 mX5_heatAt post 14 [some (.ref 15), some (.int x1), some (.int x2), some (.int x3), some (.int x4)] [] h) : G 1 mX5_heatAt post 5 [some (.ref 15), some (.int x1), some (.int x2), some (.int x3), some (.int x4)] [] h := by
  refine g_iload dX5_heatAt_5 rfl ?_
  refine g_aload_n dX5_heatAt_7 rfl ?_
  refine g_getfield (kd := 0) (v := .int (h.1 15 2)) dX5_heatAt_8 fX5_60 (by decide) rfl rfl rfl rfl ?_
  exact g_icmp_ge (tgt := 57) dX5_heatAt_11 (by decide) (fun hc => by refine g_forget (mask := [false, false, false, true, false]) (L' := [none, none, none, some (.int x3), none]) rfl ?_; exact k1 hc) (fun hc => k2 hc)
theorem sX5_heatAt_57 {post : Option Value → PH → Prop} {h : PH} {x3 : Int32} (k : post (some (.int x3)) h) : G 1 mX5_heatAt post 57 [none, none, none, some (.int x3), none] [] h := by
  refine g_iload_n dX5_heatAt_57 rfl ?_
  exact g_ireturn (ty := .int) dX5_heatAt_58 rfl rfl k
theorem sX5_heatAt_14 {post : Option Value → PH → Prop} {h : PH} {x1 x2 x3 x4 : Int32} (k1 : ¬ x2 = 0 → G 1 mX5_heatAt post 31 [some (.ref 15), some (.int x1), some (.int x2), none, some (.int x4)] [.int x3] h) (k2 : x2 = 0 → G 1 mX5_heatAt post 19 [some (.ref 15), some (.int x1), some (.int x2), none, some (.int x4)] [.int x3] h) : G 1 mX5_heatAt post 14 [some (.ref 15), some (.int x1), some (.int x2), some (.int x3), some (.int x4)] [] h := by
  refine g_iload_n dX5_heatAt_14 rfl ?_
  refine g_iload_n dX5_heatAt_15 rfl ?_
  exact g_if_ne (tgt := 31) dX5_heatAt_16 (by decide) (fun hc => by refine g_forget (mask := [true, true, true, false, true]) (L' := [some (.ref 15), some (.int x1), some (.int x2), none, some (.int x4)]) rfl ?_; exact k1 hc) (fun hc => by refine g_forget (mask := [true, true, true, false, true]) (L' := [some (.ref 15), some (.int x1), some (.int x2), none, some (.int x4)]) rfl ?_; exact k2 hc)
theorem sX5_heatAt_31 {post : Option Value → PH → Prop} {h : PH} {x1 x2 x4 s0 : Int32} (hb1 : vp_in x4 5) (k : Ev 0 mX5_gives [.ref 15, .int x4, .int (h.1 21 (Int32.toNatClampNeg x4)), .int x1] h (fun r h' => G 1 mX5_heatAt post 45 [some (.ref 15), some (.int x1), some (.int x2), none, some (.int x4)] (r.toList ++ [.int s0]) h')) : G 1 mX5_heatAt post 31 [some (.ref 15), some (.int x1), some (.int x2), none, some (.int x4)] [.int s0] h := by
  refine g_aload_n dX5_heatAt_31 rfl ?_
  refine g_iload dX5_heatAt_32 rfl ?_
  refine g_aload_n dX5_heatAt_34 rfl ?_
  refine g_getfield (kd := 23) (v := .ref 21) dX5_heatAt_35 fX5_25 (by decide) rfl rfl rfl rfl ?_
  refine g_iload dX5_heatAt_38 rfl ?_
  refine g_iaload (n := 5) dX5_heatAt_40 (by decide) rfl rfl rfl hb1 ?_
  refine g_iload_n dX5_heatAt_41 rfl ?_
  exact g_callV (n := 3) (b := 15) (as := [.int x4, .int (h.1 21 (Int32.toNatClampNeg x4)), .int x1]) (rest := [.int s0]) dX5_heatAt_42 kX5_gives lX5_72 (by decide) rfl ⟨_, _, rfl⟩ rfl rfl (by simp only [List.map, Value.category]; decide) (by decide) k
theorem sX5_heatAt_19 {post : Option Value → PH → Prop} {h : PH} {x1 x2 x4 s0 : Int32} (k : Ev 0 mX5_has [.int (h.1 15 8), .int x4] h (fun r h' => G 1 mX5_heatAt post 28 [some (.ref 15), some (.int x1), some (.int x2), none, some (.int x4)] (r.toList ++ [.int s0]) h')) : G 1 mX5_heatAt post 19 [some (.ref 15), some (.int x1), some (.int x2), none, some (.int x4)] [.int s0] h := by
  refine g_aload_n dX5_heatAt_19 rfl ?_
  refine g_getfield (kd := 0) (v := .int (h.1 15 8)) dX5_heatAt_20 fX5_63 (by decide) rfl rfl rfl rfl ?_
  refine g_iload dX5_heatAt_23 rfl ?_
  exact g_callS (n := 2) (as := [.int (h.1 15 8), .int x4]) (rest := [.int s0]) dX5_heatAt_25 kX5_has lX5_76 rfl rfl (by simp only [List.map, Value.category]; decide) (by decide) k
theorem sX5_heatAt_45 {post : Option Value → PH → Prop} {h : PH} {x1 x2 x4 s0 s1 : Int32} (k : G 1 mX5_heatAt post 5 [some (.ref 15), some (.int x1), some (.int x2), some (.int (s1 + s0)), some (.int (x4 + 1))] [] h) : G 1 mX5_heatAt post 45 [some (.ref 15), some (.int x1), some (.int x2), none, some (.int x4)] [.int s0, .int s1] h := by
  refine g_goto (tgt := 49) dX5_heatAt_45 (by decide) ?_
  refine g_iadd dX5_heatAt_49 ?_
  refine g_istore_n (L' := [some (.ref 15), some (.int x1), some (.int x2), some (.int (s1 + s0)), some (.int x4)]) dX5_heatAt_50 rfl (by decide) rfl ?_
  refine g_iinc (v := (x4 + 1)) (L' := [some (.ref 15), some (.int x1), some (.int x2), some (.int (s1 + s0)), some (.int (x4 + 1))]) dX5_heatAt_51 rfl rfl rfl (by decide) rfl ?_
  refine g_goto (tgt := 5) dX5_heatAt_54 (by decide) ?_
  exact k
theorem sX5_heatAt_28 {post : Option Value → PH → Prop} {h : PH} {x1 x2 x4 s0 s1 : Int32} (k1 : ¬ s0 = 0 → G 1 mX5_heatAt post 48 [some (.ref 15), some (.int x1), some (.int x2), none, some (.int x4)] [.int s1] h) (k2 : s0 = 0 → G 1 mX5_heatAt post 31 [some (.ref 15), some (.int x1), some (.int x2), none, some (.int x4)] [.int s1] h) : G 1 mX5_heatAt post 28 [some (.ref 15), some (.int x1), some (.int x2), none, some (.int x4)] [.int s0, .int s1] h := by
  exact g_if_ne (tgt := 48) dX5_heatAt_28 (by decide) (fun hc => k1 hc) (fun hc => k2 hc)
theorem sX5_heatAt_48 {post : Option Value → PH → Prop} {h : PH} {x1 x2 x4 s0 : Int32} (k : G 1 mX5_heatAt post 5 [some (.ref 15), some (.int x1), some (.int x2), some (.int (s0 + 0)), some (.int (x4 + 1))] [] h) : G 1 mX5_heatAt post 48 [some (.ref 15), some (.int x1), some (.int x2), none, some (.int x4)] [.int s0] h := by
  refine g_iconst (v := 0) dX5_heatAt_48 rfl ?_
  refine g_iadd dX5_heatAt_49 ?_
  refine g_istore_n (L' := [some (.ref 15), some (.int x1), some (.int x2), some (.int (s0 + 0)), some (.int x4)]) dX5_heatAt_50 rfl (by decide) rfl ?_
  refine g_iinc (v := (x4 + 1)) (L' := [some (.ref 15), some (.int x1), some (.int x2), some (.int (s0 + 0)), some (.int (x4 + 1))]) dX5_heatAt_51 rfl rfl rfl (by decide) rfl ?_
  refine g_goto (tgt := 5) dX5_heatAt_54 (by decide) ?_
  exact k
theorem sX5_isGood_0 {post : Option Value → PH → Prop} {h : PH} {x1 : Int32} (k : G 2 mX5_isGood post 4 [some (.ref 15), some (.int x1), some (.int 1), some (.int 0)] [] h) : G 2 mX5_isGood post 0 [some (.ref 15), some (.int x1), none, none] [] h := by
  refine g_iconst (v := 1) dX5_isGood_0 rfl ?_
  refine g_istore_n (L' := [some (.ref 15), some (.int x1), some (.int 1), none]) dX5_isGood_1 rfl (by decide) rfl ?_
  refine g_iconst (v := 0) dX5_isGood_2 rfl ?_
  refine g_istore_n (L' := [some (.ref 15), some (.int x1), some (.int 1), some (.int 0)]) dX5_isGood_3 rfl (by decide) rfl ?_
  exact k
theorem sX5_isGood_4 {post : Option Value → PH → Prop} {h : PH} {x1 x2 x3 : Int32} (k1 : (h.1 15 3) ≤ x3 → G 2 mX5_isGood post 43 [none, none, some (.int x2), none] [] h) (k2 : ¬ (h.1 15 3) ≤ x3 → G 2 mX5_isGood post 12 [some (.ref 15), some (.int x1), some (.int x2), some (.int x3)] [] h) : G 2 mX5_isGood post 4 [some (.ref 15), some (.int x1), some (.int x2), some (.int x3)] [] h := by
  refine g_iload_n dX5_isGood_4 rfl ?_
  refine g_aload_n dX5_isGood_5 rfl ?_
  refine g_getfield (kd := 0) (v := .int (h.1 15 3)) dX5_isGood_6 fX5_57 (by decide) rfl rfl rfl rfl ?_
  exact g_icmp_ge (tgt := 43) dX5_isGood_9 (by decide) (fun hc => by refine g_forget (mask := [false, false, true, false]) (L' := [none, none, some (.int x2), none]) rfl ?_; exact k1 hc) (fun hc => k2 hc)
theorem sX5_isGood_43 {post : Option Value → PH → Prop} {h : PH} {x2 : Int32} (hb1 : narrow .boolean (.int x2) = .int x2) (k : post (some (.int x2)) h) : G 2 mX5_isGood post 43 [none, none, some (.int x2), none] [] h := by
  refine g_iload_n dX5_isGood_43 rfl ?_
  exact g_ireturn (ty := .boolean) dX5_isGood_44 rfl hb1 k
theorem sX5_isGood_12 {post : Option Value → PH → Prop} {h : PH} {x1 x2 x3 : Int32} (k1 : x2 = 0 → G 2 mX5_isGood post 35 [some (.ref 15), some (.int x1), none, some (.int x3)] [] h) (k2 : ¬ x2 = 0 → G 2 mX5_isGood post 16 [some (.ref 15), some (.int x1), none, some (.int x3)] [] h) : G 2 mX5_isGood post 12 [some (.ref 15), some (.int x1), some (.int x2), some (.int x3)] [] h := by
  refine g_iload_n dX5_isGood_12 rfl ?_
  exact g_if_eq (tgt := 35) dX5_isGood_13 (by decide) (fun hc => by refine g_forget (mask := [true, true, false, true]) (L' := [some (.ref 15), some (.int x1), none, some (.int x3)]) rfl ?_; exact k1 hc) (fun hc => by refine g_forget (mask := [true, true, false, true]) (L' := [some (.ref 15), some (.int x1), none, some (.int x3)]) rfl ?_; exact k2 hc)
theorem sX5_isGood_35 {post : Option Value → PH → Prop} {h : PH} {x1 x3 : Int32} (k : G 2 mX5_isGood post 4 [some (.ref 15), some (.int x1), some (.int 0), some (.int (x3 + 1))] [] h) : G 2 mX5_isGood post 35 [some (.ref 15), some (.int x1), none, some (.int x3)] [] h := by
  refine g_iconst (v := 0) dX5_isGood_35 rfl ?_
  refine g_istore_n (L' := [some (.ref 15), some (.int x1), some (.int 0), some (.int x3)]) dX5_isGood_36 rfl (by decide) rfl ?_
  refine g_iinc (v := (x3 + 1)) (L' := [some (.ref 15), some (.int x1), some (.int 0), some (.int (x3 + 1))]) dX5_isGood_37 rfl rfl rfl (by decide) rfl ?_
  refine g_goto (tgt := 4) dX5_isGood_40 (by decide) ?_
  exact k
theorem sX5_isGood_16 {post : Option Value → PH → Prop} {h : PH} {x1 x3 : Int32} (k : Ev 1 mX5_heatAt [.ref 15, .int x3, .int x1] h (fun r h' => G 2 mX5_isGood post 22 [some (.ref 15), some (.int x1), none, some (.int x3)] (r.toList ++ []) h')) : G 2 mX5_isGood post 16 [some (.ref 15), some (.int x1), none, some (.int x3)] [] h := by
  refine g_aload_n dX5_isGood_16 rfl ?_
  refine g_iload_n dX5_isGood_17 rfl ?_
  refine g_iload_n dX5_isGood_18 rfl ?_
  exact g_callV (n := 2) (b := 15) (as := [.int x3, .int x1]) (rest := []) dX5_isGood_19 kX5_heatAt lX5_80 (by decide) rfl ⟨_, _, rfl⟩ rfl rfl (by simp only [List.map, Value.category]; decide) (by decide) k
theorem sX5_isGood_22 {post : Option Value → PH → Prop} {h : PH} {x1 x3 s0 : Int32} (hb1 : vp_in x3 4) (k1 : (h.1 20 (Int32.toNatClampNeg x3)) < s0 → G 2 mX5_isGood post 35 [some (.ref 15), some (.int x1), none, some (.int x3)] [] h) (k2 : ¬ (h.1 20 (Int32.toNatClampNeg x3)) < s0 → G 2 mX5_isGood post 31 [some (.ref 15), some (.int x1), none, some (.int x3)] [] h) : G 2 mX5_isGood post 22 [some (.ref 15), some (.int x1), none, some (.int x3)] [.int s0] h := by
  refine g_aload_n dX5_isGood_22 rfl ?_
  refine g_getfield (kd := 22) (v := .ref 20) dX5_isGood_23 fX5_22 (by decide) rfl rfl rfl rfl ?_
  refine g_iload_n dX5_isGood_26 rfl ?_
  refine g_iaload (n := 4) dX5_isGood_27 (by decide) rfl rfl rfl hb1 ?_
  exact g_icmp_gt (tgt := 35) dX5_isGood_28 (by decide) (fun hc => k1 hc) (fun hc => k2 hc)
theorem sX5_isGood_31 {post : Option Value → PH → Prop} {h : PH} {x1 x3 : Int32} (k : G 2 mX5_isGood post 4 [some (.ref 15), some (.int x1), some (.int 1), some (.int (x3 + 1))] [] h) : G 2 mX5_isGood post 31 [some (.ref 15), some (.int x1), none, some (.int x3)] [] h := by
  refine g_iconst (v := 1) dX5_isGood_31 rfl ?_
  refine g_goto (tgt := 36) dX5_isGood_32 (by decide) ?_
  refine g_istore_n (L' := [some (.ref 15), some (.int x1), some (.int 1), some (.int x3)]) dX5_isGood_36 rfl (by decide) rfl ?_
  refine g_iinc (v := (x3 + 1)) (L' := [some (.ref 15), some (.int x1), some (.int 1), some (.int (x3 + 1))]) dX5_isGood_37 rfl rfl rfl (by decide) rfl ?_
  refine g_goto (tgt := 4) dX5_isGood_40 (by decide) ?_
  exact k
theorem sX5_caught_0 {post : Option Value → PH → Prop} {h : PH} (k : G 2 mX5_caught post 4 [some (.ref 15), some (.int 0), some (.int 0)] [] h) : G 2 mX5_caught post 0 [some (.ref 15), none, none] [] h := by
  refine g_iconst (v := 0) dX5_caught_0 rfl ?_
  refine g_istore_n (L' := [some (.ref 15), some (.int 0), none]) dX5_caught_1 rfl (by decide) rfl ?_
  refine g_iconst (v := 0) dX5_caught_2 rfl ?_
  refine g_istore_n (L' := [some (.ref 15), some (.int 0), some (.int 0)]) dX5_caught_3 rfl (by decide) rfl ?_
  exact k
theorem sX5_caught_4 {post : Option Value → PH → Prop} {h : PH} {x1 x2 : Int32} (k1 : (h.1 15 3) ≤ x2 → G 2 mX5_caught post 27 [none, some (.int x1), none] [] h) (k2 : ¬ (h.1 15 3) ≤ x2 → G 2 mX5_caught post 12 [some (.ref 15), some (.int x1), some (.int x2)] [] h) : G 2 mX5_caught post 4 [some (.ref 15), some (.int x1), some (.int x2)] [] h := by
  refine g_iload_n dX5_caught_4 rfl ?_
  refine g_aload_n dX5_caught_5 rfl ?_
  refine g_getfield (kd := 0) (v := .int (h.1 15 3)) dX5_caught_6 fX5_57 (by decide) rfl rfl rfl rfl ?_
  exact g_icmp_ge (tgt := 27) dX5_caught_9 (by decide) (fun hc => by refine g_forget (mask := [false, true, false]) (L' := [none, some (.int x1), none]) rfl ?_; exact k1 hc) (fun hc => k2 hc)
theorem sX5_caught_27 {post : Option Value → PH → Prop} {h : PH} {x1 : Int32} (k : post (some (.int x1)) h) : G 2 mX5_caught post 27 [none, some (.int x1), none] [] h := by
  refine g_iload_n dX5_caught_27 rfl ?_
  exact g_ireturn (ty := .int) dX5_caught_28 rfl rfl k
theorem sX5_caught_12 {post : Option Value → PH → Prop} {h : PH} {x1 x2 : Int32} (k : Ev 1 mX5_heatAt [.ref 15, .int x2, .int 0] h (fun r h' => G 2 mX5_caught post 19 [some (.ref 15), none, some (.int x2)] (r.toList ++ [.int x1]) h')) : G 2 mX5_caught post 12 [some (.ref 15), some (.int x1), some (.int x2)] [] h := by
  refine g_iload_n dX5_caught_12 rfl ?_
  refine g_aload_n dX5_caught_13 rfl ?_
  refine g_iload_n dX5_caught_14 rfl ?_
  refine g_iconst (v := 0) dX5_caught_15 rfl ?_
  refine g_forget (mask := [true, false, true]) (L' := [some (.ref 15), none, some (.int x2)]) rfl ?_
  exact g_callV (n := 2) (b := 15) (as := [.int x2, .int 0]) (rest := [.int x1]) dX5_caught_16 kX5_heatAt lX5_80 (by decide) rfl ⟨_, _, rfl⟩ rfl rfl (by simp only [List.map, Value.category]; decide) (by decide) k
theorem sX5_caught_19 {post : Option Value → PH → Prop} {h : PH} {x2 s0 s1 : Int32} (k : G 2 mX5_caught post 4 [some (.ref 15), some (.int (s1 + s0)), some (.int (x2 + 1))] [] h) : G 2 mX5_caught post 19 [some (.ref 15), none, some (.int x2)] [.int s0, .int s1] h := by
  refine g_iadd dX5_caught_19 ?_
  refine g_istore_n (L' := [some (.ref 15), some (.int (s1 + s0)), some (.int x2)]) dX5_caught_20 rfl (by decide) rfl ?_
  refine g_iinc (v := (x2 + 1)) (L' := [some (.ref 15), some (.int (s1 + s0)), some (.int (x2 + 1))]) dX5_caught_21 rfl rfl rfl (by decide) rfl ?_
  refine g_goto (tgt := 4) dX5_caught_24 (by decide) ?_
  exact k
theorem sX5_ceiling_0 {post : Option Value → PH → Prop} {h : PH} {x1 x2 : Int32} (k : Ev 1 mX5_isPatch [.ref 15, .int x1] h (fun r h' => G 2 mX5_ceiling post 5 [some (.ref 15), some (.int x1), some (.int x2), none] (r.toList ++ []) h')) : G 2 mX5_ceiling post 0 [some (.ref 15), some (.int x1), some (.int x2), none] [] h := by
  refine g_aload_n dX5_ceiling_0 rfl ?_
  refine g_iload_n dX5_ceiling_1 rfl ?_
  exact g_callV (n := 1) (b := 15) (as := [.int x1]) (rest := []) dX5_ceiling_2 kX5_isPatch lX5_84 (by decide) rfl ⟨_, _, rfl⟩ rfl rfl (by simp only [List.map, Value.category]; decide) (by decide) k
theorem sX5_ceiling_5 {post : Option Value → PH → Prop} {h : PH} {x1 x2 s0 : Int32} (k1 : ¬ s0 = 0 → G 2 mX5_ceiling post 12 [some (.ref 15), some (.int x1), some (.int x2), none] [] h) (k2 : s0 = 0 → G 2 mX5_ceiling post 8 [none, none, none, none] [] h) : G 2 mX5_ceiling post 5 [some (.ref 15), some (.int x1), some (.int x2), none] [.int s0] h := by
  exact g_if_ne (tgt := 12) dX5_ceiling_5 (by decide) (fun hc => k1 hc) (fun hc => by refine g_forget (mask := [false, false, false, true]) (L' := [none, none, none, none]) rfl ?_; exact k2 hc)
theorem sX5_ceiling_12 {post : Option Value → PH → Prop} {h : PH} {x1 x2 : Int32} (k : Ev 0 mX5_within [.int x2, .int 0, .int 60] h (fun r h' => G 2 mX5_ceiling post 19 [some (.ref 15), some (.int x1), some (.int x2), none] (r.toList ++ []) h')) : G 2 mX5_ceiling post 12 [some (.ref 15), some (.int x1), some (.int x2), none] [] h := by
  refine g_iload_n dX5_ceiling_12 rfl ?_
  refine g_iconst (v := 0) dX5_ceiling_13 rfl ?_
  refine g_bipush (v := 60) dX5_ceiling_14 rfl ?_
  exact g_callS (n := 3) (as := [.int x2, .int 0, .int 60]) (rest := []) dX5_ceiling_16 kX5_within lX5_41 rfl rfl (by simp only [List.map, Value.category]; decide) (by decide) k
theorem sX5_ceiling_8 {post : Option Value → PH → Prop} {h : PH} (k : post (some (.int (-1002))) h) : G 2 mX5_ceiling post 8 [none, none, none, none] [] h := by
  refine g_sipush (v := (-1002)) dX5_ceiling_8 rfl ?_
  exact g_ireturn (ty := .int) dX5_ceiling_11 rfl rfl k
theorem sX5_ceiling_19 {post : Option Value → PH → Prop} {h : PH} {x1 x2 s0 : Int32} (k1 : ¬ s0 = 0 → G 2 mX5_ceiling post 26 [some (.ref 15), some (.int x1), some (.int x2), none] [] h) (k2 : s0 = 0 → G 2 mX5_ceiling post 22 [none, none, none, none] [] h) : G 2 mX5_ceiling post 19 [some (.ref 15), some (.int x1), some (.int x2), none] [.int s0] h := by
  exact g_if_ne (tgt := 26) dX5_ceiling_19 (by decide) (fun hc => k1 hc) (fun hc => by refine g_forget (mask := [false, false, false, true]) (L' := [none, none, none, none]) rfl ?_; exact k2 hc)
theorem sX5_ceiling_26 {post : Option Value → PH → Prop} {h : PH} {x1 x2 : Int32} (hb1 : vp_in x1 4) (hb2 : vp_in x1 4) (k : post (some (.int (h.1 20 (Int32.toNatClampNeg x1)))) ((upd2 h.1 20 (Int32.toNatClampNeg x1) x2), h.2)) : G 2 mX5_ceiling post 26 [some (.ref 15), some (.int x1), some (.int x2), none] [] h := by
  refine g_aload_n dX5_ceiling_26 rfl ?_
  refine g_getfield (kd := 22) (v := .ref 20) dX5_ceiling_27 fX5_22 (by decide) rfl rfl rfl rfl ?_
  refine g_iload_n dX5_ceiling_30 rfl ?_
  refine g_iaload (n := 4) dX5_ceiling_31 (by decide) rfl rfl rfl hb1 ?_
  refine g_istore_n (L' := [some (.ref 15), some (.int x1), some (.int x2), some (.int (h.1 20 (Int32.toNatClampNeg x1)))]) dX5_ceiling_32 rfl (by decide) rfl ?_
  refine g_aload_n dX5_ceiling_33 rfl ?_
  refine g_getfield (kd := 22) (v := .ref 20) dX5_ceiling_34 fX5_22 (by decide) rfl rfl rfl rfl ?_
  refine g_iload_n dX5_ceiling_37 rfl ?_
  refine g_iload_n dX5_ceiling_38 rfl ?_
  refine g_iastore (n := 4) dX5_ceiling_39 (by decide) rfl rfl rfl hb2 ?_
  refine g_iload_n dX5_ceiling_40 rfl ?_
  exact g_ireturn (ty := .int) dX5_ceiling_41 rfl rfl k
theorem sX5_ceiling_22 {post : Option Value → PH → Prop} {h : PH} (k : post (some (.int (-1003))) h) : G 2 mX5_ceiling post 22 [none, none, none, none] [] h := by
  refine g_sipush (v := (-1003)) dX5_ceiling_22 rfl ?_
  exact g_ireturn (ty := .int) dX5_ceiling_25 rfl rfl k
theorem sX5_shade_0 {post : Option Value → PH → Prop} {h : PH} {x1 : Int32} (k1 : ¬ (h.1 15 2) = 0 → G 1 mX5_shade post 11 [some (.ref 15), some (.int x1), none] [] h) (k2 : (h.1 15 2) = 0 → G 1 mX5_shade post 7 [none, none, none] [] h) : G 1 mX5_shade post 0 [some (.ref 15), some (.int x1), none] [] h := by
  refine g_aload_n dX5_shade_0 rfl ?_
  refine g_getfield (kd := 0) (v := .int (h.1 15 2)) dX5_shade_1 fX5_60 (by decide) rfl rfl rfl rfl ?_
  exact g_if_ne (tgt := 11) dX5_shade_4 (by decide) (fun hc => k1 hc) (fun hc => by refine g_forget (mask := [false, false, true]) (L' := [none, none, none]) rfl ?_; exact k2 hc)
theorem sX5_shade_11 {post : Option Value → PH → Prop} {h : PH} {x1 : Int32} (k : Ev 0 mX5_within [.int x1, .int 0, .int ((1 <<< ((h.1 15 2) &&& 31)) - 1)] h (fun r h' => G 1 mX5_shade post 24 [some (.ref 15), some (.int x1), none] (r.toList ++ []) h')) : G 1 mX5_shade post 11 [some (.ref 15), some (.int x1), none] [] h := by
  refine g_iload_n dX5_shade_11 rfl ?_
  refine g_iconst (v := 0) dX5_shade_12 rfl ?_
  refine g_iconst (v := 1) dX5_shade_13 rfl ?_
  refine g_aload_n dX5_shade_14 rfl ?_
  refine g_getfield (kd := 0) (v := .int (h.1 15 2)) dX5_shade_15 fX5_60 (by decide) rfl rfl rfl rfl ?_
  refine g_ishl dX5_shade_18 ?_
  refine g_iconst (v := 1) dX5_shade_19 rfl ?_
  refine g_isub dX5_shade_20 ?_
  exact g_callS (n := 3) (as := [.int x1, .int 0, .int ((1 <<< ((h.1 15 2) &&& 31)) - 1)]) (rest := []) dX5_shade_21 kX5_within lX5_41 rfl rfl (by simp only [List.map, Value.category]; decide) (by decide) k
theorem sX5_shade_7 {post : Option Value → PH → Prop} {h : PH} (k : post (some (.int (-1004))) h) : G 1 mX5_shade post 7 [none, none, none] [] h := by
  refine g_sipush (v := (-1004)) dX5_shade_7 rfl ?_
  exact g_ireturn (ty := .int) dX5_shade_10 rfl rfl k
theorem sX5_shade_24 {post : Option Value → PH → Prop} {h : PH} {x1 s0 : Int32} (k1 : ¬ s0 = 0 → G 1 mX5_shade post 31 [some (.ref 15), some (.int x1), none] [] h) (k2 : s0 = 0 → G 1 mX5_shade post 27 [none, none, none] [] h) : G 1 mX5_shade post 24 [some (.ref 15), some (.int x1), none] [.int s0] h := by
  exact g_if_ne (tgt := 31) dX5_shade_24 (by decide) (fun hc => k1 hc) (fun hc => by refine g_forget (mask := [false, false, true]) (L' := [none, none, none]) rfl ?_; exact k2 hc)
theorem sX5_shade_31 {post : Option Value → PH → Prop} {h : PH} {x1 : Int32} (k : post (some (.int (h.1 15 8))) ((upd2 h.1 15 8 x1), h.2)) : G 1 mX5_shade post 31 [some (.ref 15), some (.int x1), none] [] h := by
  refine g_aload_n dX5_shade_31 rfl ?_
  refine g_getfield (kd := 0) (v := .int (h.1 15 8)) dX5_shade_32 fX5_63 (by decide) rfl rfl rfl rfl ?_
  refine g_istore_n (L' := [some (.ref 15), some (.int x1), some (.int (h.1 15 8))]) dX5_shade_35 rfl (by decide) rfl ?_
  refine g_aload_n dX5_shade_36 rfl ?_
  refine g_iload_n dX5_shade_37 rfl ?_
  refine g_putfield dX5_shade_38 fX5_63 (by decide) rfl rfl rfl rfl rfl ?_
  refine g_iload_n dX5_shade_41 rfl ?_
  exact g_ireturn (ty := .int) dX5_shade_42 rfl rfl k
theorem sX5_shade_27 {post : Option Value → PH → Prop} {h : PH} (k : post (some (.int (-1003))) h) : G 1 mX5_shade post 27 [none, none, none] [] h := by
  refine g_sipush (v := (-1003)) dX5_shade_27 rfl ?_
  exact g_ireturn (ty := .int) dX5_shade_30 rfl rfl k
theorem sX5_stuck_0 {post : Option Value → PH → Prop} {h : PH} {x1 x2 : Int32} (k : Ev 1 mX5_isMirror [.ref 15, .int x1] h (fun r h' => G 2 mX5_stuck post 5 [some (.ref 15), some (.int x1), some (.int x2), none] (r.toList ++ []) h')) : G 2 mX5_stuck post 0 [some (.ref 15), some (.int x1), some (.int x2), none] [] h := by
  refine g_aload_n dX5_stuck_0 rfl ?_
  refine g_iload_n dX5_stuck_1 rfl ?_
  exact g_callV (n := 1) (b := 15) (as := [.int x1]) (rest := []) dX5_stuck_2 kX5_isMirror lX5_87 (by decide) rfl ⟨_, _, rfl⟩ rfl rfl (by simp only [List.map, Value.category]; decide) (by decide) k
theorem sX5_stuck_5 {post : Option Value → PH → Prop} {h : PH} {x1 x2 s0 : Int32} (k1 : ¬ s0 = 0 → G 2 mX5_stuck post 12 [some (.ref 15), some (.int x1), some (.int x2), none] [] h) (k2 : s0 = 0 → G 2 mX5_stuck post 8 [none, none, none, none] [] h) : G 2 mX5_stuck post 5 [some (.ref 15), some (.int x1), some (.int x2), none] [.int s0] h := by
  exact g_if_ne (tgt := 12) dX5_stuck_5 (by decide) (fun hc => k1 hc) (fun hc => by refine g_forget (mask := [false, false, false, true]) (L' := [none, none, none, none]) rfl ?_; exact k2 hc)
theorem sX5_stuck_12 {post : Option Value → PH → Prop} {h : PH} {x1 x2 : Int32} (k1 : x2 = 0 → G 2 mX5_stuck post 37 [some (.ref 15), some (.int x1), none, some (.int (((h.1 15 9) >>> (x1 &&& 31)) &&& 1))] [.ref 15] h) (k2 : ¬ x2 = 0 → G 2 mX5_stuck post 26 [some (.ref 15), some (.int x1), none, some (.int (((h.1 15 9) >>> (x1 &&& 31)) &&& 1))] [.ref 15] h) : G 2 mX5_stuck post 12 [some (.ref 15), some (.int x1), some (.int x2), none] [] h := by
  refine g_aload_n dX5_stuck_12 rfl ?_
  refine g_getfield (kd := 0) (v := .int (h.1 15 9)) dX5_stuck_13 fX5_66 (by decide) rfl rfl rfl rfl ?_
  refine g_iload_n dX5_stuck_16 rfl ?_
  refine g_ishr dX5_stuck_17 ?_
  refine g_iconst (v := 1) dX5_stuck_18 rfl ?_
  refine g_iand dX5_stuck_19 ?_
  refine g_istore_n (L' := [some (.ref 15), some (.int x1), some (.int x2), some (.int (((h.1 15 9) >>> (x1 &&& 31)) &&& 1))]) dX5_stuck_20 rfl (by decide) rfl ?_
  refine g_aload_n dX5_stuck_21 rfl ?_
  refine g_iload_n dX5_stuck_22 rfl ?_
  exact g_if_eq (tgt := 37) dX5_stuck_23 (by decide) (fun hc => by refine g_forget (mask := [true, true, false, true]) (L' := [some (.ref 15), some (.int x1), none, some (.int (((h.1 15 9) >>> (x1 &&& 31)) &&& 1))]) rfl ?_; exact k1 hc) (fun hc => by refine g_forget (mask := [true, true, false, true]) (L' := [some (.ref 15), some (.int x1), none, some (.int (((h.1 15 9) >>> (x1 &&& 31)) &&& 1))]) rfl ?_; exact k2 hc)
theorem sX5_stuck_8 {post : Option Value → PH → Prop} {h : PH} (k : post (some (.int (-1002))) h) : G 2 mX5_stuck post 8 [none, none, none, none] [] h := by
  refine g_sipush (v := (-1002)) dX5_stuck_8 rfl ?_
  exact g_ireturn (ty := .int) dX5_stuck_11 rfl rfl k
theorem sX5_stuck_37 {post : Option Value → PH → Prop} {h : PH} {x1 x3 : Int32} (k : post (some (.int x3)) ((upd2 h.1 15 9 ((h.1 15 9) &&& ((1 <<< (x1 &&& 31)) ^^^ (-1)))), h.2)) : G 2 mX5_stuck post 37 [some (.ref 15), some (.int x1), none, some (.int x3)] [.ref 15] h := by
  refine g_aload_n dX5_stuck_37 rfl ?_
  refine g_getfield (kd := 0) (v := .int (h.1 15 9)) dX5_stuck_38 fX5_66 (by decide) rfl rfl rfl rfl ?_
  refine g_iconst (v := 1) dX5_stuck_41 rfl ?_
  refine g_iload_n dX5_stuck_42 rfl ?_
  refine g_ishl dX5_stuck_43 ?_
  refine g_iconst (v := (-1)) dX5_stuck_44 rfl ?_
  refine g_ixor dX5_stuck_45 ?_
  refine g_iand dX5_stuck_46 ?_
  refine g_putfield dX5_stuck_47 fX5_66 (by decide) rfl rfl rfl rfl rfl ?_
  refine g_iload_n dX5_stuck_50 rfl ?_
  exact g_ireturn (ty := .int) dX5_stuck_51 rfl rfl k
theorem sX5_stuck_26 {post : Option Value → PH → Prop} {h : PH} {x1 x3 : Int32} (k : post (some (.int x3)) ((upd2 h.1 15 9 ((h.1 15 9) ||| (1 <<< (x1 &&& 31)))), h.2)) : G 2 mX5_stuck post 26 [some (.ref 15), some (.int x1), none, some (.int x3)] [.ref 15] h := by
  refine g_aload_n dX5_stuck_26 rfl ?_
  refine g_getfield (kd := 0) (v := .int (h.1 15 9)) dX5_stuck_27 fX5_66 (by decide) rfl rfl rfl rfl ?_
  refine g_iconst (v := 1) dX5_stuck_30 rfl ?_
  refine g_iload_n dX5_stuck_31 rfl ?_
  refine g_ishl dX5_stuck_32 ?_
  refine g_ior dX5_stuck_33 ?_
  refine g_goto (tgt := 47) dX5_stuck_34 (by decide) ?_
  refine g_putfield dX5_stuck_47 fX5_66 (by decide) rfl rfl rfl rfl rfl ?_
  refine g_iload_n dX5_stuck_50 rfl ?_
  exact g_ireturn (ty := .int) dX5_stuck_51 rfl rfl k
theorem sX5_aim_0 {post : Option Value → PH → Prop} {h : PH} {x1 x2 : Int32} (k : Ev 1 mX5_isMirror [.ref 15, .int x1] h (fun r h' => G 3 mX5_aim post 5 [some (.ref 15), some (.int x1), some (.int x2), none] (r.toList ++ []) h')) : G 3 mX5_aim post 0 [some (.ref 15), some (.int x1), some (.int x2), none] [] h := by
  refine g_aload_n dX5_aim_0 rfl ?_
  refine g_iload_n dX5_aim_1 rfl ?_
  exact g_callV (n := 1) (b := 15) (as := [.int x1]) (rest := []) dX5_aim_2 kX5_isMirror lX5_87 (by decide) rfl ⟨_, _, rfl⟩ rfl rfl (by simp only [List.map, Value.category]; decide) (by decide) k
theorem sX5_aim_5 {post : Option Value → PH → Prop} {h : PH} {x1 x2 s0 : Int32} (k1 : ¬ s0 = 0 → G 3 mX5_aim post 12 [some (.ref 15), some (.int x1), some (.int x2), none] [] h) (k2 : s0 = 0 → G 3 mX5_aim post 8 [none, none, none, none] [] h) : G 3 mX5_aim post 5 [some (.ref 15), some (.int x1), some (.int x2), none] [.int s0] h := by
  exact g_if_ne (tgt := 12) dX5_aim_5 (by decide) (fun hc => k1 hc) (fun hc => by refine g_forget (mask := [false, false, false, true]) (L' := [none, none, none, none]) rfl ?_; exact k2 hc)
theorem sX5_aim_12 {post : Option Value → PH → Prop} {h : PH} {x1 x2 : Int32} (k1 : x2 = (-1) → G 3 mX5_aim post 29 [some (.ref 15), some (.int x1), some (.int x2), none] [] h) (k2 : ¬ x2 = (-1) → G 3 mX5_aim post 17 [some (.ref 15), some (.int x1), some (.int x2), none] [] h) : G 3 mX5_aim post 12 [some (.ref 15), some (.int x1), some (.int x2), none] [] h := by
  refine g_iload_n dX5_aim_12 rfl ?_
  refine g_iconst (v := (-1)) dX5_aim_13 rfl ?_
  exact g_icmp_eq (tgt := 29) dX5_aim_14 (by decide) (fun hc => k1 hc) (fun hc => k2 hc)
theorem sX5_aim_8 {post : Option Value → PH → Prop} {h : PH} (k : post (some (.int (-1002))) h) : G 3 mX5_aim post 8 [none, none, none, none] [] h := by
  refine g_sipush (v := (-1002)) dX5_aim_8 rfl ?_
  exact g_ireturn (ty := .int) dX5_aim_11 rfl rfl k
theorem sX5_aim_29 {post : Option Value → PH → Prop} {h : PH} {x1 x2 : Int32} (k : Ev 0 mX5_asTheyAre [.ref 15] h (fun r h' => G 3 mX5_aim post 33 [some (.ref 15), some (.int x1), some (.int x2), none] (r.toList ++ []) h')) : G 3 mX5_aim post 29 [some (.ref 15), some (.int x1), some (.int x2), none] [] h := by
  refine g_aload_n dX5_aim_29 rfl ?_
  exact g_callV (n := 0) (b := 15) (as := []) (rest := []) dX5_aim_30 kX5_asTheyAre lX5_90 (by decide) rfl ⟨_, _, rfl⟩ rfl rfl (by simp only [List.map, Value.category]; decide) (by decide) k
theorem sX5_aim_17 {post : Option Value → PH → Prop} {h : PH} {x1 x2 : Int32} (k : Ev 1 mX5_isPatch [.ref 15, .int x2] h (fun r h' => G 3 mX5_aim post 22 [some (.ref 15), some (.int x1), some (.int x2), none] (r.toList ++ []) h')) : G 3 mX5_aim post 17 [some (.ref 15), some (.int x1), some (.int x2), none] [] h := by
  refine g_aload_n dX5_aim_17 rfl ?_
  refine g_iload_n dX5_aim_18 rfl ?_
  exact g_callV (n := 1) (b := 15) (as := [.int x2]) (rest := []) dX5_aim_19 kX5_isPatch lX5_84 (by decide) rfl ⟨_, _, rfl⟩ rfl rfl (by simp only [List.map, Value.category]; decide) (by decide) k
theorem sX5_aim_33 {post : Option Value → PH → Prop} {h : PH} {x1 x2 : Int32} (hb1 : vp_in x1 5) (k : Ev 0 mX5_has [.int (h.1 15 9), .int x1] ((upd2 h.1 21 (Int32.toNatClampNeg x1) x2), h.2) (fun r h' => G 3 mX5_aim post 48 [some (.ref 15), some (.int x1), some (.int x2), none] (r.toList ++ []) h')) : G 3 mX5_aim post 33 [some (.ref 15), some (.int x1), some (.int x2), none] [] h := by
  refine g_aload_n dX5_aim_33 rfl ?_
  refine g_getfield (kd := 23) (v := .ref 21) dX5_aim_34 fX5_25 (by decide) rfl rfl rfl rfl ?_
  refine g_iload_n dX5_aim_37 rfl ?_
  refine g_iload_n dX5_aim_38 rfl ?_
  refine g_iastore (n := 5) dX5_aim_39 (by decide) rfl rfl rfl hb1 ?_
  refine g_aload_n dX5_aim_40 rfl ?_
  refine g_getfield (kd := 0) (v := .int (h.1 15 9)) dX5_aim_41 fX5_66 (by decide) rfl rfl rfl rfl ?_
  refine g_iload_n dX5_aim_44 rfl ?_
  exact g_callS (n := 2) (as := [.int (h.1 15 9), .int x1]) (rest := []) dX5_aim_45 kX5_has lX5_76 rfl rfl (by simp only [List.map, Value.category]; decide) (by decide) k
theorem sX5_aim_22 {post : Option Value → PH → Prop} {h : PH} {x1 x2 s0 : Int32} (k1 : ¬ s0 = 0 → G 3 mX5_aim post 29 [some (.ref 15), some (.int x1), some (.int x2), none] [] h) (k2 : s0 = 0 → G 3 mX5_aim post 25 [none, none, none, none] [] h) : G 3 mX5_aim post 22 [some (.ref 15), some (.int x1), some (.int x2), none] [.int s0] h := by
  exact g_if_ne (tgt := 29) dX5_aim_22 (by decide) (fun hc => k1 hc) (fun hc => by refine g_forget (mask := [false, false, false, true]) (L' := [none, none, none, none]) rfl ?_; exact k2 hc)
theorem sX5_aim_48 {post : Option Value → PH → Prop} {h : PH} {x1 x2 s0 : Int32} (k1 : ¬ s0 = 0 → G 3 mX5_aim post 64 [none, none, none, none] [] h) (k2 : s0 = 0 → G 3 mX5_aim post 51 [some (.ref 15), some (.int x1), some (.int x2), none] [] h) : G 3 mX5_aim post 48 [some (.ref 15), some (.int x1), some (.int x2), none] [.int s0] h := by
  exact g_if_ne (tgt := 64) dX5_aim_48 (by decide) (fun hc => by refine g_forget (mask := [false, false, false, true]) (L' := [none, none, none, none]) rfl ?_; exact k1 hc) (fun hc => k2 hc)
theorem sX5_aim_25 {post : Option Value → PH → Prop} {h : PH} (k : post (some (.int (-1003))) h) : G 3 mX5_aim post 25 [none, none, none, none] [] h := by
  refine g_sipush (v := (-1003)) dX5_aim_25 rfl ?_
  exact g_ireturn (ty := .int) dX5_aim_28 rfl rfl k
theorem sX5_aim_64 {post : Option Value → PH → Prop} {h : PH} (k : post (some (.int (-1004))) h) : G 3 mX5_aim post 64 [none, none, none, none] [] h := by
  refine g_sipush (v := (-1004)) dX5_aim_64 rfl ?_
  exact g_ireturn (ty := .int) dX5_aim_67 rfl rfl k
theorem sX5_aim_51 {post : Option Value → PH → Prop} {h : PH} {x1 x2 : Int32} (k1 : x2 = (-1) → G 3 mX5_aim post 68 [some (.ref 15), some (.int x1), some (.int x2), none] [] h) (k2 : ¬ x2 = (-1) → G 3 mX5_aim post 56 [some (.ref 15), some (.int x1), some (.int x2), none] [] h) : G 3 mX5_aim post 51 [some (.ref 15), some (.int x1), some (.int x2), none] [] h := by
  refine g_iload_n dX5_aim_51 rfl ?_
  refine g_iconst (v := (-1)) dX5_aim_52 rfl ?_
  exact g_icmp_eq (tgt := 68) dX5_aim_53 (by decide) (fun hc => k1 hc) (fun hc => k2 hc)
theorem sX5_aim_68 {post : Option Value → PH → Prop} {h : PH} {x1 x2 : Int32} (hb1 : vp_in x1 5) (hb2 : vp_in x1 5) (k : post (some (.int (h.1 19 (Int32.toNatClampNeg x1)))) ((upd2 (upd2 h.1 19 (Int32.toNatClampNeg x1) x2) 15 11 ((h.1 15 11) + 1)), h.2)) : G 3 mX5_aim post 68 [some (.ref 15), some (.int x1), some (.int x2), none] [] h := by
  refine g_aload_n dX5_aim_68 rfl ?_
  refine g_getfield (kd := 21) (v := .ref 19) dX5_aim_69 fX5_19 (by decide) rfl rfl rfl rfl ?_
  refine g_iload_n dX5_aim_72 rfl ?_
  refine g_iaload (n := 5) dX5_aim_73 (by decide) rfl rfl rfl hb1 ?_
  refine g_istore_n (L' := [some (.ref 15), some (.int x1), some (.int x2), some (.int (h.1 19 (Int32.toNatClampNeg x1)))]) dX5_aim_74 rfl (by decide) rfl ?_
  refine g_aload_n dX5_aim_75 rfl ?_
  refine g_getfield (kd := 21) (v := .ref 19) dX5_aim_76 fX5_19 (by decide) rfl rfl rfl rfl ?_
  refine g_iload_n dX5_aim_79 rfl ?_
  refine g_iload_n dX5_aim_80 rfl ?_
  refine g_iastore (n := 5) dX5_aim_81 (by decide) rfl rfl rfl hb2 ?_
  refine g_aload_n dX5_aim_82 rfl ?_
  refine g_dup dX5_aim_83 rfl ?_
  refine g_getfield (kd := 0) (v := .int (h.1 15 11)) dX5_aim_84 fX5_97 (by decide) rfl rfl rfl rfl ?_
  refine g_iconst (v := 1) dX5_aim_87 rfl ?_
  refine g_iadd dX5_aim_88 ?_
  refine g_putfield dX5_aim_89 fX5_97 (by decide) rfl rfl rfl rfl rfl ?_
  refine g_iload_n dX5_aim_92 rfl ?_
  exact g_ireturn (ty := .int) dX5_aim_93 rfl rfl k
theorem sX5_aim_56 {post : Option Value → PH → Prop} {h : PH} {x1 x2 : Int32} (k : Ev 2 mX5_isGood [.ref 15, .int 0] h (fun r h' => G 3 mX5_aim post 61 [some (.ref 15), some (.int x1), some (.int x2), none] (r.toList ++ []) h')) : G 3 mX5_aim post 56 [some (.ref 15), some (.int x1), some (.int x2), none] [] h := by
  refine g_aload_n dX5_aim_56 rfl ?_
  refine g_iconst (v := 0) dX5_aim_57 rfl ?_
  exact g_callV (n := 1) (b := 15) (as := [.int 0]) (rest := []) dX5_aim_58 kX5_isGood lX5_93 (by decide) rfl ⟨_, _, rfl⟩ rfl rfl (by simp only [List.map, Value.category]; decide) (by decide) k
theorem sX5_aim_61 {post : Option Value → PH → Prop} {h : PH} {x1 x2 s0 : Int32} (k1 : ¬ s0 = 0 → G 3 mX5_aim post 68 [some (.ref 15), some (.int x1), some (.int x2), none] [] h) (k2 : s0 = 0 → G 3 mX5_aim post 64 [none, none, none, none] [] h) : G 3 mX5_aim post 61 [some (.ref 15), some (.int x1), some (.int x2), none] [.int s0] h := by
  exact g_if_ne (tgt := 68) dX5_aim_61 (by decide) (fun hc => k1 hc) (fun hc => by refine g_forget (mask := [false, false, false, true]) (L' := [none, none, none, none]) rfl ?_; exact k2 hc)
theorem sX5_ofMirror_0 {post : Option Value → PH → Prop} {h : PH} {x1 x2 : Int32} (kd : (Int32.toInt x2) < 0 ∨ 4 < (Int32.toInt x2) → G 2 mX5_ofMirror post 75 [some (.ref 15), some (.int x1), none] [] h) (k0 : (Int32.toInt x2) = 0 → G 2 mX5_ofMirror post 36 [some (.ref 15), some (.int x1), none] [] h) (k1 : (Int32.toInt x2) = 1 → G 2 mX5_ofMirror post 43 [some (.ref 15), some (.int x1), none] [] h) (k2 : (Int32.toInt x2) = 2 → G 2 mX5_ofMirror post 50 [some (.ref 15), some (.int x1), none] [] h) (k3 : (Int32.toInt x2) = 3 → G 2 mX5_ofMirror post 57 [some (.ref 15), some (.int x1), none] [] h) (k4 : (Int32.toInt x2) = 4 → G 2 mX5_ofMirror post 66 [some (.ref 15), some (.int x1), none] [] h) : G 2 mX5_ofMirror post 0 [some (.ref 15), some (.int x1), some (.int x2)] [] h := by
  refine g_iload_n dX5_ofMirror_0 rfl ?_
  by_cases hc : (Int32.toInt x2) < 0 ∨ 4 < (Int32.toInt x2)
  · exact g_tableOut (tgt := 75) dX5_ofMirror_1 hc (by decide) (by refine g_forget (mask := [true, true, false]) (L' := [some (.ref 15), some (.int x1), none]) rfl ?_; exact kd hc)
  rcases (show (Int32.toInt x2) = 0 ∨ (Int32.toInt x2) = 1 ∨ (Int32.toInt x2) = 2 ∨ (Int32.toInt x2) = 3 ∨ (Int32.toInt x2) = 4 by omega) with hv | hv | hv | hv | hv
  · exact g_tableIn (tgt := 36) dX5_ofMirror_1 (by omega) (by omega) (by rw [hv]; rfl) (by decide) (by refine g_forget (mask := [true, true, false]) (L' := [some (.ref 15), some (.int x1), none]) rfl ?_; exact k0 hv)
  · exact g_tableIn (tgt := 43) dX5_ofMirror_1 (by omega) (by omega) (by rw [hv]; rfl) (by decide) (by refine g_forget (mask := [true, true, false]) (L' := [some (.ref 15), some (.int x1), none]) rfl ?_; exact k1 hv)
  · exact g_tableIn (tgt := 50) dX5_ofMirror_1 (by omega) (by omega) (by rw [hv]; rfl) (by decide) (by refine g_forget (mask := [true, true, false]) (L' := [some (.ref 15), some (.int x1), none]) rfl ?_; exact k2 hv)
  · exact g_tableIn (tgt := 57) dX5_ofMirror_1 (by omega) (by omega) (by rw [hv]; rfl) (by decide) (by refine g_forget (mask := [true, true, false]) (L' := [some (.ref 15), some (.int x1), none]) rfl ?_; exact k3 hv)
  · exact g_tableIn (tgt := 66) dX5_ofMirror_1 (by omega) (by omega) (by rw [hv]; rfl) (by decide) (by refine g_forget (mask := [true, true, false]) (L' := [some (.ref 15), some (.int x1), none]) rfl ?_; exact k4 hv)
theorem sX5_ofMirror_75 {post : Option Value → PH → Prop} {h : PH} {x1 : Int32} (k : Ev 0 mX5_has [.int (h.1 15 8), .int x1] h (fun r h' => G 2 mX5_ofMirror post 83 [some (.ref 15), some (.int x1), none] (r.toList ++ []) h')) : G 2 mX5_ofMirror post 75 [some (.ref 15), some (.int x1), none] [] h := by
  refine g_aload_n dX5_ofMirror_75 rfl ?_
  refine g_getfield (kd := 0) (v := .int (h.1 15 8)) dX5_ofMirror_76 fX5_63 (by decide) rfl rfl rfl rfl ?_
  refine g_iload_n dX5_ofMirror_79 rfl ?_
  exact g_callS (n := 2) (as := [.int (h.1 15 8), .int x1]) (rest := []) dX5_ofMirror_80 kX5_has lX5_76 rfl rfl (by simp only [List.map, Value.category]; decide) (by decide) k
theorem sX5_ofMirror_36 {post : Option Value → PH → Prop} {h : PH} {x1 : Int32} (hb1 : vp_in x1 5) (k : post (some (.int (h.1 17 (Int32.toNatClampNeg x1)))) h) : G 2 mX5_ofMirror post 36 [some (.ref 15), some (.int x1), none] [] h := by
  refine g_aload_n dX5_ofMirror_36 rfl ?_
  refine g_getfield (kd := 19) (v := .ref 17) dX5_ofMirror_37 fX5_13 (by decide) rfl rfl rfl rfl ?_
  refine g_iload_n dX5_ofMirror_40 rfl ?_
  refine g_iaload (n := 5) dX5_ofMirror_41 (by decide) rfl rfl rfl hb1 ?_
  exact g_ireturn (ty := .int) dX5_ofMirror_42 rfl rfl k
theorem sX5_ofMirror_43 {post : Option Value → PH → Prop} {h : PH} {x1 : Int32} (hb1 : vp_in x1 5) (k : post (some (.int (h.1 18 (Int32.toNatClampNeg x1)))) h) : G 2 mX5_ofMirror post 43 [some (.ref 15), some (.int x1), none] [] h := by
  refine g_aload_n dX5_ofMirror_43 rfl ?_
  refine g_getfield (kd := 20) (v := .ref 18) dX5_ofMirror_44 fX5_16 (by decide) rfl rfl rfl rfl ?_
  refine g_iload_n dX5_ofMirror_47 rfl ?_
  refine g_iaload (n := 5) dX5_ofMirror_48 (by decide) rfl rfl rfl hb1 ?_
  exact g_ireturn (ty := .int) dX5_ofMirror_49 rfl rfl k
theorem sX5_ofMirror_50 {post : Option Value → PH → Prop} {h : PH} {x1 : Int32} (hb1 : vp_in x1 5) (k : post (some (.int (h.1 19 (Int32.toNatClampNeg x1)))) h) : G 2 mX5_ofMirror post 50 [some (.ref 15), some (.int x1), none] [] h := by
  refine g_aload_n dX5_ofMirror_50 rfl ?_
  refine g_getfield (kd := 21) (v := .ref 19) dX5_ofMirror_51 fX5_19 (by decide) rfl rfl rfl rfl ?_
  refine g_iload_n dX5_ofMirror_54 rfl ?_
  refine g_iaload (n := 5) dX5_ofMirror_55 (by decide) rfl rfl rfl hb1 ?_
  exact g_ireturn (ty := .int) dX5_ofMirror_56 rfl rfl k
theorem sX5_ofMirror_57 {post : Option Value → PH → Prop} {h : PH} {x1 : Int32} (k : post (some (.int (((h.1 15 8) >>> (x1 &&& 31)) &&& 1))) h) : G 2 mX5_ofMirror post 57 [some (.ref 15), some (.int x1), none] [] h := by
  refine g_aload_n dX5_ofMirror_57 rfl ?_
  refine g_getfield (kd := 0) (v := .int (h.1 15 8)) dX5_ofMirror_58 fX5_63 (by decide) rfl rfl rfl rfl ?_
  refine g_iload_n dX5_ofMirror_61 rfl ?_
  refine g_ishr dX5_ofMirror_62 ?_
  refine g_iconst (v := 1) dX5_ofMirror_63 rfl ?_
  refine g_iand dX5_ofMirror_64 ?_
  exact g_ireturn (ty := .int) dX5_ofMirror_65 rfl rfl k
theorem sX5_ofMirror_66 {post : Option Value → PH → Prop} {h : PH} {x1 : Int32} (k : post (some (.int (((h.1 15 9) >>> (x1 &&& 31)) &&& 1))) h) : G 2 mX5_ofMirror post 66 [some (.ref 15), some (.int x1), none] [] h := by
  refine g_aload_n dX5_ofMirror_66 rfl ?_
  refine g_getfield (kd := 0) (v := .int (h.1 15 9)) dX5_ofMirror_67 fX5_66 (by decide) rfl rfl rfl rfl ?_
  refine g_iload_n dX5_ofMirror_70 rfl ?_
  refine g_ishr dX5_ofMirror_71 ?_
  refine g_iconst (v := 1) dX5_ofMirror_72 rfl ?_
  refine g_iand dX5_ofMirror_73 ?_
  exact g_ireturn (ty := .int) dX5_ofMirror_74 rfl rfl k
theorem sX5_ofMirror_83 {post : Option Value → PH → Prop} {h : PH} {x1 s0 : Int32} (k1 : s0 = 0 → G 2 mX5_ofMirror post 90 [some (.ref 15), some (.int x1), none] [] h) (k2 : ¬ s0 = 0 → G 2 mX5_ofMirror post 86 [none, none, none] [] h) : G 2 mX5_ofMirror post 83 [some (.ref 15), some (.int x1), none] [.int s0] h := by
  exact g_if_eq (tgt := 90) dX5_ofMirror_83 (by decide) (fun hc => k1 hc) (fun hc => by refine g_forget (mask := [false, false, true]) (L' := [none, none, none]) rfl ?_; exact k2 hc)
theorem sX5_ofMirror_90 {post : Option Value → PH → Prop} {h : PH} {x1 : Int32} (hb1 : vp_in x1 5) (k : Ev 1 mX5_givesAll [.ref 15, .int x1, .int (h.1 19 (Int32.toNatClampNeg x1))] h (fun r h' => G 2 mX5_ofMirror post 101 [none, none, none] (r.toList ++ []) h')) : G 2 mX5_ofMirror post 90 [some (.ref 15), some (.int x1), none] [] h := by
  refine g_aload_n dX5_ofMirror_90 rfl ?_
  refine g_iload_n dX5_ofMirror_91 rfl ?_
  refine g_aload_n dX5_ofMirror_92 rfl ?_
  refine g_getfield (kd := 21) (v := .ref 19) dX5_ofMirror_93 fX5_19 (by decide) rfl rfl rfl rfl ?_
  refine g_iload_n dX5_ofMirror_96 rfl ?_
  refine g_iaload (n := 5) dX5_ofMirror_97 (by decide) rfl rfl rfl hb1 ?_
  refine g_forget (mask := [false, false, true]) (L' := [none, none, none]) rfl ?_
  exact g_callV (n := 2) (b := 15) (as := [.int x1, .int (h.1 19 (Int32.toNatClampNeg x1))]) (rest := []) dX5_ofMirror_98 kX5_givesAll lX5_100 (by decide) rfl ⟨_, _, rfl⟩ rfl rfl (by simp only [List.map, Value.category]; decide) (by decide) k
theorem sX5_ofMirror_86 {post : Option Value → PH → Prop} {h : PH} (k : post (some (.int 0)) h) : G 2 mX5_ofMirror post 86 [none, none, none] [] h := by
  refine g_iconst (v := 0) dX5_ofMirror_86 rfl ?_
  refine g_goto (tgt := 101) dX5_ofMirror_87 (by decide) ?_
  exact g_ireturn (ty := .int) dX5_ofMirror_101 rfl rfl k
theorem sX5_ofMirror_101 {post : Option Value → PH → Prop} {h : PH} {s0 : Int32} (k : post (some (.int s0)) h) : G 2 mX5_ofMirror post 101 [none, none, none] [.int s0] h := by
  exact g_ireturn (ty := .int) dX5_ofMirror_101 rfl rfl k
theorem sX5_mirror_0 {post : Option Value → PH → Prop} {h : PH} {x1 x2 : Int32} (k : Ev 1 mX5_isMirror [.ref 15, .int x1] h (fun r h' => G 3 mX5_mirror post 5 [some (.ref 15), some (.int x1), some (.int x2)] (r.toList ++ []) h')) : G 3 mX5_mirror post 0 [some (.ref 15), some (.int x1), some (.int x2)] [] h := by
  refine g_aload_n dX5_mirror_0 rfl ?_
  refine g_iload_n dX5_mirror_1 rfl ?_
  exact g_callV (n := 1) (b := 15) (as := [.int x1]) (rest := []) dX5_mirror_2 kX5_isMirror lX5_87 (by decide) rfl ⟨_, _, rfl⟩ rfl rfl (by simp only [List.map, Value.category]; decide) (by decide) k
theorem sX5_mirror_5 {post : Option Value → PH → Prop} {h : PH} {x1 x2 s0 : Int32} (k1 : ¬ s0 = 0 → G 3 mX5_mirror post 12 [some (.ref 15), some (.int x1), some (.int x2)] [] h) (k2 : s0 = 0 → G 3 mX5_mirror post 8 [none, none, none] [] h) : G 3 mX5_mirror post 5 [some (.ref 15), some (.int x1), some (.int x2)] [.int s0] h := by
  exact g_if_ne (tgt := 12) dX5_mirror_5 (by decide) (fun hc => k1 hc) (fun hc => by refine g_forget (mask := [false, false, false]) (L' := [none, none, none]) rfl ?_; exact k2 hc)
theorem sX5_mirror_12 {post : Option Value → PH → Prop} {h : PH} {x1 x2 : Int32} (k : Ev 0 mX5_within [.int x2, .int 0, .int 5] h (fun r h' => G 3 mX5_mirror post 18 [some (.ref 15), some (.int x1), some (.int x2)] (r.toList ++ []) h')) : G 3 mX5_mirror post 12 [some (.ref 15), some (.int x1), some (.int x2)] [] h := by
  refine g_iload_n dX5_mirror_12 rfl ?_
  refine g_iconst (v := 0) dX5_mirror_13 rfl ?_
  refine g_iconst (v := 5) dX5_mirror_14 rfl ?_
  exact g_callS (n := 3) (as := [.int x2, .int 0, .int 5]) (rest := []) dX5_mirror_15 kX5_within lX5_41 rfl rfl (by simp only [List.map, Value.category]; decide) (by decide) k
theorem sX5_mirror_8 {post : Option Value → PH → Prop} {h : PH} (k : post (some (.int (-1002))) h) : G 3 mX5_mirror post 8 [none, none, none] [] h := by
  refine g_sipush (v := (-1002)) dX5_mirror_8 rfl ?_
  exact g_ireturn (ty := .int) dX5_mirror_11 rfl rfl k
theorem sX5_mirror_18 {post : Option Value → PH → Prop} {h : PH} {x1 x2 s0 : Int32} (k1 : s0 = 0 → G 3 mX5_mirror post 30 [none, none, none] [] h) (k2 : ¬ s0 = 0 → G 3 mX5_mirror post 21 [some (.ref 15), some (.int x1), some (.int x2)] [] h) : G 3 mX5_mirror post 18 [some (.ref 15), some (.int x1), some (.int x2)] [.int s0] h := by
  exact g_if_eq (tgt := 30) dX5_mirror_18 (by decide) (fun hc => by refine g_forget (mask := [false, false, false]) (L' := [none, none, none]) rfl ?_; exact k1 hc) (fun hc => k2 hc)
theorem sX5_mirror_30 {post : Option Value → PH → Prop} {h : PH} (k : post (some (.int (-1003))) h) : G 3 mX5_mirror post 30 [none, none, none] [] h := by
  refine g_sipush (v := (-1003)) dX5_mirror_30 rfl ?_
  exact g_ireturn (ty := .int) dX5_mirror_33 rfl rfl k
theorem sX5_mirror_21 {post : Option Value → PH → Prop} {h : PH} {x1 x2 : Int32} (k : Ev 2 mX5_ofMirror [.ref 15, .int x1, .int x2] h (fun r h' => G 3 mX5_mirror post 27 [none, none, none] (r.toList ++ []) h')) : G 3 mX5_mirror post 21 [some (.ref 15), some (.int x1), some (.int x2)] [] h := by
  refine g_aload_n dX5_mirror_21 rfl ?_
  refine g_iload_n dX5_mirror_22 rfl ?_
  refine g_iload_n dX5_mirror_23 rfl ?_
  refine g_forget (mask := [false, false, false]) (L' := [none, none, none]) rfl ?_
  exact g_callV (n := 2) (b := 15) (as := [.int x1, .int x2]) (rest := []) dX5_mirror_24 kX5_ofMirror lX5_104 (by decide) rfl ⟨_, _, rfl⟩ rfl rfl (by simp only [List.map, Value.category]; decide) (by decide) k
theorem sX5_mirror_27 {post : Option Value → PH → Prop} {h : PH} {s0 : Int32} (k : post (some (.int s0)) h) : G 3 mX5_mirror post 27 [none, none, none] [.int s0] h := by
  refine g_goto (tgt := 33) dX5_mirror_27 (by decide) ?_
  exact g_ireturn (ty := .int) dX5_mirror_33 rfl rfl k
theorem sX5_aimedAt_0 {post : Option Value → PH → Prop} {h : PH} {x1 : Int32} (k : G 0 mX5_aimedAt post 4 [some (.ref 15), some (.int x1), some (.int 0), some (.int 0)] [] h) : G 0 mX5_aimedAt post 0 [some (.ref 15), some (.int x1), none, none] [] h := by
  refine g_iconst (v := 0) dX5_aimedAt_0 rfl ?_
  refine g_istore_n (L' := [some (.ref 15), some (.int x1), some (.int 0), none]) dX5_aimedAt_1 rfl (by decide) rfl ?_
  refine g_iconst (v := 0) dX5_aimedAt_2 rfl ?_
  refine g_istore_n (L' := [some (.ref 15), some (.int x1), some (.int 0), some (.int 0)]) dX5_aimedAt_3 rfl (by decide) rfl ?_
  exact k
theorem sX5_aimedAt_4 {post : Option Value → PH → Prop} {h : PH} {x1 x2 x3 : Int32} (k1 : (h.1 15 2) ≤ x3 → G 0 mX5_aimedAt post 36 [none, none, some (.int x2), none] [] h) (k2 : ¬ (h.1 15 2) ≤ x3 → G 0 mX5_aimedAt post 12 [some (.ref 15), some (.int x1), some (.int x2), some (.int x3)] [] h) : G 0 mX5_aimedAt post 4 [some (.ref 15), some (.int x1), some (.int x2), some (.int x3)] [] h := by
  refine g_iload_n dX5_aimedAt_4 rfl ?_
  refine g_aload_n dX5_aimedAt_5 rfl ?_
  refine g_getfield (kd := 0) (v := .int (h.1 15 2)) dX5_aimedAt_6 fX5_60 (by decide) rfl rfl rfl rfl ?_
  exact g_icmp_ge (tgt := 36) dX5_aimedAt_9 (by decide) (fun hc => by refine g_forget (mask := [false, false, true, false]) (L' := [none, none, some (.int x2), none]) rfl ?_; exact k1 hc) (fun hc => k2 hc)
theorem sX5_aimedAt_36 {post : Option Value → PH → Prop} {h : PH} {x2 : Int32} (k : post (some (.int x2)) h) : G 0 mX5_aimedAt post 36 [none, none, some (.int x2), none] [] h := by
  refine g_iload_n dX5_aimedAt_36 rfl ?_
  exact g_ireturn (ty := .int) dX5_aimedAt_37 rfl rfl k
theorem sX5_aimedAt_12 {post : Option Value → PH → Prop} {h : PH} {x1 x2 x3 : Int32} (hb1 : vp_in x3 5) (k1 : ¬ (h.1 19 (Int32.toNatClampNeg x3)) = x1 → G 0 mX5_aimedAt post 27 [some (.ref 15), some (.int x1), none, some (.int x3)] [.int x2] h) (k2 : (h.1 19 (Int32.toNatClampNeg x3)) = x1 → G 0 mX5_aimedAt post 23 [some (.ref 15), some (.int x1), none, some (.int x3)] [.int x2] h) : G 0 mX5_aimedAt post 12 [some (.ref 15), some (.int x1), some (.int x2), some (.int x3)] [] h := by
  refine g_iload_n dX5_aimedAt_12 rfl ?_
  refine g_aload_n dX5_aimedAt_13 rfl ?_
  refine g_getfield (kd := 21) (v := .ref 19) dX5_aimedAt_14 fX5_19 (by decide) rfl rfl rfl rfl ?_
  refine g_iload_n dX5_aimedAt_17 rfl ?_
  refine g_iaload (n := 5) dX5_aimedAt_18 (by decide) rfl rfl rfl hb1 ?_
  refine g_iload_n dX5_aimedAt_19 rfl ?_
  exact g_icmp_ne (tgt := 27) dX5_aimedAt_20 (by decide) (fun hc => by refine g_forget (mask := [true, true, false, true]) (L' := [some (.ref 15), some (.int x1), none, some (.int x3)]) rfl ?_; exact k1 hc) (fun hc => by refine g_forget (mask := [true, true, false, true]) (L' := [some (.ref 15), some (.int x1), none, some (.int x3)]) rfl ?_; exact k2 hc)
theorem sX5_aimedAt_27 {post : Option Value → PH → Prop} {h : PH} {x1 x3 s0 : Int32} (k : G 0 mX5_aimedAt post 4 [some (.ref 15), some (.int x1), some (.int (s0 + 0)), some (.int (x3 + 1))] [] h) : G 0 mX5_aimedAt post 27 [some (.ref 15), some (.int x1), none, some (.int x3)] [.int s0] h := by
  refine g_iconst (v := 0) dX5_aimedAt_27 rfl ?_
  refine g_iadd dX5_aimedAt_28 ?_
  refine g_istore_n (L' := [some (.ref 15), some (.int x1), some (.int (s0 + 0)), some (.int x3)]) dX5_aimedAt_29 rfl (by decide) rfl ?_
  refine g_iinc (v := (x3 + 1)) (L' := [some (.ref 15), some (.int x1), some (.int (s0 + 0)), some (.int (x3 + 1))]) dX5_aimedAt_30 rfl rfl rfl (by decide) rfl ?_
  refine g_goto (tgt := 4) dX5_aimedAt_33 (by decide) ?_
  exact k
theorem sX5_aimedAt_23 {post : Option Value → PH → Prop} {h : PH} {x1 x3 s0 : Int32} (k : G 0 mX5_aimedAt post 4 [some (.ref 15), some (.int x1), some (.int (s0 + 1)), some (.int (x3 + 1))] [] h) : G 0 mX5_aimedAt post 23 [some (.ref 15), some (.int x1), none, some (.int x3)] [.int s0] h := by
  refine g_iconst (v := 1) dX5_aimedAt_23 rfl ?_
  refine g_goto (tgt := 28) dX5_aimedAt_24 (by decide) ?_
  refine g_iadd dX5_aimedAt_28 ?_
  refine g_istore_n (L' := [some (.ref 15), some (.int x1), some (.int (s0 + 1)), some (.int x3)]) dX5_aimedAt_29 rfl (by decide) rfl ?_
  refine g_iinc (v := (x3 + 1)) (L' := [some (.ref 15), some (.int x1), some (.int (s0 + 1)), some (.int (x3 + 1))]) dX5_aimedAt_30 rfl rfl rfl (by decide) rfl ?_
  refine g_goto (tgt := 4) dX5_aimedAt_33 (by decide) ?_
  exact k
theorem sX5_ofPatch_0 {post : Option Value → PH → Prop} {h : PH} {x1 x2 : Int32} (k : Ev 0 mX5_asTheyAre [.ref 15] h (fun r h' => G 2 mX5_ofPatch post 4 [some (.ref 15), some (.int x1), some (.int x2)] (r.toList ++ []) h')) : G 2 mX5_ofPatch post 0 [some (.ref 15), some (.int x1), some (.int x2)] [] h := by
  refine g_aload_n dX5_ofPatch_0 rfl ?_
  exact g_callV (n := 0) (b := 15) (as := []) (rest := []) dX5_ofPatch_1 kX5_asTheyAre lX5_90 (by decide) rfl ⟨_, _, rfl⟩ rfl rfl (by simp only [List.map, Value.category]; decide) (by decide) k
theorem sX5_ofPatch_4 {post : Option Value → PH → Prop} {h : PH} {x1 x2 : Int32} (k1 : ¬ x2 = 0 → G 2 mX5_ofPatch post 17 [some (.ref 15), some (.int x1), some (.int x2)] [] h) (k2 : x2 = 0 → G 2 mX5_ofPatch post 8 [some (.ref 15), some (.int x1), none] [] h) : G 2 mX5_ofPatch post 4 [some (.ref 15), some (.int x1), some (.int x2)] [] h := by
  refine g_iload_n dX5_ofPatch_4 rfl ?_
  exact g_if_ne (tgt := 17) dX5_ofPatch_5 (by decide) (fun hc => k1 hc) (fun hc => by refine g_forget (mask := [true, true, false]) (L' := [some (.ref 15), some (.int x1), none]) rfl ?_; exact k2 hc)
theorem sX5_ofPatch_17 {post : Option Value → PH → Prop} {h : PH} {x1 x2 : Int32} (k1 : ¬ x2 = 1 → G 2 mX5_ofPatch post 31 [some (.ref 15), some (.int x1), some (.int x2)] [] h) (k2 : x2 = 1 → G 2 mX5_ofPatch post 22 [some (.ref 15), some (.int x1), none] [] h) : G 2 mX5_ofPatch post 17 [some (.ref 15), some (.int x1), some (.int x2)] [] h := by
  refine g_iload_n dX5_ofPatch_17 rfl ?_
  refine g_iconst (v := 1) dX5_ofPatch_18 rfl ?_
  exact g_icmp_ne (tgt := 31) dX5_ofPatch_19 (by decide) (fun hc => k1 hc) (fun hc => by refine g_forget (mask := [true, true, false]) (L' := [some (.ref 15), some (.int x1), none]) rfl ?_; exact k2 hc)
theorem sX5_ofPatch_8 {post : Option Value → PH → Prop} {h : PH} {x1 : Int32} (k : Ev 1 mX5_heatAt [.ref 15, .int x1, .int 0] h (fun r h' => G 2 mX5_ofPatch post 14 [none, none, none] (r.toList ++ []) h')) : G 2 mX5_ofPatch post 8 [some (.ref 15), some (.int x1), none] [] h := by
  refine g_aload_n dX5_ofPatch_8 rfl ?_
  refine g_iload_n dX5_ofPatch_9 rfl ?_
  refine g_iconst (v := 0) dX5_ofPatch_10 rfl ?_
  refine g_forget (mask := [false, false, true]) (L' := [none, none, none]) rfl ?_
  exact g_callV (n := 2) (b := 15) (as := [.int x1, .int 0]) (rest := []) dX5_ofPatch_11 kX5_heatAt lX5_80 (by decide) rfl ⟨_, _, rfl⟩ rfl rfl (by simp only [List.map, Value.category]; decide) (by decide) k
theorem sX5_ofPatch_31 {post : Option Value → PH → Prop} {h : PH} {x1 x2 : Int32} (k1 : ¬ x2 = 2 → G 2 mX5_ofPatch post 45 [some (.ref 15), some (.int x1), none] [] h) (k2 : x2 = 2 → G 2 mX5_ofPatch post 36 [some (.ref 15), some (.int x1), none] [] h) : G 2 mX5_ofPatch post 31 [some (.ref 15), some (.int x1), some (.int x2)] [] h := by
  refine g_iload_n dX5_ofPatch_31 rfl ?_
  refine g_iconst (v := 2) dX5_ofPatch_32 rfl ?_
  exact g_icmp_ne (tgt := 45) dX5_ofPatch_33 (by decide) (fun hc => by refine g_forget (mask := [true, true, false]) (L' := [some (.ref 15), some (.int x1), none]) rfl ?_; exact k1 hc) (fun hc => by refine g_forget (mask := [true, true, false]) (L' := [some (.ref 15), some (.int x1), none]) rfl ?_; exact k2 hc)
theorem sX5_ofPatch_22 {post : Option Value → PH → Prop} {h : PH} {x1 : Int32} (hb1 : vp_in x1 4) (k : post (some (.int (h.1 20 (Int32.toNatClampNeg x1)))) h) : G 2 mX5_ofPatch post 22 [some (.ref 15), some (.int x1), none] [] h := by
  refine g_aload_n dX5_ofPatch_22 rfl ?_
  refine g_getfield (kd := 22) (v := .ref 20) dX5_ofPatch_23 fX5_22 (by decide) rfl rfl rfl rfl ?_
  refine g_iload_n dX5_ofPatch_26 rfl ?_
  refine g_iaload (n := 4) dX5_ofPatch_27 (by decide) rfl rfl rfl hb1 ?_
  refine g_goto (tgt := 50) dX5_ofPatch_28 (by decide) ?_
  exact g_ireturn (ty := .int) dX5_ofPatch_50 rfl rfl k
theorem sX5_ofPatch_14 {post : Option Value → PH → Prop} {h : PH} {s0 : Int32} (k : post (some (.int s0)) h) : G 2 mX5_ofPatch post 14 [none, none, none] [.int s0] h := by
  refine g_goto (tgt := 50) dX5_ofPatch_14 (by decide) ?_
  exact g_ireturn (ty := .int) dX5_ofPatch_50 rfl rfl k
theorem sX5_ofPatch_45 {post : Option Value → PH → Prop} {h : PH} {x1 : Int32} (k : Ev 0 mX5_aimedAt [.ref 15, .int x1] h (fun r h' => G 2 mX5_ofPatch post 50 [none, none, none] (r.toList ++ []) h')) : G 2 mX5_ofPatch post 45 [some (.ref 15), some (.int x1), none] [] h := by
  refine g_aload_n dX5_ofPatch_45 rfl ?_
  refine g_iload_n dX5_ofPatch_46 rfl ?_
  refine g_forget (mask := [false, false, true]) (L' := [none, none, none]) rfl ?_
  exact g_callV (n := 1) (b := 15) (as := [.int x1]) (rest := []) dX5_ofPatch_47 kX5_aimedAt lX5_107 (by decide) rfl ⟨_, _, rfl⟩ rfl rfl (by simp only [List.map, Value.category]; decide) (by decide) k
theorem sX5_ofPatch_36 {post : Option Value → PH → Prop} {h : PH} {x1 : Int32} (k : Ev 1 mX5_heatAt [.ref 15, .int x1, .int 1] h (fun r h' => G 2 mX5_ofPatch post 42 [none, none, none] (r.toList ++ []) h')) : G 2 mX5_ofPatch post 36 [some (.ref 15), some (.int x1), none] [] h := by
  refine g_aload_n dX5_ofPatch_36 rfl ?_
  refine g_iload_n dX5_ofPatch_37 rfl ?_
  refine g_iconst (v := 1) dX5_ofPatch_38 rfl ?_
  refine g_forget (mask := [false, false, true]) (L' := [none, none, none]) rfl ?_
  exact g_callV (n := 2) (b := 15) (as := [.int x1, .int 1]) (rest := []) dX5_ofPatch_39 kX5_heatAt lX5_80 (by decide) rfl ⟨_, _, rfl⟩ rfl rfl (by simp only [List.map, Value.category]; decide) (by decide) k
theorem sX5_ofPatch_50 {post : Option Value → PH → Prop} {h : PH} {s0 : Int32} (k : post (some (.int s0)) h) : G 2 mX5_ofPatch post 50 [none, none, none] [.int s0] h := by
  exact g_ireturn (ty := .int) dX5_ofPatch_50 rfl rfl k
theorem sX5_ofPatch_42 {post : Option Value → PH → Prop} {h : PH} {s0 : Int32} (k : post (some (.int s0)) h) : G 2 mX5_ofPatch post 42 [none, none, none] [.int s0] h := by
  refine g_goto (tgt := 50) dX5_ofPatch_42 (by decide) ?_
  exact g_ireturn (ty := .int) dX5_ofPatch_50 rfl rfl k
theorem sX5_patch_0 {post : Option Value → PH → Prop} {h : PH} {x1 x2 : Int32} (k : Ev 1 mX5_isPatch [.ref 15, .int x1] h (fun r h' => G 3 mX5_patch post 5 [some (.ref 15), some (.int x1), some (.int x2)] (r.toList ++ []) h')) : G 3 mX5_patch post 0 [some (.ref 15), some (.int x1), some (.int x2)] [] h := by
  refine g_aload_n dX5_patch_0 rfl ?_
  refine g_iload_n dX5_patch_1 rfl ?_
  exact g_callV (n := 1) (b := 15) (as := [.int x1]) (rest := []) dX5_patch_2 kX5_isPatch lX5_84 (by decide) rfl ⟨_, _, rfl⟩ rfl rfl (by simp only [List.map, Value.category]; decide) (by decide) k
theorem sX5_patch_5 {post : Option Value → PH → Prop} {h : PH} {x1 x2 s0 : Int32} (k1 : ¬ s0 = 0 → G 3 mX5_patch post 12 [some (.ref 15), some (.int x1), some (.int x2)] [] h) (k2 : s0 = 0 → G 3 mX5_patch post 8 [none, none, none] [] h) : G 3 mX5_patch post 5 [some (.ref 15), some (.int x1), some (.int x2)] [.int s0] h := by
  exact g_if_ne (tgt := 12) dX5_patch_5 (by decide) (fun hc => k1 hc) (fun hc => by refine g_forget (mask := [false, false, false]) (L' := [none, none, none]) rfl ?_; exact k2 hc)
theorem sX5_patch_12 {post : Option Value → PH → Prop} {h : PH} {x1 x2 : Int32} (k : Ev 0 mX5_within [.int x2, .int 0, .int 3] h (fun r h' => G 3 mX5_patch post 18 [some (.ref 15), some (.int x1), some (.int x2)] (r.toList ++ []) h')) : G 3 mX5_patch post 12 [some (.ref 15), some (.int x1), some (.int x2)] [] h := by
  refine g_iload_n dX5_patch_12 rfl ?_
  refine g_iconst (v := 0) dX5_patch_13 rfl ?_
  refine g_iconst (v := 3) dX5_patch_14 rfl ?_
  exact g_callS (n := 3) (as := [.int x2, .int 0, .int 3]) (rest := []) dX5_patch_15 kX5_within lX5_41 rfl rfl (by simp only [List.map, Value.category]; decide) (by decide) k
theorem sX5_patch_8 {post : Option Value → PH → Prop} {h : PH} (k : post (some (.int (-1002))) h) : G 3 mX5_patch post 8 [none, none, none] [] h := by
  refine g_sipush (v := (-1002)) dX5_patch_8 rfl ?_
  exact g_ireturn (ty := .int) dX5_patch_11 rfl rfl k
theorem sX5_patch_18 {post : Option Value → PH → Prop} {h : PH} {x1 x2 s0 : Int32} (k1 : s0 = 0 → G 3 mX5_patch post 30 [none, none, none] [] h) (k2 : ¬ s0 = 0 → G 3 mX5_patch post 21 [some (.ref 15), some (.int x1), some (.int x2)] [] h) : G 3 mX5_patch post 18 [some (.ref 15), some (.int x1), some (.int x2)] [.int s0] h := by
  exact g_if_eq (tgt := 30) dX5_patch_18 (by decide) (fun hc => by refine g_forget (mask := [false, false, false]) (L' := [none, none, none]) rfl ?_; exact k1 hc) (fun hc => k2 hc)
theorem sX5_patch_30 {post : Option Value → PH → Prop} {h : PH} (k : post (some (.int (-1003))) h) : G 3 mX5_patch post 30 [none, none, none] [] h := by
  refine g_sipush (v := (-1003)) dX5_patch_30 rfl ?_
  exact g_ireturn (ty := .int) dX5_patch_33 rfl rfl k
theorem sX5_patch_21 {post : Option Value → PH → Prop} {h : PH} {x1 x2 : Int32} (k : Ev 2 mX5_ofPatch [.ref 15, .int x1, .int x2] h (fun r h' => G 3 mX5_patch post 27 [none, none, none] (r.toList ++ []) h')) : G 3 mX5_patch post 21 [some (.ref 15), some (.int x1), some (.int x2)] [] h := by
  refine g_aload_n dX5_patch_21 rfl ?_
  refine g_iload_n dX5_patch_22 rfl ?_
  refine g_iload_n dX5_patch_23 rfl ?_
  refine g_forget (mask := [false, false, false]) (L' := [none, none, none]) rfl ?_
  exact g_callV (n := 2) (b := 15) (as := [.int x1, .int x2]) (rest := []) dX5_patch_24 kX5_ofPatch lX5_111 (by decide) rfl ⟨_, _, rfl⟩ rfl rfl (by simp only [List.map, Value.category]; decide) (by decide) k
theorem sX5_patch_27 {post : Option Value → PH → Prop} {h : PH} {s0 : Int32} (k : post (some (.int s0)) h) : G 3 mX5_patch post 27 [none, none, none] [.int s0] h := by
  refine g_goto (tgt := 33) dX5_patch_27 (by decide) ?_
  exact g_ireturn (ty := .int) dX5_patch_33 rfl rfl k
theorem sX5_unitOf_0 {post : Option Value → PH → Prop} {h : PH} {x1 : Int32} (k : G 0 mX5_unitOf post 4 [none, some (.int x1), some (.int 1), some (.int 4)] [] h) : G 0 mX5_unitOf post 0 [some (.ref 15), some (.int x1), none, none] [] h := by
  refine g_iconst (v := 1) dX5_unitOf_0 rfl ?_
  refine g_istore_n (L' := [some (.ref 15), some (.int x1), some (.int 1), none]) dX5_unitOf_1 rfl (by decide) rfl ?_
  refine g_iconst (v := 4) dX5_unitOf_2 rfl ?_
  refine g_istore_n (L' := [some (.ref 15), some (.int x1), some (.int 1), some (.int 4)]) dX5_unitOf_3 rfl (by decide) rfl ?_
  refine g_forget (mask := [false, true, true, true]) (L' := [none, some (.int x1), some (.int 1), some (.int 4)]) rfl ?_
  exact k
theorem sX5_unitOf_4 {post : Option Value → PH → Prop} {h : PH} {x1 x2 x3 : Int32} (k1 : x3 ≤ x1 → G 0 mX5_unitOf post 19 [none, none, some (.int x2), none] [] h) (k2 : ¬ x3 ≤ x1 → G 0 mX5_unitOf post 9 [none, some (.int x1), some (.int x2), some (.int x3)] [] h) : G 0 mX5_unitOf post 4 [none, some (.int x1), some (.int x2), some (.int x3)] [] h := by
  refine g_iload_n dX5_unitOf_4 rfl ?_
  refine g_iload_n dX5_unitOf_5 rfl ?_
  exact g_icmp_le (tgt := 19) dX5_unitOf_6 (by decide) (fun hc => by refine g_forget (mask := [true, false, true, false]) (L' := [none, none, some (.int x2), none]) rfl ?_; exact k1 hc) (fun hc => k2 hc)
theorem sX5_unitOf_19 {post : Option Value → PH → Prop} {h : PH} {x2 : Int32} (k : post (some (.int x2)) h) : G 0 mX5_unitOf post 19 [none, none, some (.int x2), none] [] h := by
  refine g_iload_n dX5_unitOf_19 rfl ?_
  exact g_ireturn (ty := .int) dX5_unitOf_20 rfl rfl k
theorem sX5_unitOf_9 {post : Option Value → PH → Prop} {h : PH} {x1 x2 x3 : Int32} (k : G 0 mX5_unitOf post 4 [none, some (.int x1), some (.int (x2 * 5)), some (.int (x3 + (-1)))] [] h) : G 0 mX5_unitOf post 9 [none, some (.int x1), some (.int x2), some (.int x3)] [] h := by
  refine g_iload_n dX5_unitOf_9 rfl ?_
  refine g_iconst (v := 5) dX5_unitOf_10 rfl ?_
  refine g_imul dX5_unitOf_11 ?_
  refine g_istore_n (L' := [none, some (.int x1), some (.int (x2 * 5)), some (.int x3)]) dX5_unitOf_12 rfl (by decide) rfl ?_
  refine g_iinc (v := (x3 + (-1))) (L' := [none, some (.int x1), some (.int (x2 * 5)), some (.int (x3 + (-1)))]) dX5_unitOf_13 rfl rfl rfl (by decide) rfl ?_
  refine g_goto (tgt := 4) dX5_unitOf_16 (by decide) ?_
  exact k
theorem sX5_codeNow_0 {post : Option Value → PH → Prop} {h : PH} (k : G 0 mX5_codeNow post 4 [some (.ref 15), some (.int 0), some (.int 0)] [] h) : G 0 mX5_codeNow post 0 [some (.ref 15), none, none] [] h := by
  refine g_iconst (v := 0) dX5_codeNow_0 rfl ?_
  refine g_istore_n (L' := [some (.ref 15), some (.int 0), none]) dX5_codeNow_1 rfl (by decide) rfl ?_
  refine g_iconst (v := 0) dX5_codeNow_2 rfl ?_
  refine g_istore_n (L' := [some (.ref 15), some (.int 0), some (.int 0)]) dX5_codeNow_3 rfl (by decide) rfl ?_
  exact k
theorem sX5_codeNow_4 {post : Option Value → PH → Prop} {h : PH} {x1 x2 : Int32} (k1 : 5 ≤ x2 → G 0 mX5_codeNow post 28 [none, some (.int x1), none] [] h) (k2 : ¬ 5 ≤ x2 → G 0 mX5_codeNow post 9 [some (.ref 15), some (.int x1), some (.int x2)] [] h) : G 0 mX5_codeNow post 4 [some (.ref 15), some (.int x1), some (.int x2)] [] h := by
  refine g_iload_n dX5_codeNow_4 rfl ?_
  refine g_iconst (v := 5) dX5_codeNow_5 rfl ?_
  exact g_icmp_ge (tgt := 28) dX5_codeNow_6 (by decide) (fun hc => by refine g_forget (mask := [false, true, false]) (L' := [none, some (.int x1), none]) rfl ?_; exact k1 hc) (fun hc => k2 hc)
theorem sX5_codeNow_28 {post : Option Value → PH → Prop} {h : PH} {x1 : Int32} (k : post (some (.int x1)) h) : G 0 mX5_codeNow post 28 [none, some (.int x1), none] [] h := by
  refine g_iload_n dX5_codeNow_28 rfl ?_
  exact g_ireturn (ty := .int) dX5_codeNow_29 rfl rfl k
theorem sX5_codeNow_9 {post : Option Value → PH → Prop} {h : PH} {x1 x2 : Int32} (hb1 : vp_in x2 5) (k : G 0 mX5_codeNow post 4 [some (.ref 15), some (.int (((5 * x1) + (h.1 21 (Int32.toNatClampNeg x2))) + 1)), some (.int (x2 + 1))] [] h) : G 0 mX5_codeNow post 9 [some (.ref 15), some (.int x1), some (.int x2)] [] h := by
  refine g_iconst (v := 5) dX5_codeNow_9 rfl ?_
  refine g_iload_n dX5_codeNow_10 rfl ?_
  refine g_imul dX5_codeNow_11 ?_
  refine g_aload_n dX5_codeNow_12 rfl ?_
  refine g_getfield (kd := 23) (v := .ref 21) dX5_codeNow_13 fX5_25 (by decide) rfl rfl rfl rfl ?_
  refine g_iload_n dX5_codeNow_16 rfl ?_
  refine g_iaload (n := 5) dX5_codeNow_17 (by decide) rfl rfl rfl hb1 ?_
  refine g_iadd dX5_codeNow_18 ?_
  refine g_iconst (v := 1) dX5_codeNow_19 rfl ?_
  refine g_iadd dX5_codeNow_20 ?_
  refine g_istore_n (L' := [some (.ref 15), some (.int (((5 * x1) + (h.1 21 (Int32.toNatClampNeg x2))) + 1)), some (.int x2)]) dX5_codeNow_21 rfl (by decide) rfl ?_
  refine g_iinc (v := (x2 + 1)) (L' := [some (.ref 15), some (.int (((5 * x1) + (h.1 21 (Int32.toNatClampNeg x2))) + 1)), some (.int (x2 + 1))]) dX5_codeNow_22 rfl rfl rfl (by decide) rfl ?_
  refine g_goto (tgt := 4) dX5_codeNow_25 (by decide) ?_
  exact k
theorem sX5_layCode_0 {post : Option Value → PH → Prop} {h : PH} {x1 : Int32} (k : G 0 mX5_layCode post 4 [some (.ref 15), none, some (.int x1), some (.int 4)] [] h) : G 0 mX5_layCode post 0 [some (.ref 15), some (.int x1), none, none] [] h := by
  refine g_iload_n dX5_layCode_0 rfl ?_
  refine g_istore_n (L' := [some (.ref 15), some (.int x1), some (.int x1), none]) dX5_layCode_1 rfl (by decide) rfl ?_
  refine g_iconst (v := 4) dX5_layCode_2 rfl ?_
  refine g_istore_n (L' := [some (.ref 15), some (.int x1), some (.int x1), some (.int 4)]) dX5_layCode_3 rfl (by decide) rfl ?_
  refine g_forget (mask := [true, false, true, true]) (L' := [some (.ref 15), none, some (.int x1), some (.int 4)]) rfl ?_
  exact k
theorem sX5_layCode_4 {post : Option Value → PH → Prop} {h : PH} {x2 x3 : Int32} (k1 : x3 < 0 → G 0 mX5_layCode post 29 [none, none, none, none] [] h) (k2 : ¬ x3 < 0 → G 0 mX5_layCode post 8 [some (.ref 15), none, some (.int x2), some (.int x3)] [] h) : G 0 mX5_layCode post 4 [some (.ref 15), none, some (.int x2), some (.int x3)] [] h := by
  refine g_iload_n dX5_layCode_4 rfl ?_
  exact g_if_lt (tgt := 29) dX5_layCode_5 (by decide) (fun hc => by refine g_forget (mask := [false, true, false, false]) (L' := [none, none, none, none]) rfl ?_; exact k1 hc) (fun hc => k2 hc)
theorem sX5_layCode_29 {post : Option Value → PH → Prop} {h : PH} (k : post none h) : G 0 mX5_layCode post 29 [none, none, none, none] [] h := by
  exact g_return dX5_layCode_29 rfl k
theorem sX5_layCode_8 {post : Option Value → PH → Prop} {h : PH} {x2 x3 : Int32} (hb1 : vp_in x3 5) (k : G 0 mX5_layCode post 4 [some (.ref 15), none, some (.int (x2 / 5)), some (.int (x3 + (-1)))] [] ((upd2 h.1 21 (Int32.toNatClampNeg x3) ((x2 - x2 / 5 * 5) - 1)), h.2)) : G 0 mX5_layCode post 8 [some (.ref 15), none, some (.int x2), some (.int x3)] [] h := by
  refine g_aload_n dX5_layCode_8 rfl ?_
  refine g_getfield (kd := 23) (v := .ref 21) dX5_layCode_9 fX5_25 (by decide) rfl rfl rfl rfl ?_
  refine g_iload_n dX5_layCode_12 rfl ?_
  refine g_iload_n dX5_layCode_13 rfl ?_
  refine g_iconst (v := 5) dX5_layCode_14 rfl ?_
  refine g_irem dX5_layCode_15 (by decide) ?_
  refine g_iconst (v := 1) dX5_layCode_16 rfl ?_
  refine g_isub dX5_layCode_17 ?_
  refine g_iastore (n := 5) dX5_layCode_18 (by decide) rfl rfl rfl hb1 ?_
  refine g_iload_n dX5_layCode_19 rfl ?_
  refine g_iconst (v := 5) dX5_layCode_20 rfl ?_
  refine g_idiv dX5_layCode_21 (by decide) ?_
  refine g_istore_n (L' := [some (.ref 15), none, some (.int (x2 / 5)), some (.int x3)]) dX5_layCode_22 rfl (by decide) rfl ?_
  refine g_iinc (v := (x3 + (-1))) (L' := [some (.ref 15), none, some (.int (x2 / 5)), some (.int (x3 + (-1)))]) dX5_layCode_23 rfl rfl rfl (by decide) rfl ?_
  refine g_goto (tgt := 4) dX5_layCode_26 (by decide) ?_
  exact k
theorem sX5_areThere_0 {post : Option Value → PH → Prop} {h : PH} (k : G 1 mX5_areThere post 4 [some (.ref 15), some (.int 1), some (.int 0)] [] h) : G 1 mX5_areThere post 0 [some (.ref 15), none, none] [] h := by
  refine g_iconst (v := 1) dX5_areThere_0 rfl ?_
  refine g_istore_n (L' := [some (.ref 15), some (.int 1), none]) dX5_areThere_1 rfl (by decide) rfl ?_
  refine g_iconst (v := 0) dX5_areThere_2 rfl ?_
  refine g_istore_n (L' := [some (.ref 15), some (.int 1), some (.int 0)]) dX5_areThere_3 rfl (by decide) rfl ?_
  exact k
theorem sX5_areThere_4 {post : Option Value → PH → Prop} {h : PH} {x1 x2 : Int32} (k1 : 5 ≤ x2 → G 1 mX5_areThere post 85 [none, some (.int x1), none] [] h) (k2 : ¬ 5 ≤ x2 → G 1 mX5_areThere post 9 [some (.ref 15), some (.int x1), some (.int x2)] [] h) : G 1 mX5_areThere post 4 [some (.ref 15), some (.int x1), some (.int x2)] [] h := by
  refine g_iload_n dX5_areThere_4 rfl ?_
  refine g_iconst (v := 5) dX5_areThere_5 rfl ?_
  exact g_icmp_ge (tgt := 85) dX5_areThere_6 (by decide) (fun hc => by refine g_forget (mask := [false, true, false]) (L' := [none, some (.int x1), none]) rfl ?_; exact k1 hc) (fun hc => k2 hc)
theorem sX5_areThere_85 {post : Option Value → PH → Prop} {h : PH} {x1 : Int32} (hb1 : narrow .boolean (.int x1) = .int x1) (k : post (some (.int x1)) h) : G 1 mX5_areThere post 85 [none, some (.int x1), none] [] h := by
  refine g_iload_n dX5_areThere_85 rfl ?_
  exact g_ireturn (ty := .boolean) dX5_areThere_86 rfl hb1 k
theorem sX5_areThere_9 {post : Option Value → PH → Prop} {h : PH} {x1 x2 : Int32} (k1 : x1 = 0 → G 1 mX5_areThere post 77 [some (.ref 15), none, some (.int x2)] [] h) (k2 : ¬ x1 = 0 → G 1 mX5_areThere post 13 [some (.ref 15), none, some (.int x2)] [] h) : G 1 mX5_areThere post 9 [some (.ref 15), some (.int x1), some (.int x2)] [] h := by
  refine g_iload_n dX5_areThere_9 rfl ?_
  exact g_if_eq (tgt := 77) dX5_areThere_10 (by decide) (fun hc => by refine g_forget (mask := [true, false, true]) (L' := [some (.ref 15), none, some (.int x2)]) rfl ?_; exact k1 hc) (fun hc => by refine g_forget (mask := [true, false, true]) (L' := [some (.ref 15), none, some (.int x2)]) rfl ?_; exact k2 hc)
theorem sX5_areThere_77 {post : Option Value → PH → Prop} {h : PH} {x2 : Int32} (k : G 1 mX5_areThere post 4 [some (.ref 15), some (.int 0), some (.int (x2 + 1))] [] h) : G 1 mX5_areThere post 77 [some (.ref 15), none, some (.int x2)] [] h := by
  refine g_iconst (v := 0) dX5_areThere_77 rfl ?_
  refine g_istore_n (L' := [some (.ref 15), some (.int 0), some (.int x2)]) dX5_areThere_78 rfl (by decide) rfl ?_
  refine g_iinc (v := (x2 + 1)) (L' := [some (.ref 15), some (.int 0), some (.int (x2 + 1))]) dX5_areThere_79 rfl rfl rfl (by decide) rfl ?_
  refine g_goto (tgt := 4) dX5_areThere_82 (by decide) ?_
  exact k
theorem sX5_areThere_13 {post : Option Value → PH → Prop} {h : PH} {x2 : Int32} (k1 : (h.1 15 2) ≤ x2 → G 1 mX5_areThere post 37 [some (.ref 15), none, some (.int x2)] [] h) (k2 : ¬ (h.1 15 2) ≤ x2 → G 1 mX5_areThere post 21 [some (.ref 15), none, some (.int x2)] [] h) : G 1 mX5_areThere post 13 [some (.ref 15), none, some (.int x2)] [] h := by
  refine g_iload_n dX5_areThere_13 rfl ?_
  refine g_aload_n dX5_areThere_14 rfl ?_
  refine g_getfield (kd := 0) (v := .int (h.1 15 2)) dX5_areThere_15 fX5_60 (by decide) rfl rfl rfl rfl ?_
  exact g_icmp_ge (tgt := 37) dX5_areThere_18 (by decide) (fun hc => k1 hc) (fun hc => k2 hc)
theorem sX5_areThere_37 {post : Option Value → PH → Prop} {h : PH} {x2 : Int32} (hb1 : vp_in x2 5) (k1 : ¬ (h.1 21 (Int32.toNatClampNeg x2)) = (-1) → G 1 mX5_areThere post 77 [some (.ref 15), none, some (.int x2)] [] h) (k2 : (h.1 21 (Int32.toNatClampNeg x2)) = (-1) → G 1 mX5_areThere post 47 [some (.ref 15), none, some (.int x2)] [] h) : G 1 mX5_areThere post 37 [some (.ref 15), none, some (.int x2)] [] h := by
  refine g_aload_n dX5_areThere_37 rfl ?_
  refine g_getfield (kd := 23) (v := .ref 21) dX5_areThere_38 fX5_25 (by decide) rfl rfl rfl rfl ?_
  refine g_iload_n dX5_areThere_41 rfl ?_
  refine g_iaload (n := 5) dX5_areThere_42 (by decide) rfl rfl rfl hb1 ?_
  refine g_iconst (v := (-1)) dX5_areThere_43 rfl ?_
  exact g_icmp_ne (tgt := 77) dX5_areThere_44 (by decide) (fun hc => k1 hc) (fun hc => k2 hc)
theorem sX5_areThere_21 {post : Option Value → PH → Prop} {h : PH} {x2 : Int32} (hb1 : vp_in x2 5) (k1 : (h.1 15 3) ≤ (h.1 21 (Int32.toNatClampNeg x2)) → G 1 mX5_areThere post 77 [some (.ref 15), none, some (.int x2)] [] h) (k2 : ¬ (h.1 15 3) ≤ (h.1 21 (Int32.toNatClampNeg x2)) → G 1 mX5_areThere post 34 [some (.ref 15), none, some (.int x2)] [] h) : G 1 mX5_areThere post 21 [some (.ref 15), none, some (.int x2)] [] h := by
  refine g_aload_n dX5_areThere_21 rfl ?_
  refine g_getfield (kd := 23) (v := .ref 21) dX5_areThere_22 fX5_25 (by decide) rfl rfl rfl rfl ?_
  refine g_iload_n dX5_areThere_25 rfl ?_
  refine g_iaload (n := 5) dX5_areThere_26 (by decide) rfl rfl rfl hb1 ?_
  refine g_aload_n dX5_areThere_27 rfl ?_
  refine g_getfield (kd := 0) (v := .int (h.1 15 3)) dX5_areThere_28 fX5_57 (by decide) rfl rfl rfl rfl ?_
  exact g_icmp_ge (tgt := 77) dX5_areThere_31 (by decide) (fun hc => k1 hc) (fun hc => k2 hc)
theorem sX5_areThere_47 {post : Option Value → PH → Prop} {h : PH} {x2 : Int32} (k : Ev 0 mX5_has [.int (h.1 15 9), .int x2] h (fun r h' => G 1 mX5_areThere post 55 [some (.ref 15), none, some (.int x2)] (r.toList ++ []) h')) : G 1 mX5_areThere post 47 [some (.ref 15), none, some (.int x2)] [] h := by
  refine g_aload_n dX5_areThere_47 rfl ?_
  refine g_getfield (kd := 0) (v := .int (h.1 15 9)) dX5_areThere_48 fX5_66 (by decide) rfl rfl rfl rfl ?_
  refine g_iload_n dX5_areThere_51 rfl ?_
  exact g_callS (n := 2) (as := [.int (h.1 15 9), .int x2]) (rest := []) dX5_areThere_52 kX5_has lX5_76 rfl rfl (by simp only [List.map, Value.category]; decide) (by decide) k
theorem sX5_areThere_34 {post : Option Value → PH → Prop} {h : PH} {x2 : Int32} (k : G 1 mX5_areThere post 47 [some (.ref 15), none, some (.int x2)] [] h) : G 1 mX5_areThere post 34 [some (.ref 15), none, some (.int x2)] [] h := by
  refine g_goto (tgt := 47) dX5_areThere_34 (by decide) ?_
  exact k
theorem sX5_areThere_55 {post : Option Value → PH → Prop} {h : PH} {x2 s0 : Int32} (k1 : s0 = 0 → G 1 mX5_areThere post 73 [some (.ref 15), none, some (.int x2)] [] h) (k2 : ¬ s0 = 0 → G 1 mX5_areThere post 58 [some (.ref 15), none, some (.int x2)] [] h) : G 1 mX5_areThere post 55 [some (.ref 15), none, some (.int x2)] [.int s0] h := by
  exact g_if_eq (tgt := 73) dX5_areThere_55 (by decide) (fun hc => k1 hc) (fun hc => k2 hc)
theorem sX5_areThere_73 {post : Option Value → PH → Prop} {h : PH} {x2 : Int32} (k : G 1 mX5_areThere post 4 [some (.ref 15), some (.int 1), some (.int (x2 + 1))] [] h) : G 1 mX5_areThere post 73 [some (.ref 15), none, some (.int x2)] [] h := by
  refine g_iconst (v := 1) dX5_areThere_73 rfl ?_
  refine g_goto (tgt := 78) dX5_areThere_74 (by decide) ?_
  refine g_istore_n (L' := [some (.ref 15), some (.int 1), some (.int x2)]) dX5_areThere_78 rfl (by decide) rfl ?_
  refine g_iinc (v := (x2 + 1)) (L' := [some (.ref 15), some (.int 1), some (.int (x2 + 1))]) dX5_areThere_79 rfl rfl rfl (by decide) rfl ?_
  refine g_goto (tgt := 4) dX5_areThere_82 (by decide) ?_
  exact k
theorem sX5_areThere_58 {post : Option Value → PH → Prop} {h : PH} {x2 : Int32} (hb1 : vp_in x2 5) (hb2 : vp_in x2 5) (k1 : ¬ (h.1 21 (Int32.toNatClampNeg x2)) = (h.1 19 (Int32.toNatClampNeg x2)) → G 1 mX5_areThere post 77 [some (.ref 15), none, some (.int x2)] [] h) (k2 : (h.1 21 (Int32.toNatClampNeg x2)) = (h.1 19 (Int32.toNatClampNeg x2)) → G 1 mX5_areThere post 73 [some (.ref 15), none, some (.int x2)] [] h) : G 1 mX5_areThere post 58 [some (.ref 15), none, some (.int x2)] [] h := by
  refine g_aload_n dX5_areThere_58 rfl ?_
  refine g_getfield (kd := 23) (v := .ref 21) dX5_areThere_59 fX5_25 (by decide) rfl rfl rfl rfl ?_
  refine g_iload_n dX5_areThere_62 rfl ?_
  refine g_iaload (n := 5) dX5_areThere_63 (by decide) rfl rfl rfl hb1 ?_
  refine g_aload_n dX5_areThere_64 rfl ?_
  refine g_getfield (kd := 21) (v := .ref 19) dX5_areThere_65 fX5_19 (by decide) rfl rfl rfl rfl ?_
  refine g_iload_n dX5_areThere_68 rfl ?_
  refine g_iaload (n := 5) dX5_areThere_69 (by decide) rfl rfl rfl hb2 ?_
  exact g_icmp_ne (tgt := 77) dX5_areThere_70 (by decide) (fun hc => k1 hc) (fun hc => k2 hc)
theorem sX5_layBest_0 {post : Option Value → PH → Prop} {h : PH} {x1 : Int32} (k : G 3 mX5_layBest post 16 [some (.ref 15), some (.int x1), some (.int 0), none] [] ((upd2 (upd2 h.1 15 15 (-1001)) 15 16 (-1001)), h.2)) : G 3 mX5_layBest post 0 [some (.ref 15), some (.int x1), none, none] [] h := by
  refine g_aload_n dX5_layBest_0 rfl ?_
  refine g_sipush (v := (-1001)) dX5_layBest_1 rfl ?_
  refine g_putfield dX5_layBest_4 fX5_114 (by decide) rfl rfl rfl rfl rfl ?_
  refine g_aload_n dX5_layBest_7 rfl ?_
  refine g_sipush (v := (-1001)) dX5_layBest_8 rfl ?_
  refine g_putfield dX5_layBest_11 fX5_117 (by decide) rfl rfl rfl rfl rfl ?_
  refine g_iconst (v := 0) dX5_layBest_14 rfl ?_
  refine g_istore_n (L' := [some (.ref 15), some (.int x1), some (.int 0), none]) dX5_layBest_15 rfl (by decide) rfl ?_
  exact k
theorem sX5_layBest_16 {post : Option Value → PH → Prop} {h : PH} {x1 x2 : Int32} (k1 : 3125 ≤ x2 → G 3 mX5_layBest post 120 [none, none, none, none] [] h) (k2 : ¬ 3125 ≤ x2 → G 3 mX5_layBest post 23 [some (.ref 15), some (.int x1), some (.int x2), none] [] h) : G 3 mX5_layBest post 16 [some (.ref 15), some (.int x1), some (.int x2), none] [] h := by
  refine g_iload_n dX5_layBest_16 rfl ?_
  refine g_sipush (v := 3125) dX5_layBest_17 rfl ?_
  exact g_icmp_ge (tgt := 120) dX5_layBest_20 (by decide) (fun hc => by refine g_forget (mask := [false, false, false, true]) (L' := [none, none, none, none]) rfl ?_; exact k1 hc) (fun hc => k2 hc)
theorem sX5_layBest_120 {post : Option Value → PH → Prop} {h : PH} (k : post none h) : G 3 mX5_layBest post 120 [none, none, none, none] [] h := by
  exact g_return dX5_layBest_120 rfl k
theorem sX5_layBest_23 {post : Option Value → PH → Prop} {h : PH} {x1 x2 : Int32} (k : Ev 0 mX5_layCode [.ref 15, .int x2] h (fun r h' => G 3 mX5_layBest post 28 [some (.ref 15), some (.int x1), some (.int x2), none] (r.toList ++ []) h')) : G 3 mX5_layBest post 23 [some (.ref 15), some (.int x1), some (.int x2), none] [] h := by
  refine g_aload_n dX5_layBest_23 rfl ?_
  refine g_iload_n dX5_layBest_24 rfl ?_
  exact g_callV (n := 1) (b := 15) (as := [.int x2]) (rest := []) dX5_layBest_25 kX5_layCode lX5_120 (by decide) rfl ⟨_, _, rfl⟩ rfl rfl (by simp only [List.map, Value.category]; decide) (by decide) k
theorem sX5_layBest_28 {post : Option Value → PH → Prop} {h : PH} {x1 x2 : Int32} (k : Ev 1 mX5_areThere [.ref 15] h (fun r h' => G 3 mX5_layBest post 37 [some (.ref 15), some (.int x1), some (.int x2), none] (r.toList ++ [.int x2, .ref 22]) h')) : G 3 mX5_layBest post 28 [some (.ref 15), some (.int x1), some (.int x2), none] [] h := by
  refine g_aload_n dX5_layBest_28 rfl ?_
  refine g_getfield (kd := 24) (v := .ref 22) dX5_layBest_29 fX5_28 (by decide) rfl rfl rfl rfl ?_
  refine g_iload_n dX5_layBest_32 rfl ?_
  refine g_aload_n dX5_layBest_33 rfl ?_
  exact g_callV (n := 0) (b := 15) (as := []) (rest := [.int x2, .ref 22]) dX5_layBest_34 kX5_areThere lX5_124 (by decide) rfl ⟨_, _, rfl⟩ rfl rfl (by simp only [List.map, Value.category]; decide) (by decide) k
theorem sX5_layBest_37 {post : Option Value → PH → Prop} {h : PH} {x1 x2 s0 s1 : Int32} (k1 : s0 = 0 → G 3 mX5_layBest post 52 [some (.ref 15), some (.int x1), some (.int x2), none] [.int s1, .ref 22] h) (k2 : ¬ s0 = 0 → G 3 mX5_layBest post 40 [some (.ref 15), some (.int x1), some (.int x2), none] [.int s1, .ref 22] h) : G 3 mX5_layBest post 37 [some (.ref 15), some (.int x1), some (.int x2), none] [.int s0, .int s1, .ref 22] h := by
  exact g_if_eq (tgt := 52) dX5_layBest_37 (by decide) (fun hc => k1 hc) (fun hc => k2 hc)
theorem sX5_layBest_52 {post : Option Value → PH → Prop} {h : PH} {x1 x2 s0 : Int32} (hb1 : vp_in s0 3125) (hb2 : vp_in x2 3125) (k1 : ((upd2 h.1 22 (Int32.toNatClampNeg s0) 0) 22 (Int32.toNatClampNeg x2)) = 0 → G 3 mX5_layBest post 70 [some (.ref 15), some (.int x1), some (.int x2), none] [] ((upd2 h.1 22 (Int32.toNatClampNeg s0) 0), h.2)) (k2 : ¬ ((upd2 h.1 22 (Int32.toNatClampNeg s0) 0) 22 (Int32.toNatClampNeg x2)) = 0 → G 3 mX5_layBest post 63 [some (.ref 15), some (.int x1), some (.int x2), none] [] ((upd2 h.1 22 (Int32.toNatClampNeg s0) 0), h.2)) : G 3 mX5_layBest post 52 [some (.ref 15), some (.int x1), some (.int x2), none] [.int s0, .ref 22] h := by
  refine g_iconst (v := 0) dX5_layBest_52 rfl ?_
  refine g_bastore (n := 3125) dX5_layBest_53 (by decide) rfl rfl rfl hb1 rfl ?_
  refine g_aload_n dX5_layBest_54 rfl ?_
  refine g_getfield (kd := 24) (v := .ref 22) dX5_layBest_55 fX5_28 (by decide) rfl rfl rfl rfl ?_
  refine g_iload_n dX5_layBest_58 rfl ?_
  refine g_baload (n := 3125) dX5_layBest_59 (by decide) rfl rfl rfl hb2 ?_
  exact g_if_eq (tgt := 70) dX5_layBest_60 (by decide) (fun hc => k1 hc) (fun hc => k2 hc)
theorem sX5_layBest_40 {post : Option Value → PH → Prop} {h : PH} {x1 x2 s0 : Int32} (k : Ev 2 mX5_isGood [.ref 15, .int x1] h (fun r h' => G 3 mX5_layBest post 45 [some (.ref 15), some (.int x1), some (.int x2), none] (r.toList ++ [.int s0, .ref 22]) h')) : G 3 mX5_layBest post 40 [some (.ref 15), some (.int x1), some (.int x2), none] [.int s0, .ref 22] h := by
  refine g_aload_n dX5_layBest_40 rfl ?_
  refine g_iload_n dX5_layBest_41 rfl ?_
  exact g_callV (n := 1) (b := 15) (as := [.int x1]) (rest := [.int s0, .ref 22]) dX5_layBest_42 kX5_isGood lX5_93 (by decide) rfl ⟨_, _, rfl⟩ rfl rfl (by simp only [List.map, Value.category]; decide) (by decide) k
theorem sX5_layBest_70 {post : Option Value → PH → Prop} {h : PH} {x1 x2 : Int32} (k1 : (-1001) ≤ (h.1 15 16) → G 3 mX5_layBest post 87 [some (.ref 15), some (.int x1), some (.int x2), some (.int (-1001))] [.ref 15] h) (k2 : ¬ (-1001) ≤ (h.1 15 16) → G 3 mX5_layBest post 83 [some (.ref 15), some (.int x1), some (.int x2), some (.int (-1001))] [.ref 15] h) : G 3 mX5_layBest post 70 [some (.ref 15), some (.int x1), some (.int x2), none] [] h := by
  refine g_sipush (v := (-1001)) dX5_layBest_70 rfl ?_
  refine g_istore_n (L' := [some (.ref 15), some (.int x1), some (.int x2), some (.int (-1001))]) dX5_layBest_73 rfl (by decide) rfl ?_
  refine g_aload_n dX5_layBest_74 rfl ?_
  refine g_iload_n dX5_layBest_75 rfl ?_
  refine g_aload_n dX5_layBest_76 rfl ?_
  refine g_getfield (kd := 0) (v := .int (h.1 15 16)) dX5_layBest_77 fX5_117 (by decide) rfl rfl rfl rfl ?_
  exact g_icmp_le (tgt := 87) dX5_layBest_80 (by decide) (fun hc => k1 hc) (fun hc => k2 hc)
theorem sX5_layBest_63 {post : Option Value → PH → Prop} {h : PH} {x1 x2 : Int32} (k : Ev 2 mX5_caught [.ref 15] h (fun r h' => G 3 mX5_layBest post 67 [some (.ref 15), some (.int x1), some (.int x2), none] (r.toList ++ []) h')) : G 3 mX5_layBest post 63 [some (.ref 15), some (.int x1), some (.int x2), none] [] h := by
  refine g_aload_n dX5_layBest_63 rfl ?_
  exact g_callV (n := 0) (b := 15) (as := []) (rest := []) dX5_layBest_64 kX5_caught lX5_128 (by decide) rfl ⟨_, _, rfl⟩ rfl rfl (by simp only [List.map, Value.category]; decide) (by decide) k
theorem sX5_layBest_45 {post : Option Value → PH → Prop} {h : PH} {x1 x2 s0 s1 : Int32} (k1 : s0 = 0 → G 3 mX5_layBest post 52 [some (.ref 15), some (.int x1), some (.int x2), none] [.int s1, .ref 22] h) (k2 : ¬ s0 = 0 → G 3 mX5_layBest post 48 [some (.ref 15), some (.int x1), some (.int x2), none] [.int s1, .ref 22] h) : G 3 mX5_layBest post 45 [some (.ref 15), some (.int x1), some (.int x2), none] [.int s0, .int s1, .ref 22] h := by
  exact g_if_eq (tgt := 52) dX5_layBest_45 (by decide) (fun hc => k1 hc) (fun hc => k2 hc)
theorem sX5_layBest_87 {post : Option Value → PH → Prop} {h : PH} {x1 x2 x3 : Int32} (k1 : x3 ≤ (h.1 15 16) → G 3 mX5_layBest post 107 [some (.ref 15), some (.int x1), some (.int x2), none] [.ref 15] ((upd2 h.1 15 15 (h.1 15 15)), h.2)) (k2 : ¬ x3 ≤ (h.1 15 16) → G 3 mX5_layBest post 103 [some (.ref 15), some (.int x1), some (.int x2), some (.int x3)] [.ref 15] ((upd2 h.1 15 15 (h.1 15 15)), h.2)) : G 3 mX5_layBest post 87 [some (.ref 15), some (.int x1), some (.int x2), some (.int x3)] [.ref 15] h := by
  refine g_aload_n dX5_layBest_87 rfl ?_
  refine g_getfield (kd := 0) (v := .int (h.1 15 15)) dX5_layBest_88 fX5_114 (by decide) rfl rfl rfl rfl ?_
  refine g_putfield dX5_layBest_91 fX5_114 (by decide) rfl rfl rfl rfl rfl ?_
  refine g_aload_n dX5_layBest_94 rfl ?_
  refine g_iload_n dX5_layBest_95 rfl ?_
  refine g_aload_n dX5_layBest_96 rfl ?_
  refine g_getfield (kd := 0) (v := .int (h.1 15 16)) dX5_layBest_97 fX5_117 (by decide) rfl rfl rfl rfl ?_
  exact g_icmp_le (tgt := 107) dX5_layBest_100 (by decide) (fun hc => by refine g_forget (mask := [true, true, true, false]) (L' := [some (.ref 15), some (.int x1), some (.int x2), none]) rfl ?_; exact k1 hc) (fun hc => k2 hc)
theorem sX5_layBest_83 {post : Option Value → PH → Prop} {h : PH} {x1 x2 x3 : Int32} (k1 : x3 ≤ (h.1 15 16) → G 3 mX5_layBest post 107 [some (.ref 15), some (.int x1), some (.int x2), none] [.ref 15] ((upd2 h.1 15 15 x2), h.2)) (k2 : ¬ x3 ≤ (h.1 15 16) → G 3 mX5_layBest post 103 [some (.ref 15), some (.int x1), some (.int x2), some (.int x3)] [.ref 15] ((upd2 h.1 15 15 x2), h.2)) : G 3 mX5_layBest post 83 [some (.ref 15), some (.int x1), some (.int x2), some (.int x3)] [.ref 15] h := by
  refine g_iload_n dX5_layBest_83 rfl ?_
  refine g_goto (tgt := 91) dX5_layBest_84 (by decide) ?_
  refine g_putfield dX5_layBest_91 fX5_114 (by decide) rfl rfl rfl rfl rfl ?_
  refine g_aload_n dX5_layBest_94 rfl ?_
  refine g_iload_n dX5_layBest_95 rfl ?_
  refine g_aload_n dX5_layBest_96 rfl ?_
  refine g_getfield (kd := 0) (v := .int (h.1 15 16)) dX5_layBest_97 fX5_117 (by decide) rfl rfl rfl rfl ?_
  exact g_icmp_le (tgt := 107) dX5_layBest_100 (by decide) (fun hc => by refine g_forget (mask := [true, true, true, false]) (L' := [some (.ref 15), some (.int x1), some (.int x2), none]) rfl ?_; exact k1 hc) (fun hc => k2 hc)
theorem sX5_layBest_67 {post : Option Value → PH → Prop} {h : PH} {x1 x2 s0 : Int32} (k1 : s0 ≤ (h.1 15 16) → G 3 mX5_layBest post 87 [some (.ref 15), some (.int x1), some (.int x2), some (.int s0)] [.ref 15] h) (k2 : ¬ s0 ≤ (h.1 15 16) → G 3 mX5_layBest post 83 [some (.ref 15), some (.int x1), some (.int x2), some (.int s0)] [.ref 15] h) : G 3 mX5_layBest post 67 [some (.ref 15), some (.int x1), some (.int x2), none] [.int s0] h := by
  refine g_goto (tgt := 73) dX5_layBest_67 (by decide) ?_
  refine g_istore_n (L' := [some (.ref 15), some (.int x1), some (.int x2), some (.int s0)]) dX5_layBest_73 rfl (by decide) rfl ?_
  refine g_aload_n dX5_layBest_74 rfl ?_
  refine g_iload_n dX5_layBest_75 rfl ?_
  refine g_aload_n dX5_layBest_76 rfl ?_
  refine g_getfield (kd := 0) (v := .int (h.1 15 16)) dX5_layBest_77 fX5_117 (by decide) rfl rfl rfl rfl ?_
  exact g_icmp_le (tgt := 87) dX5_layBest_80 (by decide) (fun hc => k1 hc) (fun hc => k2 hc)
theorem sX5_layBest_48 {post : Option Value → PH → Prop} {h : PH} {x1 x2 s0 : Int32} (hb1 : vp_in s0 3125) (hb2 : vp_in x2 3125) (k1 : ((upd2 h.1 22 (Int32.toNatClampNeg s0) 1) 22 (Int32.toNatClampNeg x2)) = 0 → G 3 mX5_layBest post 70 [some (.ref 15), some (.int x1), some (.int x2), none] [] ((upd2 h.1 22 (Int32.toNatClampNeg s0) 1), h.2)) (k2 : ¬ ((upd2 h.1 22 (Int32.toNatClampNeg s0) 1) 22 (Int32.toNatClampNeg x2)) = 0 → G 3 mX5_layBest post 63 [some (.ref 15), some (.int x1), some (.int x2), none] [] ((upd2 h.1 22 (Int32.toNatClampNeg s0) 1), h.2)) : G 3 mX5_layBest post 48 [some (.ref 15), some (.int x1), some (.int x2), none] [.int s0, .ref 22] h := by
  refine g_iconst (v := 1) dX5_layBest_48 rfl ?_
  refine g_goto (tgt := 53) dX5_layBest_49 (by decide) ?_
  refine g_bastore (n := 3125) dX5_layBest_53 (by decide) rfl rfl rfl hb1 rfl ?_
  refine g_aload_n dX5_layBest_54 rfl ?_
  refine g_getfield (kd := 24) (v := .ref 22) dX5_layBest_55 fX5_28 (by decide) rfl rfl rfl rfl ?_
  refine g_iload_n dX5_layBest_58 rfl ?_
  refine g_baload (n := 3125) dX5_layBest_59 (by decide) rfl rfl rfl hb2 ?_
  exact g_if_eq (tgt := 70) dX5_layBest_60 (by decide) (fun hc => k1 hc) (fun hc => k2 hc)
theorem sX5_layBest_107 {post : Option Value → PH → Prop} {h : PH} {x1 x2 : Int32} (k : G 3 mX5_layBest post 16 [some (.ref 15), some (.int x1), some (.int (x2 + 1)), none] [] ((upd2 h.1 15 16 (h.1 15 16)), h.2)) : G 3 mX5_layBest post 107 [some (.ref 15), some (.int x1), some (.int x2), none] [.ref 15] h := by
  refine g_aload_n dX5_layBest_107 rfl ?_
  refine g_getfield (kd := 0) (v := .int (h.1 15 16)) dX5_layBest_108 fX5_117 (by decide) rfl rfl rfl rfl ?_
  refine g_putfield dX5_layBest_111 fX5_117 (by decide) rfl rfl rfl rfl rfl ?_
  refine g_iinc (v := (x2 + 1)) (L' := [some (.ref 15), some (.int x1), some (.int (x2 + 1)), none]) dX5_layBest_114 rfl rfl rfl (by decide) rfl ?_
  refine g_goto (tgt := 16) dX5_layBest_117 (by decide) ?_
  exact k
theorem sX5_layBest_103 {post : Option Value → PH → Prop} {h : PH} {x1 x2 x3 : Int32} (k : G 3 mX5_layBest post 16 [some (.ref 15), some (.int x1), some (.int (x2 + 1)), none] [] ((upd2 h.1 15 16 x3), h.2)) : G 3 mX5_layBest post 103 [some (.ref 15), some (.int x1), some (.int x2), some (.int x3)] [.ref 15] h := by
  refine g_iload_n dX5_layBest_103 rfl ?_
  refine g_goto (tgt := 111) dX5_layBest_104 (by decide) ?_
  refine g_putfield dX5_layBest_111 fX5_117 (by decide) rfl rfl rfl rfl rfl ?_
  refine g_iinc (v := (x2 + 1)) (L' := [some (.ref 15), some (.int x1), some (.int (x2 + 1)), some (.int x3)]) dX5_layBest_114 rfl rfl rfl (by decide) rfl ?_
  refine g_goto (tgt := 16) dX5_layBest_117 (by decide) ?_
  refine g_forget (mask := [true, true, true, false]) (L' := [some (.ref 15), some (.int x1), some (.int (x2 + 1)), none]) rfl ?_
  exact k
theorem sX5_boundNow_0 {post : Option Value → PH → Prop} {h : PH} (k : G 2 mX5_boundNow post 4 [some (.ref 15), some (.int 0), some (.int 0), none, none, none] [] h) : G 2 mX5_boundNow post 0 [some (.ref 15), none, none, none, none, none] [] h := by
  refine g_iconst (v := 0) dX5_boundNow_0 rfl ?_
  refine g_istore_n (L' := [some (.ref 15), some (.int 0), none, none, none, none]) dX5_boundNow_1 rfl (by decide) rfl ?_
  refine g_iconst (v := 0) dX5_boundNow_2 rfl ?_
  refine g_istore_n (L' := [some (.ref 15), some (.int 0), some (.int 0), none, none, none]) dX5_boundNow_3 rfl (by decide) rfl ?_
  exact k
theorem sX5_boundNow_4 {post : Option Value → PH → Prop} {h : PH} {x1 x2 : Int32} (k1 : (h.1 15 2) ≤ x2 → G 2 mX5_boundNow post 115 [some (.ref 15), some (.int x1), none, none, none, none] [] h) (k2 : ¬ (h.1 15 2) ≤ x2 → G 2 mX5_boundNow post 12 [some (.ref 15), some (.int x1), some (.int x2), none, none, none] [] h) : G 2 mX5_boundNow post 4 [some (.ref 15), some (.int x1), some (.int x2), none, none, none] [] h := by
  refine g_iload_n dX5_boundNow_4 rfl ?_
  refine g_aload_n dX5_boundNow_5 rfl ?_
  refine g_getfield (kd := 0) (v := .int (h.1 15 2)) dX5_boundNow_6 fX5_60 (by decide) rfl rfl rfl rfl ?_
  exact g_icmp_ge (tgt := 115) dX5_boundNow_9 (by decide) (fun hc => by refine g_forget (mask := [true, true, false, true, true, true]) (L' := [some (.ref 15), some (.int x1), none, none, none, none]) rfl ?_; exact k1 hc) (fun hc => k2 hc)
theorem sX5_boundNow_115 {post : Option Value → PH → Prop} {h : PH} {x1 : Int32} (k : G 2 mX5_boundNow post 119 [some (.ref 15), some (.int x1), some (.int 0), some (.int 0), none, none] [] h) : G 2 mX5_boundNow post 115 [some (.ref 15), some (.int x1), none, none, none, none] [] h := by
  refine g_iconst (v := 0) dX5_boundNow_115 rfl ?_
  refine g_istore_n (L' := [some (.ref 15), some (.int x1), some (.int 0), none, none, none]) dX5_boundNow_116 rfl (by decide) rfl ?_
  refine g_iconst (v := 0) dX5_boundNow_117 rfl ?_
  refine g_istore_n (L' := [some (.ref 15), some (.int x1), some (.int 0), some (.int 0), none, none]) dX5_boundNow_118 rfl (by decide) rfl ?_
  exact k
theorem sX5_boundNow_12 {post : Option Value → PH → Prop} {h : PH} {x1 x2 : Int32} (k : Ev 0 mX5_has [.int (h.1 15 9), .int x2] h (fun r h' => G 2 mX5_boundNow post 20 [some (.ref 15), some (.int x1), some (.int x2), none, none, none] (r.toList ++ []) h')) : G 2 mX5_boundNow post 12 [some (.ref 15), some (.int x1), some (.int x2), none, none, none] [] h := by
  refine g_aload_n dX5_boundNow_12 rfl ?_
  refine g_getfield (kd := 0) (v := .int (h.1 15 9)) dX5_boundNow_13 fX5_66 (by decide) rfl rfl rfl rfl ?_
  refine g_iload_n dX5_boundNow_16 rfl ?_
  exact g_callS (n := 2) (as := [.int (h.1 15 9), .int x2]) (rest := []) dX5_boundNow_17 kX5_has lX5_76 rfl rfl (by simp only [List.map, Value.category]; decide) (by decide) k
theorem sX5_boundNow_119 {post : Option Value → PH → Prop} {h : PH} {x1 x2 x3 : Int32} (k1 : (h.1 15 3) ≤ x3 → G 2 mX5_boundNow post 142 [none, some (.int x1), some (.int x2), none, none, none] [] h) (k2 : ¬ (h.1 15 3) ≤ x3 → G 2 mX5_boundNow post 127 [some (.ref 15), some (.int x1), some (.int x2), some (.int x3), none, none] [] h) : G 2 mX5_boundNow post 119 [some (.ref 15), some (.int x1), some (.int x2), some (.int x3), none, none] [] h := by
  refine g_iload_n dX5_boundNow_119 rfl ?_
  refine g_aload_n dX5_boundNow_120 rfl ?_
  refine g_getfield (kd := 0) (v := .int (h.1 15 3)) dX5_boundNow_121 fX5_57 (by decide) rfl rfl rfl rfl ?_
  exact g_icmp_ge (tgt := 142) dX5_boundNow_124 (by decide) (fun hc => by refine g_forget (mask := [false, true, true, false, true, true]) (L' := [none, some (.int x1), some (.int x2), none, none, none]) rfl ?_; exact k1 hc) (fun hc => k2 hc)
theorem sX5_boundNow_20 {post : Option Value → PH → Prop} {h : PH} {x1 x2 s0 : Int32} (k1 : s0 = 0 → G 2 mX5_boundNow post 37 [some (.ref 15), some (.int x1), some (.int x2), none, none, none] [] h) (k2 : ¬ s0 = 0 → G 2 mX5_boundNow post 23 [some (.ref 15), some (.int x1), some (.int x2), none, none, none] [] h) : G 2 mX5_boundNow post 20 [some (.ref 15), some (.int x1), some (.int x2), none, none, none] [.int s0] h := by
  exact g_if_eq (tgt := 37) dX5_boundNow_20 (by decide) (fun hc => k1 hc) (fun hc => k2 hc)
theorem sX5_boundNow_142 {post : Option Value → PH → Prop} {h : PH} {x1 x2 : Int32} (k1 : x2 ≤ x1 → G 2 mX5_boundNow post 151 [none, none, some (.int x2), none, none, none] [] h) (k2 : ¬ x2 ≤ x1 → G 2 mX5_boundNow post 147 [none, some (.int x1), none, none, none, none] [] h) : G 2 mX5_boundNow post 142 [none, some (.int x1), some (.int x2), none, none, none] [] h := by
  refine g_iload_n dX5_boundNow_142 rfl ?_
  refine g_iload_n dX5_boundNow_143 rfl ?_
  exact g_icmp_ge (tgt := 151) dX5_boundNow_144 (by decide) (fun hc => by refine g_forget (mask := [true, false, true, true, true, true]) (L' := [none, none, some (.int x2), none, none, none]) rfl ?_; exact k1 hc) (fun hc => by refine g_forget (mask := [true, true, false, true, true, true]) (L' := [none, some (.int x1), none, none, none, none]) rfl ?_; exact k2 hc)
theorem sX5_boundNow_127 {post : Option Value → PH → Prop} {h : PH} {x1 x2 x3 : Int32} (hb1 : vp_in x3 4) (k : G 2 mX5_boundNow post 119 [some (.ref 15), some (.int x1), some (.int (x2 + (h.1 20 (Int32.toNatClampNeg x3)))), some (.int (x3 + 1)), none, none] [] h) : G 2 mX5_boundNow post 127 [some (.ref 15), some (.int x1), some (.int x2), some (.int x3), none, none] [] h := by
  refine g_iload_n dX5_boundNow_127 rfl ?_
  refine g_aload_n dX5_boundNow_128 rfl ?_
  refine g_getfield (kd := 22) (v := .ref 20) dX5_boundNow_129 fX5_22 (by decide) rfl rfl rfl rfl ?_
  refine g_iload_n dX5_boundNow_132 rfl ?_
  refine g_iaload (n := 4) dX5_boundNow_133 (by decide) rfl rfl rfl hb1 ?_
  refine g_iadd dX5_boundNow_134 ?_
  refine g_istore_n (L' := [some (.ref 15), some (.int x1), some (.int (x2 + (h.1 20 (Int32.toNatClampNeg x3)))), some (.int x3), none, none]) dX5_boundNow_135 rfl (by decide) rfl ?_
  refine g_iinc (v := (x3 + 1)) (L' := [some (.ref 15), some (.int x1), some (.int (x2 + (h.1 20 (Int32.toNatClampNeg x3)))), some (.int (x3 + 1)), none, none]) dX5_boundNow_136 rfl rfl rfl (by decide) rfl ?_
  refine g_goto (tgt := 119) dX5_boundNow_139 (by decide) ?_
  exact k
theorem sX5_boundNow_37 {post : Option Value → PH → Prop} {h : PH} {x1 x2 : Int32} (k : G 2 mX5_boundNow post 42 [some (.ref 15), some (.int x1), some (.int x2), some (.int 0), some (.int 0), none] [] h) : G 2 mX5_boundNow post 37 [some (.ref 15), some (.int x1), some (.int x2), none, none, none] [] h := by
  refine g_iconst (v := 0) dX5_boundNow_37 rfl ?_
  refine g_istore_n (L' := [some (.ref 15), some (.int x1), some (.int x2), some (.int 0), none, none]) dX5_boundNow_38 rfl (by decide) rfl ?_
  refine g_iconst (v := 0) dX5_boundNow_39 rfl ?_
  refine g_istore (L' := [some (.ref 15), some (.int x1), some (.int x2), some (.int 0), some (.int 0), none]) dX5_boundNow_40 rfl (by decide) rfl ?_
  exact k
theorem sX5_boundNow_23 {post : Option Value → PH → Prop} {h : PH} {x1 x2 : Int32} (hb1 : vp_in x2 5) (k : Ev 1 mX5_givesAll [.ref 15, .int x2, .int (h.1 19 (Int32.toNatClampNeg x2))] h (fun r h' => G 2 mX5_boundNow post 34 [some (.ref 15), some (.int x1), some (.int x2), none, none, none] (r.toList ++ []) h')) : G 2 mX5_boundNow post 23 [some (.ref 15), some (.int x1), some (.int x2), none, none, none] [] h := by
  refine g_aload_n dX5_boundNow_23 rfl ?_
  refine g_iload_n dX5_boundNow_24 rfl ?_
  refine g_aload_n dX5_boundNow_25 rfl ?_
  refine g_getfield (kd := 21) (v := .ref 19) dX5_boundNow_26 fX5_19 (by decide) rfl rfl rfl rfl ?_
  refine g_iload_n dX5_boundNow_29 rfl ?_
  refine g_iaload (n := 5) dX5_boundNow_30 (by decide) rfl rfl rfl hb1 ?_
  exact g_callV (n := 2) (b := 15) (as := [.int x2, .int (h.1 19 (Int32.toNatClampNeg x2))]) (rest := []) dX5_boundNow_31 kX5_givesAll lX5_100 (by decide) rfl ⟨_, _, rfl⟩ rfl rfl (by simp only [List.map, Value.category]; decide) (by decide) k
theorem sX5_boundNow_151 {post : Option Value → PH → Prop} {h : PH} {x2 : Int32} (k : post (some (.int x2)) h) : G 2 mX5_boundNow post 151 [none, none, some (.int x2), none, none, none] [] h := by
  refine g_iload_n dX5_boundNow_151 rfl ?_
  exact g_ireturn (ty := .int) dX5_boundNow_152 rfl rfl k
theorem sX5_boundNow_147 {post : Option Value → PH → Prop} {h : PH} {x1 : Int32} (k : post (some (.int x1)) h) : G 2 mX5_boundNow post 147 [none, some (.int x1), none, none, none, none] [] h := by
  refine g_iload_n dX5_boundNow_147 rfl ?_
  refine g_goto (tgt := 152) dX5_boundNow_148 (by decide) ?_
  exact g_ireturn (ty := .int) dX5_boundNow_152 rfl rfl k
theorem sX5_boundNow_42 {post : Option Value → PH → Prop} {h : PH} {x1 x2 x3 x4 : Int32} (k1 : (h.1 15 3) ≤ x4 → G 2 mX5_boundNow post 90 [some (.ref 15), some (.int x1), some (.int x2), some (.int x3), none, none] [] h) (k2 : ¬ (h.1 15 3) ≤ x4 → G 2 mX5_boundNow post 51 [some (.ref 15), some (.int x1), some (.int x2), some (.int x3), some (.int x4), none] [] h) : G 2 mX5_boundNow post 42 [some (.ref 15), some (.int x1), some (.int x2), some (.int x3), some (.int x4), none] [] h := by
  refine g_iload dX5_boundNow_42 rfl ?_
  refine g_aload_n dX5_boundNow_44 rfl ?_
  refine g_getfield (kd := 0) (v := .int (h.1 15 3)) dX5_boundNow_45 fX5_57 (by decide) rfl rfl rfl rfl ?_
  exact g_icmp_ge (tgt := 90) dX5_boundNow_48 (by decide) (fun hc => by refine g_forget (mask := [true, true, true, true, false, true]) (L' := [some (.ref 15), some (.int x1), some (.int x2), some (.int x3), none, none]) rfl ?_; exact k1 hc) (fun hc => k2 hc)
theorem sX5_boundNow_34 {post : Option Value → PH → Prop} {h : PH} {x1 x2 s0 : Int32} (k : G 2 mX5_boundNow post 42 [some (.ref 15), some (.int x1), some (.int x2), some (.int s0), some (.int 0), none] [] h) : G 2 mX5_boundNow post 34 [some (.ref 15), some (.int x1), some (.int x2), none, none, none] [.int s0] h := by
  refine g_goto (tgt := 38) dX5_boundNow_34 (by decide) ?_
  refine g_istore_n (L' := [some (.ref 15), some (.int x1), some (.int x2), some (.int s0), none, none]) dX5_boundNow_38 rfl (by decide) rfl ?_
  refine g_iconst (v := 0) dX5_boundNow_39 rfl ?_
  refine g_istore (L' := [some (.ref 15), some (.int x1), some (.int x2), some (.int s0), some (.int 0), none]) dX5_boundNow_40 rfl (by decide) rfl ?_
  exact k
theorem sX5_boundNow_90 {post : Option Value → PH → Prop} {h : PH} {x1 x2 x3 : Int32} (k : Ev 0 mX5_has [.int (h.1 15 8), .int x2] h (fun r h' => G 2 mX5_boundNow post 99 [some (.ref 15), none, some (.int x2), some (.int x3), none, none] (r.toList ++ [.int x1]) h')) : G 2 mX5_boundNow post 90 [some (.ref 15), some (.int x1), some (.int x2), some (.int x3), none, none] [] h := by
  refine g_iload_n dX5_boundNow_90 rfl ?_
  refine g_aload_n dX5_boundNow_91 rfl ?_
  refine g_getfield (kd := 0) (v := .int (h.1 15 8)) dX5_boundNow_92 fX5_63 (by decide) rfl rfl rfl rfl ?_
  refine g_iload_n dX5_boundNow_95 rfl ?_
  refine g_forget (mask := [true, false, true, true, true, true]) (L' := [some (.ref 15), none, some (.int x2), some (.int x3), none, none]) rfl ?_
  exact g_callS (n := 2) (as := [.int (h.1 15 8), .int x2]) (rest := [.int x1]) dX5_boundNow_96 kX5_has lX5_76 rfl rfl (by simp only [List.map, Value.category]; decide) (by decide) k
theorem sX5_boundNow_51 {post : Option Value → PH → Prop} {h : PH} {x1 x2 x3 x4 : Int32} (k : Ev 0 mX5_has [.int (h.1 15 9), .int x2] h (fun r h' => G 2 mX5_boundNow post 59 [some (.ref 15), some (.int x1), some (.int x2), some (.int x3), some (.int x4), none] (r.toList ++ []) h')) : G 2 mX5_boundNow post 51 [some (.ref 15), some (.int x1), some (.int x2), some (.int x3), some (.int x4), none] [] h := by
  refine g_aload_n dX5_boundNow_51 rfl ?_
  refine g_getfield (kd := 0) (v := .int (h.1 15 9)) dX5_boundNow_52 fX5_66 (by decide) rfl rfl rfl rfl ?_
  refine g_iload_n dX5_boundNow_55 rfl ?_
  exact g_callS (n := 2) (as := [.int (h.1 15 9), .int x2]) (rest := []) dX5_boundNow_56 kX5_has lX5_76 rfl rfl (by simp only [List.map, Value.category]; decide) (by decide) k
theorem sX5_boundNow_99 {post : Option Value → PH → Prop} {h : PH} {x2 x3 s0 s1 : Int32} (k1 : s0 = 0 → G 2 mX5_boundNow post 106 [some (.ref 15), none, some (.int x2), some (.int x3), none, none] [.int s1] h) (k2 : ¬ s0 = 0 → G 2 mX5_boundNow post 102 [some (.ref 15), none, some (.int x2), none, none, none] [.int s1] h) : G 2 mX5_boundNow post 99 [some (.ref 15), none, some (.int x2), some (.int x3), none, none] [.int s0, .int s1] h := by
  exact g_if_eq (tgt := 106) dX5_boundNow_99 (by decide) (fun hc => k1 hc) (fun hc => by refine g_forget (mask := [true, true, true, false, true, true]) (L' := [some (.ref 15), none, some (.int x2), none, none, none]) rfl ?_; exact k2 hc)
theorem sX5_boundNow_59 {post : Option Value → PH → Prop} {h : PH} {x1 x2 x3 x4 s0 : Int32} (k1 : ¬ s0 = 0 → G 2 mX5_boundNow post 90 [some (.ref 15), some (.int x1), some (.int x2), some (.int x3), none, none] [] h) (k2 : s0 = 0 → G 2 mX5_boundNow post 62 [some (.ref 15), some (.int x1), some (.int x2), some (.int x3), some (.int x4), none] [] h) : G 2 mX5_boundNow post 59 [some (.ref 15), some (.int x1), some (.int x2), some (.int x3), some (.int x4), none] [.int s0] h := by
  exact g_if_ne (tgt := 90) dX5_boundNow_59 (by decide) (fun hc => by refine g_forget (mask := [true, true, true, true, false, true]) (L' := [some (.ref 15), some (.int x1), some (.int x2), some (.int x3), none, none]) rfl ?_; exact k1 hc) (fun hc => k2 hc)
theorem sX5_boundNow_106 {post : Option Value → PH → Prop} {h : PH} {x2 x3 s0 : Int32} (k : G 2 mX5_boundNow post 4 [some (.ref 15), some (.int (s0 + x3)), some (.int (x2 + 1)), none, none, none] [] h) : G 2 mX5_boundNow post 106 [some (.ref 15), none, some (.int x2), some (.int x3), none, none] [.int s0] h := by
  refine g_iload_n dX5_boundNow_106 rfl ?_
  refine g_iadd dX5_boundNow_107 ?_
  refine g_istore_n (L' := [some (.ref 15), some (.int (s0 + x3)), some (.int x2), some (.int x3), none, none]) dX5_boundNow_108 rfl (by decide) rfl ?_
  refine g_iinc (v := (x2 + 1)) (L' := [some (.ref 15), some (.int (s0 + x3)), some (.int (x2 + 1)), some (.int x3), none, none]) dX5_boundNow_109 rfl rfl rfl (by decide) rfl ?_
  refine g_goto (tgt := 4) dX5_boundNow_112 (by decide) ?_
  refine g_forget (mask := [true, true, true, false, true, true]) (L' := [some (.ref 15), some (.int (s0 + x3)), some (.int (x2 + 1)), none, none, none]) rfl ?_
  exact k
theorem sX5_boundNow_102 {post : Option Value → PH → Prop} {h : PH} {x2 s0 : Int32} (k : G 2 mX5_boundNow post 4 [some (.ref 15), some (.int (s0 + 0)), some (.int (x2 + 1)), none, none, none] [] h) : G 2 mX5_boundNow post 102 [some (.ref 15), none, some (.int x2), none, none, none] [.int s0] h := by
  refine g_iconst (v := 0) dX5_boundNow_102 rfl ?_
  refine g_goto (tgt := 107) dX5_boundNow_103 (by decide) ?_
  refine g_iadd dX5_boundNow_107 ?_
  refine g_istore_n (L' := [some (.ref 15), some (.int (s0 + 0)), some (.int x2), none, none, none]) dX5_boundNow_108 rfl (by decide) rfl ?_
  refine g_iinc (v := (x2 + 1)) (L' := [some (.ref 15), some (.int (s0 + 0)), some (.int (x2 + 1)), none, none, none]) dX5_boundNow_109 rfl rfl rfl (by decide) rfl ?_
  refine g_goto (tgt := 4) dX5_boundNow_112 (by decide) ?_
  exact k
theorem sX5_boundNow_62 {post : Option Value → PH → Prop} {h : PH} {x1 x2 x3 x4 : Int32} (k : Ev 1 mX5_givesAll [.ref 15, .int x2, .int x4] h (fun r h' => G 2 mX5_boundNow post 69 [some (.ref 15), some (.int x1), some (.int x2), some (.int x3), some (.int x4), none] (r.toList ++ []) h')) : G 2 mX5_boundNow post 62 [some (.ref 15), some (.int x1), some (.int x2), some (.int x3), some (.int x4), none] [] h := by
  refine g_aload_n dX5_boundNow_62 rfl ?_
  refine g_iload_n dX5_boundNow_63 rfl ?_
  refine g_iload dX5_boundNow_64 rfl ?_
  exact g_callV (n := 2) (b := 15) (as := [.int x2, .int x4]) (rest := []) dX5_boundNow_66 kX5_givesAll lX5_100 (by decide) rfl ⟨_, _, rfl⟩ rfl rfl (by simp only [List.map, Value.category]; decide) (by decide) k
theorem sX5_boundNow_69 {post : Option Value → PH → Prop} {h : PH} {x1 x2 x3 x4 s0 : Int32} (k1 : s0 ≤ x3 → G 2 mX5_boundNow post 82 [some (.ref 15), some (.int x1), some (.int x2), some (.int x3), some (.int x4), none] [] h) (k2 : ¬ s0 ≤ x3 → G 2 mX5_boundNow post 77 [some (.ref 15), some (.int x1), some (.int x2), none, some (.int x4), some (.int s0)] [] h) : G 2 mX5_boundNow post 69 [some (.ref 15), some (.int x1), some (.int x2), some (.int x3), some (.int x4), none] [.int s0] h := by
  refine g_istore (L' := [some (.ref 15), some (.int x1), some (.int x2), some (.int x3), some (.int x4), some (.int s0)]) dX5_boundNow_69 rfl (by decide) rfl ?_
  refine g_iload dX5_boundNow_71 rfl ?_
  refine g_iload_n dX5_boundNow_73 rfl ?_
  exact g_icmp_le (tgt := 82) dX5_boundNow_74 (by decide) (fun hc => by refine g_forget (mask := [true, true, true, true, true, false]) (L' := [some (.ref 15), some (.int x1), some (.int x2), some (.int x3), some (.int x4), none]) rfl ?_; exact k1 hc) (fun hc => by refine g_forget (mask := [true, true, true, false, true, true]) (L' := [some (.ref 15), some (.int x1), some (.int x2), none, some (.int x4), some (.int s0)]) rfl ?_; exact k2 hc)
theorem sX5_boundNow_82 {post : Option Value → PH → Prop} {h : PH} {x1 x2 x3 x4 : Int32} (k : G 2 mX5_boundNow post 42 [some (.ref 15), some (.int x1), some (.int x2), some (.int x3), some (.int (x4 + 1)), none] [] h) : G 2 mX5_boundNow post 82 [some (.ref 15), some (.int x1), some (.int x2), some (.int x3), some (.int x4), none] [] h := by
  refine g_iload_n dX5_boundNow_82 rfl ?_
  refine g_istore_n (L' := [some (.ref 15), some (.int x1), some (.int x2), some (.int x3), some (.int x4), none]) dX5_boundNow_83 rfl (by decide) rfl ?_
  refine g_iinc (v := (x4 + 1)) (L' := [some (.ref 15), some (.int x1), some (.int x2), some (.int x3), some (.int (x4 + 1)), none]) dX5_boundNow_84 rfl rfl rfl (by decide) rfl ?_
  refine g_goto (tgt := 42) dX5_boundNow_87 (by decide) ?_
  exact k
theorem sX5_boundNow_77 {post : Option Value → PH → Prop} {h : PH} {x1 x2 x4 x5 : Int32} (k : G 2 mX5_boundNow post 42 [some (.ref 15), some (.int x1), some (.int x2), some (.int x5), some (.int (x4 + 1)), none] [] h) : G 2 mX5_boundNow post 77 [some (.ref 15), some (.int x1), some (.int x2), none, some (.int x4), some (.int x5)] [] h := by
  refine g_iload dX5_boundNow_77 rfl ?_
  refine g_goto (tgt := 83) dX5_boundNow_79 (by decide) ?_
  refine g_istore_n (L' := [some (.ref 15), some (.int x1), some (.int x2), some (.int x5), some (.int x4), some (.int x5)]) dX5_boundNow_83 rfl (by decide) rfl ?_
  refine g_iinc (v := (x4 + 1)) (L' := [some (.ref 15), some (.int x1), some (.int x2), some (.int x5), some (.int (x4 + 1)), some (.int x5)]) dX5_boundNow_84 rfl rfl rfl (by decide) rfl ?_
  refine g_goto (tgt := 42) dX5_boundNow_87 (by decide) ?_
  refine g_forget (mask := [true, true, true, true, true, false]) (L' := [some (.ref 15), some (.int x1), some (.int x2), some (.int x5), some (.int (x4 + 1)), none]) rfl ?_
  exact k
theorem sX5_bestNow_0 {post : Option Value → PH → Prop} {h : PH} {x1 : Int32} (k1 : (h.1 15 15) = (-1001) → G 3 mX5_bestNow post 14 [some (.ref 15), none] [] h) (k2 : ¬ (h.1 15 15) = (-1001) → G 3 mX5_bestNow post 10 [some (.ref 15), some (.int x1)] [] h) : G 3 mX5_bestNow post 0 [some (.ref 15), some (.int x1)] [] h := by
  refine g_aload_n dX5_bestNow_0 rfl ?_
  refine g_getfield (kd := 0) (v := .int (h.1 15 15)) dX5_bestNow_1 fX5_114 (by decide) rfl rfl rfl rfl ?_
  refine g_sipush (v := (-1001)) dX5_bestNow_4 rfl ?_
  exact g_icmp_eq (tgt := 14) dX5_bestNow_7 (by decide) (fun hc => by refine g_forget (mask := [true, false]) (L' := [some (.ref 15), none]) rfl ?_; exact k1 hc) (fun hc => k2 hc)
theorem sX5_bestNow_14 {post : Option Value → PH → Prop} {h : PH} (k : post (some (.int (h.1 15 16))) h) : G 3 mX5_bestNow post 14 [some (.ref 15), none] [] h := by
  refine g_aload_n dX5_bestNow_14 rfl ?_
  refine g_getfield (kd := 0) (v := .int (h.1 15 16)) dX5_bestNow_15 fX5_117 (by decide) rfl rfl rfl rfl ?_
  exact g_ireturn (ty := .int) dX5_bestNow_18 rfl rfl k
theorem sX5_bestNow_10 {post : Option Value → PH → Prop} {h : PH} {x1 : Int32} (k1 : ¬ x1 = 0 → G 3 mX5_bestNow post 19 [some (.ref 15), some (.int x1)] [] h) (k2 : x1 = 0 → G 3 mX5_bestNow post 14 [some (.ref 15), none] [] h) : G 3 mX5_bestNow post 10 [some (.ref 15), some (.int x1)] [] h := by
  refine g_iload_n dX5_bestNow_10 rfl ?_
  exact g_if_ne (tgt := 19) dX5_bestNow_11 (by decide) (fun hc => k1 hc) (fun hc => by refine g_forget (mask := [true, false]) (L' := [some (.ref 15), none]) rfl ?_; exact k2 hc)
theorem sX5_bestNow_19 {post : Option Value → PH → Prop} {h : PH} {x1 : Int32} (k : Ev 0 mX5_layCode [.ref 15, .int (h.1 15 15)] h (fun r h' => G 3 mX5_bestNow post 27 [some (.ref 15), some (.int x1)] (r.toList ++ []) h')) : G 3 mX5_bestNow post 19 [some (.ref 15), some (.int x1)] [] h := by
  refine g_aload_n dX5_bestNow_19 rfl ?_
  refine g_aload_n dX5_bestNow_20 rfl ?_
  refine g_getfield (kd := 0) (v := .int (h.1 15 15)) dX5_bestNow_21 fX5_114 (by decide) rfl rfl rfl rfl ?_
  exact g_callV (n := 1) (b := 15) (as := [.int (h.1 15 15)]) (rest := []) dX5_bestNow_24 kX5_layCode lX5_120 (by decide) rfl ⟨_, _, rfl⟩ rfl rfl (by simp only [List.map, Value.category]; decide) (by decide) k
theorem sX5_bestNow_27 {post : Option Value → PH → Prop} {h : PH} {x1 : Int32} (k1 : ¬ x1 = 1 → G 3 mX5_bestNow post 44 [some (.ref 15), some (.int x1)] [] h) (k2 : x1 = 1 → G 3 mX5_bestNow post 32 [some (.ref 15), none] [] h) : G 3 mX5_bestNow post 27 [some (.ref 15), some (.int x1)] [] h := by
  refine g_iload_n dX5_bestNow_27 rfl ?_
  refine g_iconst (v := 1) dX5_bestNow_28 rfl ?_
  exact g_icmp_ne (tgt := 44) dX5_bestNow_29 (by decide) (fun hc => k1 hc) (fun hc => by refine g_forget (mask := [true, false]) (L' := [some (.ref 15), none]) rfl ?_; exact k2 hc)
theorem sX5_bestNow_44 {post : Option Value → PH → Prop} {h : PH} {x1 : Int32} (k : Ev 1 mX5_isMirror [.ref 15, .int (x1 - 10)] h (fun r h' => G 3 mX5_bestNow post 52 [some (.ref 15), some (.int x1)] (r.toList ++ []) h')) : G 3 mX5_bestNow post 44 [some (.ref 15), some (.int x1)] [] h := by
  refine g_aload_n dX5_bestNow_44 rfl ?_
  refine g_iload_n dX5_bestNow_45 rfl ?_
  refine g_bipush (v := 10) dX5_bestNow_46 rfl ?_
  refine g_isub dX5_bestNow_48 ?_
  exact g_callV (n := 1) (b := 15) (as := [.int (x1 - 10)]) (rest := []) dX5_bestNow_49 kX5_isMirror lX5_87 (by decide) rfl ⟨_, _, rfl⟩ rfl rfl (by simp only [List.map, Value.category]; decide) (by decide) k
theorem sX5_bestNow_32 {post : Option Value → PH → Prop} {h : PH} (k : Ev 2 mX5_boundNow [.ref 15] h (fun r h' => G 3 mX5_bestNow post 36 [some (.ref 15), none] (r.toList ++ []) h')) : G 3 mX5_bestNow post 32 [some (.ref 15), none] [] h := by
  refine g_aload_n dX5_bestNow_32 rfl ?_
  exact g_callV (n := 0) (b := 15) (as := []) (rest := []) dX5_bestNow_33 kX5_boundNow lX5_131 (by decide) rfl ⟨_, _, rfl⟩ rfl rfl (by simp only [List.map, Value.category]; decide) (by decide) k
theorem sX5_bestNow_52 {post : Option Value → PH → Prop} {h : PH} {x1 s0 : Int32} (k1 : s0 = 0 → G 3 mX5_bestNow post 67 [none, none] [] h) (k2 : ¬ s0 = 0 → G 3 mX5_bestNow post 55 [some (.ref 15), some (.int x1)] [] h) : G 3 mX5_bestNow post 52 [some (.ref 15), some (.int x1)] [.int s0] h := by
  exact g_if_eq (tgt := 67) dX5_bestNow_52 (by decide) (fun hc => by refine g_forget (mask := [false, false]) (L' := [none, none]) rfl ?_; exact k1 hc) (fun hc => k2 hc)
theorem sX5_bestNow_36 {post : Option Value → PH → Prop} {h : PH} {s0 : Int32} (k : post (some (.int (s0 - (h.1 15 16)))) h) : G 3 mX5_bestNow post 36 [some (.ref 15), none] [.int s0] h := by
  refine g_aload_n dX5_bestNow_36 rfl ?_
  refine g_getfield (kd := 0) (v := .int (h.1 15 16)) dX5_bestNow_37 fX5_117 (by decide) rfl rfl rfl rfl ?_
  refine g_isub dX5_bestNow_40 ?_
  refine g_goto (tgt := 70) dX5_bestNow_41 (by decide) ?_
  exact g_ireturn (ty := .int) dX5_bestNow_70 rfl rfl k
theorem sX5_bestNow_67 {post : Option Value → PH → Prop} {h : PH} (k : post (some (.int (-1001))) h) : G 3 mX5_bestNow post 67 [none, none] [] h := by
  refine g_sipush (v := (-1001)) dX5_bestNow_67 rfl ?_
  exact g_ireturn (ty := .int) dX5_bestNow_70 rfl rfl k
theorem sX5_bestNow_55 {post : Option Value → PH → Prop} {h : PH} {x1 : Int32} (hb1 : vp_in (x1 - 10) 5) (k : post (some (.int (h.1 21 (Int32.toNatClampNeg (x1 - 10))))) h) : G 3 mX5_bestNow post 55 [some (.ref 15), some (.int x1)] [] h := by
  refine g_aload_n dX5_bestNow_55 rfl ?_
  refine g_getfield (kd := 23) (v := .ref 21) dX5_bestNow_56 fX5_25 (by decide) rfl rfl rfl rfl ?_
  refine g_iload_n dX5_bestNow_59 rfl ?_
  refine g_bipush (v := 10) dX5_bestNow_60 rfl ?_
  refine g_isub dX5_bestNow_62 ?_
  refine g_iaload (n := 5) dX5_bestNow_63 (by decide) rfl rfl rfl hb1 ?_
  refine g_goto (tgt := 70) dX5_bestNow_64 (by decide) ?_
  exact g_ireturn (ty := .int) dX5_bestNow_70 rfl rfl k
theorem sX5_best_0 {post : Option Value → PH → Prop} {h : PH} {x1 x2 : Int32} (k1 : ¬ (h.1 15 2) = 0 → G 4 mX5_best post 11 [some (.ref 15), some (.int x1), some (.int x2)] [] h) (k2 : (h.1 15 2) = 0 → G 4 mX5_best post 7 [none, none, none] [] h) : G 4 mX5_best post 0 [some (.ref 15), some (.int x1), some (.int x2)] [] h := by
  refine g_aload_n dX5_best_0 rfl ?_
  refine g_getfield (kd := 0) (v := .int (h.1 15 2)) dX5_best_1 fX5_60 (by decide) rfl rfl rfl rfl ?_
  exact g_if_ne (tgt := 11) dX5_best_4 (by decide) (fun hc => k1 hc) (fun hc => by refine g_forget (mask := [false, false, false]) (L' := [none, none, none]) rfl ?_; exact k2 hc)
theorem sX5_best_11 {post : Option Value → PH → Prop} {h : PH} {x1 x2 : Int32} (k : Ev 0 mX5_within [.int x2, .int 0, .int 1] h (fun r h' => G 4 mX5_best post 17 [some (.ref 15), some (.int x1), some (.int x2)] (r.toList ++ []) h')) : G 4 mX5_best post 11 [some (.ref 15), some (.int x1), some (.int x2)] [] h := by
  refine g_iload_n dX5_best_11 rfl ?_
  refine g_iconst (v := 0) dX5_best_12 rfl ?_
  refine g_iconst (v := 1) dX5_best_13 rfl ?_
  exact g_callS (n := 3) (as := [.int x2, .int 0, .int 1]) (rest := []) dX5_best_14 kX5_within lX5_41 rfl rfl (by simp only [List.map, Value.category]; decide) (by decide) k
theorem sX5_best_7 {post : Option Value → PH → Prop} {h : PH} (k : post (some (.int (-1004))) h) : G 4 mX5_best post 7 [none, none, none] [] h := by
  refine g_sipush (v := (-1004)) dX5_best_7 rfl ?_
  exact g_ireturn (ty := .int) dX5_best_10 rfl rfl k
theorem sX5_best_17 {post : Option Value → PH → Prop} {h : PH} {x1 x2 s0 : Int32} (k1 : ¬ s0 = 0 → G 4 mX5_best post 35 [some (.ref 15), some (.int x1), some (.int x2)] [] h) (k2 : s0 = 0 → G 4 mX5_best post 20 [some (.ref 15), some (.int x1), some (.int x2)] [] h) : G 4 mX5_best post 17 [some (.ref 15), some (.int x1), some (.int x2)] [.int s0] h := by
  exact g_if_ne (tgt := 35) dX5_best_17 (by decide) (fun hc => k1 hc) (fun hc => k2 hc)
theorem sX5_best_35 {post : Option Value → PH → Prop} {h : PH} {x1 x2 : Int32} (k : Ev 3 mX5_layBest [.ref 15, .int x1] h (fun r h' => G 4 mX5_best post 40 [some (.ref 15), none, some (.int x2)] (r.toList ++ []) h')) : G 4 mX5_best post 35 [some (.ref 15), some (.int x1), some (.int x2)] [] h := by
  refine g_aload_n dX5_best_35 rfl ?_
  refine g_iload_n dX5_best_36 rfl ?_
  refine g_forget (mask := [true, false, true]) (L' := [some (.ref 15), none, some (.int x2)]) rfl ?_
  exact g_callV (n := 1) (b := 15) (as := [.int x1]) (rest := []) dX5_best_37 kX5_layBest lX5_134 (by decide) rfl ⟨_, _, rfl⟩ rfl rfl (by simp only [List.map, Value.category]; decide) (by decide) k
theorem sX5_best_20 {post : Option Value → PH → Prop} {h : PH} {x1 x2 : Int32} (k : Ev 0 mX5_within [.int x2, .int 10, .int 14] h (fun r h' => G 4 mX5_best post 28 [some (.ref 15), some (.int x1), some (.int x2)] (r.toList ++ []) h')) : G 4 mX5_best post 20 [some (.ref 15), some (.int x1), some (.int x2)] [] h := by
  refine g_iload_n dX5_best_20 rfl ?_
  refine g_bipush (v := 10) dX5_best_21 rfl ?_
  refine g_bipush (v := 14) dX5_best_23 rfl ?_
  exact g_callS (n := 3) (as := [.int x2, .int 10, .int 14]) (rest := []) dX5_best_25 kX5_within lX5_41 rfl rfl (by simp only [List.map, Value.category]; decide) (by decide) k
theorem sX5_best_40 {post : Option Value → PH → Prop} {h : PH} {x2 : Int32} (k : Ev 3 mX5_bestNow [.ref 15, .int x2] h (fun r h' => G 4 mX5_best post 45 [none, none, none] (r.toList ++ []) h')) : G 4 mX5_best post 40 [some (.ref 15), none, some (.int x2)] [] h := by
  refine g_aload_n dX5_best_40 rfl ?_
  refine g_iload_n dX5_best_41 rfl ?_
  refine g_forget (mask := [false, true, false]) (L' := [none, none, none]) rfl ?_
  exact g_callV (n := 1) (b := 15) (as := [.int x2]) (rest := []) dX5_best_42 kX5_bestNow lX5_138 (by decide) rfl ⟨_, _, rfl⟩ rfl rfl (by simp only [List.map, Value.category]; decide) (by decide) k
theorem sX5_best_28 {post : Option Value → PH → Prop} {h : PH} {x1 x2 s0 : Int32} (k1 : ¬ s0 = 0 → G 4 mX5_best post 35 [some (.ref 15), some (.int x1), some (.int x2)] [] h) (k2 : s0 = 0 → G 4 mX5_best post 31 [none, none, none] [] h) : G 4 mX5_best post 28 [some (.ref 15), some (.int x1), some (.int x2)] [.int s0] h := by
  exact g_if_ne (tgt := 35) dX5_best_28 (by decide) (fun hc => k1 hc) (fun hc => by refine g_forget (mask := [false, false, false]) (L' := [none, none, none]) rfl ?_; exact k2 hc)
theorem sX5_best_45 {post : Option Value → PH → Prop} {h : PH} {s0 : Int32} (k : post (some (.int s0)) h) : G 4 mX5_best post 45 [none, none, none] [.int s0] h := by
  exact g_ireturn (ty := .int) dX5_best_45 rfl rfl k
