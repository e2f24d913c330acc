theorem sJ6_bitCount_0f7a4_0 {post : Option Value → PH → Prop} {h : PH} {x0 : Int32} (k : post (some (.int ((((((((x0 - (((Int32.toUInt32 x0 >>> (Int32.toUInt32 1 &&& Int32.toUInt32 31)).toInt32) &&& 1431655765)) &&& 858993459) + (((Int32.toUInt32 (x0 - (((Int32.toUInt32 x0 >>> (Int32.toUInt32 1 &&& Int32.toUInt32 31)).toInt32) &&& 1431655765)) >>> (Int32.toUInt32 2 &&& Int32.toUInt32 31)).toInt32) &&& 858993459)) + ((Int32.toUInt32 (((x0 - (((Int32.toUInt32 x0 >>> (Int32.toUInt32 1 &&& Int32.toUInt32 31)).toInt32) &&& 1431655765)) &&& 858993459) + (((Int32.toUInt32 (x0 - (((Int32.toUInt32 x0 >>> (Int32.toUInt32 1 &&& Int32.toUInt32 31)).toInt32) &&& 1431655765)) >>> (Int32.toUInt32 2 &&& Int32.toUInt32 31)).toInt32) &&& 858993459)) >>> (Int32.toUInt32 4 &&& Int32.toUInt32 31)).toInt32)) &&& 252645135) + ((Int32.toUInt32 (((((x0 - (((Int32.toUInt32 x0 >>> (Int32.toUInt32 1 &&& Int32.toUInt32 31)).toInt32) &&& 1431655765)) &&& 858993459) + (((Int32.toUInt32 (x0 - (((Int32.toUInt32 x0 >>> (Int32.toUInt32 1 &&& Int32.toUInt32 31)).toInt32) &&& 1431655765)) >>> (Int32.toUInt32 2 &&& Int32.toUInt32 31)).toInt32) &&& 858993459)) + ((Int32.toUInt32 (((x0 - (((Int32.toUInt32 x0 >>> (Int32.toUInt32 1 &&& Int32.toUInt32 31)).toInt32) &&& 1431655765)) &&& 858993459) + (((Int32.toUInt32 (x0 - (((Int32.toUInt32 x0 >>> (Int32.toUInt32 1 &&& Int32.toUInt32 31)).toInt32) &&& 1431655765)) >>> (Int32.toUInt32 2 &&& Int32.toUInt32 31)).toInt32) &&& 858993459)) >>> (Int32.toUInt32 4 &&& Int32.toUInt32 31)).toInt32)) &&& 252645135) >>> (Int32.toUInt32 8 &&& Int32.toUInt32 31)).toInt32)) + ((Int32.toUInt32 ((((((x0 - (((Int32.toUInt32 x0 >>> (Int32.toUInt32 1 &&& Int32.toUInt32 31)).toInt32) &&& 1431655765)) &&& 858993459) + (((Int32.toUInt32 (x0 - (((Int32.toUInt32 x0 >>> (Int32.toUInt32 1 &&& Int32.toUInt32 31)).toInt32) &&& 1431655765)) >>> (Int32.toUInt32 2 &&& Int32.toUInt32 31)).toInt32) &&& 858993459)) + ((Int32.toUInt32 (((x0 - (((Int32.toUInt32 x0 >>> (Int32.toUInt32 1 &&& Int32.toUInt32 31)).toInt32) &&& 1431655765)) &&& 858993459) + (((Int32.toUInt32 (x0 - (((Int32.toUInt32 x0 >>> (Int32.toUInt32 1 &&& Int32.toUInt32 31)).toInt32) &&& 1431655765)) >>> (Int32.toUInt32 2 &&& Int32.toUInt32 31)).toInt32) &&& 858993459)) >>> (Int32.toUInt32 4 &&& Int32.toUInt32 31)).toInt32)) &&& 252645135) + ((Int32.toUInt32 (((((x0 - (((Int32.toUInt32 x0 >>> (Int32.toUInt32 1 &&& Int32.toUInt32 31)).toInt32) &&& 1431655765)) &&& 858993459) + (((Int32.toUInt32 (x0 - (((Int32.toUInt32 x0 >>> (Int32.toUInt32 1 &&& Int32.toUInt32 31)).toInt32) &&& 1431655765)) >>> (Int32.toUInt32 2 &&& Int32.toUInt32 31)).toInt32) &&& 858993459)) + ((Int32.toUInt32 (((x0 - (((Int32.toUInt32 x0 >>> (Int32.toUInt32 1 &&& Int32.toUInt32 31)).toInt32) &&& 1431655765)) &&& 858993459) + (((Int32.toUInt32 (x0 - (((Int32.toUInt32 x0 >>> (Int32.toUInt32 1 &&& Int32.toUInt32 31)).toInt32) &&& 1431655765)) >>> (Int32.toUInt32 2 &&& Int32.toUInt32 31)).toInt32) &&& 858993459)) >>> (Int32.toUInt32 4 &&& Int32.toUInt32 31)).toInt32)) &&& 252645135) >>> (Int32.toUInt32 8 &&& Int32.toUInt32 31)).toInt32)) >>> (Int32.toUInt32 16 &&& Int32.toUInt32 31)).toInt32)) &&& 63))) h) : G 0 mJ6_bitCount_0f7a4 post 0 [some (.int x0)] [] h := by
  refine g_iload_n dJ6_bitCount_0f7a4_0 rfl ?_
  refine g_iload_n dJ6_bitCount_0f7a4_1 rfl ?_
  refine g_iconst (v := 1) dJ6_bitCount_0f7a4_2 rfl ?_
  refine g_iushr dJ6_bitCount_0f7a4_3 ?_
  refine g_ldcw dJ6_bitCount_0f7a4_4 pJ6_265 ?_
  refine g_iand dJ6_bitCount_0f7a4_7 ?_
  refine g_isub dJ6_bitCount_0f7a4_8 ?_
  refine g_istore_n (L' := [some (.int (x0 - (((Int32.toUInt32 x0 >>> (Int32.toUInt32 1 &&& Int32.toUInt32 31)).toInt32) &&& 1431655765)))]) dJ6_bitCount_0f7a4_9 rfl (by decide) rfl ?_
  refine g_iload_n dJ6_bitCount_0f7a4_10 rfl ?_
  refine g_ldcw dJ6_bitCount_0f7a4_11 pJ6_266 ?_
  refine g_iand dJ6_bitCount_0f7a4_14 ?_
  refine g_iload_n dJ6_bitCount_0f7a4_15 rfl ?_
  refine g_iconst (v := 2) dJ6_bitCount_0f7a4_16 rfl ?_
  refine g_iushr dJ6_bitCount_0f7a4_17 ?_
  refine g_ldcw dJ6_bitCount_0f7a4_18 pJ6_266 ?_
  refine g_iand dJ6_bitCount_0f7a4_21 ?_
  refine g_iadd dJ6_bitCount_0f7a4_22 ?_
  refine g_istore_n (L' := [some (.int (((x0 - (((Int32.toUInt32 x0 >>> (Int32.toUInt32 1 &&& Int32.toUInt32 31)).toInt32) &&& 1431655765)) &&& 858993459) + (((Int32.toUInt32 (x0 - (((Int32.toUInt32 x0 >>> (Int32.toUInt32 1 &&& Int32.toUInt32 31)).toInt32) &&& 1431655765)) >>> (Int32.toUInt32 2 &&& Int32.toUInt32 31)).toInt32) &&& 858993459)))]) dJ6_bitCount_0f7a4_23 rfl (by decide) rfl ?_
  refine g_iload_n dJ6_bitCount_0f7a4_24 rfl ?_
  refine g_iload_n dJ6_bitCount_0f7a4_25 rfl ?_
  refine g_iconst (v := 4) dJ6_bitCount_0f7a4_26 rfl ?_
  refine g_iushr dJ6_bitCount_0f7a4_27 ?_
  refine g_iadd dJ6_bitCount_0f7a4_28 ?_
  refine g_ldcw dJ6_bitCount_0f7a4_29 pJ6_267 ?_
  refine g_iand dJ6_bitCount_0f7a4_32 ?_
  refine g_istore_n (L' := [some (.int (((((x0 - (((Int32.toUInt32 x0 >>> (Int32.toUInt32 1 &&& Int32.toUInt32 31)).toInt32) &&& 1431655765)) &&& 858993459) + (((Int32.toUInt32 (x0 - (((Int32.toUInt32 x0 >>> (Int32.toUInt32 1 &&& Int32.toUInt32 31)).toInt32) &&& 1431655765)) >>> (Int32.toUInt32 2 &&& Int32.toUInt32 31)).toInt32) &&& 858993459)) + ((Int32.toUInt32 (((x0 - (((Int32.toUInt32 x0 >>> (Int32.toUInt32 1 &&& Int32.toUInt32 31)).toInt32) &&& 1431655765)) &&& 858993459) + (((Int32.toUInt32 (x0 - (((Int32.toUInt32 x0 >>> (Int32.toUInt32 1 &&& Int32.toUInt32 31)).toInt32) &&& 1431655765)) >>> (Int32.toUInt32 2 &&& Int32.toUInt32 31)).toInt32) &&& 858993459)) >>> (Int32.toUInt32 4 &&& Int32.toUInt32 31)).toInt32)) &&& 252645135))]) dJ6_bitCount_0f7a4_33 rfl (by decide) rfl ?_
  refine g_iload_n dJ6_bitCount_0f7a4_34 rfl ?_
  refine g_iload_n dJ6_bitCount_0f7a4_35 rfl ?_
  refine g_bipush (v := 8) dJ6_bitCount_0f7a4_36 rfl ?_
  refine g_iushr dJ6_bitCount_0f7a4_38 ?_
  refine g_iadd dJ6_bitCount_0f7a4_39 ?_
  refine g_istore_n (L' := [some (.int ((((((x0 - (((Int32.toUInt32 x0 >>> (Int32.toUInt32 1 &&& Int32.toUInt32 31)).toInt32) &&& 1431655765)) &&& 858993459) + (((Int32.toUInt32 (x0 - (((Int32.toUInt32 x0 >>> (Int32.toUInt32 1 &&& Int32.toUInt32 31)).toInt32) &&& 1431655765)) >>> (Int32.toUInt32 2 &&& Int32.toUInt32 31)).toInt32) &&& 858993459)) + ((Int32.toUInt32 (((x0 - (((Int32.toUInt32 x0 >>> (Int32.toUInt32 1 &&& Int32.toUInt32 31)).toInt32) &&& 1431655765)) &&& 858993459) + (((Int32.toUInt32 (x0 - (((Int32.toUInt32 x0 >>> (Int32.toUInt32 1 &&& Int32.toUInt32 31)).toInt32) &&& 1431655765)) >>> (Int32.toUInt32 2 &&& Int32.toUInt32 31)).toInt32) &&& 858993459)) >>> (Int32.toUInt32 4 &&& Int32.toUInt32 31)).toInt32)) &&& 252645135) + ((Int32.toUInt32 (((((x0 - (((Int32.toUInt32 x0 >>> (Int32.toUInt32 1 &&& Int32.toUInt32 31)).toInt32) &&& 1431655765)) &&& 858993459) + (((Int32.toUInt32 (x0 - (((Int32.toUInt32 x0 >>> (Int32.toUInt32 1 &&& Int32.toUInt32 31)).toInt32) &&& 1431655765)) >>> (Int32.toUInt32 2 &&& Int32.toUInt32 31)).toInt32) &&& 858993459)) + ((Int32.toUInt32 (((x0 - (((Int32.toUInt32 x0 >>> (Int32.toUInt32 1 &&& Int32.toUInt32 31)).toInt32) &&& 1431655765)) &&& 858993459) + (((Int32.toUInt32 (x0 - (((Int32.toUInt32 x0 >>> (Int32.toUInt32 1 &&& Int32.toUInt32 31)).toInt32) &&& 1431655765)) >>> (Int32.toUInt32 2 &&& Int32.toUInt32 31)).toInt32) &&& 858993459)) >>> (Int32.toUInt32 4 &&& Int32.toUInt32 31)).toInt32)) &&& 252645135) >>> (Int32.toUInt32 8 &&& Int32.toUInt32 31)).toInt32)))]) dJ6_bitCount_0f7a4_40 rfl (by decide) rfl ?_
  refine g_iload_n dJ6_bitCount_0f7a4_41 rfl ?_
  refine g_iload_n dJ6_bitCount_0f7a4_42 rfl ?_
  refine g_bipush (v := 16) dJ6_bitCount_0f7a4_43 rfl ?_
  refine g_iushr dJ6_bitCount_0f7a4_45 ?_
  refine g_iadd dJ6_bitCount_0f7a4_46 ?_
  refine g_istore_n (L' := [some (.int (((((((x0 - (((Int32.toUInt32 x0 >>> (Int32.toUInt32 1 &&& Int32.toUInt32 31)).toInt32) &&& 1431655765)) &&& 858993459) + (((Int32.toUInt32 (x0 - (((Int32.toUInt32 x0 >>> (Int32.toUInt32 1 &&& Int32.toUInt32 31)).toInt32) &&& 1431655765)) >>> (Int32.toUInt32 2 &&& Int32.toUInt32 31)).toInt32) &&& 858993459)) + ((Int32.toUInt32 (((x0 - (((Int32.toUInt32 x0 >>> (Int32.toUInt32 1 &&& Int32.toUInt32 31)).toInt32) &&& 1431655765)) &&& 858993459) + (((Int32.toUInt32 (x0 - (((Int32.toUInt32 x0 >>> (Int32.toUInt32 1 &&& Int32.toUInt32 31)).toInt32) &&& 1431655765)) >>> (Int32.toUInt32 2 &&& Int32.toUInt32 31)).toInt32) &&& 858993459)) >>> (Int32.toUInt32 4 &&& Int32.toUInt32 31)).toInt32)) &&& 252645135) + ((Int32.toUInt32 (((((x0 - (((Int32.toUInt32 x0 >>> (Int32.toUInt32 1 &&& Int32.toUInt32 31)).toInt32) &&& 1431655765)) &&& 858993459) + (((Int32.toUInt32 (x0 - (((Int32.toUInt32 x0 >>> (Int32.toUInt32 1 &&& Int32.toUInt32 31)).toInt32) &&& 1431655765)) >>> (Int32.toUInt32 2 &&& Int32.toUInt32 31)).toInt32) &&& 858993459)) + ((Int32.toUInt32 (((x0 - (((Int32.toUInt32 x0 >>> (Int32.toUInt32 1 &&& Int32.toUInt32 31)).toInt32) &&& 1431655765)) &&& 858993459) + (((Int32.toUInt32 (x0 - (((Int32.toUInt32 x0 >>> (Int32.toUInt32 1 &&& Int32.toUInt32 31)).toInt32) &&& 1431655765)) >>> (Int32.toUInt32 2 &&& Int32.toUInt32 31)).toInt32) &&& 858993459)) >>> (Int32.toUInt32 4 &&& Int32.toUInt32 31)).toInt32)) &&& 252645135) >>> (Int32.toUInt32 8 &&& Int32.toUInt32 31)).toInt32)) + ((Int32.toUInt32 ((((((x0 - (((Int32.toUInt32 x0 >>> (Int32.toUInt32 1 &&& Int32.toUInt32 31)).toInt32) &&& 1431655765)) &&& 858993459) + (((Int32.toUInt32 (x0 - (((Int32.toUInt32 x0 >>> (Int32.toUInt32 1 &&& Int32.toUInt32 31)).toInt32) &&& 1431655765)) >>> (Int32.toUInt32 2 &&& Int32.toUInt32 31)).toInt32) &&& 858993459)) + ((Int32.toUInt32 (((x0 - (((Int32.toUInt32 x0 >>> (Int32.toUInt32 1 &&& Int32.toUInt32 31)).toInt32) &&& 1431655765)) &&& 858993459) + (((Int32.toUInt32 (x0 - (((Int32.toUInt32 x0 >>> (Int32.toUInt32 1 &&& Int32.toUInt32 31)).toInt32) &&& 1431655765)) >>> (Int32.toUInt32 2 &&& Int32.toUInt32 31)).toInt32) &&& 858993459)) >>> (Int32.toUInt32 4 &&& Int32.toUInt32 31)).toInt32)) &&& 252645135) + ((Int32.toUInt32 (((((x0 - (((Int32.toUInt32 x0 >>> (Int32.toUInt32 1 &&& Int32.toUInt32 31)).toInt32) &&& 1431655765)) &&& 858993459) + (((Int32.toUInt32 (x0 - (((Int32.toUInt32 x0 >>> (Int32.toUInt32 1 &&& Int32.toUInt32 31)).toInt32) &&& 1431655765)) >>> (Int32.toUInt32 2 &&& Int32.toUInt32 31)).toInt32) &&& 858993459)) + ((Int32.toUInt32 (((x0 - (((Int32.toUInt32 x0 >>> (Int32.toUInt32 1 &&& Int32.toUInt32 31)).toInt32) &&& 1431655765)) &&& 858993459) + (((Int32.toUInt32 (x0 - (((Int32.toUInt32 x0 >>> (Int32.toUInt32 1 &&& Int32.toUInt32 31)).toInt32) &&& 1431655765)) >>> (Int32.toUInt32 2 &&& Int32.toUInt32 31)).toInt32) &&& 858993459)) >>> (Int32.toUInt32 4 &&& Int32.toUInt32 31)).toInt32)) &&& 252645135) >>> (Int32.toUInt32 8 &&& Int32.toUInt32 31)).toInt32)) >>> (Int32.toUInt32 16 &&& Int32.toUInt32 31)).toInt32)))]) dJ6_bitCount_0f7a4_47 rfl (by decide) rfl ?_
  refine g_iload_n dJ6_bitCount_0f7a4_48 rfl ?_
  refine g_bipush (v := 63) dJ6_bitCount_0f7a4_49 rfl ?_
  refine g_iand dJ6_bitCount_0f7a4_51 ?_
  exact g_ireturn (ty := .int) dJ6_bitCount_0f7a4_52 rfl rfl k
theorem sJ7_fill_53178_0_p11 {post : Option Value → PH → Prop} {h : PH} {x1 : Int32} (k : G 0 mJ7_fill_53178 post 5 [some (.ref 11), some (.int x1), some (.int 0), some (.int 4)] [] h) : G 0 mJ7_fill_53178 post 0 [some (.ref 11), some (.int x1), none, none] [] h := by
  refine g_iconst (v := 0) dJ7_fill_53178_0 rfl ?_
  refine g_istore_n (L' := [some (.ref 11), some (.int x1), some (.int 0), none]) dJ7_fill_53178_1 rfl (by decide) rfl ?_
  refine g_aload_n dJ7_fill_53178_2 rfl ?_
  refine g_arraylength (n := 4) dJ7_fill_53178_3 (by decide) rfl rfl rfl ?_
  refine g_istore_n (L' := [some (.ref 11), some (.int x1), some (.int 0), some (.int 4)]) dJ7_fill_53178_4 rfl (by decide) rfl ?_
  exact k
theorem sJ7_fill_53178_5_p11 {post : Option Value → PH → Prop} {h : PH} {x1 x2 x3 : Int32} (k1 : x3 ≤ x2 → G 0 mJ7_fill_53178 post 20 [none, none, none, none] [] h) (k2 : ¬ x3 ≤ x2 → G 0 mJ7_fill_53178 post 10 [some (.ref 11), some (.int x1), some (.int x2), some (.int x3)] [] h) : G 0 mJ7_fill_53178 post 5 [some (.ref 11), some (.int x1), some (.int x2), some (.int x3)] [] h := by
  refine g_iload_n dJ7_fill_53178_5 rfl ?_
  refine g_iload_n dJ7_fill_53178_6 rfl ?_
  exact g_icmp_ge (tgt := 20) dJ7_fill_53178_7 (by decide) (fun hc => by refine g_forget (mask := [false, false, false, false]) (L' := [none, none, none, none]) rfl ?_; exact k1 hc) (fun hc => k2 hc)
theorem sJ7_fill_53178_20_p11 {post : Option Value → PH → Prop} {h : PH} (k : post none h) : G 0 mJ7_fill_53178 post 20 [none, none, none, none] [] h := by
  exact g_return dJ7_fill_53178_20 rfl k
theorem sJ7_fill_53178_10_p11 {post : Option Value → PH → Prop} {h : PH} {x1 x2 x3 : Int32} (hb1 : vp_in x2 4) (k : G 0 mJ7_fill_53178 post 5 [some (.ref 11), some (.int x1), some (.int (x2 + 1)), some (.int x3)] [] ((upd2 h.1 11 (Int32.toNatClampNeg x2) x1), h.2)) : G 0 mJ7_fill_53178 post 10 [some (.ref 11), some (.int x1), some (.int x2), some (.int x3)] [] h := by
  refine g_aload_n dJ7_fill_53178_10 rfl ?_
  refine g_iload_n dJ7_fill_53178_11 rfl ?_
  refine g_iload_n dJ7_fill_53178_12 rfl ?_
  refine g_iastore (n := 4) dJ7_fill_53178_13 (by decide) rfl rfl rfl hb1 ?_
  refine g_iinc (v := (x2 + 1)) (L' := [some (.ref 11), some (.int x1), some (.int (x2 + 1)), some (.int x3)]) dJ7_fill_53178_14 rfl rfl rfl (by decide) rfl ?_
  refine g_goto (tgt := 5) dJ7_fill_53178_17 (by decide) ?_
  exact k
theorem sJ7_fill_53178_0_p12 {post : Option Value → PH → Prop} {h : PH} {x1 : Int32} (k : G 0 mJ7_fill_53178 post 5 [some (.ref 12), some (.int x1), some (.int 0), some (.int 3125)] [] h) : G 0 mJ7_fill_53178 post 0 [some (.ref 12), some (.int x1), none, none] [] h := by
  refine g_iconst (v := 0) dJ7_fill_53178_0 rfl ?_
  refine g_istore_n (L' := [some (.ref 12), some (.int x1), some (.int 0), none]) dJ7_fill_53178_1 rfl (by decide) rfl ?_
  refine g_aload_n dJ7_fill_53178_2 rfl ?_
  refine g_arraylength (n := 3125) dJ7_fill_53178_3 (by decide) rfl rfl rfl ?_
  refine g_istore_n (L' := [some (.ref 12), some (.int x1), some (.int 0), some (.int 3125)]) dJ7_fill_53178_4 rfl (by decide) rfl ?_
  exact k
theorem sJ7_fill_53178_5_p12 {post : Option Value → PH → Prop} {h : PH} {x1 x2 x3 : Int32} (k1 : x3 ≤ x2 → G 0 mJ7_fill_53178 post 20 [none, none, none, none] [] h) (k2 : ¬ x3 ≤ x2 → G 0 mJ7_fill_53178 post 10 [some (.ref 12), some (.int x1), some (.int x2), some (.int x3)] [] h) : G 0 mJ7_fill_53178 post 5 [some (.ref 12), some (.int x1), some (.int x2), some (.int x3)] [] h := by
  refine g_iload_n dJ7_fill_53178_5 rfl ?_
  refine g_iload_n dJ7_fill_53178_6 rfl ?_
  exact g_icmp_ge (tgt := 20) dJ7_fill_53178_7 (by decide) (fun hc => by refine g_forget (mask := [false, false, false, false]) (L' := [none, none, none, none]) rfl ?_; exact k1 hc) (fun hc => k2 hc)
theorem sJ7_fill_53178_20_p12 {post : Option Value → PH → Prop} {h : PH} (k : post none h) : G 0 mJ7_fill_53178 post 20 [none, none, none, none] [] h := by
  exact g_return dJ7_fill_53178_20 rfl k
theorem sJ7_fill_53178_10_p12 {post : Option Value → PH → Prop} {h : PH} {x1 x2 x3 : Int32} (hb1 : vp_in x2 3125) (k : G 0 mJ7_fill_53178 post 5 [some (.ref 12), some (.int x1), some (.int (x2 + 1)), some (.int x3)] [] ((upd2 h.1 12 (Int32.toNatClampNeg x2) x1), h.2)) : G 0 mJ7_fill_53178 post 10 [some (.ref 12), some (.int x1), some (.int x2), some (.int x3)] [] h := by
  refine g_aload_n dJ7_fill_53178_10 rfl ?_
  refine g_iload_n dJ7_fill_53178_11 rfl ?_
  refine g_iload_n dJ7_fill_53178_12 rfl ?_
  refine g_iastore (n := 3125) dJ7_fill_53178_13 (by decide) rfl rfl rfl hb1 ?_
  refine g_iinc (v := (x2 + 1)) (L' := [some (.ref 12), some (.int x1), some (.int (x2 + 1)), some (.int x3)]) dJ7_fill_53178_14 rfl rfl rfl (by decide) rfl ?_
  refine g_goto (tgt := 5) dJ7_fill_53178_17 (by decide) ?_
  exact k
