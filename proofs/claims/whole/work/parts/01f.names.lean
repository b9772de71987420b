theorem dJx00060_init_a7421_0 : decode cJx00060_init_a7421 0 = .ok (.aload_n 0, 1) := by decide +kernel
theorem dJx00060_init_a7421_1 : decode cJx00060_init_a7421 1 = .ok (.aload_n 1, 1) := by decide +kernel
theorem dJx00060_init_a7421_2 : decode cJx00060_init_a7421 2 = .ok (.invokespecial 7, 3) := by decide +kernel
theorem dJx00060_init_a7421_5 : decode cJx00060_init_a7421 5 = .ok (.return_, 1) := by decide +kernel
theorem dJ11_isValidCodePoint_9a6ad_0 : decode cJ11_isValidCodePoint_9a6ad 0 = .ok (.iload_n 0, 1) := by decide +kernel
theorem dJ11_isValidCodePoint_9a6ad_1 : decode cJ11_isValidCodePoint_9a6ad 1 = .ok (.bipush 16, 2) := by decide +kernel
theorem dJ11_isValidCodePoint_9a6ad_3 : decode cJ11_isValidCodePoint_9a6ad 3 = .ok (.iushr, 1) := by decide +kernel
theorem dJ11_isValidCodePoint_9a6ad_4 : decode cJ11_isValidCodePoint_9a6ad 4 = .ok (.istore_n 1, 1) := by decide +kernel
theorem dJ11_isValidCodePoint_9a6ad_5 : decode cJ11_isValidCodePoint_9a6ad 5 = .ok (.iload_n 1, 1) := by decide +kernel
theorem dJ11_isValidCodePoint_9a6ad_6 : decode cJ11_isValidCodePoint_9a6ad 6 = .ok (.bipush 17, 2) := by decide +kernel
theorem dJ11_isValidCodePoint_9a6ad_8 : decode cJ11_isValidCodePoint_9a6ad 8 = .ok (.if_icmp .ge 7, 3) := by decide +kernel
theorem dJ11_isValidCodePoint_9a6ad_11 : decode cJ11_isValidCodePoint_9a6ad 11 = .ok (.iconst 1, 1) := by decide +kernel
theorem dJ11_isValidCodePoint_9a6ad_12 : decode cJ11_isValidCodePoint_9a6ad 12 = .ok (.goto 4, 3) := by decide +kernel
theorem dJ11_isValidCodePoint_9a6ad_15 : decode cJ11_isValidCodePoint_9a6ad 15 = .ok (.iconst 0, 1) := by decide +kernel
theorem dJ11_isValidCodePoint_9a6ad_16 : decode cJ11_isValidCodePoint_9a6ad 16 = .ok (.ireturn, 1) := by decide +kernel
theorem dJ11_highSurrogate_5068e_0 : decode cJ11_highSurrogate_5068e 0 = .ok (.iload_n 0, 1) := by decide +kernel
theorem dJ11_highSurrogate_5068e_1 : decode cJ11_highSurrogate_5068e 1 = .ok (.bipush 10, 2) := by decide +kernel
theorem dJ11_highSurrogate_5068e_3 : decode cJ11_highSurrogate_5068e 3 = .ok (.iushr, 1) := by decide +kernel
theorem dJ11_highSurrogate_5068e_4 : decode cJ11_highSurrogate_5068e 4 = .ok (.ldc 110, 2) := by decide +kernel
theorem dJ11_highSurrogate_5068e_6 : decode cJ11_highSurrogate_5068e 6 = .ok (.iadd, 1) := by decide +kernel
theorem dJ11_highSurrogate_5068e_7 : decode cJ11_highSurrogate_5068e 7 = .ok (.i2c, 1) := by decide +kernel
theorem dJ11_highSurrogate_5068e_8 : decode cJ11_highSurrogate_5068e 8 = .ok (.ireturn, 1) := by decide +kernel
theorem dJ11_lowSurrogate_5068e_0 : decode cJ11_lowSurrogate_5068e 0 = .ok (.iload_n 0, 1) := by decide +kernel
theorem dJ11_lowSurrogate_5068e_1 : decode cJ11_lowSurrogate_5068e 1 = .ok (.sipush 1023, 3) := by decide +kernel
theorem dJ11_lowSurrogate_5068e_4 : decode cJ11_lowSurrogate_5068e 4 = .ok (.iand, 1) := by decide +kernel
theorem dJ11_lowSurrogate_5068e_5 : decode cJ11_lowSurrogate_5068e 5 = .ok (.ldc 76, 2) := by decide +kernel
theorem dJ11_lowSurrogate_5068e_7 : decode cJ11_lowSurrogate_5068e 7 = .ok (.iadd, 1) := by decide +kernel
theorem dJ11_lowSurrogate_5068e_8 : decode cJ11_lowSurrogate_5068e 8 = .ok (.i2c, 1) := by decide +kernel
theorem dJ11_lowSurrogate_5068e_9 : decode cJ11_lowSurrogate_5068e 9 = .ok (.ireturn, 1) := by decide +kernel
theorem dJxe99ae_isNaN_b9ae7_0 : decode cJxe99ae_isNaN_b9ae7 0 = .ok (.dload_n 0, 1) := by decide +kernel
theorem dJxe99ae_isNaN_b9ae7_1 : decode cJxe99ae_isNaN_b9ae7 1 = .ok (.dload_n 0, 1) := by decide +kernel
theorem dJxe99ae_isNaN_b9ae7_2 : decode cJxe99ae_isNaN_b9ae7 2 = .ok (.dcmp .l, 1) := by decide +kernel
theorem dJxe99ae_isNaN_b9ae7_3 : decode cJxe99ae_isNaN_b9ae7 3 = .ok (.ifCond .eq 7, 3) := by decide +kernel
theorem dJxe99ae_isNaN_b9ae7_6 : decode cJxe99ae_isNaN_b9ae7 6 = .ok (.iconst 1, 1) := by decide +kernel
theorem dJxe99ae_isNaN_b9ae7_7 : decode cJxe99ae_isNaN_b9ae7 7 = .ok (.goto 4, 3) := by decide +kernel
theorem dJxe99ae_isNaN_b9ae7_10 : decode cJxe99ae_isNaN_b9ae7 10 = .ok (.iconst 0, 1) := by decide +kernel
theorem dJxe99ae_isNaN_b9ae7_11 : decode cJxe99ae_isNaN_b9ae7 11 = .ok (.ireturn, 1) := by decide +kernel
set_option maxRecDepth 20000 in
theorem ggJxe99ae_doubleToLongBits_ccdee_Jxe99ae_isNaN_b9ae7 : GoodIn wsJxe99ae_doubleToLongBits_ccdee wsJxe99ae_isNaN_b9ae7 := goodIn_r _ [9] (by decide +kernel) (by decide +kernel)
set_option maxRecDepth 20000 in
theorem gJxe99ae_doubleToLongBits_ccdee_Jxe99ae_isNaN_b9ae7 : GoodIn wsJxe99ae_doubleToLongBits_ccdee (va_wsS RJxe99ae 122 yJxe99ae_isNaN_b9ae7 wsJxe99ae_isNaN_b9ae7) := goodIn_app (goodIn_of _ (by decide +kernel)) ggJxe99ae_doubleToLongBits_ccdee_Jxe99ae_isNaN_b9ae7
theorem dJxe99ae_doubleToLongBits_ccdee_0 : decode cJxe99ae_doubleToLongBits_ccdee 0 = .ok (.dload_n 0, 1) := by decide +kernel
theorem dJxe99ae_doubleToLongBits_ccdee_1 : decode cJxe99ae_doubleToLongBits_ccdee 1 = .ok (.invokestatic 122, 3) := by decide +kernel
theorem dJxe99ae_doubleToLongBits_ccdee_4 : decode cJxe99ae_doubleToLongBits_ccdee 4 = .ok (.ifCond .ne 8, 3) := by decide +kernel
theorem dJxe99ae_doubleToLongBits_ccdee_7 : decode cJxe99ae_doubleToLongBits_ccdee 7 = .ok (.dload_n 0, 1) := by decide +kernel
theorem dJxe99ae_doubleToLongBits_ccdee_8 : decode cJxe99ae_doubleToLongBits_ccdee 8 = .ok (.invokestatic 134, 3) := by decide +kernel
theorem dJxe99ae_doubleToLongBits_ccdee_11 : decode cJxe99ae_doubleToLongBits_ccdee 11 = .ok (.lreturn, 1) := by decide +kernel
theorem dJxe99ae_doubleToLongBits_ccdee_12 : decode cJxe99ae_doubleToLongBits_ccdee 12 = .ok (.ldc2_w 137, 3) := by decide +kernel
theorem dJxe99ae_doubleToLongBits_ccdee_15 : decode cJxe99ae_doubleToLongBits_ccdee 15 = .ok (.lreturn, 1) := by decide +kernel
theorem dJx29ce0_ordinal_8abf5_0 : decode cJx29ce0_ordinal_8abf5 0 = .ok (.aload_n 0, 1) := by decide +kernel
theorem dJx29ce0_ordinal_8abf5_1 : decode cJx29ce0_ordinal_8abf5 1 = .ok (.getfield 7, 3) := by decide +kernel
theorem dJx29ce0_ordinal_8abf5_4 : decode cJx29ce0_ordinal_8abf5 4 = .ok (.ireturn, 1) := by decide +kernel
theorem dJxf58ca_isNaN_12338_0 : decode cJxf58ca_isNaN_12338 0 = .ok (.fload_n 0, 1) := by decide +kernel
theorem dJxf58ca_isNaN_12338_1 : decode cJxf58ca_isNaN_12338 1 = .ok (.fload_n 0, 1) := by decide +kernel
theorem dJxf58ca_isNaN_12338_2 : decode cJxf58ca_isNaN_12338 2 = .ok (.fcmp .l, 1) := by decide +kernel
theorem dJxf58ca_isNaN_12338_3 : decode cJxf58ca_isNaN_12338 3 = .ok (.ifCond .eq 7, 3) := by decide +kernel
theorem dJxf58ca_isNaN_12338_6 : decode cJxf58ca_isNaN_12338 6 = .ok (.iconst 1, 1) := by decide +kernel
theorem dJxf58ca_isNaN_12338_7 : decode cJxf58ca_isNaN_12338 7 = .ok (.goto 4, 3) := by decide +kernel
theorem dJxf58ca_isNaN_12338_10 : decode cJxf58ca_isNaN_12338 10 = .ok (.iconst 0, 1) := by decide +kernel
theorem dJxf58ca_isNaN_12338_11 : decode cJxf58ca_isNaN_12338 11 = .ok (.ireturn, 1) := by decide +kernel
set_option maxRecDepth 20000 in
theorem ggJxf58ca_floatToIntBits_5c35a_Jxf58ca_isNaN_12338 : GoodIn wsJxf58ca_floatToIntBits_5c35a wsJxf58ca_isNaN_12338 := goodIn_r _ [9] (by decide +kernel) (by decide +kernel)
set_option maxRecDepth 20000 in
theorem gJxf58ca_floatToIntBits_5c35a_Jxf58ca_isNaN_12338 : GoodIn wsJxf58ca_floatToIntBits_5c35a (va_wsS RJxf58ca 59 yJxf58ca_isNaN_12338 wsJxf58ca_isNaN_12338) := goodIn_app (goodIn_of _ (by decide +kernel)) ggJxf58ca_floatToIntBits_5c35a_Jxf58ca_isNaN_12338
theorem dJxf58ca_floatToIntBits_5c35a_0 : decode cJxf58ca_floatToIntBits_5c35a 0 = .ok (.fload_n 0, 1) := by decide +kernel
theorem dJxf58ca_floatToIntBits_5c35a_1 : decode cJxf58ca_floatToIntBits_5c35a 1 = .ok (.invokestatic 59, 3) := by decide +kernel
theorem dJxf58ca_floatToIntBits_5c35a_4 : decode cJxf58ca_floatToIntBits_5c35a 4 = .ok (.ifCond .ne 8, 3) := by decide +kernel
theorem dJxf58ca_floatToIntBits_5c35a_7 : decode cJxf58ca_floatToIntBits_5c35a 7 = .ok (.fload_n 0, 1) := by decide +kernel
theorem dJxf58ca_floatToIntBits_5c35a_8 : decode cJxf58ca_floatToIntBits_5c35a 8 = .ok (.invokestatic 74, 3) := by decide +kernel
theorem dJxf58ca_floatToIntBits_5c35a_11 : decode cJxf58ca_floatToIntBits_5c35a 11 = .ok (.ireturn, 1) := by decide +kernel
theorem dJxf58ca_floatToIntBits_5c35a_12 : decode cJxf58ca_floatToIntBits_5c35a 12 = .ok (.ldc 77, 2) := by decide +kernel
theorem dJxf58ca_floatToIntBits_5c35a_14 : decode cJxf58ca_floatToIntBits_5c35a 14 = .ok (.ireturn, 1) := by decide +kernel
theorem dJ6_bitCount_0f7a4_0 : decode cJ6_bitCount_0f7a4 0 = .ok (.iload_n 0, 1) := by decide +kernel
theorem dJ6_bitCount_0f7a4_1 : decode cJ6_bitCount_0f7a4 1 = .ok (.iload_n 0, 1) := by decide +kernel
theorem dJ6_bitCount_0f7a4_2 : decode cJ6_bitCount_0f7a4 2 = .ok (.iconst 1, 1) := by decide +kernel
theorem dJ6_bitCount_0f7a4_3 : decode cJ6_bitCount_0f7a4 3 = .ok (.iushr, 1) := by decide +kernel
theorem dJ6_bitCount_0f7a4_4 : decode cJ6_bitCount_0f7a4 4 = .ok (.ldc_w 265, 3) := by decide +kernel
theorem dJ6_bitCount_0f7a4_7 : decode cJ6_bitCount_0f7a4 7 = .ok (.iand, 1) := by decide +kernel
theorem dJ6_bitCount_0f7a4_8 : decode cJ6_bitCount_0f7a4 8 = .ok (.isub, 1) := by decide +kernel
theorem dJ6_bitCount_0f7a4_9 : decode cJ6_bitCount_0f7a4 9 = .ok (.istore_n 0, 1) := by decide +kernel
theorem dJ6_bitCount_0f7a4_10 : decode cJ6_bitCount_0f7a4 10 = .ok (.iload_n 0, 1) := by decide +kernel
theorem dJ6_bitCount_0f7a4_11 : decode cJ6_bitCount_0f7a4 11 = .ok (.ldc_w 266, 3) := by decide +kernel
theorem dJ6_bitCount_0f7a4_14 : decode cJ6_bitCount_0f7a4 14 = .ok (.iand, 1) := by decide +kernel
theorem dJ6_bitCount_0f7a4_15 : decode cJ6_bitCount_0f7a4 15 = .ok (.iload_n 0, 1) := by decide +kernel
theorem dJ6_bitCount_0f7a4_16 : decode cJ6_bitCount_0f7a4 16 = .ok (.iconst 2, 1) := by decide +kernel
theorem dJ6_bitCount_0f7a4_17 : decode cJ6_bitCount_0f7a4 17 = .ok (.iushr, 1) := by decide +kernel
theorem dJ6_bitCount_0f7a4_18 : decode cJ6_bitCount_0f7a4 18 = .ok (.ldc_w 266, 3) := by decide +kernel
theorem dJ6_bitCount_0f7a4_21 : decode cJ6_bitCount_0f7a4 21 = .ok (.iand, 1) := by decide +kernel
theorem dJ6_bitCount_0f7a4_22 : decode cJ6_bitCount_0f7a4 22 = .ok (.iadd, 1) := by decide +kernel
theorem dJ6_bitCount_0f7a4_23 : decode cJ6_bitCount_0f7a4 23 = .ok (.istore_n 0, 1) := by decide +kernel
theorem dJ6_bitCount_0f7a4_24 : decode cJ6_bitCount_0f7a4 24 = .ok (.iload_n 0, 1) := by decide +kernel
theorem dJ6_bitCount_0f7a4_25 : decode cJ6_bitCount_0f7a4 25 = .ok (.iload_n 0, 1) := by decide +kernel
theorem dJ6_bitCount_0f7a4_26 : decode cJ6_bitCount_0f7a4 26 = .ok (.iconst 4, 1) := by decide +kernel
theorem dJ6_bitCount_0f7a4_27 : decode cJ6_bitCount_0f7a4 27 = .ok (.iushr, 1) := by decide +kernel
theorem dJ6_bitCount_0f7a4_28 : decode cJ6_bitCount_0f7a4 28 = .ok (.iadd, 1) := by decide +kernel
theorem dJ6_bitCount_0f7a4_29 : decode cJ6_bitCount_0f7a4 29 = .ok (.ldc_w 267, 3) := by decide +kernel
theorem dJ6_bitCount_0f7a4_32 : decode cJ6_bitCount_0f7a4 32 = .ok (.iand, 1) := by decide +kernel
theorem dJ6_bitCount_0f7a4_33 : decode cJ6_bitCount_0f7a4 33 = .ok (.istore_n 0, 1) := by decide +kernel
theorem dJ6_bitCount_0f7a4_34 : decode cJ6_bitCount_0f7a4 34 = .ok (.iload_n 0, 1) := by decide +kernel
theorem dJ6_bitCount_0f7a4_35 : decode cJ6_bitCount_0f7a4 35 = .ok (.iload_n 0, 1) := by decide +kernel
theorem dJ6_bitCount_0f7a4_36 : decode cJ6_bitCount_0f7a4 36 = .ok (.bipush 8, 2) := by decide +kernel
theorem dJ6_bitCount_0f7a4_38 : decode cJ6_bitCount_0f7a4 38 = .ok (.iushr, 1) := by decide +kernel
theorem dJ6_bitCount_0f7a4_39 : decode cJ6_bitCount_0f7a4 39 = .ok (.iadd, 1) := by decide +kernel
theorem dJ6_bitCount_0f7a4_40 : decode cJ6_bitCount_0f7a4 40 = .ok (.istore_n 0, 1) := by decide +kernel
theorem dJ6_bitCount_0f7a4_41 : decode cJ6_bitCount_0f7a4 41 = .ok (.iload_n 0, 1) := by decide +kernel
theorem dJ6_bitCount_0f7a4_42 : decode cJ6_bitCount_0f7a4 42 = .ok (.iload_n 0, 1) := by decide +kernel
theorem dJ6_bitCount_0f7a4_43 : decode cJ6_bitCount_0f7a4 43 = .ok (.bipush 16, 2) := by decide +kernel
theorem dJ6_bitCount_0f7a4_45 : decode cJ6_bitCount_0f7a4 45 = .ok (.iushr, 1) := by decide +kernel
theorem dJ6_bitCount_0f7a4_46 : decode cJ6_bitCount_0f7a4 46 = .ok (.iadd, 1) := by decide +kernel
theorem dJ6_bitCount_0f7a4_47 : decode cJ6_bitCount_0f7a4 47 = .ok (.istore_n 0, 1) := by decide +kernel
theorem dJ6_bitCount_0f7a4_48 : decode cJ6_bitCount_0f7a4 48 = .ok (.iload_n 0, 1) := by decide +kernel
theorem dJ6_bitCount_0f7a4_49 : decode cJ6_bitCount_0f7a4 49 = .ok (.bipush 63, 2) := by decide +kernel
theorem dJ6_bitCount_0f7a4_51 : decode cJ6_bitCount_0f7a4 51 = .ok (.iand, 1) := by decide +kernel
theorem dJ6_bitCount_0f7a4_52 : decode cJ6_bitCount_0f7a4 52 = .ok (.ireturn, 1) := by decide +kernel
theorem dJ9_floorMod_7cf53_0 : decode cJ9_floorMod_7cf53 0 = .ok (.iload_n 0, 1) := by decide +kernel
theorem dJ9_floorMod_7cf53_1 : decode cJ9_floorMod_7cf53 1 = .ok (.iload_n 1, 1) := by decide +kernel
theorem dJ9_floorMod_7cf53_2 : decode cJ9_floorMod_7cf53 2 = .ok (.irem, 1) := by decide +kernel
theorem dJ9_floorMod_7cf53_3 : decode cJ9_floorMod_7cf53 3 = .ok (.istore_n 2, 1) := by decide +kernel
theorem dJ9_floorMod_7cf53_4 : decode cJ9_floorMod_7cf53 4 = .ok (.iload_n 0, 1) := by decide +kernel
theorem dJ9_floorMod_7cf53_5 : decode cJ9_floorMod_7cf53 5 = .ok (.iload_n 1, 1) := by decide +kernel
theorem dJ9_floorMod_7cf53_6 : decode cJ9_floorMod_7cf53 6 = .ok (.ixor, 1) := by decide +kernel
theorem dJ9_floorMod_7cf53_7 : decode cJ9_floorMod_7cf53 7 = .ok (.ifCond .ge 11, 3) := by decide +kernel
theorem dJ9_floorMod_7cf53_10 : decode cJ9_floorMod_7cf53 10 = .ok (.iload_n 2, 1) := by decide +kernel
theorem dJ9_floorMod_7cf53_11 : decode cJ9_floorMod_7cf53 11 = .ok (.ifCond .eq 7, 3) := by decide +kernel
theorem dJ9_floorMod_7cf53_14 : decode cJ9_floorMod_7cf53 14 = .ok (.iload_n 2, 1) := by decide +kernel
theorem dJ9_floorMod_7cf53_15 : decode cJ9_floorMod_7cf53 15 = .ok (.iload_n 1, 1) := by decide +kernel
theorem dJ9_floorMod_7cf53_16 : decode cJ9_floorMod_7cf53 16 = .ok (.iadd, 1) := by decide +kernel
theorem dJ9_floorMod_7cf53_17 : decode cJ9_floorMod_7cf53 17 = .ok (.ireturn, 1) := by decide +kernel
theorem dJ9_floorMod_7cf53_18 : decode cJ9_floorMod_7cf53 18 = .ok (.iload_n 2, 1) := by decide +kernel
theorem dJ9_floorMod_7cf53_19 : decode cJ9_floorMod_7cf53 19 = .ok (.ireturn, 1) := by decide +kernel
theorem dJ9_max_7cf53_0 : decode cJ9_max_7cf53 0 = .ok (.iload_n 0, 1) := by decide +kernel
theorem dJ9_max_7cf53_1 : decode cJ9_max_7cf53 1 = .ok (.iload_n 1, 1) := by decide +kernel
theorem dJ9_max_7cf53_2 : decode cJ9_max_7cf53 2 = .ok (.if_icmp .lt 7, 3) := by decide +kernel
theorem dJ9_max_7cf53_5 : decode cJ9_max_7cf53 5 = .ok (.iload_n 0, 1) := by decide +kernel
theorem dJ9_max_7cf53_6 : decode cJ9_max_7cf53 6 = .ok (.goto 4, 3) := by decide +kernel
theorem dJ9_max_7cf53_9 : decode cJ9_max_7cf53 9 = .ok (.iload_n 1, 1) := by decide +kernel
theorem dJ9_max_7cf53_10 : decode cJ9_max_7cf53 10 = .ok (.ireturn, 1) := by decide +kernel
theorem dJ9_min_7cf53_0 : decode cJ9_min_7cf53 0 = .ok (.iload_n 0, 1) := by decide +kernel
theorem dJ9_min_7cf53_1 : decode cJ9_min_7cf53 1 = .ok (.iload_n 1, 1) := by decide +kernel
theorem dJ9_min_7cf53_2 : decode cJ9_min_7cf53 2 = .ok (.if_icmp .gt 7, 3) := by decide +kernel
theorem dJ9_min_7cf53_5 : decode cJ9_min_7cf53 5 = .ok (.iload_n 0, 1) := by decide +kernel
theorem dJ9_min_7cf53_6 : decode cJ9_min_7cf53 6 = .ok (.goto 4, 3) := by decide +kernel
theorem dJ9_min_7cf53_9 : decode cJ9_min_7cf53 9 = .ok (.iload_n 1, 1) := by decide +kernel
theorem dJ9_min_7cf53_10 : decode cJ9_min_7cf53 10 = .ok (.ireturn, 1) := by decide +kernel
set_option maxRecDepth 20000 in
theorem ggJ0_length_8abf5_J0_coder_7d493 : GoodIn wsJ0_length_8abf5 wsJ0_coder_7d493 := goodIn_r _ [6, 7, 8, 9, 10] (by decide +kernel) (by decide +kernel)
set_option maxRecDepth 20000 in
theorem gJ0_length_8abf5_J0_coder_7d493 : GoodIn wsJ0_length_8abf5 (wsV RJ0 335 RJ0 yJ0_coder_7d493 wsJ0_coder_7d493) := goodIn_app (goodIn_of _ (by decide +kernel)) ggJ0_length_8abf5_J0_coder_7d493
theorem dJ0_length_8abf5_0 : decode cJ0_length_8abf5 0 = .ok (.aload_n 0, 1) := by decide +kernel
theorem dJ0_length_8abf5_1 : decode cJ0_length_8abf5 1 = .ok (.getfield 9, 3) := by decide +kernel
theorem dJ0_length_8abf5_4 : decode cJ0_length_8abf5 4 = .ok (.arraylength, 1) := by decide +kernel
theorem dJ0_length_8abf5_5 : decode cJ0_length_8abf5 5 = .ok (.aload_n 0, 1) := by decide +kernel
theorem dJ0_length_8abf5_6 : decode cJ0_length_8abf5 6 = .ok (.invokevirtual 335, 3) := by decide +kernel
theorem dJ0_length_8abf5_9 : decode cJ0_length_8abf5 9 = .ok (.ishr, 1) := by decide +kernel
theorem dJ0_length_8abf5_10 : decode cJ0_length_8abf5 10 = .ok (.ireturn, 1) := by decide +kernel
set_option maxRecDepth 20000 in
theorem ggJ0_charAt_5068e_J0_isLatin1_aae02 : GoodIn wsJ0_charAt_5068e wsJ0_isLatin1_aae02 := goodIn_r _ [6, 7, 8, 38, 39] (by decide +kernel) (by decide +kernel)
set_option maxRecDepth 20000 in
theorem gJ0_charAt_5068e_J0_isLatin1_aae02 : GoodIn wsJ0_charAt_5068e (wsV RJ0 492 RJ0 yJ0_isLatin1_aae02 wsJ0_isLatin1_aae02) := goodIn_app (goodIn_of _ (by decide +kernel)) ggJ0_charAt_5068e_J0_isLatin1_aae02
set_option maxRecDepth 20000 in
theorem ggJ0_charAt_5068e_J1_charAt_3b067 : GoodIn wsJ0_charAt_5068e wsJ1_charAt_3b067 := goodIn_r _ [12, 13, 14, 5, 15, 16, 17, 18, 19, 20] (by decide +kernel) (by decide +kernel)
set_option maxRecDepth 20000 in
theorem gJ0_charAt_5068e_J1_charAt_3b067 : GoodIn wsJ0_charAt_5068e (va_wsS RJ0 495 yJ1_charAt_3b067 wsJ1_charAt_3b067) := goodIn_app (goodIn_of _ (by decide +kernel)) ggJ0_charAt_5068e_J1_charAt_3b067
set_option maxRecDepth 20000 in
theorem ggJ0_charAt_5068e_J2_charAt_3b067 : GoodIn wsJ0_charAt_5068e wsJ2_charAt_3b067 := goodIn_r _ [24, 25, 26, 23, 27, 28, 29, 30, 31, 14, 5, 15, 16, 17, 18, 19, 20, 32, 33, 34, 35, 36, 37] (by decide +kernel) (by decide +kernel)
set_option maxRecDepth 20000 in
theorem gJ0_charAt_5068e_J2_charAt_3b067 : GoodIn wsJ0_charAt_5068e (va_wsS RJ0 498 yJ2_charAt_3b067 wsJ2_charAt_3b067) := goodIn_app (goodIn_of _ (by decide +kernel)) ggJ0_charAt_5068e_J2_charAt_3b067
theorem dJ0_charAt_5068e_0 : decode cJ0_charAt_5068e 0 = .ok (.aload_n 0, 1) := by decide +kernel
theorem dJ0_charAt_5068e_1 : decode cJ0_charAt_5068e 1 = .ok (.invokevirtual 492, 3) := by decide +kernel
theorem dJ0_charAt_5068e_4 : decode cJ0_charAt_5068e 4 = .ok (.ifCond .eq 12, 3) := by decide +kernel
theorem dJ0_charAt_5068e_7 : decode cJ0_charAt_5068e 7 = .ok (.aload_n 0, 1) := by decide +kernel
theorem dJ0_charAt_5068e_8 : decode cJ0_charAt_5068e 8 = .ok (.getfield 9, 3) := by decide +kernel
theorem dJ0_charAt_5068e_11 : decode cJ0_charAt_5068e 11 = .ok (.iload_n 1, 1) := by decide +kernel
theorem dJ0_charAt_5068e_12 : decode cJ0_charAt_5068e 12 = .ok (.invokestatic 495, 3) := by decide +kernel
theorem dJ0_charAt_5068e_15 : decode cJ0_charAt_5068e 15 = .ok (.ireturn, 1) := by decide +kernel
theorem dJ0_charAt_5068e_16 : decode cJ0_charAt_5068e 16 = .ok (.aload_n 0, 1) := by decide +kernel
theorem dJ0_charAt_5068e_17 : decode cJ0_charAt_5068e 17 = .ok (.getfield 9, 3) := by decide +kernel
theorem dJ0_charAt_5068e_20 : decode cJ0_charAt_5068e 20 = .ok (.iload_n 1, 1) := by decide +kernel
theorem dJ0_charAt_5068e_21 : decode cJ0_charAt_5068e 21 = .ok (.invokestatic 498, 3) := by decide +kernel
theorem dJ0_charAt_5068e_24 : decode cJ0_charAt_5068e 24 = .ok (.ireturn, 1) := by decide +kernel
set_option maxRecDepth 20000 in
theorem ggJ0_indexOf_0f7a4_J0_indexOf_7cf53 : GoodIn wsJ0_indexOf_0f7a4 wsJ0_indexOf_7cf53 := goodIn_r _ [5, 6, 7, 8, 9, 4, 10, 11, 12, 13, 14, 15, 16, 17, 18, 19, 20, 21, 22, 23, 24, 25, 26, 27, 28, 29, 30, 31, 32, 33, 34, 35, 36, 37, 38, 39, 40, 41, 42, 43, 44, 45, 46, 47, 48, 49, 50, 51, 52, 53, 54, 55, 56, 57, 58, 59, 60, 61, 62, 63, 64, 65, 66, 67, 68, 69, 70, 71, 72, 73, 74, 75, 76, 77, 78, 79, 80, 81, 82, 83, 84, 85, 86, 87] (by decide +kernel) (by decide +kernel)
set_option maxRecDepth 20000 in
theorem gJ0_indexOf_0f7a4_J0_indexOf_7cf53 : GoodIn wsJ0_indexOf_0f7a4 (wsV RJ0 633 RJ0 yJ0_indexOf_7cf53 wsJ0_indexOf_7cf53) := goodIn_app (goodIn_of _ (by decide +kernel)) ggJ0_indexOf_0f7a4_J0_indexOf_7cf53
theorem dJ0_indexOf_0f7a4_0 : decode cJ0_indexOf_0f7a4 0 = .ok (.aload_n 0, 1) := by decide +kernel
theorem dJ0_indexOf_0f7a4_1 : decode cJ0_indexOf_0f7a4 1 = .ok (.iload_n 1, 1) := by decide +kernel
theorem dJ0_indexOf_0f7a4_2 : decode cJ0_indexOf_0f7a4 2 = .ok (.iconst 0, 1) := by decide +kernel
theorem dJ0_indexOf_0f7a4_3 : decode cJ0_indexOf_0f7a4 3 = .ok (.invokevirtual 633, 3) := by decide +kernel
theorem dJ0_indexOf_0f7a4_6 : decode cJ0_indexOf_0f7a4 6 = .ok (.ireturn, 1) := by decide +kernel
set_option maxRecDepth 20000 in
theorem ggJ0_indexOf_7cf53_J0_isLatin1_aae02 : GoodIn wsJ0_indexOf_7cf53 wsJ0_isLatin1_aae02 := goodIn_r _ [6, 7, 8, 82, 83] (by decide +kernel) (by decide +kernel)
set_option maxRecDepth 20000 in
theorem gJ0_indexOf_7cf53_J0_isLatin1_aae02 : GoodIn wsJ0_indexOf_7cf53 (wsV RJ0 492 RJ0 yJ0_isLatin1_aae02 wsJ0_isLatin1_aae02) := goodIn_app (goodIn_of _ (by decide +kernel)) ggJ0_indexOf_7cf53_J0_isLatin1_aae02
set_option maxRecDepth 20000 in
theorem ggJ0_indexOf_7cf53_J0_length_8abf5 : GoodIn wsJ0_indexOf_7cf53 wsJ0_length_8abf5 := goodIn_r _ [12, 1, 13, 14, 15, 5, 16, 7, 8, 82, 83] (by decide +kernel) (by decide +kernel)
set_option maxRecDepth 20000 in
theorem gJ0_indexOf_7cf53_J0_length_8abf5 : GoodIn wsJ0_indexOf_7cf53 (wsV RJ0 505 RJ0 yJ0_length_8abf5 wsJ0_length_8abf5) := goodIn_app (goodIn_of _ (by decide +kernel)) ggJ0_indexOf_7cf53_J0_length_8abf5
set_option maxRecDepth 20000 in
theorem ggJ0_indexOf_7cf53_J1_indexOf_4cfef : GoodIn wsJ0_indexOf_7cf53 wsJ1_indexOf_4cfef := goodIn_r _ [20, 21, 22, 23, 24, 25, 26, 27, 28, 29, 19, 30, 31, 32, 33] (by decide +kernel) (by decide +kernel)
set_option maxRecDepth 20000 in
theorem gJ0_indexOf_7cf53_J1_indexOf_4cfef : GoodIn wsJ0_indexOf_7cf53 (va_wsS RJ0 637 yJ1_indexOf_4cfef wsJ1_indexOf_4cfef) := goodIn_app (goodIn_of _ (by decide +kernel)) ggJ0_indexOf_7cf53_J1_indexOf_4cfef
set_option maxRecDepth 20000 in
theorem ggJ0_indexOf_7cf53_J2_indexOf_4cfef : GoodIn wsJ0_indexOf_7cf53 wsJ2_indexOf_4cfef := goodIn_r _ [37, 38, 22, 23, 24, 39, 26, 27, 40, 41, 42, 36, 43, 44, 45, 46, 47, 48, 49, 50, 51, 5, 52, 53, 54, 55, 56, 57, 58, 59, 60, 61, 62, 63, 64, 65, 66, 67, 68, 69, 70, 71, 72, 73, 74, 75, 76, 77, 78, 79, 80, 81] (by decide +kernel) (by decide +kernel)
set_option maxRecDepth 20000 in
theorem gJ0_indexOf_7cf53_J2_indexOf_4cfef : GoodIn wsJ0_indexOf_7cf53 (va_wsS RJ0 640 yJ2_indexOf_4cfef wsJ2_indexOf_4cfef) := goodIn_app (goodIn_of _ (by decide +kernel)) ggJ0_indexOf_7cf53_J2_indexOf_4cfef
theorem dJ0_indexOf_7cf53_0 : decode cJ0_indexOf_7cf53 0 = .ok (.aload_n 0, 1) := by decide +kernel
theorem dJ0_indexOf_7cf53_1 : decode cJ0_indexOf_7cf53 1 = .ok (.invokevirtual 492, 3) := by decide +kernel
theorem dJ0_indexOf_7cf53_4 : decode cJ0_indexOf_7cf53 4 = .ok (.ifCond .eq 19, 3) := by decide +kernel
theorem dJ0_indexOf_7cf53_7 : decode cJ0_indexOf_7cf53 7 = .ok (.aload_n 0, 1) := by decide +kernel
theorem dJ0_indexOf_7cf53_8 : decode cJ0_indexOf_7cf53 8 = .ok (.getfield 9, 3) := by decide +kernel
theorem dJ0_indexOf_7cf53_11 : decode cJ0_indexOf_7cf53 11 = .ok (.iload_n 1, 1) := by decide +kernel
theorem dJ0_indexOf_7cf53_12 : decode cJ0_indexOf_7cf53 12 = .ok (.iload_n 2, 1) := by decide +kernel
theorem dJ0_indexOf_7cf53_13 : decode cJ0_indexOf_7cf53 13 = .ok (.aload_n 0, 1) := by decide +kernel
theorem dJ0_indexOf_7cf53_14 : decode cJ0_indexOf_7cf53 14 = .ok (.invokevirtual 505, 3) := by decide +kernel
theorem dJ0_indexOf_7cf53_17 : decode cJ0_indexOf_7cf53 17 = .ok (.invokestatic 637, 3) := by decide +kernel
theorem dJ0_indexOf_7cf53_20 : decode cJ0_indexOf_7cf53 20 = .ok (.goto 16, 3) := by decide +kernel
theorem dJ0_indexOf_7cf53_23 : decode cJ0_indexOf_7cf53 23 = .ok (.aload_n 0, 1) := by decide +kernel
theorem dJ0_indexOf_7cf53_24 : decode cJ0_indexOf_7cf53 24 = .ok (.getfield 9, 3) := by decide +kernel
theorem dJ0_indexOf_7cf53_27 : decode cJ0_indexOf_7cf53 27 = .ok (.iload_n 1, 1) := by decide +kernel
theorem dJ0_indexOf_7cf53_28 : decode cJ0_indexOf_7cf53 28 = .ok (.iload_n 2, 1) := by decide +kernel
theorem dJ0_indexOf_7cf53_29 : decode cJ0_indexOf_7cf53 29 = .ok (.aload_n 0, 1) := by decide +kernel
theorem dJ0_indexOf_7cf53_30 : decode cJ0_indexOf_7cf53 30 = .ok (.invokevirtual 505, 3) := by decide +kernel
theorem dJ0_indexOf_7cf53_33 : decode cJ0_indexOf_7cf53 33 = .ok (.invokestatic 640, 3) := by decide +kernel
theorem dJ0_indexOf_7cf53_36 : decode cJ0_indexOf_7cf53 36 = .ok (.ireturn, 1) := by decide +kernel
theorem dJ0_coder_7d493_0 : decode cJ0_coder_7d493 0 = .ok (.getstatic 38, 3) := by decide +kernel
theorem dJ0_coder_7d493_3 : decode cJ0_coder_7d493 3 = .ok (.ifCond .eq 10, 3) := by decide +kernel
theorem dJ0_coder_7d493_6 : decode cJ0_coder_7d493 6 = .ok (.aload_n 0, 1) := by decide +kernel
theorem dJ0_coder_7d493_7 : decode cJ0_coder_7d493 7 = .ok (.getfield 15, 3) := by decide +kernel
theorem dJ0_coder_7d493_10 : decode cJ0_coder_7d493 10 = .ok (.goto 4, 3) := by decide +kernel
theorem dJ0_coder_7d493_13 : decode cJ0_coder_7d493 13 = .ok (.iconst 1, 1) := by decide +kernel
theorem dJ0_coder_7d493_14 : decode cJ0_coder_7d493 14 = .ok (.ireturn, 1) := by decide +kernel
theorem dJ0_isLatin1_aae02_0 : decode cJ0_isLatin1_aae02 0 = .ok (.getstatic 38, 3) := by decide +kernel
theorem dJ0_isLatin1_aae02_3 : decode cJ0_isLatin1_aae02 3 = .ok (.ifCond .eq 14, 3) := by decide +kernel
theorem dJ0_isLatin1_aae02_6 : decode cJ0_isLatin1_aae02 6 = .ok (.aload_n 0, 1) := by decide +kernel
theorem dJ0_isLatin1_aae02_7 : decode cJ0_isLatin1_aae02 7 = .ok (.getfield 15, 3) := by decide +kernel
theorem dJ0_isLatin1_aae02_10 : decode cJ0_isLatin1_aae02 10 = .ok (.ifCond .ne 7, 3) := by decide +kernel
theorem dJ0_isLatin1_aae02_13 : decode cJ0_isLatin1_aae02 13 = .ok (.iconst 1, 1) := by decide +kernel
theorem dJ0_isLatin1_aae02_14 : decode cJ0_isLatin1_aae02 14 = .ok (.goto 4, 3) := by decide +kernel
theorem dJ0_isLatin1_aae02_17 : decode cJ0_isLatin1_aae02 17 = .ok (.iconst 0, 1) := by decide +kernel
theorem dJ0_isLatin1_aae02_18 : decode cJ0_isLatin1_aae02 18 = .ok (.ireturn, 1) := by decide +kernel
set_option maxRecDepth 20000 in
theorem ggJ0_checkIndex_df160_J3_checkIndex_8e157 : GoodIn wsJ0_checkIndex_df160 wsJ3_checkIndex_8e157 := goodIn_r _ [5] (by decide +kernel) (by decide +kernel)
set_option maxRecDepth 20000 in
theorem gJ0_checkIndex_df160_J3_checkIndex_8e157 : GoodIn wsJ0_checkIndex_df160 (va_wsS RJ0 1059 yJ3_checkIndex_8e157 wsJ3_checkIndex_8e157) := goodIn_app (goodIn_of _ (by decide +kernel)) ggJ0_checkIndex_df160_J3_checkIndex_8e157
theorem dJ0_checkIndex_df160_0 : decode cJ0_checkIndex_df160 0 = .ok (.iload_n 0, 1) := by decide +kernel
theorem dJ0_checkIndex_df160_1 : decode cJ0_checkIndex_df160 1 = .ok (.iload_n 1, 1) := by decide +kernel
theorem dJ0_checkIndex_df160_2 : decode cJ0_checkIndex_df160 2 = .ok (.getstatic 1053, 3) := by decide +kernel
theorem dJ0_checkIndex_df160_5 : decode cJ0_checkIndex_df160 5 = .ok (.invokestatic 1059, 3) := by decide +kernel
theorem dJ0_checkIndex_df160_8 : decode cJ0_checkIndex_df160 8 = .ok (.pop, 1) := by decide +kernel
theorem dJ0_checkIndex_df160_9 : decode cJ0_checkIndex_df160 9 = .ok (.return_, 1) := by decide +kernel
set_option maxRecDepth 20000 in
theorem ggJ0_checkBoundsBeginEnd_23922_J3_checkFromToIndex_8c36e : GoodIn wsJ0_checkBoundsBeginEnd_23922 wsJ3_checkFromToIndex_8c36e := goodIn_r _ [5] (by decide +kernel) (by decide +kernel)
set_option maxRecDepth 20000 in
theorem gJ0_checkBoundsBeginEnd_23922_J3_checkFromToIndex_8c36e : GoodIn wsJ0_checkBoundsBeginEnd_23922 (va_wsS RJ0 1062 yJ3_checkFromToIndex_8c36e wsJ3_checkFromToIndex_8c36e) := goodIn_app (goodIn_of _ (by decide +kernel)) ggJ0_checkBoundsBeginEnd_23922_J3_checkFromToIndex_8c36e
theorem dJ0_checkBoundsBeginEnd_23922_0 : decode cJ0_checkBoundsBeginEnd_23922 0 = .ok (.iload_n 0, 1) := by decide +kernel
theorem dJ0_checkBoundsBeginEnd_23922_1 : decode cJ0_checkBoundsBeginEnd_23922 1 = .ok (.iload_n 1, 1) := by decide +kernel
theorem dJ0_checkBoundsBeginEnd_23922_2 : decode cJ0_checkBoundsBeginEnd_23922 2 = .ok (.iload_n 2, 1) := by decide +kernel
theorem dJ0_checkBoundsBeginEnd_23922_3 : decode cJ0_checkBoundsBeginEnd_23922 3 = .ok (.getstatic 1053, 3) := by decide +kernel
theorem dJ0_checkBoundsBeginEnd_23922_6 : decode cJ0_checkBoundsBeginEnd_23922 6 = .ok (.invokestatic 1062, 3) := by decide +kernel
theorem dJ0_checkBoundsBeginEnd_23922_9 : decode cJ0_checkBoundsBeginEnd_23922 9 = .ok (.pop, 1) := by decide +kernel
theorem dJ0_checkBoundsBeginEnd_23922_10 : decode cJ0_checkBoundsBeginEnd_23922 10 = .ok (.return_, 1) := by decide +kernel
set_option maxRecDepth 20000 in
theorem ggJ1_charAt_3b067_J0_checkIndex_df160 : GoodIn wsJ1_charAt_3b067 wsJ0_checkIndex_df160 := goodIn_r _ [4, 5, 6, 7, 8, 9] (by decide +kernel) (by decide +kernel)
set_option maxRecDepth 20000 in
theorem gJ1_charAt_3b067_J0_checkIndex_df160 : GoodIn wsJ1_charAt_3b067 (va_wsS RJ1 9 yJ0_checkIndex_df160 wsJ0_checkIndex_df160) := goodIn_app (goodIn_of _ (by decide +kernel)) ggJ1_charAt_3b067_J0_checkIndex_df160
theorem dJ1_charAt_3b067_0 : decode cJ1_charAt_3b067 0 = .ok (.iload_n 1, 1) := by decide +kernel
theorem dJ1_charAt_3b067_1 : decode cJ1_charAt_3b067 1 = .ok (.aload_n 0, 1) := by decide +kernel
theorem dJ1_charAt_3b067_2 : decode cJ1_charAt_3b067 2 = .ok (.arraylength, 1) := by decide +kernel
theorem dJ1_charAt_3b067_3 : decode cJ1_charAt_3b067 3 = .ok (.invokestatic 9, 3) := by decide +kernel
theorem dJ1_charAt_3b067_6 : decode cJ1_charAt_3b067 6 = .ok (.aload_n 0, 1) := by decide +kernel
theorem dJ1_charAt_3b067_7 : decode cJ1_charAt_3b067 7 = .ok (.iload_n 1, 1) := by decide +kernel
theorem dJ1_charAt_3b067_8 : decode cJ1_charAt_3b067 8 = .ok (.baload, 1) := by decide +kernel
theorem dJ1_charAt_3b067_9 : decode cJ1_charAt_3b067 9 = .ok (.sipush 255, 3) := by decide +kernel
theorem dJ1_charAt_3b067_12 : decode cJ1_charAt_3b067 12 = .ok (.iand, 1) := by decide +kernel
theorem dJ1_charAt_3b067_13 : decode cJ1_charAt_3b067 13 = .ok (.i2c, 1) := by decide +kernel
theorem dJ1_charAt_3b067_14 : decode cJ1_charAt_3b067 14 = .ok (.ireturn, 1) := by decide +kernel
theorem dJ1_canEncode_9a6ad_0 : decode cJ1_canEncode_9a6ad 0 = .ok (.iload_n 0, 1) := by decide +kernel
theorem dJ1_canEncode_9a6ad_1 : decode cJ1_canEncode_9a6ad 1 = .ok (.ifCond .lt 14, 3) := by decide +kernel
theorem dJ1_canEncode_9a6ad_4 : decode cJ1_canEncode_9a6ad 4 = .ok (.iload_n 0, 1) := by decide +kernel
theorem dJ1_canEncode_9a6ad_5 : decode cJ1_canEncode_9a6ad 5 = .ok (.sipush 255, 3) := by decide +kernel
theorem dJ1_canEncode_9a6ad_8 : decode cJ1_canEncode_9a6ad 8 = .ok (.if_icmp .gt 7, 3) := by decide +kernel
theorem dJ1_canEncode_9a6ad_11 : decode cJ1_canEncode_9a6ad 11 = .ok (.iconst 1, 1) := by decide +kernel
theorem dJ1_canEncode_9a6ad_12 : decode cJ1_canEncode_9a6ad 12 = .ok (.goto 4, 3) := by decide +kernel
theorem dJ1_canEncode_9a6ad_15 : decode cJ1_canEncode_9a6ad 15 = .ok (.iconst 0, 1) := by decide +kernel
theorem dJ1_canEncode_9a6ad_16 : decode cJ1_canEncode_9a6ad 16 = .ok (.ireturn, 1) := by decide +kernel
set_option maxRecDepth 20000 in
theorem ggJ1_indexOf_4cfef_J1_canEncode_9a6ad : GoodIn wsJ1_indexOf_4cfef wsJ1_canEncode_9a6ad := goodIn_r _ [11] (by decide +kernel) (by decide +kernel)
set_option maxRecDepth 20000 in
theorem gJ1_indexOf_4cfef_J1_canEncode_9a6ad : GoodIn wsJ1_indexOf_4cfef (va_wsS RJ1 88 yJ1_canEncode_9a6ad wsJ1_canEncode_9a6ad) := goodIn_app (goodIn_of _ (by decide +kernel)) ggJ1_indexOf_4cfef_J1_canEncode_9a6ad
set_option maxRecDepth 20000 in
theorem ggJ1_indexOf_4cfef_J1_indexOfChar_4cfef : GoodIn wsJ1_indexOf_4cfef wsJ1_indexOfChar_4cfef := goodIn_r _ [14] (by decide +kernel) (by decide +kernel)
set_option maxRecDepth 20000 in
theorem gJ1_indexOf_4cfef_J1_indexOfChar_4cfef : GoodIn wsJ1_indexOf_4cfef (va_wsS RJ1 95 yJ1_indexOfChar_4cfef wsJ1_indexOfChar_4cfef) := goodIn_app (goodIn_of _ (by decide +kernel)) ggJ1_indexOf_4cfef_J1_indexOfChar_4cfef
theorem dJ1_indexOf_4cfef_0 : decode cJ1_indexOf_4cfef 0 = .ok (.iload_n 1, 1) := by decide +kernel
theorem dJ1_indexOf_4cfef_1 : decode cJ1_indexOf_4cfef 1 = .ok (.invokestatic 88, 3) := by decide +kernel
theorem dJ1_indexOf_4cfef_4 : decode cJ1_indexOf_4cfef 4 = .ok (.ifCond .ne 5, 3) := by decide +kernel
theorem dJ1_indexOf_4cfef_7 : decode cJ1_indexOf_4cfef 7 = .ok (.iconst (-1), 1) := by decide +kernel
theorem dJ1_indexOf_4cfef_8 : decode cJ1_indexOf_4cfef 8 = .ok (.ireturn, 1) := by decide +kernel
theorem dJ1_indexOf_4cfef_9 : decode cJ1_indexOf_4cfef 9 = .ok (.iload_n 2, 1) := by decide +kernel
theorem dJ1_indexOf_4cfef_10 : decode cJ1_indexOf_4cfef 10 = .ok (.iconst 0, 1) := by decide +kernel
theorem dJ1_indexOf_4cfef_11 : decode cJ1_indexOf_4cfef 11 = .ok (.invokestatic 92, 3) := by decide +kernel
theorem dJ1_indexOf_4cfef_14 : decode cJ1_indexOf_4cfef 14 = .ok (.istore_n 2, 1) := by decide +kernel
theorem dJ1_indexOf_4cfef_15 : decode cJ1_indexOf_4cfef 15 = .ok (.iload_n 3, 1) := by decide +kernel
theorem dJ1_indexOf_4cfef_16 : decode cJ1_indexOf_4cfef 16 = .ok (.aload_n 0, 1) := by decide +kernel
theorem dJ1_indexOf_4cfef_17 : decode cJ1_indexOf_4cfef 17 = .ok (.arraylength, 1) := by decide +kernel
theorem dJ1_indexOf_4cfef_18 : decode cJ1_indexOf_4cfef 18 = .ok (.invokestatic 38, 3) := by decide +kernel
theorem dJ1_indexOf_4cfef_21 : decode cJ1_indexOf_4cfef 21 = .ok (.istore_n 3, 1) := by decide +kernel
theorem dJ1_indexOf_4cfef_22 : decode cJ1_indexOf_4cfef 22 = .ok (.iload_n 2, 1) := by decide +kernel
theorem dJ1_indexOf_4cfef_23 : decode cJ1_indexOf_4cfef 23 = .ok (.iload_n 3, 1) := by decide +kernel
theorem dJ1_indexOf_4cfef_24 : decode cJ1_indexOf_4cfef 24 = .ok (.if_icmp .lt 5, 3) := by decide +kernel
theorem dJ1_indexOf_4cfef_27 : decode cJ1_indexOf_4cfef 27 = .ok (.iconst (-1), 1) := by decide +kernel
theorem dJ1_indexOf_4cfef_28 : decode cJ1_indexOf_4cfef 28 = .ok (.ireturn, 1) := by decide +kernel
theorem dJ1_indexOf_4cfef_29 : decode cJ1_indexOf_4cfef 29 = .ok (.aload_n 0, 1) := by decide +kernel
theorem dJ1_indexOf_4cfef_30 : decode cJ1_indexOf_4cfef 30 = .ok (.iload_n 1, 1) := by decide +kernel
theorem dJ1_indexOf_4cfef_31 : decode cJ1_indexOf_4cfef 31 = .ok (.iload_n 2, 1) := by decide +kernel
theorem dJ1_indexOf_4cfef_32 : decode cJ1_indexOf_4cfef 32 = .ok (.iload_n 3, 1) := by decide +kernel
theorem dJ1_indexOf_4cfef_33 : decode cJ1_indexOf_4cfef 33 = .ok (.invokestatic 95, 3) := by decide +kernel
theorem dJ1_indexOf_4cfef_36 : decode cJ1_indexOf_4cfef 36 = .ok (.ireturn, 1) := by decide +kernel
theorem dJ1_indexOfChar_4cfef_0 : decode cJ1_indexOfChar_4cfef 0 = .ok (.iload_n 1, 1) := by decide +kernel
theorem dJ1_indexOfChar_4cfef_1 : decode cJ1_indexOfChar_4cfef 1 = .ok (.i2b, 1) := by decide +kernel
theorem dJ1_indexOfChar_4cfef_2 : decode cJ1_indexOfChar_4cfef 2 = .ok (.istore 4, 2) := by decide +kernel
theorem dJ1_indexOfChar_4cfef_4 : decode cJ1_indexOfChar_4cfef 4 = .ok (.iload_n 2, 1) := by decide +kernel
theorem dJ1_indexOfChar_4cfef_5 : decode cJ1_indexOfChar_4cfef 5 = .ok (.istore 5, 2) := by decide +kernel
theorem dJ1_indexOfChar_4cfef_7 : decode cJ1_indexOfChar_4cfef 7 = .ok (.iload 5, 2) := by decide +kernel
theorem dJ1_indexOfChar_4cfef_9 : decode cJ1_indexOfChar_4cfef 9 = .ok (.iload_n 3, 1) := by decide +kernel
theorem dJ1_indexOfChar_4cfef_10 : decode cJ1_indexOfChar_4cfef 10 = .ok (.if_icmp .ge 21, 3) := by decide +kernel
theorem dJ1_indexOfChar_4cfef_13 : decode cJ1_indexOfChar_4cfef 13 = .ok (.aload_n 0, 1) := by decide +kernel
theorem dJ1_indexOfChar_4cfef_14 : decode cJ1_indexOfChar_4cfef 14 = .ok (.iload 5, 2) := by decide +kernel
theorem dJ1_indexOfChar_4cfef_16 : decode cJ1_indexOfChar_4cfef 16 = .ok (.baload, 1) := by decide +kernel
theorem dJ1_indexOfChar_4cfef_17 : decode cJ1_indexOfChar_4cfef 17 = .ok (.iload 4, 2) := by decide +kernel
theorem dJ1_indexOfChar_4cfef_19 : decode cJ1_indexOfChar_4cfef 19 = .ok (.if_icmp .ne 6, 3) := by decide +kernel
theorem dJ1_indexOfChar_4cfef_22 : decode cJ1_indexOfChar_4cfef 22 = .ok (.iload 5, 2) := by decide +kernel
theorem dJ1_indexOfChar_4cfef_24 : decode cJ1_indexOfChar_4cfef 24 = .ok (.ireturn, 1) := by decide +kernel
theorem dJ1_indexOfChar_4cfef_25 : decode cJ1_indexOfChar_4cfef 25 = .ok (.iinc 5 1, 3) := by decide +kernel
theorem dJ1_indexOfChar_4cfef_28 : decode cJ1_indexOfChar_4cfef 28 = .ok (.goto (-21), 3) := by decide +kernel
theorem dJ1_indexOfChar_4cfef_31 : decode cJ1_indexOfChar_4cfef 31 = .ok (.iconst (-1), 1) := by decide +kernel
theorem dJ1_indexOfChar_4cfef_32 : decode cJ1_indexOfChar_4cfef 32 = .ok (.ireturn, 1) := by decide +kernel
set_option maxRecDepth 20000 in
theorem ggJ2_getChar_3b067_J2_length_9d52b : GoodIn wsJ2_getChar_3b067 wsJ2_length_9d52b := goodIn_r _ [7] (by decide +kernel) (by decide +kernel)
set_option maxRecDepth 20000 in
theorem gJ2_getChar_3b067_J2_length_9d52b : GoodIn wsJ2_getChar_3b067 (va_wsS RJ2 48 yJ2_length_9d52b wsJ2_length_9d52b) := goodIn_app (goodIn_of _ (by decide +kernel)) ggJ2_getChar_3b067_J2_length_9d52b
theorem dJ2_getChar_3b067_0 : decode cJ2_getChar_3b067 0 = .ok (.getstatic 44, 3) := by decide +kernel
theorem dJ2_getChar_3b067_3 : decode cJ2_getChar_3b067 3 = .ok (.ifCond .ne 25, 3) := by decide +kernel
theorem dJ2_getChar_3b067_6 : decode cJ2_getChar_3b067 6 = .ok (.iload_n 1, 1) := by decide +kernel
theorem dJ2_getChar_3b067_7 : decode cJ2_getChar_3b067 7 = .ok (.ifCond .lt 11, 3) := by decide +kernel
theorem dJ2_getChar_3b067_10 : decode cJ2_getChar_3b067 10 = .ok (.iload_n 1, 1) := by decide +kernel
theorem dJ2_getChar_3b067_11 : decode cJ2_getChar_3b067 11 = .ok (.aload_n 0, 1) := by decide +kernel
theorem dJ2_getChar_3b067_12 : decode cJ2_getChar_3b067 12 = .ok (.invokestatic 48, 3) := by decide +kernel
theorem dJ2_getChar_3b067_15 : decode cJ2_getChar_3b067 15 = .ok (.if_icmp .lt 13, 3) := by decide +kernel
theorem dJ2_getChar_3b067_18 : decode cJ2_getChar_3b067 18 = .ok (.new 52, 3) := by decide +kernel
theorem dJ2_getChar_3b067_21 : decode cJ2_getChar_3b067 21 = .ok (.dup, 1) := by decide +kernel
theorem dJ2_getChar_3b067_22 : decode cJ2_getChar_3b067 22 = .ok (.ldc 54, 2) := by decide +kernel
theorem dJ2_getChar_3b067_24 : decode cJ2_getChar_3b067 24 = .ok (.invokespecial 56, 3) := by decide +kernel
theorem dJ2_getChar_3b067_27 : decode cJ2_getChar_3b067 27 = .ok (.athrow, 1) := by decide +kernel
theorem dJ2_getChar_3b067_28 : decode cJ2_getChar_3b067 28 = .ok (.iload_n 1, 1) := by decide +kernel
theorem dJ2_getChar_3b067_29 : decode cJ2_getChar_3b067 29 = .ok (.iconst 1, 1) := by decide +kernel
theorem dJ2_getChar_3b067_30 : decode cJ2_getChar_3b067 30 = .ok (.ishl, 1) := by decide +kernel
theorem dJ2_getChar_3b067_31 : decode cJ2_getChar_3b067 31 = .ok (.istore_n 1, 1) := by decide +kernel
theorem dJ2_getChar_3b067_32 : decode cJ2_getChar_3b067 32 = .ok (.aload_n 0, 1) := by decide +kernel
theorem dJ2_getChar_3b067_33 : decode cJ2_getChar_3b067 33 = .ok (.iload_n 1, 1) := by decide +kernel
theorem dJ2_getChar_3b067_34 : decode cJ2_getChar_3b067 34 = .ok (.iinc 1 1, 3) := by decide +kernel
theorem dJ2_getChar_3b067_37 : decode cJ2_getChar_3b067 37 = .ok (.baload, 1) := by decide +kernel
theorem dJ2_getChar_3b067_38 : decode cJ2_getChar_3b067 38 = .ok (.sipush 255, 3) := by decide +kernel
theorem dJ2_getChar_3b067_41 : decode cJ2_getChar_3b067 41 = .ok (.iand, 1) := by decide +kernel
theorem dJ2_getChar_3b067_42 : decode cJ2_getChar_3b067 42 = .ok (.getstatic 59, 3) := by decide +kernel
theorem dJ2_getChar_3b067_45 : decode cJ2_getChar_3b067 45 = .ok (.ishl, 1) := by decide +kernel
theorem dJ2_getChar_3b067_46 : decode cJ2_getChar_3b067 46 = .ok (.aload_n 0, 1) := by decide +kernel
theorem dJ2_getChar_3b067_47 : decode cJ2_getChar_3b067 47 = .ok (.iload_n 1, 1) := by decide +kernel
theorem dJ2_getChar_3b067_48 : decode cJ2_getChar_3b067 48 = .ok (.baload, 1) := by decide +kernel
theorem dJ2_getChar_3b067_49 : decode cJ2_getChar_3b067 49 = .ok (.sipush 255, 3) := by decide +kernel
theorem dJ2_getChar_3b067_52 : decode cJ2_getChar_3b067 52 = .ok (.iand, 1) := by decide +kernel
theorem dJ2_getChar_3b067_53 : decode cJ2_getChar_3b067 53 = .ok (.getstatic 63, 3) := by decide +kernel
theorem dJ2_getChar_3b067_56 : decode cJ2_getChar_3b067 56 = .ok (.ishl, 1) := by decide +kernel
theorem dJ2_getChar_3b067_57 : decode cJ2_getChar_3b067 57 = .ok (.ior, 1) := by decide +kernel
theorem dJ2_getChar_3b067_58 : decode cJ2_getChar_3b067 58 = .ok (.i2c, 1) := by decide +kernel
theorem dJ2_getChar_3b067_59 : decode cJ2_getChar_3b067 59 = .ok (.ireturn, 1) := by decide +kernel
theorem dJ2_length_9d52b_0 : decode cJ2_length_9d52b 0 = .ok (.aload_n 0, 1) := by decide +kernel
theorem dJ2_length_9d52b_1 : decode cJ2_length_9d52b 1 = .ok (.arraylength, 1) := by decide +kernel
theorem dJ2_length_9d52b_2 : decode cJ2_length_9d52b 2 = .ok (.iconst 1, 1) := by decide +kernel
theorem dJ2_length_9d52b_3 : decode cJ2_length_9d52b 3 = .ok (.ishr, 1) := by decide +kernel
theorem dJ2_length_9d52b_4 : decode cJ2_length_9d52b 4 = .ok (.ireturn, 1) := by decide +kernel
set_option maxRecDepth 20000 in
theorem ggJ2_indexOf_4cfef_J2_indexOfChar_4cfef : GoodIn wsJ2_indexOf_4cfef wsJ2_indexOfChar_4cfef := goodIn_r _ [12, 13, 14, 11, 15, 16, 17, 18, 19, 20, 21, 22, 23, 24, 25, 26, 27, 28, 29, 30, 31, 32, 33, 34, 35, 36] (by decide +kernel) (by decide +kernel)
set_option maxRecDepth 20000 in
theorem gJ2_indexOf_4cfef_J2_indexOfChar_4cfef : GoodIn wsJ2_indexOf_4cfef (va_wsS RJ2 228 yJ2_indexOfChar_4cfef wsJ2_indexOfChar_4cfef) := goodIn_app (goodIn_of _ (by decide +kernel)) ggJ2_indexOf_4cfef_J2_indexOfChar_4cfef
set_option maxRecDepth 20000 in
theorem ggJ2_indexOf_4cfef_J2_indexOfSupplementary_4cfef : GoodIn wsJ2_indexOf_4cfef wsJ2_indexOfSupplementary_4cfef := goodIn_r _ [39, 40, 41, 42, 43, 44, 45, 46, 47, 48, 49, 50, 51, 13, 14, 11, 15, 16, 17, 18, 19, 20, 21, 22, 23, 24, 25, 26, 27, 31, 32, 33, 34, 35, 36] (by decide +kernel) (by decide +kernel)
set_option maxRecDepth 20000 in
theorem gJ2_indexOf_4cfef_J2_indexOfSupplementary_4cfef : GoodIn wsJ2_indexOf_4cfef (va_wsS RJ2 232 yJ2_indexOfSupplementary_4cfef wsJ2_indexOfSupplementary_4cfef) := goodIn_app (goodIn_of _ (by decide +kernel)) ggJ2_indexOf_4cfef_J2_indexOfSupplementary_4cfef
theorem dJ2_indexOf_4cfef_0 : decode cJ2_indexOf_4cfef 0 = .ok (.iload_n 2, 1) := by decide +kernel
theorem dJ2_indexOf_4cfef_1 : decode cJ2_indexOf_4cfef 1 = .ok (.iconst 0, 1) := by decide +kernel
theorem dJ2_indexOf_4cfef_2 : decode cJ2_indexOf_4cfef 2 = .ok (.invokestatic 224, 3) := by decide +kernel
theorem dJ2_indexOf_4cfef_5 : decode cJ2_indexOf_4cfef 5 = .ok (.istore_n 2, 1) := by decide +kernel
theorem dJ2_indexOf_4cfef_6 : decode cJ2_indexOf_4cfef 6 = .ok (.iload_n 3, 1) := by decide +kernel
theorem dJ2_indexOf_4cfef_7 : decode cJ2_indexOf_4cfef 7 = .ok (.aload_n 0, 1) := by decide +kernel
theorem dJ2_indexOf_4cfef_8 : decode cJ2_indexOf_4cfef 8 = .ok (.arraylength, 1) := by decide +kernel
theorem dJ2_indexOf_4cfef_9 : decode cJ2_indexOf_4cfef 9 = .ok (.iconst 1, 1) := by decide +kernel
theorem dJ2_indexOf_4cfef_10 : decode cJ2_indexOf_4cfef 10 = .ok (.ishr, 1) := by decide +kernel
theorem dJ2_indexOf_4cfef_11 : decode cJ2_indexOf_4cfef 11 = .ok (.invokestatic 183, 3) := by decide +kernel
theorem dJ2_indexOf_4cfef_14 : decode cJ2_indexOf_4cfef 14 = .ok (.istore_n 3, 1) := by decide +kernel
theorem dJ2_indexOf_4cfef_15 : decode cJ2_indexOf_4cfef 15 = .ok (.iload_n 2, 1) := by decide +kernel
theorem dJ2_indexOf_4cfef_16 : decode cJ2_indexOf_4cfef 16 = .ok (.iload_n 3, 1) := by decide +kernel
theorem dJ2_indexOf_4cfef_17 : decode cJ2_indexOf_4cfef 17 = .ok (.if_icmp .lt 5, 3) := by decide +kernel
theorem dJ2_indexOf_4cfef_20 : decode cJ2_indexOf_4cfef 20 = .ok (.iconst (-1), 1) := by decide +kernel
theorem dJ2_indexOf_4cfef_21 : decode cJ2_indexOf_4cfef 21 = .ok (.ireturn, 1) := by decide +kernel
theorem dJ2_indexOf_4cfef_22 : decode cJ2_indexOf_4cfef 22 = .ok (.iload_n 1, 1) := by decide +kernel
theorem dJ2_indexOf_4cfef_23 : decode cJ2_indexOf_4cfef 23 = .ok (.ldc 227, 2) := by decide +kernel
theorem dJ2_indexOf_4cfef_25 : decode cJ2_indexOf_4cfef 25 = .ok (.if_icmp .ge 11, 3) := by decide +kernel
theorem dJ2_indexOf_4cfef_28 : decode cJ2_indexOf_4cfef 28 = .ok (.aload_n 0, 1) := by decide +kernel
theorem dJ2_indexOf_4cfef_29 : decode cJ2_indexOf_4cfef 29 = .ok (.iload_n 1, 1) := by decide +kernel
theorem dJ2_indexOf_4cfef_30 : decode cJ2_indexOf_4cfef 30 = .ok (.iload_n 2, 1) := by decide +kernel
theorem dJ2_indexOf_4cfef_31 : decode cJ2_indexOf_4cfef 31 = .ok (.iload_n 3, 1) := by decide +kernel
theorem dJ2_indexOf_4cfef_32 : decode cJ2_indexOf_4cfef 32 = .ok (.invokestatic 228, 3) := by decide +kernel
theorem dJ2_indexOf_4cfef_35 : decode cJ2_indexOf_4cfef 35 = .ok (.ireturn, 1) := by decide +kernel
theorem dJ2_indexOf_4cfef_36 : decode cJ2_indexOf_4cfef 36 = .ok (.aload_n 0, 1) := by decide +kernel
theorem dJ2_indexOf_4cfef_37 : decode cJ2_indexOf_4cfef 37 = .ok (.iload_n 1, 1) := by decide +kernel
theorem dJ2_indexOf_4cfef_38 : decode cJ2_indexOf_4cfef 38 = .ok (.iload_n 2, 1) := by decide +kernel
theorem dJ2_indexOf_4cfef_39 : decode cJ2_indexOf_4cfef 39 = .ok (.iload_n 3, 1) := by decide +kernel
theorem dJ2_indexOf_4cfef_40 : decode cJ2_indexOf_4cfef 40 = .ok (.invokestatic 232, 3) := by decide +kernel
theorem dJ2_indexOf_4cfef_43 : decode cJ2_indexOf_4cfef 43 = .ok (.ireturn, 1) := by decide +kernel
set_option maxRecDepth 20000 in
theorem ggJ2_indexOfChar_4cfef_J2_checkBoundsBeginEnd_d044e : GoodIn wsJ2_indexOfChar_4cfef wsJ2_checkBoundsBeginEnd_d044e := goodIn_r _ [4, 5, 6, 3, 7, 8, 9, 10, 11, 12, 13, 14, 15, 16] (by decide +kernel) (by decide +kernel)
set_option maxRecDepth 20000 in
theorem gJ2_indexOfChar_4cfef_J2_checkBoundsBeginEnd_d044e : GoodIn wsJ2_indexOfChar_4cfef (va_wsS RJ2 96 yJ2_checkBoundsBeginEnd_d044e wsJ2_checkBoundsBeginEnd_d044e) := goodIn_app (goodIn_of _ (by decide +kernel)) ggJ2_indexOfChar_4cfef_J2_checkBoundsBeginEnd_d044e
set_option maxRecDepth 20000 in
theorem ggJ2_indexOfChar_4cfef_J2_indexOfCharUnsafe_4cfef : GoodIn wsJ2_indexOfChar_4cfef wsJ2_indexOfCharUnsafe_4cfef := goodIn_r _ [19, 20, 21, 3, 22, 23, 24, 25, 5, 6, 7] (by decide +kernel) (by decide +kernel)
set_option maxRecDepth 20000 in
theorem gJ2_indexOfChar_4cfef_J2_indexOfCharUnsafe_4cfef : GoodIn wsJ2_indexOfChar_4cfef (va_wsS RJ2 244 yJ2_indexOfCharUnsafe_4cfef wsJ2_indexOfCharUnsafe_4cfef) := goodIn_app (goodIn_of _ (by decide +kernel)) ggJ2_indexOfChar_4cfef_J2_indexOfCharUnsafe_4cfef
theorem dJ2_indexOfChar_4cfef_0 : decode cJ2_indexOfChar_4cfef 0 = .ok (.iload_n 2, 1) := by decide +kernel
theorem dJ2_indexOfChar_4cfef_1 : decode cJ2_indexOfChar_4cfef 1 = .ok (.iload_n 3, 1) := by decide +kernel
theorem dJ2_indexOfChar_4cfef_2 : decode cJ2_indexOfChar_4cfef 2 = .ok (.aload_n 0, 1) := by decide +kernel
theorem dJ2_indexOfChar_4cfef_3 : decode cJ2_indexOfChar_4cfef 3 = .ok (.invokestatic 96, 3) := by decide +kernel
theorem dJ2_indexOfChar_4cfef_6 : decode cJ2_indexOfChar_4cfef 6 = .ok (.aload_n 0, 1) := by decide +kernel
theorem dJ2_indexOfChar_4cfef_7 : decode cJ2_indexOfChar_4cfef 7 = .ok (.iload_n 1, 1) := by decide +kernel
theorem dJ2_indexOfChar_4cfef_8 : decode cJ2_indexOfChar_4cfef 8 = .ok (.iload_n 2, 1) := by decide +kernel
theorem dJ2_indexOfChar_4cfef_9 : decode cJ2_indexOfChar_4cfef 9 = .ok (.iload_n 3, 1) := by decide +kernel
theorem dJ2_indexOfChar_4cfef_10 : decode cJ2_indexOfChar_4cfef 10 = .ok (.invokestatic 244, 3) := by decide +kernel
theorem dJ2_indexOfChar_4cfef_13 : decode cJ2_indexOfChar_4cfef 13 = .ok (.ireturn, 1) := by decide +kernel
set_option maxRecDepth 20000 in
theorem ggJ2_indexOfCharUnsafe_4cfef_J2_getChar_3b067 : GoodIn wsJ2_indexOfCharUnsafe_4cfef wsJ2_getChar_3b067 := goodIn_r _ [4, 5, 6, 7, 8, 9, 3, 10] (by decide +kernel) (by decide +kernel)
set_option maxRecDepth 20000 in
theorem gJ2_indexOfCharUnsafe_4cfef_J2_getChar_3b067 : GoodIn wsJ2_indexOfCharUnsafe_4cfef (va_wsS RJ2 71 yJ2_getChar_3b067 wsJ2_getChar_3b067) := goodIn_app (goodIn_of _ (by decide +kernel)) ggJ2_indexOfCharUnsafe_4cfef_J2_getChar_3b067
theorem dJ2_indexOfCharUnsafe_4cfef_0 : decode cJ2_indexOfCharUnsafe_4cfef 0 = .ok (.iload_n 2, 1) := by decide +kernel
theorem dJ2_indexOfCharUnsafe_4cfef_1 : decode cJ2_indexOfCharUnsafe_4cfef 1 = .ok (.istore 4, 2) := by decide +kernel
theorem dJ2_indexOfCharUnsafe_4cfef_3 : decode cJ2_indexOfCharUnsafe_4cfef 3 = .ok (.iload 4, 2) := by decide +kernel
theorem dJ2_indexOfCharUnsafe_4cfef_5 : decode cJ2_indexOfCharUnsafe_4cfef 5 = .ok (.iload_n 3, 1) := by decide +kernel
theorem dJ2_indexOfCharUnsafe_4cfef_6 : decode cJ2_indexOfCharUnsafe_4cfef 6 = .ok (.if_icmp .ge 22, 3) := by decide +kernel
theorem dJ2_indexOfCharUnsafe_4cfef_9 : decode cJ2_indexOfCharUnsafe_4cfef 9 = .ok (.aload_n 0, 1) := by decide +kernel
theorem dJ2_indexOfCharUnsafe_4cfef_10 : decode cJ2_indexOfCharUnsafe_4cfef 10 = .ok (.iload 4, 2) := by decide +kernel
theorem dJ2_indexOfCharUnsafe_4cfef_12 : decode cJ2_indexOfCharUnsafe_4cfef 12 = .ok (.invokestatic 71, 3) := by decide +kernel
theorem dJ2_indexOfCharUnsafe_4cfef_15 : decode cJ2_indexOfCharUnsafe_4cfef 15 = .ok (.iload_n 1, 1) := by decide +kernel
theorem dJ2_indexOfCharUnsafe_4cfef_16 : decode cJ2_indexOfCharUnsafe_4cfef 16 = .ok (.if_icmp .ne 6, 3) := by decide +kernel
theorem dJ2_indexOfCharUnsafe_4cfef_19 : decode cJ2_indexOfCharUnsafe_4cfef 19 = .ok (.iload 4, 2) := by decide +kernel
theorem dJ2_indexOfCharUnsafe_4cfef_21 : decode cJ2_indexOfCharUnsafe_4cfef 21 = .ok (.ireturn, 1) := by decide +kernel
theorem dJ2_indexOfCharUnsafe_4cfef_22 : decode cJ2_indexOfCharUnsafe_4cfef 22 = .ok (.iinc 4 1, 3) := by decide +kernel
theorem dJ2_indexOfCharUnsafe_4cfef_25 : decode cJ2_indexOfCharUnsafe_4cfef 25 = .ok (.goto (-22), 3) := by decide +kernel
theorem dJ2_indexOfCharUnsafe_4cfef_28 : decode cJ2_indexOfCharUnsafe_4cfef 28 = .ok (.iconst (-1), 1) := by decide +kernel
theorem dJ2_indexOfCharUnsafe_4cfef_29 : decode cJ2_indexOfCharUnsafe_4cfef 29 = .ok (.ireturn, 1) := by decide +kernel
set_option maxRecDepth 20000 in
theorem ggJ2_indexOfSupplementary_4cfef_J11_isValidCodePoint_9a6ad : GoodIn wsJ2_indexOfSupplementary_4cfef wsJ11_isValidCodePoint_9a6ad := goodIn_r _ [4] (by decide +kernel) (by decide +kernel)
set_option maxRecDepth 20000 in
theorem gJ2_indexOfSupplementary_4cfef_J11_isValidCodePoint_9a6ad : GoodIn wsJ2_indexOfSupplementary_4cfef (va_wsS RJ2 164 yJ11_isValidCodePoint_9a6ad wsJ11_isValidCodePoint_9a6ad) := goodIn_app (goodIn_of _ (by decide +kernel)) ggJ2_indexOfSupplementary_4cfef_J11_isValidCodePoint_9a6ad
set_option maxRecDepth 20000 in
theorem ggJ2_indexOfSupplementary_4cfef_J11_highSurrogate_5068e : GoodIn wsJ2_indexOfSupplementary_4cfef wsJ11_highSurrogate_5068e := goodIn_r _ [7, 8] (by decide +kernel) (by decide +kernel)
set_option maxRecDepth 20000 in
theorem gJ2_indexOfSupplementary_4cfef_J11_highSurrogate_5068e : GoodIn wsJ2_indexOfSupplementary_4cfef (va_wsS RJ2 157 yJ11_highSurrogate_5068e wsJ11_highSurrogate_5068e) := goodIn_app (goodIn_of _ (by decide +kernel)) ggJ2_indexOfSupplementary_4cfef_J11_highSurrogate_5068e
set_option maxRecDepth 20000 in
theorem ggJ2_indexOfSupplementary_4cfef_J11_lowSurrogate_5068e : GoodIn wsJ2_indexOfSupplementary_4cfef wsJ11_lowSurrogate_5068e := goodIn_r _ [11, 12] (by decide +kernel) (by decide +kernel)
set_option maxRecDepth 20000 in
theorem gJ2_indexOfSupplementary_4cfef_J11_lowSurrogate_5068e : GoodIn wsJ2_indexOfSupplementary_4cfef (va_wsS RJ2 161 yJ11_lowSurrogate_5068e wsJ11_lowSurrogate_5068e) := goodIn_app (goodIn_of _ (by decide +kernel)) ggJ2_indexOfSupplementary_4cfef_J11_lowSurrogate_5068e
set_option maxRecDepth 20000 in
theorem ggJ2_indexOfSupplementary_4cfef_J2_checkBoundsBeginEnd_d044e : GoodIn wsJ2_indexOfSupplementary_4cfef wsJ2_checkBoundsBeginEnd_d044e := goodIn_r _ [16, 17, 18, 15, 19, 20, 21, 22, 23, 24, 25, 26, 27, 28] (by decide +kernel) (by decide +kernel)
set_option maxRecDepth 20000 in
theorem gJ2_indexOfSupplementary_4cfef_J2_checkBoundsBeginEnd_d044e : GoodIn wsJ2_indexOfSupplementary_4cfef (va_wsS RJ2 96 yJ2_checkBoundsBeginEnd_d044e wsJ2_checkBoundsBeginEnd_d044e) := goodIn_app (goodIn_of _ (by decide +kernel)) ggJ2_indexOfSupplementary_4cfef_J2_checkBoundsBeginEnd_d044e
set_option maxRecDepth 20000 in
theorem ggJ2_indexOfSupplementary_4cfef_J2_getChar_3b067 : GoodIn wsJ2_indexOfSupplementary_4cfef wsJ2_getChar_3b067 := goodIn_r _ [31, 32, 33, 34, 17, 18, 15, 19] (by decide +kernel) (by decide +kernel)
set_option maxRecDepth 20000 in
theorem gJ2_indexOfSupplementary_4cfef_J2_getChar_3b067 : GoodIn wsJ2_indexOfSupplementary_4cfef (va_wsS RJ2 71 yJ2_getChar_3b067 wsJ2_getChar_3b067) := goodIn_app (goodIn_of _ (by decide +kernel)) ggJ2_indexOfSupplementary_4cfef_J2_getChar_3b067
theorem dJ2_indexOfSupplementary_4cfef_0 : decode cJ2_indexOfSupplementary_4cfef 0 = .ok (.iload_n 1, 1) := by decide +kernel
theorem dJ2_indexOfSupplementary_4cfef_1 : decode cJ2_indexOfSupplementary_4cfef 1 = .ok (.invokestatic 164, 3) := by decide +kernel
theorem dJ2_indexOfSupplementary_4cfef_4 : decode cJ2_indexOfSupplementary_4cfef 4 = .ok (.ifCond .eq 65, 3) := by decide +kernel
theorem dJ2_indexOfSupplementary_4cfef_7 : decode cJ2_indexOfSupplementary_4cfef 7 = .ok (.iload_n 1, 1) := by decide +kernel
theorem dJ2_indexOfSupplementary_4cfef_8 : decode cJ2_indexOfSupplementary_4cfef 8 = .ok (.invokestatic 157, 3) := by decide +kernel
theorem dJ2_indexOfSupplementary_4cfef_11 : decode cJ2_indexOfSupplementary_4cfef 11 = .ok (.istore 4, 2) := by decide +kernel
theorem dJ2_indexOfSupplementary_4cfef_13 : decode cJ2_indexOfSupplementary_4cfef 13 = .ok (.iload_n 1, 1) := by decide +kernel
theorem dJ2_indexOfSupplementary_4cfef_14 : decode cJ2_indexOfSupplementary_4cfef 14 = .ok (.invokestatic 161, 3) := by decide +kernel
theorem dJ2_indexOfSupplementary_4cfef_17 : decode cJ2_indexOfSupplementary_4cfef 17 = .ok (.istore 5, 2) := by decide +kernel
theorem dJ2_indexOfSupplementary_4cfef_19 : decode cJ2_indexOfSupplementary_4cfef 19 = .ok (.iload_n 2, 1) := by decide +kernel
theorem dJ2_indexOfSupplementary_4cfef_20 : decode cJ2_indexOfSupplementary_4cfef 20 = .ok (.iload_n 3, 1) := by decide +kernel
theorem dJ2_indexOfSupplementary_4cfef_21 : decode cJ2_indexOfSupplementary_4cfef 21 = .ok (.aload_n 0, 1) := by decide +kernel
theorem dJ2_indexOfSupplementary_4cfef_22 : decode cJ2_indexOfSupplementary_4cfef 22 = .ok (.invokestatic 96, 3) := by decide +kernel
theorem dJ2_indexOfSupplementary_4cfef_25 : decode cJ2_indexOfSupplementary_4cfef 25 = .ok (.iload_n 2, 1) := by decide +kernel
theorem dJ2_indexOfSupplementary_4cfef_26 : decode cJ2_indexOfSupplementary_4cfef 26 = .ok (.istore 6, 2) := by decide +kernel
theorem dJ2_indexOfSupplementary_4cfef_28 : decode cJ2_indexOfSupplementary_4cfef 28 = .ok (.iload 6, 2) := by decide +kernel
theorem dJ2_indexOfSupplementary_4cfef_30 : decode cJ2_indexOfSupplementary_4cfef 30 = .ok (.iload_n 3, 1) := by decide +kernel
theorem dJ2_indexOfSupplementary_4cfef_31 : decode cJ2_indexOfSupplementary_4cfef 31 = .ok (.iconst 1, 1) := by decide +kernel
theorem dJ2_indexOfSupplementary_4cfef_32 : decode cJ2_indexOfSupplementary_4cfef 32 = .ok (.isub, 1) := by decide +kernel
theorem dJ2_indexOfSupplementary_4cfef_33 : decode cJ2_indexOfSupplementary_4cfef 33 = .ok (.if_icmp .ge 36, 3) := by decide +kernel
theorem dJ2_indexOfSupplementary_4cfef_36 : decode cJ2_indexOfSupplementary_4cfef 36 = .ok (.aload_n 0, 1) := by decide +kernel
theorem dJ2_indexOfSupplementary_4cfef_37 : decode cJ2_indexOfSupplementary_4cfef 37 = .ok (.iload 6, 2) := by decide +kernel
theorem dJ2_indexOfSupplementary_4cfef_39 : decode cJ2_indexOfSupplementary_4cfef 39 = .ok (.invokestatic 71, 3) := by decide +kernel
theorem dJ2_indexOfSupplementary_4cfef_42 : decode cJ2_indexOfSupplementary_4cfef 42 = .ok (.iload 4, 2) := by decide +kernel
theorem dJ2_indexOfSupplementary_4cfef_44 : decode cJ2_indexOfSupplementary_4cfef 44 = .ok (.if_icmp .ne 19, 3) := by decide +kernel
theorem dJ2_indexOfSupplementary_4cfef_47 : decode cJ2_indexOfSupplementary_4cfef 47 = .ok (.aload_n 0, 1) := by decide +kernel
theorem dJ2_indexOfSupplementary_4cfef_48 : decode cJ2_indexOfSupplementary_4cfef 48 = .ok (.iload 6, 2) := by decide +kernel
theorem dJ2_indexOfSupplementary_4cfef_50 : decode cJ2_indexOfSupplementary_4cfef 50 = .ok (.iconst 1, 1) := by decide +kernel
theorem dJ2_indexOfSupplementary_4cfef_51 : decode cJ2_indexOfSupplementary_4cfef 51 = .ok (.iadd, 1) := by decide +kernel
theorem dJ2_indexOfSupplementary_4cfef_52 : decode cJ2_indexOfSupplementary_4cfef 52 = .ok (.invokestatic 71, 3) := by decide +kernel
theorem dJ2_indexOfSupplementary_4cfef_55 : decode cJ2_indexOfSupplementary_4cfef 55 = .ok (.iload 5, 2) := by decide +kernel
theorem dJ2_indexOfSupplementary_4cfef_57 : decode cJ2_indexOfSupplementary_4cfef 57 = .ok (.if_icmp .ne 6, 3) := by decide +kernel
theorem dJ2_indexOfSupplementary_4cfef_60 : decode cJ2_indexOfSupplementary_4cfef 60 = .ok (.iload 6, 2) := by decide +kernel
theorem dJ2_indexOfSupplementary_4cfef_62 : decode cJ2_indexOfSupplementary_4cfef 62 = .ok (.ireturn, 1) := by decide +kernel
theorem dJ2_indexOfSupplementary_4cfef_63 : decode cJ2_indexOfSupplementary_4cfef 63 = .ok (.iinc 6 1, 3) := by decide +kernel
theorem dJ2_indexOfSupplementary_4cfef_66 : decode cJ2_indexOfSupplementary_4cfef 66 = .ok (.goto (-38), 3) := by decide +kernel
theorem dJ2_indexOfSupplementary_4cfef_69 : decode cJ2_indexOfSupplementary_4cfef 69 = .ok (.iconst (-1), 1) := by decide +kernel
theorem dJ2_indexOfSupplementary_4cfef_70 : decode cJ2_indexOfSupplementary_4cfef 70 = .ok (.ireturn, 1) := by decide +kernel
set_option maxRecDepth 20000 in
theorem ggJ2_charAt_3b067_J2_checkIndex_2214a : GoodIn wsJ2_charAt_3b067 wsJ2_checkIndex_2214a := goodIn_r _ [4, 5, 6, 3, 7, 8, 9, 10, 11, 12, 13, 14, 15, 16] (by decide +kernel) (by decide +kernel)
set_option maxRecDepth 20000 in
theorem gJ2_charAt_3b067_J2_checkIndex_2214a : GoodIn wsJ2_charAt_3b067 (va_wsS RJ2 67 yJ2_checkIndex_2214a wsJ2_checkIndex_2214a) := goodIn_app (goodIn_of _ (by decide +kernel)) ggJ2_charAt_3b067_J2_checkIndex_2214a
set_option maxRecDepth 20000 in
theorem ggJ2_charAt_3b067_J2_getChar_3b067 : GoodIn wsJ2_charAt_3b067 wsJ2_getChar_3b067 := goodIn_r _ [19, 20, 21, 22, 5, 6, 3, 7] (by decide +kernel) (by decide +kernel)
set_option maxRecDepth 20000 in
theorem gJ2_charAt_3b067_J2_getChar_3b067 : GoodIn wsJ2_charAt_3b067 (va_wsS RJ2 71 yJ2_getChar_3b067 wsJ2_getChar_3b067) := goodIn_app (goodIn_of _ (by decide +kernel)) ggJ2_charAt_3b067_J2_getChar_3b067
theorem dJ2_charAt_3b067_0 : decode cJ2_charAt_3b067 0 = .ok (.iload_n 1, 1) := by decide +kernel
theorem dJ2_charAt_3b067_1 : decode cJ2_charAt_3b067 1 = .ok (.aload_n 0, 1) := by decide +kernel
theorem dJ2_charAt_3b067_2 : decode cJ2_charAt_3b067 2 = .ok (.invokestatic 67, 3) := by decide +kernel
theorem dJ2_charAt_3b067_5 : decode cJ2_charAt_3b067 5 = .ok (.aload_n 0, 1) := by decide +kernel
theorem dJ2_charAt_3b067_6 : decode cJ2_charAt_3b067 6 = .ok (.iload_n 1, 1) := by decide +kernel
theorem dJ2_charAt_3b067_7 : decode cJ2_charAt_3b067 7 = .ok (.invokestatic 71, 3) := by decide +kernel
theorem dJ2_charAt_3b067_10 : decode cJ2_charAt_3b067 10 = .ok (.ireturn, 1) := by decide +kernel
set_option maxRecDepth 20000 in
theorem ggJ2_checkIndex_2214a_J2_length_9d52b : GoodIn wsJ2_checkIndex_2214a wsJ2_length_9d52b := goodIn_r _ [4] (by decide +kernel) (by decide +kernel)
set_option maxRecDepth 20000 in
theorem gJ2_checkIndex_2214a_J2_length_9d52b : GoodIn wsJ2_checkIndex_2214a (va_wsS RJ2 48 yJ2_length_9d52b wsJ2_length_9d52b) := goodIn_app (goodIn_of _ (by decide +kernel)) ggJ2_checkIndex_2214a_J2_length_9d52b
set_option maxRecDepth 20000 in
theorem ggJ2_checkIndex_2214a_J0_checkIndex_df160 : GoodIn wsJ2_checkIndex_2214a wsJ0_checkIndex_df160 := goodIn_r _ [8, 9, 10, 11, 12, 13] (by decide +kernel) (by decide +kernel)
set_option maxRecDepth 20000 in
theorem gJ2_checkIndex_2214a_J0_checkIndex_df160 : GoodIn wsJ2_checkIndex_2214a (va_wsS RJ2 414 yJ0_checkIndex_df160 wsJ0_checkIndex_df160) := goodIn_app (goodIn_of _ (by decide +kernel)) ggJ2_checkIndex_2214a_J0_checkIndex_df160
theorem dJ2_checkIndex_2214a_0 : decode cJ2_checkIndex_2214a 0 = .ok (.iload_n 0, 1) := by decide +kernel
theorem dJ2_checkIndex_2214a_1 : decode cJ2_checkIndex_2214a 1 = .ok (.aload_n 1, 1) := by decide +kernel
theorem dJ2_checkIndex_2214a_2 : decode cJ2_checkIndex_2214a 2 = .ok (.invokestatic 48, 3) := by decide +kernel
theorem dJ2_checkIndex_2214a_5 : decode cJ2_checkIndex_2214a 5 = .ok (.invokestatic 414, 3) := by decide +kernel
theorem dJ2_checkIndex_2214a_8 : decode cJ2_checkIndex_2214a 8 = .ok (.return_, 1) := by decide +kernel
set_option maxRecDepth 20000 in
theorem ggJ2_checkBoundsBeginEnd_d044e_J2_length_9d52b : GoodIn wsJ2_checkBoundsBeginEnd_d044e wsJ2_length_9d52b := goodIn_r _ [4] (by decide +kernel) (by decide +kernel)
set_option maxRecDepth 20000 in
theorem gJ2_checkBoundsBeginEnd_d044e_J2_length_9d52b : GoodIn wsJ2_checkBoundsBeginEnd_d044e (va_wsS RJ2 48 yJ2_length_9d52b wsJ2_length_9d52b) := goodIn_app (goodIn_of _ (by decide +kernel)) ggJ2_checkBoundsBeginEnd_d044e_J2_length_9d52b
set_option maxRecDepth 20000 in
theorem ggJ2_checkBoundsBeginEnd_d044e_J0_checkBoundsBeginEnd_23922 : GoodIn wsJ2_checkBoundsBeginEnd_d044e wsJ0_checkBoundsBeginEnd_23922 := goodIn_r _ [8, 9, 10, 11, 12, 13] (by decide +kernel) (by decide +kernel)
set_option maxRecDepth 20000 in
theorem gJ2_checkBoundsBeginEnd_d044e_J0_checkBoundsBeginEnd_23922 : GoodIn wsJ2_checkBoundsBeginEnd_d044e (va_wsS RJ2 241 yJ0_checkBoundsBeginEnd_23922 wsJ0_checkBoundsBeginEnd_23922) := goodIn_app (goodIn_of _ (by decide +kernel)) ggJ2_checkBoundsBeginEnd_d044e_J0_checkBoundsBeginEnd_23922
theorem dJ2_checkBoundsBeginEnd_d044e_0 : decode cJ2_checkBoundsBeginEnd_d044e 0 = .ok (.iload_n 0, 1) := by decide +kernel
theorem dJ2_checkBoundsBeginEnd_d044e_1 : decode cJ2_checkBoundsBeginEnd_d044e 1 = .ok (.iload_n 1, 1) := by decide +kernel
theorem dJ2_checkBoundsBeginEnd_d044e_2 : decode cJ2_checkBoundsBeginEnd_d044e 2 = .ok (.aload_n 2, 1) := by decide +kernel
theorem dJ2_checkBoundsBeginEnd_d044e_3 : decode cJ2_checkBoundsBeginEnd_d044e 3 = .ok (.invokestatic 48, 3) := by decide +kernel
theorem dJ2_checkBoundsBeginEnd_d044e_6 : decode cJ2_checkBoundsBeginEnd_d044e 6 = .ok (.invokestatic 241, 3) := by decide +kernel
theorem dJ2_checkBoundsBeginEnd_d044e_9 : decode cJ2_checkBoundsBeginEnd_d044e 9 = .ok (.return_, 1) := by decide +kernel
theorem dJ3_checkIndex_8e157_0 : decode cJ3_checkIndex_8e157 0 = .ok (.iload_n 0, 1) := by decide +kernel
theorem dJ3_checkIndex_8e157_1 : decode cJ3_checkIndex_8e157 1 = .ok (.ifCond .lt 8, 3) := by decide +kernel
theorem dJ3_checkIndex_8e157_4 : decode cJ3_checkIndex_8e157 4 = .ok (.iload_n 0, 1) := by decide +kernel
theorem dJ3_checkIndex_8e157_5 : decode cJ3_checkIndex_8e157 5 = .ok (.iload_n 1, 1) := by decide +kernel
theorem dJ3_checkIndex_8e157_6 : decode cJ3_checkIndex_8e157 6 = .ok (.if_icmp .lt 10, 3) := by decide +kernel
theorem dJ3_checkIndex_8e157_9 : decode cJ3_checkIndex_8e157 9 = .ok (.aload_n 2, 1) := by decide +kernel
theorem dJ3_checkIndex_8e157_10 : decode cJ3_checkIndex_8e157 10 = .ok (.iload_n 0, 1) := by decide +kernel
theorem dJ3_checkIndex_8e157_11 : decode cJ3_checkIndex_8e157 11 = .ok (.iload_n 1, 1) := by decide +kernel
theorem dJ3_checkIndex_8e157_12 : decode cJ3_checkIndex_8e157 12 = .ok (.invokestatic 95, 3) := by decide +kernel
theorem dJ3_checkIndex_8e157_15 : decode cJ3_checkIndex_8e157 15 = .ok (.athrow, 1) := by decide +kernel
theorem dJ3_checkIndex_8e157_16 : decode cJ3_checkIndex_8e157 16 = .ok (.iload_n 0, 1) := by decide +kernel
theorem dJ3_checkIndex_8e157_17 : decode cJ3_checkIndex_8e157 17 = .ok (.ireturn, 1) := by decide +kernel
theorem dJ3_checkFromToIndex_8c36e_0 : decode cJ3_checkFromToIndex_8c36e 0 = .ok (.iload_n 0, 1) := by decide +kernel
theorem dJ3_checkFromToIndex_8c36e_1 : decode cJ3_checkFromToIndex_8c36e 1 = .ok (.ifCond .lt 13, 3) := by decide +kernel
theorem dJ3_checkFromToIndex_8c36e_4 : decode cJ3_checkFromToIndex_8c36e 4 = .ok (.iload_n 0, 1) := by decide +kernel
theorem dJ3_checkFromToIndex_8c36e_5 : decode cJ3_checkFromToIndex_8c36e 5 = .ok (.iload_n 1, 1) := by decide +kernel
theorem dJ3_checkFromToIndex_8c36e_6 : decode cJ3_checkFromToIndex_8c36e 6 = .ok (.if_icmp .gt 8, 3) := by decide +kernel
theorem dJ3_checkFromToIndex_8c36e_9 : decode cJ3_checkFromToIndex_8c36e 9 = .ok (.iload_n 1, 1) := by decide +kernel
theorem dJ3_checkFromToIndex_8c36e_10 : decode cJ3_checkFromToIndex_8c36e 10 = .ok (.iload_n 2, 1) := by decide +kernel
theorem dJ3_checkFromToIndex_8c36e_11 : decode cJ3_checkFromToIndex_8c36e 11 = .ok (.if_icmp .le 11, 3) := by decide +kernel
theorem dJ3_checkFromToIndex_8c36e_14 : decode cJ3_checkFromToIndex_8c36e 14 = .ok (.aload_n 3, 1) := by decide +kernel
theorem dJ3_checkFromToIndex_8c36e_15 : decode cJ3_checkFromToIndex_8c36e 15 = .ok (.iload_n 0, 1) := by decide +kernel
theorem dJ3_checkFromToIndex_8c36e_16 : decode cJ3_checkFromToIndex_8c36e 16 = .ok (.iload_n 1, 1) := by decide +kernel
theorem dJ3_checkFromToIndex_8c36e_17 : decode cJ3_checkFromToIndex_8c36e 17 = .ok (.iload_n 2, 1) := by decide +kernel
theorem dJ3_checkFromToIndex_8c36e_18 : decode cJ3_checkFromToIndex_8c36e 18 = .ok (.invokestatic 99, 3) := by decide +kernel
theorem dJ3_checkFromToIndex_8c36e_21 : decode cJ3_checkFromToIndex_8c36e 21 = .ok (.athrow, 1) := by decide +kernel
theorem dJ3_checkFromToIndex_8c36e_22 : decode cJ3_checkFromToIndex_8c36e 22 = .ok (.iload_n 0, 1) := by decide +kernel
theorem dJ3_checkFromToIndex_8c36e_23 : decode cJ3_checkFromToIndex_8c36e 23 = .ok (.ireturn, 1) := by decide +kernel
set_option maxRecDepth 20000 in
theorem ggL_addClaim_X12_addClaim : GoodIn wsL_addClaim wsX12_addClaim := goodIn_ca (goodIn_ca (goodIn_ca (goodIn_ca (goodIn_ca (goodIn_ca (goodIn_r _ [7, 8, 9, 10, 11, 12, 13, 14, 15, 16, 17, 18, 19, 20, 21, 22, 23, 24, 25, 26, 27, 28, 29, 30, 31, 32, 33, 34, 35, 36, 37, 38, 39, 40, 41, 42, 43, 44, 45, 46, 47, 48, 49, 50, 51, 52, 53, 54, 55, 56, 57, 58, 59, 6, 60, 61, 62, 63, 64, 65, 66, 67, 68, 69, 70, 71, 72, 73, 74, 75, 76, 77, 78, 79, 80, 81, 82, 83, 84, 85, 86, 87, 88, 89, 90, 91, 92, 93, 94, 95, 96, 97, 98, 99, 100, 101, 102, 103, 104, 105, 106, 107, 108, 109, 110, 111, 112, 113, 114, 115] (by decide +kernel) (by decide +kernel)) (goodIn_sub (fun _ h => List.mem_cons_of_mem _ (List.mem_append_left _ (List.mem_append_left _ (List.mem_append_left _ (List.mem_append_left _ (List.mem_append_left _ (List.mem_append_right _ h))))))) (by decide +kernel))) (goodIn_sub (fun _ h => List.mem_cons_of_mem _ (List.mem_append_left _ (List.mem_append_left _ (List.mem_append_left _ (List.mem_append_left _ (List.mem_append_right _ h)))))) (by decide +kernel))) (goodIn_sub (fun _ h => List.mem_cons_of_mem _ (List.mem_append_left _ (List.mem_append_left _ (List.mem_append_left _ (List.mem_append_right _ h))))) (by decide +kernel))) (goodIn_sub (fun _ h => List.mem_cons_of_mem _ (List.mem_append_left _ (List.mem_append_left _ (List.mem_append_right _ h)))) (by decide +kernel))) (goodIn_sub (fun _ h => List.mem_cons_of_mem _ (List.mem_append_left _ (List.mem_append_right _ h))) (by decide +kernel))) (goodIn_sub (fun _ h => List.mem_cons_of_mem _ (List.mem_append_right _ h)) (by decide +kernel))
set_option maxRecDepth 20000 in
theorem gL_addClaim_X12_addClaim : GoodIn wsL_addClaim (wsV RL 7 RX12 yX12_addClaim wsX12_addClaim) := goodIn_app (goodIn_of _ (by decide +kernel)) ggL_addClaim_X12_addClaim
theorem dL_addClaim_0 : decode cL_addClaim 0 = .ok (.aload_n 2, 1) := by decide +kernel
theorem dL_addClaim_1 : decode cL_addClaim 1 = .ok (.iconst 0, 1) := by decide +kernel
theorem dL_addClaim_2 : decode cL_addClaim 2 = .ok (.aload_n 0, 1) := by decide +kernel
theorem dL_addClaim_3 : decode cL_addClaim 3 = .ok (.iload_n 1, 1) := by decide +kernel
theorem dL_addClaim_4 : decode cL_addClaim 4 = .ok (.invokevirtual 7, 3) := by decide +kernel
theorem dL_addClaim_7 : decode cL_addClaim 7 = .ok (.i2l, 1) := by decide +kernel
theorem dL_addClaim_8 : decode cL_addClaim 8 = .ok (.lastore, 1) := by decide +kernel
theorem dL_addClaim_9 : decode cL_addClaim 9 = .ok (.goto 9, 3) := by decide +kernel
theorem dL_addClaim_12 : decode cL_addClaim 12 = .ok (.astore_n 3, 1) := by decide +kernel
theorem dL_addClaim_13 : decode cL_addClaim 13 = .ok (.iconst 1, 1) := by decide +kernel
theorem dL_addClaim_14 : decode cL_addClaim 14 = .ok (.ireturn, 1) := by decide +kernel
theorem dL_addClaim_15 : decode cL_addClaim 15 = .ok (.astore_n 3, 1) := by decide +kernel
theorem dL_addClaim_16 : decode cL_addClaim 16 = .ok (.iconst 2, 1) := by decide +kernel
theorem dL_addClaim_17 : decode cL_addClaim 17 = .ok (.ireturn, 1) := by decide +kernel
theorem dL_addClaim_18 : decode cL_addClaim 18 = .ok (.iconst 0, 1) := by decide +kernel
theorem dL_addClaim_19 : decode cL_addClaim 19 = .ok (.ireturn, 1) := by decide +kernel
set_option maxRecDepth 20000 in
theorem ggL_setAttack_X12_setAttack : GoodIn wsL_setAttack wsX12_setAttack := goodIn_ca (goodIn_ca (goodIn_ca (goodIn_ca (goodIn_ca (goodIn_ca (goodIn_r _ [6, 7, 8, 9, 10, 11, 12, 13, 14, 15, 16, 17, 18, 19, 20, 21, 22, 23, 24, 25, 26, 27, 28, 29, 30, 31, 32, 33, 34, 35, 36, 37, 38, 39, 40, 41, 42, 43, 44, 45, 46, 47, 48, 49, 50, 51, 52, 53, 54, 55, 56, 57, 58, 59, 60, 5, 61, 62, 63, 64, 65, 66, 67, 68, 69, 70, 71, 72, 73, 74, 75, 76, 77, 78, 79, 80, 81, 82, 83, 84, 85, 86, 87, 88, 89, 90, 91, 92, 93, 94, 95, 96, 97, 98, 99, 100, 101, 102, 103, 104, 105, 106, 107, 108, 109, 110, 111, 112, 113, 114, 115, 116, 117, 118, 119, 120, 121, 122, 123] (by decide +kernel) (by decide +kernel)) (goodIn_sub (fun _ h => List.mem_cons_of_mem _ (List.mem_append_left _ (List.mem_append_left _ (List.mem_append_left _ (List.mem_append_left _ (List.mem_append_left _ (List.mem_append_right _ h))))))) (by decide +kernel))) (goodIn_sub (fun _ h => List.mem_cons_of_mem _ (List.mem_append_left _ (List.mem_append_left _ (List.mem_append_left _ (List.mem_append_left _ (List.mem_append_right _ h)))))) (by decide +kernel))) (goodIn_sub (fun _ h => List.mem_cons_of_mem _ (List.mem_append_left _ (List.mem_append_left _ (List.mem_append_left _ (List.mem_append_right _ h))))) (by decide +kernel))) (goodIn_sub (fun _ h => List.mem_cons_of_mem _ (List.mem_append_left _ (List.mem_append_left _ (List.mem_append_right _ h)))) (by decide +kernel))) (goodIn_sub (fun _ h => List.mem_cons_of_mem _ (List.mem_append_left _ (List.mem_append_right _ h))) (by decide +kernel))) (goodIn_sub (fun _ h => List.mem_cons_of_mem _ (List.mem_append_right _ h)) (by decide +kernel))
set_option maxRecDepth 20000 in
theorem gL_setAttack_X12_setAttack : GoodIn wsL_setAttack (wsV RL 17 RX12 yX12_setAttack wsX12_setAttack) := goodIn_app (goodIn_of _ (by decide +kernel)) ggL_setAttack_X12_setAttack
theorem dL_setAttack_0 : decode cL_setAttack 0 = .ok (.aload 4, 2) := by decide +kernel
theorem dL_setAttack_2 : decode cL_setAttack 2 = .ok (.iconst 0, 1) := by decide +kernel
theorem dL_setAttack_3 : decode cL_setAttack 3 = .ok (.aload_n 0, 1) := by decide +kernel
theorem dL_setAttack_4 : decode cL_setAttack 4 = .ok (.iload_n 1, 1) := by decide +kernel
theorem dL_setAttack_5 : decode cL_setAttack 5 = .ok (.iload_n 2, 1) := by decide +kernel
theorem dL_setAttack_6 : decode cL_setAttack 6 = .ok (.iload_n 3, 1) := by decide +kernel
theorem dL_setAttack_7 : decode cL_setAttack 7 = .ok (.invokevirtual 17, 3) := by decide +kernel
theorem dL_setAttack_10 : decode cL_setAttack 10 = .ok (.ifCond .eq 7, 3) := by decide +kernel
theorem dL_setAttack_13 : decode cL_setAttack 13 = .ok (.lconst 1, 1) := by decide +kernel
theorem dL_setAttack_14 : decode cL_setAttack 14 = .ok (.goto 4, 3) := by decide +kernel
theorem dL_setAttack_17 : decode cL_setAttack 17 = .ok (.lconst 0, 1) := by decide +kernel
theorem dL_setAttack_18 : decode cL_setAttack 18 = .ok (.lastore, 1) := by decide +kernel
theorem dL_setAttack_19 : decode cL_setAttack 19 = .ok (.goto 7, 3) := by decide +kernel
theorem dL_setAttack_22 : decode cL_setAttack 22 = .ok (.astore 5, 2) := by decide +kernel
theorem dL_setAttack_24 : decode cL_setAttack 24 = .ok (.iconst 1, 1) := by decide +kernel
theorem dL_setAttack_25 : decode cL_setAttack 25 = .ok (.ireturn, 1) := by decide +kernel
theorem dL_setAttack_26 : decode cL_setAttack 26 = .ok (.iconst 0, 1) := by decide +kernel
theorem dL_setAttack_27 : decode cL_setAttack 27 = .ok (.ireturn, 1) := by decide +kernel
set_option maxRecDepth 20000 in
theorem ggL_setLayer_X12_setLayer : GoodIn wsL_setLayer wsX12_setLayer := goodIn_ca (goodIn_ca (goodIn_ca (goodIn_ca (goodIn_ca (goodIn_ca (goodIn_r _ [6, 7, 8, 9, 10, 11, 12, 13, 14, 15, 16, 17, 18, 19, 20, 21, 22, 23, 24, 25, 26, 27, 28, 29, 30, 31, 32, 33, 34, 35, 36, 37, 38, 39, 40, 41, 42, 43, 44, 45, 46, 47, 48, 49, 50, 51, 52, 53, 54, 55, 56, 57, 58, 59, 60, 5, 61, 62, 63, 64, 65, 66, 67, 68, 69, 70, 71, 72, 73, 74, 75, 76, 77, 78, 79, 80, 81, 82, 83, 84, 85, 86, 87, 88, 89, 90, 91, 92, 93, 94, 95, 96, 97, 98, 99, 100, 101, 102, 103, 104, 105, 106, 107, 108, 109, 110, 111, 112, 113, 114, 115, 116, 117, 118, 119, 120] (by decide +kernel) (by decide +kernel)) (goodIn_sub (fun _ h => List.mem_cons_of_mem _ (List.mem_append_left _ (List.mem_append_left _ (List.mem_append_left _ (List.mem_append_left _ (List.mem_append_left _ (List.mem_append_right _ h))))))) (by decide +kernel))) (goodIn_sub (fun _ h => List.mem_cons_of_mem _ (List.mem_append_left _ (List.mem_append_left _ (List.mem_append_left _ (List.mem_append_left _ (List.mem_append_right _ h)))))) (by decide +kernel))) (goodIn_sub (fun _ h => List.mem_cons_of_mem _ (List.mem_append_left _ (List.mem_append_left _ (List.mem_append_left _ (List.mem_append_right _ h))))) (by decide +kernel))) (goodIn_sub (fun _ h => List.mem_cons_of_mem _ (List.mem_append_left _ (List.mem_append_left _ (List.mem_append_right _ h)))) (by decide +kernel))) (goodIn_sub (fun _ h => List.mem_cons_of_mem _ (List.mem_append_left _ (List.mem_append_right _ h))) (by decide +kernel))) (goodIn_sub (fun _ h => List.mem_cons_of_mem _ (List.mem_append_right _ h)) (by decide +kernel))
set_option maxRecDepth 20000 in
theorem gL_setLayer_X12_setLayer : GoodIn wsL_setLayer (wsV RL 23 RX12 yX12_setLayer wsX12_setLayer) := goodIn_app (goodIn_of _ (by decide +kernel)) ggL_setLayer_X12_setLayer
theorem dL_setLayer_0 : decode cL_setLayer 0 = .ok (.aload_n 3, 1) := by decide +kernel
theorem dL_setLayer_1 : decode cL_setLayer 1 = .ok (.iconst 0, 1) := by decide +kernel
theorem dL_setLayer_2 : decode cL_setLayer 2 = .ok (.aload_n 0, 1) := by decide +kernel
theorem dL_setLayer_3 : decode cL_setLayer 3 = .ok (.iload_n 1, 1) := by decide +kernel
theorem dL_setLayer_4 : decode cL_setLayer 4 = .ok (.iload_n 2, 1) := by decide +kernel
theorem dL_setLayer_5 : decode cL_setLayer 5 = .ok (.invokevirtual 23, 3) := by decide +kernel
theorem dL_setLayer_8 : decode cL_setLayer 8 = .ok (.i2l, 1) := by decide +kernel
theorem dL_setLayer_9 : decode cL_setLayer 9 = .ok (.lastore, 1) := by decide +kernel
theorem dL_setLayer_10 : decode cL_setLayer 10 = .ok (.goto 7, 3) := by decide +kernel
theorem dL_setLayer_13 : decode cL_setLayer 13 = .ok (.astore 4, 2) := by decide +kernel
theorem dL_setLayer_15 : decode cL_setLayer 15 = .ok (.iconst 1, 1) := by decide +kernel
theorem dL_setLayer_16 : decode cL_setLayer 16 = .ok (.ireturn, 1) := by decide +kernel
theorem dL_setLayer_17 : decode cL_setLayer 17 = .ok (.iconst 0, 1) := by decide +kernel
theorem dL_setLayer_18 : decode cL_setLayer 18 = .ok (.ireturn, 1) := by decide +kernel
set_option maxRecDepth 20000 in
theorem ggL_weightOf_X12_weightOf : GoodIn wsL_weightOf wsX12_weightOf := goodIn_ca (goodIn_ca (goodIn_r _ [6, 7, 8, 9, 10, 11, 12, 5, 13, 14, 15, 16, 17, 18, 19, 20, 21, 22, 23, 24, 25, 26, 27, 28, 29, 30, 31, 32, 33, 34, 35, 36, 37, 38, 39, 40, 41, 42, 43, 44, 45, 46, 47, 48, 49, 50] (by decide +kernel) (by decide +kernel)) (goodIn_sub (fun _ h => List.mem_cons_of_mem _ (List.mem_append_left _ (List.mem_append_right _ h))) (by decide +kernel))) (goodIn_sub (fun _ h => List.mem_cons_of_mem _ (List.mem_append_right _ h)) (by decide +kernel))
set_option maxRecDepth 20000 in
theorem gL_weightOf_X12_weightOf : GoodIn wsL_weightOf (wsV RL 27 RX12 yX12_weightOf wsX12_weightOf) := goodIn_app (goodIn_of _ (by decide +kernel)) ggL_weightOf_X12_weightOf
theorem dL_weightOf_0 : decode cL_weightOf 0 = .ok (.aload_n 2, 1) := by decide +kernel
theorem dL_weightOf_1 : decode cL_weightOf 1 = .ok (.iconst 0, 1) := by decide +kernel
theorem dL_weightOf_2 : decode cL_weightOf 2 = .ok (.aload_n 0, 1) := by decide +kernel
theorem dL_weightOf_3 : decode cL_weightOf 3 = .ok (.iload_n 1, 1) := by decide +kernel
theorem dL_weightOf_4 : decode cL_weightOf 4 = .ok (.invokevirtual 27, 3) := by decide +kernel
theorem dL_weightOf_7 : decode cL_weightOf 7 = .ok (.i2l, 1) := by decide +kernel
theorem dL_weightOf_8 : decode cL_weightOf 8 = .ok (.lastore, 1) := by decide +kernel
theorem dL_weightOf_9 : decode cL_weightOf 9 = .ok (.goto 6, 3) := by decide +kernel
theorem dL_weightOf_12 : decode cL_weightOf 12 = .ok (.astore_n 3, 1) := by decide +kernel
theorem dL_weightOf_13 : decode cL_weightOf 13 = .ok (.iconst 1, 1) := by decide +kernel
theorem dL_weightOf_14 : decode cL_weightOf 14 = .ok (.ireturn, 1) := by decide +kernel
theorem dL_weightOf_15 : decode cL_weightOf 15 = .ok (.iconst 0, 1) := by decide +kernel
theorem dL_weightOf_16 : decode cL_weightOf 16 = .ok (.ireturn, 1) := by decide +kernel
set_option maxRecDepth 20000 in
theorem ggL_layerOf_X12_layerOf : GoodIn wsL_layerOf wsX12_layerOf := goodIn_ca (goodIn_ca (goodIn_r _ [6, 7, 8, 9, 10, 11, 12, 5, 13, 14, 15, 16, 17, 18, 19, 20, 21, 22, 23, 24, 25, 26, 27, 28, 29, 30, 31, 32, 33, 34, 35, 36, 37, 38, 39, 40, 41, 42, 43, 44, 45, 46, 47, 48, 49, 50] (by decide +kernel) (by decide +kernel)) (goodIn_sub (fun _ h => List.mem_cons_of_mem _ (List.mem_append_left _ (List.mem_append_right _ h))) (by decide +kernel))) (goodIn_sub (fun _ h => List.mem_cons_of_mem _ (List.mem_append_right _ h)) (by decide +kernel))
set_option maxRecDepth 20000 in
theorem gL_layerOf_X12_layerOf : GoodIn wsL_layerOf (wsV RL 30 RX12 yX12_layerOf wsX12_layerOf) := goodIn_app (goodIn_of _ (by decide +kernel)) ggL_layerOf_X12_layerOf
theorem dL_layerOf_0 : decode cL_layerOf 0 = .ok (.aload_n 2, 1) := by decide +kernel
theorem dL_layerOf_1 : decode cL_layerOf 1 = .ok (.iconst 0, 1) := by decide +kernel
theorem dL_layerOf_2 : decode cL_layerOf 2 = .ok (.aload_n 0, 1) := by decide +kernel
theorem dL_layerOf_3 : decode cL_layerOf 3 = .ok (.iload_n 1, 1) := by decide +kernel
theorem dL_layerOf_4 : decode cL_layerOf 4 = .ok (.invokevirtual 30, 3) := by decide +kernel
theorem dL_layerOf_7 : decode cL_layerOf 7 = .ok (.i2l, 1) := by decide +kernel
theorem dL_layerOf_8 : decode cL_layerOf 8 = .ok (.lastore, 1) := by decide +kernel
theorem dL_layerOf_9 : decode cL_layerOf 9 = .ok (.goto 6, 3) := by decide +kernel
theorem dL_layerOf_12 : decode cL_layerOf 12 = .ok (.astore_n 3, 1) := by decide +kernel
theorem dL_layerOf_13 : decode cL_layerOf 13 = .ok (.iconst 1, 1) := by decide +kernel
theorem dL_layerOf_14 : decode cL_layerOf 14 = .ok (.ireturn, 1) := by decide +kernel
theorem dL_layerOf_15 : decode cL_layerOf 15 = .ok (.iconst 0, 1) := by decide +kernel
theorem dL_layerOf_16 : decode cL_layerOf 16 = .ok (.ireturn, 1) := by decide +kernel
set_option maxRecDepth 20000 in
theorem ggL_attacks_X12_attacks : GoodIn wsL_attacks wsX12_attacks := goodIn_ca (goodIn_ca (goodIn_r _ [6, 7, 8, 9, 10, 11, 12, 5, 13, 14, 15, 16, 17, 18, 19, 20, 21, 22, 23, 24, 25, 26, 27, 28, 29, 30, 31, 32, 33, 34, 35, 36, 37, 38, 39, 40, 41, 42, 43, 44, 45, 46, 47, 48, 49, 50, 51, 52, 53, 54, 55, 56] (by decide +kernel) (by decide +kernel)) (goodIn_sub (fun _ h => List.mem_cons_of_mem _ (List.mem_append_left _ (List.mem_append_right _ h))) (by decide +kernel))) (goodIn_sub (fun _ h => List.mem_cons_of_mem _ (List.mem_append_right _ h)) (by decide +kernel))
set_option maxRecDepth 20000 in
theorem gL_attacks_X12_attacks : GoodIn wsL_attacks (wsV RL 33 RX12 yX12_attacks wsX12_attacks) := goodIn_app (goodIn_of _ (by decide +kernel)) ggL_attacks_X12_attacks
theorem dL_attacks_0 : decode cL_attacks 0 = .ok (.aload_n 3, 1) := by decide +kernel
theorem dL_attacks_1 : decode cL_attacks 1 = .ok (.iconst 0, 1) := by decide +kernel
theorem dL_attacks_2 : decode cL_attacks 2 = .ok (.aload_n 0, 1) := by decide +kernel
theorem dL_attacks_3 : decode cL_attacks 3 = .ok (.iload_n 1, 1) := by decide +kernel
theorem dL_attacks_4 : decode cL_attacks 4 = .ok (.iload_n 2, 1) := by decide +kernel
theorem dL_attacks_5 : decode cL_attacks 5 = .ok (.invokevirtual 33, 3) := by decide +kernel
theorem dL_attacks_8 : decode cL_attacks 8 = .ok (.ifCond .eq 7, 3) := by decide +kernel
theorem dL_attacks_11 : decode cL_attacks 11 = .ok (.lconst 1, 1) := by decide +kernel
theorem dL_attacks_12 : decode cL_attacks 12 = .ok (.goto 4, 3) := by decide +kernel
theorem dL_attacks_15 : decode cL_attacks 15 = .ok (.lconst 0, 1) := by decide +kernel
theorem dL_attacks_16 : decode cL_attacks 16 = .ok (.lastore, 1) := by decide +kernel
theorem dL_attacks_17 : decode cL_attacks 17 = .ok (.goto 7, 3) := by decide +kernel
theorem dL_attacks_20 : decode cL_attacks 20 = .ok (.astore 4, 2) := by decide +kernel
theorem dL_attacks_22 : decode cL_attacks 22 = .ok (.iconst 1, 1) := by decide +kernel
theorem dL_attacks_23 : decode cL_attacks 23 = .ok (.ireturn, 1) := by decide +kernel
theorem dL_attacks_24 : decode cL_attacks 24 = .ok (.iconst 0, 1) := by decide +kernel
theorem dL_attacks_25 : decode cL_attacks 25 = .ok (.ireturn, 1) := by decide +kernel
set_option maxRecDepth 20000 in
theorem ggL_isRejected_X12_isRejected : GoodIn wsL_isRejected wsX12_isRejected := goodIn_ca (goodIn_ca (goodIn_r _ [6, 7, 8, 9, 5, 10, 11, 12, 13, 14, 15, 16, 17, 18, 19, 20, 21, 22, 23, 24, 25, 26, 27, 28, 29, 30, 31, 32, 33, 34, 35, 36, 37, 38, 39, 40, 41, 42, 43, 44, 45, 46, 47, 48, 49, 50, 51, 52, 53, 54, 55, 56, 57, 58, 59, 60, 61, 62, 63, 64, 65, 66, 67, 68, 69, 70, 71, 72, 73, 74, 75, 76, 77, 78] (by decide +kernel) (by decide +kernel)) (goodIn_sub (fun _ h => List.mem_cons_of_mem _ (List.mem_append_right _ h)) (by decide +kernel))) (goodIn_sub (fun _ h => List.mem_cons_of_mem _ (List.mem_append_left _ (List.mem_append_right _ h))) (by decide +kernel))
set_option maxRecDepth 20000 in
theorem gL_isRejected_X12_isRejected : GoodIn wsL_isRejected (wsV RL 37 RX12 yX12_isRejected wsX12_isRejected) := goodIn_app (goodIn_of _ (by decide +kernel)) ggL_isRejected_X12_isRejected
theorem dL_isRejected_0 : decode cL_isRejected 0 = .ok (.aload_n 2, 1) := by decide +kernel
theorem dL_isRejected_1 : decode cL_isRejected 1 = .ok (.iconst 0, 1) := by decide +kernel
theorem dL_isRejected_2 : decode cL_isRejected 2 = .ok (.aload_n 0, 1) := by decide +kernel
theorem dL_isRejected_3 : decode cL_isRejected 3 = .ok (.iload_n 1, 1) := by decide +kernel
theorem dL_isRejected_4 : decode cL_isRejected 4 = .ok (.invokevirtual 37, 3) := by decide +kernel
theorem dL_isRejected_7 : decode cL_isRejected 7 = .ok (.ifCond .eq 7, 3) := by decide +kernel
theorem dL_isRejected_10 : decode cL_isRejected 10 = .ok (.lconst 1, 1) := by decide +kernel
theorem dL_isRejected_11 : decode cL_isRejected 11 = .ok (.goto 4, 3) := by decide +kernel
theorem dL_isRejected_14 : decode cL_isRejected 14 = .ok (.lconst 0, 1) := by decide +kernel
theorem dL_isRejected_15 : decode cL_isRejected 15 = .ok (.lastore, 1) := by decide +kernel
theorem dL_isRejected_16 : decode cL_isRejected 16 = .ok (.goto 6, 3) := by decide +kernel
theorem dL_isRejected_19 : decode cL_isRejected 19 = .ok (.astore_n 3, 1) := by decide +kernel
theorem dL_isRejected_20 : decode cL_isRejected 20 = .ok (.iconst 1, 1) := by decide +kernel
theorem dL_isRejected_21 : decode cL_isRejected 21 = .ok (.ireturn, 1) := by decide +kernel
theorem dL_isRejected_22 : decode cL_isRejected 22 = .ok (.iconst 0, 1) := by decide +kernel
theorem dL_isRejected_23 : decode cL_isRejected 23 = .ok (.ireturn, 1) := by decide +kernel
set_option maxRecDepth 20000 in
theorem ggL_isPosition_X12_isPosition : GoodIn wsL_isPosition wsX12_isPosition := goodIn_ca (goodIn_ca (goodIn_r _ [6, 7, 8, 9, 10, 11, 12, 13, 14, 15, 16, 17, 5, 18, 19, 20, 21, 22, 23, 24, 25, 26, 27, 28, 29, 30, 31, 32, 33, 34, 35, 36, 37, 38, 39, 40, 41, 42, 43, 44, 45, 46, 47, 48, 49, 50, 51, 52, 53, 54, 55, 56, 57, 58, 59, 60, 61, 62, 63, 64] (by decide +kernel) (by decide +kernel)) (goodIn_sub (fun _ h => List.mem_cons_of_mem _ (List.mem_append_right _ h)) (by decide +kernel))) (goodIn_sub (fun _ h => List.mem_cons_of_mem _ (List.mem_append_left _ (List.mem_append_right _ h))) (by decide +kernel))
set_option maxRecDepth 20000 in
theorem gL_isPosition_X12_isPosition : GoodIn wsL_isPosition (wsV RL 41 RX12 yX12_isPosition wsX12_isPosition) := goodIn_app (goodIn_of _ (by decide +kernel)) ggL_isPosition_X12_isPosition
theorem dL_isPosition_0 : decode cL_isPosition 0 = .ok (.aload_n 2, 1) := by decide +kernel
theorem dL_isPosition_1 : decode cL_isPosition 1 = .ok (.iconst 0, 1) := by decide +kernel
theorem dL_isPosition_2 : decode cL_isPosition 2 = .ok (.aload_n 0, 1) := by decide +kernel
theorem dL_isPosition_3 : decode cL_isPosition 3 = .ok (.iload_n 1, 1) := by decide +kernel
theorem dL_isPosition_4 : decode cL_isPosition 4 = .ok (.invokevirtual 41, 3) := by decide +kernel
theorem dL_isPosition_7 : decode cL_isPosition 7 = .ok (.ifCond .eq 7, 3) := by decide +kernel
theorem dL_isPosition_10 : decode cL_isPosition 10 = .ok (.lconst 1, 1) := by decide +kernel
theorem dL_isPosition_11 : decode cL_isPosition 11 = .ok (.goto 4, 3) := by decide +kernel
theorem dL_isPosition_14 : decode cL_isPosition 14 = .ok (.lconst 0, 1) := by decide +kernel
theorem dL_isPosition_15 : decode cL_isPosition 15 = .ok (.lastore, 1) := by decide +kernel
theorem dL_isPosition_16 : decode cL_isPosition 16 = .ok (.goto 6, 3) := by decide +kernel
theorem dL_isPosition_19 : decode cL_isPosition 19 = .ok (.astore_n 3, 1) := by decide +kernel
theorem dL_isPosition_20 : decode cL_isPosition 20 = .ok (.iconst 1, 1) := by decide +kernel
theorem dL_isPosition_21 : decode cL_isPosition 21 = .ok (.ireturn, 1) := by decide +kernel
theorem dL_isPosition_22 : decode cL_isPosition 22 = .ok (.iconst 0, 1) := by decide +kernel
theorem dL_isPosition_23 : decode cL_isPosition 23 = .ok (.ireturn, 1) := by decide +kernel
set_option maxRecDepth 20000 in
theorem ggL_circleSize_X12_circleSize : GoodIn wsL_circleSize wsX12_circleSize := goodIn_ca (goodIn_ca (goodIn_r _ [6, 7, 8, 9, 10, 11, 5, 12, 13, 14, 15, 16, 17, 18, 19, 20, 21, 22, 23, 24, 25, 26, 27, 28, 29, 30, 31, 32, 33, 34, 35, 36, 37, 38, 39, 40, 41, 42, 43, 44, 45, 46, 47, 48, 49, 50, 51, 52, 53, 54, 55, 56, 57, 58, 59, 60, 61, 62, 63, 64, 65, 66, 67, 68, 69, 70, 71, 72, 73, 74, 75, 76, 77, 78, 79] (by decide +kernel) (by decide +kernel)) (goodIn_sub (fun _ h => List.mem_cons_of_mem _ (List.mem_append_right _ h)) (by decide +kernel))) (goodIn_sub (fun _ h => List.mem_cons_of_mem _ (List.mem_append_left _ (List.mem_append_right _ h))) (by decide +kernel))
set_option maxRecDepth 20000 in
theorem gL_circleSize_X12_circleSize : GoodIn wsL_circleSize (wsV RL 44 RX12 yX12_circleSize wsX12_circleSize) := goodIn_app (goodIn_of _ (by decide +kernel)) ggL_circleSize_X12_circleSize
theorem dL_circleSize_0 : decode cL_circleSize 0 = .ok (.aload_n 2, 1) := by decide +kernel
theorem dL_circleSize_1 : decode cL_circleSize 1 = .ok (.iconst 0, 1) := by decide +kernel
theorem dL_circleSize_2 : decode cL_circleSize 2 = .ok (.aload_n 0, 1) := by decide +kernel
theorem dL_circleSize_3 : decode cL_circleSize 3 = .ok (.iload_n 1, 1) := by decide +kernel
theorem dL_circleSize_4 : decode cL_circleSize 4 = .ok (.invokevirtual 44, 3) := by decide +kernel
theorem dL_circleSize_7 : decode cL_circleSize 7 = .ok (.i2l, 1) := by decide +kernel
theorem dL_circleSize_8 : decode cL_circleSize 8 = .ok (.lastore, 1) := by decide +kernel
theorem dL_circleSize_9 : decode cL_circleSize 9 = .ok (.goto 6, 3) := by decide +kernel
theorem dL_circleSize_12 : decode cL_circleSize 12 = .ok (.astore_n 3, 1) := by decide +kernel
theorem dL_circleSize_13 : decode cL_circleSize 13 = .ok (.iconst 1, 1) := by decide +kernel
theorem dL_circleSize_14 : decode cL_circleSize 14 = .ok (.ireturn, 1) := by decide +kernel
theorem dL_circleSize_15 : decode cL_circleSize 15 = .ok (.iconst 0, 1) := by decide +kernel
theorem dL_circleSize_16 : decode cL_circleSize 16 = .ok (.ireturn, 1) := by decide +kernel
set_option maxRecDepth 20000 in
theorem ggL_chains_X12_chains : GoodIn wsL_chains wsX12_chains := goodIn_ca (goodIn_ca (goodIn_ca (goodIn_r _ [7, 8, 9, 10, 11, 12, 13, 6, 14, 15, 16, 17, 18, 19, 20, 21, 22, 23, 24, 25, 26, 27, 28, 29, 30, 31, 32, 33, 34, 35, 36, 37, 38, 39, 40, 41, 42, 43, 44, 45, 46, 47, 48, 49, 50, 51, 52, 53, 54, 55, 56, 57, 58, 59, 60, 61, 62, 63, 64, 65, 66, 67, 68, 69, 70, 71, 72, 73, 74, 75, 76, 77, 78, 79, 80, 81, 82, 83, 84, 85, 86, 87, 88, 89, 90, 91, 92, 93, 94, 95, 96, 97, 98, 99, 100, 101, 102] (by decide +kernel) (by decide +kernel)) (goodIn_sub (fun _ h => List.mem_cons_of_mem _ (List.mem_append_left _ (List.mem_append_right _ h))) (by decide +kernel))) (goodIn_sub (fun _ h => List.mem_cons_of_mem _ (List.mem_append_right _ h)) (by decide +kernel))) (goodIn_sub (fun _ h => List.mem_cons_of_mem _ (List.mem_append_left _ (List.mem_append_left _ (List.mem_append_right _ h)))) (by decide +kernel))
set_option maxRecDepth 20000 in
theorem gL_chains_X12_chains : GoodIn wsL_chains (wsV RL 47 RX12 yX12_chains wsX12_chains) := goodIn_app (goodIn_of _ (by decide +kernel)) ggL_chains_X12_chains
theorem dL_chains_0 : decode cL_chains 0 = .ok (.aload 4, 2) := by decide +kernel
theorem dL_chains_2 : decode cL_chains 2 = .ok (.iconst 0, 1) := by decide +kernel
theorem dL_chains_3 : decode cL_chains 3 = .ok (.aload_n 0, 1) := by decide +kernel
theorem dL_chains_4 : decode cL_chains 4 = .ok (.iload_n 1, 1) := by decide +kernel
theorem dL_chains_5 : decode cL_chains 5 = .ok (.iload_n 2, 1) := by decide +kernel
theorem dL_chains_6 : decode cL_chains 6 = .ok (.iload_n 3, 1) := by decide +kernel
theorem dL_chains_7 : decode cL_chains 7 = .ok (.invokevirtual 47, 3) := by decide +kernel
theorem dL_chains_10 : decode cL_chains 10 = .ok (.i2l, 1) := by decide +kernel
theorem dL_chains_11 : decode cL_chains 11 = .ok (.lastore, 1) := by decide +kernel
theorem dL_chains_12 : decode cL_chains 12 = .ok (.goto 11, 3) := by decide +kernel
theorem dL_chains_15 : decode cL_chains 15 = .ok (.astore 5, 2) := by decide +kernel
theorem dL_chains_17 : decode cL_chains 17 = .ok (.iconst 1, 1) := by decide +kernel
theorem dL_chains_18 : decode cL_chains 18 = .ok (.ireturn, 1) := by decide +kernel
theorem dL_chains_19 : decode cL_chains 19 = .ok (.astore 5, 2) := by decide +kernel
theorem dL_chains_21 : decode cL_chains 21 = .ok (.iconst 2, 1) := by decide +kernel
theorem dL_chains_22 : decode cL_chains 22 = .ok (.ireturn, 1) := by decide +kernel
theorem dL_chains_23 : decode cL_chains 23 = .ok (.iconst 0, 1) := by decide +kernel
theorem dL_chains_24 : decode cL_chains 24 = .ok (.ireturn, 1) := by decide +kernel
set_option maxRecDepth 20000 in
theorem ggL_chainsBySteps_X12_chainsBySteps : GoodIn wsL_chainsBySteps wsX12_chainsBySteps := goodIn_ca (goodIn_ca (goodIn_ca (goodIn_r _ [7, 8, 9, 10, 11, 12, 13, 6, 14, 15, 16, 17, 18, 19, 20, 21, 22, 23, 24, 25, 26, 27, 28, 29, 30, 31, 32, 33, 34, 35, 36, 37, 38, 39, 40, 41, 42, 43, 44, 45, 46, 47, 48, 49, 50, 51, 52, 53, 54, 55, 56, 57, 58, 59, 60, 61, 62, 63, 64, 65, 66, 67, 68, 69, 70, 71, 72, 73, 74, 75, 76, 77, 78, 79, 80, 81, 82, 83, 84, 85, 86, 87, 88] (by decide +kernel) (by decide +kernel)) (goodIn_sub (fun _ h => List.mem_cons_of_mem _ (List.mem_append_left _ (List.mem_append_right _ h))) (by decide +kernel))) (goodIn_sub (fun _ h => List.mem_cons_of_mem _ (List.mem_append_right _ h)) (by decide +kernel))) (goodIn_sub (fun _ h => List.mem_cons_of_mem _ (List.mem_append_left _ (List.mem_append_left _ (List.mem_append_right _ h)))) (by decide +kernel))
set_option maxRecDepth 20000 in
theorem gL_chainsBySteps_X12_chainsBySteps : GoodIn wsL_chainsBySteps (wsV RL 51 RX12 yX12_chainsBySteps wsX12_chainsBySteps) := goodIn_app (goodIn_of _ (by decide +kernel)) ggL_chainsBySteps_X12_chainsBySteps
theorem dL_chainsBySteps_0 : decode cL_chainsBySteps 0 = .ok (.aload 4, 2) := by decide +kernel
theorem dL_chainsBySteps_2 : decode cL_chainsBySteps 2 = .ok (.iconst 0, 1) := by decide +kernel
theorem dL_chainsBySteps_3 : decode cL_chainsBySteps 3 = .ok (.aload_n 0, 1) := by decide +kernel
theorem dL_chainsBySteps_4 : decode cL_chainsBySteps 4 = .ok (.iload_n 1, 1) := by decide +kernel
theorem dL_chainsBySteps_5 : decode cL_chainsBySteps 5 = .ok (.iload_n 2, 1) := by decide +kernel
theorem dL_chainsBySteps_6 : decode cL_chainsBySteps 6 = .ok (.iload_n 3, 1) := by decide +kernel
theorem dL_chainsBySteps_7 : decode cL_chainsBySteps 7 = .ok (.invokevirtual 51, 3) := by decide +kernel
theorem dL_chainsBySteps_10 : decode cL_chainsBySteps 10 = .ok (.i2l, 1) := by decide +kernel
theorem dL_chainsBySteps_11 : decode cL_chainsBySteps 11 = .ok (.lastore, 1) := by decide +kernel
theorem dL_chainsBySteps_12 : decode cL_chainsBySteps 12 = .ok (.goto 11, 3) := by decide +kernel
theorem dL_chainsBySteps_15 : decode cL_chainsBySteps 15 = .ok (.astore 5, 2) := by decide +kernel
theorem dL_chainsBySteps_17 : decode cL_chainsBySteps 17 = .ok (.iconst 1, 1) := by decide +kernel
theorem dL_chainsBySteps_18 : decode cL_chainsBySteps 18 = .ok (.ireturn, 1) := by decide +kernel
theorem dL_chainsBySteps_19 : decode cL_chainsBySteps 19 = .ok (.astore 5, 2) := by decide +kernel
theorem dL_chainsBySteps_21 : decode cL_chainsBySteps 21 = .ok (.iconst 2, 1) := by decide +kernel
theorem dL_chainsBySteps_22 : decode cL_chainsBySteps 22 = .ok (.ireturn, 1) := by decide +kernel
theorem dL_chainsBySteps_23 : decode cL_chainsBySteps 23 = .ok (.iconst 0, 1) := by decide +kernel
theorem dL_chainsBySteps_24 : decode cL_chainsBySteps 24 = .ok (.ireturn, 1) := by decide +kernel
set_option maxRecDepth 20000 in
theorem ggL_setRack_X12_setRack : GoodIn wsL_setRack wsX12_setRack := goodIn_ca (goodIn_ca (goodIn_ca (goodIn_ca (goodIn_ca (goodIn_ca (goodIn_r _ [8, 9, 10, 11, 12, 13, 14, 15, 16, 17, 18, 19, 20, 21, 22, 23, 24, 25, 26, 27, 28, 29, 30, 31, 32, 33, 34, 35, 36, 37, 38, 39, 40, 41, 42, 43, 44, 45, 46, 47, 48, 49, 50, 51, 52, 53, 54, 55, 56, 57, 58, 7, 59, 60, 61, 62, 63, 64, 65, 66, 67, 68, 69, 70, 71, 72, 73, 74, 75, 76, 77, 78, 79, 80, 81, 82, 83, 84, 85, 86, 87, 88, 89, 90, 91, 92, 93, 94, 95, 96, 97, 98, 99, 100, 101, 102, 103, 104, 105, 106, 107, 108, 109, 110, 111, 112, 113, 114, 115, 116, 117, 118, 119, 120, 121, 122, 123, 124, 125] (by decide +kernel) (by decide +kernel)) (goodIn_sub (fun _ h => List.mem_cons_of_mem _ (List.mem_append_left _ (List.mem_append_left _ (List.mem_append_left _ (List.mem_append_left _ (List.mem_append_left _ (List.mem_append_right _ h))))))) (by decide +kernel))) (goodIn_sub (fun _ h => List.mem_cons_of_mem _ (List.mem_append_left _ (List.mem_append_left _ (List.mem_append_left _ (List.mem_append_left _ (List.mem_append_right _ h)))))) (by decide +kernel))) (goodIn_sub (fun _ h => List.mem_cons_of_mem _ (List.mem_append_left _ (List.mem_append_left _ (List.mem_append_left _ (List.mem_append_right _ h))))) (by decide +kernel))) (goodIn_sub (fun _ h => List.mem_cons_of_mem _ (List.mem_append_left _ (List.mem_append_left _ (List.mem_append_right _ h)))) (by decide +kernel))) (goodIn_sub (fun _ h => List.mem_cons_of_mem _ (List.mem_append_left _ (List.mem_append_right _ h))) (by decide +kernel))) (goodIn_sub (fun _ h => List.mem_cons_of_mem _ (List.mem_append_right _ h)) (by decide +kernel))
set_option maxRecDepth 20000 in
theorem gL_setRack_X12_setRack : GoodIn wsL_setRack (wsV RL 54 RX12 yX12_setRack wsX12_setRack) := goodIn_app (goodIn_of _ (by decide +kernel)) ggL_setRack_X12_setRack
theorem dL_setRack_0 : decode cL_setRack 0 = .ok (.aload_n 3, 1) := by decide +kernel
theorem dL_setRack_1 : decode cL_setRack 1 = .ok (.iconst 0, 1) := by decide +kernel
theorem dL_setRack_2 : decode cL_setRack 2 = .ok (.aload_n 0, 1) := by decide +kernel
theorem dL_setRack_3 : decode cL_setRack 3 = .ok (.iload_n 1, 1) := by decide +kernel
theorem dL_setRack_4 : decode cL_setRack 4 = .ok (.iload_n 2, 1) := by decide +kernel
theorem dL_setRack_5 : decode cL_setRack 5 = .ok (.invokevirtual 54, 3) := by decide +kernel
theorem dL_setRack_8 : decode cL_setRack 8 = .ok (.i2l, 1) := by decide +kernel
theorem dL_setRack_9 : decode cL_setRack 9 = .ok (.lastore, 1) := by decide +kernel
theorem dL_setRack_10 : decode cL_setRack 10 = .ok (.goto 15, 3) := by decide +kernel
theorem dL_setRack_13 : decode cL_setRack 13 = .ok (.astore 4, 2) := by decide +kernel
theorem dL_setRack_15 : decode cL_setRack 15 = .ok (.iconst 1, 1) := by decide +kernel
theorem dL_setRack_16 : decode cL_setRack 16 = .ok (.ireturn, 1) := by decide +kernel
theorem dL_setRack_17 : decode cL_setRack 17 = .ok (.astore 4, 2) := by decide +kernel
theorem dL_setRack_19 : decode cL_setRack 19 = .ok (.iconst 2, 1) := by decide +kernel
theorem dL_setRack_20 : decode cL_setRack 20 = .ok (.ireturn, 1) := by decide +kernel
theorem dL_setRack_21 : decode cL_setRack 21 = .ok (.astore 4, 2) := by decide +kernel
theorem dL_setRack_23 : decode cL_setRack 23 = .ok (.iconst 3, 1) := by decide +kernel
theorem dL_setRack_24 : decode cL_setRack 24 = .ok (.ireturn, 1) := by decide +kernel
theorem dL_setRack_25 : decode cL_setRack 25 = .ok (.iconst 0, 1) := by decide +kernel
theorem dL_setRack_26 : decode cL_setRack 26 = .ok (.ireturn, 1) := by decide +kernel
set_option maxRecDepth 20000 in
theorem ggL_insert_X12_insert : GoodIn wsL_insert wsX12_insert := goodIn_ca (goodIn_ca (goodIn_ca (goodIn_ca (goodIn_ca (goodIn_ca (goodIn_r _ [9, 10, 11, 12, 13, 14, 15, 16, 17, 18, 19, 20, 21, 22, 23, 24, 25, 26, 27, 28, 29, 30, 31, 32, 33, 34, 35, 36, 37, 38, 39, 40, 41, 42, 43, 44, 45, 46, 47, 48, 49, 50, 51, 52, 53, 54, 55, 56, 57, 58, 59, 60, 61, 62, 8, 63, 64, 65, 66, 67, 68, 69, 70, 71, 72, 73, 74, 75, 76, 77, 78, 79, 80, 81, 82, 83, 84, 85, 86, 87, 88, 89, 90, 91, 92, 93, 94, 95, 96, 97, 98, 99, 100, 101, 102, 103, 104, 105, 106, 107, 108, 109, 110, 111, 112, 113, 114, 115, 116, 117, 118, 119, 120, 121, 122, 123, 124, 125, 126, 127, 128, 129, 130, 131, 132, 133, 134, 135, 136, 137, 138, 139, 140] (by decide +kernel) (by decide +kernel)) (goodIn_sub (fun _ h => List.mem_cons_of_mem _ (List.mem_append_left _ (List.mem_append_left _ (List.mem_append_left _ (List.mem_append_left _ (List.mem_append_left _ (List.mem_append_right _ h))))))) (by decide +kernel))) (goodIn_sub (fun _ h => List.mem_cons_of_mem _ (List.mem_append_left _ (List.mem_append_left _ (List.mem_append_left _ (List.mem_append_left _ (List.mem_append_right _ h)))))) (by decide +kernel))) (goodIn_sub (fun _ h => List.mem_cons_of_mem _ (List.mem_append_left _ (List.mem_append_left _ (List.mem_append_left _ (List.mem_append_right _ h))))) (by decide +kernel))) (goodIn_sub (fun _ h => List.mem_cons_of_mem _ (List.mem_append_left _ (List.mem_append_left _ (List.mem_append_right _ h)))) (by decide +kernel))) (goodIn_sub (fun _ h => List.mem_cons_of_mem _ (List.mem_append_left _ (List.mem_append_right _ h))) (by decide +kernel))) (goodIn_sub (fun _ h => List.mem_cons_of_mem _ (List.mem_append_right _ h)) (by decide +kernel))
set_option maxRecDepth 20000 in
theorem gL_insert_X12_insert : GoodIn wsL_insert (wsV RL 58 RX12 yX12_insert wsX12_insert) := goodIn_app (goodIn_of _ (by decide +kernel)) ggL_insert_X12_insert
theorem dL_insert_0 : decode cL_insert 0 = .ok (.aload 4, 2) := by decide +kernel
theorem dL_insert_2 : decode cL_insert 2 = .ok (.iconst 0, 1) := by decide +kernel
theorem dL_insert_3 : decode cL_insert 3 = .ok (.aload_n 0, 1) := by decide +kernel
theorem dL_insert_4 : decode cL_insert 4 = .ok (.iload_n 1, 1) := by decide +kernel
theorem dL_insert_5 : decode cL_insert 5 = .ok (.iload_n 2, 1) := by decide +kernel
theorem dL_insert_6 : decode cL_insert 6 = .ok (.iload_n 3, 1) := by decide +kernel
theorem dL_insert_7 : decode cL_insert 7 = .ok (.invokevirtual 58, 3) := by decide +kernel
theorem dL_insert_10 : decode cL_insert 10 = .ok (.i2l, 1) := by decide +kernel
theorem dL_insert_11 : decode cL_insert 11 = .ok (.lastore, 1) := by decide +kernel
theorem dL_insert_12 : decode cL_insert 12 = .ok (.goto 19, 3) := by decide +kernel
theorem dL_insert_15 : decode cL_insert 15 = .ok (.astore 5, 2) := by decide +kernel
theorem dL_insert_17 : decode cL_insert 17 = .ok (.iconst 1, 1) := by decide +kernel
theorem dL_insert_18 : decode cL_insert 18 = .ok (.ireturn, 1) := by decide +kernel
theorem dL_insert_19 : decode cL_insert 19 = .ok (.astore 5, 2) := by decide +kernel
theorem dL_insert_21 : decode cL_insert 21 = .ok (.iconst 2, 1) := by decide +kernel
theorem dL_insert_22 : decode cL_insert 22 = .ok (.ireturn, 1) := by decide +kernel
theorem dL_insert_23 : decode cL_insert 23 = .ok (.astore 5, 2) := by decide +kernel
theorem dL_insert_25 : decode cL_insert 25 = .ok (.iconst 3, 1) := by decide +kernel
theorem dL_insert_26 : decode cL_insert 26 = .ok (.ireturn, 1) := by decide +kernel
theorem dL_insert_27 : decode cL_insert 27 = .ok (.astore 5, 2) := by decide +kernel
theorem dL_insert_29 : decode cL_insert 29 = .ok (.iconst 4, 1) := by decide +kernel
theorem dL_insert_30 : decode cL_insert 30 = .ok (.ireturn, 1) := by decide +kernel
theorem dL_insert_31 : decode cL_insert 31 = .ok (.iconst 0, 1) := by decide +kernel
theorem dL_insert_32 : decode cL_insert 32 = .ok (.ireturn, 1) := by decide +kernel
set_option maxRecDepth 20000 in
theorem ggL_withdraw_X12_withdraw : GoodIn wsL_withdraw wsX12_withdraw := goodIn_ca (goodIn_ca (goodIn_ca (goodIn_ca (goodIn_ca (goodIn_ca (goodIn_r _ [7, 8, 9, 10, 11, 12, 13, 14, 15, 16, 17, 18, 19, 20, 21, 22, 23, 24, 25, 26, 27, 28, 29, 30, 31, 32, 33, 34, 35, 36, 37, 38, 39, 40, 41, 42, 43, 44, 45, 46, 47, 48, 49, 50, 51, 52, 53, 54, 55, 56, 57, 58, 59, 60, 6, 61, 62, 63, 64, 65, 66, 67, 68, 69, 70, 71, 72, 73, 74, 75, 76, 77, 78, 79, 80, 81, 82, 83, 84, 85, 86, 87, 88, 89, 90, 91, 92, 93, 94, 95, 96, 97, 98, 99, 100, 101, 102, 103, 104, 105, 106, 107, 108, 109, 110, 111, 112, 113, 114, 115, 116, 117, 118, 119, 120, 121, 122, 123, 124, 125, 126, 127] (by decide +kernel) (by decide +kernel)) (goodIn_sub (fun _ h => List.mem_cons_of_mem _ (List.mem_append_left _ (List.mem_append_left _ (List.mem_append_left _ (List.mem_append_left _ (List.mem_append_left _ (List.mem_append_right _ h))))))) (by decide +kernel))) (goodIn_sub (fun _ h => List.mem_cons_of_mem _ (List.mem_append_left _ (List.mem_append_left _ (List.mem_append_left _ (List.mem_append_left _ (List.mem_append_right _ h)))))) (by decide +kernel))) (goodIn_sub (fun _ h => List.mem_cons_of_mem _ (List.mem_append_left _ (List.mem_append_left _ (List.mem_append_left _ (List.mem_append_right _ h))))) (by decide +kernel))) (goodIn_sub (fun _ h => List.mem_cons_of_mem _ (List.mem_append_left _ (List.mem_append_left _ (List.mem_append_right _ h)))) (by decide +kernel))) (goodIn_sub (fun _ h => List.mem_cons_of_mem _ (List.mem_append_left _ (List.mem_append_right _ h))) (by decide +kernel))) (goodIn_sub (fun _ h => List.mem_cons_of_mem _ (List.mem_append_right _ h)) (by decide +kernel))
set_option maxRecDepth 20000 in
theorem gL_withdraw_X12_withdraw : GoodIn wsL_withdraw (wsV RL 64 RX12 yX12_withdraw wsX12_withdraw) := goodIn_app (goodIn_of _ (by decide +kernel)) ggL_withdraw_X12_withdraw
theorem dL_withdraw_0 : decode cL_withdraw 0 = .ok (.aload_n 3, 1) := by decide +kernel
theorem dL_withdraw_1 : decode cL_withdraw 1 = .ok (.iconst 0, 1) := by decide +kernel
theorem dL_withdraw_2 : decode cL_withdraw 2 = .ok (.aload_n 0, 1) := by decide +kernel
theorem dL_withdraw_3 : decode cL_withdraw 3 = .ok (.iload_n 1, 1) := by decide +kernel
theorem dL_withdraw_4 : decode cL_withdraw 4 = .ok (.iload_n 2, 1) := by decide +kernel
theorem dL_withdraw_5 : decode cL_withdraw 5 = .ok (.invokevirtual 64, 3) := by decide +kernel
theorem dL_withdraw_8 : decode cL_withdraw 8 = .ok (.i2l, 1) := by decide +kernel
theorem dL_withdraw_9 : decode cL_withdraw 9 = .ok (.lastore, 1) := by decide +kernel
theorem dL_withdraw_10 : decode cL_withdraw 10 = .ok (.goto 11, 3) := by decide +kernel
theorem dL_withdraw_13 : decode cL_withdraw 13 = .ok (.astore 4, 2) := by decide +kernel
theorem dL_withdraw_15 : decode cL_withdraw 15 = .ok (.iconst 1, 1) := by decide +kernel
theorem dL_withdraw_16 : decode cL_withdraw 16 = .ok (.ireturn, 1) := by decide +kernel
theorem dL_withdraw_17 : decode cL_withdraw 17 = .ok (.astore 4, 2) := by decide +kernel
theorem dL_withdraw_19 : decode cL_withdraw 19 = .ok (.iconst 2, 1) := by decide +kernel
theorem dL_withdraw_20 : decode cL_withdraw 20 = .ok (.ireturn, 1) := by decide +kernel
theorem dL_withdraw_21 : decode cL_withdraw 21 = .ok (.iconst 0, 1) := by decide +kernel
theorem dL_withdraw_22 : decode cL_withdraw 22 = .ok (.ireturn, 1) := by decide +kernel
set_option maxRecDepth 20000 in
theorem ggL_remarkAt_X12_remarkAt : GoodIn wsL_remarkAt wsX12_remarkAt := goodIn_ca (goodIn_ca (goodIn_r _ [6, 7, 8, 9, 10, 11, 12, 13, 5, 14, 15, 16, 17, 18, 19, 20, 21, 22, 23, 24, 25, 26, 27, 28, 29, 30, 31, 32, 33, 34, 35, 36, 37, 38, 39, 40, 41, 42] (by decide +kernel) (by decide +kernel)) (goodIn_sub (fun _ h => List.mem_cons_of_mem _ (List.mem_append_right _ h)) (by decide +kernel))) (goodIn_sub (fun _ h => List.mem_cons_of_mem _ (List.mem_append_left _ (List.mem_append_right _ h))) (by decide +kernel))
set_option maxRecDepth 20000 in
theorem gL_remarkAt_X12_remarkAt : GoodIn wsL_remarkAt (wsV RL 70 RX12 yX12_remarkAt wsX12_remarkAt) := goodIn_app (goodIn_of _ (by decide +kernel)) ggL_remarkAt_X12_remarkAt
theorem dL_remarkAt_0 : decode cL_remarkAt 0 = .ok (.aload_n 3, 1) := by decide +kernel
theorem dL_remarkAt_1 : decode cL_remarkAt 1 = .ok (.iconst 0, 1) := by decide +kernel
theorem dL_remarkAt_2 : decode cL_remarkAt 2 = .ok (.aload_n 0, 1) := by decide +kernel
theorem dL_remarkAt_3 : decode cL_remarkAt 3 = .ok (.iload_n 1, 1) := by decide +kernel
theorem dL_remarkAt_4 : decode cL_remarkAt 4 = .ok (.iload_n 2, 1) := by decide +kernel
theorem dL_remarkAt_5 : decode cL_remarkAt 5 = .ok (.invokevirtual 70, 3) := by decide +kernel
theorem dL_remarkAt_8 : decode cL_remarkAt 8 = .ok (.i2l, 1) := by decide +kernel
theorem dL_remarkAt_9 : decode cL_remarkAt 9 = .ok (.lastore, 1) := by decide +kernel
theorem dL_remarkAt_10 : decode cL_remarkAt 10 = .ok (.goto 7, 3) := by decide +kernel
theorem dL_remarkAt_13 : decode cL_remarkAt 13 = .ok (.astore 4, 2) := by decide +kernel
theorem dL_remarkAt_15 : decode cL_remarkAt 15 = .ok (.iconst 1, 1) := by decide +kernel
theorem dL_remarkAt_16 : decode cL_remarkAt 16 = .ok (.ireturn, 1) := by decide +kernel
theorem dL_remarkAt_17 : decode cL_remarkAt 17 = .ok (.iconst 0, 1) := by decide +kernel
theorem dL_remarkAt_18 : decode cL_remarkAt 18 = .ok (.ireturn, 1) := by decide +kernel
set_option maxRecDepth 20000 in
theorem ggL_depthOf_X12_depthOf : GoodIn wsL_depthOf wsX12_depthOf := goodIn_ca (goodIn_ca (goodIn_r _ [6, 7, 8, 9, 10, 11, 12, 5, 13, 14, 15, 16, 17, 18, 19, 20, 21, 22, 23, 24, 25, 26, 27, 28, 29, 30, 31, 32, 33, 34, 35, 36, 37, 38, 39, 40, 41, 42, 43, 44, 45, 46, 47] (by decide +kernel) (by decide +kernel)) (goodIn_sub (fun _ h => List.mem_cons_of_mem _ (List.mem_append_right _ h)) (by decide +kernel))) (goodIn_sub (fun _ h => List.mem_cons_of_mem _ (List.mem_append_left _ (List.mem_append_right _ h))) (by decide +kernel))
set_option maxRecDepth 20000 in
theorem gL_depthOf_X12_depthOf : GoodIn wsL_depthOf (wsV RL 73 RX12 yX12_depthOf wsX12_depthOf) := goodIn_app (goodIn_of _ (by decide +kernel)) ggL_depthOf_X12_depthOf
theorem dL_depthOf_0 : decode cL_depthOf 0 = .ok (.aload_n 2, 1) := by decide +kernel
theorem dL_depthOf_1 : decode cL_depthOf 1 = .ok (.iconst 0, 1) := by decide +kernel
theorem dL_depthOf_2 : decode cL_depthOf 2 = .ok (.aload_n 0, 1) := by decide +kernel
theorem dL_depthOf_3 : decode cL_depthOf 3 = .ok (.iload_n 1, 1) := by decide +kernel
theorem dL_depthOf_4 : decode cL_depthOf 4 = .ok (.invokevirtual 73, 3) := by decide +kernel
theorem dL_depthOf_7 : decode cL_depthOf 7 = .ok (.i2l, 1) := by decide +kernel
theorem dL_depthOf_8 : decode cL_depthOf 8 = .ok (.lastore, 1) := by decide +kernel
theorem dL_depthOf_9 : decode cL_depthOf 9 = .ok (.goto 6, 3) := by decide +kernel
theorem dL_depthOf_12 : decode cL_depthOf 12 = .ok (.astore_n 3, 1) := by decide +kernel
theorem dL_depthOf_13 : decode cL_depthOf 13 = .ok (.iconst 1, 1) := by decide +kernel
theorem dL_depthOf_14 : decode cL_depthOf 14 = .ok (.ireturn, 1) := by decide +kernel
theorem dL_depthOf_15 : decode cL_depthOf 15 = .ok (.iconst 0, 1) := by decide +kernel
theorem dL_depthOf_16 : decode cL_depthOf 16 = .ok (.ireturn, 1) := by decide +kernel
set_option maxRecDepth 20000 in
theorem ggL_excite_X12_excite : GoodIn wsL_excite wsX12_excite := goodIn_ca (goodIn_ca (goodIn_ca (goodIn_ca (goodIn_ca (goodIn_ca (goodIn_r _ [7, 8, 9, 10, 11, 12, 13, 14, 15, 16, 17, 18, 19, 20, 21, 22, 23, 24, 25, 26, 27, 28, 29, 30, 31, 32, 33, 34, 35, 36, 37, 38, 39, 40, 41, 42, 43, 44, 45, 46, 47, 48, 49, 50, 51, 52, 53, 54, 55, 56, 57, 58, 59, 60, 61, 62, 63, 6, 64, 65, 66, 67, 68, 69, 70, 71, 72, 73, 74, 75, 76, 77, 78, 79, 80, 81, 82, 83, 84, 85, 86, 87, 88, 89, 90, 91, 92, 93, 94, 95, 96, 97, 98, 99, 100, 101, 102, 103, 104, 105, 106, 107, 108, 109, 110, 111, 112, 113, 114, 115, 116, 117, 118, 119, 120, 121, 122, 123, 124, 125, 126, 127, 128, 129] (by decide +kernel) (by decide +kernel)) (goodIn_sub (fun _ h => List.mem_cons_of_mem _ (List.mem_append_left _ (List.mem_append_left _ (List.mem_append_left _ (List.mem_append_left _ (List.mem_append_left _ (List.mem_append_right _ h))))))) (by decide +kernel))) (goodIn_sub (fun _ h => List.mem_cons_of_mem _ (List.mem_append_left _ (List.mem_append_left _ (List.mem_append_left _ (List.mem_append_left _ (List.mem_append_right _ h)))))) (by decide +kernel))) (goodIn_sub (fun _ h => List.mem_cons_of_mem _ (List.mem_append_left _ (List.mem_append_left _ (List.mem_append_left _ (List.mem_append_right _ h))))) (by decide +kernel))) (goodIn_sub (fun _ h => List.mem_cons_of_mem _ (List.mem_append_left _ (List.mem_append_left _ (List.mem_append_right _ h)))) (by decide +kernel))) (goodIn_sub (fun _ h => List.mem_cons_of_mem _ (List.mem_append_left _ (List.mem_append_right _ h))) (by decide +kernel))) (goodIn_sub (fun _ h => List.mem_cons_of_mem _ (List.mem_append_right _ h)) (by decide +kernel))
set_option maxRecDepth 20000 in
theorem gL_excite_X12_excite : GoodIn wsL_excite (wsV RL 76 RX12 yX12_excite wsX12_excite) := goodIn_app (goodIn_of _ (by decide +kernel)) ggL_excite_X12_excite
theorem dL_excite_0 : decode cL_excite 0 = .ok (.aload_n 3, 1) := by decide +kernel
theorem dL_excite_1 : decode cL_excite 1 = .ok (.iconst 0, 1) := by decide +kernel
theorem dL_excite_2 : decode cL_excite 2 = .ok (.aload_n 0, 1) := by decide +kernel
theorem dL_excite_3 : decode cL_excite 3 = .ok (.iload_n 1, 1) := by decide +kernel
theorem dL_excite_4 : decode cL_excite 4 = .ok (.iload_n 2, 1) := by decide +kernel
theorem dL_excite_5 : decode cL_excite 5 = .ok (.invokevirtual 76, 3) := by decide +kernel
theorem dL_excite_8 : decode cL_excite 8 = .ok (.f2d, 1) := by decide +kernel
theorem dL_excite_9 : decode cL_excite 9 = .ok (.dastore, 1) := by decide +kernel
theorem dL_excite_10 : decode cL_excite 10 = .ok (.goto 11, 3) := by decide +kernel
theorem dL_excite_13 : decode cL_excite 13 = .ok (.astore 4, 2) := by decide +kernel
theorem dL_excite_15 : decode cL_excite 15 = .ok (.iconst 1, 1) := by decide +kernel
theorem dL_excite_16 : decode cL_excite 16 = .ok (.ireturn, 1) := by decide +kernel
theorem dL_excite_17 : decode cL_excite 17 = .ok (.astore 4, 2) := by decide +kernel
theorem dL_excite_19 : decode cL_excite 19 = .ok (.iconst 2, 1) := by decide +kernel
theorem dL_excite_20 : decode cL_excite 20 = .ok (.ireturn, 1) := by decide +kernel
theorem dL_excite_21 : decode cL_excite 21 = .ok (.iconst 0, 1) := by decide +kernel
theorem dL_excite_22 : decode cL_excite 22 = .ok (.ireturn, 1) := by decide +kernel
set_option maxRecDepth 20000 in
theorem ggL_pass_X12_pass : GoodIn wsL_pass wsX12_pass := goodIn_ca (goodIn_ca (goodIn_ca (goodIn_ca (goodIn_ca (goodIn_ca (goodIn_r _ [6, 7, 8, 9, 10, 11, 12, 13, 14, 15, 16, 17, 18, 19, 20, 21, 22, 23, 24, 25, 26, 27, 28, 29, 30, 31, 32, 33, 34, 35, 36, 37, 38, 39, 40, 41, 42, 43, 44, 45, 46, 47, 48, 49, 50, 51, 52, 53, 54, 55, 56, 57, 58, 59, 60, 61, 62, 63, 64, 65, 66, 67, 68, 69, 70, 71, 72, 5, 73, 74, 75, 76, 77, 78, 79, 80, 81, 82, 83, 84, 85, 86, 87, 88, 89, 90, 91, 92, 93, 94, 95, 96, 97, 98, 99, 100, 101, 102, 103, 104, 105, 106, 107, 108, 109, 110, 111, 112, 113, 114, 115, 116, 117, 118, 119, 120, 121, 122, 123, 124, 125, 126, 127, 128, 129, 130, 131, 132, 133, 134, 135, 136, 137, 138, 139, 140, 141, 142, 143, 144, 145, 146, 147, 148, 149, 150, 151, 152, 153, 154, 155, 156, 157, 158, 159, 160, 161, 162] (by decide +kernel) (by decide +kernel)) (goodIn_sub (fun _ h => List.mem_cons_of_mem _ (List.mem_append_left _ (List.mem_append_left _ (List.mem_append_left _ (List.mem_append_left _ (List.mem_append_left _ (List.mem_append_right _ h))))))) (by decide +kernel))) (goodIn_sub (fun _ h => List.mem_cons_of_mem _ (List.mem_append_left _ (List.mem_append_left _ (List.mem_append_left _ (List.mem_append_left _ (List.mem_append_right _ h)))))) (by decide +kernel))) (goodIn_sub (fun _ h => List.mem_cons_of_mem _ (List.mem_append_left _ (List.mem_append_left _ (List.mem_append_left _ (List.mem_append_right _ h))))) (by decide +kernel))) (goodIn_sub (fun _ h => List.mem_cons_of_mem _ (List.mem_append_left _ (List.mem_append_left _ (List.mem_append_right _ h)))) (by decide +kernel))) (goodIn_sub (fun _ h => List.mem_cons_of_mem _ (List.mem_append_left _ (List.mem_append_right _ h))) (by decide +kernel))) (goodIn_sub (fun _ h => List.mem_cons_of_mem _ (List.mem_append_right _ h)) (by decide +kernel))
set_option maxRecDepth 20000 in
theorem gL_pass_X12_pass : GoodIn wsL_pass (wsV RL 80 RX12 yX12_pass wsX12_pass) := goodIn_app (goodIn_of _ (by decide +kernel)) ggL_pass_X12_pass
theorem dL_pass_0 : decode cL_pass 0 = .ok (.aload_n 2, 1) := by decide +kernel
theorem dL_pass_1 : decode cL_pass 1 = .ok (.iconst 0, 1) := by decide +kernel
theorem dL_pass_2 : decode cL_pass 2 = .ok (.aload_n 0, 1) := by decide +kernel
theorem dL_pass_3 : decode cL_pass 3 = .ok (.iload_n 1, 1) := by decide +kernel
theorem dL_pass_4 : decode cL_pass 4 = .ok (.invokevirtual 80, 3) := by decide +kernel
theorem dL_pass_7 : decode cL_pass 7 = .ok (.i2l, 1) := by decide +kernel
theorem dL_pass_8 : decode cL_pass 8 = .ok (.lastore, 1) := by decide +kernel
theorem dL_pass_9 : decode cL_pass 9 = .ok (.goto 6, 3) := by decide +kernel
theorem dL_pass_12 : decode cL_pass 12 = .ok (.astore_n 3, 1) := by decide +kernel
theorem dL_pass_13 : decode cL_pass 13 = .ok (.iconst 1, 1) := by decide +kernel
theorem dL_pass_14 : decode cL_pass 14 = .ok (.ireturn, 1) := by decide +kernel
theorem dL_pass_15 : decode cL_pass 15 = .ok (.iconst 0, 1) := by decide +kernel
theorem dL_pass_16 : decode cL_pass 16 = .ok (.ireturn, 1) := by decide +kernel
set_option maxRecDepth 20000 in
theorem ggL_setLimit_X12_setLimit : GoodIn wsL_setLimit wsX12_setLimit := goodIn_ca (goodIn_ca (goodIn_ca (goodIn_ca (goodIn_ca (goodIn_ca (goodIn_r _ [6, 7, 8, 9, 10, 11, 12, 13, 14, 15, 16, 17, 18, 19, 20, 21, 22, 23, 24, 25, 26, 27, 28, 29, 30, 31, 32, 33, 34, 35, 36, 37, 38, 39, 40, 41, 42, 43, 44, 45, 46, 47, 48, 49, 50, 51, 52, 53, 54, 55, 56, 57, 5, 58, 59, 60, 61, 62, 63, 64, 65, 66, 67, 68, 69, 70, 71, 72, 73, 74, 75, 76, 77, 78, 79, 80, 81, 82, 83, 84, 85, 86, 87, 88, 89, 90, 91, 92, 93, 94, 95, 96, 97, 98, 99, 100, 101, 102, 103, 104, 105, 106, 107, 108, 109, 110, 111, 112, 113] (by decide +kernel) (by decide +kernel)) (goodIn_sub (fun _ h => List.mem_cons_of_mem _ (List.mem_append_left _ (List.mem_append_left _ (List.mem_append_left _ (List.mem_append_left _ (List.mem_append_left _ (List.mem_append_right _ h))))))) (by decide +kernel))) (goodIn_sub (fun _ h => List.mem_cons_of_mem _ (List.mem_append_left _ (List.mem_append_left _ (List.mem_append_left _ (List.mem_append_left _ (List.mem_append_right _ h)))))) (by decide +kernel))) (goodIn_sub (fun _ h => List.mem_cons_of_mem _ (List.mem_append_left _ (List.mem_append_left _ (List.mem_append_left _ (List.mem_append_right _ h))))) (by decide +kernel))) (goodIn_sub (fun _ h => List.mem_cons_of_mem _ (List.mem_append_left _ (List.mem_append_left _ (List.mem_append_right _ h)))) (by decide +kernel))) (goodIn_sub (fun _ h => List.mem_cons_of_mem _ (List.mem_append_left _ (List.mem_append_right _ h))) (by decide +kernel))) (goodIn_sub (fun _ h => List.mem_cons_of_mem _ (List.mem_append_right _ h)) (by decide +kernel))
set_option maxRecDepth 20000 in
theorem gL_setLimit_X12_setLimit : GoodIn wsL_setLimit (wsV RL 83 RX12 yX12_setLimit wsX12_setLimit) := goodIn_app (goodIn_of _ (by decide +kernel)) ggL_setLimit_X12_setLimit
theorem dL_setLimit_0 : decode cL_setLimit 0 = .ok (.aload_n 2, 1) := by decide +kernel
theorem dL_setLimit_1 : decode cL_setLimit 1 = .ok (.iconst 0, 1) := by decide +kernel
theorem dL_setLimit_2 : decode cL_setLimit 2 = .ok (.aload_n 0, 1) := by decide +kernel
theorem dL_setLimit_3 : decode cL_setLimit 3 = .ok (.iload_n 1, 1) := by decide +kernel
theorem dL_setLimit_4 : decode cL_setLimit 4 = .ok (.invokevirtual 83, 3) := by decide +kernel
theorem dL_setLimit_7 : decode cL_setLimit 7 = .ok (.i2l, 1) := by decide +kernel
theorem dL_setLimit_8 : decode cL_setLimit 8 = .ok (.lastore, 1) := by decide +kernel
theorem dL_setLimit_9 : decode cL_setLimit 9 = .ok (.goto 6, 3) := by decide +kernel
theorem dL_setLimit_12 : decode cL_setLimit 12 = .ok (.astore_n 3, 1) := by decide +kernel
theorem dL_setLimit_13 : decode cL_setLimit 13 = .ok (.iconst 1, 1) := by decide +kernel
theorem dL_setLimit_14 : decode cL_setLimit 14 = .ok (.ireturn, 1) := by decide +kernel
theorem dL_setLimit_15 : decode cL_setLimit 15 = .ok (.iconst 0, 1) := by decide +kernel
theorem dL_setLimit_16 : decode cL_setLimit 16 = .ok (.ireturn, 1) := by decide +kernel
set_option maxRecDepth 20000 in
theorem ggL_fluxOf_X12_fluxOf : GoodIn wsL_fluxOf wsX12_fluxOf := goodIn_ca (goodIn_ca (goodIn_r _ [6, 7, 8, 9, 10, 11, 12, 5, 13, 14, 15, 16, 17, 18, 19, 20, 21, 22, 23, 24, 25, 26, 27, 28, 29, 30, 31, 32, 33, 34, 35, 36, 37, 38, 39, 40, 41, 42, 43, 44, 45, 46, 47, 48, 49, 50] (by decide +kernel) (by decide +kernel)) (goodIn_sub (fun _ h => List.mem_cons_of_mem _ (List.mem_append_left _ (List.mem_append_right _ h))) (by decide +kernel))) (goodIn_sub (fun _ h => List.mem_cons_of_mem _ (List.mem_append_right _ h)) (by decide +kernel))
set_option maxRecDepth 20000 in
theorem gL_fluxOf_X12_fluxOf : GoodIn wsL_fluxOf (wsV RL 86 RX12 yX12_fluxOf wsX12_fluxOf) := goodIn_app (goodIn_of _ (by decide +kernel)) ggL_fluxOf_X12_fluxOf
theorem dL_fluxOf_0 : decode cL_fluxOf 0 = .ok (.aload_n 2, 1) := by decide +kernel
theorem dL_fluxOf_1 : decode cL_fluxOf 1 = .ok (.iconst 0, 1) := by decide +kernel
theorem dL_fluxOf_2 : decode cL_fluxOf 2 = .ok (.aload_n 0, 1) := by decide +kernel
theorem dL_fluxOf_3 : decode cL_fluxOf 3 = .ok (.iload_n 1, 1) := by decide +kernel
theorem dL_fluxOf_4 : decode cL_fluxOf 4 = .ok (.invokevirtual 86, 3) := by decide +kernel
theorem dL_fluxOf_7 : decode cL_fluxOf 7 = .ok (.f2d, 1) := by decide +kernel
theorem dL_fluxOf_8 : decode cL_fluxOf 8 = .ok (.dastore, 1) := by decide +kernel
theorem dL_fluxOf_9 : decode cL_fluxOf 9 = .ok (.goto 6, 3) := by decide +kernel
theorem dL_fluxOf_12 : decode cL_fluxOf 12 = .ok (.astore_n 3, 1) := by decide +kernel
theorem dL_fluxOf_13 : decode cL_fluxOf 13 = .ok (.iconst 1, 1) := by decide +kernel
theorem dL_fluxOf_14 : decode cL_fluxOf 14 = .ok (.ireturn, 1) := by decide +kernel
theorem dL_fluxOf_15 : decode cL_fluxOf 15 = .ok (.iconst 0, 1) := by decide +kernel
theorem dL_fluxOf_16 : decode cL_fluxOf 16 = .ok (.ireturn, 1) := by decide +kernel
set_option maxRecDepth 20000 in
theorem ggL_fluxBits_X12_fluxBits : GoodIn wsL_fluxBits wsX12_fluxBits := goodIn_ca (goodIn_ca (goodIn_r _ [6, 7, 8, 9, 5, 10, 11, 12, 13, 14, 15, 16, 17, 18, 19, 20, 21, 22, 23, 24, 25, 26, 27, 28, 29, 30, 31, 32, 33, 34, 35, 36, 37, 38, 39, 40, 41, 42, 43, 44, 45, 46, 47, 48, 49, 50, 51, 52, 53, 54, 55, 56, 57, 58, 59, 60, 61, 62, 63, 64, 65, 66, 67, 68, 69, 70] (by decide +kernel) (by decide +kernel)) (goodIn_sub (fun _ h => List.mem_cons_of_mem _ (List.mem_append_left _ (List.mem_append_right _ h))) (by decide +kernel))) (goodIn_sub (fun _ h => List.mem_cons_of_mem _ (List.mem_append_right _ h)) (by decide +kernel))
set_option maxRecDepth 20000 in
theorem gL_fluxBits_X12_fluxBits : GoodIn wsL_fluxBits (wsV RL 90 RX12 yX12_fluxBits wsX12_fluxBits) := goodIn_app (goodIn_of _ (by decide +kernel)) ggL_fluxBits_X12_fluxBits
theorem dL_fluxBits_0 : decode cL_fluxBits 0 = .ok (.aload_n 2, 1) := by decide +kernel
theorem dL_fluxBits_1 : decode cL_fluxBits 1 = .ok (.iconst 0, 1) := by decide +kernel
theorem dL_fluxBits_2 : decode cL_fluxBits 2 = .ok (.aload_n 0, 1) := by decide +kernel
theorem dL_fluxBits_3 : decode cL_fluxBits 3 = .ok (.iload_n 1, 1) := by decide +kernel
theorem dL_fluxBits_4 : decode cL_fluxBits 4 = .ok (.invokevirtual 90, 3) := by decide +kernel
theorem dL_fluxBits_7 : decode cL_fluxBits 7 = .ok (.i2l, 1) := by decide +kernel
theorem dL_fluxBits_8 : decode cL_fluxBits 8 = .ok (.lastore, 1) := by decide +kernel
theorem dL_fluxBits_9 : decode cL_fluxBits 9 = .ok (.goto 6, 3) := by decide +kernel
theorem dL_fluxBits_12 : decode cL_fluxBits 12 = .ok (.astore_n 3, 1) := by decide +kernel
theorem dL_fluxBits_13 : decode cL_fluxBits 13 = .ok (.iconst 1, 1) := by decide +kernel
theorem dL_fluxBits_14 : decode cL_fluxBits 14 = .ok (.ireturn, 1) := by decide +kernel
theorem dL_fluxBits_15 : decode cL_fluxBits 15 = .ok (.iconst 0, 1) := by decide +kernel
theorem dL_fluxBits_16 : decode cL_fluxBits 16 = .ok (.ireturn, 1) := by decide +kernel
set_option maxRecDepth 20000 in
theorem ggL_shiftsUntilBelow_X12_shiftsUntilBelow : GoodIn wsL_shiftsUntilBelow wsX12_shiftsUntilBelow := goodIn_ca (goodIn_ca (goodIn_ca (goodIn_r _ [7, 8, 9, 10, 11, 12, 13, 14, 15, 16, 17, 18, 19, 20, 21, 22, 23, 24, 25, 26, 27, 28, 29, 30, 31, 32, 33, 34, 35, 36, 37, 38, 39, 40, 41, 42, 43, 44, 45, 46, 47, 48, 49, 50, 51, 52, 53, 54, 55, 56, 57, 58, 59, 60, 61, 62, 63, 64, 65, 66, 67, 68, 69, 70, 71, 72, 73, 74, 75, 76, 77, 78, 6, 79, 80, 81, 82, 83, 84, 85, 86, 87, 88, 89, 90, 91, 92, 93, 94, 95, 96, 97, 98, 99, 100, 101, 102, 103, 104, 105, 106, 107, 108, 109, 110, 111, 112, 113, 114, 115, 116, 117, 118, 119, 120, 121, 122, 123, 124, 125, 126, 127, 128, 129, 130, 131, 132, 133, 134, 135, 136, 137, 138, 139, 140, 141, 142, 143, 144] (by decide +kernel) (by decide +kernel)) (goodIn_sub (fun _ h => List.mem_cons_of_mem _ (List.mem_append_left _ (List.mem_append_right _ h))) (by decide +kernel))) (goodIn_sub (fun _ h => List.mem_cons_of_mem _ (List.mem_append_right _ h)) (by decide +kernel))) (goodIn_sub (fun _ h => List.mem_cons_of_mem _ (List.mem_append_left _ (List.mem_append_left _ (List.mem_append_right _ h)))) (by decide +kernel))
set_option maxRecDepth 20000 in
theorem gL_shiftsUntilBelow_X12_shiftsUntilBelow : GoodIn wsL_shiftsUntilBelow (wsV RL 93 RX12 yX12_shiftsUntilBelow wsX12_shiftsUntilBelow) := goodIn_app (goodIn_of _ (by decide +kernel)) ggL_shiftsUntilBelow_X12_shiftsUntilBelow
theorem dL_shiftsUntilBelow_0 : decode cL_shiftsUntilBelow 0 = .ok (.aload_n 2, 1) := by decide +kernel
theorem dL_shiftsUntilBelow_1 : decode cL_shiftsUntilBelow 1 = .ok (.iconst 0, 1) := by decide +kernel
theorem dL_shiftsUntilBelow_2 : decode cL_shiftsUntilBelow 2 = .ok (.aload_n 0, 1) := by decide +kernel
theorem dL_shiftsUntilBelow_3 : decode cL_shiftsUntilBelow 3 = .ok (.iload_n 1, 1) := by decide +kernel
theorem dL_shiftsUntilBelow_4 : decode cL_shiftsUntilBelow 4 = .ok (.invokevirtual 93, 3) := by decide +kernel
theorem dL_shiftsUntilBelow_7 : decode cL_shiftsUntilBelow 7 = .ok (.i2l, 1) := by decide +kernel
theorem dL_shiftsUntilBelow_8 : decode cL_shiftsUntilBelow 8 = .ok (.lastore, 1) := by decide +kernel
theorem dL_shiftsUntilBelow_9 : decode cL_shiftsUntilBelow 9 = .ok (.goto 9, 3) := by decide +kernel
theorem dL_shiftsUntilBelow_12 : decode cL_shiftsUntilBelow 12 = .ok (.astore_n 3, 1) := by decide +kernel
theorem dL_shiftsUntilBelow_13 : decode cL_shiftsUntilBelow 13 = .ok (.iconst 1, 1) := by decide +kernel
theorem dL_shiftsUntilBelow_14 : decode cL_shiftsUntilBelow 14 = .ok (.ireturn, 1) := by decide +kernel
theorem dL_shiftsUntilBelow_15 : decode cL_shiftsUntilBelow 15 = .ok (.astore_n 3, 1) := by decide +kernel
theorem dL_shiftsUntilBelow_16 : decode cL_shiftsUntilBelow 16 = .ok (.iconst 2, 1) := by decide +kernel
theorem dL_shiftsUntilBelow_17 : decode cL_shiftsUntilBelow 17 = .ok (.ireturn, 1) := by decide +kernel
theorem dL_shiftsUntilBelow_18 : decode cL_shiftsUntilBelow 18 = .ok (.iconst 0, 1) := by decide +kernel
theorem dL_shiftsUntilBelow_19 : decode cL_shiftsUntilBelow 19 = .ok (.ireturn, 1) := by decide +kernel
set_option maxRecDepth 20000 in
theorem ggL_claimAtRank_X12_claimAtRank : GoodIn wsL_claimAtRank wsX12_claimAtRank := goodIn_ca (goodIn_ca (goodIn_r _ [6, 7, 8, 9, 10, 11, 12, 13, 14, 15, 16, 17, 18, 19, 20, 21, 22, 23, 24, 25, 26, 27, 28, 29, 30, 31, 32, 33, 34, 35, 36, 37, 38, 39, 40, 41, 42, 43, 44, 45, 46, 47, 48, 49, 50, 51, 52] (by decide +kernel) (by decide +kernel)) (goodIn_sub (fun _ h => List.mem_cons_of_mem _ (List.mem_append_right _ h)) (by decide +kernel))) (goodIn_sub (fun _ h => List.mem_cons_of_mem _ (List.mem_append_left _ (List.mem_append_right _ h))) (by decide +kernel))
set_option maxRecDepth 20000 in
theorem gL_claimAtRank_X12_claimAtRank : GoodIn wsL_claimAtRank (wsV RL 96 RX12 yX12_claimAtRank wsX12_claimAtRank) := goodIn_app (goodIn_of _ (by decide +kernel)) ggL_claimAtRank_X12_claimAtRank
theorem dL_claimAtRank_0 : decode cL_claimAtRank 0 = .ok (.aload_n 2, 1) := by decide +kernel
theorem dL_claimAtRank_1 : decode cL_claimAtRank 1 = .ok (.iconst 0, 1) := by decide +kernel
theorem dL_claimAtRank_2 : decode cL_claimAtRank 2 = .ok (.aload_n 0, 1) := by decide +kernel
theorem dL_claimAtRank_3 : decode cL_claimAtRank 3 = .ok (.iload_n 1, 1) := by decide +kernel
theorem dL_claimAtRank_4 : decode cL_claimAtRank 4 = .ok (.invokevirtual 96, 3) := by decide +kernel
theorem dL_claimAtRank_7 : decode cL_claimAtRank 7 = .ok (.i2l, 1) := by decide +kernel
theorem dL_claimAtRank_8 : decode cL_claimAtRank 8 = .ok (.lastore, 1) := by decide +kernel
theorem dL_claimAtRank_9 : decode cL_claimAtRank 9 = .ok (.goto 6, 3) := by decide +kernel
theorem dL_claimAtRank_12 : decode cL_claimAtRank 12 = .ok (.astore_n 3, 1) := by decide +kernel
theorem dL_claimAtRank_13 : decode cL_claimAtRank 13 = .ok (.iconst 1, 1) := by decide +kernel
theorem dL_claimAtRank_14 : decode cL_claimAtRank 14 = .ok (.ireturn, 1) := by decide +kernel
theorem dL_claimAtRank_15 : decode cL_claimAtRank 15 = .ok (.iconst 0, 1) := by decide +kernel
theorem dL_claimAtRank_16 : decode cL_claimAtRank 16 = .ok (.ireturn, 1) := by decide +kernel
set_option maxRecDepth 20000 in
theorem ggL_logShift_X12_logShift : GoodIn wsL_logShift wsX12_logShift := goodIn_ca (goodIn_ca (goodIn_r _ [6, 7, 8, 9, 10, 11, 12, 5, 13, 14, 15, 16, 17, 18, 19, 20, 21, 22, 23, 24, 25, 26, 27, 28, 29, 30, 31, 32, 33, 34, 35, 36, 37, 38, 39, 40, 41, 42, 43, 44, 45, 46, 47, 48, 49, 50, 51, 52, 53] (by decide +kernel) (by decide +kernel)) (goodIn_sub (fun _ h => List.mem_cons_of_mem _ (List.mem_append_left _ (List.mem_append_right _ h))) (by decide +kernel))) (goodIn_sub (fun _ h => List.mem_cons_of_mem _ (List.mem_append_right _ h)) (by decide +kernel))
set_option maxRecDepth 20000 in
theorem gL_logShift_X12_logShift : GoodIn wsL_logShift (wsV RL 99 RX12 yX12_logShift wsX12_logShift) := goodIn_app (goodIn_of _ (by decide +kernel)) ggL_logShift_X12_logShift
theorem dL_logShift_0 : decode cL_logShift 0 = .ok (.aload_n 2, 1) := by decide +kernel
theorem dL_logShift_1 : decode cL_logShift 1 = .ok (.iconst 0, 1) := by decide +kernel
theorem dL_logShift_2 : decode cL_logShift 2 = .ok (.aload_n 0, 1) := by decide +kernel
theorem dL_logShift_3 : decode cL_logShift 3 = .ok (.iload_n 1, 1) := by decide +kernel
theorem dL_logShift_4 : decode cL_logShift 4 = .ok (.invokevirtual 99, 3) := by decide +kernel
theorem dL_logShift_7 : decode cL_logShift 7 = .ok (.i2l, 1) := by decide +kernel
theorem dL_logShift_8 : decode cL_logShift 8 = .ok (.lastore, 1) := by decide +kernel
theorem dL_logShift_9 : decode cL_logShift 9 = .ok (.goto 6, 3) := by decide +kernel
theorem dL_logShift_12 : decode cL_logShift 12 = .ok (.astore_n 3, 1) := by decide +kernel
theorem dL_logShift_13 : decode cL_logShift 13 = .ok (.iconst 1, 1) := by decide +kernel
theorem dL_logShift_14 : decode cL_logShift 14 = .ok (.ireturn, 1) := by decide +kernel
theorem dL_logShift_15 : decode cL_logShift 15 = .ok (.iconst 0, 1) := by decide +kernel
theorem dL_logShift_16 : decode cL_logShift 16 = .ok (.ireturn, 1) := by decide +kernel
set_option maxRecDepth 20000 in
theorem ggL_logKind_X12_logKind : GoodIn wsL_logKind wsX12_logKind := goodIn_ca (goodIn_ca (goodIn_r _ [6, 7, 8, 9, 10, 11, 12, 5, 13, 14, 15, 16, 17, 18, 19, 20, 21, 22, 23, 24, 25, 26, 27, 28, 29, 30, 31, 32, 33, 34, 35, 36, 37, 38, 39, 40, 41, 42, 43, 44, 45, 46, 47, 48, 49, 50, 51, 52, 53] (by decide +kernel) (by decide +kernel)) (goodIn_sub (fun _ h => List.mem_cons_of_mem _ (List.mem_append_left _ (List.mem_append_right _ h))) (by decide +kernel))) (goodIn_sub (fun _ h => List.mem_cons_of_mem _ (List.mem_append_right _ h)) (by decide +kernel))
set_option maxRecDepth 20000 in
theorem gL_logKind_X12_logKind : GoodIn wsL_logKind (wsV RL 102 RX12 yX12_logKind wsX12_logKind) := goodIn_app (goodIn_of _ (by decide +kernel)) ggL_logKind_X12_logKind
theorem dL_logKind_0 : decode cL_logKind 0 = .ok (.aload_n 2, 1) := by decide +kernel
theorem dL_logKind_1 : decode cL_logKind 1 = .ok (.iconst 0, 1) := by decide +kernel
theorem dL_logKind_2 : decode cL_logKind 2 = .ok (.aload_n 0, 1) := by decide +kernel
theorem dL_logKind_3 : decode cL_logKind 3 = .ok (.iload_n 1, 1) := by decide +kernel
theorem dL_logKind_4 : decode cL_logKind 4 = .ok (.invokevirtual 102, 3) := by decide +kernel
theorem dL_logKind_7 : decode cL_logKind 7 = .ok (.i2l, 1) := by decide +kernel
theorem dL_logKind_8 : decode cL_logKind 8 = .ok (.lastore, 1) := by decide +kernel
theorem dL_logKind_9 : decode cL_logKind 9 = .ok (.goto 6, 3) := by decide +kernel
theorem dL_logKind_12 : decode cL_logKind 12 = .ok (.astore_n 3, 1) := by decide +kernel
theorem dL_logKind_13 : decode cL_logKind 13 = .ok (.iconst 1, 1) := by decide +kernel
theorem dL_logKind_14 : decode cL_logKind 14 = .ok (.ireturn, 1) := by decide +kernel
theorem dL_logKind_15 : decode cL_logKind 15 = .ok (.iconst 0, 1) := by decide +kernel
theorem dL_logKind_16 : decode cL_logKind 16 = .ok (.ireturn, 1) := by decide +kernel
set_option maxRecDepth 20000 in
theorem ggL_append_X12_append : GoodIn wsL_append wsX12_append := goodIn_ca (goodIn_ca (goodIn_ca (goodIn_r _ [7, 8, 9, 10, 11, 12, 13, 14, 15, 16, 17, 18, 19, 20, 21, 22, 23, 24, 25, 26, 27, 28, 29, 30, 31, 32, 33, 34, 35, 36, 37] (by decide +kernel) (by decide +kernel)) (goodIn_sub (fun _ h => List.mem_cons_of_mem _ (List.mem_append_left _ (List.mem_append_right _ h))) (by decide +kernel))) (goodIn_sub (fun _ h => List.mem_cons_of_mem _ (List.mem_append_right _ h)) (by decide +kernel))) (goodIn_sub (fun _ h => List.mem_cons_of_mem _ (List.mem_append_left _ (List.mem_append_left _ (List.mem_append_right _ h)))) (by decide +kernel))
set_option maxRecDepth 20000 in
theorem gL_append_X12_append : GoodIn wsL_append (wsV RL 106 RX12 yX12_append wsX12_append) := goodIn_app (goodIn_of _ (by decide +kernel)) ggL_append_X12_append
theorem dL_append_0 : decode cL_append 0 = .ok (.aload_n 2, 1) := by decide +kernel
theorem dL_append_1 : decode cL_append 1 = .ok (.iconst 0, 1) := by decide +kernel
theorem dL_append_2 : decode cL_append 2 = .ok (.aload_n 0, 1) := by decide +kernel
theorem dL_append_3 : decode cL_append 3 = .ok (.iload_n 1, 1) := by decide +kernel
theorem dL_append_4 : decode cL_append 4 = .ok (.invokevirtual 106, 3) := by decide +kernel
theorem dL_append_7 : decode cL_append 7 = .ok (.i2l, 1) := by decide +kernel
theorem dL_append_8 : decode cL_append 8 = .ok (.lastore, 1) := by decide +kernel
theorem dL_append_9 : decode cL_append 9 = .ok (.goto 9, 3) := by decide +kernel
theorem dL_append_12 : decode cL_append 12 = .ok (.astore_n 3, 1) := by decide +kernel
theorem dL_append_13 : decode cL_append 13 = .ok (.iconst 1, 1) := by decide +kernel
theorem dL_append_14 : decode cL_append 14 = .ok (.ireturn, 1) := by decide +kernel
theorem dL_append_15 : decode cL_append 15 = .ok (.astore_n 3, 1) := by decide +kernel
theorem dL_append_16 : decode cL_append 16 = .ok (.iconst 2, 1) := by decide +kernel
theorem dL_append_17 : decode cL_append 17 = .ok (.ireturn, 1) := by decide +kernel
theorem dL_append_18 : decode cL_append 18 = .ok (.iconst 0, 1) := by decide +kernel
theorem dL_append_19 : decode cL_append 19 = .ok (.ireturn, 1) := by decide +kernel
set_option maxRecDepth 20000 in
theorem ggL_run_X12_run : GoodIn wsL_run wsX12_run := goodIn_ca (goodIn_ca (goodIn_ca (goodIn_ca (goodIn_ca (goodIn_ca (goodIn_r _ [7, 8, 9, 10, 11, 12, 13, 14, 15, 16, 17, 18, 19, 20, 21, 22, 23, 24, 25, 26, 27, 28, 29, 30, 31, 32, 33, 34, 35, 36, 37, 38, 39, 40, 41, 42, 43, 44, 45, 46, 47, 48, 49, 50, 51, 52, 53, 54, 55, 56, 57, 58, 59, 60, 61, 62, 63, 64, 65, 66, 67, 68, 69, 70, 71, 72, 73, 74, 75, 76, 77, 78, 79, 80, 81, 82, 83, 84, 85, 86, 87, 88, 89, 90, 91, 92, 93, 94, 95, 96, 97, 98, 99, 100, 101, 102, 103, 104, 105, 106, 107, 108, 109, 110, 111, 112, 113, 114, 115, 116, 117, 118, 119, 120, 121, 122, 123, 124, 125, 126, 127, 128, 129, 130, 131, 132, 133, 134, 135, 136, 137, 138, 139, 140, 141, 142, 143, 144, 145, 146, 147, 148, 149, 150, 151, 152, 153, 154, 155, 156, 157, 158, 159, 160, 161, 162, 163, 164, 165, 166, 167, 168, 169, 170, 171, 172, 173, 174, 175, 176, 177, 178, 179, 180, 181, 182, 183, 184, 185, 186, 187, 188, 189, 190, 191, 192, 193, 194, 195, 196, 197, 198, 199, 200, 201, 202, 203, 204, 205, 206, 207, 208, 209, 210, 211, 212, 213, 214, 215, 216, 217, 218, 219, 220, 221, 222, 223, 224, 225, 6, 226, 227, 228, 229, 230, 231, 232, 233, 234, 235, 236, 237, 238, 239, 240, 241, 242, 243, 244, 245, 246, 247, 248, 249, 250, 251, 252, 253, 254, 255, 256, 257, 258, 259, 260, 261, 262, 263, 264, 265, 266, 267, 268, 269, 270, 271, 272, 273, 274, 275, 276, 277, 278, 279, 280, 281, 282, 283, 284, 285, 286, 287, 288, 289, 290, 291, 292, 293, 294, 295, 296, 297, 298, 299, 300, 301, 302, 303, 304, 305, 306, 307, 308, 309, 310, 311, 312, 313, 314, 315, 316, 317, 318, 319, 320, 321, 322, 323, 324, 325, 326, 327, 328, 329, 330, 331, 332, 333, 334, 335, 336, 337, 338, 339, 340, 341, 342, 343, 344, 345, 346, 347, 348, 349, 350, 351, 352, 353, 354, 355, 356, 357, 358, 359, 360, 361, 362, 363, 364, 365, 366, 367, 368, 369, 370, 371, 372, 373, 374, 375, 376, 377, 378, 379, 380, 381, 382, 383, 384, 385, 386, 387, 388, 389, 390, 391, 392, 393, 394, 395, 396, 397, 398, 399, 400] (by decide +kernel) (by decide +kernel)) (goodIn_sub (fun _ h => List.mem_cons_of_mem _ (List.mem_append_left _ (List.mem_append_left _ (List.mem_append_left _ (List.mem_append_left _ (List.mem_append_right _ h)))))) (by decide +kernel))) (goodIn_sub (fun _ h => List.mem_cons_of_mem _ (List.mem_append_left _ (List.mem_append_left _ (List.mem_append_left _ (List.mem_append_right _ h))))) (by decide +kernel))) (goodIn_sub (fun _ h => List.mem_cons_of_mem _ (List.mem_append_left _ (List.mem_append_left _ (List.mem_append_left _ (List.mem_append_left _ (List.mem_append_left _ (List.mem_append_right _ h))))))) (by decide +kernel))) (goodIn_sub (fun _ h => List.mem_cons_of_mem _ (List.mem_append_left _ (List.mem_append_left _ (List.mem_append_right _ h)))) (by decide +kernel))) (goodIn_sub (fun _ h => List.mem_cons_of_mem _ (List.mem_append_left _ (List.mem_append_right _ h))) (by decide +kernel))) (goodIn_sub (fun _ h => List.mem_cons_of_mem _ (List.mem_append_right _ h)) (by decide +kernel))
set_option maxRecDepth 20000 in
theorem gL_run_X12_run : GoodIn wsL_run (wsV RL 110 RX12 yX12_run wsX12_run) := goodIn_app (goodIn_of _ (by decide +kernel)) ggL_run_X12_run
theorem dL_run_0 : decode cL_run 0 = .ok (.aload_n 1, 1) := by decide +kernel
theorem dL_run_1 : decode cL_run 1 = .ok (.iconst 0, 1) := by decide +kernel
theorem dL_run_2 : decode cL_run 2 = .ok (.aload_n 0, 1) := by decide +kernel
theorem dL_run_3 : decode cL_run 3 = .ok (.invokevirtual 110, 3) := by decide +kernel
theorem dL_run_6 : decode cL_run 6 = .ok (.i2l, 1) := by decide +kernel
theorem dL_run_7 : decode cL_run 7 = .ok (.lastore, 1) := by decide +kernel
theorem dL_run_8 : decode cL_run 8 = .ok (.goto 9, 3) := by decide +kernel
theorem dL_run_11 : decode cL_run 11 = .ok (.astore_n 2, 1) := by decide +kernel
theorem dL_run_12 : decode cL_run 12 = .ok (.iconst 1, 1) := by decide +kernel
theorem dL_run_13 : decode cL_run 13 = .ok (.ireturn, 1) := by decide +kernel
theorem dL_run_14 : decode cL_run 14 = .ok (.astore_n 2, 1) := by decide +kernel
theorem dL_run_15 : decode cL_run 15 = .ok (.iconst 2, 1) := by decide +kernel
theorem dL_run_16 : decode cL_run 16 = .ok (.ireturn, 1) := by decide +kernel
theorem dL_run_17 : decode cL_run 17 = .ok (.iconst 0, 1) := by decide +kernel
theorem dL_run_18 : decode cL_run 18 = .ok (.ireturn, 1) := by decide +kernel
set_option maxRecDepth 20000 in
theorem ggL_errorPosition_X12_errorPosition : GoodIn wsL_errorPosition wsX12_errorPosition := goodIn_ca (goodIn_r _ [6, 7, 8, 9, 10, 11, 12, 13, 14, 15, 16, 17, 18, 19, 20, 21, 22, 23, 24, 25] (by decide +kernel) (by decide +kernel)) (goodIn_sub (fun _ h => List.mem_cons_of_mem _ (List.mem_append_right _ h)) (by decide +kernel))
set_option maxRecDepth 20000 in
theorem gL_errorPosition_X12_errorPosition : GoodIn wsL_errorPosition (wsV RL 114 RX12 yX12_errorPosition wsX12_errorPosition) := goodIn_app (goodIn_of _ (by decide +kernel)) ggL_errorPosition_X12_errorPosition
theorem dL_errorPosition_0 : decode cL_errorPosition 0 = .ok (.aload_n 1, 1) := by decide +kernel
theorem dL_errorPosition_1 : decode cL_errorPosition 1 = .ok (.iconst 0, 1) := by decide +kernel
theorem dL_errorPosition_2 : decode cL_errorPosition 2 = .ok (.aload_n 0, 1) := by decide +kernel
theorem dL_errorPosition_3 : decode cL_errorPosition 3 = .ok (.invokevirtual 114, 3) := by decide +kernel
theorem dL_errorPosition_6 : decode cL_errorPosition 6 = .ok (.i2l, 1) := by decide +kernel
theorem dL_errorPosition_7 : decode cL_errorPosition 7 = .ok (.lastore, 1) := by decide +kernel
theorem dL_errorPosition_8 : decode cL_errorPosition 8 = .ok (.goto 6, 3) := by decide +kernel
theorem dL_errorPosition_11 : decode cL_errorPosition 11 = .ok (.astore_n 2, 1) := by decide +kernel
theorem dL_errorPosition_12 : decode cL_errorPosition 12 = .ok (.iconst 1, 1) := by decide +kernel
theorem dL_errorPosition_13 : decode cL_errorPosition 13 = .ok (.ireturn, 1) := by decide +kernel
theorem dL_errorPosition_14 : decode cL_errorPosition 14 = .ok (.iconst 0, 1) := by decide +kernel
theorem dL_errorPosition_15 : decode cL_errorPosition 15 = .ok (.ireturn, 1) := by decide +kernel
set_option maxRecDepth 20000 in
theorem ggL_failedCommand_X12_failedCommand : GoodIn wsL_failedCommand wsX12_failedCommand := goodIn_ca (goodIn_r _ [6, 7, 8, 9, 10, 11, 12, 13, 14, 15, 16, 17, 18, 19, 20, 21, 22, 23, 24, 25] (by decide +kernel) (by decide +kernel)) (goodIn_sub (fun _ h => List.mem_cons_of_mem _ (List.mem_append_right _ h)) (by decide +kernel))
set_option maxRecDepth 20000 in
theorem gL_failedCommand_X12_failedCommand : GoodIn wsL_failedCommand (wsV RL 117 RX12 yX12_failedCommand wsX12_failedCommand) := goodIn_app (goodIn_of _ (by decide +kernel)) ggL_failedCommand_X12_failedCommand
theorem dL_failedCommand_0 : decode cL_failedCommand 0 = .ok (.aload_n 1, 1) := by decide +kernel
theorem dL_failedCommand_1 : decode cL_failedCommand 1 = .ok (.iconst 0, 1) := by decide +kernel
theorem dL_failedCommand_2 : decode cL_failedCommand 2 = .ok (.aload_n 0, 1) := by decide +kernel
theorem dL_failedCommand_3 : decode cL_failedCommand 3 = .ok (.invokevirtual 117, 3) := by decide +kernel
theorem dL_failedCommand_6 : decode cL_failedCommand 6 = .ok (.i2l, 1) := by decide +kernel
theorem dL_failedCommand_7 : decode cL_failedCommand 7 = .ok (.lastore, 1) := by decide +kernel
theorem dL_failedCommand_8 : decode cL_failedCommand 8 = .ok (.goto 6, 3) := by decide +kernel
theorem dL_failedCommand_11 : decode cL_failedCommand 11 = .ok (.astore_n 2, 1) := by decide +kernel
theorem dL_failedCommand_12 : decode cL_failedCommand 12 = .ok (.iconst 1, 1) := by decide +kernel
theorem dL_failedCommand_13 : decode cL_failedCommand 13 = .ok (.ireturn, 1) := by decide +kernel
theorem dL_failedCommand_14 : decode cL_failedCommand 14 = .ok (.iconst 0, 1) := by decide +kernel
theorem dL_failedCommand_15 : decode cL_failedCommand 15 = .ok (.ireturn, 1) := by decide +kernel
set_option maxRecDepth 20000 in
theorem ggL_describeClaim_X12_describeClaim : GoodIn wsL_describeClaim wsX12_describeClaim := goodIn_ca (goodIn_ca (goodIn_r _ [6, 7, 8, 9, 10, 11, 12, 13, 14, 5, 15, 16, 17, 18, 19, 20, 21, 22, 23, 24, 25, 26, 27, 28, 29, 30, 31, 32, 33, 34, 35, 36, 37, 38, 39, 40, 41, 42, 43, 44, 45, 46, 47, 48, 49, 50, 51, 52, 53, 54, 55, 56, 57, 58, 59, 60, 61, 62, 63, 64, 65, 66, 67, 68, 69, 70, 71, 72, 73, 74, 75, 76, 77, 78, 79, 80, 81, 82, 83, 84, 85, 86, 87, 88, 89, 90, 91, 92, 93] (by decide +kernel) (by decide +kernel)) (goodIn_sub (fun _ h => List.mem_cons_of_mem _ (List.mem_append_left _ (List.mem_append_right _ h))) (by decide +kernel))) (goodIn_sub (fun _ h => List.mem_cons_of_mem _ (List.mem_append_right _ h)) (by decide +kernel))
set_option maxRecDepth 20000 in
theorem gL_describeClaim_X12_describeClaim : GoodIn wsL_describeClaim (wsV RL 120 RX12 yX12_describeClaim wsX12_describeClaim) := goodIn_app (goodIn_of _ (by decide +kernel)) ggL_describeClaim_X12_describeClaim
theorem dL_describeClaim_0 : decode cL_describeClaim 0 = .ok (.aload_n 2, 1) := by decide +kernel
theorem dL_describeClaim_1 : decode cL_describeClaim 1 = .ok (.iconst 0, 1) := by decide +kernel
theorem dL_describeClaim_2 : decode cL_describeClaim 2 = .ok (.aload_n 0, 1) := by decide +kernel
theorem dL_describeClaim_3 : decode cL_describeClaim 3 = .ok (.iload_n 1, 1) := by decide +kernel
theorem dL_describeClaim_4 : decode cL_describeClaim 4 = .ok (.invokevirtual 120, 3) := by decide +kernel
theorem dL_describeClaim_7 : decode cL_describeClaim 7 = .ok (.i2l, 1) := by decide +kernel
theorem dL_describeClaim_8 : decode cL_describeClaim 8 = .ok (.lastore, 1) := by decide +kernel
theorem dL_describeClaim_9 : decode cL_describeClaim 9 = .ok (.goto 6, 3) := by decide +kernel
theorem dL_describeClaim_12 : decode cL_describeClaim 12 = .ok (.astore_n 3, 1) := by decide +kernel
theorem dL_describeClaim_13 : decode cL_describeClaim 13 = .ok (.iconst 1, 1) := by decide +kernel
theorem dL_describeClaim_14 : decode cL_describeClaim 14 = .ok (.ireturn, 1) := by decide +kernel
theorem dL_describeClaim_15 : decode cL_describeClaim 15 = .ok (.iconst 0, 1) := by decide +kernel
theorem dL_describeClaim_16 : decode cL_describeClaim 16 = .ok (.ireturn, 1) := by decide +kernel
set_option maxRecDepth 20000 in
theorem ggL_lineAt_X12_lineAt : GoodIn wsL_lineAt wsX12_lineAt := goodIn_ca (goodIn_ca (goodIn_r _ [6, 7, 8, 9, 10, 11, 12, 13, 14, 15, 16, 17, 18, 19, 20, 21, 22, 23, 24, 25, 26] (by decide +kernel) (by decide +kernel)) (goodIn_sub (fun _ h => List.mem_cons_of_mem _ (List.mem_append_right _ h)) (by decide +kernel))) (goodIn_sub (fun _ h => List.mem_cons_of_mem _ (List.mem_append_left _ (List.mem_append_right _ h))) (by decide +kernel))
set_option maxRecDepth 20000 in
theorem gL_lineAt_X12_lineAt : GoodIn wsL_lineAt (wsV RL 123 RX12 yX12_lineAt wsX12_lineAt) := goodIn_app (goodIn_of _ (by decide +kernel)) ggL_lineAt_X12_lineAt
theorem dL_lineAt_0 : decode cL_lineAt 0 = .ok (.aload_n 2, 1) := by decide +kernel
theorem dL_lineAt_1 : decode cL_lineAt 1 = .ok (.iconst 0, 1) := by decide +kernel
theorem dL_lineAt_2 : decode cL_lineAt 2 = .ok (.aload_n 0, 1) := by decide +kernel
theorem dL_lineAt_3 : decode cL_lineAt 3 = .ok (.iload_n 1, 1) := by decide +kernel
theorem dL_lineAt_4 : decode cL_lineAt 4 = .ok (.invokevirtual 123, 3) := by decide +kernel
theorem dL_lineAt_7 : decode cL_lineAt 7 = .ok (.i2l, 1) := by decide +kernel
theorem dL_lineAt_8 : decode cL_lineAt 8 = .ok (.lastore, 1) := by decide +kernel
theorem dL_lineAt_9 : decode cL_lineAt 9 = .ok (.goto 6, 3) := by decide +kernel
theorem dL_lineAt_12 : decode cL_lineAt 12 = .ok (.astore_n 3, 1) := by decide +kernel
theorem dL_lineAt_13 : decode cL_lineAt 13 = .ok (.iconst 1, 1) := by decide +kernel
theorem dL_lineAt_14 : decode cL_lineAt 14 = .ok (.ireturn, 1) := by decide +kernel
theorem dL_lineAt_15 : decode cL_lineAt 15 = .ok (.iconst 0, 1) := by decide +kernel
theorem dL_lineAt_16 : decode cL_lineAt 16 = .ok (.ireturn, 1) := by decide +kernel
set_option maxRecDepth 20000 in
theorem ggL_meanWeight_X12_meanWeight : GoodIn wsL_meanWeight wsX12_meanWeight := goodIn_ca (goodIn_ca (goodIn_r _ [6, 7, 8, 9, 10, 11, 12, 13, 14, 15, 16, 17, 18, 5, 19, 20, 21, 22, 23, 24, 25, 26, 27, 28, 29, 30, 31, 32, 33, 34, 35, 36, 37, 38, 39, 40, 41, 42, 43, 44, 45, 46, 47, 48, 49, 50, 51, 52, 53, 54, 55, 56] (by decide +kernel) (by decide +kernel)) (goodIn_sub (fun _ h => List.mem_cons_of_mem _ (List.mem_append_right _ h)) (by decide +kernel))) (goodIn_sub (fun _ h => List.mem_cons_of_mem _ (List.mem_append_left _ (List.mem_append_right _ h))) (by decide +kernel))
set_option maxRecDepth 20000 in
theorem gL_meanWeight_X12_meanWeight : GoodIn wsL_meanWeight (wsV RL 126 RX12 yX12_meanWeight wsX12_meanWeight) := goodIn_app (goodIn_of _ (by decide +kernel)) ggL_meanWeight_X12_meanWeight
theorem dL_meanWeight_0 : decode cL_meanWeight 0 = .ok (.aload_n 1, 1) := by decide +kernel
theorem dL_meanWeight_1 : decode cL_meanWeight 1 = .ok (.iconst 0, 1) := by decide +kernel
theorem dL_meanWeight_2 : decode cL_meanWeight 2 = .ok (.aload_n 0, 1) := by decide +kernel
theorem dL_meanWeight_3 : decode cL_meanWeight 3 = .ok (.invokevirtual 126, 3) := by decide +kernel
theorem dL_meanWeight_6 : decode cL_meanWeight 6 = .ok (.dastore, 1) := by decide +kernel
theorem dL_meanWeight_7 : decode cL_meanWeight 7 = .ok (.goto 6, 3) := by decide +kernel
theorem dL_meanWeight_10 : decode cL_meanWeight 10 = .ok (.astore_n 2, 1) := by decide +kernel
theorem dL_meanWeight_11 : decode cL_meanWeight 11 = .ok (.iconst 1, 1) := by decide +kernel
theorem dL_meanWeight_12 : decode cL_meanWeight 12 = .ok (.ireturn, 1) := by decide +kernel
theorem dL_meanWeight_13 : decode cL_meanWeight 13 = .ok (.iconst 0, 1) := by decide +kernel
theorem dL_meanWeight_14 : decode cL_meanWeight 14 = .ok (.ireturn, 1) := by decide +kernel
set_option maxRecDepth 20000 in
theorem ggL_meanWeightBits_X12_meanWeightBits : GoodIn wsL_meanWeightBits wsX12_meanWeightBits := goodIn_ca (goodIn_ca (goodIn_r _ [6, 7, 8, 9, 5, 10, 11, 12, 13, 14, 15, 16, 17, 18, 19, 20, 21, 22, 23, 24, 25, 26, 27, 28, 29, 30, 31, 32, 33, 34, 35, 36, 37, 38, 39, 40, 41, 42, 43, 44, 45, 46, 47, 48, 49, 50, 51, 52, 53, 54, 55, 56, 57, 58, 59, 60, 61, 62, 63, 64, 65, 66, 67, 68, 69, 70, 71, 72] (by decide +kernel) (by decide +kernel)) (goodIn_sub (fun _ h => List.mem_cons_of_mem _ (List.mem_append_right _ h)) (by decide +kernel))) (goodIn_sub (fun _ h => List.mem_cons_of_mem _ (List.mem_append_left _ (List.mem_append_right _ h))) (by decide +kernel))
set_option maxRecDepth 20000 in
theorem gL_meanWeightBits_X12_meanWeightBits : GoodIn wsL_meanWeightBits (wsV RL 132 RX12 yX12_meanWeightBits wsX12_meanWeightBits) := goodIn_app (goodIn_of _ (by decide +kernel)) ggL_meanWeightBits_X12_meanWeightBits
theorem dL_meanWeightBits_0 : decode cL_meanWeightBits 0 = .ok (.aload_n 1, 1) := by decide +kernel
theorem dL_meanWeightBits_1 : decode cL_meanWeightBits 1 = .ok (.iconst 0, 1) := by decide +kernel
theorem dL_meanWeightBits_2 : decode cL_meanWeightBits 2 = .ok (.aload_n 0, 1) := by decide +kernel
theorem dL_meanWeightBits_3 : decode cL_meanWeightBits 3 = .ok (.invokevirtual 132, 3) := by decide +kernel
theorem dL_meanWeightBits_6 : decode cL_meanWeightBits 6 = .ok (.lastore, 1) := by decide +kernel
theorem dL_meanWeightBits_7 : decode cL_meanWeightBits 7 = .ok (.goto 6, 3) := by decide +kernel
theorem dL_meanWeightBits_10 : decode cL_meanWeightBits 10 = .ok (.astore_n 2, 1) := by decide +kernel
theorem dL_meanWeightBits_11 : decode cL_meanWeightBits 11 = .ok (.iconst 1, 1) := by decide +kernel
theorem dL_meanWeightBits_12 : decode cL_meanWeightBits 12 = .ok (.ireturn, 1) := by decide +kernel
theorem dL_meanWeightBits_13 : decode cL_meanWeightBits 13 = .ok (.iconst 0, 1) := by decide +kernel
theorem dL_meanWeightBits_14 : decode cL_meanWeightBits 14 = .ok (.ireturn, 1) := by decide +kernel
set_option maxRecDepth 20000 in
theorem ggL_undo_X12_undo : GoodIn wsL_undo wsX12_undo := goodIn_ca (goodIn_r _ [6, 7, 8, 9, 10, 11, 12, 13, 14, 15, 16, 17, 18, 19, 20, 21, 22, 23, 24, 25, 26, 27, 28] (by decide +kernel) (by decide +kernel)) (goodIn_sub (fun _ h => List.mem_cons_of_mem _ (List.mem_append_right _ h)) (by decide +kernel))
set_option maxRecDepth 20000 in
theorem gL_undo_X12_undo : GoodIn wsL_undo (wsV RL 136 RX12 yX12_undo wsX12_undo) := goodIn_app (goodIn_of _ (by decide +kernel)) ggL_undo_X12_undo
theorem dL_undo_0 : decode cL_undo 0 = .ok (.aload_n 1, 1) := by decide +kernel
theorem dL_undo_1 : decode cL_undo 1 = .ok (.iconst 0, 1) := by decide +kernel
theorem dL_undo_2 : decode cL_undo 2 = .ok (.aload_n 0, 1) := by decide +kernel
theorem dL_undo_3 : decode cL_undo 3 = .ok (.invokevirtual 136, 3) := by decide +kernel
theorem dL_undo_6 : decode cL_undo 6 = .ok (.i2l, 1) := by decide +kernel
theorem dL_undo_7 : decode cL_undo 7 = .ok (.lastore, 1) := by decide +kernel
theorem dL_undo_8 : decode cL_undo 8 = .ok (.goto 6, 3) := by decide +kernel
theorem dL_undo_11 : decode cL_undo 11 = .ok (.astore_n 2, 1) := by decide +kernel
theorem dL_undo_12 : decode cL_undo 12 = .ok (.iconst 1, 1) := by decide +kernel
theorem dL_undo_13 : decode cL_undo 13 = .ok (.ireturn, 1) := by decide +kernel
theorem dL_undo_14 : decode cL_undo 14 = .ok (.iconst 0, 1) := by decide +kernel
theorem dL_undo_15 : decode cL_undo 15 = .ok (.ireturn, 1) := by decide +kernel
set_option maxRecDepth 20000 in
theorem ggL_restore_X12_restore : GoodIn wsL_restore wsX12_restore := goodIn_ca (goodIn_ca (goodIn_r _ [6, 7, 8, 9, 10, 11, 12, 13, 14, 15, 16, 17, 18, 19, 20, 21, 22, 23, 24, 25, 26, 27, 28, 29, 30, 31, 32, 33, 34, 35, 36, 37, 38, 39, 40, 41, 42, 43, 44, 45, 46, 47, 48, 49, 50, 51, 52, 53, 54, 55, 56, 57, 58, 59, 60, 61, 62, 63, 64, 65, 66, 67, 68, 69, 70, 71, 72, 73, 74, 75, 76, 77, 78, 79, 80, 81, 82, 83, 84, 85, 86, 87, 88, 89, 90, 91] (by decide +kernel) (by decide +kernel)) (goodIn_sub (fun _ h => List.mem_cons_of_mem _ (List.mem_append_right _ h)) (by decide +kernel))) (goodIn_sub (fun _ h => List.mem_cons_of_mem _ (List.mem_append_left _ (List.mem_append_right _ h))) (by decide +kernel))
set_option maxRecDepth 20000 in
theorem gL_restore_X12_restore : GoodIn wsL_restore (wsV RL 139 RX12 yX12_restore wsX12_restore) := goodIn_app (goodIn_of _ (by decide +kernel)) ggL_restore_X12_restore
theorem dL_restore_0 : decode cL_restore 0 = .ok (.aload_n 1, 1) := by decide +kernel
theorem dL_restore_1 : decode cL_restore 1 = .ok (.iconst 0, 1) := by decide +kernel
theorem dL_restore_2 : decode cL_restore 2 = .ok (.aload_n 0, 1) := by decide +kernel
theorem dL_restore_3 : decode cL_restore 3 = .ok (.invokevirtual 139, 3) := by decide +kernel
theorem dL_restore_6 : decode cL_restore 6 = .ok (.i2l, 1) := by decide +kernel
theorem dL_restore_7 : decode cL_restore 7 = .ok (.lastore, 1) := by decide +kernel
theorem dL_restore_8 : decode cL_restore 8 = .ok (.goto 6, 3) := by decide +kernel
theorem dL_restore_11 : decode cL_restore 11 = .ok (.astore_n 2, 1) := by decide +kernel
theorem dL_restore_12 : decode cL_restore 12 = .ok (.iconst 1, 1) := by decide +kernel
theorem dL_restore_13 : decode cL_restore 13 = .ok (.ireturn, 1) := by decide +kernel
theorem dL_restore_14 : decode cL_restore 14 = .ok (.iconst 0, 1) := by decide +kernel
theorem dL_restore_15 : decode cL_restore 15 = .ok (.ireturn, 1) := by decide +kernel
set_option maxRecDepth 20000 in
theorem ggL_law_X12_init : GoodIn wsL_law wsX12_init := goodIn_ca (goodIn_r _ [10, 11, 12, 13, 14, 15, 16, 17, 18, 19, 20, 21, 22, 23, 24, 25, 26, 27, 28, 29, 30, 31, 32, 33, 34, 35, 36, 37, 38, 39, 40, 41, 42, 43, 44, 45, 46, 47, 48, 49, 50, 51, 52, 53, 54, 55, 56, 57, 58, 59, 60, 61, 62, 63, 64, 65, 66, 67, 68, 69, 70, 71, 72, 73, 74, 75, 76, 77, 78, 79, 80, 81, 82, 83, 84, 85, 86, 87, 88, 89, 90, 91, 92, 93, 94, 95, 96, 97, 98, 99, 100, 101, 102, 103, 104, 105, 106, 107, 108, 109, 110, 111, 112, 113, 114, 115, 116, 117, 118, 119, 6, 120, 121, 122, 123, 1507, 1508, 1509, 1510, 1511, 1512, 1513, 1462, 1463, 1464, 1465, 1466, 1467, 1468, 1469, 1470, 1471, 1472, 1473, 1474, 1475, 1476, 1477, 1514, 1515, 1516, 1517, 1518, 1519, 1520, 1521, 1522, 1523, 1524, 1525, 1526, 1527, 1528, 1529, 1530, 1531, 1532, 1533, 1534, 1535, 1536, 1537, 1538] (by decide +kernel) (by decide +kernel)) (goodIn_sub (fun _ h => List.mem_append_left _ (List.mem_append_left _ (List.mem_append_left _ (List.mem_append_left _ (List.mem_append_left _ (List.mem_append_left _ (List.mem_append_right _ h))))))) (by decide +kernel))
set_option maxRecDepth 20000 in
theorem gL_law_X12_init : GoodIn wsL_law (wsX12_init) := ggL_law_X12_init
set_option maxRecDepth 20000 in
theorem ggL_law_X13_init : GoodIn wsL_law wsX13_init := goodIn_ca (goodIn_r _ [126, 127, 12, 13, 128, 129, 72, 130, 131, 132, 133, 134, 65, 135, 136, 137, 138, 139, 140, 6, 141, 142, 143, 144, 145, 146, 147, 148, 149, 5, 150, 1478, 1479, 1480, 1481, 1482, 1483, 1484, 1485, 1486, 1487, 1488, 1489, 1490, 1491, 1492, 1493, 1494, 1495, 1496, 1497, 1498, 1499, 1500, 1501, 1502, 1503, 1504, 1505, 1506] (by decide +kernel) (by decide +kernel)) (goodIn_sub (fun _ h => List.mem_append_left _ (List.mem_append_left _ (List.mem_append_left _ (List.mem_append_left _ (List.mem_append_left _ (List.mem_append_left _ (List.mem_append_right _ h))))))) (by decide +kernel))
set_option maxRecDepth 20000 in
theorem gL_law_X13_init : GoodIn wsL_law (wsX13_init) := ggL_law_X13_init
set_option maxRecDepth 20000 in
theorem ggL_law_L_addClaim : GoodIn wsL_law wsL_addClaim := goodIn_ca (goodIn_ca (goodIn_ca (goodIn_ca (goodIn_ca (goodIn_ca (goodIn_r _ [154, 155, 156, 157, 158, 159, 2, 160, 18, 17, 161, 162, 163, 164, 16, 165, 53, 57, 61, 62, 63, 64, 166, 167, 168, 52, 169, 71, 73, 170, 171, 172, 173, 74, 75, 76, 77, 174, 175, 176, 56, 177, 82, 83, 178, 179, 180, 60, 181, 88, 89, 90, 91, 182, 183, 184, 185, 186, 187, 188, 189, 19, 20, 21, 190, 191, 192, 193, 194, 195, 196, 197, 198, 199, 200, 201, 202, 203, 204, 205, 206, 1462, 1463, 1464, 1465, 1466, 1467, 1468, 1469, 1470, 1471, 1472, 1473, 1474, 1475, 1476, 1477, 1507, 1508, 1509, 1510, 1511, 1512, 1513, 1527, 1528, 1529, 1530, 1531, 1532, 1533, 1534, 1535, 1536, 1537, 1538] (by decide +kernel) (by decide +kernel)) (goodIn_sub (fun _ h => List.mem_append_left _ (List.mem_append_left _ (List.mem_append_left _ (List.mem_append_left _ (List.mem_append_left _ (List.mem_append_left _ (List.mem_append_right _ h))))))) (by decide +kernel))) (goodIn_sub (fun _ h => List.mem_append_left _ (List.mem_append_left _ (List.mem_append_left _ (List.mem_append_left _ (List.mem_append_left _ (List.mem_append_right _ h)))))) (by decide +kernel))) (goodIn_sub (fun _ h => List.mem_append_left _ (List.mem_append_left _ (List.mem_append_left _ (List.mem_append_left _ (List.mem_append_right _ h))))) (by decide +kernel))) (goodIn_sub (fun _ h => List.mem_append_left _ (List.mem_append_left _ (List.mem_append_left _ (List.mem_append_right _ h)))) (by decide +kernel))) (goodIn_sub (fun _ h => List.mem_append_left _ (List.mem_append_left _ (List.mem_append_right _ h))) (by decide +kernel))) (goodIn_sub (fun _ h => List.mem_append_left _ (List.mem_append_right _ h)) (by decide +kernel))
set_option maxRecDepth 20000 in
theorem gL_law_L_addClaim : GoodIn wsL_law (va_wsS RL 146 yL_addClaim wsL_addClaim) := goodIn_app (goodIn_of _ (by decide +kernel)) ggL_law_L_addClaim
set_option maxRecDepth 20000 in
theorem ggL_law_X13_addClaim : GoodIn wsL_law wsX13_addClaim := goodIn_ca (goodIn_r _ [210, 211, 212, 213, 5, 214, 215, 131, 130, 136, 135, 216, 217, 218, 219, 220, 221, 222, 223, 224, 225, 226, 227, 228, 229, 230, 231, 232, 233, 234, 235, 236, 237, 238, 239, 240, 133, 138, 1478, 1479, 1480, 1481, 1482, 1483, 1484, 1485, 1486, 1487, 1488, 1489, 1490, 1491, 1492, 1493, 1494, 1495, 1496, 1497, 1498, 1499, 1500, 1501, 1502, 1503, 1504, 1505, 1506] (by decide +kernel) (by decide +kernel)) (goodIn_sub (fun _ h => List.mem_append_left _ (List.mem_append_left _ (List.mem_append_left _ (List.mem_append_left _ (List.mem_append_left _ (List.mem_append_left _ (List.mem_append_right _ h))))))) (by decide +kernel))
set_option maxRecDepth 20000 in
theorem gL_law_X13_addClaim : GoodIn wsL_law (wsV RL 151 RX13 yX13_addClaim wsX13_addClaim) := goodIn_app (goodIn_of _ (by decide +kernel)) ggL_law_X13_addClaim
set_option maxRecDepth 20000 in
theorem ggL_law_X13_thrown : GoodIn wsL_law wsX13_thrown := goodIn_r _ [244, 215, 1478, 1479, 1480, 1481, 1482, 1483, 1484, 1485, 1486, 1487, 1488, 1489, 1490, 1491, 1492, 1493, 1494, 1495, 1496, 1497, 1498, 1499, 1500, 1501, 1502, 1503, 1504, 1505, 1506] (by decide +kernel) (by decide +kernel)
set_option maxRecDepth 20000 in
theorem gL_law_X13_thrown : GoodIn wsL_law (wsV RL 152 RX13 yX13_thrown wsX13_thrown) := goodIn_app (goodIn_of _ (by decide +kernel)) ggL_law_X13_thrown
set_option maxRecDepth 20000 in
theorem ggL_law_L_setAttack : GoodIn wsL_law wsL_setAttack := goodIn_ca (goodIn_ca (goodIn_ca (goodIn_ca (goodIn_ca (goodIn_ca (goodIn_r _ [247, 248, 249, 250, 251, 2, 252, 18, 17, 161, 162, 163, 164, 16, 165, 53, 57, 61, 62, 63, 64, 166, 167, 168, 52, 169, 71, 73, 170, 171, 172, 173, 74, 75, 76, 77, 174, 175, 176, 56, 177, 82, 83, 178, 179, 180, 60, 181, 88, 89, 90, 91, 253, 254, 255, 256, 257, 258, 259, 260, 261, 262, 263, 264, 265, 186, 187, 188, 189, 19, 20, 21, 190, 191, 192, 193, 194, 195, 196, 197, 198, 199, 200, 201, 202, 203, 204, 205, 206, 1462, 1463, 1464, 1465, 1466, 1467, 1468, 1469, 1470, 1471, 1472, 1473, 1474, 1475, 1476, 1477, 1507, 1508, 1509, 1510, 1511, 1512, 1513, 1527, 1528, 1529, 1530, 1531, 1532, 1533, 1534, 1535, 1536, 1537, 1538] (by decide +kernel) (by decide +kernel)) (goodIn_sub (fun _ h => List.mem_append_left _ (List.mem_append_left _ (List.mem_append_left _ (List.mem_append_left _ (List.mem_append_left _ (List.mem_append_left _ (List.mem_append_right _ h))))))) (by decide +kernel))) (goodIn_sub (fun _ h => List.mem_append_left _ (List.mem_append_left _ (List.mem_append_left _ (List.mem_append_left _ (List.mem_append_left _ (List.mem_append_right _ h)))))) (by decide +kernel))) (goodIn_sub (fun _ h => List.mem_append_left _ (List.mem_append_left _ (List.mem_append_left _ (List.mem_append_left _ (List.mem_append_right _ h))))) (by decide +kernel))) (goodIn_sub (fun _ h => List.mem_append_left _ (List.mem_append_left _ (List.mem_append_left _ (List.mem_append_right _ h)))) (by decide +kernel))) (goodIn_sub (fun _ h => List.mem_append_left _ (List.mem_append_left _ (List.mem_append_right _ h))) (by decide +kernel))) (goodIn_sub (fun _ h => List.mem_append_left _ (List.mem_append_right _ h)) (by decide +kernel))
set_option maxRecDepth 20000 in
theorem gL_law_L_setAttack : GoodIn wsL_law (va_wsS RL 155 yL_setAttack wsL_setAttack) := goodIn_app (goodIn_of _ (by decide +kernel)) ggL_law_L_setAttack
set_option maxRecDepth 20000 in
theorem ggL_law_X13_setAttack : GoodIn wsL_law wsX13_setAttack := goodIn_ca (goodIn_r _ [269, 211, 212, 213, 5, 214, 215, 131, 130, 136, 135, 216, 217, 218, 219, 220, 221, 270, 271, 272, 273, 274, 275, 276, 277, 226, 227, 228, 229, 230, 231, 232, 278, 279, 280, 281, 233, 234, 235, 236, 237, 238, 239, 240, 133, 138, 1478, 1479, 1480, 1481, 1482, 1483, 1484, 1485, 1486, 1487, 1488, 1489, 1490, 1491, 1492, 1493, 1494, 1495, 1496, 1497, 1498, 1499, 1500, 1501, 1502, 1503, 1504, 1505, 1506] (by decide +kernel) (by decide +kernel)) (goodIn_sub (fun _ h => List.mem_append_left _ (List.mem_append_left _ (List.mem_append_left _ (List.mem_append_left _ (List.mem_append_left _ (List.mem_append_left _ (List.mem_append_right _ h))))))) (by decide +kernel))
set_option maxRecDepth 20000 in
theorem gL_law_X13_setAttack : GoodIn wsL_law (wsV RL 158 RX13 yX13_setAttack wsX13_setAttack) := goodIn_app (goodIn_of _ (by decide +kernel)) ggL_law_X13_setAttack
set_option maxRecDepth 20000 in
theorem ggL_law_L_setLayer : GoodIn wsL_law wsL_setLayer := goodIn_ca (goodIn_ca (goodIn_ca (goodIn_ca (goodIn_ca (goodIn_ca (goodIn_r _ [284, 248, 285, 286, 287, 2, 288, 18, 17, 161, 162, 163, 164, 16, 165, 53, 57, 61, 62, 63, 64, 166, 167, 168, 52, 169, 71, 73, 170, 171, 172, 173, 74, 75, 76, 77, 174, 175, 176, 56, 177, 82, 83, 178, 179, 180, 60, 181, 88, 89, 90, 91, 289, 290, 291, 292, 257, 258, 259, 260, 293, 294, 186, 187, 188, 189, 19, 20, 21, 190, 191, 192, 193, 194, 195, 196, 197, 198, 199, 200, 201, 202, 203, 204, 205, 206, 1462, 1463, 1464, 1465, 1466, 1467, 1468, 1469, 1470, 1471, 1472, 1473, 1474, 1475, 1476, 1477, 1507, 1508, 1509, 1510, 1511, 1512, 1513, 1527, 1528, 1529, 1530, 1531, 1532, 1533, 1534, 1535, 1536, 1537, 1538] (by decide +kernel) (by decide +kernel)) (goodIn_sub (fun _ h => List.mem_append_left _ (List.mem_append_left _ (List.mem_append_left _ (List.mem_append_left _ (List.mem_append_left _ (List.mem_append_left _ (List.mem_append_right _ h))))))) (by decide +kernel))) (goodIn_sub (fun _ h => List.mem_append_left _ (List.mem_append_left _ (List.mem_append_left _ (List.mem_append_left _ (List.mem_append_left _ (List.mem_append_right _ h)))))) (by decide +kernel))) (goodIn_sub (fun _ h => List.mem_append_left _ (List.mem_append_left _ (List.mem_append_left _ (List.mem_append_left _ (List.mem_append_right _ h))))) (by decide +kernel))) (goodIn_sub (fun _ h => List.mem_append_left _ (List.mem_append_left _ (List.mem_append_left _ (List.mem_append_right _ h)))) (by decide +kernel))) (goodIn_sub (fun _ h => List.mem_append_left _ (List.mem_append_left _ (List.mem_append_right _ h))) (by decide +kernel))) (goodIn_sub (fun _ h => List.mem_append_left _ (List.mem_append_right _ h)) (by decide +kernel))
set_option maxRecDepth 20000 in
theorem gL_law_L_setLayer : GoodIn wsL_law (va_wsS RL 159 yL_setLayer wsL_setLayer) := goodIn_app (goodIn_of _ (by decide +kernel)) ggL_law_L_setLayer
set_option maxRecDepth 20000 in
theorem ggL_law_X13_setLayer : GoodIn wsL_law wsX13_setLayer := goodIn_ca (goodIn_r _ [298, 211, 212, 213, 5, 214, 215, 131, 130, 136, 135, 216, 217, 218, 219, 220, 221, 299, 300, 301, 302, 274, 275, 276, 277, 226, 227, 228, 229, 230, 231, 232, 233, 234, 235, 236, 237, 238, 239, 240, 133, 138, 1478, 1479, 1480, 1481, 1482, 1483, 1484, 1485, 1486, 1487, 1488, 1489, 1490, 1491, 1492, 1493, 1494, 1495, 1496, 1497, 1498, 1499, 1500, 1501, 1502, 1503, 1504, 1505, 1506] (by decide +kernel) (by decide +kernel)) (goodIn_sub (fun _ h => List.mem_append_left _ (List.mem_append_left _ (List.mem_append_left _ (List.mem_append_left _ (List.mem_append_left _ (List.mem_append_left _ (List.mem_append_right _ h))))))) (by decide +kernel))
set_option maxRecDepth 20000 in
theorem gL_law_X13_setLayer : GoodIn wsL_law (wsV RL 162 RX13 yX13_setLayer wsX13_setLayer) := goodIn_app (goodIn_of _ (by decide +kernel)) ggL_law_X13_setLayer
set_option maxRecDepth 20000 in
theorem ggL_law_X12_claimCount : GoodIn wsL_law wsX12_claimCount := goodIn_r _ [306, 17, 161, 307, 1462, 1463, 1464, 1465, 1466, 1467, 1468, 1469, 1470, 1471, 1472, 1473, 1474, 1475, 1476, 1477, 1507, 1508, 1509, 1510, 1511, 1512, 1513, 1527, 1528, 1529, 1530, 1531, 1532] (by decide +kernel) (by decide +kernel)
set_option maxRecDepth 20000 in
theorem gL_law_X12_claimCount : GoodIn wsL_law (wsV RL 163 RX12 yX12_claimCount wsX12_claimCount) := goodIn_app (goodIn_of _ (by decide +kernel)) ggL_law_X12_claimCount
set_option maxRecDepth 20000 in
theorem ggL_law_X13_claimCount : GoodIn wsL_law wsX13_claimCount := goodIn_ca (goodIn_r _ [311, 312, 313, 314, 5, 315, 215, 130, 1478, 1479, 1480, 1481, 1482, 1483, 1484, 1485, 1486, 1487, 1488, 1489, 1490, 1491, 1492, 1493, 1494, 1495, 1496, 1497, 1498, 1499, 1500, 1501, 1502, 1503, 1504, 1505, 1506] (by decide +kernel) (by decide +kernel)) (goodIn_sub (fun _ h => List.mem_append_left _ (List.mem_append_left _ (List.mem_append_left _ (List.mem_append_left _ (List.mem_append_left _ (List.mem_append_left _ (List.mem_append_right _ h))))))) (by decide +kernel))
set_option maxRecDepth 20000 in
theorem gL_law_X13_claimCount : GoodIn wsL_law (wsV RL 166 RX13 yX13_claimCount wsX13_claimCount) := goodIn_app (goodIn_of _ (by decide +kernel)) ggL_law_X13_claimCount
set_option maxRecDepth 20000 in
theorem ggL_law_L_weightOf : GoodIn wsL_law wsL_weightOf := goodIn_ca (goodIn_ca (goodIn_r _ [318, 248, 319, 320, 321, 2, 322, 17, 161, 323, 324, 325, 326, 327, 197, 198, 328, 258, 259, 52, 260, 71, 1462, 1463, 1464, 1465, 1466, 1467, 1468, 1469, 1470, 1471, 1472, 1473, 1474, 1475, 1476, 1477, 1507, 1508, 1509, 1510, 1511, 1512, 1513, 1527, 1528, 1529, 1530, 1531, 1532] (by decide +kernel) (by decide +kernel)) (goodIn_sub (fun _ h => List.mem_append_left _ (List.mem_append_left _ (List.mem_append_left _ (List.mem_append_left _ (List.mem_append_left _ (List.mem_append_left _ (List.mem_append_right _ h))))))) (by decide +kernel))) (goodIn_sub (fun _ h => List.mem_append_left _ (List.mem_append_left _ (List.mem_append_left _ (List.mem_append_left _ (List.mem_append_left _ (List.mem_append_right _ h)))))) (by decide +kernel))
set_option maxRecDepth 20000 in
theorem gL_law_L_weightOf : GoodIn wsL_law (va_wsS RL 167 yL_weightOf wsL_weightOf) := goodIn_app (goodIn_of _ (by decide +kernel)) ggL_law_L_weightOf
set_option maxRecDepth 20000 in
theorem ggL_law_X13_weightOf : GoodIn wsL_law wsX13_weightOf := goodIn_ca (goodIn_r _ [332, 130, 333, 334, 335, 5, 336, 215, 274, 275, 276, 277, 226, 227, 228, 233, 234, 235, 1478, 1479, 1480, 1481, 1482, 1483, 1484, 1485, 1486, 1487, 1488, 1489, 1490, 1491, 1492, 1493, 1494, 1495, 1496, 1497, 1498, 1499, 1500, 1501, 1502, 1503, 1504, 1505, 1506] (by decide +kernel) (by decide +kernel)) (goodIn_sub (fun _ h => List.mem_append_left _ (List.mem_append_left _ (List.mem_append_left _ (List.mem_append_left _ (List.mem_append_left _ (List.mem_append_left _ (List.mem_append_right _ h))))))) (by decide +kernel))
set_option maxRecDepth 20000 in
theorem gL_law_X13_weightOf : GoodIn wsL_law (wsV RL 169 RX13 yX13_weightOf wsX13_weightOf) := goodIn_app (goodIn_of _ (by decide +kernel)) ggL_law_X13_weightOf
set_option maxRecDepth 20000 in
theorem ggL_law_L_layerOf : GoodIn wsL_law wsL_layerOf := goodIn_ca (goodIn_ca (goodIn_r _ [339, 248, 340, 341, 342, 2, 343, 17, 161, 344, 324, 325, 326, 327, 197, 198, 328, 258, 259, 52, 260, 71, 1462, 1463, 1464, 1465, 1466, 1467, 1468, 1469, 1470, 1471, 1472, 1473, 1474, 1475, 1476, 1477, 1507, 1508, 1509, 1510, 1511, 1512, 1513, 1527, 1528, 1529, 1530, 1531, 1532] (by decide +kernel) (by decide +kernel)) (goodIn_sub (fun _ h => List.mem_append_left _ (List.mem_append_left _ (List.mem_append_left _ (List.mem_append_left _ (List.mem_append_left _ (List.mem_append_left _ (List.mem_append_right _ h))))))) (by decide +kernel))) (goodIn_sub (fun _ h => List.mem_append_left _ (List.mem_append_left _ (List.mem_append_left _ (List.mem_append_left _ (List.mem_append_left _ (List.mem_append_right _ h)))))) (by decide +kernel))
set_option maxRecDepth 20000 in
theorem gL_law_L_layerOf : GoodIn wsL_law (va_wsS RL 170 yL_layerOf wsL_layerOf) := goodIn_app (goodIn_of _ (by decide +kernel)) ggL_law_L_layerOf
set_option maxRecDepth 20000 in
theorem ggL_law_X13_layerOf : GoodIn wsL_law wsX13_layerOf := goodIn_ca (goodIn_r _ [348, 130, 333, 334, 335, 5, 336, 215, 274, 275, 276, 277, 226, 227, 228, 233, 234, 235, 1478, 1479, 1480, 1481, 1482, 1483, 1484, 1485, 1486, 1487, 1488, 1489, 1490, 1491, 1492, 1493, 1494, 1495, 1496, 1497, 1498, 1499, 1500, 1501, 1502, 1503, 1504, 1505, 1506] (by decide +kernel) (by decide +kernel)) (goodIn_sub (fun _ h => List.mem_append_left _ (List.mem_append_left _ (List.mem_append_left _ (List.mem_append_left _ (List.mem_append_left _ (List.mem_append_left _ (List.mem_append_right _ h))))))) (by decide +kernel))
set_option maxRecDepth 20000 in
theorem gL_law_X13_layerOf : GoodIn wsL_law (wsV RL 172 RX13 yX13_layerOf wsX13_layerOf) := goodIn_app (goodIn_of _ (by decide +kernel)) ggL_law_X13_layerOf
set_option maxRecDepth 20000 in
theorem ggL_law_L_attacks : GoodIn wsL_law wsL_attacks := goodIn_ca (goodIn_ca (goodIn_r _ [351, 248, 352, 353, 354, 2, 355, 17, 161, 356, 324, 325, 326, 327, 197, 198, 328, 258, 259, 52, 260, 71, 357, 261, 262, 263, 264, 265, 1462, 1463, 1464, 1465, 1466, 1467, 1468, 1469, 1470, 1471, 1472, 1473, 1474, 1475, 1476, 1477, 1507, 1508, 1509, 1510, 1511, 1512, 1513, 1527, 1528, 1529, 1530, 1531, 1532] (by decide +kernel) (by decide +kernel)) (goodIn_sub (fun _ h => List.mem_append_left _ (List.mem_append_left _ (List.mem_append_left _ (List.mem_append_left _ (List.mem_append_left _ (List.mem_append_left _ (List.mem_append_right _ h))))))) (by decide +kernel))) (goodIn_sub (fun _ h => List.mem_append_left _ (List.mem_append_left _ (List.mem_append_left _ (List.mem_append_left _ (List.mem_append_left _ (List.mem_append_right _ h)))))) (by decide +kernel))
set_option maxRecDepth 20000 in
theorem gL_law_L_attacks : GoodIn wsL_law (va_wsS RL 173 yL_attacks wsL_attacks) := goodIn_app (goodIn_of _ (by decide +kernel)) ggL_law_L_attacks
set_option maxRecDepth 20000 in
theorem ggL_law_X13_attacks : GoodIn wsL_law wsX13_attacks := goodIn_ca (goodIn_r _ [361, 215, 274, 275, 276, 5, 277, 130, 226, 227, 228, 278, 279, 280, 281, 233, 234, 235, 1478, 1479, 1480, 1481, 1482, 1483, 1484, 1485, 1486, 1487, 1488, 1489, 1490, 1491, 1492, 1493, 1494, 1495, 1496, 1497, 1498, 1499, 1500, 1501, 1502, 1503, 1504, 1505, 1506] (by decide +kernel) (by decide +kernel)) (goodIn_sub (fun _ h => List.mem_append_left _ (List.mem_append_left _ (List.mem_append_left _ (List.mem_append_left _ (List.mem_append_left _ (List.mem_append_left _ (List.mem_append_right _ h))))))) (by decide +kernel))
set_option maxRecDepth 20000 in
theorem gL_law_X13_attacks : GoodIn wsL_law (wsV RL 175 RX13 yX13_attacks wsX13_attacks) := goodIn_app (goodIn_of _ (by decide +kernel)) ggL_law_X13_attacks
set_option maxRecDepth 20000 in
theorem ggL_law_X12_acceptedBits : GoodIn wsL_law wsX12_acceptedBits := goodIn_ca (goodIn_r _ [365, 17, 161, 366, 367, 36, 368, 369, 370, 371, 372, 373, 374, 375, 376, 52, 377, 71, 75, 261, 2, 262, 263, 264, 265, 1462, 1463, 1464, 1465, 1466, 1467, 1468, 1469, 1470, 1471, 1472, 1473, 1474, 1475, 1476, 1477, 1507, 1508, 1509, 1510, 1511, 1512, 1513, 1527, 1528, 1529, 1530, 1531, 1532] (by decide +kernel) (by decide +kernel)) (goodIn_sub (fun _ h => List.mem_append_left _ (List.mem_append_left _ (List.mem_append_left _ (List.mem_append_left _ (List.mem_append_left _ (List.mem_append_left _ (List.mem_append_right _ h))))))) (by decide +kernel))
set_option maxRecDepth 20000 in
theorem gL_law_X12_acceptedBits : GoodIn wsL_law (wsV RL 176 RX12 yX12_acceptedBits wsX12_acceptedBits) := goodIn_app (goodIn_of _ (by decide +kernel)) ggL_law_X12_acceptedBits
set_option maxRecDepth 20000 in
theorem ggL_law_X13_acceptedBits : GoodIn wsL_law wsX13_acceptedBits := goodIn_ca (goodIn_r _ [381, 215, 382, 383, 384, 5, 385, 130, 386, 387, 388, 389, 390, 391, 392, 393, 233, 234, 235, 278, 279, 280, 281, 1478, 1479, 1480, 1481, 1482, 1483, 1484, 1485, 1486, 1487, 1488, 1489, 1490, 1491, 1492, 1493, 1494, 1495, 1496, 1497, 1498, 1499, 1500, 1501, 1502, 1503, 1504, 1505, 1506] (by decide +kernel) (by decide +kernel)) (goodIn_sub (fun _ h => List.mem_append_left _ (List.mem_append_left _ (List.mem_append_left _ (List.mem_append_left _ (List.mem_append_left _ (List.mem_append_left _ (List.mem_append_right _ h))))))) (by decide +kernel))
set_option maxRecDepth 20000 in
theorem gL_law_X13_acceptedBits : GoodIn wsL_law (wsV RL 179 RX13 yX13_acceptedBits wsX13_acceptedBits) := goodIn_app (goodIn_of _ (by decide +kernel)) ggL_law_X13_acceptedBits
set_option maxRecDepth 20000 in
theorem ggL_law_X12_acceptedBitsByLabels : GoodIn wsL_law wsX12_acceptedBitsByLabels := goodIn_ca (goodIn_r _ [397, 37, 17, 161, 398, 399, 400, 36, 401, 369, 109, 373, 402, 403, 404, 405, 406, 407, 408, 409, 410, 411, 412, 413, 261, 2, 262, 263, 264, 265, 414, 415, 416, 417, 1462, 1463, 1464, 1465, 1466, 1467, 1468, 1469, 1470, 1471, 1472, 1473, 1474, 1475, 1476, 1477, 1507, 1508, 1509, 1510, 1511, 1512, 1513, 1527, 1528, 1529, 1530, 1531, 1532, 1521] (by decide +kernel) (by decide +kernel)) (goodIn_sub (fun _ h => List.mem_append_left _ (List.mem_append_left _ (List.mem_append_left _ (List.mem_append_left _ (List.mem_append_left _ (List.mem_append_left _ (List.mem_append_right _ h))))))) (by decide +kernel))
set_option maxRecDepth 20000 in
theorem gL_law_X12_acceptedBitsByLabels : GoodIn wsL_law (wsV RL 180 RX12 yX12_acceptedBitsByLabels wsX12_acceptedBitsByLabels) := goodIn_app (goodIn_of _ (by decide +kernel)) ggL_law_X12_acceptedBitsByLabels
set_option maxRecDepth 20000 in
theorem ggL_law_X13_acceptedBitsByLabels : GoodIn wsL_law wsX13_acceptedBitsByLabels := goodIn_ca (goodIn_r _ [421, 422, 379, 380, 5, 381, 215, 382, 383, 384, 385, 130, 386, 387, 388, 389, 390, 391, 392, 393, 233, 234, 235, 278, 279, 280, 281, 1478, 1479, 1480, 1481, 1482, 1483, 1484, 1485, 1486, 1487, 1488, 1489, 1490, 1491, 1492, 1493, 1494, 1495, 1496, 1497, 1498, 1499, 1500, 1501, 1502, 1503, 1504, 1505, 1506] (by decide +kernel) (by decide +kernel)) (goodIn_sub (fun _ h => List.mem_append_left _ (List.mem_append_left _ (List.mem_append_left _ (List.mem_append_left _ (List.mem_append_left _ (List.mem_append_left _ (List.mem_append_right _ h))))))) (by decide +kernel))
set_option maxRecDepth 20000 in
theorem gL_law_X13_acceptedBitsByLabels : GoodIn wsL_law (wsV RL 183 RX13 yX13_acceptedBitsByLabels wsX13_acceptedBitsByLabels) := goodIn_app (goodIn_of _ (by decide +kernel)) ggL_law_X13_acceptedBitsByLabels
set_option maxRecDepth 20000 in
theorem ggL_law_L_isRejected : GoodIn wsL_law wsL_isRejected := goodIn_ca (goodIn_ca (goodIn_r _ [425, 248, 426, 427, 428, 2, 429, 324, 325, 326, 327, 197, 198, 17, 161, 328, 258, 259, 52, 260, 71, 430, 431, 432, 433, 434, 363, 364, 365, 366, 367, 36, 368, 369, 370, 371, 372, 373, 374, 375, 376, 377, 75, 261, 262, 263, 264, 265, 435, 357, 1462, 1463, 1464, 1465, 1466, 1467, 1468, 1469, 1470, 1471, 1472, 1473, 1474, 1475, 1476, 1477, 1507, 1508, 1509, 1510, 1511, 1512, 1513, 1527, 1528, 1529, 1530, 1531, 1532] (by decide +kernel) (by decide +kernel)) (goodIn_sub (fun _ h => List.mem_append_left _ (List.mem_append_left _ (List.mem_append_left _ (List.mem_append_left _ (List.mem_append_left _ (List.mem_append_left _ (List.mem_append_right _ h))))))) (by decide +kernel))) (goodIn_sub (fun _ h => List.mem_append_left _ (List.mem_append_left _ (List.mem_append_left _ (List.mem_append_left _ (List.mem_append_left _ (List.mem_append_right _ h)))))) (by decide +kernel))
set_option maxRecDepth 20000 in
theorem gL_law_L_isRejected : GoodIn wsL_law (va_wsS RL 184 yL_isRejected wsL_isRejected) := goodIn_app (goodIn_of _ (by decide +kernel)) ggL_law_L_isRejected
set_option maxRecDepth 20000 in
theorem ggL_law_X13_isRejected : GoodIn wsL_law wsX13_isRejected := goodIn_ca (goodIn_r _ [439, 333, 334, 335, 5, 336, 215, 274, 275, 276, 277, 130, 226, 227, 228, 382, 383, 384, 385, 386, 387, 388, 389, 390, 391, 392, 393, 233, 234, 235, 278, 279, 280, 281, 1478, 1479, 1480, 1481, 1482, 1483, 1484, 1485, 1486, 1487, 1488, 1489, 1490, 1491, 1492, 1493, 1494, 1495, 1496, 1497, 1498, 1499, 1500, 1501, 1502, 1503, 1504, 1505, 1506] (by decide +kernel) (by decide +kernel)) (goodIn_sub (fun _ h => List.mem_append_left _ (List.mem_append_left _ (List.mem_append_left _ (List.mem_append_left _ (List.mem_append_left _ (List.mem_append_left _ (List.mem_append_right _ h))))))) (by decide +kernel))
set_option maxRecDepth 20000 in
theorem gL_law_X13_isRejected : GoodIn wsL_law (wsV RL 186 RX13 yX13_isRejected wsX13_isRejected) := goodIn_app (goodIn_of _ (by decide +kernel)) ggL_law_X13_isRejected
set_option maxRecDepth 20000 in
theorem ggL_law_X12_undecidedCount : GoodIn wsL_law wsX12_undecidedCount := goodIn_ca (goodIn_r _ [443, 17, 161, 444, 445, 446, 52, 447, 71, 264, 2, 265, 434, 363, 364, 365, 366, 367, 36, 368, 369, 370, 371, 372, 373, 374, 375, 376, 377, 75, 261, 262, 263, 430, 431, 432, 433, 435, 448, 404, 405, 406, 407, 408, 409, 1462, 1463, 1464, 1465, 1466, 1467, 1468, 1469, 1470, 1471, 1472, 1473, 1474, 1475, 1476, 1477, 1507, 1508, 1509, 1510, 1511, 1512, 1513, 1527, 1528, 1529, 1530, 1531, 1532] (by decide +kernel) (by decide +kernel)) (goodIn_sub (fun _ h => List.mem_append_left _ (List.mem_append_left _ (List.mem_append_left _ (List.mem_append_left _ (List.mem_append_left _ (List.mem_append_left _ (List.mem_append_right _ h))))))) (by decide +kernel))
set_option maxRecDepth 20000 in
theorem gL_law_X12_undecidedCount : GoodIn wsL_law (wsV RL 187 RX12 yX12_undecidedCount wsX12_undecidedCount) := goodIn_app (goodIn_of _ (by decide +kernel)) ggL_law_X12_undecidedCount
set_option maxRecDepth 20000 in
theorem ggL_law_X13_undecidedCount : GoodIn wsL_law wsX13_undecidedCount := goodIn_ca (goodIn_r _ [452, 215, 130, 382, 383, 384, 5, 385, 386, 387, 388, 389, 390, 391, 392, 393, 233, 234, 235, 278, 279, 280, 281, 453, 454, 455, 1478, 1479, 1480, 1481, 1482, 1483, 1484, 1485, 1486, 1487, 1488, 1489, 1490, 1491, 1492, 1493, 1494, 1495, 1496, 1497, 1498, 1499, 1500, 1501, 1502, 1503, 1504, 1505, 1506] (by decide +kernel) (by decide +kernel)) (goodIn_sub (fun _ h => List.mem_append_left _ (List.mem_append_left _ (List.mem_append_left _ (List.mem_append_left _ (List.mem_append_left _ (List.mem_append_left _ (List.mem_append_right _ h))))))) (by decide +kernel))
set_option maxRecDepth 20000 in
theorem gL_law_X13_undecidedCount : GoodIn wsL_law (wsV RL 190 RX13 yX13_undecidedCount wsX13_undecidedCount) := goodIn_app (goodIn_of _ (by decide +kernel)) ggL_law_X13_undecidedCount
set_option maxRecDepth 20000 in
theorem ggL_law_X12_positions : GoodIn wsL_law wsX12_positions := goodIn_ca (goodIn_r _ [459, 17, 161, 460, 461, 462, 463, 464, 445, 446, 52, 447, 71, 264, 2, 265, 465, 466, 467, 468, 375, 376, 377, 75, 261, 262, 263, 469, 470, 471, 472, 76, 1462, 1463, 1464, 1465, 1466, 1467, 1468, 1469, 1470, 1471, 1472, 1473, 1474, 1475, 1476, 1477, 1507, 1508, 1509, 1510, 1511, 1512, 1513, 1527, 1528, 1529, 1530, 1531, 1532] (by decide +kernel) (by decide +kernel)) (goodIn_sub (fun _ h => List.mem_append_left _ (List.mem_append_left _ (List.mem_append_left _ (List.mem_append_left _ (List.mem_append_left _ (List.mem_append_left _ (List.mem_append_right _ h))))))) (by decide +kernel))
set_option maxRecDepth 20000 in
theorem gL_law_X12_positions : GoodIn wsL_law (wsV RL 191 RX12 yX12_positions wsX12_positions) := goodIn_app (goodIn_of _ (by decide +kernel)) ggL_law_X12_positions
set_option maxRecDepth 20000 in
theorem ggL_law_X13_positions : GoodIn wsL_law wsX13_positions := goodIn_ca (goodIn_r _ [476, 215, 130, 477, 478, 479, 5, 480, 390, 391, 392, 393, 233, 234, 235, 386, 387, 388, 389, 278, 279, 280, 281, 1478, 1479, 1480, 1481, 1482, 1483, 1484, 1485, 1486, 1487, 1488, 1489, 1490, 1491, 1492, 1493, 1494, 1495, 1496, 1497, 1498, 1499, 1500, 1501, 1502, 1503, 1504, 1505, 1506] (by decide +kernel) (by decide +kernel)) (goodIn_sub (fun _ h => List.mem_append_left _ (List.mem_append_left _ (List.mem_append_left _ (List.mem_append_left _ (List.mem_append_left _ (List.mem_append_left _ (List.mem_append_right _ h))))))) (by decide +kernel))
set_option maxRecDepth 20000 in
theorem gL_law_X13_positions : GoodIn wsL_law (wsV RL 194 RX13 yX13_positions wsX13_positions) := goodIn_app (goodIn_of _ (by decide +kernel)) ggL_law_X13_positions
set_option maxRecDepth 20000 in
theorem ggL_law_X12_positionsByDeciding : GoodIn wsL_law wsX12_positionsByDeciding := goodIn_ca (goodIn_r _ [484, 17, 161, 485, 486, 462, 487, 488, 489, 490, 491, 492, 493, 469, 470, 471, 52, 472, 71, 76, 261, 2, 262, 263, 264, 265, 468, 375, 376, 377, 75, 1462, 1463, 1464, 1465, 1466, 1467, 1468, 1469, 1470, 1471, 1472, 1473, 1474, 1475, 1476, 1477, 1507, 1508, 1509, 1510, 1511, 1512, 1513, 1527, 1528, 1529, 1530, 1531, 1532] (by decide +kernel) (by decide +kernel)) (goodIn_sub (fun _ h => List.mem_append_left _ (List.mem_append_left _ (List.mem_append_left _ (List.mem_append_left _ (List.mem_append_left _ (List.mem_append_left _ (List.mem_append_right _ h))))))) (by decide +kernel))
set_option maxRecDepth 20000 in
theorem gL_law_X12_positionsByDeciding : GoodIn wsL_law (wsV RL 195 RX12 yX12_positionsByDeciding wsX12_positionsByDeciding) := goodIn_app (goodIn_of _ (by decide +kernel)) ggL_law_X12_positionsByDeciding
set_option maxRecDepth 20000 in
theorem ggL_law_X13_positionsByDeciding : GoodIn wsL_law wsX13_positionsByDeciding := goodIn_ca (goodIn_r _ [497, 498, 474, 475, 5, 476, 215, 130, 477, 478, 479, 480, 390, 391, 392, 393, 233, 234, 235, 386, 387, 388, 389, 278, 279, 280, 281, 1478, 1479, 1480, 1481, 1482, 1483, 1484, 1485, 1486, 1487, 1488, 1489, 1490, 1491, 1492, 1493, 1494, 1495, 1496, 1497, 1498, 1499, 1500, 1501, 1502, 1503, 1504, 1505, 1506] (by decide +kernel) (by decide +kernel)) (goodIn_sub (fun _ h => List.mem_append_left _ (List.mem_append_left _ (List.mem_append_left _ (List.mem_append_left _ (List.mem_append_left _ (List.mem_append_left _ (List.mem_append_right _ h))))))) (by decide +kernel))
set_option maxRecDepth 20000 in
theorem gL_law_X13_positionsByDeciding : GoodIn wsL_law (wsV RL 198 RX13 yX13_positionsByDeciding wsX13_positionsByDeciding) := goodIn_app (goodIn_of _ (by decide +kernel)) ggL_law_X13_positionsByDeciding
set_option maxRecDepth 20000 in
theorem ggL_law_X12_heaviestWeight : GoodIn wsL_law wsX12_heaviestWeight := goodIn_ca (goodIn_r _ [502, 17, 161, 503, 504, 505, 2, 506, 507, 508, 462, 509, 464, 445, 446, 52, 447, 71, 264, 265, 465, 466, 467, 468, 375, 376, 377, 75, 261, 262, 263, 469, 470, 471, 472, 76, 510, 511, 512, 513, 514, 515, 516, 73, 517, 1462, 1463, 1464, 1465, 1466, 1467, 1468, 1469, 1470, 1471, 1472, 1473, 1474, 1475, 1476, 1477, 1507, 1508, 1509, 1510, 1511, 1512, 1513, 1527, 1528, 1529, 1530, 1531, 1532] (by decide +kernel) (by decide +kernel)) (goodIn_sub (fun _ h => List.mem_append_left _ (List.mem_append_left _ (List.mem_append_left _ (List.mem_append_left _ (List.mem_append_left _ (List.mem_append_left _ (List.mem_append_right _ h))))))) (by decide +kernel))
set_option maxRecDepth 20000 in
theorem gL_law_X12_heaviestWeight : GoodIn wsL_law (wsV RL 199 RX12 yX12_heaviestWeight wsX12_heaviestWeight) := goodIn_app (goodIn_of _ (by decide +kernel)) ggL_law_X12_heaviestWeight
set_option maxRecDepth 20000 in
theorem ggL_law_X13_heaviestWeight : GoodIn wsL_law wsX13_heaviestWeight := goodIn_ca (goodIn_r _ [521, 215, 522, 523, 524, 5, 525, 130, 526, 527, 528, 529, 233, 234, 235, 477, 478, 479, 480, 390, 391, 392, 393, 386, 387, 388, 389, 278, 279, 280, 281, 1478, 1479, 1480, 1481, 1482, 1483, 1484, 1485, 1486, 1487, 1488, 1489, 1490, 1491, 1492, 1493, 1494, 1495, 1496, 1497, 1498, 1499, 1500, 1501, 1502, 1503, 1504, 1505, 1506] (by decide +kernel) (by decide +kernel)) (goodIn_sub (fun _ h => List.mem_append_left _ (List.mem_append_left _ (List.mem_append_left _ (List.mem_append_left _ (List.mem_append_left _ (List.mem_append_left _ (List.mem_append_right _ h))))))) (by decide +kernel))
set_option maxRecDepth 20000 in
theorem gL_law_X13_heaviestWeight : GoodIn wsL_law (wsV RL 202 RX13 yX13_heaviestWeight wsX13_heaviestWeight) := goodIn_app (goodIn_of _ (by decide +kernel)) ggL_law_X13_heaviestWeight
set_option maxRecDepth 20000 in
theorem ggL_law_X12_heaviestBits : GoodIn wsL_law wsX12_heaviestBits := goodIn_ca (goodIn_r _ [506, 17, 161, 507, 508, 462, 509, 464, 445, 446, 52, 447, 71, 264, 2, 265, 465, 466, 467, 468, 375, 376, 377, 75, 261, 262, 263, 469, 470, 471, 472, 76, 510, 511, 512, 513, 514, 515, 516, 73, 1462, 1463, 1464, 1465, 1466, 1467, 1468, 1469, 1470, 1471, 1472, 1473, 1474, 1475, 1476, 1477, 1507, 1508, 1509, 1510, 1511, 1512, 1513, 1527, 1528, 1529, 1530, 1531, 1532] (by decide +kernel) (by decide +kernel)) (goodIn_sub (fun _ h => List.mem_append_left _ (List.mem_append_left _ (List.mem_append_left _ (List.mem_append_left _ (List.mem_append_left _ (List.mem_append_left _ (List.mem_append_right _ h))))))) (by decide +kernel))
set_option maxRecDepth 20000 in
theorem gL_law_X12_heaviestBits : GoodIn wsL_law (wsV RL 203 RX12 yX12_heaviestBits wsX12_heaviestBits) := goodIn_app (goodIn_of _ (by decide +kernel)) ggL_law_X12_heaviestBits
set_option maxRecDepth 20000 in
theorem ggL_law_X13_heaviestBits : GoodIn wsL_law wsX13_heaviestBits := goodIn_ca (goodIn_r _ [534, 215, 522, 523, 524, 5, 525, 130, 526, 527, 528, 529, 233, 234, 235, 477, 478, 479, 480, 390, 391, 392, 393, 386, 387, 388, 389, 278, 279, 280, 281, 1478, 1479, 1480, 1481, 1482, 1483, 1484, 1485, 1486, 1487, 1488, 1489, 1490, 1491, 1492, 1493, 1494, 1495, 1496, 1497, 1498, 1499, 1500, 1501, 1502, 1503, 1504, 1505, 1506] (by decide +kernel) (by decide +kernel)) (goodIn_sub (fun _ h => List.mem_append_left _ (List.mem_append_left _ (List.mem_append_left _ (List.mem_append_left _ (List.mem_append_left _ (List.mem_append_left _ (List.mem_append_right _ h))))))) (by decide +kernel))
set_option maxRecDepth 20000 in
theorem gL_law_X13_heaviestBits : GoodIn wsL_law (wsV RL 206 RX13 yX13_heaviestBits wsX13_heaviestBits) := goodIn_app (goodIn_of _ (by decide +kernel)) ggL_law_X13_heaviestBits
set_option maxRecDepth 20000 in
theorem ggL_law_L_isPosition : GoodIn wsL_law wsL_isPosition := goodIn_ca (goodIn_ca (goodIn_r _ [537, 155, 538, 539, 540, 2, 541, 199, 200, 17, 161, 444, 445, 446, 52, 447, 71, 264, 265, 542, 466, 462, 467, 468, 375, 376, 377, 75, 261, 262, 263, 469, 470, 471, 472, 76, 1462, 1463, 1464, 1465, 1466, 1467, 1468, 1469, 1470, 1471, 1472, 1473, 1474, 1475, 1476, 1477, 1507, 1508, 1509, 1510, 1511, 1512, 1513, 1527, 1528, 1529, 1530, 1531, 1532] (by decide +kernel) (by decide +kernel)) (goodIn_sub (fun _ h => List.mem_append_left _ (List.mem_append_left _ (List.mem_append_left _ (List.mem_append_left _ (List.mem_append_left _ (List.mem_append_left _ (List.mem_append_right _ h))))))) (by decide +kernel))) (goodIn_sub (fun _ h => List.mem_append_left _ (List.mem_append_left _ (List.mem_append_left _ (List.mem_append_left _ (List.mem_append_right _ h))))) (by decide +kernel))
set_option maxRecDepth 20000 in
theorem gL_law_L_isPosition : GoodIn wsL_law (va_wsS RL 207 yL_isPosition wsL_isPosition) := goodIn_app (goodIn_of _ (by decide +kernel)) ggL_law_L_isPosition
set_option maxRecDepth 20000 in
theorem ggL_law_X13_isPosition : GoodIn wsL_law wsX13_isPosition := goodIn_ca (goodIn_r _ [546, 130, 215, 477, 478, 479, 5, 480, 390, 391, 392, 393, 233, 234, 235, 386, 387, 388, 389, 278, 279, 280, 281, 1478, 1479, 1480, 1481, 1482, 1483, 1484, 1485, 1486, 1487, 1488, 1489, 1490, 1491, 1492, 1493, 1494, 1495, 1496, 1497, 1498, 1499, 1500, 1501, 1502, 1503, 1504, 1505, 1506] (by decide +kernel) (by decide +kernel)) (goodIn_sub (fun _ h => List.mem_append_left _ (List.mem_append_left _ (List.mem_append_left _ (List.mem_append_left _ (List.mem_append_left _ (List.mem_append_left _ (List.mem_append_right _ h))))))) (by decide +kernel))
set_option maxRecDepth 20000 in
theorem gL_law_X13_isPosition : GoodIn wsL_law (wsV RL 209 RX13 yX13_isPosition wsX13_isPosition) := goodIn_app (goodIn_of _ (by decide +kernel)) ggL_law_X13_isPosition
set_option maxRecDepth 20000 in
theorem ggL_law_X12_circles : GoodIn wsL_law wsX12_circles := goodIn_ca (goodIn_r _ [550, 17, 161, 551, 552, 40, 553, 554, 261, 2, 262, 263, 264, 265, 555, 556, 557, 558, 559, 560, 561, 375, 376, 52, 377, 71, 75, 562, 470, 471, 472, 76, 1462, 1463, 1464, 1465, 1466, 1467, 1468, 1469, 1470, 1471, 1472, 1473, 1474, 1475, 1476, 1477, 1507, 1508, 1509, 1510, 1511, 1512, 1513, 1527, 1528, 1529, 1530, 1531, 1532] (by decide +kernel) (by decide +kernel)) (goodIn_sub (fun _ h => List.mem_append_left _ (List.mem_append_left _ (List.mem_append_left _ (List.mem_append_left _ (List.mem_append_left _ (List.mem_append_left _ (List.mem_append_right _ h))))))) (by decide +kernel))
set_option maxRecDepth 20000 in
theorem gL_law_X12_circles : GoodIn wsL_law (wsV RL 210 RX12 yX12_circles wsX12_circles) := goodIn_app (goodIn_of _ (by decide +kernel)) ggL_law_X12_circles
set_option maxRecDepth 20000 in
theorem ggL_law_X13_circles : GoodIn wsL_law wsX13_circles := goodIn_ca (goodIn_r _ [566, 215, 130, 567, 568, 569, 5, 570, 134, 233, 234, 235, 571, 572, 573, 574, 1478, 1479, 1480, 1481, 1482, 1483, 1484, 1485, 1486, 1487, 1488, 1489, 1490, 1491, 1492, 1493, 1494, 1495, 1496, 1497, 1498, 1499, 1500, 1501, 1502, 1503, 1504, 1505, 1506] (by decide +kernel) (by decide +kernel)) (goodIn_sub (fun _ h => List.mem_append_left _ (List.mem_append_left _ (List.mem_append_left _ (List.mem_append_left _ (List.mem_append_left _ (List.mem_append_left _ (List.mem_append_right _ h))))))) (by decide +kernel))
set_option maxRecDepth 20000 in
theorem gL_law_X13_circles : GoodIn wsL_law (wsV RL 213 RX13 yX13_circles wsX13_circles) := goodIn_app (goodIn_of _ (by decide +kernel)) ggL_law_X13_circles
set_option maxRecDepth 20000 in
theorem ggL_law_X12_circlesByReach : GoodIn wsL_law wsX12_circlesByReach := goodIn_ca (goodIn_r _ [578, 41, 17, 161, 579, 580, 581, 40, 582, 554, 583, 584, 585, 586, 114, 587, 264, 2, 265, 261, 262, 263, 588, 589, 590, 591, 1462, 1463, 1464, 1465, 1466, 1467, 1468, 1469, 1470, 1471, 1472, 1473, 1474, 1475, 1476, 1477, 1507, 1508, 1509, 1510, 1511, 1512, 1513, 1527, 1528, 1529, 1530, 1531, 1532, 1522] (by decide +kernel) (by decide +kernel)) (goodIn_sub (fun _ h => List.mem_append_left _ (List.mem_append_left _ (List.mem_append_left _ (List.mem_append_left _ (List.mem_append_left _ (List.mem_append_left _ (List.mem_append_right _ h))))))) (by decide +kernel))
set_option maxRecDepth 20000 in
theorem gL_law_X12_circlesByReach : GoodIn wsL_law (wsV RL 214 RX12 yX12_circlesByReach wsX12_circlesByReach) := goodIn_app (goodIn_of _ (by decide +kernel)) ggL_law_X12_circlesByReach
set_option maxRecDepth 20000 in
theorem ggL_law_X13_circlesByReach : GoodIn wsL_law wsX13_circlesByReach := goodIn_ca (goodIn_r _ [595, 596, 564, 565, 5, 566, 215, 130, 567, 568, 569, 570, 134, 233, 234, 235, 571, 572, 573, 574, 1478, 1479, 1480, 1481, 1482, 1483, 1484, 1485, 1486, 1487, 1488, 1489, 1490, 1491, 1492, 1493, 1494, 1495, 1496, 1497, 1498, 1499, 1500, 1501, 1502, 1503, 1504, 1505, 1506] (by decide +kernel) (by decide +kernel)) (goodIn_sub (fun _ h => List.mem_append_left _ (List.mem_append_left _ (List.mem_append_left _ (List.mem_append_left _ (List.mem_append_left _ (List.mem_append_left _ (List.mem_append_right _ h))))))) (by decide +kernel))
set_option maxRecDepth 20000 in
theorem gL_law_X13_circlesByReach : GoodIn wsL_law (wsV RL 217 RX13 yX13_circlesByReach wsX13_circlesByReach) := goodIn_app (goodIn_of _ (by decide +kernel)) ggL_law_X13_circlesByReach
set_option maxRecDepth 20000 in
theorem ggL_law_L_circleSize : GoodIn wsL_law wsL_circleSize := goodIn_ca (goodIn_ca (goodIn_r _ [599, 248, 600, 601, 602, 2, 603, 17, 161, 324, 325, 326, 327, 197, 198, 328, 258, 259, 52, 260, 71, 604, 556, 40, 557, 558, 559, 560, 554, 264, 265, 561, 375, 376, 377, 75, 261, 262, 263, 562, 470, 471, 472, 76, 448, 404, 405, 406, 407, 408, 409, 1462, 1463, 1464, 1465, 1466, 1467, 1468, 1469, 1470, 1471, 1472, 1473, 1474, 1475, 1476, 1477, 1507, 1508, 1509, 1510, 1511, 1512, 1513, 1527, 1528, 1529, 1530, 1531, 1532] (by decide +kernel) (by decide +kernel)) (goodIn_sub (fun _ h => List.mem_append_left _ (List.mem_append_left _ (List.mem_append_left _ (List.mem_append_left _ (List.mem_append_left _ (List.mem_append_left _ (List.mem_append_right _ h))))))) (by decide +kernel))) (goodIn_sub (fun _ h => List.mem_append_left _ (List.mem_append_left _ (List.mem_append_left _ (List.mem_append_left _ (List.mem_append_left _ (List.mem_append_right _ h)))))) (by decide +kernel))
set_option maxRecDepth 20000 in
theorem gL_law_L_circleSize : GoodIn wsL_law (va_wsS RL 218 yL_circleSize wsL_circleSize) := goodIn_app (goodIn_of _ (by decide +kernel)) ggL_law_L_circleSize
set_option maxRecDepth 20000 in
theorem ggL_law_X13_circleSize : GoodIn wsL_law wsX13_circleSize := goodIn_ca (goodIn_r _ [608, 333, 334, 335, 5, 336, 215, 274, 275, 276, 277, 130, 226, 227, 228, 567, 568, 569, 570, 134, 233, 234, 235, 571, 572, 573, 574, 453, 454, 455, 1478, 1479, 1480, 1481, 1482, 1483, 1484, 1485, 1486, 1487, 1488, 1489, 1490, 1491, 1492, 1493, 1494, 1495, 1496, 1497, 1498, 1499, 1500, 1501, 1502, 1503, 1504, 1505, 1506] (by decide +kernel) (by decide +kernel)) (goodIn_sub (fun _ h => List.mem_append_left _ (List.mem_append_left _ (List.mem_append_left _ (List.mem_append_left _ (List.mem_append_left _ (List.mem_append_left _ (List.mem_append_right _ h))))))) (by decide +kernel))
set_option maxRecDepth 20000 in
theorem gL_law_X13_circleSize : GoodIn wsL_law (wsV RL 220 RX13 yX13_circleSize wsX13_circleSize) := goodIn_app (goodIn_of _ (by decide +kernel)) ggL_law_X13_circleSize
set_option maxRecDepth 20000 in
theorem ggL_law_L_chains : GoodIn wsL_law wsL_chains := goodIn_ca (goodIn_ca (goodIn_ca (goodIn_r _ [611, 248, 155, 612, 613, 614, 2, 615, 45, 17, 161, 616, 617, 618, 619, 199, 200, 324, 325, 326, 327, 197, 198, 328, 258, 259, 52, 260, 71, 620, 621, 622, 44, 623, 624, 122, 625, 626, 627, 628, 120, 629, 261, 262, 263, 264, 265, 630, 631, 632, 633, 634, 635, 636, 637, 123, 638, 639, 640, 641, 642, 643, 644, 645, 646, 647, 648, 649, 650, 121, 1462, 1463, 1464, 1465, 1466, 1467, 1468, 1469, 1470, 1471, 1472, 1473, 1474, 1475, 1476, 1477, 1507, 1508, 1509, 1510, 1511, 1512, 1513, 1527, 1528, 1529, 1530, 1531, 1532, 1523, 1524, 1525, 1526] (by decide +kernel) (by decide +kernel)) (goodIn_sub (fun _ h => List.mem_append_left _ (List.mem_append_left _ (List.mem_append_left _ (List.mem_append_left _ (List.mem_append_left _ (List.mem_append_left _ (List.mem_append_right _ h))))))) (by decide +kernel))) (goodIn_sub (fun _ h => List.mem_append_left _ (List.mem_append_left _ (List.mem_append_left _ (List.mem_append_left _ (List.mem_append_right _ h))))) (by decide +kernel))) (goodIn_sub (fun _ h => List.mem_append_left _ (List.mem_append_left _ (List.mem_append_left _ (List.mem_append_left _ (List.mem_append_left _ (List.mem_append_right _ h)))))) (by decide +kernel))
set_option maxRecDepth 20000 in
theorem gL_law_L_chains : GoodIn wsL_law (va_wsS RL 221 yL_chains wsL_chains) := goodIn_app (goodIn_of _ (by decide +kernel)) ggL_law_L_chains
set_option maxRecDepth 20000 in
theorem ggL_law_X13_chains : GoodIn wsL_law wsX13_chains := goodIn_ca (goodIn_r _ [654, 215, 141, 130, 142, 655, 274, 275, 276, 5, 277, 226, 227, 228, 278, 279, 280, 281, 233, 234, 235, 1478, 1479, 1480, 1481, 1482, 1483, 1484, 1485, 1486, 1487, 1488, 1489, 1490, 1491, 1492, 1493, 1494, 1495, 1496, 1497, 1498, 1499, 1500, 1501, 1502, 1503, 1504, 1505, 1506] (by decide +kernel) (by decide +kernel)) (goodIn_sub (fun _ h => List.mem_append_left _ (List.mem_append_left _ (List.mem_append_left _ (List.mem_append_left _ (List.mem_append_left _ (List.mem_append_left _ (List.mem_append_right _ h))))))) (by decide +kernel))
set_option maxRecDepth 20000 in
theorem gL_law_X13_chains : GoodIn wsL_law (wsV RL 224 RX13 yX13_chains wsX13_chains) := goodIn_app (goodIn_of _ (by decide +kernel)) ggL_law_X13_chains
set_option maxRecDepth 20000 in
theorem ggL_law_L_chainsBySteps : GoodIn wsL_law wsL_chainsBySteps := goodIn_ca (goodIn_ca (goodIn_ca (goodIn_r _ [658, 248, 155, 659, 660, 661, 2, 662, 45, 17, 161, 616, 617, 618, 619, 199, 200, 324, 325, 326, 327, 197, 198, 328, 258, 259, 52, 260, 71, 663, 664, 665, 44, 666, 624, 123, 667, 122, 630, 631, 632, 633, 668, 669, 670, 671, 642, 261, 262, 263, 264, 265, 643, 644, 645, 646, 1462, 1463, 1464, 1465, 1466, 1467, 1468, 1469, 1470, 1471, 1472, 1473, 1474, 1475, 1476, 1477, 1507, 1508, 1509, 1510, 1511, 1512, 1513, 1527, 1528, 1529, 1530, 1531, 1532, 1523, 1524, 1525, 1526] (by decide +kernel) (by decide +kernel)) (goodIn_sub (fun _ h => List.mem_append_left _ (List.mem_append_left _ (List.mem_append_left _ (List.mem_append_left _ (List.mem_append_left _ (List.mem_append_left _ (List.mem_append_right _ h))))))) (by decide +kernel))) (goodIn_sub (fun _ h => List.mem_append_left _ (List.mem_append_left _ (List.mem_append_left _ (List.mem_append_left _ (List.mem_append_right _ h))))) (by decide +kernel))) (goodIn_sub (fun _ h => List.mem_append_left _ (List.mem_append_left _ (List.mem_append_left _ (List.mem_append_left _ (List.mem_append_left _ (List.mem_append_right _ h)))))) (by decide +kernel))
set_option maxRecDepth 20000 in
theorem gL_law_L_chainsBySteps : GoodIn wsL_law (va_wsS RL 225 yL_chainsBySteps wsL_chainsBySteps) := goodIn_app (goodIn_of _ (by decide +kernel)) ggL_law_L_chainsBySteps
set_option maxRecDepth 20000 in
theorem ggL_law_X13_chainsBySteps : GoodIn wsL_law wsX13_chainsBySteps := goodIn_ca (goodIn_r _ [675, 676, 652, 653, 5, 654, 215, 141, 130, 142, 655, 274, 275, 276, 277, 226, 227, 228, 278, 279, 280, 281, 233, 234, 235, 1478, 1479, 1480, 1481, 1482, 1483, 1484, 1485, 1486, 1487, 1488, 1489, 1490, 1491, 1492, 1493, 1494, 1495, 1496, 1497, 1498, 1499, 1500, 1501, 1502, 1503, 1504, 1505, 1506] (by decide +kernel) (by decide +kernel)) (goodIn_sub (fun _ h => List.mem_append_left _ (List.mem_append_left _ (List.mem_append_left _ (List.mem_append_left _ (List.mem_append_left _ (List.mem_append_left _ (List.mem_append_right _ h))))))) (by decide +kernel))
set_option maxRecDepth 20000 in
theorem gL_law_X13_chainsBySteps : GoodIn wsL_law (wsV RL 227 RX13 yX13_chainsBySteps wsX13_chainsBySteps) := goodIn_app (goodIn_of _ (by decide +kernel)) ggL_law_X13_chainsBySteps
set_option maxRecDepth 20000 in
theorem ggL_law_L_setRack : GoodIn wsL_law wsL_setRack := goodIn_ca (goodIn_ca (goodIn_ca (goodIn_ca (goodIn_ca (goodIn_ca (goodIn_r _ [679, 248, 155, 156, 680, 681, 682, 2, 683, 18, 17, 684, 162, 163, 164, 16, 165, 53, 57, 61, 62, 63, 64, 166, 167, 168, 52, 169, 71, 73, 170, 171, 172, 173, 74, 75, 76, 77, 174, 175, 176, 56, 177, 82, 83, 178, 179, 180, 60, 181, 88, 89, 90, 91, 685, 686, 687, 688, 293, 294, 689, 690, 691, 692, 693, 694, 695, 186, 187, 188, 189, 19, 20, 21, 190, 191, 192, 193, 194, 195, 196, 197, 198, 199, 200, 201, 202, 203, 204, 205, 206, 1462, 1463, 1464, 1465, 1466, 1467, 1468, 1469, 1470, 1471, 1472, 1473, 1474, 1475, 1476, 1477, 1507, 1508, 1509, 1510, 1511, 1512, 1513, 1527, 1528, 1529, 1530, 1531, 1532, 1533, 1534, 1535, 1536, 1537, 1538] (by decide +kernel) (by decide +kernel)) (goodIn_sub (fun _ h => List.mem_append_left _ (List.mem_append_left _ (List.mem_append_left _ (List.mem_append_left _ (List.mem_append_left _ (List.mem_append_left _ (List.mem_append_right _ h))))))) (by decide +kernel))) (goodIn_sub (fun _ h => List.mem_append_left _ (List.mem_append_left _ (List.mem_append_left _ (List.mem_append_left _ (List.mem_append_left _ (List.mem_append_right _ h)))))) (by decide +kernel))) (goodIn_sub (fun _ h => List.mem_append_left _ (List.mem_append_left _ (List.mem_append_left _ (List.mem_append_left _ (List.mem_append_right _ h))))) (by decide +kernel))) (goodIn_sub (fun _ h => List.mem_append_left _ (List.mem_append_left _ (List.mem_append_left _ (List.mem_append_right _ h)))) (by decide +kernel))) (goodIn_sub (fun _ h => List.mem_append_left _ (List.mem_append_left _ (List.mem_append_right _ h))) (by decide +kernel))) (goodIn_sub (fun _ h => List.mem_append_left _ (List.mem_append_right _ h)) (by decide +kernel))
set_option maxRecDepth 20000 in
theorem gL_law_L_setRack : GoodIn wsL_law (va_wsS RL 228 yL_setRack wsL_setRack) := goodIn_app (goodIn_of _ (by decide +kernel)) ggL_law_L_setRack
set_option maxRecDepth 20000 in
theorem ggL_law_X13_setRack : GoodIn wsL_law wsX13_setRack := goodIn_ca (goodIn_r _ [699, 211, 212, 213, 5, 214, 215, 131, 130, 136, 135, 216, 217, 218, 219, 220, 221, 700, 701, 702, 703, 704, 705, 706, 226, 227, 228, 229, 230, 231, 232, 707, 708, 709, 710, 148, 149, 150, 236, 237, 238, 239, 240, 133, 138, 1478, 1479, 1480, 1481, 1482, 1483, 1484, 1485, 1486, 1487, 1488, 1489, 1490, 1491, 1492, 1493, 1494, 1495, 1496, 1497, 1498, 1499, 1500, 1501, 1502, 1503, 1504, 1505, 1506] (by decide +kernel) (by decide +kernel)) (goodIn_sub (fun _ h => List.mem_append_left _ (List.mem_append_left _ (List.mem_append_left _ (List.mem_append_left _ (List.mem_append_left _ (List.mem_append_left _ (List.mem_append_right _ h))))))) (by decide +kernel))
set_option maxRecDepth 20000 in
theorem gL_law_X13_setRack : GoodIn wsL_law (wsV RL 231 RX13 yX13_setRack wsX13_setRack) := goodIn_app (goodIn_of _ (by decide +kernel)) ggL_law_X13_setRack
set_option maxRecDepth 20000 in
theorem ggL_law_L_insert : GoodIn wsL_law wsL_insert := goodIn_ca (goodIn_ca (goodIn_ca (goodIn_ca (goodIn_ca (goodIn_ca (goodIn_r _ [713, 248, 155, 156, 714, 715, 716, 717, 2, 718, 18, 17, 162, 163, 164, 16, 165, 53, 57, 61, 62, 63, 64, 166, 167, 168, 52, 169, 71, 73, 170, 171, 172, 173, 74, 75, 76, 77, 174, 175, 176, 56, 177, 82, 83, 178, 179, 180, 60, 181, 88, 89, 90, 91, 719, 720, 721, 722, 723, 724, 725, 726, 293, 294, 727, 728, 729, 730, 731, 732, 689, 690, 691, 692, 693, 694, 695, 733, 734, 735, 736, 737, 191, 192, 193, 186, 187, 188, 189, 19, 20, 21, 190, 194, 195, 196, 197, 198, 199, 200, 201, 202, 203, 204, 205, 206, 1462, 1463, 1464, 1465, 1466, 1467, 1468, 1469, 1470, 1471, 1472, 1473, 1474, 1475, 1476, 1477, 1507, 1508, 1509, 1510, 1511, 1512, 1513, 1527, 1528, 1529, 1530, 1531, 1532, 1533, 1534, 1535, 1536, 1537, 1538] (by decide +kernel) (by decide +kernel)) (goodIn_sub (fun _ h => List.mem_append_left _ (List.mem_append_left _ (List.mem_append_left _ (List.mem_append_left _ (List.mem_append_left _ (List.mem_append_left _ (List.mem_append_right _ h))))))) (by decide +kernel))) (goodIn_sub (fun _ h => List.mem_append_left _ (List.mem_append_left _ (List.mem_append_left _ (List.mem_append_left _ (List.mem_append_left _ (List.mem_append_right _ h)))))) (by decide +kernel))) (goodIn_sub (fun _ h => List.mem_append_left _ (List.mem_append_left _ (List.mem_append_left _ (List.mem_append_left _ (List.mem_append_right _ h))))) (by decide +kernel))) (goodIn_sub (fun _ h => List.mem_append_left _ (List.mem_append_left _ (List.mem_append_left _ (List.mem_append_right _ h)))) (by decide +kernel))) (goodIn_sub (fun _ h => List.mem_append_left _ (List.mem_append_left _ (List.mem_append_right _ h))) (by decide +kernel))) (goodIn_sub (fun _ h => List.mem_append_left _ (List.mem_append_right _ h)) (by decide +kernel))
set_option maxRecDepth 20000 in
theorem gL_law_L_insert : GoodIn wsL_law (va_wsS RL 232 yL_insert wsL_insert) := goodIn_app (goodIn_of _ (by decide +kernel)) ggL_law_L_insert
set_option maxRecDepth 20000 in
theorem ggL_law_X13_insert : GoodIn wsL_law wsX13_insert := goodIn_ca (goodIn_r _ [741, 211, 212, 213, 5, 214, 215, 131, 130, 136, 135, 216, 217, 218, 219, 220, 221, 742, 743, 744, 745, 704, 705, 706, 226, 227, 228, 229, 230, 231, 232, 148, 149, 150, 746, 747, 748, 749, 750, 751, 752, 753, 707, 708, 709, 710, 236, 237, 238, 239, 240, 133, 138, 1478, 1479, 1480, 1481, 1482, 1483, 1484, 1485, 1486, 1487, 1488, 1489, 1490, 1491, 1492, 1493, 1494, 1495, 1496, 1497, 1498, 1499, 1500, 1501, 1502, 1503, 1504, 1505, 1506] (by decide +kernel) (by decide +kernel)) (goodIn_sub (fun _ h => List.mem_append_left _ (List.mem_append_left _ (List.mem_append_left _ (List.mem_append_left _ (List.mem_append_left _ (List.mem_append_left _ (List.mem_append_right _ h))))))) (by decide +kernel))
set_option maxRecDepth 20000 in
theorem gL_law_X13_insert : GoodIn wsL_law (wsV RL 235 RX13 yX13_insert wsX13_insert) := goodIn_app (goodIn_of _ (by decide +kernel)) ggL_law_X13_insert
set_option maxRecDepth 20000 in
theorem ggL_law_L_withdraw : GoodIn wsL_law wsL_withdraw := goodIn_ca (goodIn_ca (goodIn_ca (goodIn_ca (goodIn_ca (goodIn_ca (goodIn_r _ [756, 248, 757, 758, 759, 760, 2, 761, 18, 17, 162, 163, 164, 16, 165, 53, 57, 61, 62, 63, 64, 166, 167, 168, 52, 169, 71, 73, 170, 171, 172, 173, 74, 75, 76, 77, 174, 175, 176, 56, 177, 82, 83, 178, 179, 180, 60, 181, 88, 89, 90, 91, 762, 763, 764, 765, 766, 767, 768, 769, 293, 294, 727, 728, 733, 734, 735, 736, 737, 191, 192, 193, 186, 187, 188, 189, 19, 20, 21, 190, 194, 195, 196, 197, 198, 199, 200, 201, 202, 203, 204, 205, 206, 1462, 1463, 1464, 1465, 1466, 1467, 1468, 1469, 1470, 1471, 1472, 1473, 1474, 1475, 1476, 1477, 1507, 1508, 1509, 1510, 1511, 1512, 1513, 1527, 1528, 1529, 1530, 1531, 1532, 1533, 1534, 1535, 1536, 1537, 1538] (by decide +kernel) (by decide +kernel)) (goodIn_sub (fun _ h => List.mem_append_left _ (List.mem_append_left _ (List.mem_append_left _ (List.mem_append_left _ (List.mem_append_left _ (List.mem_append_left _ (List.mem_append_right _ h))))))) (by decide +kernel))) (goodIn_sub (fun _ h => List.mem_append_left _ (List.mem_append_left _ (List.mem_append_left _ (List.mem_append_left _ (List.mem_append_left _ (List.mem_append_right _ h)))))) (by decide +kernel))) (goodIn_sub (fun _ h => List.mem_append_left _ (List.mem_append_left _ (List.mem_append_left _ (List.mem_append_left _ (List.mem_append_right _ h))))) (by decide +kernel))) (goodIn_sub (fun _ h => List.mem_append_left _ (List.mem_append_left _ (List.mem_append_left _ (List.mem_append_right _ h)))) (by decide +kernel))) (goodIn_sub (fun _ h => List.mem_append_left _ (List.mem_append_left _ (List.mem_append_right _ h))) (by decide +kernel))) (goodIn_sub (fun _ h => List.mem_append_left _ (List.mem_append_right _ h)) (by decide +kernel))
set_option maxRecDepth 20000 in
theorem gL_law_L_withdraw : GoodIn wsL_law (va_wsS RL 236 yL_withdraw wsL_withdraw) := goodIn_app (goodIn_of _ (by decide +kernel)) ggL_law_L_withdraw
set_option maxRecDepth 20000 in
theorem ggL_law_X13_withdraw : GoodIn wsL_law wsX13_withdraw := goodIn_ca (goodIn_r _ [773, 211, 212, 213, 5, 214, 215, 131, 130, 136, 135, 216, 217, 218, 219, 220, 221, 774, 775, 776, 777, 704, 705, 706, 226, 227, 228, 229, 230, 231, 232, 148, 149, 150, 750, 751, 752, 753, 236, 237, 238, 239, 240, 133, 138, 1478, 1479, 1480, 1481, 1482, 1483, 1484, 1485, 1486, 1487, 1488, 1489, 1490, 1491, 1492, 1493, 1494, 1495, 1496, 1497, 1498, 1499, 1500, 1501, 1502, 1503, 1504, 1505, 1506] (by decide +kernel) (by decide +kernel)) (goodIn_sub (fun _ h => List.mem_append_left _ (List.mem_append_left _ (List.mem_append_left _ (List.mem_append_left _ (List.mem_append_left _ (List.mem_append_left _ (List.mem_append_right _ h))))))) (by decide +kernel))
set_option maxRecDepth 20000 in
theorem gL_law_X13_withdraw : GoodIn wsL_law (wsV RL 238 RX13 yX13_withdraw wsX13_withdraw) := goodIn_app (goodIn_of _ (by decide +kernel)) ggL_law_X13_withdraw
set_option maxRecDepth 20000 in
theorem ggL_law_L_remarkAt : GoodIn wsL_law wsL_remarkAt := goodIn_ca (goodIn_ca (goodIn_r _ [780, 248, 781, 782, 783, 2, 784, 197, 198, 17, 684, 785, 786, 293, 294, 787, 727, 728, 1462, 1463, 1464, 1465, 1466, 1467, 1468, 1469, 1470, 1471, 1472, 1473, 1474, 1475, 1476, 1477, 1507, 1508, 1509, 1510, 1511, 1512, 1513, 1533, 1534] (by decide +kernel) (by decide +kernel)) (goodIn_sub (fun _ h => List.mem_append_left _ (List.mem_append_left _ (List.mem_append_left _ (List.mem_append_left _ (List.mem_append_left _ (List.mem_append_left _ (List.mem_append_right _ h))))))) (by decide +kernel))) (goodIn_sub (fun _ h => List.mem_append_left _ (List.mem_append_left _ (List.mem_append_left _ (List.mem_append_left _ (List.mem_append_left _ (List.mem_append_right _ h)))))) (by decide +kernel))
set_option maxRecDepth 20000 in
theorem gL_law_L_remarkAt : GoodIn wsL_law (va_wsS RL 239 yL_remarkAt wsL_remarkAt) := goodIn_app (goodIn_of _ (by decide +kernel)) ggL_law_L_remarkAt
set_option maxRecDepth 20000 in
theorem ggL_law_X13_remarkAt : GoodIn wsL_law wsX13_remarkAt := goodIn_ca (goodIn_r _ [791, 215, 130, 704, 705, 5, 706, 226, 227, 228, 148, 149, 150, 1478, 1479, 1480, 1481, 1482, 1483, 1484, 1485, 1486, 1487, 1488, 1489, 1490, 1491, 1492, 1493, 1494, 1495, 1496, 1497, 1498, 1499, 1500, 1501, 1502, 1503, 1504, 1505, 1506] (by decide +kernel) (by decide +kernel)) (goodIn_sub (fun _ h => List.mem_append_left _ (List.mem_append_left _ (List.mem_append_left _ (List.mem_append_left _ (List.mem_append_left _ (List.mem_append_left _ (List.mem_append_right _ h))))))) (by decide +kernel))
set_option maxRecDepth 20000 in
theorem gL_law_X13_remarkAt : GoodIn wsL_law (wsV RL 241 RX13 yX13_remarkAt wsX13_remarkAt) := goodIn_app (goodIn_of _ (by decide +kernel)) ggL_law_X13_remarkAt
set_option maxRecDepth 20000 in
theorem ggL_law_L_depthOf : GoodIn wsL_law wsL_depthOf := goodIn_ca (goodIn_ca (goodIn_r _ [794, 248, 795, 796, 797, 2, 798, 197, 198, 17, 684, 786, 293, 294, 799, 690, 691, 56, 692, 83, 693, 694, 695, 1462, 1463, 1464, 1465, 1466, 1467, 1468, 1469, 1470, 1471, 1472, 1473, 1474, 1475, 1476, 1477, 1507, 1508, 1509, 1510, 1511, 1512, 1513, 1533, 1534] (by decide +kernel) (by decide +kernel)) (goodIn_sub (fun _ h => List.mem_append_left _ (List.mem_append_left _ (List.mem_append_left _ (List.mem_append_left _ (List.mem_append_left _ (List.mem_append_left _ (List.mem_append_right _ h))))))) (by decide +kernel))) (goodIn_sub (fun _ h => List.mem_append_left _ (List.mem_append_left _ (List.mem_append_left _ (List.mem_append_left _ (List.mem_append_left _ (List.mem_append_right _ h)))))) (by decide +kernel))
set_option maxRecDepth 20000 in
theorem gL_law_L_depthOf : GoodIn wsL_law (va_wsS RL 242 yL_depthOf wsL_depthOf) := goodIn_app (goodIn_of _ (by decide +kernel)) ggL_law_L_depthOf
set_option maxRecDepth 20000 in
theorem ggL_law_X13_depthOf : GoodIn wsL_law wsX13_depthOf := goodIn_ca (goodIn_r _ [803, 215, 704, 705, 5, 706, 226, 227, 228, 707, 708, 709, 710, 130, 148, 149, 150, 1478, 1479, 1480, 1481, 1482, 1483, 1484, 1485, 1486, 1487, 1488, 1489, 1490, 1491, 1492, 1493, 1494, 1495, 1496, 1497, 1498, 1499, 1500, 1501, 1502, 1503, 1504, 1505, 1506] (by decide +kernel) (by decide +kernel)) (goodIn_sub (fun _ h => List.mem_append_left _ (List.mem_append_left _ (List.mem_append_left _ (List.mem_append_left _ (List.mem_append_left _ (List.mem_append_left _ (List.mem_append_right _ h))))))) (by decide +kernel))
set_option maxRecDepth 20000 in
theorem gL_law_X13_depthOf : GoodIn wsL_law (wsV RL 244 RX13 yX13_depthOf wsX13_depthOf) := goodIn_app (goodIn_of _ (by decide +kernel)) ggL_law_X13_depthOf
set_option maxRecDepth 20000 in
theorem ggL_law_L_excite : GoodIn wsL_law wsL_excite := goodIn_ca (goodIn_ca (goodIn_ca (goodIn_ca (goodIn_ca (goodIn_ca (goodIn_r _ [806, 248, 155, 807, 808, 809, 2, 810, 18, 17, 161, 811, 162, 163, 164, 16, 165, 53, 57, 61, 62, 63, 64, 166, 167, 168, 52, 169, 71, 73, 170, 171, 172, 173, 74, 75, 76, 77, 174, 175, 176, 56, 177, 82, 83, 178, 179, 180, 60, 181, 88, 89, 90, 91, 812, 813, 814, 815, 816, 817, 258, 259, 260, 818, 819, 820, 733, 734, 735, 736, 737, 191, 192, 193, 186, 187, 188, 189, 19, 20, 21, 190, 194, 195, 196, 197, 198, 199, 200, 201, 202, 203, 204, 205, 206, 1462, 1463, 1464, 1465, 1466, 1467, 1468, 1469, 1470, 1471, 1472, 1473, 1474, 1475, 1476, 1477, 1507, 1508, 1509, 1510, 1511, 1512, 1513, 1527, 1528, 1529, 1530, 1531, 1532, 1533, 1534, 1535, 1536, 1537, 1538] (by decide +kernel) (by decide +kernel)) (goodIn_sub (fun _ h => List.mem_append_left _ (List.mem_append_left _ (List.mem_append_left _ (List.mem_append_left _ (List.mem_append_left _ (List.mem_append_left _ (List.mem_append_right _ h))))))) (by decide +kernel))) (goodIn_sub (fun _ h => List.mem_append_left _ (List.mem_append_left _ (List.mem_append_left _ (List.mem_append_left _ (List.mem_append_left _ (List.mem_append_right _ h)))))) (by decide +kernel))) (goodIn_sub (fun _ h => List.mem_append_left _ (List.mem_append_left _ (List.mem_append_left _ (List.mem_append_left _ (List.mem_append_right _ h))))) (by decide +kernel))) (goodIn_sub (fun _ h => List.mem_append_left _ (List.mem_append_left _ (List.mem_append_left _ (List.mem_append_right _ h)))) (by decide +kernel))) (goodIn_sub (fun _ h => List.mem_append_left _ (List.mem_append_left _ (List.mem_append_right _ h))) (by decide +kernel))) (goodIn_sub (fun _ h => List.mem_append_left _ (List.mem_append_right _ h)) (by decide +kernel))
set_option maxRecDepth 20000 in
theorem gL_law_L_excite : GoodIn wsL_law (va_wsS RL 245 yL_excite wsL_excite) := goodIn_app (goodIn_of _ (by decide +kernel)) ggL_law_L_excite
set_option maxRecDepth 20000 in
theorem ggL_law_X13_excite : GoodIn wsL_law wsX13_excite := goodIn_ca (goodIn_r _ [824, 215, 135, 211, 212, 213, 5, 214, 131, 130, 136, 216, 217, 218, 219, 220, 221, 825, 826, 827, 828, 829, 274, 275, 276, 277, 226, 227, 228, 229, 230, 231, 232, 750, 751, 752, 753, 236, 237, 238, 239, 240, 133, 138, 1478, 1479, 1480, 1481, 1482, 1483, 1484, 1485, 1486, 1487, 1488, 1489, 1490, 1491, 1492, 1493, 1494, 1495, 1496, 1497, 1498, 1499, 1500, 1501, 1502, 1503, 1504, 1505, 1506] (by decide +kernel) (by decide +kernel)) (goodIn_sub (fun _ h => List.mem_append_left _ (List.mem_append_left _ (List.mem_append_left _ (List.mem_append_left _ (List.mem_append_left _ (List.mem_append_left _ (List.mem_append_right _ h))))))) (by decide +kernel))
set_option maxRecDepth 20000 in
theorem gL_law_X13_excite : GoodIn wsL_law (wsV RL 248 RX13 yX13_excite wsX13_excite) := goodIn_app (goodIn_of _ (by decide +kernel)) ggL_law_X13_excite
set_option maxRecDepth 20000 in
theorem ggL_law_L_pass : GoodIn wsL_law wsL_pass := goodIn_ca (goodIn_ca (goodIn_ca (goodIn_ca (goodIn_ca (goodIn_ca (goodIn_r _ [832, 155, 833, 834, 835, 2, 836, 18, 17, 162, 163, 164, 16, 165, 53, 57, 61, 62, 63, 64, 166, 167, 168, 52, 169, 71, 73, 170, 171, 172, 173, 74, 75, 76, 77, 174, 175, 176, 56, 177, 82, 83, 178, 179, 180, 60, 181, 88, 89, 90, 91, 837, 838, 839, 840, 841, 842, 843, 844, 845, 66, 816, 846, 847, 848, 849, 850, 851, 852, 853, 854, 855, 261, 262, 263, 264, 265, 856, 690, 691, 692, 693, 694, 695, 818, 819, 820, 857, 858, 859, 860, 861, 862, 863, 864, 729, 730, 731, 732, 733, 734, 735, 736, 737, 191, 192, 193, 186, 187, 188, 189, 19, 20, 21, 190, 194, 195, 196, 197, 198, 199, 200, 201, 202, 203, 204, 205, 206, 1462, 1463, 1464, 1465, 1466, 1467, 1468, 1469, 1470, 1471, 1472, 1473, 1474, 1475, 1476, 1477, 1507, 1508, 1509, 1510, 1511, 1512, 1513, 1527, 1528, 1529, 1530, 1531, 1532, 1533, 1534, 1535, 1536, 1537, 1538] (by decide +kernel) (by decide +kernel)) (goodIn_sub (fun _ h => List.mem_append_left _ (List.mem_append_left _ (List.mem_append_left _ (List.mem_append_left _ (List.mem_append_left _ (List.mem_append_left _ (List.mem_append_right _ h))))))) (by decide +kernel))) (goodIn_sub (fun _ h => List.mem_append_left _ (List.mem_append_left _ (List.mem_append_left _ (List.mem_append_left _ (List.mem_append_left _ (List.mem_append_right _ h)))))) (by decide +kernel))) (goodIn_sub (fun _ h => List.mem_append_left _ (List.mem_append_left _ (List.mem_append_left _ (List.mem_append_left _ (List.mem_append_right _ h))))) (by decide +kernel))) (goodIn_sub (fun _ h => List.mem_append_left _ (List.mem_append_left _ (List.mem_append_left _ (List.mem_append_right _ h)))) (by decide +kernel))) (goodIn_sub (fun _ h => List.mem_append_left _ (List.mem_append_left _ (List.mem_append_right _ h))) (by decide +kernel))) (goodIn_sub (fun _ h => List.mem_append_left _ (List.mem_append_right _ h)) (by decide +kernel))
set_option maxRecDepth 20000 in
theorem gL_law_L_pass : GoodIn wsL_law (va_wsS RL 249 yL_pass wsL_pass) := goodIn_app (goodIn_of _ (by decide +kernel)) ggL_law_L_pass
set_option maxRecDepth 20000 in
theorem ggL_law_X13_pass : GoodIn wsL_law wsX13_pass := goodIn_ca (goodIn_r _ [868, 211, 212, 213, 5, 214, 215, 131, 130, 136, 135, 216, 217, 218, 219, 220, 221, 869, 870, 871, 872, 226, 227, 228, 229, 230, 231, 232, 873, 874, 875, 876, 877, 878, 879, 139, 829, 278, 279, 280, 281, 233, 234, 235, 707, 708, 709, 710, 148, 149, 150, 880, 881, 882, 883, 884, 885, 886, 887, 746, 747, 748, 749, 750, 751, 752, 753, 236, 237, 238, 239, 240, 133, 138, 1478, 1479, 1480, 1481, 1482, 1483, 1484, 1485, 1486, 1487, 1488, 1489, 1490, 1491, 1492, 1493, 1494, 1495, 1496, 1497, 1498, 1499, 1500, 1501, 1502, 1503, 1504, 1505, 1506] (by decide +kernel) (by decide +kernel)) (goodIn_sub (fun _ h => List.mem_append_left _ (List.mem_append_left _ (List.mem_append_left _ (List.mem_append_left _ (List.mem_append_left _ (List.mem_append_left _ (List.mem_append_right _ h))))))) (by decide +kernel))
set_option maxRecDepth 20000 in
theorem gL_law_X13_pass : GoodIn wsL_law (wsV RL 251 RX13 yX13_pass wsX13_pass) := goodIn_app (goodIn_of _ (by decide +kernel)) ggL_law_X13_pass
set_option maxRecDepth 20000 in
theorem ggL_law_L_setLimit : GoodIn wsL_law wsL_setLimit := goodIn_ca (goodIn_ca (goodIn_ca (goodIn_ca (goodIn_ca (goodIn_ca (goodIn_r _ [890, 155, 891, 892, 893, 2, 894, 18, 17, 162, 163, 164, 16, 165, 53, 57, 61, 62, 63, 64, 166, 167, 168, 52, 169, 71, 73, 170, 171, 172, 173, 74, 75, 76, 77, 174, 175, 176, 56, 177, 82, 83, 178, 179, 180, 60, 181, 88, 89, 90, 91, 895, 896, 897, 898, 186, 187, 188, 189, 19, 20, 21, 190, 191, 192, 193, 194, 195, 196, 197, 198, 199, 200, 201, 202, 203, 204, 205, 206, 1462, 1463, 1464, 1465, 1466, 1467, 1468, 1469, 1470, 1471, 1472, 1473, 1474, 1475, 1476, 1477, 1507, 1508, 1509, 1510, 1511, 1512, 1513, 1527, 1528, 1529, 1530, 1531, 1532, 1533, 1534, 1535, 1536, 1537, 1538] (by decide +kernel) (by decide +kernel)) (goodIn_sub (fun _ h => List.mem_append_left _ (List.mem_append_left _ (List.mem_append_left _ (List.mem_append_left _ (List.mem_append_left _ (List.mem_append_left _ (List.mem_append_right _ h))))))) (by decide +kernel))) (goodIn_sub (fun _ h => List.mem_append_left _ (List.mem_append_left _ (List.mem_append_left _ (List.mem_append_left _ (List.mem_append_left _ (List.mem_append_right _ h)))))) (by decide +kernel))) (goodIn_sub (fun _ h => List.mem_append_left _ (List.mem_append_left _ (List.mem_append_left _ (List.mem_append_left _ (List.mem_append_right _ h))))) (by decide +kernel))) (goodIn_sub (fun _ h => List.mem_append_left _ (List.mem_append_left _ (List.mem_append_left _ (List.mem_append_right _ h)))) (by decide +kernel))) (goodIn_sub (fun _ h => List.mem_append_left _ (List.mem_append_left _ (List.mem_append_right _ h))) (by decide +kernel))) (goodIn_sub (fun _ h => List.mem_append_left _ (List.mem_append_right _ h)) (by decide +kernel))
set_option maxRecDepth 20000 in
theorem gL_law_L_setLimit : GoodIn wsL_law (va_wsS RL 252 yL_setLimit wsL_setLimit) := goodIn_app (goodIn_of _ (by decide +kernel)) ggL_law_L_setLimit
set_option maxRecDepth 20000 in
theorem ggL_law_X13_setLimit : GoodIn wsL_law wsX13_setLimit := goodIn_ca (goodIn_r _ [902, 211, 212, 213, 5, 214, 215, 131, 130, 136, 135, 216, 217, 218, 219, 220, 221, 903, 904, 905, 906, 226, 227, 228, 229, 230, 231, 232, 236, 237, 238, 239, 240, 133, 138, 1478, 1479, 1480, 1481, 1482, 1483, 1484, 1485, 1486, 1487, 1488, 1489, 1490, 1491, 1492, 1493, 1494, 1495, 1496, 1497, 1498, 1499, 1500, 1501, 1502, 1503, 1504, 1505, 1506] (by decide +kernel) (by decide +kernel)) (goodIn_sub (fun _ h => List.mem_append_left _ (List.mem_append_left _ (List.mem_append_left _ (List.mem_append_left _ (List.mem_append_left _ (List.mem_append_left _ (List.mem_append_right _ h))))))) (by decide +kernel))
set_option maxRecDepth 20000 in
theorem gL_law_X13_setLimit : GoodIn wsL_law (wsV RL 254 RX13 yX13_setLimit wsX13_setLimit) := goodIn_app (goodIn_of _ (by decide +kernel)) ggL_law_X13_setLimit
set_option maxRecDepth 20000 in
theorem ggL_law_L_fluxOf : GoodIn wsL_law wsL_fluxOf := goodIn_ca (goodIn_ca (goodIn_r _ [909, 248, 910, 911, 912, 2, 913, 17, 161, 811, 324, 325, 326, 327, 197, 198, 328, 258, 259, 52, 260, 71, 1462, 1463, 1464, 1465, 1466, 1467, 1468, 1469, 1470, 1471, 1472, 1473, 1474, 1475, 1476, 1477, 1507, 1508, 1509, 1510, 1511, 1512, 1513, 1527, 1528, 1529, 1530, 1531, 1532] (by decide +kernel) (by decide +kernel)) (goodIn_sub (fun _ h => List.mem_append_left _ (List.mem_append_left _ (List.mem_append_left _ (List.mem_append_left _ (List.mem_append_left _ (List.mem_append_left _ (List.mem_append_right _ h))))))) (by decide +kernel))) (goodIn_sub (fun _ h => List.mem_append_left _ (List.mem_append_left _ (List.mem_append_left _ (List.mem_append_left _ (List.mem_append_left _ (List.mem_append_right _ h)))))) (by decide +kernel))
set_option maxRecDepth 20000 in
theorem gL_law_L_fluxOf : GoodIn wsL_law (va_wsS RL 255 yL_fluxOf wsL_fluxOf) := goodIn_app (goodIn_of _ (by decide +kernel)) ggL_law_L_fluxOf
set_option maxRecDepth 20000 in
theorem ggL_law_X13_fluxOf : GoodIn wsL_law wsX13_fluxOf := goodIn_ca (goodIn_r _ [917, 135, 333, 334, 335, 5, 336, 215, 274, 275, 276, 277, 130, 226, 227, 228, 1478, 1479, 1480, 1481, 1482, 1483, 1484, 1485, 1486, 1487, 1488, 1489, 1490, 1491, 1492, 1493, 1494, 1495, 1496, 1497, 1498, 1499, 1500, 1501, 1502, 1503, 1504, 1505, 1506] (by decide +kernel) (by decide +kernel)) (goodIn_sub (fun _ h => List.mem_append_left _ (List.mem_append_left _ (List.mem_append_left _ (List.mem_append_left _ (List.mem_append_left _ (List.mem_append_left _ (List.mem_append_right _ h))))))) (by decide +kernel))
set_option maxRecDepth 20000 in
theorem gL_law_X13_fluxOf : GoodIn wsL_law (wsV RL 258 RX13 yX13_fluxOf wsX13_fluxOf) := goodIn_app (goodIn_of _ (by decide +kernel)) ggL_law_X13_fluxOf
set_option maxRecDepth 20000 in
theorem ggL_law_L_fluxBits : GoodIn wsL_law wsL_fluxBits := goodIn_ca (goodIn_ca (goodIn_r _ [920, 248, 921, 922, 923, 2, 924, 925, 911, 912, 913, 17, 161, 811, 324, 325, 326, 327, 197, 198, 328, 258, 259, 52, 260, 71, 926, 927, 928, 929, 930, 931, 192, 932, 933, 934, 935, 936, 937, 938, 939, 940, 1462, 1463, 1464, 1465, 1466, 1467, 1468, 1469, 1470, 1471, 1472, 1473, 1474, 1475, 1476, 1477, 1507, 1508, 1509, 1510, 1511, 1512, 1513, 1527, 1528, 1529, 1530, 1531, 1532] (by decide +kernel) (by decide +kernel)) (goodIn_sub (fun _ h => List.mem_append_left _ (List.mem_append_left _ (List.mem_append_left _ (List.mem_append_left _ (List.mem_append_left _ (List.mem_append_left _ (List.mem_append_right _ h))))))) (by decide +kernel))) (goodIn_sub (fun _ h => List.mem_append_left _ (List.mem_append_left _ (List.mem_append_left _ (List.mem_append_left _ (List.mem_append_left _ (List.mem_append_right _ h)))))) (by decide +kernel))
set_option maxRecDepth 20000 in
theorem gL_law_L_fluxBits : GoodIn wsL_law (va_wsS RL 259 yL_fluxBits wsL_fluxBits) := goodIn_app (goodIn_of _ (by decide +kernel)) ggL_law_L_fluxBits
set_option maxRecDepth 20000 in
theorem ggL_law_X13_fluxBits : GoodIn wsL_law wsX13_fluxBits := goodIn_ca (goodIn_r _ [944, 135, 333, 334, 335, 5, 336, 215, 274, 275, 276, 277, 130, 226, 227, 228, 945, 946, 947, 948, 949, 950, 951, 952, 953, 954, 955, 956, 1478, 1479, 1480, 1481, 1482, 1483, 1484, 1485, 1486, 1487, 1488, 1489, 1490, 1491, 1492, 1493, 1494, 1495, 1496, 1497, 1498, 1499, 1500, 1501, 1502, 1503, 1504, 1505, 1506] (by decide +kernel) (by decide +kernel)) (goodIn_sub (fun _ h => List.mem_append_left _ (List.mem_append_left _ (List.mem_append_left _ (List.mem_append_left _ (List.mem_append_left _ (List.mem_append_left _ (List.mem_append_right _ h))))))) (by decide +kernel))
set_option maxRecDepth 20000 in
theorem gL_law_X13_fluxBits : GoodIn wsL_law (wsV RL 261 RX13 yX13_fluxBits wsX13_fluxBits) := goodIn_app (goodIn_of _ (by decide +kernel)) ggL_law_X13_fluxBits
set_option maxRecDepth 20000 in
theorem ggL_law_X12_power : GoodIn wsL_law wsX12_power := goodIn_ca (goodIn_r _ [960, 17, 161, 961, 858, 859, 52, 860, 71, 77, 1462, 1463, 1464, 1465, 1466, 1467, 1468, 1469, 1470, 1471, 1472, 1473, 1474, 1475, 1476, 1477, 1507, 1508, 1509, 1510, 1511, 1512, 1513, 1527, 1528, 1529, 1530, 1531, 1532] (by decide +kernel) (by decide +kernel)) (goodIn_sub (fun _ h => List.mem_append_left _ (List.mem_append_left _ (List.mem_append_left _ (List.mem_append_left _ (List.mem_append_left _ (List.mem_append_left _ (List.mem_append_right _ h))))))) (by decide +kernel))
set_option maxRecDepth 20000 in
theorem gL_law_X12_power : GoodIn wsL_law (wsV RL 262 RX12 yX12_power wsX12_power) := goodIn_app (goodIn_of _ (by decide +kernel)) ggL_law_X12_power
set_option maxRecDepth 20000 in
theorem ggL_law_X13_power : GoodIn wsL_law wsX13_power := goodIn_ca (goodIn_r _ [965, 215, 880, 881, 882, 5, 883, 130, 135, 1478, 1479, 1480, 1481, 1482, 1483, 1484, 1485, 1486, 1487, 1488, 1489, 1490, 1491, 1492, 1493, 1494, 1495, 1496, 1497, 1498, 1499, 1500, 1501, 1502, 1503, 1504, 1505, 1506] (by decide +kernel) (by decide +kernel)) (goodIn_sub (fun _ h => List.mem_append_left _ (List.mem_append_left _ (List.mem_append_left _ (List.mem_append_left _ (List.mem_append_left _ (List.mem_append_left _ (List.mem_append_right _ h))))))) (by decide +kernel))
set_option maxRecDepth 20000 in
theorem gL_law_X13_power : GoodIn wsL_law (wsV RL 266 RX13 yX13_power wsX13_power) := goodIn_app (goodIn_of _ (by decide +kernel)) ggL_law_X13_power
set_option maxRecDepth 20000 in
theorem ggL_law_X12_powerBits : GoodIn wsL_law wsX12_powerBits := goodIn_ca (goodIn_r _ [969, 970, 958, 959, 2, 960, 17, 161, 961, 858, 859, 52, 860, 71, 77, 926, 927, 928, 929, 930, 931, 192, 932, 933, 934, 935, 936, 937, 938, 939, 940, 1462, 1463, 1464, 1465, 1466, 1467, 1468, 1469, 1470, 1471, 1472, 1473, 1474, 1475, 1476, 1477, 1507, 1508, 1509, 1510, 1511, 1512, 1513, 1527, 1528, 1529, 1530, 1531, 1532] (by decide +kernel) (by decide +kernel)) (goodIn_sub (fun _ h => List.mem_append_left _ (List.mem_append_left _ (List.mem_append_left _ (List.mem_append_left _ (List.mem_append_left _ (List.mem_append_left _ (List.mem_append_right _ h))))))) (by decide +kernel))
set_option maxRecDepth 20000 in
theorem gL_law_X12_powerBits : GoodIn wsL_law (wsV RL 267 RX12 yX12_powerBits wsX12_powerBits) := goodIn_app (goodIn_of _ (by decide +kernel)) ggL_law_X12_powerBits
set_option maxRecDepth 20000 in
theorem ggL_law_X13_powerBits : GoodIn wsL_law wsX13_powerBits := goodIn_ca (goodIn_r _ [974, 215, 880, 881, 882, 5, 883, 130, 135, 945, 946, 947, 948, 949, 950, 951, 952, 953, 954, 955, 956, 1478, 1479, 1480, 1481, 1482, 1483, 1484, 1485, 1486, 1487, 1488, 1489, 1490, 1491, 1492, 1493, 1494, 1495, 1496, 1497, 1498, 1499, 1500, 1501, 1502, 1503, 1504, 1505, 1506] (by decide +kernel) (by decide +kernel)) (goodIn_sub (fun _ h => List.mem_append_left _ (List.mem_append_left _ (List.mem_append_left _ (List.mem_append_left _ (List.mem_append_left _ (List.mem_append_left _ (List.mem_append_right _ h))))))) (by decide +kernel))
set_option maxRecDepth 20000 in
theorem gL_law_X13_powerBits : GoodIn wsL_law (wsV RL 270 RX13 yX13_powerBits wsX13_powerBits) := goodIn_app (goodIn_of _ (by decide +kernel)) ggL_law_X13_powerBits
set_option maxRecDepth 20000 in
theorem ggL_law_L_shiftsUntilBelow : GoodIn wsL_law wsL_shiftsUntilBelow := goodIn_ca (goodIn_ca (goodIn_ca (goodIn_r _ [977, 155, 757, 978, 979, 980, 2, 981, 199, 200, 205, 206, 24, 17, 161, 162, 163, 164, 16, 165, 53, 57, 61, 62, 63, 64, 166, 167, 168, 52, 169, 71, 73, 170, 171, 172, 173, 74, 75, 76, 77, 174, 175, 176, 56, 177, 82, 83, 178, 179, 180, 60, 181, 88, 89, 90, 91, 961, 858, 859, 860, 982, 842, 843, 844, 845, 66, 816, 846, 847, 848, 849, 850, 851, 852, 853, 854, 855, 261, 262, 263, 264, 265, 856, 690, 691, 692, 693, 694, 695, 818, 819, 820, 857, 861, 862, 863, 864, 729, 730, 731, 732, 733, 734, 735, 736, 737, 191, 192, 193, 1462, 1463, 1464, 1465, 1466, 1467, 1468, 1469, 1470, 1471, 1472, 1473, 1474, 1475, 1476, 1477, 1507, 1508, 1509, 1510, 1511, 1512, 1513, 1527, 1528, 1529, 1530, 1531, 1532, 1533, 1534, 1535, 1536, 1537, 1538] (by decide +kernel) (by decide +kernel)) (goodIn_sub (fun _ h => List.mem_append_left _ (List.mem_append_left _ (List.mem_append_left _ (List.mem_append_left _ (List.mem_append_left _ (List.mem_append_left _ (List.mem_append_right _ h))))))) (by decide +kernel))) (goodIn_sub (fun _ h => List.mem_append_left _ (List.mem_append_left _ (List.mem_append_left _ (List.mem_append_left _ (List.mem_append_right _ h))))) (by decide +kernel))) (goodIn_sub (fun _ h => List.mem_append_left _ (List.mem_append_right _ h)) (by decide +kernel))
set_option maxRecDepth 20000 in
theorem gL_law_L_shiftsUntilBelow : GoodIn wsL_law (va_wsS RL 271 yL_shiftsUntilBelow wsL_shiftsUntilBelow) := goodIn_app (goodIn_of _ (by decide +kernel)) ggL_law_L_shiftsUntilBelow
set_option maxRecDepth 20000 in
theorem ggL_law_X13_shiftsUntilBelow : GoodIn wsL_law wsX13_shiftsUntilBelow := goodIn_ca (goodIn_r _ [986, 215, 131, 130, 140, 135, 226, 227, 5, 228, 216, 217, 218, 219, 220, 221, 880, 881, 882, 883, 873, 874, 875, 876, 877, 878, 879, 139, 829, 278, 279, 280, 281, 233, 234, 235, 707, 708, 709, 710, 148, 149, 150, 884, 885, 886, 887, 746, 747, 748, 749, 750, 751, 752, 753, 229, 230, 231, 232, 1478, 1479, 1480, 1481, 1482, 1483, 1484, 1485, 1486, 1487, 1488, 1489, 1490, 1491, 1492, 1493, 1494, 1495, 1496, 1497, 1498, 1499, 1500, 1501, 1502, 1503, 1504, 1505, 1506] (by decide +kernel) (by decide +kernel)) (goodIn_sub (fun _ h => List.mem_append_left _ (List.mem_append_left _ (List.mem_append_left _ (List.mem_append_left _ (List.mem_append_left _ (List.mem_append_left _ (List.mem_append_right _ h))))))) (by decide +kernel))
set_option maxRecDepth 20000 in
theorem gL_law_X13_shiftsUntilBelow : GoodIn wsL_law (wsV RL 273 RX13 yX13_shiftsUntilBelow wsX13_shiftsUntilBelow) := goodIn_app (goodIn_of _ (by decide +kernel)) ggL_law_X13_shiftsUntilBelow
set_option maxRecDepth 20000 in
theorem ggL_law_X12_shiftCount : GoodIn wsL_law wsX12_shiftCount := goodIn_r _ [990, 17, 991, 1462, 1463, 1464, 1465, 1466, 1467, 1468, 1469, 1470, 1471, 1472, 1473, 1474, 1475, 1476, 1477, 1507, 1508, 1509, 1510, 1511, 1512, 1513] (by decide +kernel) (by decide +kernel)
set_option maxRecDepth 20000 in
theorem gL_law_X12_shiftCount : GoodIn wsL_law (wsV RL 274 RX12 yX12_shiftCount wsX12_shiftCount) := goodIn_app (goodIn_of _ (by decide +kernel)) ggL_law_X12_shiftCount
set_option maxRecDepth 20000 in
theorem ggL_law_X13_shiftCount : GoodIn wsL_law wsX13_shiftCount := goodIn_ca (goodIn_r _ [995, 312, 313, 314, 5, 315, 215, 130, 1478, 1479, 1480, 1481, 1482, 1483, 1484, 1485, 1486, 1487, 1488, 1489, 1490, 1491, 1492, 1493, 1494, 1495, 1496, 1497, 1498, 1499, 1500, 1501, 1502, 1503, 1504, 1505, 1506] (by decide +kernel) (by decide +kernel)) (goodIn_sub (fun _ h => List.mem_append_left _ (List.mem_append_left _ (List.mem_append_left _ (List.mem_append_left _ (List.mem_append_left _ (List.mem_append_left _ (List.mem_append_right _ h))))))) (by decide +kernel))
set_option maxRecDepth 20000 in
theorem gL_law_X13_shiftCount : GoodIn wsL_law (wsV RL 277 RX13 yX13_shiftCount wsX13_shiftCount) := goodIn_app (goodIn_of _ (by decide +kernel)) ggL_law_X13_shiftCount
set_option maxRecDepth 20000 in
theorem ggL_law_X12_scrams : GoodIn wsL_law wsX12_scrams := goodIn_r _ [999, 17, 1000, 1462, 1463, 1464, 1465, 1466, 1467, 1468, 1469, 1470, 1471, 1472, 1473, 1474, 1475, 1476, 1477, 1507, 1508, 1509, 1510, 1511, 1512, 1513] (by decide +kernel) (by decide +kernel)
set_option maxRecDepth 20000 in
theorem gL_law_X12_scrams : GoodIn wsL_law (wsV RL 278 RX12 yX12_scrams wsX12_scrams) := goodIn_app (goodIn_of _ (by decide +kernel)) ggL_law_X12_scrams
set_option maxRecDepth 20000 in
theorem ggL_law_X13_scrams : GoodIn wsL_law wsX13_scrams := goodIn_ca (goodIn_r _ [1004, 312, 313, 314, 5, 315, 215, 130, 1478, 1479, 1480, 1481, 1482, 1483, 1484, 1485, 1486, 1487, 1488, 1489, 1490, 1491, 1492, 1493, 1494, 1495, 1496, 1497, 1498, 1499, 1500, 1501, 1502, 1503, 1504, 1505, 1506] (by decide +kernel) (by decide +kernel)) (goodIn_sub (fun _ h => List.mem_append_left _ (List.mem_append_left _ (List.mem_append_left _ (List.mem_append_left _ (List.mem_append_left _ (List.mem_append_left _ (List.mem_append_right _ h))))))) (by decide +kernel))
set_option maxRecDepth 20000 in
theorem gL_law_X13_scrams : GoodIn wsL_law (wsV RL 281 RX13 yX13_scrams wsX13_scrams) := goodIn_app (goodIn_of _ (by decide +kernel)) ggL_law_X13_scrams
set_option maxRecDepth 20000 in
theorem ggL_law_L_claimAtRank : GoodIn wsL_law wsL_claimAtRank := goodIn_ca (goodIn_ca (goodIn_r _ [1007, 757, 1008, 1009, 1010, 2, 1011, 205, 206, 17, 161, 307, 1012, 1013, 1014, 52, 1015, 71, 1016, 1017, 1018, 1019, 77, 73, 1462, 1463, 1464, 1465, 1466, 1467, 1468, 1469, 1470, 1471, 1472, 1473, 1474, 1475, 1476, 1477, 1507, 1508, 1509, 1510, 1511, 1512, 1513, 1527, 1528, 1529, 1530, 1531, 1532] (by decide +kernel) (by decide +kernel)) (goodIn_sub (fun _ h => List.mem_append_left _ (List.mem_append_left _ (List.mem_append_left _ (List.mem_append_left _ (List.mem_append_left _ (List.mem_append_left _ (List.mem_append_right _ h))))))) (by decide +kernel))) (goodIn_sub (fun _ h => List.mem_append_left _ (List.mem_append_right _ h)) (by decide +kernel))
set_option maxRecDepth 20000 in
theorem gL_law_L_claimAtRank : GoodIn wsL_law (va_wsS RL 282 yL_claimAtRank wsL_claimAtRank) := goodIn_app (goodIn_of _ (by decide +kernel)) ggL_law_L_claimAtRank
set_option maxRecDepth 20000 in
theorem ggL_law_X13_claimAtRank : GoodIn wsL_law wsX13_claimAtRank := goodIn_ca (goodIn_r _ [1023, 215, 130, 135, 233, 234, 5, 235, 229, 230, 231, 232, 1478, 1479, 1480, 1481, 1482, 1483, 1484, 1485, 1486, 1487, 1488, 1489, 1490, 1491, 1492, 1493, 1494, 1495, 1496, 1497, 1498, 1499, 1500, 1501, 1502, 1503, 1504, 1505, 1506] (by decide +kernel) (by decide +kernel)) (goodIn_sub (fun _ h => List.mem_append_left _ (List.mem_append_left _ (List.mem_append_left _ (List.mem_append_left _ (List.mem_append_left _ (List.mem_append_left _ (List.mem_append_right _ h))))))) (by decide +kernel))
set_option maxRecDepth 20000 in
theorem gL_law_X13_claimAtRank : GoodIn wsL_law (wsV RL 284 RX13 yX13_claimAtRank wsX13_claimAtRank) := goodIn_app (goodIn_of _ (by decide +kernel)) ggL_law_X13_claimAtRank
set_option maxRecDepth 20000 in
theorem ggL_law_X12_logCount : GoodIn wsL_law wsX12_logCount := goodIn_r _ [1027, 17, 1028, 1029, 1462, 1463, 1464, 1465, 1466, 1467, 1468, 1469, 1470, 1471, 1472, 1473, 1474, 1475, 1476, 1477, 1507, 1508, 1509, 1510, 1511, 1512, 1513, 1535, 1536, 1537, 1538] (by decide +kernel) (by decide +kernel)
set_option maxRecDepth 20000 in
theorem gL_law_X12_logCount : GoodIn wsL_law (wsV RL 285 RX12 yX12_logCount wsX12_logCount) := goodIn_app (goodIn_of _ (by decide +kernel)) ggL_law_X12_logCount
set_option maxRecDepth 20000 in
theorem ggL_law_X13_logCount : GoodIn wsL_law wsX13_logCount := goodIn_ca (goodIn_r _ [1033, 312, 313, 314, 5, 315, 215, 130, 1478, 1479, 1480, 1481, 1482, 1483, 1484, 1485, 1486, 1487, 1488, 1489, 1490, 1491, 1492, 1493, 1494, 1495, 1496, 1497, 1498, 1499, 1500, 1501, 1502, 1503, 1504, 1505, 1506] (by decide +kernel) (by decide +kernel)) (goodIn_sub (fun _ h => List.mem_append_left _ (List.mem_append_left _ (List.mem_append_left _ (List.mem_append_left _ (List.mem_append_left _ (List.mem_append_left _ (List.mem_append_right _ h))))))) (by decide +kernel))
set_option maxRecDepth 20000 in
theorem gL_law_X13_logCount : GoodIn wsL_law (wsV RL 288 RX13 yX13_logCount wsX13_logCount) := goodIn_app (goodIn_of _ (by decide +kernel)) ggL_law_X13_logCount
set_option maxRecDepth 20000 in
theorem ggL_law_L_logShift : GoodIn wsL_law wsL_logShift := goodIn_ca (goodIn_ca (goodIn_r _ [1036, 757, 1037, 1038, 1039, 2, 1040, 17, 1028, 1041, 1042, 1043, 1044, 1045, 205, 206, 1029, 1046, 1047, 1048, 60, 1049, 91, 1050, 1051, 1052, 1053, 1462, 1463, 1464, 1465, 1466, 1467, 1468, 1469, 1470, 1471, 1472, 1473, 1474, 1475, 1476, 1477, 1507, 1508, 1509, 1510, 1511, 1512, 1513, 1535, 1536, 1537, 1538] (by decide +kernel) (by decide +kernel)) (goodIn_sub (fun _ h => List.mem_append_left _ (List.mem_append_left _ (List.mem_append_left _ (List.mem_append_left _ (List.mem_append_left _ (List.mem_append_left _ (List.mem_append_right _ h))))))) (by decide +kernel))) (goodIn_sub (fun _ h => List.mem_append_left _ (List.mem_append_right _ h)) (by decide +kernel))
set_option maxRecDepth 20000 in
theorem gL_law_L_logShift : GoodIn wsL_law (va_wsS RL 289 yL_logShift wsL_logShift) := goodIn_app (goodIn_of _ (by decide +kernel)) ggL_law_L_logShift
set_option maxRecDepth 20000 in
theorem ggL_law_X13_logShift : GoodIn wsL_law wsX13_logShift := goodIn_ca (goodIn_r _ [1057, 1058, 1059, 1060, 5, 1061, 130, 215, 226, 227, 228, 1478, 1479, 1480, 1481, 1482, 1483, 1484, 1485, 1486, 1487, 1488, 1489, 1490, 1491, 1492, 1493, 1494, 1495, 1496, 1497, 1498, 1499, 1500, 1501, 1502, 1503, 1504, 1505, 1506] (by decide +kernel) (by decide +kernel)) (goodIn_sub (fun _ h => List.mem_append_left _ (List.mem_append_left _ (List.mem_append_left _ (List.mem_append_left _ (List.mem_append_left _ (List.mem_append_left _ (List.mem_append_right _ h))))))) (by decide +kernel))
set_option maxRecDepth 20000 in
theorem gL_law_X13_logShift : GoodIn wsL_law (wsV RL 291 RX13 yX13_logShift wsX13_logShift) := goodIn_app (goodIn_of _ (by decide +kernel)) ggL_law_X13_logShift
set_option maxRecDepth 20000 in
theorem ggL_law_L_logKind : GoodIn wsL_law wsL_logKind := goodIn_ca (goodIn_ca (goodIn_r _ [1064, 757, 1065, 1066, 1067, 2, 1068, 17, 1028, 1069, 1042, 1043, 1044, 1045, 205, 206, 1029, 1046, 1047, 1048, 60, 1049, 91, 1050, 1051, 1052, 1053, 1462, 1463, 1464, 1465, 1466, 1467, 1468, 1469, 1470, 1471, 1472, 1473, 1474, 1475, 1476, 1477, 1507, 1508, 1509, 1510, 1511, 1512, 1513, 1535, 1536, 1537, 1538] (by decide +kernel) (by decide +kernel)) (goodIn_sub (fun _ h => List.mem_append_left _ (List.mem_append_left _ (List.mem_append_left _ (List.mem_append_left _ (List.mem_append_left _ (List.mem_append_left _ (List.mem_append_right _ h))))))) (by decide +kernel))) (goodIn_sub (fun _ h => List.mem_append_left _ (List.mem_append_right _ h)) (by decide +kernel))
set_option maxRecDepth 20000 in
theorem gL_law_L_logKind : GoodIn wsL_law (va_wsS RL 292 yL_logKind wsL_logKind) := goodIn_app (goodIn_of _ (by decide +kernel)) ggL_law_L_logKind
set_option maxRecDepth 20000 in
theorem ggL_law_X13_logKind : GoodIn wsL_law wsX13_logKind := goodIn_ca (goodIn_r _ [1073, 1058, 1059, 1060, 5, 1061, 130, 215, 226, 227, 228, 1478, 1479, 1480, 1481, 1482, 1483, 1484, 1485, 1486, 1487, 1488, 1489, 1490, 1491, 1492, 1493, 1494, 1495, 1496, 1497, 1498, 1499, 1500, 1501, 1502, 1503, 1504, 1505, 1506] (by decide +kernel) (by decide +kernel)) (goodIn_sub (fun _ h => List.mem_append_left _ (List.mem_append_left _ (List.mem_append_left _ (List.mem_append_left _ (List.mem_append_left _ (List.mem_append_left _ (List.mem_append_right _ h))))))) (by decide +kernel))
set_option maxRecDepth 20000 in
theorem gL_law_X13_logKind : GoodIn wsL_law (wsV RL 294 RX13 yX13_logKind wsX13_logKind) := goodIn_app (goodIn_of _ (by decide +kernel)) ggL_law_X13_logKind
set_option maxRecDepth 20000 in
theorem ggL_law_L_append : GoodIn wsL_law wsL_append := goodIn_ca (goodIn_ca (goodIn_ca (goodIn_r _ [1076, 155, 156, 1077, 1078, 1079, 2, 1080, 199, 200, 201, 202, 28, 1081, 1082, 1462, 1463, 1464, 1465, 1466, 1467, 1468, 1469, 1470, 1471, 1472, 1473, 1474, 1475, 1476, 1477, 1514, 1515, 1516, 1517, 1518, 1519, 1520] (by decide +kernel) (by decide +kernel)) (goodIn_sub (fun _ h => List.mem_append_left _ (List.mem_append_left _ (List.mem_append_left _ (List.mem_append_left _ (List.mem_append_left _ (List.mem_append_left _ (List.mem_append_right _ h))))))) (by decide +kernel))) (goodIn_sub (fun _ h => List.mem_append_left _ (List.mem_append_left _ (List.mem_append_left _ (List.mem_append_left _ (List.mem_append_right _ h))))) (by decide +kernel))) (goodIn_sub (fun _ h => List.mem_append_left _ (List.mem_append_left _ (List.mem_append_left _ (List.mem_append_right _ h)))) (by decide +kernel))
set_option maxRecDepth 20000 in
theorem gL_law_L_append : GoodIn wsL_law (va_wsS RL 295 yL_append wsL_append) := goodIn_app (goodIn_of _ (by decide +kernel)) ggL_law_L_append
set_option maxRecDepth 20000 in
theorem ggL_law_X13_append : GoodIn wsL_law wsX13_append := goodIn_ca (goodIn_r _ [1086, 1087, 215, 143, 226, 227, 5, 228, 1478, 1479, 1480, 1481, 1482, 1483, 1484, 1485, 1486, 1487, 1488, 1489, 1490, 1491, 1492, 1493, 1494, 1495, 1496, 1497, 1498, 1499, 1500, 1501, 1502, 1503, 1504, 1505, 1506] (by decide +kernel) (by decide +kernel)) (goodIn_sub (fun _ h => List.mem_append_left _ (List.mem_append_left _ (List.mem_append_left _ (List.mem_append_left _ (List.mem_append_left _ (List.mem_append_left _ (List.mem_append_right _ h))))))) (by decide +kernel))
set_option maxRecDepth 20000 in
theorem gL_law_X13_append : GoodIn wsL_law (wsV RL 298 RX13 yX13_append wsX13_append) := goodIn_app (goodIn_of _ (by decide +kernel)) ggL_law_X13_append
set_option maxRecDepth 20000 in
theorem ggL_law_L_run : GoodIn wsL_law wsL_run := goodIn_ca (goodIn_ca (goodIn_ca (goodIn_ca (goodIn_ca (goodIn_ca (goodIn_r _ [1090, 155, 156, 1091, 1092, 1093, 2, 1094, 199, 200, 201, 202, 28, 1081, 29, 18, 17, 1095, 1096, 1097, 30, 1098, 1099, 1100, 27, 1101, 102, 104, 99, 97, 96, 1102, 1103, 1104, 1105, 1106, 931, 192, 932, 1107, 1108, 1109, 1110, 103, 1111, 1112, 1113, 1114, 1115, 1116, 1117, 1118, 1119, 1120, 1121, 1122, 1123, 1124, 1125, 1126, 1127, 1128, 1129, 1130, 1131, 1132, 1133, 1134, 1135, 1136, 1137, 1138, 1139, 1140, 1141, 1142, 1143, 1144, 1145, 1146, 1147, 1148, 1149, 1150, 1151, 1152, 1153, 1154, 1155, 1156, 1157, 1158, 1159, 1160, 1161, 1162, 1163, 1164, 1165, 1166, 1167, 1168, 1169, 1170, 1171, 1172, 1173, 1174, 1175, 1176, 101, 1177, 1178, 1179, 1180, 1181, 1182, 1183, 1184, 1185, 1186, 1187, 1188, 1189, 1190, 1191, 1192, 1193, 1194, 1195, 1196, 1197, 1198, 191, 193, 1199, 1200, 1201, 1202, 1203, 1204, 1205, 1206, 1207, 1208, 1209, 1210, 1211, 1212, 1213, 1214, 1215, 1216, 1217, 1218, 1219, 1220, 1221, 1222, 1223, 1224, 1225, 1226, 1227, 1228, 1229, 1230, 1231, 1232, 1233, 1234, 1235, 1236, 1237, 1238, 1239, 1240, 1241, 1242, 1243, 1244, 162, 163, 164, 16, 165, 53, 57, 61, 62, 63, 64, 166, 167, 168, 52, 169, 71, 73, 170, 171, 172, 173, 74, 75, 76, 77, 174, 175, 176, 56, 177, 82, 83, 178, 179, 180, 60, 181, 88, 89, 90, 91, 1245, 1246, 1247, 1248, 1249, 161, 684, 1250, 1251, 1252, 1253, 1254, 1255, 1256, 182, 183, 184, 185, 253, 254, 255, 256, 257, 258, 259, 260, 261, 262, 263, 264, 265, 289, 290, 291, 292, 293, 294, 685, 686, 687, 688, 689, 690, 691, 692, 693, 694, 695, 719, 720, 721, 722, 723, 724, 725, 726, 727, 728, 729, 730, 731, 732, 733, 734, 735, 736, 737, 762, 763, 764, 765, 766, 767, 768, 769, 812, 813, 814, 815, 816, 817, 818, 819, 820, 895, 896, 897, 898, 837, 838, 839, 840, 841, 842, 843, 844, 845, 66, 846, 847, 848, 849, 850, 851, 852, 853, 854, 855, 856, 857, 858, 859, 860, 861, 862, 863, 864, 186, 187, 188, 189, 19, 20, 21, 190, 194, 195, 196, 197, 198, 203, 204, 205, 206, 1462, 1463, 1464, 1465, 1466, 1467, 1468, 1469, 1470, 1471, 1472, 1473, 1474, 1475, 1476, 1477, 1514, 1515, 1516, 1517, 1518, 1519, 1520, 1539, 1540, 1507, 1508, 1509, 1510, 1511, 1512, 1513, 1527, 1528, 1529, 1530, 1531, 1532, 1533, 1534, 1535, 1536, 1537, 1538] (by decide +kernel) (by decide +kernel)) (goodIn_sub (fun _ h => List.mem_append_left _ (List.mem_append_left _ (List.mem_append_left _ (List.mem_append_left _ (List.mem_append_left _ (List.mem_append_left _ (List.mem_append_right _ h))))))) (by decide +kernel))) (goodIn_sub (fun _ h => List.mem_append_left _ (List.mem_append_left _ (List.mem_append_left _ (List.mem_append_left _ (List.mem_append_right _ h))))) (by decide +kernel))) (goodIn_sub (fun _ h => List.mem_append_left _ (List.mem_append_left _ (List.mem_append_left _ (List.mem_append_right _ h)))) (by decide +kernel))) (goodIn_sub (fun _ h => List.mem_append_left _ (List.mem_append_left _ (List.mem_append_left _ (List.mem_append_left _ (List.mem_append_left _ (List.mem_append_right _ h)))))) (by decide +kernel))) (goodIn_sub (fun _ h => List.mem_append_left _ (List.mem_append_left _ (List.mem_append_right _ h))) (by decide +kernel))) (goodIn_sub (fun _ h => List.mem_append_left _ (List.mem_append_right _ h)) (by decide +kernel))
set_option maxRecDepth 20000 in
theorem gL_law_L_run : GoodIn wsL_law (va_wsS RL 299 yL_run wsL_run) := goodIn_app (goodIn_of _ (by decide +kernel)) ggL_law_L_run
set_option maxRecDepth 20000 in
theorem ggL_law_X13_run : GoodIn wsL_law wsX13_run := goodIn_ca (goodIn_r _ [1260, 1087, 1261, 1262, 1263, 1264, 128, 215, 129, 211, 212, 213, 5, 214, 131, 130, 136, 135, 216, 217, 218, 219, 220, 221, 1265, 1266, 1267, 1268, 1269, 1270, 1271, 1272, 1273, 1274, 1275, 1276, 145, 147, 146, 1277, 1278, 1279, 1280, 143, 1281, 1282, 1283, 1284, 226, 227, 228, 1285, 1286, 1287, 1288, 1289, 1290, 1291, 1292, 1293, 1294, 1295, 1296, 1297, 1298, 1299, 1300, 222, 223, 224, 225, 229, 230, 231, 232, 233, 234, 235, 270, 271, 272, 273, 274, 275, 276, 277, 278, 279, 280, 281, 299, 300, 301, 302, 700, 701, 702, 703, 704, 705, 706, 707, 708, 709, 710, 148, 149, 150, 742, 743, 744, 745, 746, 747, 748, 749, 750, 751, 752, 753, 774, 775, 776, 777, 825, 826, 827, 828, 829, 903, 904, 905, 906, 869, 870, 871, 872, 873, 874, 875, 876, 877, 878, 879, 139, 880, 881, 882, 883, 884, 885, 886, 887, 236, 237, 238, 239, 240, 133, 138, 1478, 1479, 1480, 1481, 1482, 1483, 1484, 1485, 1486, 1487, 1488, 1489, 1490, 1491, 1492, 1493, 1494, 1495, 1496, 1497, 1498, 1499, 1500, 1501, 1502, 1503, 1504, 1505, 1506] (by decide +kernel) (by decide +kernel)) (goodIn_sub (fun _ h => List.mem_append_left _ (List.mem_append_left _ (List.mem_append_left _ (List.mem_append_left _ (List.mem_append_left _ (List.mem_append_left _ (List.mem_append_right _ h))))))) (by decide +kernel))
set_option maxRecDepth 20000 in
theorem gL_law_X13_run : GoodIn wsL_law (wsV RL 302 RX13 yX13_run wsX13_run) := goodIn_app (goodIn_of _ (by decide +kernel)) ggL_law_X13_run
set_option maxRecDepth 20000 in
theorem ggL_law_L_errorPosition : GoodIn wsL_law wsL_errorPosition := goodIn_ca (goodIn_ca (goodIn_r _ [1303, 757, 1304, 1305, 1306, 2, 1307, 205, 206, 29, 1462, 1463, 1464, 1465, 1466, 1467, 1468, 1469, 1470, 1471, 1472, 1473, 1474, 1475, 1476, 1477] (by decide +kernel) (by decide +kernel)) (goodIn_sub (fun _ h => List.mem_append_left _ (List.mem_append_left _ (List.mem_append_left _ (List.mem_append_left _ (List.mem_append_left _ (List.mem_append_left _ (List.mem_append_right _ h))))))) (by decide +kernel))) (goodIn_sub (fun _ h => List.mem_append_left _ (List.mem_append_right _ h)) (by decide +kernel))
set_option maxRecDepth 20000 in
theorem gL_law_L_errorPosition : GoodIn wsL_law (va_wsS RL 303 yL_errorPosition wsL_errorPosition) := goodIn_app (goodIn_of _ (by decide +kernel)) ggL_law_L_errorPosition
set_option maxRecDepth 20000 in
theorem ggL_law_X13_errorPosition : GoodIn wsL_law wsX13_errorPosition := goodIn_r _ [1311, 128, 215, 1478, 1479, 1480, 1481, 1482, 1483, 1484, 1485, 1486, 1487, 1488, 1489, 1490, 1491, 1492, 1493, 1494, 1495, 1496, 1497, 1498, 1499, 1500, 1501, 1502, 1503, 1504, 1505, 1506] (by decide +kernel) (by decide +kernel)
set_option maxRecDepth 20000 in
theorem gL_law_X13_errorPosition : GoodIn wsL_law (wsV RL 305 RX13 yX13_errorPosition wsX13_errorPosition) := goodIn_app (goodIn_of _ (by decide +kernel)) ggL_law_X13_errorPosition
set_option maxRecDepth 20000 in
theorem ggL_law_L_failedCommand : GoodIn wsL_law wsL_failedCommand := goodIn_ca (goodIn_ca (goodIn_r _ [1314, 757, 1315, 1316, 1317, 2, 1318, 205, 206, 30, 1462, 1463, 1464, 1465, 1466, 1467, 1468, 1469, 1470, 1471, 1472, 1473, 1474, 1475, 1476, 1477] (by decide +kernel) (by decide +kernel)) (goodIn_sub (fun _ h => List.mem_append_left _ (List.mem_append_left _ (List.mem_append_left _ (List.mem_append_left _ (List.mem_append_left _ (List.mem_append_left _ (List.mem_append_right _ h))))))) (by decide +kernel))) (goodIn_sub (fun _ h => List.mem_append_left _ (List.mem_append_right _ h)) (by decide +kernel))
set_option maxRecDepth 20000 in
theorem gL_law_L_failedCommand : GoodIn wsL_law (va_wsS RL 306 yL_failedCommand wsL_failedCommand) := goodIn_app (goodIn_of _ (by decide +kernel)) ggL_law_L_failedCommand
set_option maxRecDepth 20000 in
theorem ggL_law_X13_failedCommand : GoodIn wsL_law wsX13_failedCommand := goodIn_r _ [1322, 129, 215, 1478, 1479, 1480, 1481, 1482, 1483, 1484, 1485, 1486, 1487, 1488, 1489, 1490, 1491, 1492, 1493, 1494, 1495, 1496, 1497, 1498, 1499, 1500, 1501, 1502, 1503, 1504, 1505, 1506] (by decide +kernel) (by decide +kernel)
set_option maxRecDepth 20000 in
theorem gL_law_X13_failedCommand : GoodIn wsL_law (wsV RL 308 RX13 yX13_failedCommand wsX13_failedCommand) := goodIn_app (goodIn_of _ (by decide +kernel)) ggL_law_X13_failedCommand
set_option maxRecDepth 20000 in
theorem ggL_law_L_describeClaim : GoodIn wsL_law wsL_describeClaim := goodIn_ca (goodIn_ca (goodIn_r _ [1325, 248, 1326, 1327, 1328, 2, 1329, 33, 17, 161, 307, 356, 324, 325, 326, 327, 197, 198, 328, 258, 259, 52, 260, 71, 1330, 1331, 1332, 1333, 1334, 1335, 1336, 32, 1337, 1338, 1339, 1340, 434, 363, 364, 365, 366, 367, 36, 368, 369, 370, 371, 372, 373, 374, 375, 376, 377, 75, 261, 262, 263, 264, 265, 357, 430, 431, 432, 433, 435, 1462, 1463, 1464, 1465, 1466, 1467, 1468, 1469, 1470, 1471, 1472, 1473, 1474, 1475, 1476, 1477, 1507, 1508, 1509, 1510, 1511, 1512, 1513, 1527, 1528, 1529, 1530, 1531, 1532] (by decide +kernel) (by decide +kernel)) (goodIn_sub (fun _ h => List.mem_append_left _ (List.mem_append_left _ (List.mem_append_left _ (List.mem_append_left _ (List.mem_append_left _ (List.mem_append_left _ (List.mem_append_right _ h))))))) (by decide +kernel))) (goodIn_sub (fun _ h => List.mem_append_left _ (List.mem_append_left _ (List.mem_append_left _ (List.mem_append_left _ (List.mem_append_left _ (List.mem_append_right _ h)))))) (by decide +kernel))
set_option maxRecDepth 20000 in
theorem gL_law_L_describeClaim : GoodIn wsL_law (va_wsS RL 309 yL_describeClaim wsL_describeClaim) := goodIn_app (goodIn_of _ (by decide +kernel)) ggL_law_L_describeClaim
set_option maxRecDepth 20000 in
theorem ggL_law_X13_describeClaim : GoodIn wsL_law wsX13_describeClaim := goodIn_ca (goodIn_r _ [1344, 1345, 130, 333, 334, 335, 5, 336, 215, 274, 275, 276, 277, 226, 227, 228, 382, 383, 384, 385, 386, 387, 388, 389, 390, 391, 392, 393, 233, 234, 235, 278, 279, 280, 281, 1346, 1347, 1348, 1349, 144, 1478, 1479, 1480, 1481, 1482, 1483, 1484, 1485, 1486, 1487, 1488, 1489, 1490, 1491, 1492, 1493, 1494, 1495, 1496, 1497, 1498, 1499, 1500, 1501, 1502, 1503, 1504, 1505, 1506] (by decide +kernel) (by decide +kernel)) (goodIn_sub (fun _ h => List.mem_append_left _ (List.mem_append_left _ (List.mem_append_left _ (List.mem_append_left _ (List.mem_append_left _ (List.mem_append_left _ (List.mem_append_right _ h))))))) (by decide +kernel))
set_option maxRecDepth 20000 in
theorem gL_law_X13_describeClaim : GoodIn wsL_law (wsV RL 311 RX13 yX13_describeClaim wsX13_describeClaim) := goodIn_app (goodIn_of _ (by decide +kernel)) ggL_law_X13_describeClaim
set_option maxRecDepth 20000 in
theorem ggL_law_X12_describeRacks : GoodIn wsL_law wsX12_describeRacks := goodIn_ca (goodIn_r _ [1353, 33, 17, 684, 1354, 785, 1333, 1334, 1335, 2, 1336, 32, 1462, 1463, 1464, 1465, 1466, 1467, 1468, 1469, 1470, 1471, 1472, 1473, 1474, 1475, 1476, 1477, 1507, 1508, 1509, 1510, 1511, 1512, 1513, 1533, 1534] (by decide +kernel) (by decide +kernel)) (goodIn_sub (fun _ h => List.mem_append_left _ (List.mem_append_left _ (List.mem_append_left _ (List.mem_append_left _ (List.mem_append_left _ (List.mem_append_left _ (List.mem_append_right _ h))))))) (by decide +kernel))
set_option maxRecDepth 20000 in
theorem gL_law_X12_describeRacks : GoodIn wsL_law (wsV RL 312 RX12 yX12_describeRacks wsX12_describeRacks) := goodIn_app (goodIn_of _ (by decide +kernel)) ggL_law_X12_describeRacks
set_option maxRecDepth 20000 in
theorem ggL_law_X13_describeRacks : GoodIn wsL_law wsX13_describeRacks := goodIn_ca (goodIn_r _ [1358, 215, 1345, 130, 1346, 1347, 1348, 5, 1349, 144, 148, 149, 150, 1478, 1479, 1480, 1481, 1482, 1483, 1484, 1485, 1486, 1487, 1488, 1489, 1490, 1491, 1492, 1493, 1494, 1495, 1496, 1497, 1498, 1499, 1500, 1501, 1502, 1503, 1504, 1505, 1506] (by decide +kernel) (by decide +kernel)) (goodIn_sub (fun _ h => List.mem_append_left _ (List.mem_append_left _ (List.mem_append_left _ (List.mem_append_left _ (List.mem_append_left _ (List.mem_append_left _ (List.mem_append_right _ h))))))) (by decide +kernel))
set_option maxRecDepth 20000 in
theorem gL_law_X13_describeRacks : GoodIn wsL_law (wsV RL 315 RX13 yX13_describeRacks wsX13_describeRacks) := goodIn_app (goodIn_of _ (by decide +kernel)) ggL_law_X13_describeRacks
set_option maxRecDepth 20000 in
theorem ggL_law_L_lineAt : GoodIn wsL_law wsL_lineAt := goodIn_ca (goodIn_ca (goodIn_r _ [1361, 248, 1362, 1363, 1364, 2, 1365, 197, 198, 33, 32, 1462, 1463, 1464, 1465, 1466, 1467, 1468, 1469, 1470, 1471, 1472, 1473, 1474, 1475, 1476, 1477] (by decide +kernel) (by decide +kernel)) (goodIn_sub (fun _ h => List.mem_append_left _ (List.mem_append_left _ (List.mem_append_left _ (List.mem_append_left _ (List.mem_append_left _ (List.mem_append_left _ (List.mem_append_right _ h))))))) (by decide +kernel))) (goodIn_sub (fun _ h => List.mem_append_left _ (List.mem_append_left _ (List.mem_append_left _ (List.mem_append_left _ (List.mem_append_left _ (List.mem_append_right _ h)))))) (by decide +kernel))
set_option maxRecDepth 20000 in
theorem gL_law_L_lineAt : GoodIn wsL_law (va_wsS RL 316 yL_lineAt wsL_lineAt) := goodIn_app (goodIn_of _ (by decide +kernel)) ggL_law_L_lineAt
set_option maxRecDepth 20000 in
theorem ggL_law_X13_lineAt : GoodIn wsL_law wsX13_lineAt := goodIn_ca (goodIn_r _ [1369, 1345, 215, 144, 226, 227, 5, 228, 1478, 1479, 1480, 1481, 1482, 1483, 1484, 1485, 1486, 1487, 1488, 1489, 1490, 1491, 1492, 1493, 1494, 1495, 1496, 1497, 1498, 1499, 1500, 1501, 1502, 1503, 1504, 1505, 1506] (by decide +kernel) (by decide +kernel)) (goodIn_sub (fun _ h => List.mem_append_left _ (List.mem_append_left _ (List.mem_append_left _ (List.mem_append_left _ (List.mem_append_left _ (List.mem_append_left _ (List.mem_append_right _ h))))))) (by decide +kernel))
set_option maxRecDepth 20000 in
theorem gL_law_X13_lineAt : GoodIn wsL_law (wsV RL 318 RX13 yX13_lineAt wsX13_lineAt) := goodIn_app (goodIn_of _ (by decide +kernel)) ggL_law_X13_lineAt
set_option maxRecDepth 20000 in
theorem ggL_law_L_meanWeight : GoodIn wsL_law wsL_meanWeight := goodIn_ca (goodIn_ca (goodIn_r _ [1372, 1373, 1374, 1375, 1376, 2, 1377, 1378, 1379, 17, 161, 307, 444, 445, 446, 52, 447, 71, 264, 265, 517, 514, 515, 516, 73, 261, 262, 263, 1462, 1463, 1464, 1465, 1466, 1467, 1468, 1469, 1470, 1471, 1472, 1473, 1474, 1475, 1476, 1477, 1507, 1508, 1509, 1510, 1511, 1512, 1513, 1527, 1528, 1529, 1530, 1531, 1532] (by decide +kernel) (by decide +kernel)) (goodIn_sub (fun _ h => List.mem_append_left _ (List.mem_append_left _ (List.mem_append_left _ (List.mem_append_left _ (List.mem_append_left _ (List.mem_append_left _ (List.mem_append_right _ h))))))) (by decide +kernel))) (goodIn_sub (fun _ h => List.mem_append_right _ h) (by decide +kernel))
set_option maxRecDepth 20000 in
theorem gL_law_L_meanWeight : GoodIn wsL_law (va_wsS RL 319 yL_meanWeight wsL_meanWeight) := goodIn_app (goodIn_of _ (by decide +kernel)) ggL_law_L_meanWeight
set_option maxRecDepth 20000 in
theorem ggL_law_X13_meanWeight : GoodIn wsL_law wsX13_meanWeight := goodIn_ca (goodIn_r _ [1383, 130, 215, 526, 527, 528, 5, 529, 233, 234, 235, 1478, 1479, 1480, 1481, 1482, 1483, 1484, 1485, 1486, 1487, 1488, 1489, 1490, 1491, 1492, 1493, 1494, 1495, 1496, 1497, 1498, 1499, 1500, 1501, 1502, 1503, 1504, 1505, 1506] (by decide +kernel) (by decide +kernel)) (goodIn_sub (fun _ h => List.mem_append_left _ (List.mem_append_left _ (List.mem_append_left _ (List.mem_append_left _ (List.mem_append_left _ (List.mem_append_left _ (List.mem_append_right _ h))))))) (by decide +kernel))
set_option maxRecDepth 20000 in
theorem gL_law_X13_meanWeight : GoodIn wsL_law (wsV RL 322 RX13 yX13_meanWeight wsX13_meanWeight) := goodIn_app (goodIn_of _ (by decide +kernel)) ggL_law_X13_meanWeight
set_option maxRecDepth 20000 in
theorem ggL_law_L_meanWeightBits : GoodIn wsL_law wsL_meanWeightBits := goodIn_ca (goodIn_ca (goodIn_r _ [1386, 1373, 1387, 1388, 1389, 2, 1390, 1391, 1375, 1376, 1377, 1378, 1379, 17, 161, 307, 444, 445, 446, 52, 447, 71, 264, 265, 517, 514, 515, 516, 73, 261, 262, 263, 1392, 1393, 928, 1394, 933, 934, 935, 936, 937, 938, 939, 940, 1462, 1463, 1464, 1465, 1466, 1467, 1468, 1469, 1470, 1471, 1472, 1473, 1474, 1475, 1476, 1477, 1507, 1508, 1509, 1510, 1511, 1512, 1513, 1527, 1528, 1529, 1530, 1531, 1532] (by decide +kernel) (by decide +kernel)) (goodIn_sub (fun _ h => List.mem_append_left _ (List.mem_append_left _ (List.mem_append_left _ (List.mem_append_left _ (List.mem_append_left _ (List.mem_append_left _ (List.mem_append_right _ h))))))) (by decide +kernel))) (goodIn_sub (fun _ h => List.mem_append_right _ h) (by decide +kernel))
set_option maxRecDepth 20000 in
theorem gL_law_L_meanWeightBits : GoodIn wsL_law (va_wsS RL 323 yL_meanWeightBits wsL_meanWeightBits) := goodIn_app (goodIn_of _ (by decide +kernel)) ggL_law_L_meanWeightBits
set_option maxRecDepth 20000 in
theorem ggL_law_X13_meanWeightBits : GoodIn wsL_law wsX13_meanWeightBits := goodIn_ca (goodIn_r _ [1398, 215, 1399, 1381, 1382, 5, 1383, 130, 526, 527, 528, 529, 233, 234, 235, 1400, 1401, 1402, 1403, 1404, 1405, 1406, 1407, 1408, 1409, 1410, 1411, 1478, 1479, 1480, 1481, 1482, 1483, 1484, 1485, 1486, 1487, 1488, 1489, 1490, 1491, 1492, 1493, 1494, 1495, 1496, 1497, 1498, 1499, 1500, 1501, 1502, 1503, 1504, 1505, 1506] (by decide +kernel) (by decide +kernel)) (goodIn_sub (fun _ h => List.mem_append_left _ (List.mem_append_left _ (List.mem_append_left _ (List.mem_append_left _ (List.mem_append_left _ (List.mem_append_left _ (List.mem_append_right _ h))))))) (by decide +kernel))
set_option maxRecDepth 20000 in
theorem gL_law_X13_meanWeightBits : GoodIn wsL_law (wsV RL 325 RX13 yX13_meanWeightBits wsX13_meanWeightBits) := goodIn_app (goodIn_of _ (by decide +kernel)) ggL_law_X13_meanWeightBits
set_option maxRecDepth 20000 in
theorem ggL_law_X12_isConsistent : GoodIn wsL_law wsX12_isConsistent := goodIn_ca (goodIn_ca (goodIn_ca (goodIn_r _ [1415, 17, 161, 434, 363, 364, 2, 365, 366, 367, 36, 368, 369, 370, 371, 372, 373, 374, 375, 376, 52, 377, 71, 75, 261, 262, 263, 264, 265, 1416, 395, 396, 397, 37, 398, 399, 400, 401, 109, 402, 403, 404, 405, 406, 407, 408, 409, 410, 411, 412, 413, 414, 415, 416, 417, 1417, 457, 458, 459, 460, 461, 462, 463, 464, 445, 446, 447, 465, 466, 467, 468, 469, 470, 471, 472, 76, 1418, 482, 483, 484, 485, 486, 487, 488, 489, 490, 491, 492, 493, 1419, 548, 549, 550, 551, 552, 40, 553, 554, 555, 556, 557, 558, 559, 560, 561, 562, 1420, 576, 577, 578, 41, 579, 580, 581, 582, 583, 584, 585, 586, 114, 587, 588, 589, 590, 591, 1421, 1422, 1423, 1424, 307, 1425, 613, 614, 615, 45, 616, 617, 618, 619, 199, 200, 324, 325, 326, 327, 197, 198, 328, 258, 259, 260, 620, 621, 622, 44, 623, 624, 122, 625, 626, 627, 628, 120, 629, 630, 631, 632, 633, 634, 635, 636, 637, 123, 638, 639, 640, 641, 642, 643, 644, 645, 646, 647, 648, 649, 650, 121, 1426, 660, 661, 662, 663, 664, 665, 666, 667, 668, 669, 670, 671, 542, 970, 958, 959, 960, 961, 858, 859, 860, 77, 1462, 1463, 1464, 1465, 1466, 1467, 1468, 1469, 1470, 1471, 1472, 1473, 1474, 1475, 1476, 1477, 1507, 1508, 1509, 1510, 1511, 1512, 1513, 1527, 1528, 1529, 1530, 1531, 1532, 1521, 1522, 1523, 1524, 1525, 1526] (by decide +kernel) (by decide +kernel)) (goodIn_sub (fun _ h => List.mem_append_left _ (List.mem_append_left _ (List.mem_append_left _ (List.mem_append_left _ (List.mem_append_left _ (List.mem_append_left _ (List.mem_append_right _ h))))))) (by decide +kernel))) (goodIn_sub (fun _ h => List.mem_append_left _ (List.mem_append_left _ (List.mem_append_left _ (List.mem_append_left _ (List.mem_append_right _ h))))) (by decide +kernel))) (goodIn_sub (fun _ h => List.mem_append_left _ (List.mem_append_left _ (List.mem_append_left _ (List.mem_append_left _ (List.mem_append_left _ (List.mem_append_right _ h)))))) (by decide +kernel))
set_option maxRecDepth 20000 in
theorem gL_law_X12_isConsistent : GoodIn wsL_law (wsV RL 326 RX12 yX12_isConsistent wsX12_isConsistent) := goodIn_app (goodIn_of _ (by decide +kernel)) ggL_law_X12_isConsistent
set_option maxRecDepth 20000 in
theorem ggL_law_X13_isConsistent : GoodIn wsL_law wsX13_isConsistent := goodIn_ca (goodIn_r _ [1430, 215, 382, 383, 384, 5, 385, 130, 386, 387, 388, 389, 390, 391, 392, 393, 233, 234, 235, 278, 279, 280, 281, 477, 478, 479, 480, 880, 881, 882, 883, 135, 1478, 1479, 1480, 1481, 1482, 1483, 1484, 1485, 1486, 1487, 1488, 1489, 1490, 1491, 1492, 1493, 1494, 1495, 1496, 1497, 1498, 1499, 1500, 1501, 1502, 1503, 1504, 1505, 1506] (by decide +kernel) (by decide +kernel)) (goodIn_sub (fun _ h => List.mem_append_left _ (List.mem_append_left _ (List.mem_append_left _ (List.mem_append_left _ (List.mem_append_left _ (List.mem_append_left _ (List.mem_append_right _ h))))))) (by decide +kernel))
set_option maxRecDepth 20000 in
theorem gL_law_X13_isConsistent : GoodIn wsL_law (wsV RL 330 RX13 yX13_isConsistent wsX13_isConsistent) := goodIn_app (goodIn_of _ (by decide +kernel)) ggL_law_X13_isConsistent
set_option maxRecDepth 20000 in
theorem ggL_law_L_undo : GoodIn wsL_law wsL_undo := goodIn_ca (goodIn_ca (goodIn_r _ [1433, 156, 1434, 1435, 1436, 2, 1437, 201, 202, 21, 20, 17, 19, 1462, 1463, 1464, 1465, 1466, 1467, 1468, 1469, 1470, 1471, 1472, 1473, 1474, 1475, 1476, 1477] (by decide +kernel) (by decide +kernel)) (goodIn_sub (fun _ h => List.mem_append_left _ (List.mem_append_left _ (List.mem_append_left _ (List.mem_append_left _ (List.mem_append_left _ (List.mem_append_left _ (List.mem_append_right _ h))))))) (by decide +kernel))) (goodIn_sub (fun _ h => List.mem_append_left _ (List.mem_append_left _ (List.mem_append_left _ (List.mem_append_right _ h)))) (by decide +kernel))
set_option maxRecDepth 20000 in
theorem gL_law_L_undo : GoodIn wsL_law (va_wsS RL 331 yL_undo wsL_undo) := goodIn_app (goodIn_of _ (by decide +kernel)) ggL_law_L_undo
set_option maxRecDepth 20000 in
theorem ggL_law_X13_undo : GoodIn wsL_law wsX13_undo := goodIn_ca (goodIn_r _ [1441, 240, 215, 130, 133, 135, 138, 1478, 1479, 1480, 1481, 1482, 1483, 1484, 1485, 1486, 1487, 1488, 1489, 1490, 1491, 1492, 1493, 1494, 1495, 1496, 1497, 1498, 1499, 1500, 1501, 1502, 1503, 1504, 1505, 1506] (by decide +kernel) (by decide +kernel)) (goodIn_sub (fun _ h => List.mem_append_left _ (List.mem_append_left _ (List.mem_append_left _ (List.mem_append_left _ (List.mem_append_left _ (List.mem_append_left _ (List.mem_append_right _ h))))))) (by decide +kernel))
set_option maxRecDepth 20000 in
theorem gL_law_X13_undo : GoodIn wsL_law (wsV RL 333 RX13 yX13_undo wsX13_undo) := goodIn_app (goodIn_of _ (by decide +kernel)) ggL_law_X13_undo
set_option maxRecDepth 20000 in
theorem ggL_law_X12_save : GoodIn wsL_law wsX12_save := goodIn_ca (goodIn_r _ [1445, 22, 17, 23, 161, 307, 162, 163, 164, 16, 165, 53, 57, 61, 62, 63, 64, 166, 167, 168, 52, 169, 71, 73, 170, 171, 172, 173, 74, 75, 76, 77, 174, 175, 176, 56, 177, 82, 83, 178, 179, 180, 60, 181, 88, 89, 90, 91, 1462, 1463, 1464, 1465, 1466, 1467, 1468, 1469, 1470, 1471, 1472, 1473, 1474, 1475, 1476, 1477, 1507, 1508, 1509, 1510, 1511, 1512, 1513, 1527, 1528, 1529, 1530, 1531, 1532, 1533, 1534, 1535, 1536, 1537, 1538] (by decide +kernel) (by decide +kernel)) (goodIn_sub (fun _ h => List.mem_append_left _ (List.mem_append_left _ (List.mem_append_left _ (List.mem_append_left _ (List.mem_append_left _ (List.mem_append_left _ (List.mem_append_right _ h))))))) (by decide +kernel))
set_option maxRecDepth 20000 in
theorem gL_law_X12_save : GoodIn wsL_law (wsV RL 334 RX12 yX12_save wsX12_save) := goodIn_app (goodIn_of _ (by decide +kernel)) ggL_law_X12_save
set_option maxRecDepth 20000 in
theorem ggL_law_X13_save : GoodIn wsL_law wsX13_save := goodIn_ca (goodIn_r _ [1449, 215, 132, 130, 137, 135, 1450, 216, 217, 5, 218, 219, 220, 221, 1478, 1479, 1480, 1481, 1482, 1483, 1484, 1485, 1486, 1487, 1488, 1489, 1490, 1491, 1492, 1493, 1494, 1495, 1496, 1497, 1498, 1499, 1500, 1501, 1502, 1503, 1504, 1505, 1506] (by decide +kernel) (by decide +kernel)) (goodIn_sub (fun _ h => List.mem_append_left _ (List.mem_append_left _ (List.mem_append_left _ (List.mem_append_left _ (List.mem_append_left _ (List.mem_append_left _ (List.mem_append_right _ h))))))) (by decide +kernel))
set_option maxRecDepth 20000 in
theorem gL_law_X13_save : GoodIn wsL_law (wsV RL 337 RX13 yX13_save wsX13_save) := goodIn_app (goodIn_of _ (by decide +kernel)) ggL_law_X13_save
set_option maxRecDepth 20000 in
theorem ggL_law_L_restore : GoodIn wsL_law wsL_restore := goodIn_ca (goodIn_ca (goodIn_r _ [1453, 156, 1454, 1455, 1456, 2, 1457, 201, 202, 23, 17, 22, 21, 161, 307, 162, 163, 164, 16, 165, 53, 57, 61, 62, 63, 64, 166, 167, 168, 52, 169, 71, 73, 170, 171, 172, 173, 74, 75, 76, 77, 174, 175, 176, 56, 177, 82, 83, 178, 179, 180, 60, 181, 88, 89, 90, 91, 1462, 1463, 1464, 1465, 1466, 1467, 1468, 1469, 1470, 1471, 1472, 1473, 1474, 1475, 1476, 1477, 1507, 1508, 1509, 1510, 1511, 1512, 1513, 1527, 1528, 1529, 1530, 1531, 1532, 1533, 1534, 1535, 1536, 1537, 1538] (by decide +kernel) (by decide +kernel)) (goodIn_sub (fun _ h => List.mem_append_left _ (List.mem_append_left _ (List.mem_append_left _ (List.mem_append_left _ (List.mem_append_left _ (List.mem_append_left _ (List.mem_append_right _ h))))))) (by decide +kernel))) (goodIn_sub (fun _ h => List.mem_append_left _ (List.mem_append_left _ (List.mem_append_left _ (List.mem_append_right _ h)))) (by decide +kernel))
set_option maxRecDepth 20000 in
theorem gL_law_L_restore : GoodIn wsL_law (va_wsS RL 338 yL_restore wsL_restore) := goodIn_app (goodIn_of _ (by decide +kernel)) ggL_law_L_restore
set_option maxRecDepth 20000 in
theorem ggL_law_X13_restore : GoodIn wsL_law wsX13_restore := goodIn_ca (goodIn_r _ [1461, 1450, 215, 130, 132, 135, 137, 240, 216, 217, 5, 218, 219, 220, 221, 1478, 1479, 1480, 1481, 1482, 1483, 1484, 1485, 1486, 1487, 1488, 1489, 1490, 1491, 1492, 1493, 1494, 1495, 1496, 1497, 1498, 1499, 1500, 1501, 1502, 1503, 1504, 1505, 1506] (by decide +kernel) (by decide +kernel)) (goodIn_sub (fun _ h => List.mem_append_left _ (List.mem_append_left _ (List.mem_append_left _ (List.mem_append_left _ (List.mem_append_left _ (List.mem_append_left _ (List.mem_append_right _ h))))))) (by decide +kernel))
set_option maxRecDepth 20000 in
theorem gL_law_X13_restore : GoodIn wsL_law (wsV RL 340 RX13 yX13_restore wsX13_restore) := goodIn_app (goodIn_of _ (by decide +kernel)) ggL_law_X13_restore
