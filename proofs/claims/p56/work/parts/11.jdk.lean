set_option maxRecDepth 20000 in
theorem ggJ5_init_d00df_J2_newBytesFor_77867 : GoodIn wsJ5_init_d00df wsJ2_newBytesFor_77867 := goodIn_r _ [11, 5, 12, 13, 10, 14, 15] rfl (by decide +kernel)
set_option maxRecDepth 20000 in
theorem gJ5_init_d00df_J2_newBytesFor_77867 : GoodIn wsJ5_init_d00df (va_wsS RJ5 26 yJ2_newBytesFor_77867 wsJ2_newBytesFor_77867) := goodIn_app (goodIn_of _ (by decide +kernel)) ggJ5_init_d00df_J2_newBytesFor_77867
theorem dJ5_init_d00df_0 : decode cJ5_init_d00df 0 = .ok (.aload_n 0, 1) := by decide +kernel
theorem dJ5_init_d00df_1 : decode cJ5_init_d00df 1 = .ok (.invokespecial 3, 3) := by decide +kernel
theorem dJ5_init_d00df_4 : decode cJ5_init_d00df 4 = .ok (.getstatic 18, 3) := by decide +kernel
theorem dJ5_init_d00df_7 : decode cJ5_init_d00df 7 = .ok (.ifCond .eq 18, 3) := by decide +kernel
theorem dJ5_init_d00df_10 : decode cJ5_init_d00df 10 = .ok (.aload_n 0, 1) := by decide +kernel
theorem dJ5_init_d00df_11 : decode cJ5_init_d00df 11 = .ok (.iload_n 1, 1) := by decide +kernel
theorem dJ5_init_d00df_12 : decode cJ5_init_d00df 12 = .ok (.newarray .byte, 2) := by decide +kernel
theorem dJ5_init_d00df_14 : decode cJ5_init_d00df 14 = .ok (.putfield 15, 3) := by decide +kernel
theorem dJ5_init_d00df_17 : decode cJ5_init_d00df 17 = .ok (.aload_n 0, 1) := by decide +kernel
theorem dJ5_init_d00df_18 : decode cJ5_init_d00df 18 = .ok (.iconst 0, 1) := by decide +kernel
theorem dJ5_init_d00df_19 : decode cJ5_init_d00df 19 = .ok (.putfield 22, 3) := by decide +kernel
theorem dJ5_init_d00df_22 : decode cJ5_init_d00df 22 = .ok (.goto 16, 3) := by decide +kernel
theorem dJ5_init_d00df_25 : decode cJ5_init_d00df 25 = .ok (.aload_n 0, 1) := by decide +kernel
theorem dJ5_init_d00df_26 : decode cJ5_init_d00df 26 = .ok (.iload_n 1, 1) := by decide +kernel
theorem dJ5_init_d00df_27 : decode cJ5_init_d00df 27 = .ok (.invokestatic 26, 3) := by decide +kernel
theorem dJ5_init_d00df_30 : decode cJ5_init_d00df 30 = .ok (.putfield 15, 3) := by decide +kernel
theorem dJ5_init_d00df_33 : decode cJ5_init_d00df 33 = .ok (.aload_n 0, 1) := by decide +kernel
theorem dJ5_init_d00df_34 : decode cJ5_init_d00df 34 = .ok (.iconst 1, 1) := by decide +kernel
theorem dJ5_init_d00df_35 : decode cJ5_init_d00df 35 = .ok (.putfield 22, 3) := by decide +kernel
theorem dJ5_init_d00df_38 : decode cJ5_init_d00df 38 = .ok (.return_, 1) := by decide +kernel
set_option maxRecDepth 20000 in
theorem ggJ5_init_a7421_J0_length_8abf5 : GoodIn wsJ5_init_a7421 wsJ0_length_8abf5 := goodIn_r _ [13, 14, 15, 16, 17, 12, 18, 19, 20, 161, 162, 163, 164] rfl (by decide +kernel)
set_option maxRecDepth 20000 in
theorem gJ5_init_a7421_J0_length_8abf5 : GoodIn wsJ5_init_a7421 (wsV RJ5 32 RJ0 yJ0_length_8abf5 wsJ0_length_8abf5) := goodIn_app (goodIn_of _ (by decide +kernel)) ggJ5_init_a7421_J0_length_8abf5
set_option maxRecDepth 20000 in
theorem ggJ5_init_a7421_J0_coder_7d493 : GoodIn wsJ5_init_a7421 wsJ0_coder_7d493 := goodIn_r _ [18, 19, 20, 161, 162, 163, 164] rfl (by decide +kernel)
set_option maxRecDepth 20000 in
theorem gJ5_init_a7421_J0_coder_7d493 : GoodIn wsJ5_init_a7421 (wsV RJ5 40 RJ0 yJ0_coder_7d493 wsJ0_coder_7d493) := goodIn_app (goodIn_of _ (by decide +kernel)) ggJ5_init_a7421_J0_coder_7d493
set_option maxRecDepth 20000 in
theorem ggJ5_init_a7421_J2_newBytesFor_77867 : GoodIn wsJ5_init_a7421 wsJ2_newBytesFor_77867 := goodIn_r _ [25, 7, 26, 27, 24, 28, 29] rfl (by decide +kernel)
set_option maxRecDepth 20000 in
theorem gJ5_init_a7421_J2_newBytesFor_77867 : GoodIn wsJ5_init_a7421 (va_wsS RJ5 26 yJ2_newBytesFor_77867 wsJ2_newBytesFor_77867) := goodIn_app (goodIn_of _ (by decide +kernel)) ggJ5_init_a7421_J2_newBytesFor_77867
set_option maxRecDepth 20000 in
theorem ggJ5_init_a7421_J4_append_cf1ce : GoodIn wsJ5_init_a7421 wsJ4_append_cf1ce := goodIn_r _ [36, 37, 38, 39, 35, 40, 41, 31, 42, 43, 44, 45, 46, 47, 48, 49, 50, 51, 8, 52, 53, 54, 55, 56, 6, 57, 58, 59, 60, 61, 5, 62, 63, 64, 65, 66, 67, 68, 69, 70, 71, 72, 73, 74, 75, 76, 77, 78, 79, 80, 81, 82, 83, 7, 84, 85, 86, 87, 88, 89, 90, 91, 92, 93, 94, 95, 96, 97, 98, 24, 99, 100, 101, 102, 103, 104, 105, 106, 107, 108, 12, 109, 110, 111, 112, 113, 114, 115, 116, 117, 118, 119, 9, 10, 11, 13, 14, 15, 16, 17, 18, 19, 20, 120, 121, 122, 123, 124, 125, 126, 127, 128, 129, 21, 130, 131, 132, 133, 134, 22, 23, 25, 26, 27, 28, 29, 135, 136, 137, 138, 139, 140, 141, 142, 143, 144, 145, 146, 147, 148, 149, 150, 151, 152, 153, 154, 155, 156, 157, 158, 159, 160, 161, 162, 163, 164] rfl (by decide +kernel)
set_option maxRecDepth 20000 in
theorem gJ5_init_a7421_J4_append_cf1ce_u43J4 : GoodIn wsJ5_init_a7421 (va_wsO RJ5 43 RJ4 "java/lang/AbstractStringBuilder" ⟨"java/lang/AbstractStringBuilder", "append", "(Ljava/lang/String;)Ljava/lang/AbstractStringBuilder;"⟩ yJ4_append_cf1ce wsJ4_append_cf1ce) := goodIn_app (goodIn_of _ (by decide +kernel)) ggJ5_init_a7421_J4_append_cf1ce
theorem dJ5_init_a7421_0 : decode cJ5_init_a7421 0 = .ok (.aload_n 0, 1) := by decide +kernel
theorem dJ5_init_a7421_1 : decode cJ5_init_a7421 1 = .ok (.invokespecial 3, 3) := by decide +kernel
theorem dJ5_init_a7421_4 : decode cJ5_init_a7421 4 = .ok (.aload_n 1, 1) := by decide +kernel
theorem dJ5_init_a7421_5 : decode cJ5_init_a7421 5 = .ok (.invokevirtual 32, 3) := by decide +kernel
theorem dJ5_init_a7421_8 : decode cJ5_init_a7421 8 = .ok (.istore_n 2, 1) := by decide +kernel
theorem dJ5_init_a7421_9 : decode cJ5_init_a7421 9 = .ok (.iload_n 2, 1) := by decide +kernel
theorem dJ5_init_a7421_10 : decode cJ5_init_a7421 10 = .ok (.ldc 38, 2) := by decide +kernel
theorem dJ5_init_a7421_12 : decode cJ5_init_a7421 12 = .ok (.if_icmp .ge 10, 3) := by decide +kernel
theorem dJ5_init_a7421_15 : decode cJ5_init_a7421 15 = .ok (.iload_n 2, 1) := by decide +kernel
theorem dJ5_init_a7421_16 : decode cJ5_init_a7421 16 = .ok (.bipush 16, 2) := by decide +kernel
theorem dJ5_init_a7421_18 : decode cJ5_init_a7421 18 = .ok (.iadd, 1) := by decide +kernel
theorem dJ5_init_a7421_19 : decode cJ5_init_a7421 19 = .ok (.goto 5, 3) := by decide +kernel
theorem dJ5_init_a7421_22 : decode cJ5_init_a7421 22 = .ok (.ldc 39, 2) := by decide +kernel
theorem dJ5_init_a7421_24 : decode cJ5_init_a7421 24 = .ok (.istore_n 3, 1) := by decide +kernel
theorem dJ5_init_a7421_25 : decode cJ5_init_a7421 25 = .ok (.aload_n 1, 1) := by decide +kernel
theorem dJ5_init_a7421_26 : decode cJ5_init_a7421 26 = .ok (.invokevirtual 40, 3) := by decide +kernel
theorem dJ5_init_a7421_29 : decode cJ5_init_a7421 29 = .ok (.istore 4, 2) := by decide +kernel
theorem dJ5_init_a7421_31 : decode cJ5_init_a7421 31 = .ok (.aload_n 0, 1) := by decide +kernel
theorem dJ5_init_a7421_32 : decode cJ5_init_a7421 32 = .ok (.iload 4, 2) := by decide +kernel
theorem dJ5_init_a7421_34 : decode cJ5_init_a7421 34 = .ok (.putfield 22, 3) := by decide +kernel
theorem dJ5_init_a7421_37 : decode cJ5_init_a7421 37 = .ok (.aload_n 0, 1) := by decide +kernel
theorem dJ5_init_a7421_38 : decode cJ5_init_a7421 38 = .ok (.iload 4, 2) := by decide +kernel
theorem dJ5_init_a7421_40 : decode cJ5_init_a7421 40 = .ok (.ifCond .ne 9, 3) := by decide +kernel
theorem dJ5_init_a7421_43 : decode cJ5_init_a7421 43 = .ok (.iload_n 3, 1) := by decide +kernel
theorem dJ5_init_a7421_44 : decode cJ5_init_a7421 44 = .ok (.newarray .byte, 2) := by decide +kernel
theorem dJ5_init_a7421_46 : decode cJ5_init_a7421 46 = .ok (.goto 7, 3) := by decide +kernel
theorem dJ5_init_a7421_49 : decode cJ5_init_a7421 49 = .ok (.iload_n 3, 1) := by decide +kernel
theorem dJ5_init_a7421_50 : decode cJ5_init_a7421 50 = .ok (.invokestatic 26, 3) := by decide +kernel
theorem dJ5_init_a7421_53 : decode cJ5_init_a7421 53 = .ok (.putfield 15, 3) := by decide +kernel
theorem dJ5_init_a7421_56 : decode cJ5_init_a7421 56 = .ok (.aload_n 0, 1) := by decide +kernel
theorem dJ5_init_a7421_57 : decode cJ5_init_a7421 57 = .ok (.aload_n 1, 1) := by decide +kernel
theorem dJ5_init_a7421_58 : decode cJ5_init_a7421 58 = .ok (.invokevirtual 43, 3) := by decide +kernel
theorem dJ5_init_a7421_61 : decode cJ5_init_a7421 61 = .ok (.pop, 1) := by decide +kernel
theorem dJ5_init_a7421_62 : decode cJ5_init_a7421 62 = .ok (.return_, 1) := by decide +kernel
theorem dJ5_length_8abf5_0 : decode cJ5_length_8abf5 0 = .ok (.aload_n 0, 1) := by decide +kernel
theorem dJ5_length_8abf5_1 : decode cJ5_length_8abf5 1 = .ok (.getfield 79, 3) := by decide +kernel
theorem dJ5_length_8abf5_4 : decode cJ5_length_8abf5 4 = .ok (.ireturn, 1) := by decide +kernel
set_option maxRecDepth 20000 in
theorem ggJ5_ensureCapacityInternal_d00df_J5_newCapacity_0f7a4 : GoodIn wsJ5_ensureCapacityInternal_d00df wsJ5_newCapacity_0f7a4 := goodIn_r _ [8, 1, 2, 9, 10, 11, 12, 13, 14, 15, 16, 17, 18, 19, 20, 21, 40, 41, 42, 43] rfl (by decide +kernel)
set_option maxRecDepth 20000 in
theorem gJ5_ensureCapacityInternal_d00df_J5_newCapacity_0f7a4_u104J4 : GoodIn wsJ5_ensureCapacityInternal_d00df (va_wsU RJ5 104 RJ4 "java/lang/AbstractStringBuilder" ⟨"java/lang/AbstractStringBuilder", "newCapacity", "(I)I"⟩ yJ5_newCapacity_0f7a4 wsJ5_newCapacity_0f7a4) := goodIn_app (goodIn_of _ (by decide +kernel)) ggJ5_ensureCapacityInternal_d00df_J5_newCapacity_0f7a4
set_option maxRecDepth 20000 in
theorem ggJ5_ensureCapacityInternal_d00df_J7_copyOf_9075b : GoodIn wsJ5_ensureCapacityInternal_d00df wsJ7_copyOf_9075b := goodIn_r _ [25, 26, 27, 28, 29, 30, 31, 32, 33, 34, 16, 35, 36, 37, 38, 39] rfl (by decide +kernel)
set_option maxRecDepth 20000 in
theorem gJ5_ensureCapacityInternal_d00df_J7_copyOf_9075b : GoodIn wsJ5_ensureCapacityInternal_d00df (va_wsS RJ5 108 yJ7_copyOf_9075b wsJ7_copyOf_9075b) := goodIn_app (goodIn_of _ (by decide +kernel)) ggJ5_ensureCapacityInternal_d00df_J7_copyOf_9075b
theorem dJ5_ensureCapacityInternal_d00df_0 : decode cJ5_ensureCapacityInternal_d00df 0 = .ok (.aload_n 0, 1) := by decide +kernel
theorem dJ5_ensureCapacityInternal_d00df_1 : decode cJ5_ensureCapacityInternal_d00df 1 = .ok (.getfield 15, 3) := by decide +kernel
theorem dJ5_ensureCapacityInternal_d00df_4 : decode cJ5_ensureCapacityInternal_d00df 4 = .ok (.arraylength, 1) := by decide +kernel
theorem dJ5_ensureCapacityInternal_d00df_5 : decode cJ5_ensureCapacityInternal_d00df 5 = .ok (.aload_n 0, 1) := by decide +kernel
theorem dJ5_ensureCapacityInternal_d00df_6 : decode cJ5_ensureCapacityInternal_d00df 6 = .ok (.getfield 22, 3) := by decide +kernel
theorem dJ5_ensureCapacityInternal_d00df_9 : decode cJ5_ensureCapacityInternal_d00df 9 = .ok (.ishr, 1) := by decide +kernel
theorem dJ5_ensureCapacityInternal_d00df_10 : decode cJ5_ensureCapacityInternal_d00df 10 = .ok (.istore_n 2, 1) := by decide +kernel
theorem dJ5_ensureCapacityInternal_d00df_11 : decode cJ5_ensureCapacityInternal_d00df 11 = .ok (.iload_n 1, 1) := by decide +kernel
theorem dJ5_ensureCapacityInternal_d00df_12 : decode cJ5_ensureCapacityInternal_d00df 12 = .ok (.iload_n 2, 1) := by decide +kernel
theorem dJ5_ensureCapacityInternal_d00df_13 : decode cJ5_ensureCapacityInternal_d00df 13 = .ok (.isub, 1) := by decide +kernel
theorem dJ5_ensureCapacityInternal_d00df_14 : decode cJ5_ensureCapacityInternal_d00df 14 = .ok (.ifCond .le 24, 3) := by decide +kernel
theorem dJ5_ensureCapacityInternal_d00df_17 : decode cJ5_ensureCapacityInternal_d00df 17 = .ok (.aload_n 0, 1) := by decide +kernel
theorem dJ5_ensureCapacityInternal_d00df_18 : decode cJ5_ensureCapacityInternal_d00df 18 = .ok (.aload_n 0, 1) := by decide +kernel
theorem dJ5_ensureCapacityInternal_d00df_19 : decode cJ5_ensureCapacityInternal_d00df 19 = .ok (.getfield 15, 3) := by decide +kernel
theorem dJ5_ensureCapacityInternal_d00df_22 : decode cJ5_ensureCapacityInternal_d00df 22 = .ok (.aload_n 0, 1) := by decide +kernel
theorem dJ5_ensureCapacityInternal_d00df_23 : decode cJ5_ensureCapacityInternal_d00df 23 = .ok (.iload_n 1, 1) := by decide +kernel
theorem dJ5_ensureCapacityInternal_d00df_24 : decode cJ5_ensureCapacityInternal_d00df 24 = .ok (.invokevirtual 104, 3) := by decide +kernel
theorem dJ5_ensureCapacityInternal_d00df_27 : decode cJ5_ensureCapacityInternal_d00df 27 = .ok (.aload_n 0, 1) := by decide +kernel
theorem dJ5_ensureCapacityInternal_d00df_28 : decode cJ5_ensureCapacityInternal_d00df 28 = .ok (.getfield 22, 3) := by decide +kernel
theorem dJ5_ensureCapacityInternal_d00df_31 : decode cJ5_ensureCapacityInternal_d00df 31 = .ok (.ishl, 1) := by decide +kernel
theorem dJ5_ensureCapacityInternal_d00df_32 : decode cJ5_ensureCapacityInternal_d00df 32 = .ok (.invokestatic 108, 3) := by decide +kernel
theorem dJ5_ensureCapacityInternal_d00df_35 : decode cJ5_ensureCapacityInternal_d00df 35 = .ok (.putfield 15, 3) := by decide +kernel
theorem dJ5_ensureCapacityInternal_d00df_38 : decode cJ5_ensureCapacityInternal_d00df 38 = .ok (.return_, 1) := by decide +kernel
set_option maxRecDepth 20000 in
theorem ggJ5_newCapacity_0f7a4_J8_newLength_cabcc : GoodIn wsJ5_newCapacity_0f7a4 wsJ8_newLength_cabcc := goodIn_r _ [7, 8, 9, 10, 11, 12, 13, 14, 6, 15] rfl (by decide +kernel)
set_option maxRecDepth 20000 in
theorem gJ5_newCapacity_0f7a4_J8_newLength_cabcc : GoodIn wsJ5_newCapacity_0f7a4 (va_wsS RJ5 114 yJ8_newLength_cabcc wsJ8_newLength_cabcc) := goodIn_app (goodIn_of _ (by decide +kernel)) ggJ5_newCapacity_0f7a4_J8_newLength_cabcc
theorem dJ5_newCapacity_0f7a4_0 : decode cJ5_newCapacity_0f7a4 0 = .ok (.aload_n 0, 1) := by decide +kernel
theorem dJ5_newCapacity_0f7a4_1 : decode cJ5_newCapacity_0f7a4 1 = .ok (.getfield 15, 3) := by decide +kernel
theorem dJ5_newCapacity_0f7a4_4 : decode cJ5_newCapacity_0f7a4 4 = .ok (.arraylength, 1) := by decide +kernel
theorem dJ5_newCapacity_0f7a4_5 : decode cJ5_newCapacity_0f7a4 5 = .ok (.istore_n 2, 1) := by decide +kernel
theorem dJ5_newCapacity_0f7a4_6 : decode cJ5_newCapacity_0f7a4 6 = .ok (.iload_n 1, 1) := by decide +kernel
theorem dJ5_newCapacity_0f7a4_7 : decode cJ5_newCapacity_0f7a4 7 = .ok (.aload_n 0, 1) := by decide +kernel
theorem dJ5_newCapacity_0f7a4_8 : decode cJ5_newCapacity_0f7a4 8 = .ok (.getfield 22, 3) := by decide +kernel
theorem dJ5_newCapacity_0f7a4_11 : decode cJ5_newCapacity_0f7a4 11 = .ok (.ishl, 1) := by decide +kernel
theorem dJ5_newCapacity_0f7a4_12 : decode cJ5_newCapacity_0f7a4 12 = .ok (.istore_n 3, 1) := by decide +kernel
theorem dJ5_newCapacity_0f7a4_13 : decode cJ5_newCapacity_0f7a4 13 = .ok (.iload_n 3, 1) := by decide +kernel
theorem dJ5_newCapacity_0f7a4_14 : decode cJ5_newCapacity_0f7a4 14 = .ok (.iload_n 2, 1) := by decide +kernel
theorem dJ5_newCapacity_0f7a4_15 : decode cJ5_newCapacity_0f7a4 15 = .ok (.isub, 1) := by decide +kernel
theorem dJ5_newCapacity_0f7a4_16 : decode cJ5_newCapacity_0f7a4 16 = .ok (.istore 4, 2) := by decide +kernel
theorem dJ5_newCapacity_0f7a4_18 : decode cJ5_newCapacity_0f7a4 18 = .ok (.iload_n 2, 1) := by decide +kernel
theorem dJ5_newCapacity_0f7a4_19 : decode cJ5_newCapacity_0f7a4 19 = .ok (.iload 4, 2) := by decide +kernel
theorem dJ5_newCapacity_0f7a4_21 : decode cJ5_newCapacity_0f7a4 21 = .ok (.iload_n 2, 1) := by decide +kernel
theorem dJ5_newCapacity_0f7a4_22 : decode cJ5_newCapacity_0f7a4 22 = .ok (.iconst 2, 1) := by decide +kernel
theorem dJ5_newCapacity_0f7a4_23 : decode cJ5_newCapacity_0f7a4 23 = .ok (.aload_n 0, 1) := by decide +kernel
theorem dJ5_newCapacity_0f7a4_24 : decode cJ5_newCapacity_0f7a4 24 = .ok (.getfield 22, 3) := by decide +kernel
theorem dJ5_newCapacity_0f7a4_27 : decode cJ5_newCapacity_0f7a4 27 = .ok (.ishl, 1) := by decide +kernel
theorem dJ5_newCapacity_0f7a4_28 : decode cJ5_newCapacity_0f7a4 28 = .ok (.iadd, 1) := by decide +kernel
theorem dJ5_newCapacity_0f7a4_29 : decode cJ5_newCapacity_0f7a4 29 = .ok (.invokestatic 114, 3) := by decide +kernel
theorem dJ5_newCapacity_0f7a4_32 : decode cJ5_newCapacity_0f7a4 32 = .ok (.istore 5, 2) := by decide +kernel
theorem dJ5_newCapacity_0f7a4_34 : decode cJ5_newCapacity_0f7a4 34 = .ok (.iload 5, 2) := by decide +kernel
theorem dJ5_newCapacity_0f7a4_36 : decode cJ5_newCapacity_0f7a4 36 = .ok (.ldc 39, 2) := by decide +kernel
theorem dJ5_newCapacity_0f7a4_38 : decode cJ5_newCapacity_0f7a4 38 = .ok (.if_icmp .ne 13, 3) := by decide +kernel
theorem dJ5_newCapacity_0f7a4_41 : decode cJ5_newCapacity_0f7a4 41 = .ok (.new 120, 3) := by decide +kernel
theorem dJ5_newCapacity_0f7a4_44 : decode cJ5_newCapacity_0f7a4 44 = .ok (.dup, 1) := by decide +kernel
theorem dJ5_newCapacity_0f7a4_45 : decode cJ5_newCapacity_0f7a4 45 = .ok (.ldc 122, 2) := by decide +kernel
theorem dJ5_newCapacity_0f7a4_47 : decode cJ5_newCapacity_0f7a4 47 = .ok (.invokespecial 124, 3) := by decide +kernel
theorem dJ5_newCapacity_0f7a4_50 : decode cJ5_newCapacity_0f7a4 50 = .ok (.athrow, 1) := by decide +kernel
theorem dJ5_newCapacity_0f7a4_51 : decode cJ5_newCapacity_0f7a4 51 = .ok (.iload 5, 2) := by decide +kernel
theorem dJ5_newCapacity_0f7a4_53 : decode cJ5_newCapacity_0f7a4 53 = .ok (.aload_n 0, 1) := by decide +kernel
theorem dJ5_newCapacity_0f7a4_54 : decode cJ5_newCapacity_0f7a4 54 = .ok (.getfield 22, 3) := by decide +kernel
theorem dJ5_newCapacity_0f7a4_57 : decode cJ5_newCapacity_0f7a4 57 = .ok (.ishr, 1) := by decide +kernel
theorem dJ5_newCapacity_0f7a4_58 : decode cJ5_newCapacity_0f7a4 58 = .ok (.ireturn, 1) := by decide +kernel
set_option maxRecDepth 20000 in
theorem ggJ5_inflate_da8c8_J5_isLatin1_aae02 : GoodIn wsJ5_inflate_da8c8 wsJ5_isLatin1_aae02 := goodIn_r _ [9, 10, 3, 48, 49, 50, 51] rfl (by decide +kernel)
set_option maxRecDepth 20000 in
theorem gJ5_inflate_da8c8_J5_isLatin1_aae02_u83J4 : GoodIn wsJ5_inflate_da8c8 (va_wsU RJ5 83 RJ4 "java/lang/AbstractStringBuilder" ⟨"java/lang/AbstractStringBuilder", "isLatin1", "()Z"⟩ yJ5_isLatin1_aae02 wsJ5_isLatin1_aae02) := goodIn_app (goodIn_of _ (by decide +kernel)) ggJ5_inflate_da8c8_J5_isLatin1_aae02
set_option maxRecDepth 20000 in
theorem ggJ5_inflate_da8c8_J2_newBytesFor_77867 : GoodIn wsJ5_inflate_da8c8 wsJ2_newBytesFor_77867 := goodIn_r _ [14, 15, 16, 17, 13, 18, 19] rfl (by decide +kernel)
set_option maxRecDepth 20000 in
theorem gJ5_inflate_da8c8_J2_newBytesFor_77867 : GoodIn wsJ5_inflate_da8c8 (va_wsS RJ5 26 yJ2_newBytesFor_77867 wsJ2_newBytesFor_77867) := goodIn_app (goodIn_of _ (by decide +kernel)) ggJ5_inflate_da8c8_J2_newBytesFor_77867
set_option maxRecDepth 20000 in
theorem ggJ5_inflate_da8c8_J1_inflate_0e8fd : GoodIn wsJ5_inflate_da8c8 wsJ1_inflate_0e8fd := goodIn_r _ [23, 24, 25, 13, 26, 27, 28, 29, 30, 31, 32, 33, 34, 35, 36, 37, 38, 39, 40, 41, 42, 43, 44, 45, 46, 47] rfl (by decide +kernel)
set_option maxRecDepth 20000 in
theorem gJ5_inflate_da8c8_J1_inflate_0e8fd : GoodIn wsJ5_inflate_da8c8 (va_wsS RJ5 125 yJ1_inflate_0e8fd wsJ1_inflate_0e8fd) := goodIn_app (goodIn_of _ (by decide +kernel)) ggJ5_inflate_da8c8_J1_inflate_0e8fd
theorem dJ5_inflate_da8c8_0 : decode cJ5_inflate_da8c8 0 = .ok (.aload_n 0, 1) := by decide +kernel
theorem dJ5_inflate_da8c8_1 : decode cJ5_inflate_da8c8 1 = .ok (.invokevirtual 83, 3) := by decide +kernel
theorem dJ5_inflate_da8c8_4 : decode cJ5_inflate_da8c8 4 = .ok (.ifCond .ne 4, 3) := by decide +kernel
theorem dJ5_inflate_da8c8_7 : decode cJ5_inflate_da8c8 7 = .ok (.return_, 1) := by decide +kernel
theorem dJ5_inflate_da8c8_8 : decode cJ5_inflate_da8c8 8 = .ok (.aload_n 0, 1) := by decide +kernel
theorem dJ5_inflate_da8c8_9 : decode cJ5_inflate_da8c8 9 = .ok (.getfield 15, 3) := by decide +kernel
theorem dJ5_inflate_da8c8_12 : decode cJ5_inflate_da8c8 12 = .ok (.arraylength, 1) := by decide +kernel
theorem dJ5_inflate_da8c8_13 : decode cJ5_inflate_da8c8 13 = .ok (.invokestatic 26, 3) := by decide +kernel
theorem dJ5_inflate_da8c8_16 : decode cJ5_inflate_da8c8 16 = .ok (.astore_n 1, 1) := by decide +kernel
theorem dJ5_inflate_da8c8_17 : decode cJ5_inflate_da8c8 17 = .ok (.aload_n 0, 1) := by decide +kernel
theorem dJ5_inflate_da8c8_18 : decode cJ5_inflate_da8c8 18 = .ok (.getfield 15, 3) := by decide +kernel
theorem dJ5_inflate_da8c8_21 : decode cJ5_inflate_da8c8 21 = .ok (.iconst 0, 1) := by decide +kernel
theorem dJ5_inflate_da8c8_22 : decode cJ5_inflate_da8c8 22 = .ok (.aload_n 1, 1) := by decide +kernel
theorem dJ5_inflate_da8c8_23 : decode cJ5_inflate_da8c8 23 = .ok (.iconst 0, 1) := by decide +kernel
theorem dJ5_inflate_da8c8_24 : decode cJ5_inflate_da8c8 24 = .ok (.aload_n 0, 1) := by decide +kernel
theorem dJ5_inflate_da8c8_25 : decode cJ5_inflate_da8c8 25 = .ok (.getfield 79, 3) := by decide +kernel
theorem dJ5_inflate_da8c8_28 : decode cJ5_inflate_da8c8 28 = .ok (.invokestatic 125, 3) := by decide +kernel
theorem dJ5_inflate_da8c8_31 : decode cJ5_inflate_da8c8 31 = .ok (.aload_n 0, 1) := by decide +kernel
theorem dJ5_inflate_da8c8_32 : decode cJ5_inflate_da8c8 32 = .ok (.aload_n 1, 1) := by decide +kernel
theorem dJ5_inflate_da8c8_33 : decode cJ5_inflate_da8c8 33 = .ok (.putfield 15, 3) := by decide +kernel
theorem dJ5_inflate_da8c8_36 : decode cJ5_inflate_da8c8 36 = .ok (.aload_n 0, 1) := by decide +kernel
theorem dJ5_inflate_da8c8_37 : decode cJ5_inflate_da8c8 37 = .ok (.iconst 1, 1) := by decide +kernel
theorem dJ5_inflate_da8c8_38 : decode cJ5_inflate_da8c8 38 = .ok (.putfield 22, 3) := by decide +kernel
theorem dJ5_inflate_da8c8_41 : decode cJ5_inflate_da8c8 41 = .ok (.return_, 1) := by decide +kernel
set_option maxRecDepth 20000 in
theorem ggJ5_charAt_5068e_J0_checkIndex_df160 : GoodIn wsJ5_charAt_5068e wsJ0_checkIndex_df160 := goodIn_r _ [11, 12, 13, 14, 15, 16] rfl (by decide +kernel)
set_option maxRecDepth 20000 in
theorem gJ5_charAt_5068e_J0_checkIndex_df160 : GoodIn wsJ5_charAt_5068e (va_wsS RJ5 144 yJ0_checkIndex_df160 wsJ0_checkIndex_df160) := goodIn_app (goodIn_of _ (by decide +kernel)) ggJ5_charAt_5068e_J0_checkIndex_df160
set_option maxRecDepth 20000 in
theorem ggJ5_charAt_5068e_J2_getChar_3b067 : GoodIn wsJ5_charAt_5068e wsJ2_getChar_3b067 := goodIn_r _ [20, 21, 22, 23, 24, 25, 19, 26] rfl (by decide +kernel)
set_option maxRecDepth 20000 in
theorem gJ5_charAt_5068e_J2_getChar_3b067 : GoodIn wsJ5_charAt_5068e (va_wsS RJ5 148 yJ2_getChar_3b067 wsJ2_getChar_3b067) := goodIn_app (goodIn_of _ (by decide +kernel)) ggJ5_charAt_5068e_J2_getChar_3b067
theorem dJ5_charAt_5068e_0 : decode cJ5_charAt_5068e 0 = .ok (.aload_n 0, 1) := by decide +kernel
theorem dJ5_charAt_5068e_1 : decode cJ5_charAt_5068e 1 = .ok (.getfield 22, 3) := by decide +kernel
theorem dJ5_charAt_5068e_4 : decode cJ5_charAt_5068e 4 = .ok (.istore_n 2, 1) := by decide +kernel
theorem dJ5_charAt_5068e_5 : decode cJ5_charAt_5068e 5 = .ok (.aload_n 0, 1) := by decide +kernel
theorem dJ5_charAt_5068e_6 : decode cJ5_charAt_5068e 6 = .ok (.getfield 15, 3) := by decide +kernel
theorem dJ5_charAt_5068e_9 : decode cJ5_charAt_5068e 9 = .ok (.astore_n 3, 1) := by decide +kernel
theorem dJ5_charAt_5068e_10 : decode cJ5_charAt_5068e 10 = .ok (.aload_n 0, 1) := by decide +kernel
theorem dJ5_charAt_5068e_11 : decode cJ5_charAt_5068e 11 = .ok (.getfield 79, 3) := by decide +kernel
theorem dJ5_charAt_5068e_14 : decode cJ5_charAt_5068e 14 = .ok (.aload_n 3, 1) := by decide +kernel
theorem dJ5_charAt_5068e_15 : decode cJ5_charAt_5068e 15 = .ok (.arraylength, 1) := by decide +kernel
theorem dJ5_charAt_5068e_16 : decode cJ5_charAt_5068e 16 = .ok (.iload_n 2, 1) := by decide +kernel
theorem dJ5_charAt_5068e_17 : decode cJ5_charAt_5068e 17 = .ok (.ishr, 1) := by decide +kernel
theorem dJ5_charAt_5068e_18 : decode cJ5_charAt_5068e 18 = .ok (.invokestatic 138, 3) := by decide +kernel
theorem dJ5_charAt_5068e_21 : decode cJ5_charAt_5068e 21 = .ok (.istore 4, 2) := by decide +kernel
theorem dJ5_charAt_5068e_23 : decode cJ5_charAt_5068e 23 = .ok (.iload_n 1, 1) := by decide +kernel
theorem dJ5_charAt_5068e_24 : decode cJ5_charAt_5068e 24 = .ok (.iload 4, 2) := by decide +kernel
theorem dJ5_charAt_5068e_26 : decode cJ5_charAt_5068e 26 = .ok (.invokestatic 144, 3) := by decide +kernel
theorem dJ5_charAt_5068e_29 : decode cJ5_charAt_5068e 29 = .ok (.iload_n 2, 1) := by decide +kernel
theorem dJ5_charAt_5068e_30 : decode cJ5_charAt_5068e 30 = .ok (.ifCond .ne 12, 3) := by decide +kernel
theorem dJ5_charAt_5068e_33 : decode cJ5_charAt_5068e 33 = .ok (.aload_n 3, 1) := by decide +kernel
theorem dJ5_charAt_5068e_34 : decode cJ5_charAt_5068e 34 = .ok (.iload_n 1, 1) := by decide +kernel
theorem dJ5_charAt_5068e_35 : decode cJ5_charAt_5068e 35 = .ok (.baload, 1) := by decide +kernel
theorem dJ5_charAt_5068e_36 : decode cJ5_charAt_5068e 36 = .ok (.sipush 255, 3) := by decide +kernel
theorem dJ5_charAt_5068e_39 : decode cJ5_charAt_5068e 39 = .ok (.iand, 1) := by decide +kernel
theorem dJ5_charAt_5068e_40 : decode cJ5_charAt_5068e 40 = .ok (.i2c, 1) := by decide +kernel
theorem dJ5_charAt_5068e_41 : decode cJ5_charAt_5068e 41 = .ok (.ireturn, 1) := by decide +kernel
theorem dJ5_charAt_5068e_42 : decode cJ5_charAt_5068e 42 = .ok (.aload_n 3, 1) := by decide +kernel
theorem dJ5_charAt_5068e_43 : decode cJ5_charAt_5068e 43 = .ok (.iload_n 1, 1) := by decide +kernel
theorem dJ5_charAt_5068e_44 : decode cJ5_charAt_5068e 44 = .ok (.invokestatic 148, 3) := by decide +kernel
theorem dJ5_charAt_5068e_47 : decode cJ5_charAt_5068e 47 = .ok (.ireturn, 1) := by decide +kernel
set_option maxRecDepth 20000 in
theorem ggJ5_append_cf1ce_J5_appendNull_278bc : GoodIn wsJ5_append_cf1ce wsJ5_appendNull_278bc := goodIn_r _ [7, 1, 8, 9, 10, 11, 12, 6, 13, 14, 15, 16, 17, 18, 19, 20, 21, 22, 23, 24, 25, 26, 27, 28, 29, 30, 31, 32, 33, 34, 35, 36, 37, 38, 39, 40, 41, 42, 43, 44, 45, 46, 47, 48, 49, 50, 51, 52, 53, 54, 55, 56, 57, 58, 59, 60, 61, 62, 63, 64, 65, 66, 67, 68, 69, 70, 71, 72, 73, 74, 75, 76, 77, 78, 79, 80, 81, 138, 139, 140, 141] rfl (by decide +kernel)
set_option maxRecDepth 20000 in
theorem gJ5_append_cf1ce_J5_appendNull_278bc_u204J4 : GoodIn wsJ5_append_cf1ce (va_wsU RJ5 204 RJ4 "java/lang/AbstractStringBuilder" ⟨"java/lang/AbstractStringBuilder", "appendNull", "()Ljava/lang/AbstractStringBuilder;"⟩ yJ5_appendNull_278bc wsJ5_appendNull_278bc) := goodIn_app (goodIn_of _ (by decide +kernel)) ggJ5_append_cf1ce_J5_appendNull_278bc
set_option maxRecDepth 20000 in
theorem ggJ5_append_cf1ce_J0_length_8abf5 : GoodIn wsJ5_append_cf1ce wsJ0_length_8abf5 := goodIn_r _ [85, 86, 87, 88, 89, 70, 90, 91, 92, 142, 143, 144, 145] rfl (by decide +kernel)
set_option maxRecDepth 20000 in
theorem gJ5_append_cf1ce_J0_length_8abf5 : GoodIn wsJ5_append_cf1ce (wsV RJ5 32 RJ0 yJ0_length_8abf5 wsJ0_length_8abf5) := goodIn_app (goodIn_of _ (by decide +kernel)) ggJ5_append_cf1ce_J0_length_8abf5
set_option maxRecDepth 20000 in
theorem ggJ5_append_cf1ce_J5_ensureCapacityInternal_d00df : GoodIn wsJ5_append_cf1ce wsJ5_ensureCapacityInternal_d00df := goodIn_r _ [13, 8, 14, 15, 16, 17, 18, 6, 19, 20, 21, 22, 23, 24, 25, 26, 27, 28, 29, 30, 31, 32, 33, 34, 35, 36, 37, 38, 39, 40, 41, 42, 43, 44, 45, 46, 47, 48, 49, 50, 138, 139, 140, 141] rfl (by decide +kernel)
set_option maxRecDepth 20000 in
theorem gJ5_append_cf1ce_J5_ensureCapacityInternal_d00df_u100J4 : GoodIn wsJ5_append_cf1ce (va_wsU RJ5 100 RJ4 "java/lang/AbstractStringBuilder" ⟨"java/lang/AbstractStringBuilder", "ensureCapacityInternal", "(I)V"⟩ yJ5_ensureCapacityInternal_d00df wsJ5_ensureCapacityInternal_d00df) := goodIn_app (goodIn_of _ (by decide +kernel)) ggJ5_append_cf1ce_J5_ensureCapacityInternal_d00df
set_option maxRecDepth 20000 in
theorem ggJ5_append_cf1ce_J5_putStringAt_47b60 : GoodIn wsJ5_append_cf1ce wsJ5_putStringAt_47b60 := goodIn_r _ [97, 8, 14, 98, 99, 100, 101, 6, 102, 56, 103, 88, 89, 70, 90, 91, 92, 104, 105, 106, 107, 108, 1, 51, 52, 53, 54, 55, 109, 110, 59, 111, 43, 112, 113, 114, 115, 116, 117, 118, 119, 120, 121, 122, 123, 124, 125, 65, 66, 67, 126, 127, 128, 72, 129, 130, 75, 131, 77, 78, 79, 61, 80, 81, 132, 133, 134, 135, 86, 136, 48, 49, 50, 87, 137, 138, 139, 140, 141, 142, 143, 144, 145] rfl (by decide +kernel)
set_option maxRecDepth 20000 in
theorem gJ5_append_cf1ce_J5_putStringAt_47b60_u208J4 : GoodIn wsJ5_append_cf1ce (va_wsU RJ5 208 RJ4 "java/lang/AbstractStringBuilder" ⟨"java/lang/AbstractStringBuilder", "putStringAt", "(ILjava/lang/String;)V"⟩ yJ5_putStringAt_47b60 wsJ5_putStringAt_47b60) := goodIn_app (goodIn_of _ (by decide +kernel)) ggJ5_append_cf1ce_J5_putStringAt_47b60
theorem dJ5_append_cf1ce_0 : decode cJ5_append_cf1ce 0 = .ok (.aload_n 1, 1) := by decide +kernel
theorem dJ5_append_cf1ce_1 : decode cJ5_append_cf1ce 1 = .ok (.ifnonnull 8, 3) := by decide +kernel
theorem dJ5_append_cf1ce_4 : decode cJ5_append_cf1ce 4 = .ok (.aload_n 0, 1) := by decide +kernel
theorem dJ5_append_cf1ce_5 : decode cJ5_append_cf1ce 5 = .ok (.invokevirtual 204, 3) := by decide +kernel
theorem dJ5_append_cf1ce_8 : decode cJ5_append_cf1ce 8 = .ok (.areturn, 1) := by decide +kernel
theorem dJ5_append_cf1ce_9 : decode cJ5_append_cf1ce 9 = .ok (.aload_n 1, 1) := by decide +kernel
theorem dJ5_append_cf1ce_10 : decode cJ5_append_cf1ce 10 = .ok (.invokevirtual 32, 3) := by decide +kernel
theorem dJ5_append_cf1ce_13 : decode cJ5_append_cf1ce 13 = .ok (.istore_n 2, 1) := by decide +kernel
theorem dJ5_append_cf1ce_14 : decode cJ5_append_cf1ce 14 = .ok (.aload_n 0, 1) := by decide +kernel
theorem dJ5_append_cf1ce_15 : decode cJ5_append_cf1ce 15 = .ok (.aload_n 0, 1) := by decide +kernel
theorem dJ5_append_cf1ce_16 : decode cJ5_append_cf1ce 16 = .ok (.getfield 79, 3) := by decide +kernel
theorem dJ5_append_cf1ce_19 : decode cJ5_append_cf1ce 19 = .ok (.iload_n 2, 1) := by decide +kernel
theorem dJ5_append_cf1ce_20 : decode cJ5_append_cf1ce 20 = .ok (.iadd, 1) := by decide +kernel
theorem dJ5_append_cf1ce_21 : decode cJ5_append_cf1ce 21 = .ok (.invokevirtual 100, 3) := by decide +kernel
theorem dJ5_append_cf1ce_24 : decode cJ5_append_cf1ce 24 = .ok (.aload_n 0, 1) := by decide +kernel
theorem dJ5_append_cf1ce_25 : decode cJ5_append_cf1ce 25 = .ok (.aload_n 0, 1) := by decide +kernel
theorem dJ5_append_cf1ce_26 : decode cJ5_append_cf1ce 26 = .ok (.getfield 79, 3) := by decide +kernel
theorem dJ5_append_cf1ce_29 : decode cJ5_append_cf1ce 29 = .ok (.aload_n 1, 1) := by decide +kernel
theorem dJ5_append_cf1ce_30 : decode cJ5_append_cf1ce 30 = .ok (.invokevirtual 208, 3) := by decide +kernel
theorem dJ5_append_cf1ce_33 : decode cJ5_append_cf1ce 33 = .ok (.aload_n 0, 1) := by decide +kernel
theorem dJ5_append_cf1ce_34 : decode cJ5_append_cf1ce 34 = .ok (.dup, 1) := by decide +kernel
theorem dJ5_append_cf1ce_35 : decode cJ5_append_cf1ce 35 = .ok (.getfield 79, 3) := by decide +kernel
theorem dJ5_append_cf1ce_38 : decode cJ5_append_cf1ce 38 = .ok (.iload_n 2, 1) := by decide +kernel
theorem dJ5_append_cf1ce_39 : decode cJ5_append_cf1ce 39 = .ok (.iadd, 1) := by decide +kernel
theorem dJ5_append_cf1ce_40 : decode cJ5_append_cf1ce 40 = .ok (.putfield 79, 3) := by decide +kernel
theorem dJ5_append_cf1ce_43 : decode cJ5_append_cf1ce 43 = .ok (.aload_n 0, 1) := by decide +kernel
theorem dJ5_append_cf1ce_44 : decode cJ5_append_cf1ce 44 = .ok (.areturn, 1) := by decide +kernel
set_option maxRecDepth 20000 in
theorem ggJ5_append_2ceeb_J5_appendNull_278bc : GoodIn wsJ5_append_2ceeb wsJ5_appendNull_278bc := goodIn_r _ [10, 1, 2, 11, 12, 13, 14, 9, 15, 3, 16, 17, 18, 19, 20, 21, 22, 23, 24, 25, 26, 27, 28, 29, 30, 31, 32, 33, 34, 35, 36, 37, 38, 39, 40, 41, 42, 43, 44, 45, 46, 47, 48, 49, 50, 51, 52, 53, 54, 55, 56, 57, 58, 59, 60, 61, 62, 63, 64, 65, 66, 67, 68, 69, 70, 71, 72, 73, 74, 75, 76, 77, 78, 79, 80, 81, 82, 138, 139, 140, 141] rfl (by decide +kernel)
set_option maxRecDepth 20000 in
theorem gJ5_append_2ceeb_J5_appendNull_278bc_u204J4 : GoodIn wsJ5_append_2ceeb (va_wsU RJ5 204 RJ4 "java/lang/AbstractStringBuilder" ⟨"java/lang/AbstractStringBuilder", "appendNull", "()Ljava/lang/AbstractStringBuilder;"⟩ yJ5_appendNull_278bc wsJ5_appendNull_278bc) := goodIn_app (goodIn_of _ (by decide +kernel)) ggJ5_append_2ceeb_J5_appendNull_278bc
set_option maxRecDepth 20000 in
theorem ggJ5_append_2ceeb_J4_length_8abf5 : GoodIn wsJ5_append_2ceeb wsJ4_length_8abf5 := goodIn_r _ [89, 90, 84, 91, 92, 9, 93, 1, 138, 139, 140, 141] rfl (by decide +kernel)
set_option maxRecDepth 20000 in
theorem gJ5_append_2ceeb_J4_length_8abf5_u160J4 : GoodIn wsJ5_append_2ceeb (va_wsO RJ5 160 RJ4 "java/lang/AbstractStringBuilder" ⟨"java/lang/AbstractStringBuilder", "length", "()I"⟩ yJ4_length_8abf5 wsJ4_length_8abf5) := goodIn_app (goodIn_of _ (by decide +kernel)) ggJ5_append_2ceeb_J4_length_8abf5
set_option maxRecDepth 20000 in
theorem ggJ5_append_2ceeb_J5_ensureCapacityInternal_d00df : GoodIn wsJ5_append_2ceeb wsJ5_ensureCapacityInternal_d00df := goodIn_r _ [15, 2, 3, 16, 17, 18, 19, 9, 20, 21, 22, 23, 24, 25, 26, 27, 28, 29, 30, 31, 32, 33, 34, 35, 36, 37, 38, 39, 40, 41, 42, 43, 44, 45, 46, 47, 48, 49, 50, 51, 138, 139, 140, 141] rfl (by decide +kernel)
set_option maxRecDepth 20000 in
theorem gJ5_append_2ceeb_J5_ensureCapacityInternal_d00df_u100J4 : GoodIn wsJ5_append_2ceeb (va_wsU RJ5 100 RJ4 "java/lang/AbstractStringBuilder" ⟨"java/lang/AbstractStringBuilder", "ensureCapacityInternal", "(I)V"⟩ yJ5_ensureCapacityInternal_d00df wsJ5_ensureCapacityInternal_d00df) := goodIn_app (goodIn_of _ (by decide +kernel)) ggJ5_append_2ceeb_J5_ensureCapacityInternal_d00df
set_option maxRecDepth 20000 in
theorem ggJ5_append_2ceeb_J5_inflateIfNeededFor_56e69 : GoodIn wsJ5_append_2ceeb wsJ5_inflateIfNeededFor_56e69 := goodIn_r _ [98, 57, 3, 99, 100, 101, 102, 9, 103, 104, 105, 106, 107, 108, 2, 1, 52, 53, 54, 55, 56, 109, 110, 60, 111, 44, 112, 113, 114, 115, 116, 117, 118, 119, 120, 121, 122, 123, 124, 125, 66, 67, 68, 126, 127, 71, 128, 73, 129, 130, 76, 131, 78, 79, 80, 62, 81, 82, 138, 139, 140, 141] rfl (by decide +kernel)
set_option maxRecDepth 20000 in
theorem gJ5_append_2ceeb_J5_inflateIfNeededFor_56e69_u215J4 : GoodIn wsJ5_append_2ceeb (va_wsU RJ5 215 RJ4 "java/lang/AbstractStringBuilder" ⟨"java/lang/AbstractStringBuilder", "inflateIfNeededFor", "(Ljava/lang/AbstractStringBuilder;)V"⟩ yJ5_inflateIfNeededFor_56e69 wsJ5_inflateIfNeededFor_56e69) := goodIn_app (goodIn_of _ (by decide +kernel)) ggJ5_append_2ceeb_J5_inflateIfNeededFor_56e69
set_option maxRecDepth 20000 in
theorem ggJ5_append_2ceeb_J5_getBytes_840e7 : GoodIn wsJ5_append_2ceeb wsJ5_getBytes_840e7 := goodIn_r _ [136, 3, 2, 1, 137, 49, 50, 51, 116, 117, 118, 119, 120, 121, 60, 122, 123, 124, 125, 66, 67, 68, 126, 127, 71, 128, 73, 129, 130, 76, 131, 78, 79, 80, 62, 81, 82, 138, 139, 140, 141] rfl (by decide +kernel)
set_option maxRecDepth 20000 in
theorem gJ5_append_2ceeb_J5_getBytes_840e7_u219J4 : GoodIn wsJ5_append_2ceeb (va_wsU RJ5 219 RJ4 "java/lang/AbstractStringBuilder" ⟨"java/lang/AbstractStringBuilder", "getBytes", "([BIB)V"⟩ yJ5_getBytes_840e7 wsJ5_getBytes_840e7) := goodIn_app (goodIn_of _ (by decide +kernel)) ggJ5_append_2ceeb_J5_getBytes_840e7
theorem dJ5_append_2ceeb_0 : decode cJ5_append_2ceeb 0 = .ok (.aload_n 1, 1) := by decide +kernel
theorem dJ5_append_2ceeb_1 : decode cJ5_append_2ceeb 1 = .ok (.ifnonnull 8, 3) := by decide +kernel
theorem dJ5_append_2ceeb_4 : decode cJ5_append_2ceeb 4 = .ok (.aload_n 0, 1) := by decide +kernel
theorem dJ5_append_2ceeb_5 : decode cJ5_append_2ceeb 5 = .ok (.invokevirtual 204, 3) := by decide +kernel
theorem dJ5_append_2ceeb_8 : decode cJ5_append_2ceeb 8 = .ok (.areturn, 1) := by decide +kernel
theorem dJ5_append_2ceeb_9 : decode cJ5_append_2ceeb 9 = .ok (.aload_n 1, 1) := by decide +kernel
theorem dJ5_append_2ceeb_10 : decode cJ5_append_2ceeb 10 = .ok (.invokevirtual 160, 3) := by decide +kernel
theorem dJ5_append_2ceeb_13 : decode cJ5_append_2ceeb 13 = .ok (.istore_n 2, 1) := by decide +kernel
theorem dJ5_append_2ceeb_14 : decode cJ5_append_2ceeb 14 = .ok (.aload_n 0, 1) := by decide +kernel
theorem dJ5_append_2ceeb_15 : decode cJ5_append_2ceeb 15 = .ok (.aload_n 0, 1) := by decide +kernel
theorem dJ5_append_2ceeb_16 : decode cJ5_append_2ceeb 16 = .ok (.getfield 79, 3) := by decide +kernel
theorem dJ5_append_2ceeb_19 : decode cJ5_append_2ceeb 19 = .ok (.iload_n 2, 1) := by decide +kernel
theorem dJ5_append_2ceeb_20 : decode cJ5_append_2ceeb 20 = .ok (.iadd, 1) := by decide +kernel
theorem dJ5_append_2ceeb_21 : decode cJ5_append_2ceeb 21 = .ok (.invokevirtual 100, 3) := by decide +kernel
theorem dJ5_append_2ceeb_24 : decode cJ5_append_2ceeb 24 = .ok (.aload_n 0, 1) := by decide +kernel
theorem dJ5_append_2ceeb_25 : decode cJ5_append_2ceeb 25 = .ok (.aload_n 1, 1) := by decide +kernel
theorem dJ5_append_2ceeb_26 : decode cJ5_append_2ceeb 26 = .ok (.invokevirtual 215, 3) := by decide +kernel
theorem dJ5_append_2ceeb_29 : decode cJ5_append_2ceeb 29 = .ok (.aload_n 1, 1) := by decide +kernel
theorem dJ5_append_2ceeb_30 : decode cJ5_append_2ceeb 30 = .ok (.aload_n 0, 1) := by decide +kernel
theorem dJ5_append_2ceeb_31 : decode cJ5_append_2ceeb 31 = .ok (.getfield 15, 3) := by decide +kernel
theorem dJ5_append_2ceeb_34 : decode cJ5_append_2ceeb 34 = .ok (.aload_n 0, 1) := by decide +kernel
theorem dJ5_append_2ceeb_35 : decode cJ5_append_2ceeb 35 = .ok (.getfield 79, 3) := by decide +kernel
theorem dJ5_append_2ceeb_38 : decode cJ5_append_2ceeb 38 = .ok (.aload_n 0, 1) := by decide +kernel
theorem dJ5_append_2ceeb_39 : decode cJ5_append_2ceeb 39 = .ok (.getfield 22, 3) := by decide +kernel
theorem dJ5_append_2ceeb_42 : decode cJ5_append_2ceeb 42 = .ok (.invokevirtual 219, 3) := by decide +kernel
theorem dJ5_append_2ceeb_45 : decode cJ5_append_2ceeb 45 = .ok (.aload_n 0, 1) := by decide +kernel
theorem dJ5_append_2ceeb_46 : decode cJ5_append_2ceeb 46 = .ok (.dup, 1) := by decide +kernel
theorem dJ5_append_2ceeb_47 : decode cJ5_append_2ceeb 47 = .ok (.getfield 79, 3) := by decide +kernel
theorem dJ5_append_2ceeb_50 : decode cJ5_append_2ceeb 50 = .ok (.iload_n 2, 1) := by decide +kernel
theorem dJ5_append_2ceeb_51 : decode cJ5_append_2ceeb 51 = .ok (.iadd, 1) := by decide +kernel
theorem dJ5_append_2ceeb_52 : decode cJ5_append_2ceeb 52 = .ok (.putfield 79, 3) := by decide +kernel
theorem dJ5_append_2ceeb_55 : decode cJ5_append_2ceeb 55 = .ok (.aload_n 0, 1) := by decide +kernel
theorem dJ5_append_2ceeb_56 : decode cJ5_append_2ceeb 56 = .ok (.dup, 1) := by decide +kernel
theorem dJ5_append_2ceeb_57 : decode cJ5_append_2ceeb 57 = .ok (.getfield 73, 3) := by decide +kernel
theorem dJ5_append_2ceeb_60 : decode cJ5_append_2ceeb 60 = .ok (.aload_n 1, 1) := by decide +kernel
theorem dJ5_append_2ceeb_61 : decode cJ5_append_2ceeb 61 = .ok (.getfield 73, 3) := by decide +kernel
theorem dJ5_append_2ceeb_64 : decode cJ5_append_2ceeb 64 = .ok (.ior, 1) := by decide +kernel
theorem dJ5_append_2ceeb_65 : decode cJ5_append_2ceeb 65 = .ok (.putfield 73, 3) := by decide +kernel
theorem dJ5_append_2ceeb_68 : decode cJ5_append_2ceeb 68 = .ok (.aload_n 0, 1) := by decide +kernel
theorem dJ5_append_2ceeb_69 : decode cJ5_append_2ceeb 69 = .ok (.areturn, 1) := by decide +kernel
set_option maxRecDepth 20000 in
theorem ggJ5_append_8f9a3_J5_appendNull_278bc : GoodIn wsJ5_append_8f9a3 wsJ5_appendNull_278bc := goodIn_r _ [8, 9, 10, 11, 12, 13, 14, 7, 15, 16, 17, 18, 19, 20, 21, 22, 23, 24, 25, 26, 27, 28, 29, 30, 31, 32, 33, 34, 35, 36, 37, 38, 39, 40, 41, 42, 43, 44, 45, 46, 47, 48, 49, 50, 51, 52, 53, 54, 55, 56, 57, 58, 59, 60, 61, 62, 63, 64, 65, 66, 67, 68, 69, 70, 71, 72, 73, 74, 75, 76, 77, 78, 79, 80, 81, 82, 83, 268, 269, 270, 271] rfl (by decide +kernel)
set_option maxRecDepth 20000 in
theorem gJ5_append_8f9a3_J5_appendNull_278bc_u204J4 : GoodIn wsJ5_append_8f9a3 (va_wsU RJ5 204 RJ4 "java/lang/AbstractStringBuilder" ⟨"java/lang/AbstractStringBuilder", "appendNull", "()Ljava/lang/AbstractStringBuilder;"⟩ yJ5_appendNull_278bc wsJ5_appendNull_278bc) := goodIn_app (goodIn_of _ (by decide +kernel)) ggJ5_append_8f9a3_J5_appendNull_278bc
set_option maxRecDepth 20000 in
theorem ggJ5_append_8f9a3_J4_append_cf1ce : GoodIn wsJ5_append_8f9a3 wsJ4_append_cf1ce := goodIn_r _ [90, 91, 92, 93, 89, 94, 95, 85, 96, 97, 7, 98, 9, 3, 4, 5, 6, 8, 10, 11, 12, 13, 14, 15, 16, 17, 18, 19, 20, 21, 22, 23, 24, 25, 26, 27, 28, 29, 30, 31, 32, 33, 34, 35, 36, 37, 38, 39, 40, 41, 42, 43, 44, 45, 46, 47, 48, 49, 50, 51, 52, 53, 54, 55, 56, 57, 58, 59, 60, 61, 62, 63, 64, 65, 66, 67, 68, 69, 70, 71, 72, 73, 74, 75, 76, 77, 78, 79, 80, 81, 82, 83, 99, 100, 101, 102, 103, 104, 105, 106, 107, 108, 109, 110, 111, 112, 113, 114, 115, 116, 117, 118, 119, 120, 121, 122, 123, 124, 125, 126, 127, 128, 129, 130, 131, 132, 133, 134, 135, 136, 137, 138, 139, 140, 141, 142, 143, 144, 145, 146, 147, 148, 149, 150, 151, 152, 153, 154, 268, 269, 270, 271, 272, 273, 274, 275] rfl (by decide +kernel)
set_option maxRecDepth 20000 in
theorem gJ5_append_8f9a3_J4_append_cf1ce_u43J4 : GoodIn wsJ5_append_8f9a3 (va_wsO RJ5 43 RJ4 "java/lang/AbstractStringBuilder" ⟨"java/lang/AbstractStringBuilder", "append", "(Ljava/lang/String;)Ljava/lang/AbstractStringBuilder;"⟩ yJ4_append_cf1ce wsJ4_append_cf1ce) := goodIn_app (goodIn_of _ (by decide +kernel)) ggJ5_append_8f9a3_J4_append_cf1ce
set_option maxRecDepth 20000 in
theorem ggJ5_append_8f9a3_J5_append_2ceeb : GoodIn wsJ5_append_8f9a3 wsJ5_append_2ceeb := goodIn_r _ [159, 9, 10, 16, 160, 3, 4, 5, 6, 7, 8, 11, 12, 13, 14, 15, 17, 18, 19, 20, 21, 22, 23, 24, 25, 26, 27, 28, 29, 30, 31, 32, 33, 34, 35, 36, 37, 38, 39, 40, 41, 42, 43, 44, 45, 46, 47, 48, 49, 50, 51, 52, 53, 54, 55, 56, 57, 58, 59, 60, 61, 62, 63, 64, 65, 66, 67, 68, 69, 70, 71, 72, 73, 74, 75, 76, 77, 78, 79, 80, 81, 82, 83, 161, 162, 163, 164, 165, 89, 166, 167, 96, 168, 169, 170, 171, 172, 173, 174, 175, 176, 177, 178, 179, 121, 122, 123, 124, 125, 126, 127, 128, 129, 130, 131, 132, 133, 134, 135, 136, 137, 138, 139, 140, 141, 142, 143, 144, 145, 146, 147, 148, 180, 181, 182, 183, 184, 185, 268, 269, 270, 271] rfl (by decide +kernel)
set_option maxRecDepth 20000 in
theorem gJ5_append_8f9a3_J5_append_2ceeb_u212J4 : GoodIn wsJ5_append_8f9a3 (va_wsU RJ5 212 RJ4 "java/lang/AbstractStringBuilder" ⟨"java/lang/AbstractStringBuilder", "append", "(Ljava/lang/AbstractStringBuilder;)Ljava/lang/AbstractStringBuilder;"⟩ yJ5_append_2ceeb wsJ5_append_2ceeb) := goodIn_app (goodIn_of _ (by decide +kernel)) ggJ5_append_8f9a3_J5_append_2ceeb
set_option maxRecDepth 20000 in
theorem ggJ5_append_8f9a3_J0_length_8abf5 : GoodIn wsJ5_append_8f9a3 wsJ0_length_8abf5 := goodIn_r _ [102, 103, 104, 105, 106, 72, 107, 108, 109, 272, 273, 274, 275] rfl (by decide +kernel)
set_option maxRecDepth 20000 in
theorem gJ5_append_8f9a3_J0_length_8abf5_f47J0 : GoodIn wsJ5_append_8f9a3 (va_wsF RJ5 47 RJ0 ⟨"java/lang/CharSequence", "length", "()I"⟩ yJ0_length_8abf5 wsJ0_length_8abf5) := goodIn_app (goodIn_of _ (by decide +kernel)) ggJ5_append_8f9a3_J0_length_8abf5
set_option maxRecDepth 20000 in
theorem ggJ5_append_8f9a3_J4_length_8abf5 : GoodIn wsJ5_append_8f9a3 wsJ4_length_8abf5 := goodIn_r _ [166, 167, 162, 96, 168, 7, 169, 9, 268, 269, 270, 271] rfl (by decide +kernel)
set_option maxRecDepth 20000 in
theorem gJ5_append_8f9a3_J4_length_8abf5_f47J4 : GoodIn wsJ5_append_8f9a3 (va_wsF RJ5 47 RJ4 ⟨"java/lang/CharSequence", "length", "()I"⟩ yJ4_length_8abf5 wsJ4_length_8abf5) := goodIn_app (goodIn_of _ (by decide +kernel)) ggJ5_append_8f9a3_J4_length_8abf5
set_option maxRecDepth 20000 in
theorem ggJ5_append_8f9a3_J4_append_e1f22 : GoodIn wsJ5_append_8f9a3 wsJ4_append_e1f22 := goodIn_r _ [194, 195, 196, 197, 89, 198, 199, 190, 96, 200, 7, 201, 202, 9, 1, 186, 187, 100, 72, 102, 103, 104, 105, 106, 107, 108, 109, 188, 165, 166, 167, 162, 168, 169, 203, 76, 77, 78, 11, 12, 13, 14, 15, 10, 16, 17, 18, 19, 20, 21, 22, 23, 24, 25, 26, 27, 28, 29, 30, 31, 32, 33, 34, 35, 36, 37, 38, 39, 40, 41, 42, 43, 44, 45, 46, 47, 48, 49, 50, 51, 52, 204, 205, 206, 207, 208, 185, 53, 54, 55, 56, 57, 58, 209, 210, 211, 212, 213, 214, 215, 216, 217, 218, 219, 220, 221, 222, 223, 135, 224, 225, 226, 227, 74, 228, 229, 230, 231, 232, 61, 233, 234, 235, 236, 67, 68, 69, 237, 238, 239, 240, 63, 82, 83, 241, 242, 243, 121, 122, 123, 124, 125, 126, 127, 128, 129, 130, 131, 132, 133, 134, 136, 137, 138, 139, 140, 141, 142, 143, 144, 145, 146, 147, 148, 79, 80, 81, 244, 245, 246, 64, 65, 66, 70, 71, 73, 75, 247, 248, 249, 250, 251, 252, 253, 254, 255, 256, 257, 258, 259, 260, 261, 262, 263, 264, 265, 266, 267, 268, 269, 270, 271, 272, 273, 274, 275] rfl (by decide +kernel)
set_option maxRecDepth 20000 in
theorem gJ5_append_8f9a3_J4_append_e1f22_u223J4 : GoodIn wsJ5_append_8f9a3 (va_wsO RJ5 223 RJ4 "java/lang/AbstractStringBuilder" ⟨"java/lang/AbstractStringBuilder", "append", "(Ljava/lang/CharSequence;II)Ljava/lang/AbstractStringBuilder;"⟩ yJ4_append_e1f22 wsJ4_append_e1f22) := goodIn_app (goodIn_of _ (by decide +kernel)) ggJ5_append_8f9a3_J4_append_e1f22
theorem dJ5_append_8f9a3_0 : decode cJ5_append_8f9a3 0 = .ok (.aload_n 1, 1) := by decide +kernel
theorem dJ5_append_8f9a3_1 : decode cJ5_append_8f9a3 1 = .ok (.ifnonnull 8, 3) := by decide +kernel
theorem dJ5_append_8f9a3_4 : decode cJ5_append_8f9a3 4 = .ok (.aload_n 0, 1) := by decide +kernel
theorem dJ5_append_8f9a3_5 : decode cJ5_append_8f9a3 5 = .ok (.invokevirtual 204, 3) := by decide +kernel
theorem dJ5_append_8f9a3_8 : decode cJ5_append_8f9a3 8 = .ok (.areturn, 1) := by decide +kernel
theorem dJ5_append_8f9a3_9 : decode cJ5_append_8f9a3 9 = .ok (.aload_n 1, 1) := by decide +kernel
theorem dJ5_append_8f9a3_10 : decode cJ5_append_8f9a3 10 = .ok (.instanceof 1, 3) := by decide +kernel
theorem dJ5_append_8f9a3_13 : decode cJ5_append_8f9a3 13 = .ok (.ifCond .eq 12, 3) := by decide +kernel
theorem dJ5_append_8f9a3_16 : decode cJ5_append_8f9a3 16 = .ok (.aload_n 0, 1) := by decide +kernel
theorem dJ5_append_8f9a3_17 : decode cJ5_append_8f9a3 17 = .ok (.aload_n 1, 1) := by decide +kernel
theorem dJ5_append_8f9a3_18 : decode cJ5_append_8f9a3 18 = .ok (.checkcast 1, 3) := by decide +kernel
theorem dJ5_append_8f9a3_21 : decode cJ5_append_8f9a3 21 = .ok (.invokevirtual 43, 3) := by decide +kernel
theorem dJ5_append_8f9a3_24 : decode cJ5_append_8f9a3 24 = .ok (.areturn, 1) := by decide +kernel
theorem dJ5_append_8f9a3_25 : decode cJ5_append_8f9a3 25 = .ok (.aload_n 1, 1) := by decide +kernel
theorem dJ5_append_8f9a3_26 : decode cJ5_append_8f9a3 26 = .ok (.instanceof 10, 3) := by decide +kernel
theorem dJ5_append_8f9a3_29 : decode cJ5_append_8f9a3 29 = .ok (.ifCond .eq 12, 3) := by decide +kernel
theorem dJ5_append_8f9a3_32 : decode cJ5_append_8f9a3 32 = .ok (.aload_n 0, 1) := by decide +kernel
theorem dJ5_append_8f9a3_33 : decode cJ5_append_8f9a3 33 = .ok (.aload_n 1, 1) := by decide +kernel
theorem dJ5_append_8f9a3_34 : decode cJ5_append_8f9a3 34 = .ok (.checkcast 10, 3) := by decide +kernel
theorem dJ5_append_8f9a3_37 : decode cJ5_append_8f9a3 37 = .ok (.invokevirtual 212, 3) := by decide +kernel
theorem dJ5_append_8f9a3_40 : decode cJ5_append_8f9a3 40 = .ok (.areturn, 1) := by decide +kernel
theorem dJ5_append_8f9a3_41 : decode cJ5_append_8f9a3 41 = .ok (.aload_n 0, 1) := by decide +kernel
theorem dJ5_append_8f9a3_42 : decode cJ5_append_8f9a3 42 = .ok (.aload_n 1, 1) := by decide +kernel
theorem dJ5_append_8f9a3_43 : decode cJ5_append_8f9a3 43 = .ok (.iconst 0, 1) := by decide +kernel
theorem dJ5_append_8f9a3_44 : decode cJ5_append_8f9a3 44 = .ok (.aload_n 1, 1) := by decide +kernel
theorem dJ5_append_8f9a3_45 : decode cJ5_append_8f9a3 45 = .ok (.invokeinterface 47 1, 5) := by decide +kernel
theorem dJ5_append_8f9a3_50 : decode cJ5_append_8f9a3 50 = .ok (.invokevirtual 223, 3) := by decide +kernel
theorem dJ5_append_8f9a3_53 : decode cJ5_append_8f9a3 53 = .ok (.areturn, 1) := by decide +kernel
set_option maxRecDepth 20000 in
theorem ggJ5_appendNull_278bc_J5_ensureCapacityInternal_d00df : GoodIn wsJ5_appendNull_278bc wsJ5_ensureCapacityInternal_d00df := goodIn_r _ [8, 2, 9, 10, 11, 12, 13, 7, 14, 15, 16, 17, 18, 19, 20, 21, 22, 23, 24, 25, 26, 27, 28, 29, 30, 31, 32, 33, 34, 35, 36, 37, 38, 39, 40, 41, 42, 43, 44, 45, 77, 78, 79, 80] rfl (by decide +kernel)
set_option maxRecDepth 20000 in
theorem gJ5_appendNull_278bc_J5_ensureCapacityInternal_d00df_u100J4 : GoodIn wsJ5_appendNull_278bc (va_wsU RJ5 100 RJ4 "java/lang/AbstractStringBuilder" ⟨"java/lang/AbstractStringBuilder", "ensureCapacityInternal", "(I)V"⟩ yJ5_ensureCapacityInternal_d00df wsJ5_ensureCapacityInternal_d00df) := goodIn_app (goodIn_of _ (by decide +kernel)) ggJ5_appendNull_278bc_J5_ensureCapacityInternal_d00df
set_option maxRecDepth 20000 in
theorem ggJ5_appendNull_278bc_J5_isLatin1_aae02 : GoodIn wsJ5_appendNull_278bc wsJ5_isLatin1_aae02 := goodIn_r _ [50, 51, 9, 77, 78, 79, 80] rfl (by decide +kernel)
set_option maxRecDepth 20000 in
theorem gJ5_appendNull_278bc_J5_isLatin1_aae02_u83J4 : GoodIn wsJ5_appendNull_278bc (va_wsU RJ5 83 RJ4 "java/lang/AbstractStringBuilder" ⟨"java/lang/AbstractStringBuilder", "isLatin1", "()Z"⟩ yJ5_isLatin1_aae02 wsJ5_isLatin1_aae02) := goodIn_app (goodIn_of _ (by decide +kernel)) ggJ5_appendNull_278bc_J5_isLatin1_aae02
set_option maxRecDepth 20000 in
theorem ggJ5_appendNull_278bc_J2_putCharsAt_cd4e5 : GoodIn wsJ5_appendNull_278bc wsJ2_putCharsAt_cd4e5 := goodIn_r _ [55, 56, 57, 58, 54, 59, 60, 61, 62, 63, 64, 65, 66, 67, 68, 69, 70, 71, 72, 73, 74, 75, 76] rfl (by decide +kernel)
set_option maxRecDepth 20000 in
theorem gJ5_appendNull_278bc_J2_putCharsAt_cd4e5 : GoodIn wsJ5_appendNull_278bc (va_wsS RJ5 226 yJ2_putCharsAt_cd4e5 wsJ2_putCharsAt_cd4e5) := goodIn_app (goodIn_of _ (by decide +kernel)) ggJ5_appendNull_278bc_J2_putCharsAt_cd4e5
theorem dJ5_appendNull_278bc_0 : decode cJ5_appendNull_278bc 0 = .ok (.aload_n 0, 1) := by decide +kernel
theorem dJ5_appendNull_278bc_1 : decode cJ5_appendNull_278bc 1 = .ok (.aload_n 0, 1) := by decide +kernel
theorem dJ5_appendNull_278bc_2 : decode cJ5_appendNull_278bc 2 = .ok (.getfield 79, 3) := by decide +kernel
theorem dJ5_appendNull_278bc_5 : decode cJ5_appendNull_278bc 5 = .ok (.iconst 4, 1) := by decide +kernel
theorem dJ5_appendNull_278bc_6 : decode cJ5_appendNull_278bc 6 = .ok (.iadd, 1) := by decide +kernel
theorem dJ5_appendNull_278bc_7 : decode cJ5_appendNull_278bc 7 = .ok (.invokevirtual 100, 3) := by decide +kernel
theorem dJ5_appendNull_278bc_10 : decode cJ5_appendNull_278bc 10 = .ok (.aload_n 0, 1) := by decide +kernel
theorem dJ5_appendNull_278bc_11 : decode cJ5_appendNull_278bc 11 = .ok (.getfield 79, 3) := by decide +kernel
theorem dJ5_appendNull_278bc_14 : decode cJ5_appendNull_278bc 14 = .ok (.istore_n 1, 1) := by decide +kernel
theorem dJ5_appendNull_278bc_15 : decode cJ5_appendNull_278bc 15 = .ok (.aload_n 0, 1) := by decide +kernel
theorem dJ5_appendNull_278bc_16 : decode cJ5_appendNull_278bc 16 = .ok (.getfield 15, 3) := by decide +kernel
theorem dJ5_appendNull_278bc_19 : decode cJ5_appendNull_278bc 19 = .ok (.astore_n 2, 1) := by decide +kernel
theorem dJ5_appendNull_278bc_20 : decode cJ5_appendNull_278bc 20 = .ok (.aload_n 0, 1) := by decide +kernel
theorem dJ5_appendNull_278bc_21 : decode cJ5_appendNull_278bc 21 = .ok (.invokevirtual 83, 3) := by decide +kernel
theorem dJ5_appendNull_278bc_24 : decode cJ5_appendNull_278bc 24 = .ok (.ifCond .eq 38, 3) := by decide +kernel
theorem dJ5_appendNull_278bc_27 : decode cJ5_appendNull_278bc 27 = .ok (.aload_n 2, 1) := by decide +kernel
theorem dJ5_appendNull_278bc_28 : decode cJ5_appendNull_278bc 28 = .ok (.iload_n 1, 1) := by decide +kernel
theorem dJ5_appendNull_278bc_29 : decode cJ5_appendNull_278bc 29 = .ok (.iinc 1 1, 3) := by decide +kernel
theorem dJ5_appendNull_278bc_32 : decode cJ5_appendNull_278bc 32 = .ok (.bipush 110, 2) := by decide +kernel
theorem dJ5_appendNull_278bc_34 : decode cJ5_appendNull_278bc 34 = .ok (.bastore, 1) := by decide +kernel
theorem dJ5_appendNull_278bc_35 : decode cJ5_appendNull_278bc 35 = .ok (.aload_n 2, 1) := by decide +kernel
theorem dJ5_appendNull_278bc_36 : decode cJ5_appendNull_278bc 36 = .ok (.iload_n 1, 1) := by decide +kernel
theorem dJ5_appendNull_278bc_37 : decode cJ5_appendNull_278bc 37 = .ok (.iinc 1 1, 3) := by decide +kernel
theorem dJ5_appendNull_278bc_40 : decode cJ5_appendNull_278bc 40 = .ok (.bipush 117, 2) := by decide +kernel
theorem dJ5_appendNull_278bc_42 : decode cJ5_appendNull_278bc 42 = .ok (.bastore, 1) := by decide +kernel
theorem dJ5_appendNull_278bc_43 : decode cJ5_appendNull_278bc 43 = .ok (.aload_n 2, 1) := by decide +kernel
theorem dJ5_appendNull_278bc_44 : decode cJ5_appendNull_278bc 44 = .ok (.iload_n 1, 1) := by decide +kernel
theorem dJ5_appendNull_278bc_45 : decode cJ5_appendNull_278bc 45 = .ok (.iinc 1 1, 3) := by decide +kernel
theorem dJ5_appendNull_278bc_48 : decode cJ5_appendNull_278bc 48 = .ok (.bipush 108, 2) := by decide +kernel
theorem dJ5_appendNull_278bc_50 : decode cJ5_appendNull_278bc 50 = .ok (.bastore, 1) := by decide +kernel
theorem dJ5_appendNull_278bc_51 : decode cJ5_appendNull_278bc 51 = .ok (.aload_n 2, 1) := by decide +kernel
theorem dJ5_appendNull_278bc_52 : decode cJ5_appendNull_278bc 52 = .ok (.iload_n 1, 1) := by decide +kernel
theorem dJ5_appendNull_278bc_53 : decode cJ5_appendNull_278bc 53 = .ok (.iinc 1 1, 3) := by decide +kernel
theorem dJ5_appendNull_278bc_56 : decode cJ5_appendNull_278bc 56 = .ok (.bipush 108, 2) := by decide +kernel
theorem dJ5_appendNull_278bc_58 : decode cJ5_appendNull_278bc 58 = .ok (.bastore, 1) := by decide +kernel
theorem dJ5_appendNull_278bc_59 : decode cJ5_appendNull_278bc 59 = .ok (.goto 17, 3) := by decide +kernel
theorem dJ5_appendNull_278bc_62 : decode cJ5_appendNull_278bc 62 = .ok (.aload_n 2, 1) := by decide +kernel
theorem dJ5_appendNull_278bc_63 : decode cJ5_appendNull_278bc 63 = .ok (.iload_n 1, 1) := by decide +kernel
theorem dJ5_appendNull_278bc_64 : decode cJ5_appendNull_278bc 64 = .ok (.bipush 110, 2) := by decide +kernel
theorem dJ5_appendNull_278bc_66 : decode cJ5_appendNull_278bc 66 = .ok (.bipush 117, 2) := by decide +kernel
theorem dJ5_appendNull_278bc_68 : decode cJ5_appendNull_278bc 68 = .ok (.bipush 108, 2) := by decide +kernel
theorem dJ5_appendNull_278bc_70 : decode cJ5_appendNull_278bc 70 = .ok (.bipush 108, 2) := by decide +kernel
theorem dJ5_appendNull_278bc_72 : decode cJ5_appendNull_278bc 72 = .ok (.invokestatic 226, 3) := by decide +kernel
theorem dJ5_appendNull_278bc_75 : decode cJ5_appendNull_278bc 75 = .ok (.istore_n 1, 1) := by decide +kernel
theorem dJ5_appendNull_278bc_76 : decode cJ5_appendNull_278bc 76 = .ok (.aload_n 0, 1) := by decide +kernel
theorem dJ5_appendNull_278bc_77 : decode cJ5_appendNull_278bc 77 = .ok (.iload_n 1, 1) := by decide +kernel
theorem dJ5_appendNull_278bc_78 : decode cJ5_appendNull_278bc 78 = .ok (.putfield 79, 3) := by decide +kernel
theorem dJ5_appendNull_278bc_81 : decode cJ5_appendNull_278bc 81 = .ok (.aload_n 0, 1) := by decide +kernel
theorem dJ5_appendNull_278bc_82 : decode cJ5_appendNull_278bc 82 = .ok (.areturn, 1) := by decide +kernel
set_option maxRecDepth 20000 in
theorem ggJ5_append_e1f22_J0_length_8abf5 : GoodIn wsJ5_append_e1f22 wsJ0_length_8abf5 := goodIn_r _ [8, 9, 10, 11, 12, 7, 13, 14, 15, 194, 195, 196, 197] rfl (by decide +kernel)
set_option maxRecDepth 20000 in
theorem gJ5_append_e1f22_J0_length_8abf5_f47J0 : GoodIn wsJ5_append_e1f22 (va_wsF RJ5 47 RJ0 ⟨"java/lang/CharSequence", "length", "()I"⟩ yJ0_length_8abf5 wsJ0_length_8abf5) := goodIn_app (goodIn_of _ (by decide +kernel)) ggJ5_append_e1f22_J0_length_8abf5
set_option maxRecDepth 20000 in
theorem ggJ5_append_e1f22_J4_length_8abf5 : GoodIn wsJ5_append_e1f22 wsJ4_length_8abf5 := goodIn_r _ [19, 20, 21, 22, 23, 24, 25, 2, 190, 191, 192, 193] rfl (by decide +kernel)
set_option maxRecDepth 20000 in
theorem gJ5_append_e1f22_J4_length_8abf5_f47J4 : GoodIn wsJ5_append_e1f22 (va_wsF RJ5 47 RJ4 ⟨"java/lang/CharSequence", "length", "()I"⟩ yJ4_length_8abf5 wsJ4_length_8abf5) := goodIn_app (goodIn_of _ (by decide +kernel)) ggJ5_append_e1f22_J4_length_8abf5
set_option maxRecDepth 20000 in
theorem ggJ5_append_e1f22_J3_checkFromToIndex_8c36e : GoodIn wsJ5_append_e1f22 wsJ3_checkFromToIndex_8c36e := goodIn_r _ [29] rfl (by decide +kernel)
set_option maxRecDepth 20000 in
theorem gJ5_append_e1f22_J3_checkFromToIndex_8c36e : GoodIn wsJ5_append_e1f22 (va_wsS RJ5 161 yJ3_checkFromToIndex_8c36e wsJ3_checkFromToIndex_8c36e) := goodIn_app (goodIn_of _ (by decide +kernel)) ggJ5_append_e1f22_J3_checkFromToIndex_8c36e
set_option maxRecDepth 20000 in
theorem ggJ5_append_e1f22_J5_ensureCapacityInternal_d00df : GoodIn wsJ5_append_e1f22 wsJ5_ensureCapacityInternal_d00df := goodIn_r _ [34, 35, 36, 37, 38, 39, 40, 24, 41, 42, 43, 44, 45, 46, 47, 48, 49, 50, 51, 52, 53, 54, 55, 56, 57, 58, 59, 60, 61, 62, 63, 64, 65, 66, 67, 68, 69, 70, 71, 72, 190, 191, 192, 193] rfl (by decide +kernel)
set_option maxRecDepth 20000 in
theorem gJ5_append_e1f22_J5_ensureCapacityInternal_d00df_u100J4 : GoodIn wsJ5_append_e1f22 (va_wsU RJ5 100 RJ4 "java/lang/AbstractStringBuilder" ⟨"java/lang/AbstractStringBuilder", "ensureCapacityInternal", "(I)V"⟩ yJ5_ensureCapacityInternal_d00df wsJ5_ensureCapacityInternal_d00df) := goodIn_app (goodIn_of _ (by decide +kernel)) ggJ5_append_e1f22_J5_ensureCapacityInternal_d00df
set_option maxRecDepth 20000 in
theorem ggJ5_append_e1f22_J5_appendChars_3135b : GoodIn wsJ5_append_e1f22 wsJ5_appendChars_3135b := goodIn_r _ [77, 35, 2, 78, 70, 71, 72, 79, 80, 81, 82, 24, 83, 84, 36, 85, 86, 87, 7, 88, 14, 15, 89, 90, 91, 92, 9, 93, 94, 95, 96, 97, 98, 99, 100, 101, 102, 103, 104, 105, 106, 107, 28, 108, 109, 110, 111, 112, 113, 114, 115, 116, 117, 118, 119, 120, 121, 122, 123, 124, 125, 126, 127, 128, 129, 130, 131, 132, 133, 134, 135, 136, 65, 137, 138, 139, 140, 141, 142, 143, 144, 145, 146, 147, 148, 149, 150, 151, 152, 153, 154, 155, 156, 157, 158, 159, 160, 161, 162, 163, 164, 165, 166, 167, 168, 27, 29, 169, 170, 171, 172, 18, 173, 174, 175, 22, 176, 177, 178, 67, 49, 68, 179, 180, 190, 191, 192, 193, 194, 195, 196, 197] rfl (by decide +kernel)
set_option maxRecDepth 20000 in
theorem gJ5_append_e1f22_J5_appendChars_3135b_u232J4 : GoodIn wsJ5_append_e1f22 (va_wsU RJ5 232 RJ4 "java/lang/AbstractStringBuilder" ⟨"java/lang/AbstractStringBuilder", "appendChars", "(Ljava/lang/String;II)V"⟩ yJ5_appendChars_3135b wsJ5_appendChars_3135b) := goodIn_app (goodIn_of _ (by decide +kernel)) ggJ5_append_e1f22_J5_appendChars_3135b
set_option maxRecDepth 20000 in
theorem ggJ5_append_e1f22_J5_appendChars_a91ff : GoodIn wsJ5_append_e1f22 wsJ5_appendChars_a91ff := goodIn_r _ [185, 35, 2, 79, 80, 81, 82, 24, 83, 84, 36, 186, 170, 94, 7, 96, 9, 97, 86, 87, 88, 14, 15, 98, 99, 100, 101, 102, 103, 104, 105, 106, 107, 28, 108, 109, 110, 111, 112, 113, 114, 115, 116, 117, 118, 119, 120, 121, 122, 123, 124, 125, 171, 172, 18, 173, 174, 175, 22, 176, 177, 178, 67, 49, 68, 179, 180, 126, 127, 128, 129, 130, 131, 132, 133, 134, 135, 136, 65, 137, 138, 139, 140, 141, 142, 143, 144, 145, 146, 147, 148, 149, 150, 151, 152, 153, 154, 155, 156, 157, 158, 187, 188, 189, 159, 160, 161, 162, 163, 164, 165, 166, 167, 168, 27, 29, 169, 190, 191, 192, 193, 194, 195, 196, 197] rfl (by decide +kernel)
set_option maxRecDepth 20000 in
theorem gJ5_append_e1f22_J5_appendChars_a91ff_u236J4 : GoodIn wsJ5_append_e1f22 (va_wsU RJ5 236 RJ4 "java/lang/AbstractStringBuilder" ⟨"java/lang/AbstractStringBuilder", "appendChars", "(Ljava/lang/CharSequence;II)V"⟩ yJ5_appendChars_a91ff wsJ5_appendChars_a91ff) := goodIn_app (goodIn_of _ (by decide +kernel)) ggJ5_append_e1f22_J5_appendChars_a91ff
theorem dJ5_append_e1f22_0 : decode cJ5_append_e1f22 0 = .ok (.aload_n 1, 1) := by decide +kernel
theorem dJ5_append_e1f22_1 : decode cJ5_append_e1f22 1 = .ok (.ifnonnull 6, 3) := by decide +kernel
theorem dJ5_append_e1f22_4 : decode cJ5_append_e1f22 4 = .ok (.ldc 230, 2) := by decide +kernel
theorem dJ5_append_e1f22_6 : decode cJ5_append_e1f22 6 = .ok (.astore_n 1, 1) := by decide +kernel
theorem dJ5_append_e1f22_7 : decode cJ5_append_e1f22 7 = .ok (.iload_n 2, 1) := by decide +kernel
theorem dJ5_append_e1f22_8 : decode cJ5_append_e1f22 8 = .ok (.iload_n 3, 1) := by decide +kernel
theorem dJ5_append_e1f22_9 : decode cJ5_append_e1f22 9 = .ok (.aload_n 1, 1) := by decide +kernel
theorem dJ5_append_e1f22_10 : decode cJ5_append_e1f22 10 = .ok (.invokeinterface 47 1, 5) := by decide +kernel
theorem dJ5_append_e1f22_15 : decode cJ5_append_e1f22 15 = .ok (.getstatic 183, 3) := by decide +kernel
theorem dJ5_append_e1f22_18 : decode cJ5_append_e1f22 18 = .ok (.invokestatic 161, 3) := by decide +kernel
theorem dJ5_append_e1f22_21 : decode cJ5_append_e1f22 21 = .ok (.pop, 1) := by decide +kernel
theorem dJ5_append_e1f22_22 : decode cJ5_append_e1f22 22 = .ok (.iload_n 3, 1) := by decide +kernel
theorem dJ5_append_e1f22_23 : decode cJ5_append_e1f22 23 = .ok (.iload_n 2, 1) := by decide +kernel
theorem dJ5_append_e1f22_24 : decode cJ5_append_e1f22 24 = .ok (.isub, 1) := by decide +kernel
theorem dJ5_append_e1f22_25 : decode cJ5_append_e1f22 25 = .ok (.istore 4, 2) := by decide +kernel
theorem dJ5_append_e1f22_27 : decode cJ5_append_e1f22 27 = .ok (.aload_n 0, 1) := by decide +kernel
theorem dJ5_append_e1f22_28 : decode cJ5_append_e1f22 28 = .ok (.aload_n 0, 1) := by decide +kernel
theorem dJ5_append_e1f22_29 : decode cJ5_append_e1f22 29 = .ok (.getfield 79, 3) := by decide +kernel
theorem dJ5_append_e1f22_32 : decode cJ5_append_e1f22 32 = .ok (.iload 4, 2) := by decide +kernel
theorem dJ5_append_e1f22_34 : decode cJ5_append_e1f22 34 = .ok (.iadd, 1) := by decide +kernel
theorem dJ5_append_e1f22_35 : decode cJ5_append_e1f22 35 = .ok (.invokevirtual 100, 3) := by decide +kernel
theorem dJ5_append_e1f22_38 : decode cJ5_append_e1f22 38 = .ok (.aload_n 1, 1) := by decide +kernel
theorem dJ5_append_e1f22_39 : decode cJ5_append_e1f22 39 = .ok (.instanceof 1, 3) := by decide +kernel
theorem dJ5_append_e1f22_42 : decode cJ5_append_e1f22 42 = .ok (.ifCond .eq 16, 3) := by decide +kernel
theorem dJ5_append_e1f22_45 : decode cJ5_append_e1f22 45 = .ok (.aload_n 0, 1) := by decide +kernel
theorem dJ5_append_e1f22_46 : decode cJ5_append_e1f22 46 = .ok (.aload_n 1, 1) := by decide +kernel
theorem dJ5_append_e1f22_47 : decode cJ5_append_e1f22 47 = .ok (.checkcast 1, 3) := by decide +kernel
theorem dJ5_append_e1f22_50 : decode cJ5_append_e1f22 50 = .ok (.iload_n 2, 1) := by decide +kernel
theorem dJ5_append_e1f22_51 : decode cJ5_append_e1f22 51 = .ok (.iload_n 3, 1) := by decide +kernel
theorem dJ5_append_e1f22_52 : decode cJ5_append_e1f22 52 = .ok (.invokevirtual 232, 3) := by decide +kernel
theorem dJ5_append_e1f22_55 : decode cJ5_append_e1f22 55 = .ok (.goto 10, 3) := by decide +kernel
theorem dJ5_append_e1f22_58 : decode cJ5_append_e1f22 58 = .ok (.aload_n 0, 1) := by decide +kernel
theorem dJ5_append_e1f22_59 : decode cJ5_append_e1f22 59 = .ok (.aload_n 1, 1) := by decide +kernel
theorem dJ5_append_e1f22_60 : decode cJ5_append_e1f22 60 = .ok (.iload_n 2, 1) := by decide +kernel
theorem dJ5_append_e1f22_61 : decode cJ5_append_e1f22 61 = .ok (.iload_n 3, 1) := by decide +kernel
theorem dJ5_append_e1f22_62 : decode cJ5_append_e1f22 62 = .ok (.invokevirtual 236, 3) := by decide +kernel
theorem dJ5_append_e1f22_65 : decode cJ5_append_e1f22 65 = .ok (.aload_n 0, 1) := by decide +kernel
theorem dJ5_append_e1f22_66 : decode cJ5_append_e1f22 66 = .ok (.areturn, 1) := by decide +kernel
set_option maxRecDepth 20000 in
theorem ggJ5_append_a1634_J5_ensureCapacityInternal_d00df : GoodIn wsJ5_append_a1634 wsJ5_ensureCapacityInternal_d00df := goodIn_r _ [7, 8, 9, 10, 11, 12, 13, 6, 14, 15, 16, 17, 18, 19, 20, 21, 22, 23, 24, 25, 26, 27, 28, 29, 30, 31, 32, 33, 34, 35, 36, 37, 38, 39, 40, 41, 42, 43, 44, 45, 116, 117, 118, 119] rfl (by decide +kernel)
set_option maxRecDepth 20000 in
theorem gJ5_append_a1634_J5_ensureCapacityInternal_d00df_u100J4 : GoodIn wsJ5_append_a1634 (va_wsU RJ5 100 RJ4 "java/lang/AbstractStringBuilder" ⟨"java/lang/AbstractStringBuilder", "ensureCapacityInternal", "(I)V"⟩ yJ5_ensureCapacityInternal_d00df wsJ5_ensureCapacityInternal_d00df) := goodIn_app (goodIn_of _ (by decide +kernel)) ggJ5_append_a1634_J5_ensureCapacityInternal_d00df
set_option maxRecDepth 20000 in
theorem ggJ5_append_a1634_J5_appendChars_0ad70 : GoodIn wsJ5_append_a1634 wsJ5_appendChars_0ad70 := goodIn_r _ [50, 1, 8, 51, 52, 53, 54, 6, 55, 56, 9, 57, 58, 59, 60, 61, 62, 63, 64, 65, 66, 67, 68, 69, 38, 70, 71, 72, 73, 74, 75, 76, 77, 78, 79, 80, 81, 82, 83, 84, 85, 86, 87, 88, 89, 90, 91, 92, 93, 94, 95, 96, 97, 98, 99, 100, 101, 102, 103, 104, 105, 106, 107, 108, 109, 110, 111, 112, 113, 114, 115, 116, 117, 118, 119] rfl (by decide +kernel)
set_option maxRecDepth 20000 in
theorem gJ5_append_a1634_J5_appendChars_0ad70_u239J4 : GoodIn wsJ5_append_a1634 (va_wsU RJ5 239 RJ4 "java/lang/AbstractStringBuilder" ⟨"java/lang/AbstractStringBuilder", "appendChars", "([CII)V"⟩ yJ5_appendChars_0ad70 wsJ5_appendChars_0ad70) := goodIn_app (goodIn_of _ (by decide +kernel)) ggJ5_append_a1634_J5_appendChars_0ad70
theorem dJ5_append_a1634_0 : decode cJ5_append_a1634 0 = .ok (.aload_n 1, 1) := by decide +kernel
theorem dJ5_append_a1634_1 : decode cJ5_append_a1634 1 = .ok (.arraylength, 1) := by decide +kernel
theorem dJ5_append_a1634_2 : decode cJ5_append_a1634 2 = .ok (.istore_n 2, 1) := by decide +kernel
theorem dJ5_append_a1634_3 : decode cJ5_append_a1634 3 = .ok (.aload_n 0, 1) := by decide +kernel
theorem dJ5_append_a1634_4 : decode cJ5_append_a1634 4 = .ok (.aload_n 0, 1) := by decide +kernel
theorem dJ5_append_a1634_5 : decode cJ5_append_a1634 5 = .ok (.getfield 79, 3) := by decide +kernel
theorem dJ5_append_a1634_8 : decode cJ5_append_a1634 8 = .ok (.iload_n 2, 1) := by decide +kernel
theorem dJ5_append_a1634_9 : decode cJ5_append_a1634 9 = .ok (.iadd, 1) := by decide +kernel
theorem dJ5_append_a1634_10 : decode cJ5_append_a1634 10 = .ok (.invokevirtual 100, 3) := by decide +kernel
theorem dJ5_append_a1634_13 : decode cJ5_append_a1634 13 = .ok (.aload_n 0, 1) := by decide +kernel
theorem dJ5_append_a1634_14 : decode cJ5_append_a1634 14 = .ok (.aload_n 1, 1) := by decide +kernel
theorem dJ5_append_a1634_15 : decode cJ5_append_a1634 15 = .ok (.iconst 0, 1) := by decide +kernel
theorem dJ5_append_a1634_16 : decode cJ5_append_a1634 16 = .ok (.iload_n 2, 1) := by decide +kernel
theorem dJ5_append_a1634_17 : decode cJ5_append_a1634 17 = .ok (.invokevirtual 239, 3) := by decide +kernel
theorem dJ5_append_a1634_20 : decode cJ5_append_a1634 20 = .ok (.aload_n 0, 1) := by decide +kernel
theorem dJ5_append_a1634_21 : decode cJ5_append_a1634 21 = .ok (.areturn, 1) := by decide +kernel
set_option maxRecDepth 20000 in
theorem ggJ5_append_3fe6f_J5_ensureCapacityInternal_d00df : GoodIn wsJ5_append_3fe6f wsJ5_ensureCapacityInternal_d00df := goodIn_r _ [8, 2, 9, 10, 11, 12, 13, 7, 14, 15, 16, 17, 18, 19, 20, 21, 22, 23, 24, 25, 26, 27, 28, 29, 30, 31, 32, 33, 34, 35, 36, 37, 38, 39, 40, 41, 42, 43, 44, 45, 108, 109, 110, 111] rfl (by decide +kernel)
set_option maxRecDepth 20000 in
theorem gJ5_append_3fe6f_J5_ensureCapacityInternal_d00df_u100J4 : GoodIn wsJ5_append_3fe6f (va_wsU RJ5 100 RJ4 "java/lang/AbstractStringBuilder" ⟨"java/lang/AbstractStringBuilder", "ensureCapacityInternal", "(I)V"⟩ yJ5_ensureCapacityInternal_d00df wsJ5_ensureCapacityInternal_d00df) := goodIn_app (goodIn_of _ (by decide +kernel)) ggJ5_append_3fe6f_J5_ensureCapacityInternal_d00df
set_option maxRecDepth 20000 in
theorem ggJ5_append_3fe6f_J5_isLatin1_aae02 : GoodIn wsJ5_append_3fe6f wsJ5_isLatin1_aae02 := goodIn_r _ [50, 51, 9, 108, 109, 110, 111] rfl (by decide +kernel)
set_option maxRecDepth 20000 in
theorem gJ5_append_3fe6f_J5_isLatin1_aae02_u83J4 : GoodIn wsJ5_append_3fe6f (va_wsU RJ5 83 RJ4 "java/lang/AbstractStringBuilder" ⟨"java/lang/AbstractStringBuilder", "isLatin1", "()Z"⟩ yJ5_isLatin1_aae02 wsJ5_isLatin1_aae02) := goodIn_app (goodIn_of _ (by decide +kernel)) ggJ5_append_3fe6f_J5_isLatin1_aae02
set_option maxRecDepth 20000 in
theorem ggJ5_append_3fe6f_J1_canEncode_fc78d : GoodIn wsJ5_append_3fe6f wsJ1_canEncode_fc78d := goodIn_r _ [55] rfl (by decide +kernel)
set_option maxRecDepth 20000 in
theorem gJ5_append_3fe6f_J1_canEncode_fc78d : GoodIn wsJ5_append_3fe6f (va_wsS RJ5 191 yJ1_canEncode_fc78d wsJ1_canEncode_fc78d) := goodIn_app (goodIn_of _ (by decide +kernel)) ggJ5_append_3fe6f_J1_canEncode_fc78d
set_option maxRecDepth 20000 in
theorem ggJ5_append_3fe6f_J5_inflate_da8c8 : GoodIn wsJ5_append_3fe6f wsJ5_inflate_da8c8 := goodIn_r _ [60, 2, 1, 9, 46, 47, 48, 49, 7, 50, 51, 61, 62, 63, 64, 38, 65, 66, 67, 68, 69, 70, 54, 71, 72, 73, 74, 75, 76, 77, 78, 79, 80, 81, 82, 83, 84, 85, 86, 87, 88, 89, 90, 91, 92, 93, 94, 95, 108, 109, 110, 111] rfl (by decide +kernel)
set_option maxRecDepth 20000 in
theorem gJ5_append_3fe6f_J5_inflate_da8c8_u195J4 : GoodIn wsJ5_append_3fe6f (va_wsU RJ5 195 RJ4 "java/lang/AbstractStringBuilder" ⟨"java/lang/AbstractStringBuilder", "inflate", "()V"⟩ yJ5_inflate_da8c8 wsJ5_inflate_da8c8) := goodIn_app (goodIn_of _ (by decide +kernel)) ggJ5_append_3fe6f_J5_inflate_da8c8
set_option maxRecDepth 20000 in
theorem ggJ5_append_3fe6f_J2_putCharSB_b72d1 : GoodIn wsJ5_append_3fe6f wsJ2_putCharSB_b72d1 := goodIn_r _ [98, 99, 100, 63, 101, 78, 79, 80, 102, 103, 83, 104, 85, 105, 106, 88, 107, 90, 91, 92, 93, 94, 95] rfl (by decide +kernel)
set_option maxRecDepth 20000 in
theorem gJ5_append_3fe6f_J2_putCharSB_b72d1 : GoodIn wsJ5_append_3fe6f (va_wsS RJ5 197 yJ2_putCharSB_b72d1 wsJ2_putCharSB_b72d1) := goodIn_app (goodIn_of _ (by decide +kernel)) ggJ5_append_3fe6f_J2_putCharSB_b72d1
theorem dJ5_append_3fe6f_0 : decode cJ5_append_3fe6f 0 = .ok (.aload_n 0, 1) := by decide +kernel
theorem dJ5_append_3fe6f_1 : decode cJ5_append_3fe6f 1 = .ok (.aload_n 0, 1) := by decide +kernel
theorem dJ5_append_3fe6f_2 : decode cJ5_append_3fe6f 2 = .ok (.getfield 79, 3) := by decide +kernel
theorem dJ5_append_3fe6f_5 : decode cJ5_append_3fe6f 5 = .ok (.iconst 1, 1) := by decide +kernel
theorem dJ5_append_3fe6f_6 : decode cJ5_append_3fe6f 6 = .ok (.iadd, 1) := by decide +kernel
theorem dJ5_append_3fe6f_7 : decode cJ5_append_3fe6f 7 = .ok (.invokevirtual 100, 3) := by decide +kernel
theorem dJ5_append_3fe6f_10 : decode cJ5_append_3fe6f 10 = .ok (.aload_n 0, 1) := by decide +kernel
theorem dJ5_append_3fe6f_11 : decode cJ5_append_3fe6f 11 = .ok (.invokevirtual 83, 3) := by decide +kernel
theorem dJ5_append_3fe6f_14 : decode cJ5_append_3fe6f 14 = .ok (.ifCond .eq 31, 3) := by decide +kernel
theorem dJ5_append_3fe6f_17 : decode cJ5_append_3fe6f 17 = .ok (.iload_n 1, 1) := by decide +kernel
theorem dJ5_append_3fe6f_18 : decode cJ5_append_3fe6f 18 = .ok (.invokestatic 191, 3) := by decide +kernel
theorem dJ5_append_3fe6f_21 : decode cJ5_append_3fe6f 21 = .ok (.ifCond .eq 24, 3) := by decide +kernel
theorem dJ5_append_3fe6f_24 : decode cJ5_append_3fe6f 24 = .ok (.aload_n 0, 1) := by decide +kernel
theorem dJ5_append_3fe6f_25 : decode cJ5_append_3fe6f 25 = .ok (.getfield 15, 3) := by decide +kernel
theorem dJ5_append_3fe6f_28 : decode cJ5_append_3fe6f 28 = .ok (.aload_n 0, 1) := by decide +kernel
theorem dJ5_append_3fe6f_29 : decode cJ5_append_3fe6f 29 = .ok (.dup, 1) := by decide +kernel
theorem dJ5_append_3fe6f_30 : decode cJ5_append_3fe6f 30 = .ok (.getfield 79, 3) := by decide +kernel
theorem dJ5_append_3fe6f_33 : decode cJ5_append_3fe6f 33 = .ok (.dup_x1, 1) := by decide +kernel
theorem dJ5_append_3fe6f_34 : decode cJ5_append_3fe6f 34 = .ok (.iconst 1, 1) := by decide +kernel
theorem dJ5_append_3fe6f_35 : decode cJ5_append_3fe6f 35 = .ok (.iadd, 1) := by decide +kernel
theorem dJ5_append_3fe6f_36 : decode cJ5_append_3fe6f 36 = .ok (.putfield 79, 3) := by decide +kernel
theorem dJ5_append_3fe6f_39 : decode cJ5_append_3fe6f 39 = .ok (.iload_n 1, 1) := by decide +kernel
theorem dJ5_append_3fe6f_40 : decode cJ5_append_3fe6f 40 = .ok (.i2b, 1) := by decide +kernel
theorem dJ5_append_3fe6f_41 : decode cJ5_append_3fe6f 41 = .ok (.bastore, 1) := by decide +kernel
theorem dJ5_append_3fe6f_42 : decode cJ5_append_3fe6f 42 = .ok (.goto 33, 3) := by decide +kernel
theorem dJ5_append_3fe6f_45 : decode cJ5_append_3fe6f 45 = .ok (.aload_n 0, 1) := by decide +kernel
theorem dJ5_append_3fe6f_46 : decode cJ5_append_3fe6f 46 = .ok (.invokevirtual 83, 3) := by decide +kernel
theorem dJ5_append_3fe6f_49 : decode cJ5_append_3fe6f 49 = .ok (.ifCond .eq 7, 3) := by decide +kernel
theorem dJ5_append_3fe6f_52 : decode cJ5_append_3fe6f 52 = .ok (.aload_n 0, 1) := by decide +kernel
theorem dJ5_append_3fe6f_53 : decode cJ5_append_3fe6f 53 = .ok (.invokevirtual 195, 3) := by decide +kernel
theorem dJ5_append_3fe6f_56 : decode cJ5_append_3fe6f 56 = .ok (.aload_n 0, 1) := by decide +kernel
theorem dJ5_append_3fe6f_57 : decode cJ5_append_3fe6f 57 = .ok (.getfield 15, 3) := by decide +kernel
theorem dJ5_append_3fe6f_60 : decode cJ5_append_3fe6f 60 = .ok (.aload_n 0, 1) := by decide +kernel
theorem dJ5_append_3fe6f_61 : decode cJ5_append_3fe6f 61 = .ok (.dup, 1) := by decide +kernel
theorem dJ5_append_3fe6f_62 : decode cJ5_append_3fe6f 62 = .ok (.getfield 79, 3) := by decide +kernel
theorem dJ5_append_3fe6f_65 : decode cJ5_append_3fe6f 65 = .ok (.dup_x1, 1) := by decide +kernel
theorem dJ5_append_3fe6f_66 : decode cJ5_append_3fe6f 66 = .ok (.iconst 1, 1) := by decide +kernel
theorem dJ5_append_3fe6f_67 : decode cJ5_append_3fe6f 67 = .ok (.iadd, 1) := by decide +kernel
theorem dJ5_append_3fe6f_68 : decode cJ5_append_3fe6f 68 = .ok (.putfield 79, 3) := by decide +kernel
theorem dJ5_append_3fe6f_71 : decode cJ5_append_3fe6f 71 = .ok (.iload_n 1, 1) := by decide +kernel
theorem dJ5_append_3fe6f_72 : decode cJ5_append_3fe6f 72 = .ok (.invokestatic 197, 3) := by decide +kernel
theorem dJ5_append_3fe6f_75 : decode cJ5_append_3fe6f 75 = .ok (.aload_n 0, 1) := by decide +kernel
theorem dJ5_append_3fe6f_76 : decode cJ5_append_3fe6f 76 = .ok (.areturn, 1) := by decide +kernel
set_option maxRecDepth 20000 in
theorem ggJ5_append_c97b9_J6_stringSize_0f7a4 : GoodIn wsJ5_append_c97b9 wsJ6_stringSize_0f7a4 := goodIn_r _ [6] rfl (by decide +kernel)
set_option maxRecDepth 20000 in
theorem gJ5_append_c97b9_J6_stringSize_0f7a4 : GoodIn wsJ5_append_c97b9 (va_wsS RJ5 245 yJ6_stringSize_0f7a4 wsJ6_stringSize_0f7a4) := goodIn_app (goodIn_of _ (by decide +kernel)) ggJ5_append_c97b9_J6_stringSize_0f7a4
set_option maxRecDepth 20000 in
theorem ggJ5_append_c97b9_J5_ensureCapacityInternal_d00df : GoodIn wsJ5_append_c97b9 wsJ5_ensureCapacityInternal_d00df := goodIn_r _ [12, 2, 13, 14, 15, 16, 17, 11, 18, 19, 20, 21, 22, 23, 24, 25, 26, 27, 28, 29, 30, 31, 32, 33, 34, 35, 36, 37, 38, 39, 40, 41, 42, 43, 44, 45, 46, 47, 48, 49, 91, 92, 93, 94] rfl (by decide +kernel)
set_option maxRecDepth 20000 in
theorem gJ5_append_c97b9_J5_ensureCapacityInternal_d00df_u100J4 : GoodIn wsJ5_append_c97b9 (va_wsU RJ5 100 RJ4 "java/lang/AbstractStringBuilder" ⟨"java/lang/AbstractStringBuilder", "ensureCapacityInternal", "(I)V"⟩ yJ5_ensureCapacityInternal_d00df wsJ5_ensureCapacityInternal_d00df) := goodIn_app (goodIn_of _ (by decide +kernel)) ggJ5_append_c97b9_J5_ensureCapacityInternal_d00df
set_option maxRecDepth 20000 in
theorem ggJ5_append_c97b9_J5_isLatin1_aae02 : GoodIn wsJ5_append_c97b9 wsJ5_isLatin1_aae02 := goodIn_r _ [54, 55, 13, 91, 92, 93, 94] rfl (by decide +kernel)
set_option maxRecDepth 20000 in
theorem gJ5_append_c97b9_J5_isLatin1_aae02_u83J4 : GoodIn wsJ5_append_c97b9 (va_wsU RJ5 83 RJ4 "java/lang/AbstractStringBuilder" ⟨"java/lang/AbstractStringBuilder", "isLatin1", "()Z"⟩ yJ5_isLatin1_aae02 wsJ5_isLatin1_aae02) := goodIn_app (goodIn_of _ (by decide +kernel)) ggJ5_append_c97b9_J5_isLatin1_aae02
set_option maxRecDepth 20000 in
theorem ggJ5_append_c97b9_J6_getChars_ba4f3 : GoodIn wsJ5_append_c97b9 wsJ6_getChars_ba4f3 := goodIn_r _ [58, 59, 60] rfl (by decide +kernel)
set_option maxRecDepth 20000 in
theorem gJ5_append_c97b9_J6_getChars_ba4f3 : GoodIn wsJ5_append_c97b9 (va_wsS RJ5 248 yJ6_getChars_ba4f3 wsJ6_getChars_ba4f3) := goodIn_app (goodIn_of _ (by decide +kernel)) ggJ5_append_c97b9_J6_getChars_ba4f3
set_option maxRecDepth 20000 in
theorem ggJ5_append_c97b9_J2_getChars_46870 : GoodIn wsJ5_append_c97b9 wsJ2_getChars_46870 := goodIn_r _ [64, 65, 66, 67, 63, 68, 69, 70, 71, 72, 73, 74, 75, 76, 77, 78, 79, 80, 81, 82, 83, 84, 85, 86, 87, 88, 89, 90] rfl (by decide +kernel)
set_option maxRecDepth 20000 in
theorem gJ5_append_c97b9_J2_getChars_46870 : GoodIn wsJ5_append_c97b9 (va_wsS RJ5 251 yJ2_getChars_46870 wsJ2_getChars_46870) := goodIn_app (goodIn_of _ (by decide +kernel)) ggJ5_append_c97b9_J2_getChars_46870
theorem dJ5_append_c97b9_0 : decode cJ5_append_c97b9 0 = .ok (.aload_n 0, 1) := by decide +kernel
theorem dJ5_append_c97b9_1 : decode cJ5_append_c97b9 1 = .ok (.getfield 79, 3) := by decide +kernel
theorem dJ5_append_c97b9_4 : decode cJ5_append_c97b9 4 = .ok (.istore_n 2, 1) := by decide +kernel
theorem dJ5_append_c97b9_5 : decode cJ5_append_c97b9 5 = .ok (.iload_n 2, 1) := by decide +kernel
theorem dJ5_append_c97b9_6 : decode cJ5_append_c97b9 6 = .ok (.iload_n 1, 1) := by decide +kernel
theorem dJ5_append_c97b9_7 : decode cJ5_append_c97b9 7 = .ok (.invokestatic 245, 3) := by decide +kernel
theorem dJ5_append_c97b9_10 : decode cJ5_append_c97b9 10 = .ok (.iadd, 1) := by decide +kernel
theorem dJ5_append_c97b9_11 : decode cJ5_append_c97b9 11 = .ok (.istore_n 3, 1) := by decide +kernel
theorem dJ5_append_c97b9_12 : decode cJ5_append_c97b9 12 = .ok (.aload_n 0, 1) := by decide +kernel
theorem dJ5_append_c97b9_13 : decode cJ5_append_c97b9 13 = .ok (.iload_n 3, 1) := by decide +kernel
theorem dJ5_append_c97b9_14 : decode cJ5_append_c97b9 14 = .ok (.invokevirtual 100, 3) := by decide +kernel
theorem dJ5_append_c97b9_17 : decode cJ5_append_c97b9 17 = .ok (.aload_n 0, 1) := by decide +kernel
theorem dJ5_append_c97b9_18 : decode cJ5_append_c97b9 18 = .ok (.invokevirtual 83, 3) := by decide +kernel
theorem dJ5_append_c97b9_21 : decode cJ5_append_c97b9 21 = .ok (.ifCond .eq 16, 3) := by decide +kernel
theorem dJ5_append_c97b9_24 : decode cJ5_append_c97b9 24 = .ok (.iload_n 1, 1) := by decide +kernel
theorem dJ5_append_c97b9_25 : decode cJ5_append_c97b9 25 = .ok (.iload_n 3, 1) := by decide +kernel
theorem dJ5_append_c97b9_26 : decode cJ5_append_c97b9 26 = .ok (.aload_n 0, 1) := by decide +kernel
theorem dJ5_append_c97b9_27 : decode cJ5_append_c97b9 27 = .ok (.getfield 15, 3) := by decide +kernel
theorem dJ5_append_c97b9_30 : decode cJ5_append_c97b9 30 = .ok (.invokestatic 248, 3) := by decide +kernel
theorem dJ5_append_c97b9_33 : decode cJ5_append_c97b9 33 = .ok (.pop, 1) := by decide +kernel
theorem dJ5_append_c97b9_34 : decode cJ5_append_c97b9 34 = .ok (.goto 14, 3) := by decide +kernel
theorem dJ5_append_c97b9_37 : decode cJ5_append_c97b9 37 = .ok (.iload_n 1, 1) := by decide +kernel
theorem dJ5_append_c97b9_38 : decode cJ5_append_c97b9 38 = .ok (.iload_n 2, 1) := by decide +kernel
theorem dJ5_append_c97b9_39 : decode cJ5_append_c97b9 39 = .ok (.iload_n 3, 1) := by decide +kernel
theorem dJ5_append_c97b9_40 : decode cJ5_append_c97b9 40 = .ok (.aload_n 0, 1) := by decide +kernel
theorem dJ5_append_c97b9_41 : decode cJ5_append_c97b9 41 = .ok (.getfield 15, 3) := by decide +kernel
theorem dJ5_append_c97b9_44 : decode cJ5_append_c97b9 44 = .ok (.invokestatic 251, 3) := by decide +kernel
theorem dJ5_append_c97b9_47 : decode cJ5_append_c97b9 47 = .ok (.pop, 1) := by decide +kernel
theorem dJ5_append_c97b9_48 : decode cJ5_append_c97b9 48 = .ok (.aload_n 0, 1) := by decide +kernel
theorem dJ5_append_c97b9_49 : decode cJ5_append_c97b9 49 = .ok (.iload_n 3, 1) := by decide +kernel
theorem dJ5_append_c97b9_50 : decode cJ5_append_c97b9 50 = .ok (.putfield 79, 3) := by decide +kernel
theorem dJ5_append_c97b9_53 : decode cJ5_append_c97b9 53 = .ok (.aload_n 0, 1) := by decide +kernel
theorem dJ5_append_c97b9_54 : decode cJ5_append_c97b9 54 = .ok (.areturn, 1) := by decide +kernel
set_option maxRecDepth 20000 in
theorem ggJ5_append_b089e_Jx40b00_appendTo_8d9f2 : GoodIn wsJ5_append_b089e wsJx40b00_appendTo_8d9f2 := goodIn_r _ [4, 5, 6, 3, 7, 8, 9, 10, 11, 12, 13, 14, 15, 16, 17, 18, 19, 20, 21, 22, 23, 24, 25, 26, 27, 28, 29, 30, 31, 32, 33, 34, 35, 36, 37, 38, 39, 40, 41, 42, 43, 44, 45, 46, 47, 48, 49, 50, 51, 52, 53, 54, 55, 56, 57, 58, 59, 60, 61, 62, 63, 64, 65, 66, 67, 68, 69, 70, 71, 72, 73, 74, 75, 76, 77, 78, 79, 80, 81, 82, 83, 84, 85, 86, 87, 88, 89, 90, 91, 92, 93, 94, 95, 96, 97, 98, 99, 100, 101, 102, 103, 104, 105, 106, 107, 108, 109, 110, 111, 112, 113, 114, 115, 116, 117, 118, 119, 120, 121, 122, 123, 124, 125, 126, 127, 128, 129, 130, 131, 132, 133, 134, 135, 136, 137, 138, 139, 140, 141, 142, 143, 144, 145, 146, 147, 148, 149, 150, 151, 152, 153, 154, 155, 156, 157, 158, 159, 160, 161, 162, 163, 164, 165, 166, 167, 168, 169, 170, 171, 172, 173, 174, 175, 176, 177, 178, 179, 180, 181, 182, 183, 184, 185, 186, 187, 188, 189, 190, 191, 192, 193, 194, 195, 196, 197, 198, 199, 200, 201, 202, 203, 204, 205, 206, 207, 208, 209, 210, 211, 212, 213, 214, 215, 216, 217, 218, 219, 220, 221, 222, 223, 224, 225, 226, 227, 228, 229, 230, 231, 232, 233, 234, 235, 236, 237, 238, 239, 240, 241, 242, 243, 244, 245, 246, 247, 248, 249, 250, 251, 252, 253, 254, 255, 256, 257, 258, 259, 260, 261, 262, 263, 264, 265, 266, 267, 268, 269, 270, 271, 272, 273, 274, 275, 276, 277, 278, 279, 280, 281, 282, 283, 284, 285, 286, 287, 288, 289, 290, 291, 292, 293, 294, 295, 296, 297, 298, 299, 300, 301, 302, 303, 304, 305, 306, 307, 308, 309, 310, 311, 312, 313, 314, 315, 316, 317, 318, 319, 320, 321, 322, 323, 324, 325, 326, 327, 328, 329, 330, 331, 332, 333, 334, 335, 336, 337, 338, 339, 340, 341, 342, 343, 344, 345, 346, 347, 348, 349, 350, 351, 352, 353, 354, 355, 356, 357, 358, 359, 360, 361, 362, 363, 364, 365, 366, 367, 368, 369, 370, 371, 372, 373, 374, 375, 376, 377, 378, 379, 380, 381, 382, 383, 384, 385, 386, 387, 388, 389, 390, 391, 392, 393, 394, 395, 396, 397, 398, 399, 400, 401, 402, 403, 404, 405, 406, 407, 408, 409, 410, 411, 412, 413, 414, 415, 416, 417, 418, 419, 420, 421, 422, 423, 424, 425, 426, 427, 428, 429, 430, 431, 432, 433, 434, 435, 436] rfl (by decide +kernel)
set_option maxRecDepth 20000 in
theorem gJ5_append_b089e_Jx40b00_appendTo_8d9f2 : GoodIn wsJ5_append_b089e (va_wsS RJ5 265 yJx40b00_appendTo_8d9f2 wsJx40b00_appendTo_8d9f2) := goodIn_app (goodIn_of _ (by decide +kernel)) ggJ5_append_b089e_Jx40b00_appendTo_8d9f2
theorem dJ5_append_b089e_0 : decode cJ5_append_b089e 0 = .ok (.fload_n 1, 1) := by decide +kernel
theorem dJ5_append_b089e_1 : decode cJ5_append_b089e 1 = .ok (.aload_n 0, 1) := by decide +kernel
theorem dJ5_append_b089e_2 : decode cJ5_append_b089e 2 = .ok (.invokestatic 265, 3) := by decide +kernel
theorem dJ5_append_b089e_5 : decode cJ5_append_b089e 5 = .ok (.pop, 1) := by decide +kernel
theorem dJ5_append_b089e_6 : decode cJ5_append_b089e 6 = .ok (.goto 13, 3) := by decide +kernel
theorem dJ5_append_b089e_9 : decode cJ5_append_b089e 9 = .ok (.astore_n 2, 1) := by decide +kernel
theorem dJ5_append_b089e_10 : decode cJ5_append_b089e 10 = .ok (.new 273, 3) := by decide +kernel
theorem dJ5_append_b089e_13 : decode cJ5_append_b089e 13 = .ok (.dup, 1) := by decide +kernel
theorem dJ5_append_b089e_14 : decode cJ5_append_b089e 14 = .ok (.aload_n 2, 1) := by decide +kernel
theorem dJ5_append_b089e_15 : decode cJ5_append_b089e 15 = .ok (.invokespecial 275, 3) := by decide +kernel
theorem dJ5_append_b089e_18 : decode cJ5_append_b089e 18 = .ok (.athrow, 1) := by decide +kernel
theorem dJ5_append_b089e_19 : decode cJ5_append_b089e 19 = .ok (.aload_n 0, 1) := by decide +kernel
theorem dJ5_append_b089e_20 : decode cJ5_append_b089e 20 = .ok (.areturn, 1) := by decide +kernel
theorem dJ5_getValue_6d5f1_0 : decode cJ5_getValue_6d5f1 0 = .ok (.aload_n 0, 1) := by decide +kernel
theorem dJ5_getValue_6d5f1_1 : decode cJ5_getValue_6d5f1 1 = .ok (.getfield 15, 3) := by decide +kernel
theorem dJ5_getValue_6d5f1_4 : decode cJ5_getValue_6d5f1 4 = .ok (.areturn, 1) := by decide +kernel
set_option maxRecDepth 20000 in
theorem ggJ5_getBytes_840e7_J1_inflate_0e8fd : GoodIn wsJ5_getBytes_840e7 wsJ1_inflate_0e8fd := goodIn_r _ [11, 12, 13, 14, 15, 16, 17, 18, 19, 20, 21, 22, 23, 24, 25, 26, 27, 28, 29, 30, 31, 32, 33, 34, 35, 36] rfl (by decide +kernel)
set_option maxRecDepth 20000 in
theorem gJ5_getBytes_840e7_J1_inflate_0e8fd : GoodIn wsJ5_getBytes_840e7 (va_wsS RJ5 125 yJ1_inflate_0e8fd wsJ1_inflate_0e8fd) := goodIn_app (goodIn_of _ (by decide +kernel)) ggJ5_getBytes_840e7_J1_inflate_0e8fd
theorem dJ5_getBytes_840e7_0 : decode cJ5_getBytes_840e7 0 = .ok (.aload_n 0, 1) := by decide +kernel
theorem dJ5_getBytes_840e7_1 : decode cJ5_getBytes_840e7 1 = .ok (.getfield 22, 3) := by decide +kernel
theorem dJ5_getBytes_840e7_4 : decode cJ5_getBytes_840e7 4 = .ok (.iload_n 3, 1) := by decide +kernel
theorem dJ5_getBytes_840e7_5 : decode cJ5_getBytes_840e7 5 = .ok (.if_icmp .ne 24, 3) := by decide +kernel
theorem dJ5_getBytes_840e7_8 : decode cJ5_getBytes_840e7 8 = .ok (.aload_n 0, 1) := by decide +kernel
theorem dJ5_getBytes_840e7_9 : decode cJ5_getBytes_840e7 9 = .ok (.getfield 15, 3) := by decide +kernel
theorem dJ5_getBytes_840e7_12 : decode cJ5_getBytes_840e7 12 = .ok (.iconst 0, 1) := by decide +kernel
theorem dJ5_getBytes_840e7_13 : decode cJ5_getBytes_840e7 13 = .ok (.aload_n 1, 1) := by decide +kernel
theorem dJ5_getBytes_840e7_14 : decode cJ5_getBytes_840e7 14 = .ok (.iload_n 2, 1) := by decide +kernel
theorem dJ5_getBytes_840e7_15 : decode cJ5_getBytes_840e7 15 = .ok (.iload_n 3, 1) := by decide +kernel
theorem dJ5_getBytes_840e7_16 : decode cJ5_getBytes_840e7 16 = .ok (.ishl, 1) := by decide +kernel
theorem dJ5_getBytes_840e7_17 : decode cJ5_getBytes_840e7 17 = .ok (.aload_n 0, 1) := by decide +kernel
theorem dJ5_getBytes_840e7_18 : decode cJ5_getBytes_840e7 18 = .ok (.getfield 79, 3) := by decide +kernel
theorem dJ5_getBytes_840e7_21 : decode cJ5_getBytes_840e7 21 = .ok (.iload_n 3, 1) := by decide +kernel
theorem dJ5_getBytes_840e7_22 : decode cJ5_getBytes_840e7 22 = .ok (.ishl, 1) := by decide +kernel
theorem dJ5_getBytes_840e7_23 : decode cJ5_getBytes_840e7 23 = .ok (.invokestatic 309, 3) := by decide +kernel
theorem dJ5_getBytes_840e7_26 : decode cJ5_getBytes_840e7 26 = .ok (.goto 17, 3) := by decide +kernel
theorem dJ5_getBytes_840e7_29 : decode cJ5_getBytes_840e7 29 = .ok (.aload_n 0, 1) := by decide +kernel
theorem dJ5_getBytes_840e7_30 : decode cJ5_getBytes_840e7 30 = .ok (.getfield 15, 3) := by decide +kernel
theorem dJ5_getBytes_840e7_33 : decode cJ5_getBytes_840e7 33 = .ok (.iconst 0, 1) := by decide +kernel
theorem dJ5_getBytes_840e7_34 : decode cJ5_getBytes_840e7 34 = .ok (.aload_n 1, 1) := by decide +kernel
theorem dJ5_getBytes_840e7_35 : decode cJ5_getBytes_840e7 35 = .ok (.iload_n 2, 1) := by decide +kernel
theorem dJ5_getBytes_840e7_36 : decode cJ5_getBytes_840e7 36 = .ok (.aload_n 0, 1) := by decide +kernel
theorem dJ5_getBytes_840e7_37 : decode cJ5_getBytes_840e7 37 = .ok (.getfield 79, 3) := by decide +kernel
theorem dJ5_getBytes_840e7_40 : decode cJ5_getBytes_840e7 40 = .ok (.invokestatic 125, 3) := by decide +kernel
theorem dJ5_getBytes_840e7_43 : decode cJ5_getBytes_840e7 43 = .ok (.return_, 1) := by decide +kernel
theorem dJ5_getCoder_7d493_0 : decode cJ5_getCoder_7d493 0 = .ok (.getstatic 18, 3) := by decide +kernel
theorem dJ5_getCoder_7d493_3 : decode cJ5_getCoder_7d493 3 = .ok (.ifCond .eq 10, 3) := by decide +kernel
theorem dJ5_getCoder_7d493_6 : decode cJ5_getCoder_7d493 6 = .ok (.aload_n 0, 1) := by decide +kernel
theorem dJ5_getCoder_7d493_7 : decode cJ5_getCoder_7d493 7 = .ok (.getfield 22, 3) := by decide +kernel
theorem dJ5_getCoder_7d493_10 : decode cJ5_getCoder_7d493 10 = .ok (.goto 4, 3) := by decide +kernel
theorem dJ5_getCoder_7d493_13 : decode cJ5_getCoder_7d493 13 = .ok (.iconst 1, 1) := by decide +kernel
theorem dJ5_getCoder_7d493_14 : decode cJ5_getCoder_7d493 14 = .ok (.ireturn, 1) := by decide +kernel
theorem dJ5_isLatin1_aae02_0 : decode cJ5_isLatin1_aae02 0 = .ok (.getstatic 18, 3) := by decide +kernel
theorem dJ5_isLatin1_aae02_3 : decode cJ5_isLatin1_aae02 3 = .ok (.ifCond .eq 14, 3) := by decide +kernel
theorem dJ5_isLatin1_aae02_6 : decode cJ5_isLatin1_aae02 6 = .ok (.aload_n 0, 1) := by decide +kernel
theorem dJ5_isLatin1_aae02_7 : decode cJ5_isLatin1_aae02 7 = .ok (.getfield 22, 3) := by decide +kernel
theorem dJ5_isLatin1_aae02_10 : decode cJ5_isLatin1_aae02 10 = .ok (.ifCond .ne 7, 3) := by decide +kernel
theorem dJ5_isLatin1_aae02_13 : decode cJ5_isLatin1_aae02 13 = .ok (.iconst 1, 1) := by decide +kernel
theorem dJ5_isLatin1_aae02_14 : decode cJ5_isLatin1_aae02 14 = .ok (.goto 4, 3) := by decide +kernel
theorem dJ5_isLatin1_aae02_17 : decode cJ5_isLatin1_aae02 17 = .ok (.iconst 0, 1) := by decide +kernel
theorem dJ5_isLatin1_aae02_18 : decode cJ5_isLatin1_aae02 18 = .ok (.ireturn, 1) := by decide +kernel
set_option maxRecDepth 20000 in
theorem ggJ5_inflateIfNeededFor_a7421_J0_coder_7d493 : GoodIn wsJ5_inflateIfNeededFor_a7421 wsJ0_coder_7d493 := goodIn_r _ [7, 8, 9, 63, 64, 65, 66] rfl (by decide +kernel)
set_option maxRecDepth 20000 in
theorem gJ5_inflateIfNeededFor_a7421_J0_coder_7d493 : GoodIn wsJ5_inflateIfNeededFor_a7421 (wsV RJ5 40 RJ0 yJ0_coder_7d493 wsJ0_coder_7d493) := goodIn_app (goodIn_of _ (by decide +kernel)) ggJ5_inflateIfNeededFor_a7421_J0_coder_7d493
set_option maxRecDepth 20000 in
theorem ggJ5_inflateIfNeededFor_a7421_J5_inflate_da8c8 : GoodIn wsJ5_inflateIfNeededFor_a7421 wsJ5_inflate_da8c8 := goodIn_r _ [15, 16, 17, 2, 18, 19, 20, 21, 14, 22, 1, 23, 24, 25, 26, 27, 28, 29, 30, 31, 32, 33, 34, 35, 36, 37, 38, 39, 40, 41, 42, 43, 44, 45, 46, 6, 47, 48, 49, 50, 51, 52, 53, 54, 55, 56, 57, 58, 59, 60, 61, 62] rfl (by decide +kernel)
set_option maxRecDepth 20000 in
theorem gJ5_inflateIfNeededFor_a7421_J5_inflate_da8c8_u195J4 : GoodIn wsJ5_inflateIfNeededFor_a7421 (va_wsU RJ5 195 RJ4 "java/lang/AbstractStringBuilder" ⟨"java/lang/AbstractStringBuilder", "inflate", "()V"⟩ yJ5_inflate_da8c8 wsJ5_inflate_da8c8) := goodIn_app (goodIn_of _ (by decide +kernel)) ggJ5_inflateIfNeededFor_a7421_J5_inflate_da8c8
theorem dJ5_inflateIfNeededFor_a7421_0 : decode cJ5_inflateIfNeededFor_a7421 0 = .ok (.getstatic 18, 3) := by decide +kernel
theorem dJ5_inflateIfNeededFor_a7421_3 : decode cJ5_inflateIfNeededFor_a7421 3 = .ok (.ifCond .eq 18, 3) := by decide +kernel
theorem dJ5_inflateIfNeededFor_a7421_6 : decode cJ5_inflateIfNeededFor_a7421 6 = .ok (.aload_n 0, 1) := by decide +kernel
theorem dJ5_inflateIfNeededFor_a7421_7 : decode cJ5_inflateIfNeededFor_a7421 7 = .ok (.getfield 22, 3) := by decide +kernel
theorem dJ5_inflateIfNeededFor_a7421_10 : decode cJ5_inflateIfNeededFor_a7421 10 = .ok (.aload_n 1, 1) := by decide +kernel
theorem dJ5_inflateIfNeededFor_a7421_11 : decode cJ5_inflateIfNeededFor_a7421 11 = .ok (.invokevirtual 40, 3) := by decide +kernel
theorem dJ5_inflateIfNeededFor_a7421_14 : decode cJ5_inflateIfNeededFor_a7421 14 = .ok (.if_icmp .eq 7, 3) := by decide +kernel
theorem dJ5_inflateIfNeededFor_a7421_17 : decode cJ5_inflateIfNeededFor_a7421 17 = .ok (.aload_n 0, 1) := by decide +kernel
theorem dJ5_inflateIfNeededFor_a7421_18 : decode cJ5_inflateIfNeededFor_a7421 18 = .ok (.invokevirtual 195, 3) := by decide +kernel
theorem dJ5_inflateIfNeededFor_a7421_21 : decode cJ5_inflateIfNeededFor_a7421 21 = .ok (.return_, 1) := by decide +kernel
set_option maxRecDepth 20000 in
theorem ggJ5_inflateIfNeededFor_56e69_J5_getCoder_7d493 : GoodIn wsJ5_inflateIfNeededFor_56e69 wsJ5_getCoder_7d493 := goodIn_r _ [8, 1, 2, 58, 59, 60, 61] rfl (by decide +kernel)
set_option maxRecDepth 20000 in
theorem gJ5_inflateIfNeededFor_56e69_J5_getCoder_7d493_u70J4 : GoodIn wsJ5_inflateIfNeededFor_56e69 (va_wsU RJ5 70 RJ4 "java/lang/AbstractStringBuilder" ⟨"java/lang/AbstractStringBuilder", "getCoder", "()B"⟩ yJ5_getCoder_7d493 wsJ5_getCoder_7d493) := goodIn_app (goodIn_of _ (by decide +kernel)) ggJ5_inflateIfNeededFor_56e69_J5_getCoder_7d493
set_option maxRecDepth 20000 in
theorem ggJ5_inflateIfNeededFor_56e69_J5_inflate_da8c8 : GoodIn wsJ5_inflateIfNeededFor_56e69 wsJ5_inflate_da8c8 := goodIn_r _ [13, 14, 15, 2, 16, 17, 18, 19, 7, 20, 1, 21, 22, 23, 24, 25, 26, 27, 28, 29, 30, 31, 32, 33, 34, 35, 36, 37, 38, 39, 40, 41, 42, 43, 44, 45, 46, 47, 48, 49, 50, 51, 52, 53, 54, 55, 56, 57, 58, 59, 60, 61] rfl (by decide +kernel)
set_option maxRecDepth 20000 in
theorem gJ5_inflateIfNeededFor_56e69_J5_inflate_da8c8_u195J4 : GoodIn wsJ5_inflateIfNeededFor_56e69 (va_wsU RJ5 195 RJ4 "java/lang/AbstractStringBuilder" ⟨"java/lang/AbstractStringBuilder", "inflate", "()V"⟩ yJ5_inflate_da8c8 wsJ5_inflate_da8c8) := goodIn_app (goodIn_of _ (by decide +kernel)) ggJ5_inflateIfNeededFor_56e69_J5_inflate_da8c8
theorem dJ5_inflateIfNeededFor_56e69_0 : decode cJ5_inflateIfNeededFor_56e69 0 = .ok (.getstatic 18, 3) := by decide +kernel
theorem dJ5_inflateIfNeededFor_56e69_3 : decode cJ5_inflateIfNeededFor_56e69 3 = .ok (.ifCond .eq 18, 3) := by decide +kernel
theorem dJ5_inflateIfNeededFor_56e69_6 : decode cJ5_inflateIfNeededFor_56e69 6 = .ok (.aload_n 0, 1) := by decide +kernel
theorem dJ5_inflateIfNeededFor_56e69_7 : decode cJ5_inflateIfNeededFor_56e69 7 = .ok (.getfield 22, 3) := by decide +kernel
theorem dJ5_inflateIfNeededFor_56e69_10 : decode cJ5_inflateIfNeededFor_56e69 10 = .ok (.aload_n 1, 1) := by decide +kernel
theorem dJ5_inflateIfNeededFor_56e69_11 : decode cJ5_inflateIfNeededFor_56e69 11 = .ok (.invokevirtual 70, 3) := by decide +kernel
theorem dJ5_inflateIfNeededFor_56e69_14 : decode cJ5_inflateIfNeededFor_56e69 14 = .ok (.if_icmp .eq 7, 3) := by decide +kernel
theorem dJ5_inflateIfNeededFor_56e69_17 : decode cJ5_inflateIfNeededFor_56e69 17 = .ok (.aload_n 0, 1) := by decide +kernel
theorem dJ5_inflateIfNeededFor_56e69_18 : decode cJ5_inflateIfNeededFor_56e69 18 = .ok (.invokevirtual 195, 3) := by decide +kernel
theorem dJ5_inflateIfNeededFor_56e69_21 : decode cJ5_inflateIfNeededFor_56e69 21 = .ok (.return_, 1) := by decide +kernel
set_option maxRecDepth 20000 in
theorem ggJ5_putStringAt_47b60_J5_inflateIfNeededFor_a7421 : GoodIn wsJ5_putStringAt_47b60 wsJ5_inflateIfNeededFor_a7421 := goodIn_r _ [8, 9, 2, 10, 11, 12, 13, 14, 15, 16, 17, 18, 19, 20, 7, 21, 1, 22, 23, 24, 25, 26, 27, 28, 29, 30, 31, 32, 33, 34, 35, 36, 37, 38, 39, 40, 41, 42, 43, 44, 45, 46, 47, 48, 49, 50, 51, 52, 53, 54, 55, 56, 57, 58, 59, 60, 61, 62, 63, 75, 76, 77, 78, 79, 80, 81, 82] rfl (by decide +kernel)
set_option maxRecDepth 20000 in
theorem gJ5_putStringAt_47b60_J5_inflateIfNeededFor_a7421_u397J4 : GoodIn wsJ5_putStringAt_47b60 (va_wsU RJ5 397 RJ4 "java/lang/AbstractStringBuilder" ⟨"java/lang/AbstractStringBuilder", "inflateIfNeededFor", "(Ljava/lang/String;)V"⟩ yJ5_inflateIfNeededFor_a7421 wsJ5_inflateIfNeededFor_a7421) := goodIn_app (goodIn_of _ (by decide +kernel)) ggJ5_putStringAt_47b60_J5_inflateIfNeededFor_a7421
set_option maxRecDepth 20000 in
theorem ggJ5_putStringAt_47b60_J0_getBytes_840e7 : GoodIn wsJ5_putStringAt_47b60 wsJ0_getBytes_840e7 := goodIn_r _ [67, 68, 69, 70, 71, 72, 73, 11, 12, 13, 14, 15, 16, 74, 38, 39, 40, 41, 42, 30, 43, 44, 45, 46, 47, 48, 49, 50, 51, 52, 53, 54, 55, 56, 57, 58, 59, 60, 61, 62, 63, 79, 80, 81, 82] rfl (by decide +kernel)
set_option maxRecDepth 20000 in
theorem gJ5_putStringAt_47b60_J0_getBytes_840e7 : GoodIn wsJ5_putStringAt_47b60 (wsV RJ5 399 RJ0 yJ0_getBytes_840e7 wsJ0_getBytes_840e7) := goodIn_app (goodIn_of _ (by decide +kernel)) ggJ5_putStringAt_47b60_J0_getBytes_840e7
theorem dJ5_putStringAt_47b60_0 : decode cJ5_putStringAt_47b60 0 = .ok (.aload_n 0, 1) := by decide +kernel
theorem dJ5_putStringAt_47b60_1 : decode cJ5_putStringAt_47b60 1 = .ok (.aload_n 2, 1) := by decide +kernel
theorem dJ5_putStringAt_47b60_2 : decode cJ5_putStringAt_47b60 2 = .ok (.invokevirtual 397, 3) := by decide +kernel
theorem dJ5_putStringAt_47b60_5 : decode cJ5_putStringAt_47b60 5 = .ok (.aload_n 2, 1) := by decide +kernel
theorem dJ5_putStringAt_47b60_6 : decode cJ5_putStringAt_47b60 6 = .ok (.aload_n 0, 1) := by decide +kernel
theorem dJ5_putStringAt_47b60_7 : decode cJ5_putStringAt_47b60 7 = .ok (.getfield 15, 3) := by decide +kernel
theorem dJ5_putStringAt_47b60_10 : decode cJ5_putStringAt_47b60 10 = .ok (.iload_n 1, 1) := by decide +kernel
theorem dJ5_putStringAt_47b60_11 : decode cJ5_putStringAt_47b60 11 = .ok (.aload_n 0, 1) := by decide +kernel
theorem dJ5_putStringAt_47b60_12 : decode cJ5_putStringAt_47b60 12 = .ok (.getfield 22, 3) := by decide +kernel
theorem dJ5_putStringAt_47b60_15 : decode cJ5_putStringAt_47b60 15 = .ok (.invokevirtual 399, 3) := by decide +kernel
theorem dJ5_putStringAt_47b60_18 : decode cJ5_putStringAt_47b60 18 = .ok (.return_, 1) := by decide +kernel
set_option maxRecDepth 20000 in
theorem ggJ5_appendChars_0ad70_J5_isLatin1_aae02 : GoodIn wsJ5_appendChars_0ad70 wsJ5_isLatin1_aae02 := goodIn_r _ [8, 9, 10, 71, 72, 73, 74] rfl (by decide +kernel)
set_option maxRecDepth 20000 in
theorem gJ5_appendChars_0ad70_J5_isLatin1_aae02_u83J4 : GoodIn wsJ5_appendChars_0ad70 (va_wsU RJ5 83 RJ4 "java/lang/AbstractStringBuilder" ⟨"java/lang/AbstractStringBuilder", "isLatin1", "()Z"⟩ yJ5_isLatin1_aae02 wsJ5_isLatin1_aae02) := goodIn_app (goodIn_of _ (by decide +kernel)) ggJ5_appendChars_0ad70_J5_isLatin1_aae02
set_option maxRecDepth 20000 in
theorem ggJ5_appendChars_0ad70_J1_canEncode_fc78d : GoodIn wsJ5_appendChars_0ad70 wsJ1_canEncode_fc78d := goodIn_r _ [14] rfl (by decide +kernel)
set_option maxRecDepth 20000 in
theorem gJ5_appendChars_0ad70_J1_canEncode_fc78d : GoodIn wsJ5_appendChars_0ad70 (va_wsS RJ5 191 yJ1_canEncode_fc78d wsJ1_canEncode_fc78d) := goodIn_app (goodIn_of _ (by decide +kernel)) ggJ5_appendChars_0ad70_J1_canEncode_fc78d
set_option maxRecDepth 20000 in
theorem ggJ5_appendChars_0ad70_J5_inflate_da8c8 : GoodIn wsJ5_appendChars_0ad70 wsJ5_inflate_da8c8 := goodIn_r _ [19, 2, 1, 10, 3, 4, 5, 6, 7, 8, 9, 20, 21, 22, 23, 24, 25, 26, 27, 28, 29, 30, 13, 31, 32, 33, 34, 35, 36, 37, 38, 39, 40, 41, 42, 43, 44, 45, 46, 47, 48, 49, 50, 51, 52, 53, 54, 55, 71, 72, 73, 74] rfl (by decide +kernel)
set_option maxRecDepth 20000 in
theorem gJ5_appendChars_0ad70_J5_inflate_da8c8_u195J4 : GoodIn wsJ5_appendChars_0ad70 (va_wsU RJ5 195 RJ4 "java/lang/AbstractStringBuilder" ⟨"java/lang/AbstractStringBuilder", "inflate", "()V"⟩ yJ5_inflate_da8c8 wsJ5_inflate_da8c8) := goodIn_app (goodIn_of _ (by decide +kernel)) ggJ5_appendChars_0ad70_J5_inflate_da8c8
set_option maxRecDepth 20000 in
theorem ggJ5_appendChars_0ad70_J2_putCharsSB_03870 : GoodIn wsJ5_appendChars_0ad70 wsJ2_putCharsSB_03870 := goodIn_r _ [58, 59, 60, 22, 61, 38, 39, 40, 62, 63, 43, 64, 45, 65, 66, 48, 67, 68, 69, 70, 50, 51, 52, 53, 54, 55] rfl (by decide +kernel)
set_option maxRecDepth 20000 in
theorem gJ5_appendChars_0ad70_J2_putCharsSB_03870 : GoodIn wsJ5_appendChars_0ad70 (va_wsS RJ5 386 yJ2_putCharsSB_03870 wsJ2_putCharsSB_03870) := goodIn_app (goodIn_of _ (by decide +kernel)) ggJ5_appendChars_0ad70_J2_putCharsSB_03870
theorem dJ5_appendChars_0ad70_0 : decode cJ5_appendChars_0ad70 0 = .ok (.aload_n 0, 1) := by decide +kernel
theorem dJ5_appendChars_0ad70_1 : decode cJ5_appendChars_0ad70 1 = .ok (.getfield 79, 3) := by decide +kernel
theorem dJ5_appendChars_0ad70_4 : decode cJ5_appendChars_0ad70 4 = .ok (.istore 4, 2) := by decide +kernel
theorem dJ5_appendChars_0ad70_6 : decode cJ5_appendChars_0ad70 6 = .ok (.aload_n 0, 1) := by decide +kernel
theorem dJ5_appendChars_0ad70_7 : decode cJ5_appendChars_0ad70 7 = .ok (.invokevirtual 83, 3) := by decide +kernel
theorem dJ5_appendChars_0ad70_10 : decode cJ5_appendChars_0ad70 10 = .ok (.ifCond .eq 97, 3) := by decide +kernel
theorem dJ5_appendChars_0ad70_13 : decode cJ5_appendChars_0ad70 13 = .ok (.aload_n 0, 1) := by decide +kernel
theorem dJ5_appendChars_0ad70_14 : decode cJ5_appendChars_0ad70 14 = .ok (.getfield 15, 3) := by decide +kernel
theorem dJ5_appendChars_0ad70_17 : decode cJ5_appendChars_0ad70 17 = .ok (.astore 5, 2) := by decide +kernel
theorem dJ5_appendChars_0ad70_19 : decode cJ5_appendChars_0ad70 19 = .ok (.iload_n 2, 1) := by decide +kernel
theorem dJ5_appendChars_0ad70_20 : decode cJ5_appendChars_0ad70 20 = .ok (.istore 6, 2) := by decide +kernel
theorem dJ5_appendChars_0ad70_22 : decode cJ5_appendChars_0ad70 22 = .ok (.iload 4, 2) := by decide +kernel
theorem dJ5_appendChars_0ad70_24 : decode cJ5_appendChars_0ad70 24 = .ok (.istore 7, 2) := by decide +kernel
theorem dJ5_appendChars_0ad70_26 : decode cJ5_appendChars_0ad70 26 = .ok (.iload 6, 2) := by decide +kernel
theorem dJ5_appendChars_0ad70_28 : decode cJ5_appendChars_0ad70 28 = .ok (.iload_n 3, 1) := by decide +kernel
theorem dJ5_appendChars_0ad70_29 : decode cJ5_appendChars_0ad70 29 = .ok (.if_icmp .ge 75, 3) := by decide +kernel
theorem dJ5_appendChars_0ad70_32 : decode cJ5_appendChars_0ad70 32 = .ok (.aload_n 1, 1) := by decide +kernel
theorem dJ5_appendChars_0ad70_33 : decode cJ5_appendChars_0ad70 33 = .ok (.iload 6, 2) := by decide +kernel
theorem dJ5_appendChars_0ad70_35 : decode cJ5_appendChars_0ad70 35 = .ok (.caload, 1) := by decide +kernel
theorem dJ5_appendChars_0ad70_36 : decode cJ5_appendChars_0ad70 36 = .ok (.istore 8, 2) := by decide +kernel
theorem dJ5_appendChars_0ad70_38 : decode cJ5_appendChars_0ad70 38 = .ok (.iload 8, 2) := by decide +kernel
theorem dJ5_appendChars_0ad70_40 : decode cJ5_appendChars_0ad70 40 = .ok (.invokestatic 191, 3) := by decide +kernel
theorem dJ5_appendChars_0ad70_43 : decode cJ5_appendChars_0ad70 43 = .ok (.ifCond .eq 17, 3) := by decide +kernel
theorem dJ5_appendChars_0ad70_46 : decode cJ5_appendChars_0ad70 46 = .ok (.aload 5, 2) := by decide +kernel
theorem dJ5_appendChars_0ad70_48 : decode cJ5_appendChars_0ad70 48 = .ok (.iload 7, 2) := by decide +kernel
theorem dJ5_appendChars_0ad70_50 : decode cJ5_appendChars_0ad70 50 = .ok (.iinc 7 1, 3) := by decide +kernel
theorem dJ5_appendChars_0ad70_53 : decode cJ5_appendChars_0ad70 53 = .ok (.iload 8, 2) := by decide +kernel
theorem dJ5_appendChars_0ad70_55 : decode cJ5_appendChars_0ad70 55 = .ok (.i2b, 1) := by decide +kernel
theorem dJ5_appendChars_0ad70_56 : decode cJ5_appendChars_0ad70 56 = .ok (.bastore, 1) := by decide +kernel
theorem dJ5_appendChars_0ad70_57 : decode cJ5_appendChars_0ad70 57 = .ok (.goto 41, 3) := by decide +kernel
theorem dJ5_appendChars_0ad70_60 : decode cJ5_appendChars_0ad70 60 = .ok (.aload_n 0, 1) := by decide +kernel
theorem dJ5_appendChars_0ad70_61 : decode cJ5_appendChars_0ad70 61 = .ok (.iload 7, 2) := by decide +kernel
theorem dJ5_appendChars_0ad70_63 : decode cJ5_appendChars_0ad70 63 = .ok (.dup, 1) := by decide +kernel
theorem dJ5_appendChars_0ad70_64 : decode cJ5_appendChars_0ad70 64 = .ok (.istore 4, 2) := by decide +kernel
theorem dJ5_appendChars_0ad70_66 : decode cJ5_appendChars_0ad70 66 = .ok (.putfield 79, 3) := by decide +kernel
theorem dJ5_appendChars_0ad70_69 : decode cJ5_appendChars_0ad70 69 = .ok (.aload_n 0, 1) := by decide +kernel
theorem dJ5_appendChars_0ad70_70 : decode cJ5_appendChars_0ad70 70 = .ok (.invokevirtual 195, 3) := by decide +kernel
theorem dJ5_appendChars_0ad70_73 : decode cJ5_appendChars_0ad70 73 = .ok (.aload_n 0, 1) := by decide +kernel
theorem dJ5_appendChars_0ad70_74 : decode cJ5_appendChars_0ad70 74 = .ok (.getfield 15, 3) := by decide +kernel
theorem dJ5_appendChars_0ad70_77 : decode cJ5_appendChars_0ad70 77 = .ok (.iload 7, 2) := by decide +kernel
theorem dJ5_appendChars_0ad70_79 : decode cJ5_appendChars_0ad70 79 = .ok (.aload_n 1, 1) := by decide +kernel
theorem dJ5_appendChars_0ad70_80 : decode cJ5_appendChars_0ad70 80 = .ok (.iload 6, 2) := by decide +kernel
theorem dJ5_appendChars_0ad70_82 : decode cJ5_appendChars_0ad70 82 = .ok (.iload_n 3, 1) := by decide +kernel
theorem dJ5_appendChars_0ad70_83 : decode cJ5_appendChars_0ad70 83 = .ok (.invokestatic 386, 3) := by decide +kernel
theorem dJ5_appendChars_0ad70_86 : decode cJ5_appendChars_0ad70 86 = .ok (.aload_n 0, 1) := by decide +kernel
theorem dJ5_appendChars_0ad70_87 : decode cJ5_appendChars_0ad70 87 = .ok (.iload 4, 2) := by decide +kernel
theorem dJ5_appendChars_0ad70_89 : decode cJ5_appendChars_0ad70 89 = .ok (.iload_n 3, 1) := by decide +kernel
theorem dJ5_appendChars_0ad70_90 : decode cJ5_appendChars_0ad70 90 = .ok (.iadd, 1) := by decide +kernel
theorem dJ5_appendChars_0ad70_91 : decode cJ5_appendChars_0ad70 91 = .ok (.iload 6, 2) := by decide +kernel
theorem dJ5_appendChars_0ad70_93 : decode cJ5_appendChars_0ad70 93 = .ok (.isub, 1) := by decide +kernel
theorem dJ5_appendChars_0ad70_94 : decode cJ5_appendChars_0ad70 94 = .ok (.putfield 79, 3) := by decide +kernel
theorem dJ5_appendChars_0ad70_97 : decode cJ5_appendChars_0ad70 97 = .ok (.return_, 1) := by decide +kernel
theorem dJ5_appendChars_0ad70_98 : decode cJ5_appendChars_0ad70 98 = .ok (.iinc 6 1, 3) := by decide +kernel
theorem dJ5_appendChars_0ad70_101 : decode cJ5_appendChars_0ad70 101 = .ok (.goto (-75), 3) := by decide +kernel
theorem dJ5_appendChars_0ad70_104 : decode cJ5_appendChars_0ad70 104 = .ok (.goto 15, 3) := by decide +kernel
theorem dJ5_appendChars_0ad70_107 : decode cJ5_appendChars_0ad70 107 = .ok (.aload_n 0, 1) := by decide +kernel
theorem dJ5_appendChars_0ad70_108 : decode cJ5_appendChars_0ad70 108 = .ok (.getfield 15, 3) := by decide +kernel
theorem dJ5_appendChars_0ad70_111 : decode cJ5_appendChars_0ad70 111 = .ok (.iload 4, 2) := by decide +kernel
theorem dJ5_appendChars_0ad70_113 : decode cJ5_appendChars_0ad70 113 = .ok (.aload_n 1, 1) := by decide +kernel
theorem dJ5_appendChars_0ad70_114 : decode cJ5_appendChars_0ad70 114 = .ok (.iload_n 2, 1) := by decide +kernel
theorem dJ5_appendChars_0ad70_115 : decode cJ5_appendChars_0ad70 115 = .ok (.iload_n 3, 1) := by decide +kernel
theorem dJ5_appendChars_0ad70_116 : decode cJ5_appendChars_0ad70 116 = .ok (.invokestatic 386, 3) := by decide +kernel
theorem dJ5_appendChars_0ad70_119 : decode cJ5_appendChars_0ad70 119 = .ok (.aload_n 0, 1) := by decide +kernel
theorem dJ5_appendChars_0ad70_120 : decode cJ5_appendChars_0ad70 120 = .ok (.iload 4, 2) := by decide +kernel
theorem dJ5_appendChars_0ad70_122 : decode cJ5_appendChars_0ad70 122 = .ok (.iload_n 3, 1) := by decide +kernel
theorem dJ5_appendChars_0ad70_123 : decode cJ5_appendChars_0ad70 123 = .ok (.iadd, 1) := by decide +kernel
theorem dJ5_appendChars_0ad70_124 : decode cJ5_appendChars_0ad70 124 = .ok (.iload_n 2, 1) := by decide +kernel
theorem dJ5_appendChars_0ad70_125 : decode cJ5_appendChars_0ad70 125 = .ok (.isub, 1) := by decide +kernel
theorem dJ5_appendChars_0ad70_126 : decode cJ5_appendChars_0ad70 126 = .ok (.putfield 79, 3) := by decide +kernel
theorem dJ5_appendChars_0ad70_129 : decode cJ5_appendChars_0ad70 129 = .ok (.return_, 1) := by decide +kernel
set_option maxRecDepth 20000 in
theorem ggJ5_appendChars_3135b_J5_isLatin1_aae02 : GoodIn wsJ5_appendChars_3135b wsJ5_isLatin1_aae02 := goodIn_r _ [12, 13, 14, 124, 125, 126, 127] rfl (by decide +kernel)
set_option maxRecDepth 20000 in
theorem gJ5_appendChars_3135b_J5_isLatin1_aae02_u83J4 : GoodIn wsJ5_appendChars_3135b (va_wsU RJ5 83 RJ4 "java/lang/AbstractStringBuilder" ⟨"java/lang/AbstractStringBuilder", "isLatin1", "()Z"⟩ yJ5_isLatin1_aae02 wsJ5_isLatin1_aae02) := goodIn_app (goodIn_of _ (by decide +kernel)) ggJ5_appendChars_3135b_J5_isLatin1_aae02
set_option maxRecDepth 20000 in
theorem ggJ5_appendChars_3135b_J0_isLatin1_aae02 : GoodIn wsJ5_appendChars_3135b wsJ0_isLatin1_aae02 := goodIn_r _ [19, 20, 21, 128, 129, 130, 131] rfl (by decide +kernel)
set_option maxRecDepth 20000 in
theorem gJ5_appendChars_3135b_J0_isLatin1_aae02 : GoodIn wsJ5_appendChars_3135b (wsV RJ5 400 RJ0 yJ0_isLatin1_aae02 wsJ0_isLatin1_aae02) := goodIn_app (goodIn_of _ (by decide +kernel)) ggJ5_appendChars_3135b_J0_isLatin1_aae02
set_option maxRecDepth 20000 in
theorem ggJ5_appendChars_3135b_J0_value_6d5f1 : GoodIn wsJ5_appendChars_3135b wsJ0_value_6d5f1 := goodIn_r _ [25, 26, 128, 129, 130, 131] rfl (by decide +kernel)
set_option maxRecDepth 20000 in
theorem gJ5_appendChars_3135b_J0_value_6d5f1 : GoodIn wsJ5_appendChars_3135b (wsV RJ5 401 RJ0 yJ0_value_6d5f1 wsJ0_value_6d5f1) := goodIn_app (goodIn_of _ (by decide +kernel)) ggJ5_appendChars_3135b_J0_value_6d5f1
set_option maxRecDepth 20000 in
theorem ggJ5_appendChars_3135b_J0_charAt_5068e : GoodIn wsJ5_appendChars_3135b wsJ0_charAt_5068e := goodIn_r _ [30, 26, 31, 16, 17, 18, 19, 20, 21, 32, 33, 34, 35, 36, 37, 38, 39, 40, 41, 42, 43, 44, 45, 46, 47, 48, 49, 50, 51, 52, 53, 54, 55, 56, 57, 58, 59, 60, 128, 129, 130, 131] rfl (by decide +kernel)
set_option maxRecDepth 20000 in
theorem gJ5_appendChars_3135b_J0_charAt_5068e : GoodIn wsJ5_appendChars_3135b (wsV RJ5 404 RJ0 yJ0_charAt_5068e wsJ0_charAt_5068e) := goodIn_app (goodIn_of _ (by decide +kernel)) ggJ5_appendChars_3135b_J0_charAt_5068e
set_option maxRecDepth 20000 in
theorem ggJ5_appendChars_3135b_J1_canEncode_fc78d : GoodIn wsJ5_appendChars_3135b wsJ1_canEncode_fc78d := goodIn_r _ [63] rfl (by decide +kernel)
set_option maxRecDepth 20000 in
theorem gJ5_appendChars_3135b_J1_canEncode_fc78d : GoodIn wsJ5_appendChars_3135b (va_wsS RJ5 191 yJ1_canEncode_fc78d wsJ1_canEncode_fc78d) := goodIn_app (goodIn_of _ (by decide +kernel)) ggJ5_appendChars_3135b_J1_canEncode_fc78d
set_option maxRecDepth 20000 in
theorem ggJ5_appendChars_3135b_J5_inflate_da8c8 : GoodIn wsJ5_appendChars_3135b wsJ5_inflate_da8c8 := goodIn_r _ [68, 1, 2, 14, 7, 8, 9, 10, 11, 12, 13, 69, 70, 46, 71, 72, 73, 74, 75, 76, 77, 78, 34, 79, 80, 81, 82, 83, 84, 85, 51, 52, 53, 86, 87, 18, 88, 39, 89, 90, 42, 91, 92, 93, 94, 58, 59, 60, 124, 125, 126, 127] rfl (by decide +kernel)
set_option maxRecDepth 20000 in
theorem gJ5_appendChars_3135b_J5_inflate_da8c8_u195J4 : GoodIn wsJ5_appendChars_3135b (va_wsU RJ5 195 RJ4 "java/lang/AbstractStringBuilder" ⟨"java/lang/AbstractStringBuilder", "inflate", "()V"⟩ yJ5_inflate_da8c8 wsJ5_inflate_da8c8) := goodIn_app (goodIn_of _ (by decide +kernel)) ggJ5_appendChars_3135b_J5_inflate_da8c8
set_option maxRecDepth 20000 in
theorem ggJ5_appendChars_3135b_J2_putCharsSB_8fd6a : GoodIn wsJ5_appendChars_3135b wsJ2_putCharsSB_8fd6a := goodIn_r _ [97, 98, 99, 46, 100, 51, 52, 53, 101, 102, 18, 103, 39, 104, 105, 42, 106, 107, 108, 28, 30, 26, 31, 16, 17, 19, 20, 21, 32, 33, 34, 35, 36, 37, 38, 40, 41, 43, 44, 45, 47, 48, 49, 50, 54, 55, 56, 57, 58, 59, 60, 109, 110, 111, 112, 113, 114, 115, 116, 11, 117, 14, 1, 2, 118, 119, 120, 121, 122, 123, 92, 93, 94, 128, 129, 130, 131, 124, 125, 126, 127] rfl (by decide +kernel)
set_option maxRecDepth 20000 in
theorem gJ5_appendChars_3135b_J2_putCharsSB_8fd6a : GoodIn wsJ5_appendChars_3135b (va_wsS RJ5 394 yJ2_putCharsSB_8fd6a wsJ2_putCharsSB_8fd6a) := goodIn_app (goodIn_of _ (by decide +kernel)) ggJ5_appendChars_3135b_J2_putCharsSB_8fd6a
theorem dJ5_appendChars_3135b_0 : decode cJ5_appendChars_3135b 0 = .ok (.aload_n 0, 1) := by decide +kernel
theorem dJ5_appendChars_3135b_1 : decode cJ5_appendChars_3135b 1 = .ok (.invokevirtual 83, 3) := by decide +kernel
theorem dJ5_appendChars_3135b_4 : decode cJ5_appendChars_3135b 4 = .ok (.ifCond .eq 141, 3) := by decide +kernel
theorem dJ5_appendChars_3135b_7 : decode cJ5_appendChars_3135b 7 = .ok (.aload_n 1, 1) := by decide +kernel
theorem dJ5_appendChars_3135b_8 : decode cJ5_appendChars_3135b 8 = .ok (.invokevirtual 400, 3) := by decide +kernel
theorem dJ5_appendChars_3135b_11 : decode cJ5_appendChars_3135b 11 = .ok (.ifCond .eq 25, 3) := by decide +kernel
theorem dJ5_appendChars_3135b_14 : decode cJ5_appendChars_3135b 14 = .ok (.aload_n 1, 1) := by decide +kernel
theorem dJ5_appendChars_3135b_15 : decode cJ5_appendChars_3135b 15 = .ok (.invokevirtual 401, 3) := by decide +kernel
theorem dJ5_appendChars_3135b_18 : decode cJ5_appendChars_3135b 18 = .ok (.iload_n 2, 1) := by decide +kernel
theorem dJ5_appendChars_3135b_19 : decode cJ5_appendChars_3135b 19 = .ok (.aload_n 0, 1) := by decide +kernel
theorem dJ5_appendChars_3135b_20 : decode cJ5_appendChars_3135b 20 = .ok (.getfield 15, 3) := by decide +kernel
theorem dJ5_appendChars_3135b_23 : decode cJ5_appendChars_3135b 23 = .ok (.aload_n 0, 1) := by decide +kernel
theorem dJ5_appendChars_3135b_24 : decode cJ5_appendChars_3135b 24 = .ok (.getfield 79, 3) := by decide +kernel
theorem dJ5_appendChars_3135b_27 : decode cJ5_appendChars_3135b 27 = .ok (.iload_n 3, 1) := by decide +kernel
theorem dJ5_appendChars_3135b_28 : decode cJ5_appendChars_3135b 28 = .ok (.iload_n 2, 1) := by decide +kernel
theorem dJ5_appendChars_3135b_29 : decode cJ5_appendChars_3135b 29 = .ok (.isub, 1) := by decide +kernel
theorem dJ5_appendChars_3135b_30 : decode cJ5_appendChars_3135b 30 = .ok (.invokestatic 309, 3) := by decide +kernel
theorem dJ5_appendChars_3135b_33 : decode cJ5_appendChars_3135b 33 = .ok (.goto 161, 3) := by decide +kernel
theorem dJ5_appendChars_3135b_36 : decode cJ5_appendChars_3135b 36 = .ok (.aload_n 0, 1) := by decide +kernel
theorem dJ5_appendChars_3135b_37 : decode cJ5_appendChars_3135b 37 = .ok (.getfield 15, 3) := by decide +kernel
theorem dJ5_appendChars_3135b_40 : decode cJ5_appendChars_3135b 40 = .ok (.astore 4, 2) := by decide +kernel
theorem dJ5_appendChars_3135b_42 : decode cJ5_appendChars_3135b 42 = .ok (.iload_n 2, 1) := by decide +kernel
theorem dJ5_appendChars_3135b_43 : decode cJ5_appendChars_3135b 43 = .ok (.istore 5, 2) := by decide +kernel
theorem dJ5_appendChars_3135b_45 : decode cJ5_appendChars_3135b 45 = .ok (.aload_n 0, 1) := by decide +kernel
theorem dJ5_appendChars_3135b_46 : decode cJ5_appendChars_3135b 46 = .ok (.getfield 79, 3) := by decide +kernel
theorem dJ5_appendChars_3135b_49 : decode cJ5_appendChars_3135b 49 = .ok (.istore 6, 2) := by decide +kernel
theorem dJ5_appendChars_3135b_51 : decode cJ5_appendChars_3135b 51 = .ok (.iload 5, 2) := by decide +kernel
theorem dJ5_appendChars_3135b_53 : decode cJ5_appendChars_3135b 53 = .ok (.iload_n 3, 1) := by decide +kernel
theorem dJ5_appendChars_3135b_54 : decode cJ5_appendChars_3135b 54 = .ok (.if_icmp .ge 88, 3) := by decide +kernel
theorem dJ5_appendChars_3135b_57 : decode cJ5_appendChars_3135b 57 = .ok (.aload_n 1, 1) := by decide +kernel
theorem dJ5_appendChars_3135b_58 : decode cJ5_appendChars_3135b 58 = .ok (.iload 5, 2) := by decide +kernel
theorem dJ5_appendChars_3135b_60 : decode cJ5_appendChars_3135b 60 = .ok (.invokevirtual 404, 3) := by decide +kernel
theorem dJ5_appendChars_3135b_63 : decode cJ5_appendChars_3135b 63 = .ok (.istore 7, 2) := by decide +kernel
theorem dJ5_appendChars_3135b_65 : decode cJ5_appendChars_3135b 65 = .ok (.iload 7, 2) := by decide +kernel
theorem dJ5_appendChars_3135b_67 : decode cJ5_appendChars_3135b 67 = .ok (.invokestatic 191, 3) := by decide +kernel
theorem dJ5_appendChars_3135b_70 : decode cJ5_appendChars_3135b 70 = .ok (.ifCond .eq 17, 3) := by decide +kernel
theorem dJ5_appendChars_3135b_73 : decode cJ5_appendChars_3135b 73 = .ok (.aload 4, 2) := by decide +kernel
theorem dJ5_appendChars_3135b_75 : decode cJ5_appendChars_3135b 75 = .ok (.iload 6, 2) := by decide +kernel
theorem dJ5_appendChars_3135b_77 : decode cJ5_appendChars_3135b 77 = .ok (.iinc 6 1, 3) := by decide +kernel
theorem dJ5_appendChars_3135b_80 : decode cJ5_appendChars_3135b 80 = .ok (.iload 7, 2) := by decide +kernel
theorem dJ5_appendChars_3135b_82 : decode cJ5_appendChars_3135b 82 = .ok (.i2b, 1) := by decide +kernel
theorem dJ5_appendChars_3135b_83 : decode cJ5_appendChars_3135b 83 = .ok (.bastore, 1) := by decide +kernel
theorem dJ5_appendChars_3135b_84 : decode cJ5_appendChars_3135b 84 = .ok (.goto 52, 3) := by decide +kernel
theorem dJ5_appendChars_3135b_87 : decode cJ5_appendChars_3135b 87 = .ok (.aload_n 0, 1) := by decide +kernel
theorem dJ5_appendChars_3135b_88 : decode cJ5_appendChars_3135b 88 = .ok (.iload 6, 2) := by decide +kernel
theorem dJ5_appendChars_3135b_90 : decode cJ5_appendChars_3135b 90 = .ok (.putfield 79, 3) := by decide +kernel
theorem dJ5_appendChars_3135b_93 : decode cJ5_appendChars_3135b 93 = .ok (.aload_n 0, 1) := by decide +kernel
theorem dJ5_appendChars_3135b_94 : decode cJ5_appendChars_3135b 94 = .ok (.invokevirtual 195, 3) := by decide +kernel
theorem dJ5_appendChars_3135b_97 : decode cJ5_appendChars_3135b 97 = .ok (.aload_n 1, 1) := by decide +kernel
theorem dJ5_appendChars_3135b_98 : decode cJ5_appendChars_3135b 98 = .ok (.invokevirtual 401, 3) := by decide +kernel
theorem dJ5_appendChars_3135b_101 : decode cJ5_appendChars_3135b 101 = .ok (.iload 5, 2) := by decide +kernel
theorem dJ5_appendChars_3135b_103 : decode cJ5_appendChars_3135b 103 = .ok (.iconst 1, 1) := by decide +kernel
theorem dJ5_appendChars_3135b_104 : decode cJ5_appendChars_3135b 104 = .ok (.ishl, 1) := by decide +kernel
theorem dJ5_appendChars_3135b_105 : decode cJ5_appendChars_3135b 105 = .ok (.aload_n 0, 1) := by decide +kernel
theorem dJ5_appendChars_3135b_106 : decode cJ5_appendChars_3135b 106 = .ok (.getfield 15, 3) := by decide +kernel
theorem dJ5_appendChars_3135b_109 : decode cJ5_appendChars_3135b 109 = .ok (.iload 6, 2) := by decide +kernel
theorem dJ5_appendChars_3135b_111 : decode cJ5_appendChars_3135b 111 = .ok (.iconst 1, 1) := by decide +kernel
theorem dJ5_appendChars_3135b_112 : decode cJ5_appendChars_3135b 112 = .ok (.ishl, 1) := by decide +kernel
theorem dJ5_appendChars_3135b_113 : decode cJ5_appendChars_3135b 113 = .ok (.iload_n 3, 1) := by decide +kernel
theorem dJ5_appendChars_3135b_114 : decode cJ5_appendChars_3135b 114 = .ok (.iload 5, 2) := by decide +kernel
theorem dJ5_appendChars_3135b_116 : decode cJ5_appendChars_3135b 116 = .ok (.isub, 1) := by decide +kernel
theorem dJ5_appendChars_3135b_117 : decode cJ5_appendChars_3135b 117 = .ok (.iconst 1, 1) := by decide +kernel
theorem dJ5_appendChars_3135b_118 : decode cJ5_appendChars_3135b 118 = .ok (.ishl, 1) := by decide +kernel
theorem dJ5_appendChars_3135b_119 : decode cJ5_appendChars_3135b 119 = .ok (.invokestatic 309, 3) := by decide +kernel
theorem dJ5_appendChars_3135b_122 : decode cJ5_appendChars_3135b 122 = .ok (.aload_n 0, 1) := by decide +kernel
theorem dJ5_appendChars_3135b_123 : decode cJ5_appendChars_3135b 123 = .ok (.dup, 1) := by decide +kernel
theorem dJ5_appendChars_3135b_124 : decode cJ5_appendChars_3135b 124 = .ok (.getfield 79, 3) := by decide +kernel
theorem dJ5_appendChars_3135b_127 : decode cJ5_appendChars_3135b 127 = .ok (.iload_n 3, 1) := by decide +kernel
theorem dJ5_appendChars_3135b_128 : decode cJ5_appendChars_3135b 128 = .ok (.iload 5, 2) := by decide +kernel
theorem dJ5_appendChars_3135b_130 : decode cJ5_appendChars_3135b 130 = .ok (.isub, 1) := by decide +kernel
theorem dJ5_appendChars_3135b_131 : decode cJ5_appendChars_3135b 131 = .ok (.iadd, 1) := by decide +kernel
theorem dJ5_appendChars_3135b_132 : decode cJ5_appendChars_3135b 132 = .ok (.putfield 79, 3) := by decide +kernel
theorem dJ5_appendChars_3135b_135 : decode cJ5_appendChars_3135b 135 = .ok (.return_, 1) := by decide +kernel
theorem dJ5_appendChars_3135b_136 : decode cJ5_appendChars_3135b 136 = .ok (.iinc 5 1, 3) := by decide +kernel
theorem dJ5_appendChars_3135b_139 : decode cJ5_appendChars_3135b 139 = .ok (.goto (-88), 3) := by decide +kernel
theorem dJ5_appendChars_3135b_142 : decode cJ5_appendChars_3135b 142 = .ok (.goto 52, 3) := by decide +kernel
theorem dJ5_appendChars_3135b_145 : decode cJ5_appendChars_3135b 145 = .ok (.aload_n 1, 1) := by decide +kernel
theorem dJ5_appendChars_3135b_146 : decode cJ5_appendChars_3135b 146 = .ok (.invokevirtual 400, 3) := by decide +kernel
theorem dJ5_appendChars_3135b_149 : decode cJ5_appendChars_3135b 149 = .ok (.ifCond .eq 20, 3) := by decide +kernel
theorem dJ5_appendChars_3135b_152 : decode cJ5_appendChars_3135b 152 = .ok (.aload_n 0, 1) := by decide +kernel
theorem dJ5_appendChars_3135b_153 : decode cJ5_appendChars_3135b 153 = .ok (.getfield 15, 3) := by decide +kernel
theorem dJ5_appendChars_3135b_156 : decode cJ5_appendChars_3135b 156 = .ok (.aload_n 0, 1) := by decide +kernel
theorem dJ5_appendChars_3135b_157 : decode cJ5_appendChars_3135b 157 = .ok (.getfield 79, 3) := by decide +kernel
theorem dJ5_appendChars_3135b_160 : decode cJ5_appendChars_3135b 160 = .ok (.aload_n 1, 1) := by decide +kernel
theorem dJ5_appendChars_3135b_161 : decode cJ5_appendChars_3135b 161 = .ok (.iload_n 2, 1) := by decide +kernel
theorem dJ5_appendChars_3135b_162 : decode cJ5_appendChars_3135b 162 = .ok (.iload_n 3, 1) := by decide +kernel
theorem dJ5_appendChars_3135b_163 : decode cJ5_appendChars_3135b 163 = .ok (.invokestatic 394, 3) := by decide +kernel
theorem dJ5_appendChars_3135b_166 : decode cJ5_appendChars_3135b 166 = .ok (.goto 28, 3) := by decide +kernel
theorem dJ5_appendChars_3135b_169 : decode cJ5_appendChars_3135b 169 = .ok (.aload_n 1, 1) := by decide +kernel
theorem dJ5_appendChars_3135b_170 : decode cJ5_appendChars_3135b 170 = .ok (.invokevirtual 401, 3) := by decide +kernel
theorem dJ5_appendChars_3135b_173 : decode cJ5_appendChars_3135b 173 = .ok (.iload_n 2, 1) := by decide +kernel
theorem dJ5_appendChars_3135b_174 : decode cJ5_appendChars_3135b 174 = .ok (.iconst 1, 1) := by decide +kernel
theorem dJ5_appendChars_3135b_175 : decode cJ5_appendChars_3135b 175 = .ok (.ishl, 1) := by decide +kernel
theorem dJ5_appendChars_3135b_176 : decode cJ5_appendChars_3135b 176 = .ok (.aload_n 0, 1) := by decide +kernel
theorem dJ5_appendChars_3135b_177 : decode cJ5_appendChars_3135b 177 = .ok (.getfield 15, 3) := by decide +kernel
theorem dJ5_appendChars_3135b_180 : decode cJ5_appendChars_3135b 180 = .ok (.aload_n 0, 1) := by decide +kernel
theorem dJ5_appendChars_3135b_181 : decode cJ5_appendChars_3135b 181 = .ok (.getfield 79, 3) := by decide +kernel
theorem dJ5_appendChars_3135b_184 : decode cJ5_appendChars_3135b 184 = .ok (.iconst 1, 1) := by decide +kernel
theorem dJ5_appendChars_3135b_185 : decode cJ5_appendChars_3135b 185 = .ok (.ishl, 1) := by decide +kernel
theorem dJ5_appendChars_3135b_186 : decode cJ5_appendChars_3135b 186 = .ok (.iload_n 3, 1) := by decide +kernel
theorem dJ5_appendChars_3135b_187 : decode cJ5_appendChars_3135b 187 = .ok (.iload_n 2, 1) := by decide +kernel
theorem dJ5_appendChars_3135b_188 : decode cJ5_appendChars_3135b 188 = .ok (.isub, 1) := by decide +kernel
theorem dJ5_appendChars_3135b_189 : decode cJ5_appendChars_3135b 189 = .ok (.iconst 1, 1) := by decide +kernel
theorem dJ5_appendChars_3135b_190 : decode cJ5_appendChars_3135b 190 = .ok (.ishl, 1) := by decide +kernel
theorem dJ5_appendChars_3135b_191 : decode cJ5_appendChars_3135b 191 = .ok (.invokestatic 309, 3) := by decide +kernel
theorem dJ5_appendChars_3135b_194 : decode cJ5_appendChars_3135b 194 = .ok (.aload_n 0, 1) := by decide +kernel
theorem dJ5_appendChars_3135b_195 : decode cJ5_appendChars_3135b 195 = .ok (.dup, 1) := by decide +kernel
theorem dJ5_appendChars_3135b_196 : decode cJ5_appendChars_3135b 196 = .ok (.getfield 79, 3) := by decide +kernel
theorem dJ5_appendChars_3135b_199 : decode cJ5_appendChars_3135b 199 = .ok (.iload_n 3, 1) := by decide +kernel
theorem dJ5_appendChars_3135b_200 : decode cJ5_appendChars_3135b 200 = .ok (.iload_n 2, 1) := by decide +kernel
theorem dJ5_appendChars_3135b_201 : decode cJ5_appendChars_3135b 201 = .ok (.isub, 1) := by decide +kernel
theorem dJ5_appendChars_3135b_202 : decode cJ5_appendChars_3135b 202 = .ok (.iadd, 1) := by decide +kernel
theorem dJ5_appendChars_3135b_203 : decode cJ5_appendChars_3135b 203 = .ok (.putfield 79, 3) := by decide +kernel
theorem dJ5_appendChars_3135b_206 : decode cJ5_appendChars_3135b 206 = .ok (.return_, 1) := by decide +kernel
set_option maxRecDepth 20000 in
theorem ggJ5_appendChars_a91ff_J5_isLatin1_aae02 : GoodIn wsJ5_appendChars_a91ff wsJ5_isLatin1_aae02 := goodIn_r _ [8, 9, 10, 117, 118, 119, 120] rfl (by decide +kernel)
set_option maxRecDepth 20000 in
theorem gJ5_appendChars_a91ff_J5_isLatin1_aae02_u83J4 : GoodIn wsJ5_appendChars_a91ff (va_wsU RJ5 83 RJ4 "java/lang/AbstractStringBuilder" ⟨"java/lang/AbstractStringBuilder", "isLatin1", "()Z"⟩ yJ5_isLatin1_aae02 wsJ5_isLatin1_aae02) := goodIn_app (goodIn_of _ (by decide +kernel)) ggJ5_appendChars_a91ff_J5_isLatin1_aae02
set_option maxRecDepth 20000 in
theorem ggJ5_appendChars_a91ff_J0_charAt_5068e : GoodIn wsJ5_appendChars_a91ff wsJ0_charAt_5068e := goodIn_r _ [15, 16, 17, 18, 19, 14, 20, 21, 22, 23, 24, 25, 26, 27, 28, 29, 30, 31, 32, 33, 34, 35, 36, 37, 38, 39, 40, 41, 42, 43, 44, 45, 46, 47, 48, 49, 50, 51, 121, 122, 123, 124] rfl (by decide +kernel)
set_option maxRecDepth 20000 in
theorem gJ5_appendChars_a91ff_J0_charAt_5068e_f390J0 : GoodIn wsJ5_appendChars_a91ff (va_wsF RJ5 390 RJ0 ⟨"java/lang/CharSequence", "charAt", "(I)C"⟩ yJ0_charAt_5068e wsJ0_charAt_5068e) := goodIn_app (goodIn_of _ (by decide +kernel)) ggJ5_appendChars_a91ff_J0_charAt_5068e
set_option maxRecDepth 20000 in
theorem ggJ5_appendChars_a91ff_J4_charAt_5068e : GoodIn wsJ5_appendChars_a91ff wsJ4_charAt_5068e := goodIn_r _ [55, 56, 57, 58, 59, 7, 60, 10, 1, 2, 61, 62, 63, 64, 65, 28, 14, 29, 30, 31, 32, 33, 34, 66, 47, 37, 48, 49, 50, 51, 42, 43, 44, 117, 118, 119, 120] rfl (by decide +kernel)
set_option maxRecDepth 20000 in
theorem gJ5_appendChars_a91ff_J4_charAt_5068e_f390J4 : GoodIn wsJ5_appendChars_a91ff (va_wsF RJ5 390 RJ4 ⟨"java/lang/CharSequence", "charAt", "(I)C"⟩ yJ4_charAt_5068e wsJ4_charAt_5068e) := goodIn_app (goodIn_of _ (by decide +kernel)) ggJ5_appendChars_a91ff_J4_charAt_5068e
set_option maxRecDepth 20000 in
theorem ggJ5_appendChars_a91ff_J1_canEncode_fc78d : GoodIn wsJ5_appendChars_a91ff wsJ1_canEncode_fc78d := goodIn_r _ [69] rfl (by decide +kernel)
set_option maxRecDepth 20000 in
theorem gJ5_appendChars_a91ff_J1_canEncode_fc78d : GoodIn wsJ5_appendChars_a91ff (va_wsS RJ5 191 yJ1_canEncode_fc78d wsJ1_canEncode_fc78d) := goodIn_app (goodIn_of _ (by decide +kernel)) ggJ5_appendChars_a91ff_J1_canEncode_fc78d
set_option maxRecDepth 20000 in
theorem ggJ5_appendChars_a91ff_J5_inflate_da8c8 : GoodIn wsJ5_appendChars_a91ff wsJ5_inflate_da8c8 := goodIn_r _ [74, 1, 2, 10, 3, 4, 5, 6, 7, 8, 9, 75, 76, 37, 77, 78, 79, 80, 81, 82, 83, 84, 25, 85, 86, 87, 88, 89, 90, 91, 42, 43, 44, 92, 93, 14, 94, 30, 95, 96, 33, 97, 98, 99, 100, 49, 50, 51, 117, 118, 119, 120] rfl (by decide +kernel)
set_option maxRecDepth 20000 in
theorem gJ5_appendChars_a91ff_J5_inflate_da8c8_u195J4 : GoodIn wsJ5_appendChars_a91ff (va_wsU RJ5 195 RJ4 "java/lang/AbstractStringBuilder" ⟨"java/lang/AbstractStringBuilder", "inflate", "()V"⟩ yJ5_inflate_da8c8 wsJ5_inflate_da8c8) := goodIn_app (goodIn_of _ (by decide +kernel)) ggJ5_appendChars_a91ff_J5_inflate_da8c8
set_option maxRecDepth 20000 in
theorem ggJ5_appendChars_a91ff_J2_putCharSB_b72d1 : GoodIn wsJ5_appendChars_a91ff wsJ2_putCharSB_b72d1 := goodIn_r _ [103, 39, 40, 37, 41, 42, 43, 44, 45, 28, 14, 29, 30, 31, 32, 33, 34, 98, 99, 100, 49, 50, 51] rfl (by decide +kernel)
set_option maxRecDepth 20000 in
theorem gJ5_appendChars_a91ff_J2_putCharSB_b72d1 : GoodIn wsJ5_appendChars_a91ff (va_wsS RJ5 197 yJ2_putCharSB_b72d1 wsJ2_putCharSB_b72d1) := goodIn_app (goodIn_of _ (by decide +kernel)) ggJ5_appendChars_a91ff_J2_putCharSB_b72d1
set_option maxRecDepth 20000 in
theorem ggJ5_appendChars_a91ff_J2_putCharsSB_8fd6a : GoodIn wsJ5_appendChars_a91ff wsJ2_putCharsSB_8fd6a := goodIn_r _ [106, 107, 108, 37, 109, 42, 43, 44, 110, 111, 14, 112, 30, 113, 114, 33, 115, 116, 12, 13, 15, 16, 17, 18, 19, 20, 21, 22, 23, 24, 25, 26, 27, 28, 29, 31, 32, 34, 35, 36, 38, 39, 40, 41, 45, 46, 47, 48, 49, 50, 51, 52, 53, 54, 55, 56, 57, 58, 59, 7, 60, 10, 1, 2, 61, 62, 63, 64, 65, 66, 98, 99, 100, 121, 122, 123, 124, 117, 118, 119, 120] rfl (by decide +kernel)
set_option maxRecDepth 20000 in
theorem gJ5_appendChars_a91ff_J2_putCharsSB_8fd6a : GoodIn wsJ5_appendChars_a91ff (va_wsS RJ5 394 yJ2_putCharsSB_8fd6a wsJ2_putCharsSB_8fd6a) := goodIn_app (goodIn_of _ (by decide +kernel)) ggJ5_appendChars_a91ff_J2_putCharsSB_8fd6a
theorem dJ5_appendChars_a91ff_0 : decode cJ5_appendChars_a91ff 0 = .ok (.aload_n 0, 1) := by decide +kernel
theorem dJ5_appendChars_a91ff_1 : decode cJ5_appendChars_a91ff 1 = .ok (.invokevirtual 83, 3) := by decide +kernel
theorem dJ5_appendChars_a91ff_4 : decode cJ5_appendChars_a91ff 4 = .ok (.ifCond .eq 125, 3) := by decide +kernel
theorem dJ5_appendChars_a91ff_7 : decode cJ5_appendChars_a91ff 7 = .ok (.aload_n 0, 1) := by decide +kernel
theorem dJ5_appendChars_a91ff_8 : decode cJ5_appendChars_a91ff 8 = .ok (.getfield 15, 3) := by decide +kernel
theorem dJ5_appendChars_a91ff_11 : decode cJ5_appendChars_a91ff 11 = .ok (.astore 4, 2) := by decide +kernel
theorem dJ5_appendChars_a91ff_13 : decode cJ5_appendChars_a91ff 13 = .ok (.iload_n 2, 1) := by decide +kernel
theorem dJ5_appendChars_a91ff_14 : decode cJ5_appendChars_a91ff 14 = .ok (.istore 5, 2) := by decide +kernel
theorem dJ5_appendChars_a91ff_16 : decode cJ5_appendChars_a91ff 16 = .ok (.aload_n 0, 1) := by decide +kernel
theorem dJ5_appendChars_a91ff_17 : decode cJ5_appendChars_a91ff 17 = .ok (.getfield 79, 3) := by decide +kernel
theorem dJ5_appendChars_a91ff_20 : decode cJ5_appendChars_a91ff 20 = .ok (.istore 6, 2) := by decide +kernel
theorem dJ5_appendChars_a91ff_22 : decode cJ5_appendChars_a91ff 22 = .ok (.iload 5, 2) := by decide +kernel
theorem dJ5_appendChars_a91ff_24 : decode cJ5_appendChars_a91ff 24 = .ok (.iload_n 3, 1) := by decide +kernel
theorem dJ5_appendChars_a91ff_25 : decode cJ5_appendChars_a91ff 25 = .ok (.if_icmp .ge 101, 3) := by decide +kernel
theorem dJ5_appendChars_a91ff_28 : decode cJ5_appendChars_a91ff 28 = .ok (.aload_n 1, 1) := by decide +kernel
theorem dJ5_appendChars_a91ff_29 : decode cJ5_appendChars_a91ff 29 = .ok (.iload 5, 2) := by decide +kernel
theorem dJ5_appendChars_a91ff_31 : decode cJ5_appendChars_a91ff 31 = .ok (.invokeinterface 390 2, 5) := by decide +kernel
theorem dJ5_appendChars_a91ff_36 : decode cJ5_appendChars_a91ff 36 = .ok (.istore 7, 2) := by decide +kernel
theorem dJ5_appendChars_a91ff_38 : decode cJ5_appendChars_a91ff 38 = .ok (.iload 7, 2) := by decide +kernel
theorem dJ5_appendChars_a91ff_40 : decode cJ5_appendChars_a91ff 40 = .ok (.invokestatic 191, 3) := by decide +kernel
theorem dJ5_appendChars_a91ff_43 : decode cJ5_appendChars_a91ff 43 = .ok (.ifCond .eq 17, 3) := by decide +kernel
theorem dJ5_appendChars_a91ff_46 : decode cJ5_appendChars_a91ff 46 = .ok (.aload 4, 2) := by decide +kernel
theorem dJ5_appendChars_a91ff_48 : decode cJ5_appendChars_a91ff 48 = .ok (.iload 6, 2) := by decide +kernel
theorem dJ5_appendChars_a91ff_50 : decode cJ5_appendChars_a91ff 50 = .ok (.iinc 6 1, 3) := by decide +kernel
theorem dJ5_appendChars_a91ff_53 : decode cJ5_appendChars_a91ff 53 = .ok (.iload 7, 2) := by decide +kernel
theorem dJ5_appendChars_a91ff_55 : decode cJ5_appendChars_a91ff 55 = .ok (.i2b, 1) := by decide +kernel
theorem dJ5_appendChars_a91ff_56 : decode cJ5_appendChars_a91ff 56 = .ok (.bastore, 1) := by decide +kernel
theorem dJ5_appendChars_a91ff_57 : decode cJ5_appendChars_a91ff 57 = .ok (.goto 63, 3) := by decide +kernel
theorem dJ5_appendChars_a91ff_60 : decode cJ5_appendChars_a91ff 60 = .ok (.aload_n 0, 1) := by decide +kernel
theorem dJ5_appendChars_a91ff_61 : decode cJ5_appendChars_a91ff 61 = .ok (.iload 6, 2) := by decide +kernel
theorem dJ5_appendChars_a91ff_63 : decode cJ5_appendChars_a91ff 63 = .ok (.putfield 79, 3) := by decide +kernel
theorem dJ5_appendChars_a91ff_66 : decode cJ5_appendChars_a91ff 66 = .ok (.aload_n 0, 1) := by decide +kernel
theorem dJ5_appendChars_a91ff_67 : decode cJ5_appendChars_a91ff 67 = .ok (.invokevirtual 195, 3) := by decide +kernel
theorem dJ5_appendChars_a91ff_70 : decode cJ5_appendChars_a91ff 70 = .ok (.aload_n 0, 1) := by decide +kernel
theorem dJ5_appendChars_a91ff_71 : decode cJ5_appendChars_a91ff 71 = .ok (.getfield 15, 3) := by decide +kernel
theorem dJ5_appendChars_a91ff_74 : decode cJ5_appendChars_a91ff 74 = .ok (.iload 6, 2) := by decide +kernel
theorem dJ5_appendChars_a91ff_76 : decode cJ5_appendChars_a91ff 76 = .ok (.iinc 6 1, 3) := by decide +kernel
theorem dJ5_appendChars_a91ff_79 : decode cJ5_appendChars_a91ff 79 = .ok (.iload 7, 2) := by decide +kernel
theorem dJ5_appendChars_a91ff_81 : decode cJ5_appendChars_a91ff 81 = .ok (.invokestatic 197, 3) := by decide +kernel
theorem dJ5_appendChars_a91ff_84 : decode cJ5_appendChars_a91ff 84 = .ok (.aload_n 0, 1) := by decide +kernel
theorem dJ5_appendChars_a91ff_85 : decode cJ5_appendChars_a91ff 85 = .ok (.iload 6, 2) := by decide +kernel
theorem dJ5_appendChars_a91ff_87 : decode cJ5_appendChars_a91ff 87 = .ok (.putfield 79, 3) := by decide +kernel
theorem dJ5_appendChars_a91ff_90 : decode cJ5_appendChars_a91ff 90 = .ok (.iinc 5 1, 3) := by decide +kernel
theorem dJ5_appendChars_a91ff_93 : decode cJ5_appendChars_a91ff 93 = .ok (.aload_n 0, 1) := by decide +kernel
theorem dJ5_appendChars_a91ff_94 : decode cJ5_appendChars_a91ff 94 = .ok (.getfield 15, 3) := by decide +kernel
theorem dJ5_appendChars_a91ff_97 : decode cJ5_appendChars_a91ff 97 = .ok (.iload 6, 2) := by decide +kernel
theorem dJ5_appendChars_a91ff_99 : decode cJ5_appendChars_a91ff 99 = .ok (.aload_n 1, 1) := by decide +kernel
theorem dJ5_appendChars_a91ff_100 : decode cJ5_appendChars_a91ff 100 = .ok (.iload 5, 2) := by decide +kernel
theorem dJ5_appendChars_a91ff_102 : decode cJ5_appendChars_a91ff 102 = .ok (.iload_n 3, 1) := by decide +kernel
theorem dJ5_appendChars_a91ff_103 : decode cJ5_appendChars_a91ff 103 = .ok (.invokestatic 394, 3) := by decide +kernel
theorem dJ5_appendChars_a91ff_106 : decode cJ5_appendChars_a91ff 106 = .ok (.aload_n 0, 1) := by decide +kernel
theorem dJ5_appendChars_a91ff_107 : decode cJ5_appendChars_a91ff 107 = .ok (.dup, 1) := by decide +kernel
theorem dJ5_appendChars_a91ff_108 : decode cJ5_appendChars_a91ff 108 = .ok (.getfield 79, 3) := by decide +kernel
theorem dJ5_appendChars_a91ff_111 : decode cJ5_appendChars_a91ff 111 = .ok (.iload_n 3, 1) := by decide +kernel
theorem dJ5_appendChars_a91ff_112 : decode cJ5_appendChars_a91ff 112 = .ok (.iload 5, 2) := by decide +kernel
theorem dJ5_appendChars_a91ff_114 : decode cJ5_appendChars_a91ff 114 = .ok (.isub, 1) := by decide +kernel
theorem dJ5_appendChars_a91ff_115 : decode cJ5_appendChars_a91ff 115 = .ok (.iadd, 1) := by decide +kernel
theorem dJ5_appendChars_a91ff_116 : decode cJ5_appendChars_a91ff 116 = .ok (.putfield 79, 3) := by decide +kernel
theorem dJ5_appendChars_a91ff_119 : decode cJ5_appendChars_a91ff 119 = .ok (.return_, 1) := by decide +kernel
theorem dJ5_appendChars_a91ff_120 : decode cJ5_appendChars_a91ff 120 = .ok (.iinc 5 1, 3) := by decide +kernel
theorem dJ5_appendChars_a91ff_123 : decode cJ5_appendChars_a91ff 123 = .ok (.goto (-101), 3) := by decide +kernel
theorem dJ5_appendChars_a91ff_126 : decode cJ5_appendChars_a91ff 126 = .ok (.goto 17, 3) := by decide +kernel
theorem dJ5_appendChars_a91ff_129 : decode cJ5_appendChars_a91ff 129 = .ok (.aload_n 0, 1) := by decide +kernel
theorem dJ5_appendChars_a91ff_130 : decode cJ5_appendChars_a91ff 130 = .ok (.getfield 15, 3) := by decide +kernel
theorem dJ5_appendChars_a91ff_133 : decode cJ5_appendChars_a91ff 133 = .ok (.aload_n 0, 1) := by decide +kernel
theorem dJ5_appendChars_a91ff_134 : decode cJ5_appendChars_a91ff 134 = .ok (.getfield 79, 3) := by decide +kernel
theorem dJ5_appendChars_a91ff_137 : decode cJ5_appendChars_a91ff 137 = .ok (.aload_n 1, 1) := by decide +kernel
theorem dJ5_appendChars_a91ff_138 : decode cJ5_appendChars_a91ff 138 = .ok (.iload_n 2, 1) := by decide +kernel
theorem dJ5_appendChars_a91ff_139 : decode cJ5_appendChars_a91ff 139 = .ok (.iload_n 3, 1) := by decide +kernel
theorem dJ5_appendChars_a91ff_140 : decode cJ5_appendChars_a91ff 140 = .ok (.invokestatic 394, 3) := by decide +kernel
theorem dJ5_appendChars_a91ff_143 : decode cJ5_appendChars_a91ff 143 = .ok (.aload_n 0, 1) := by decide +kernel
theorem dJ5_appendChars_a91ff_144 : decode cJ5_appendChars_a91ff 144 = .ok (.dup, 1) := by decide +kernel
theorem dJ5_appendChars_a91ff_145 : decode cJ5_appendChars_a91ff 145 = .ok (.getfield 79, 3) := by decide +kernel
theorem dJ5_appendChars_a91ff_148 : decode cJ5_appendChars_a91ff 148 = .ok (.iload_n 3, 1) := by decide +kernel
theorem dJ5_appendChars_a91ff_149 : decode cJ5_appendChars_a91ff 149 = .ok (.iload_n 2, 1) := by decide +kernel
theorem dJ5_appendChars_a91ff_150 : decode cJ5_appendChars_a91ff 150 = .ok (.isub, 1) := by decide +kernel
theorem dJ5_appendChars_a91ff_151 : decode cJ5_appendChars_a91ff 151 = .ok (.iadd, 1) := by decide +kernel
theorem dJ5_appendChars_a91ff_152 : decode cJ5_appendChars_a91ff 152 = .ok (.putfield 79, 3) := by decide +kernel
theorem dJ5_appendChars_a91ff_155 : decode cJ5_appendChars_a91ff 155 = .ok (.return_, 1) := by decide +kernel
theorem dJx00060_init_a7421_0 : decode cJx00060_init_a7421 0 = .ok (.aload_n 0, 1) := by decide +kernel
theorem dJx00060_init_a7421_1 : decode cJx00060_init_a7421 1 = .ok (.aload_n 1, 1) := by decide +kernel
theorem dJx00060_init_a7421_2 : decode cJx00060_init_a7421 2 = .ok (.invokespecial 7, 3) := by decide +kernel
theorem dJx00060_init_a7421_5 : decode cJx00060_init_a7421 5 = .ok (.return_, 1) := by decide +kernel
theorem dJ11_isValidCodePoint_9a6ad_0 : decode cJ11_isValidCodePoint_9a6ad 0 = .ok (.iload_n 0, 1) := by decide +kernel
theorem dJ11_isValidCodePoint_9a6ad_1 : decode cJ11_isValidCodePoint_9a6ad 1 = .ok (.bipush 16, 2) := by decide +kernel
theorem dJ11_isValidCodePoint_9a6ad_3 : decode cJ11_isValidCodePoint_9a6ad 3 = .ok (.iushr, 1) := by decide +kernel
theorem dJ11_isValidCodePoint_9a6ad_4 : decode cJ11_isValidCodePoint_9a6ad 4 = .ok (.istore_n 1, 1) := by decide +kernel
theorem dJ11_isValidCodePoint_9a6ad_5 : decode cJ11_isValidCodePoint_9a6ad 5 = .ok (.iload_n 1, 1) := by decide +kernel
theorem dJ11_isValidCodePoint_9a6ad_6 : decode cJ11_isValidCodePoint_9a6ad 6 = .ok (.bipush 17, 2) := by decide +kernel
theorem dJ11_isValidCodePoint_9a6ad_8 : decode cJ11_isValidCodePoint_9a6ad 8 = .ok (.if_icmp .ge 7, 3) := by decide +kernel
theorem dJ11_isValidCodePoint_9a6ad_11 : decode cJ11_isValidCodePoint_9a6ad 11 = .ok (.iconst 1, 1) := by decide +kernel
theorem dJ11_isValidCodePoint_9a6ad_12 : decode cJ11_isValidCodePoint_9a6ad 12 = .ok (.goto 4, 3) := by decide +kernel
theorem dJ11_isValidCodePoint_9a6ad_15 : decode cJ11_isValidCodePoint_9a6ad 15 = .ok (.iconst 0, 1) := by decide +kernel
theorem dJ11_isValidCodePoint_9a6ad_16 : decode cJ11_isValidCodePoint_9a6ad 16 = .ok (.ireturn, 1) := by decide +kernel
theorem dJ11_highSurrogate_5068e_0 : decode cJ11_highSurrogate_5068e 0 = .ok (.iload_n 0, 1) := by decide +kernel
theorem dJ11_highSurrogate_5068e_1 : decode cJ11_highSurrogate_5068e 1 = .ok (.bipush 10, 2) := by decide +kernel
theorem dJ11_highSurrogate_5068e_3 : decode cJ11_highSurrogate_5068e 3 = .ok (.iushr, 1) := by decide +kernel
theorem dJ11_highSurrogate_5068e_4 : decode cJ11_highSurrogate_5068e 4 = .ok (.ldc 110, 2) := by decide +kernel
theorem dJ11_highSurrogate_5068e_6 : decode cJ11_highSurrogate_5068e 6 = .ok (.iadd, 1) := by decide +kernel
theorem dJ11_highSurrogate_5068e_7 : decode cJ11_highSurrogate_5068e 7 = .ok (.i2c, 1) := by decide +kernel
theorem dJ11_highSurrogate_5068e_8 : decode cJ11_highSurrogate_5068e 8 = .ok (.ireturn, 1) := by decide +kernel
theorem dJ11_lowSurrogate_5068e_0 : decode cJ11_lowSurrogate_5068e 0 = .ok (.iload_n 0, 1) := by decide +kernel
theorem dJ11_lowSurrogate_5068e_1 : decode cJ11_lowSurrogate_5068e 1 = .ok (.sipush 1023, 3) := by decide +kernel
theorem dJ11_lowSurrogate_5068e_4 : decode cJ11_lowSurrogate_5068e 4 = .ok (.iand, 1) := by decide +kernel
theorem dJ11_lowSurrogate_5068e_5 : decode cJ11_lowSurrogate_5068e 5 = .ok (.ldc 76, 2) := by decide +kernel
theorem dJ11_lowSurrogate_5068e_7 : decode cJ11_lowSurrogate_5068e 7 = .ok (.iadd, 1) := by decide +kernel
theorem dJ11_lowSurrogate_5068e_8 : decode cJ11_lowSurrogate_5068e 8 = .ok (.i2c, 1) := by decide +kernel
theorem dJ11_lowSurrogate_5068e_9 : decode cJ11_lowSurrogate_5068e 9 = .ok (.ireturn, 1) := by decide +kernel
theorem dJx29ce0_ordinal_8abf5_0 : decode cJx29ce0_ordinal_8abf5 0 = .ok (.aload_n 0, 1) := by decide +kernel
theorem dJx29ce0_ordinal_8abf5_1 : decode cJx29ce0_ordinal_8abf5 1 = .ok (.getfield 7, 3) := by decide +kernel
theorem dJx29ce0_ordinal_8abf5_4 : decode cJx29ce0_ordinal_8abf5 4 = .ok (.ireturn, 1) := by decide +kernel
theorem dJ6_getChars_ba4f3_0 : decode cJ6_getChars_ba4f3 0 = .ok (.iload_n 1, 1) := by decide +kernel
theorem dJ6_getChars_ba4f3_1 : decode cJ6_getChars_ba4f3 1 = .ok (.istore 5, 2) := by decide +kernel
theorem dJ6_getChars_ba4f3_3 : decode cJ6_getChars_ba4f3 3 = .ok (.iload_n 0, 1) := by decide +kernel
theorem dJ6_getChars_ba4f3_4 : decode cJ6_getChars_ba4f3 4 = .ok (.ifCond .ge 7, 3) := by decide +kernel
theorem dJ6_getChars_ba4f3_7 : decode cJ6_getChars_ba4f3 7 = .ok (.iconst 1, 1) := by decide +kernel
theorem dJ6_getChars_ba4f3_8 : decode cJ6_getChars_ba4f3 8 = .ok (.goto 4, 3) := by decide +kernel
theorem dJ6_getChars_ba4f3_11 : decode cJ6_getChars_ba4f3 11 = .ok (.iconst 0, 1) := by decide +kernel
theorem dJ6_getChars_ba4f3_12 : decode cJ6_getChars_ba4f3 12 = .ok (.istore 6, 2) := by decide +kernel
theorem dJ6_getChars_ba4f3_14 : decode cJ6_getChars_ba4f3 14 = .ok (.iload 6, 2) := by decide +kernel
theorem dJ6_getChars_ba4f3_16 : decode cJ6_getChars_ba4f3 16 = .ok (.ifCond .ne 6, 3) := by decide +kernel
theorem dJ6_getChars_ba4f3_19 : decode cJ6_getChars_ba4f3 19 = .ok (.iload_n 0, 1) := by decide +kernel
theorem dJ6_getChars_ba4f3_20 : decode cJ6_getChars_ba4f3 20 = .ok (.ineg, 1) := by decide +kernel
theorem dJ6_getChars_ba4f3_21 : decode cJ6_getChars_ba4f3 21 = .ok (.istore_n 0, 1) := by decide +kernel
theorem dJ6_getChars_ba4f3_22 : decode cJ6_getChars_ba4f3 22 = .ok (.iload_n 0, 1) := by decide +kernel
theorem dJ6_getChars_ba4f3_23 : decode cJ6_getChars_ba4f3 23 = .ok (.bipush (-100), 2) := by decide +kernel
theorem dJ6_getChars_ba4f3_25 : decode cJ6_getChars_ba4f3 25 = .ok (.if_icmp .gt 47, 3) := by decide +kernel
theorem dJ6_getChars_ba4f3_28 : decode cJ6_getChars_ba4f3 28 = .ok (.iload_n 0, 1) := by decide +kernel
theorem dJ6_getChars_ba4f3_29 : decode cJ6_getChars_ba4f3 29 = .ok (.bipush 100, 2) := by decide +kernel
theorem dJ6_getChars_ba4f3_31 : decode cJ6_getChars_ba4f3 31 = .ok (.idiv, 1) := by decide +kernel
theorem dJ6_getChars_ba4f3_32 : decode cJ6_getChars_ba4f3 32 = .ok (.istore_n 3, 1) := by decide +kernel
theorem dJ6_getChars_ba4f3_33 : decode cJ6_getChars_ba4f3 33 = .ok (.iload_n 3, 1) := by decide +kernel
theorem dJ6_getChars_ba4f3_34 : decode cJ6_getChars_ba4f3 34 = .ok (.bipush 100, 2) := by decide +kernel
theorem dJ6_getChars_ba4f3_36 : decode cJ6_getChars_ba4f3 36 = .ok (.imul, 1) := by decide +kernel
theorem dJ6_getChars_ba4f3_37 : decode cJ6_getChars_ba4f3 37 = .ok (.iload_n 0, 1) := by decide +kernel
theorem dJ6_getChars_ba4f3_38 : decode cJ6_getChars_ba4f3 38 = .ok (.isub, 1) := by decide +kernel
theorem dJ6_getChars_ba4f3_39 : decode cJ6_getChars_ba4f3 39 = .ok (.istore 4, 2) := by decide +kernel
theorem dJ6_getChars_ba4f3_41 : decode cJ6_getChars_ba4f3 41 = .ok (.iload_n 3, 1) := by decide +kernel
theorem dJ6_getChars_ba4f3_42 : decode cJ6_getChars_ba4f3 42 = .ok (.istore_n 0, 1) := by decide +kernel
theorem dJ6_getChars_ba4f3_43 : decode cJ6_getChars_ba4f3 43 = .ok (.aload_n 2, 1) := by decide +kernel
theorem dJ6_getChars_ba4f3_44 : decode cJ6_getChars_ba4f3 44 = .ok (.iinc 5 (-1), 3) := by decide +kernel
theorem dJ6_getChars_ba4f3_47 : decode cJ6_getChars_ba4f3 47 = .ok (.iload 5, 2) := by decide +kernel
theorem dJ6_getChars_ba4f3_49 : decode cJ6_getChars_ba4f3 49 = .ok (.getstatic 83, 3) := by decide +kernel
theorem dJ6_getChars_ba4f3_52 : decode cJ6_getChars_ba4f3 52 = .ok (.iload 4, 2) := by decide +kernel
theorem dJ6_getChars_ba4f3_54 : decode cJ6_getChars_ba4f3 54 = .ok (.baload, 1) := by decide +kernel
theorem dJ6_getChars_ba4f3_55 : decode cJ6_getChars_ba4f3 55 = .ok (.bastore, 1) := by decide +kernel
theorem dJ6_getChars_ba4f3_56 : decode cJ6_getChars_ba4f3 56 = .ok (.aload_n 2, 1) := by decide +kernel
theorem dJ6_getChars_ba4f3_57 : decode cJ6_getChars_ba4f3 57 = .ok (.iinc 5 (-1), 3) := by decide +kernel
theorem dJ6_getChars_ba4f3_60 : decode cJ6_getChars_ba4f3 60 = .ok (.iload 5, 2) := by decide +kernel
theorem dJ6_getChars_ba4f3_62 : decode cJ6_getChars_ba4f3 62 = .ok (.getstatic 87, 3) := by decide +kernel
theorem dJ6_getChars_ba4f3_65 : decode cJ6_getChars_ba4f3 65 = .ok (.iload 4, 2) := by decide +kernel
theorem dJ6_getChars_ba4f3_67 : decode cJ6_getChars_ba4f3 67 = .ok (.baload, 1) := by decide +kernel
theorem dJ6_getChars_ba4f3_68 : decode cJ6_getChars_ba4f3 68 = .ok (.bastore, 1) := by decide +kernel
theorem dJ6_getChars_ba4f3_69 : decode cJ6_getChars_ba4f3 69 = .ok (.goto (-47), 3) := by decide +kernel
theorem dJ6_getChars_ba4f3_72 : decode cJ6_getChars_ba4f3 72 = .ok (.aload_n 2, 1) := by decide +kernel
theorem dJ6_getChars_ba4f3_73 : decode cJ6_getChars_ba4f3 73 = .ok (.iinc 5 (-1), 3) := by decide +kernel
theorem dJ6_getChars_ba4f3_76 : decode cJ6_getChars_ba4f3 76 = .ok (.iload 5, 2) := by decide +kernel
theorem dJ6_getChars_ba4f3_78 : decode cJ6_getChars_ba4f3 78 = .ok (.getstatic 83, 3) := by decide +kernel
theorem dJ6_getChars_ba4f3_81 : decode cJ6_getChars_ba4f3 81 = .ok (.iload_n 0, 1) := by decide +kernel
theorem dJ6_getChars_ba4f3_82 : decode cJ6_getChars_ba4f3 82 = .ok (.ineg, 1) := by decide +kernel
theorem dJ6_getChars_ba4f3_83 : decode cJ6_getChars_ba4f3 83 = .ok (.baload, 1) := by decide +kernel
theorem dJ6_getChars_ba4f3_84 : decode cJ6_getChars_ba4f3 84 = .ok (.bastore, 1) := by decide +kernel
theorem dJ6_getChars_ba4f3_85 : decode cJ6_getChars_ba4f3 85 = .ok (.iload_n 0, 1) := by decide +kernel
theorem dJ6_getChars_ba4f3_86 : decode cJ6_getChars_ba4f3 86 = .ok (.bipush (-9), 2) := by decide +kernel
theorem dJ6_getChars_ba4f3_88 : decode cJ6_getChars_ba4f3 88 = .ok (.if_icmp .ge 16, 3) := by decide +kernel
theorem dJ6_getChars_ba4f3_91 : decode cJ6_getChars_ba4f3 91 = .ok (.aload_n 2, 1) := by decide +kernel
theorem dJ6_getChars_ba4f3_92 : decode cJ6_getChars_ba4f3 92 = .ok (.iinc 5 (-1), 3) := by decide +kernel
theorem dJ6_getChars_ba4f3_95 : decode cJ6_getChars_ba4f3 95 = .ok (.iload 5, 2) := by decide +kernel
theorem dJ6_getChars_ba4f3_97 : decode cJ6_getChars_ba4f3 97 = .ok (.getstatic 87, 3) := by decide +kernel
theorem dJ6_getChars_ba4f3_100 : decode cJ6_getChars_ba4f3 100 = .ok (.iload_n 0, 1) := by decide +kernel
theorem dJ6_getChars_ba4f3_101 : decode cJ6_getChars_ba4f3 101 = .ok (.ineg, 1) := by decide +kernel
theorem dJ6_getChars_ba4f3_102 : decode cJ6_getChars_ba4f3 102 = .ok (.baload, 1) := by decide +kernel
theorem dJ6_getChars_ba4f3_103 : decode cJ6_getChars_ba4f3 103 = .ok (.bastore, 1) := by decide +kernel
theorem dJ6_getChars_ba4f3_104 : decode cJ6_getChars_ba4f3 104 = .ok (.iload 6, 2) := by decide +kernel
theorem dJ6_getChars_ba4f3_106 : decode cJ6_getChars_ba4f3 106 = .ok (.ifCond .eq 12, 3) := by decide +kernel
theorem dJ6_getChars_ba4f3_109 : decode cJ6_getChars_ba4f3 109 = .ok (.aload_n 2, 1) := by decide +kernel
theorem dJ6_getChars_ba4f3_110 : decode cJ6_getChars_ba4f3 110 = .ok (.iinc 5 (-1), 3) := by decide +kernel
theorem dJ6_getChars_ba4f3_113 : decode cJ6_getChars_ba4f3 113 = .ok (.iload 5, 2) := by decide +kernel
theorem dJ6_getChars_ba4f3_115 : decode cJ6_getChars_ba4f3 115 = .ok (.bipush 45, 2) := by decide +kernel
theorem dJ6_getChars_ba4f3_117 : decode cJ6_getChars_ba4f3 117 = .ok (.bastore, 1) := by decide +kernel
theorem dJ6_getChars_ba4f3_118 : decode cJ6_getChars_ba4f3 118 = .ok (.iload 5, 2) := by decide +kernel
theorem dJ6_getChars_ba4f3_120 : decode cJ6_getChars_ba4f3 120 = .ok (.ireturn, 1) := by decide +kernel
theorem dJ6_stringSize_0f7a4_0 : decode cJ6_stringSize_0f7a4 0 = .ok (.iconst 1, 1) := by decide +kernel
theorem dJ6_stringSize_0f7a4_1 : decode cJ6_stringSize_0f7a4 1 = .ok (.istore_n 1, 1) := by decide +kernel
theorem dJ6_stringSize_0f7a4_2 : decode cJ6_stringSize_0f7a4 2 = .ok (.iload_n 0, 1) := by decide +kernel
theorem dJ6_stringSize_0f7a4_3 : decode cJ6_stringSize_0f7a4 3 = .ok (.ifCond .lt 8, 3) := by decide +kernel
theorem dJ6_stringSize_0f7a4_6 : decode cJ6_stringSize_0f7a4 6 = .ok (.iconst 0, 1) := by decide +kernel
theorem dJ6_stringSize_0f7a4_7 : decode cJ6_stringSize_0f7a4 7 = .ok (.istore_n 1, 1) := by decide +kernel
theorem dJ6_stringSize_0f7a4_8 : decode cJ6_stringSize_0f7a4 8 = .ok (.iload_n 0, 1) := by decide +kernel
theorem dJ6_stringSize_0f7a4_9 : decode cJ6_stringSize_0f7a4 9 = .ok (.ineg, 1) := by decide +kernel
theorem dJ6_stringSize_0f7a4_10 : decode cJ6_stringSize_0f7a4 10 = .ok (.istore_n 0, 1) := by decide +kernel
theorem dJ6_stringSize_0f7a4_11 : decode cJ6_stringSize_0f7a4 11 = .ok (.bipush (-10), 2) := by decide +kernel
theorem dJ6_stringSize_0f7a4_13 : decode cJ6_stringSize_0f7a4 13 = .ok (.istore_n 2, 1) := by decide +kernel
theorem dJ6_stringSize_0f7a4_14 : decode cJ6_stringSize_0f7a4 14 = .ok (.iconst 1, 1) := by decide +kernel
theorem dJ6_stringSize_0f7a4_15 : decode cJ6_stringSize_0f7a4 15 = .ok (.istore_n 3, 1) := by decide +kernel
theorem dJ6_stringSize_0f7a4_16 : decode cJ6_stringSize_0f7a4 16 = .ok (.iload_n 3, 1) := by decide +kernel
theorem dJ6_stringSize_0f7a4_17 : decode cJ6_stringSize_0f7a4 17 = .ok (.bipush 10, 2) := by decide +kernel
theorem dJ6_stringSize_0f7a4_19 : decode cJ6_stringSize_0f7a4 19 = .ok (.if_icmp .ge 23, 3) := by decide +kernel
theorem dJ6_stringSize_0f7a4_22 : decode cJ6_stringSize_0f7a4 22 = .ok (.iload_n 0, 1) := by decide +kernel
theorem dJ6_stringSize_0f7a4_23 : decode cJ6_stringSize_0f7a4 23 = .ok (.iload_n 2, 1) := by decide +kernel
theorem dJ6_stringSize_0f7a4_24 : decode cJ6_stringSize_0f7a4 24 = .ok (.if_icmp .le 7, 3) := by decide +kernel
theorem dJ6_stringSize_0f7a4_27 : decode cJ6_stringSize_0f7a4 27 = .ok (.iload_n 3, 1) := by decide +kernel
theorem dJ6_stringSize_0f7a4_28 : decode cJ6_stringSize_0f7a4 28 = .ok (.iload_n 1, 1) := by decide +kernel
theorem dJ6_stringSize_0f7a4_29 : decode cJ6_stringSize_0f7a4 29 = .ok (.iadd, 1) := by decide +kernel
theorem dJ6_stringSize_0f7a4_30 : decode cJ6_stringSize_0f7a4 30 = .ok (.ireturn, 1) := by decide +kernel
theorem dJ6_stringSize_0f7a4_31 : decode cJ6_stringSize_0f7a4 31 = .ok (.bipush 10, 2) := by decide +kernel
theorem dJ6_stringSize_0f7a4_33 : decode cJ6_stringSize_0f7a4 33 = .ok (.iload_n 2, 1) := by decide +kernel
theorem dJ6_stringSize_0f7a4_34 : decode cJ6_stringSize_0f7a4 34 = .ok (.imul, 1) := by decide +kernel
theorem dJ6_stringSize_0f7a4_35 : decode cJ6_stringSize_0f7a4 35 = .ok (.istore_n 2, 1) := by decide +kernel
theorem dJ6_stringSize_0f7a4_36 : decode cJ6_stringSize_0f7a4 36 = .ok (.iinc 3 1, 3) := by decide +kernel
theorem dJ6_stringSize_0f7a4_39 : decode cJ6_stringSize_0f7a4 39 = .ok (.goto (-23), 3) := by decide +kernel
theorem dJ6_stringSize_0f7a4_42 : decode cJ6_stringSize_0f7a4 42 = .ok (.bipush 10, 2) := by decide +kernel
theorem dJ6_stringSize_0f7a4_44 : decode cJ6_stringSize_0f7a4 44 = .ok (.iload_n 1, 1) := by decide +kernel
theorem dJ6_stringSize_0f7a4_45 : decode cJ6_stringSize_0f7a4 45 = .ok (.iadd, 1) := by decide +kernel
theorem dJ6_stringSize_0f7a4_46 : decode cJ6_stringSize_0f7a4 46 = .ok (.ireturn, 1) := by decide +kernel
theorem dJ6_numberOfLeadingZeros_0f7a4_0 : decode cJ6_numberOfLeadingZeros_0f7a4 0 = .ok (.iload_n 0, 1) := by decide +kernel
theorem dJ6_numberOfLeadingZeros_0f7a4_1 : decode cJ6_numberOfLeadingZeros_0f7a4 1 = .ok (.ifCond .gt 14, 3) := by decide +kernel
theorem dJ6_numberOfLeadingZeros_0f7a4_4 : decode cJ6_numberOfLeadingZeros_0f7a4 4 = .ok (.iload_n 0, 1) := by decide +kernel
theorem dJ6_numberOfLeadingZeros_0f7a4_5 : decode cJ6_numberOfLeadingZeros_0f7a4 5 = .ok (.ifCond .ne 8, 3) := by decide +kernel
theorem dJ6_numberOfLeadingZeros_0f7a4_8 : decode cJ6_numberOfLeadingZeros_0f7a4 8 = .ok (.bipush 32, 2) := by decide +kernel
theorem dJ6_numberOfLeadingZeros_0f7a4_10 : decode cJ6_numberOfLeadingZeros_0f7a4 10 = .ok (.goto 4, 3) := by decide +kernel
theorem dJ6_numberOfLeadingZeros_0f7a4_13 : decode cJ6_numberOfLeadingZeros_0f7a4 13 = .ok (.iconst 0, 1) := by decide +kernel
theorem dJ6_numberOfLeadingZeros_0f7a4_14 : decode cJ6_numberOfLeadingZeros_0f7a4 14 = .ok (.ireturn, 1) := by decide +kernel
theorem dJ6_numberOfLeadingZeros_0f7a4_15 : decode cJ6_numberOfLeadingZeros_0f7a4 15 = .ok (.bipush 31, 2) := by decide +kernel
theorem dJ6_numberOfLeadingZeros_0f7a4_17 : decode cJ6_numberOfLeadingZeros_0f7a4 17 = .ok (.istore_n 1, 1) := by decide +kernel
theorem dJ6_numberOfLeadingZeros_0f7a4_18 : decode cJ6_numberOfLeadingZeros_0f7a4 18 = .ok (.iload_n 0, 1) := by decide +kernel
theorem dJ6_numberOfLeadingZeros_0f7a4_19 : decode cJ6_numberOfLeadingZeros_0f7a4 19 = .ok (.ldc_w 264, 3) := by decide +kernel
theorem dJ6_numberOfLeadingZeros_0f7a4_22 : decode cJ6_numberOfLeadingZeros_0f7a4 22 = .ok (.if_icmp .lt 11, 3) := by decide +kernel
theorem dJ6_numberOfLeadingZeros_0f7a4_25 : decode cJ6_numberOfLeadingZeros_0f7a4 25 = .ok (.iinc 1 (-16), 3) := by decide +kernel
theorem dJ6_numberOfLeadingZeros_0f7a4_28 : decode cJ6_numberOfLeadingZeros_0f7a4 28 = .ok (.iload_n 0, 1) := by decide +kernel
theorem dJ6_numberOfLeadingZeros_0f7a4_29 : decode cJ6_numberOfLeadingZeros_0f7a4 29 = .ok (.bipush 16, 2) := by decide +kernel
theorem dJ6_numberOfLeadingZeros_0f7a4_31 : decode cJ6_numberOfLeadingZeros_0f7a4 31 = .ok (.iushr, 1) := by decide +kernel
theorem dJ6_numberOfLeadingZeros_0f7a4_32 : decode cJ6_numberOfLeadingZeros_0f7a4 32 = .ok (.istore_n 0, 1) := by decide +kernel
theorem dJ6_numberOfLeadingZeros_0f7a4_33 : decode cJ6_numberOfLeadingZeros_0f7a4 33 = .ok (.iload_n 0, 1) := by decide +kernel
theorem dJ6_numberOfLeadingZeros_0f7a4_34 : decode cJ6_numberOfLeadingZeros_0f7a4 34 = .ok (.sipush 256, 3) := by decide +kernel
theorem dJ6_numberOfLeadingZeros_0f7a4_37 : decode cJ6_numberOfLeadingZeros_0f7a4 37 = .ok (.if_icmp .lt 11, 3) := by decide +kernel
theorem dJ6_numberOfLeadingZeros_0f7a4_40 : decode cJ6_numberOfLeadingZeros_0f7a4 40 = .ok (.iinc 1 (-8), 3) := by decide +kernel
theorem dJ6_numberOfLeadingZeros_0f7a4_43 : decode cJ6_numberOfLeadingZeros_0f7a4 43 = .ok (.iload_n 0, 1) := by decide +kernel
theorem dJ6_numberOfLeadingZeros_0f7a4_44 : decode cJ6_numberOfLeadingZeros_0f7a4 44 = .ok (.bipush 8, 2) := by decide +kernel
theorem dJ6_numberOfLeadingZeros_0f7a4_46 : decode cJ6_numberOfLeadingZeros_0f7a4 46 = .ok (.iushr, 1) := by decide +kernel
theorem dJ6_numberOfLeadingZeros_0f7a4_47 : decode cJ6_numberOfLeadingZeros_0f7a4 47 = .ok (.istore_n 0, 1) := by decide +kernel
theorem dJ6_numberOfLeadingZeros_0f7a4_48 : decode cJ6_numberOfLeadingZeros_0f7a4 48 = .ok (.iload_n 0, 1) := by decide +kernel
theorem dJ6_numberOfLeadingZeros_0f7a4_49 : decode cJ6_numberOfLeadingZeros_0f7a4 49 = .ok (.bipush 16, 2) := by decide +kernel
theorem dJ6_numberOfLeadingZeros_0f7a4_51 : decode cJ6_numberOfLeadingZeros_0f7a4 51 = .ok (.if_icmp .lt 10, 3) := by decide +kernel
theorem dJ6_numberOfLeadingZeros_0f7a4_54 : decode cJ6_numberOfLeadingZeros_0f7a4 54 = .ok (.iinc 1 (-4), 3) := by decide +kernel
theorem dJ6_numberOfLeadingZeros_0f7a4_57 : decode cJ6_numberOfLeadingZeros_0f7a4 57 = .ok (.iload_n 0, 1) := by decide +kernel
theorem dJ6_numberOfLeadingZeros_0f7a4_58 : decode cJ6_numberOfLeadingZeros_0f7a4 58 = .ok (.iconst 4, 1) := by decide +kernel
theorem dJ6_numberOfLeadingZeros_0f7a4_59 : decode cJ6_numberOfLeadingZeros_0f7a4 59 = .ok (.iushr, 1) := by decide +kernel
theorem dJ6_numberOfLeadingZeros_0f7a4_60 : decode cJ6_numberOfLeadingZeros_0f7a4 60 = .ok (.istore_n 0, 1) := by decide +kernel
theorem dJ6_numberOfLeadingZeros_0f7a4_61 : decode cJ6_numberOfLeadingZeros_0f7a4 61 = .ok (.iload_n 0, 1) := by decide +kernel
theorem dJ6_numberOfLeadingZeros_0f7a4_62 : decode cJ6_numberOfLeadingZeros_0f7a4 62 = .ok (.iconst 4, 1) := by decide +kernel
theorem dJ6_numberOfLeadingZeros_0f7a4_63 : decode cJ6_numberOfLeadingZeros_0f7a4 63 = .ok (.if_icmp .lt 10, 3) := by decide +kernel
theorem dJ6_numberOfLeadingZeros_0f7a4_66 : decode cJ6_numberOfLeadingZeros_0f7a4 66 = .ok (.iinc 1 (-2), 3) := by decide +kernel
theorem dJ6_numberOfLeadingZeros_0f7a4_69 : decode cJ6_numberOfLeadingZeros_0f7a4 69 = .ok (.iload_n 0, 1) := by decide +kernel
theorem dJ6_numberOfLeadingZeros_0f7a4_70 : decode cJ6_numberOfLeadingZeros_0f7a4 70 = .ok (.iconst 2, 1) := by decide +kernel
theorem dJ6_numberOfLeadingZeros_0f7a4_71 : decode cJ6_numberOfLeadingZeros_0f7a4 71 = .ok (.iushr, 1) := by decide +kernel
theorem dJ6_numberOfLeadingZeros_0f7a4_72 : decode cJ6_numberOfLeadingZeros_0f7a4 72 = .ok (.istore_n 0, 1) := by decide +kernel
theorem dJ6_numberOfLeadingZeros_0f7a4_73 : decode cJ6_numberOfLeadingZeros_0f7a4 73 = .ok (.iload_n 1, 1) := by decide +kernel
theorem dJ6_numberOfLeadingZeros_0f7a4_74 : decode cJ6_numberOfLeadingZeros_0f7a4 74 = .ok (.iload_n 0, 1) := by decide +kernel
theorem dJ6_numberOfLeadingZeros_0f7a4_75 : decode cJ6_numberOfLeadingZeros_0f7a4 75 = .ok (.iconst 1, 1) := by decide +kernel
theorem dJ6_numberOfLeadingZeros_0f7a4_76 : decode cJ6_numberOfLeadingZeros_0f7a4 76 = .ok (.iushr, 1) := by decide +kernel
theorem dJ6_numberOfLeadingZeros_0f7a4_77 : decode cJ6_numberOfLeadingZeros_0f7a4 77 = .ok (.isub, 1) := by decide +kernel
theorem dJ6_numberOfLeadingZeros_0f7a4_78 : decode cJ6_numberOfLeadingZeros_0f7a4 78 = .ok (.ireturn, 1) := by decide +kernel
theorem dJ6_bitCount_0f7a4_0 : decode cJ6_bitCount_0f7a4 0 = .ok (.iload_n 0, 1) := by decide +kernel
theorem dJ6_bitCount_0f7a4_1 : decode cJ6_bitCount_0f7a4 1 = .ok (.iload_n 0, 1) := by decide +kernel
theorem dJ6_bitCount_0f7a4_2 : decode cJ6_bitCount_0f7a4 2 = .ok (.iconst 1, 1) := by decide +kernel
theorem dJ6_bitCount_0f7a4_3 : decode cJ6_bitCount_0f7a4 3 = .ok (.iushr, 1) := by decide +kernel
theorem dJ6_bitCount_0f7a4_4 : decode cJ6_bitCount_0f7a4 4 = .ok (.ldc_w 265, 3) := by decide +kernel
theorem dJ6_bitCount_0f7a4_7 : decode cJ6_bitCount_0f7a4 7 = .ok (.iand, 1) := by decide +kernel
theorem dJ6_bitCount_0f7a4_8 : decode cJ6_bitCount_0f7a4 8 = .ok (.isub, 1) := by decide +kernel
theorem dJ6_bitCount_0f7a4_9 : decode cJ6_bitCount_0f7a4 9 = .ok (.istore_n 0, 1) := by decide +kernel
theorem dJ6_bitCount_0f7a4_10 : decode cJ6_bitCount_0f7a4 10 = .ok (.iload_n 0, 1) := by decide +kernel
theorem dJ6_bitCount_0f7a4_11 : decode cJ6_bitCount_0f7a4 11 = .ok (.ldc_w 266, 3) := by decide +kernel
theorem dJ6_bitCount_0f7a4_14 : decode cJ6_bitCount_0f7a4 14 = .ok (.iand, 1) := by decide +kernel
theorem dJ6_bitCount_0f7a4_15 : decode cJ6_bitCount_0f7a4 15 = .ok (.iload_n 0, 1) := by decide +kernel
theorem dJ6_bitCount_0f7a4_16 : decode cJ6_bitCount_0f7a4 16 = .ok (.iconst 2, 1) := by decide +kernel
theorem dJ6_bitCount_0f7a4_17 : decode cJ6_bitCount_0f7a4 17 = .ok (.iushr, 1) := by decide +kernel
theorem dJ6_bitCount_0f7a4_18 : decode cJ6_bitCount_0f7a4 18 = .ok (.ldc_w 266, 3) := by decide +kernel
theorem dJ6_bitCount_0f7a4_21 : decode cJ6_bitCount_0f7a4 21 = .ok (.iand, 1) := by decide +kernel
theorem dJ6_bitCount_0f7a4_22 : decode cJ6_bitCount_0f7a4 22 = .ok (.iadd, 1) := by decide +kernel
theorem dJ6_bitCount_0f7a4_23 : decode cJ6_bitCount_0f7a4 23 = .ok (.istore_n 0, 1) := by decide +kernel
theorem dJ6_bitCount_0f7a4_24 : decode cJ6_bitCount_0f7a4 24 = .ok (.iload_n 0, 1) := by decide +kernel
theorem dJ6_bitCount_0f7a4_25 : decode cJ6_bitCount_0f7a4 25 = .ok (.iload_n 0, 1) := by decide +kernel
theorem dJ6_bitCount_0f7a4_26 : decode cJ6_bitCount_0f7a4 26 = .ok (.iconst 4, 1) := by decide +kernel
theorem dJ6_bitCount_0f7a4_27 : decode cJ6_bitCount_0f7a4 27 = .ok (.iushr, 1) := by decide +kernel
theorem dJ6_bitCount_0f7a4_28 : decode cJ6_bitCount_0f7a4 28 = .ok (.iadd, 1) := by decide +kernel
theorem dJ6_bitCount_0f7a4_29 : decode cJ6_bitCount_0f7a4 29 = .ok (.ldc_w 267, 3) := by decide +kernel
theorem dJ6_bitCount_0f7a4_32 : decode cJ6_bitCount_0f7a4 32 = .ok (.iand, 1) := by decide +kernel
theorem dJ6_bitCount_0f7a4_33 : decode cJ6_bitCount_0f7a4 33 = .ok (.istore_n 0, 1) := by decide +kernel
theorem dJ6_bitCount_0f7a4_34 : decode cJ6_bitCount_0f7a4 34 = .ok (.iload_n 0, 1) := by decide +kernel
theorem dJ6_bitCount_0f7a4_35 : decode cJ6_bitCount_0f7a4 35 = .ok (.iload_n 0, 1) := by decide +kernel
theorem dJ6_bitCount_0f7a4_36 : decode cJ6_bitCount_0f7a4 36 = .ok (.bipush 8, 2) := by decide +kernel
theorem dJ6_bitCount_0f7a4_38 : decode cJ6_bitCount_0f7a4 38 = .ok (.iushr, 1) := by decide +kernel
theorem dJ6_bitCount_0f7a4_39 : decode cJ6_bitCount_0f7a4 39 = .ok (.iadd, 1) := by decide +kernel
theorem dJ6_bitCount_0f7a4_40 : decode cJ6_bitCount_0f7a4 40 = .ok (.istore_n 0, 1) := by decide +kernel
theorem dJ6_bitCount_0f7a4_41 : decode cJ6_bitCount_0f7a4 41 = .ok (.iload_n 0, 1) := by decide +kernel
theorem dJ6_bitCount_0f7a4_42 : decode cJ6_bitCount_0f7a4 42 = .ok (.iload_n 0, 1) := by decide +kernel
theorem dJ6_bitCount_0f7a4_43 : decode cJ6_bitCount_0f7a4 43 = .ok (.bipush 16, 2) := by decide +kernel
theorem dJ6_bitCount_0f7a4_45 : decode cJ6_bitCount_0f7a4 45 = .ok (.iushr, 1) := by decide +kernel
theorem dJ6_bitCount_0f7a4_46 : decode cJ6_bitCount_0f7a4 46 = .ok (.iadd, 1) := by decide +kernel
theorem dJ6_bitCount_0f7a4_47 : decode cJ6_bitCount_0f7a4 47 = .ok (.istore_n 0, 1) := by decide +kernel
theorem dJ6_bitCount_0f7a4_48 : decode cJ6_bitCount_0f7a4 48 = .ok (.iload_n 0, 1) := by decide +kernel
theorem dJ6_bitCount_0f7a4_49 : decode cJ6_bitCount_0f7a4 49 = .ok (.bipush 63, 2) := by decide +kernel
theorem dJ6_bitCount_0f7a4_51 : decode cJ6_bitCount_0f7a4 51 = .ok (.iand, 1) := by decide +kernel
theorem dJ6_bitCount_0f7a4_52 : decode cJ6_bitCount_0f7a4 52 = .ok (.ireturn, 1) := by decide +kernel
theorem dJ9_multiplyHigh_f86c9_0 : decode cJ9_multiplyHigh_f86c9 0 = .ok (.lload_n 0, 1) := by decide +kernel
theorem dJ9_multiplyHigh_f86c9_1 : decode cJ9_multiplyHigh_f86c9 1 = .ok (.bipush 32, 2) := by decide +kernel
theorem dJ9_multiplyHigh_f86c9_3 : decode cJ9_multiplyHigh_f86c9 3 = .ok (.lshr, 1) := by decide +kernel
theorem dJ9_multiplyHigh_f86c9_4 : decode cJ9_multiplyHigh_f86c9 4 = .ok (.lstore 4, 2) := by decide +kernel
theorem dJ9_multiplyHigh_f86c9_6 : decode cJ9_multiplyHigh_f86c9 6 = .ok (.lload_n 0, 1) := by decide +kernel
theorem dJ9_multiplyHigh_f86c9_7 : decode cJ9_multiplyHigh_f86c9 7 = .ok (.ldc2_w 138, 3) := by decide +kernel
theorem dJ9_multiplyHigh_f86c9_10 : decode cJ9_multiplyHigh_f86c9 10 = .ok (.land, 1) := by decide +kernel
theorem dJ9_multiplyHigh_f86c9_11 : decode cJ9_multiplyHigh_f86c9 11 = .ok (.lstore 6, 2) := by decide +kernel
theorem dJ9_multiplyHigh_f86c9_13 : decode cJ9_multiplyHigh_f86c9 13 = .ok (.lload_n 2, 1) := by decide +kernel
theorem dJ9_multiplyHigh_f86c9_14 : decode cJ9_multiplyHigh_f86c9 14 = .ok (.bipush 32, 2) := by decide +kernel
theorem dJ9_multiplyHigh_f86c9_16 : decode cJ9_multiplyHigh_f86c9 16 = .ok (.lshr, 1) := by decide +kernel
theorem dJ9_multiplyHigh_f86c9_17 : decode cJ9_multiplyHigh_f86c9 17 = .ok (.lstore 8, 2) := by decide +kernel
theorem dJ9_multiplyHigh_f86c9_19 : decode cJ9_multiplyHigh_f86c9 19 = .ok (.lload_n 2, 1) := by decide +kernel
theorem dJ9_multiplyHigh_f86c9_20 : decode cJ9_multiplyHigh_f86c9 20 = .ok (.ldc2_w 138, 3) := by decide +kernel
theorem dJ9_multiplyHigh_f86c9_23 : decode cJ9_multiplyHigh_f86c9 23 = .ok (.land, 1) := by decide +kernel
theorem dJ9_multiplyHigh_f86c9_24 : decode cJ9_multiplyHigh_f86c9 24 = .ok (.lstore 10, 2) := by decide +kernel
theorem dJ9_multiplyHigh_f86c9_26 : decode cJ9_multiplyHigh_f86c9 26 = .ok (.lload 6, 2) := by decide +kernel
theorem dJ9_multiplyHigh_f86c9_28 : decode cJ9_multiplyHigh_f86c9 28 = .ok (.lload 10, 2) := by decide +kernel
theorem dJ9_multiplyHigh_f86c9_30 : decode cJ9_multiplyHigh_f86c9 30 = .ok (.lmul, 1) := by decide +kernel
theorem dJ9_multiplyHigh_f86c9_31 : decode cJ9_multiplyHigh_f86c9 31 = .ok (.lstore 12, 2) := by decide +kernel
theorem dJ9_multiplyHigh_f86c9_33 : decode cJ9_multiplyHigh_f86c9 33 = .ok (.lload 4, 2) := by decide +kernel
theorem dJ9_multiplyHigh_f86c9_35 : decode cJ9_multiplyHigh_f86c9 35 = .ok (.lload 10, 2) := by decide +kernel
theorem dJ9_multiplyHigh_f86c9_37 : decode cJ9_multiplyHigh_f86c9 37 = .ok (.lmul, 1) := by decide +kernel
theorem dJ9_multiplyHigh_f86c9_38 : decode cJ9_multiplyHigh_f86c9 38 = .ok (.lload 12, 2) := by decide +kernel
theorem dJ9_multiplyHigh_f86c9_40 : decode cJ9_multiplyHigh_f86c9 40 = .ok (.bipush 32, 2) := by decide +kernel
theorem dJ9_multiplyHigh_f86c9_42 : decode cJ9_multiplyHigh_f86c9 42 = .ok (.lushr, 1) := by decide +kernel
theorem dJ9_multiplyHigh_f86c9_43 : decode cJ9_multiplyHigh_f86c9 43 = .ok (.ladd, 1) := by decide +kernel
theorem dJ9_multiplyHigh_f86c9_44 : decode cJ9_multiplyHigh_f86c9 44 = .ok (.lstore 14, 2) := by decide +kernel
theorem dJ9_multiplyHigh_f86c9_46 : decode cJ9_multiplyHigh_f86c9 46 = .ok (.lload 14, 2) := by decide +kernel
theorem dJ9_multiplyHigh_f86c9_48 : decode cJ9_multiplyHigh_f86c9 48 = .ok (.ldc2_w 138, 3) := by decide +kernel
theorem dJ9_multiplyHigh_f86c9_51 : decode cJ9_multiplyHigh_f86c9 51 = .ok (.land, 1) := by decide +kernel
theorem dJ9_multiplyHigh_f86c9_52 : decode cJ9_multiplyHigh_f86c9 52 = .ok (.lstore 16, 2) := by decide +kernel
theorem dJ9_multiplyHigh_f86c9_54 : decode cJ9_multiplyHigh_f86c9 54 = .ok (.lload 14, 2) := by decide +kernel
theorem dJ9_multiplyHigh_f86c9_56 : decode cJ9_multiplyHigh_f86c9 56 = .ok (.bipush 32, 2) := by decide +kernel
theorem dJ9_multiplyHigh_f86c9_58 : decode cJ9_multiplyHigh_f86c9 58 = .ok (.lshr, 1) := by decide +kernel
theorem dJ9_multiplyHigh_f86c9_59 : decode cJ9_multiplyHigh_f86c9 59 = .ok (.lstore 18, 2) := by decide +kernel
theorem dJ9_multiplyHigh_f86c9_61 : decode cJ9_multiplyHigh_f86c9 61 = .ok (.lload 16, 2) := by decide +kernel
theorem dJ9_multiplyHigh_f86c9_63 : decode cJ9_multiplyHigh_f86c9 63 = .ok (.lload 6, 2) := by decide +kernel
theorem dJ9_multiplyHigh_f86c9_65 : decode cJ9_multiplyHigh_f86c9 65 = .ok (.lload 8, 2) := by decide +kernel
theorem dJ9_multiplyHigh_f86c9_67 : decode cJ9_multiplyHigh_f86c9 67 = .ok (.lmul, 1) := by decide +kernel
theorem dJ9_multiplyHigh_f86c9_68 : decode cJ9_multiplyHigh_f86c9 68 = .ok (.ladd, 1) := by decide +kernel
theorem dJ9_multiplyHigh_f86c9_69 : decode cJ9_multiplyHigh_f86c9 69 = .ok (.lstore 16, 2) := by decide +kernel
theorem dJ9_multiplyHigh_f86c9_71 : decode cJ9_multiplyHigh_f86c9 71 = .ok (.lload 4, 2) := by decide +kernel
theorem dJ9_multiplyHigh_f86c9_73 : decode cJ9_multiplyHigh_f86c9 73 = .ok (.lload 8, 2) := by decide +kernel
theorem dJ9_multiplyHigh_f86c9_75 : decode cJ9_multiplyHigh_f86c9 75 = .ok (.lmul, 1) := by decide +kernel
theorem dJ9_multiplyHigh_f86c9_76 : decode cJ9_multiplyHigh_f86c9 76 = .ok (.lload 18, 2) := by decide +kernel
theorem dJ9_multiplyHigh_f86c9_78 : decode cJ9_multiplyHigh_f86c9 78 = .ok (.ladd, 1) := by decide +kernel
theorem dJ9_multiplyHigh_f86c9_79 : decode cJ9_multiplyHigh_f86c9 79 = .ok (.lload 16, 2) := by decide +kernel
theorem dJ9_multiplyHigh_f86c9_81 : decode cJ9_multiplyHigh_f86c9 81 = .ok (.bipush 32, 2) := by decide +kernel
theorem dJ9_multiplyHigh_f86c9_83 : decode cJ9_multiplyHigh_f86c9 83 = .ok (.lshr, 1) := by decide +kernel
theorem dJ9_multiplyHigh_f86c9_84 : decode cJ9_multiplyHigh_f86c9 84 = .ok (.ladd, 1) := by decide +kernel
theorem dJ9_multiplyHigh_f86c9_85 : decode cJ9_multiplyHigh_f86c9 85 = .ok (.lreturn, 1) := by decide +kernel
theorem dJ9_floorMod_7cf53_0 : decode cJ9_floorMod_7cf53 0 = .ok (.iload_n 0, 1) := by decide +kernel
theorem dJ9_floorMod_7cf53_1 : decode cJ9_floorMod_7cf53 1 = .ok (.iload_n 1, 1) := by decide +kernel
theorem dJ9_floorMod_7cf53_2 : decode cJ9_floorMod_7cf53 2 = .ok (.irem, 1) := by decide +kernel
theorem dJ9_floorMod_7cf53_3 : decode cJ9_floorMod_7cf53 3 = .ok (.istore_n 2, 1) := by decide +kernel
theorem dJ9_floorMod_7cf53_4 : decode cJ9_floorMod_7cf53 4 = .ok (.iload_n 0, 1) := by decide +kernel
theorem dJ9_floorMod_7cf53_5 : decode cJ9_floorMod_7cf53 5 = .ok (.iload_n 1, 1) := by decide +kernel
theorem dJ9_floorMod_7cf53_6 : decode cJ9_floorMod_7cf53 6 = .ok (.ixor, 1) := by decide +kernel
theorem dJ9_floorMod_7cf53_7 : decode cJ9_floorMod_7cf53 7 = .ok (.ifCond .ge 11, 3) := by decide +kernel
theorem dJ9_floorMod_7cf53_10 : decode cJ9_floorMod_7cf53 10 = .ok (.iload_n 2, 1) := by decide +kernel
theorem dJ9_floorMod_7cf53_11 : decode cJ9_floorMod_7cf53 11 = .ok (.ifCond .eq 7, 3) := by decide +kernel
theorem dJ9_floorMod_7cf53_14 : decode cJ9_floorMod_7cf53 14 = .ok (.iload_n 2, 1) := by decide +kernel
theorem dJ9_floorMod_7cf53_15 : decode cJ9_floorMod_7cf53 15 = .ok (.iload_n 1, 1) := by decide +kernel
theorem dJ9_floorMod_7cf53_16 : decode cJ9_floorMod_7cf53 16 = .ok (.iadd, 1) := by decide +kernel
theorem dJ9_floorMod_7cf53_17 : decode cJ9_floorMod_7cf53 17 = .ok (.ireturn, 1) := by decide +kernel
theorem dJ9_floorMod_7cf53_18 : decode cJ9_floorMod_7cf53 18 = .ok (.iload_n 2, 1) := by decide +kernel
theorem dJ9_floorMod_7cf53_19 : decode cJ9_floorMod_7cf53 19 = .ok (.ireturn, 1) := by decide +kernel
theorem dJ9_max_7cf53_0 : decode cJ9_max_7cf53 0 = .ok (.iload_n 0, 1) := by decide +kernel
theorem dJ9_max_7cf53_1 : decode cJ9_max_7cf53 1 = .ok (.iload_n 1, 1) := by decide +kernel
theorem dJ9_max_7cf53_2 : decode cJ9_max_7cf53 2 = .ok (.if_icmp .lt 7, 3) := by decide +kernel
theorem dJ9_max_7cf53_5 : decode cJ9_max_7cf53 5 = .ok (.iload_n 0, 1) := by decide +kernel
theorem dJ9_max_7cf53_6 : decode cJ9_max_7cf53 6 = .ok (.goto 4, 3) := by decide +kernel
theorem dJ9_max_7cf53_9 : decode cJ9_max_7cf53 9 = .ok (.iload_n 1, 1) := by decide +kernel
theorem dJ9_max_7cf53_10 : decode cJ9_max_7cf53 10 = .ok (.ireturn, 1) := by decide +kernel
theorem dJ9_min_7cf53_0 : decode cJ9_min_7cf53 0 = .ok (.iload_n 0, 1) := by decide +kernel
theorem dJ9_min_7cf53_1 : decode cJ9_min_7cf53 1 = .ok (.iload_n 1, 1) := by decide +kernel
theorem dJ9_min_7cf53_2 : decode cJ9_min_7cf53 2 = .ok (.if_icmp .gt 7, 3) := by decide +kernel
theorem dJ9_min_7cf53_5 : decode cJ9_min_7cf53 5 = .ok (.iload_n 0, 1) := by decide +kernel
theorem dJ9_min_7cf53_6 : decode cJ9_min_7cf53 6 = .ok (.goto 4, 3) := by decide +kernel
theorem dJ9_min_7cf53_9 : decode cJ9_min_7cf53 9 = .ok (.iload_n 1, 1) := by decide +kernel
theorem dJ9_min_7cf53_10 : decode cJ9_min_7cf53 10 = .ok (.ireturn, 1) := by decide +kernel
theorem dJ9_min_e70c8_0 : decode cJ9_min_e70c8 0 = .ok (.fload_n 0, 1) := by decide +kernel
theorem dJ9_min_e70c8_1 : decode cJ9_min_e70c8 1 = .ok (.fload_n 0, 1) := by decide +kernel
theorem dJ9_min_e70c8_2 : decode cJ9_min_e70c8 2 = .ok (.fcmp .l, 1) := by decide +kernel
theorem dJ9_min_e70c8_3 : decode cJ9_min_e70c8 3 = .ok (.ifCond .eq 5, 3) := by decide +kernel
theorem dJ9_min_e70c8_6 : decode cJ9_min_e70c8 6 = .ok (.fload_n 0, 1) := by decide +kernel
theorem dJ9_min_e70c8_7 : decode cJ9_min_e70c8 7 = .ok (.freturn, 1) := by decide +kernel
theorem dJ9_min_e70c8_8 : decode cJ9_min_e70c8 8 = .ok (.fload_n 0, 1) := by decide +kernel
theorem dJ9_min_e70c8_9 : decode cJ9_min_e70c8 9 = .ok (.fconst 0, 1) := by decide +kernel
theorem dJ9_min_e70c8_10 : decode cJ9_min_e70c8 10 = .ok (.fcmp .l, 1) := by decide +kernel
theorem dJ9_min_e70c8_11 : decode cJ9_min_e70c8 11 = .ok (.ifCond .ne 23, 3) := by decide +kernel
theorem dJ9_min_e70c8_14 : decode cJ9_min_e70c8 14 = .ok (.fload_n 1, 1) := by decide +kernel
theorem dJ9_min_e70c8_15 : decode cJ9_min_e70c8 15 = .ok (.fconst 0, 1) := by decide +kernel
theorem dJ9_min_e70c8_16 : decode cJ9_min_e70c8 16 = .ok (.fcmp .l, 1) := by decide +kernel
theorem dJ9_min_e70c8_17 : decode cJ9_min_e70c8 17 = .ok (.ifCond .ne 17, 3) := by decide +kernel
theorem dJ9_min_e70c8_20 : decode cJ9_min_e70c8 20 = .ok (.fload_n 1, 1) := by decide +kernel
theorem dJ9_min_e70c8_21 : decode cJ9_min_e70c8 21 = .ok (.invokestatic 68, 3) := by decide +kernel
theorem dJ9_min_e70c8_24 : decode cJ9_min_e70c8 24 = .ok (.i2l, 1) := by decide +kernel
theorem dJ9_min_e70c8_25 : decode cJ9_min_e70c8 25 = .ok (.getstatic 170, 3) := by decide +kernel
theorem dJ9_min_e70c8_28 : decode cJ9_min_e70c8 28 = .ok (.lcmp, 1) := by decide +kernel
theorem dJ9_min_e70c8_29 : decode cJ9_min_e70c8 29 = .ok (.ifCond .ne 5, 3) := by decide +kernel
theorem dJ9_min_e70c8_32 : decode cJ9_min_e70c8 32 = .ok (.fload_n 1, 1) := by decide +kernel
theorem dJ9_min_e70c8_33 : decode cJ9_min_e70c8 33 = .ok (.freturn, 1) := by decide +kernel
theorem dJ9_min_e70c8_34 : decode cJ9_min_e70c8 34 = .ok (.fload_n 0, 1) := by decide +kernel
theorem dJ9_min_e70c8_35 : decode cJ9_min_e70c8 35 = .ok (.fload_n 1, 1) := by decide +kernel
theorem dJ9_min_e70c8_36 : decode cJ9_min_e70c8 36 = .ok (.fcmp .g, 1) := by decide +kernel
theorem dJ9_min_e70c8_37 : decode cJ9_min_e70c8 37 = .ok (.ifCond .gt 7, 3) := by decide +kernel
theorem dJ9_min_e70c8_40 : decode cJ9_min_e70c8 40 = .ok (.fload_n 0, 1) := by decide +kernel
theorem dJ9_min_e70c8_41 : decode cJ9_min_e70c8 41 = .ok (.goto 4, 3) := by decide +kernel
theorem dJ9_min_e70c8_44 : decode cJ9_min_e70c8 44 = .ok (.fload_n 1, 1) := by decide +kernel
theorem dJ9_min_e70c8_45 : decode cJ9_min_e70c8 45 = .ok (.freturn, 1) := by decide +kernel
set_option maxRecDepth 20000 in
theorem ggJ0_init_81219_J0_init_db425 : GoodIn wsJ0_init_81219 wsJ0_init_db425 := goodIn_r _ [4, 5, 6, 7, 8, 9, 10, 11, 12, 13, 14, 15, 16, 17, 18, 19, 20, 21, 22, 23, 24, 25, 26, 27, 28, 29, 30, 31, 32, 33, 34, 35, 36, 37, 38, 39, 40, 41, 42, 43, 44, 45, 46, 47, 48, 49, 50, 51, 52, 53, 54, 55, 56, 57, 58, 59, 60, 61, 62, 63, 64, 65, 66, 67, 68, 69, 70, 71, 72, 73, 74, 75, 76, 77, 78, 79, 3, 80, 81, 82, 83, 84, 85, 86, 87, 88, 89, 90, 91, 92, 93, 94, 95, 96, 97, 98, 99, 100, 101, 102, 103, 104, 105, 106, 107] rfl (by decide +kernel)
set_option maxRecDepth 20000 in
theorem gJ0_init_81219_J0_init_db425 : GoodIn wsJ0_init_81219 (wsJ0_init_db425) := ggJ0_init_81219_J0_init_db425
theorem dJ0_init_81219_0 : decode cJ0_init_81219 0 = .ok (.aload_n 0, 1) := by decide +kernel
theorem dJ0_init_81219_1 : decode cJ0_init_81219 1 = .ok (.aload_n 1, 1) := by decide +kernel
theorem dJ0_init_81219_2 : decode cJ0_init_81219 2 = .ok (.aconst_null, 1) := by decide +kernel
theorem dJ0_init_81219_3 : decode cJ0_init_81219 3 = .ok (.invokespecial 489, 3) := by decide +kernel
theorem dJ0_init_81219_6 : decode cJ0_init_81219 6 = .ok (.return_, 1) := by decide +kernel
set_option maxRecDepth 20000 in
theorem ggJ0_length_8abf5_J0_coder_7d493 : GoodIn wsJ0_length_8abf5 wsJ0_coder_7d493 := goodIn_r _ [6, 7, 8, 9, 10, 11, 12] rfl (by decide +kernel)
set_option maxRecDepth 20000 in
theorem gJ0_length_8abf5_J0_coder_7d493 : GoodIn wsJ0_length_8abf5 (wsV RJ0 335 RJ0 yJ0_coder_7d493 wsJ0_coder_7d493) := goodIn_app (goodIn_of _ (by decide +kernel)) ggJ0_length_8abf5_J0_coder_7d493
theorem dJ0_length_8abf5_0 : decode cJ0_length_8abf5 0 = .ok (.aload_n 0, 1) := by decide +kernel
theorem dJ0_length_8abf5_1 : decode cJ0_length_8abf5 1 = .ok (.getfield 9, 3) := by decide +kernel
theorem dJ0_length_8abf5_4 : decode cJ0_length_8abf5 4 = .ok (.arraylength, 1) := by decide +kernel
theorem dJ0_length_8abf5_5 : decode cJ0_length_8abf5 5 = .ok (.aload_n 0, 1) := by decide +kernel
theorem dJ0_length_8abf5_6 : decode cJ0_length_8abf5 6 = .ok (.invokevirtual 335, 3) := by decide +kernel
theorem dJ0_length_8abf5_9 : decode cJ0_length_8abf5 9 = .ok (.ishr, 1) := by decide +kernel
theorem dJ0_length_8abf5_10 : decode cJ0_length_8abf5 10 = .ok (.ireturn, 1) := by decide +kernel
set_option maxRecDepth 20000 in
theorem ggJ0_charAt_5068e_J0_isLatin1_aae02 : GoodIn wsJ0_charAt_5068e wsJ0_isLatin1_aae02 := goodIn_r _ [6, 7, 8, 38, 39, 40, 41] rfl (by decide +kernel)
set_option maxRecDepth 20000 in
theorem gJ0_charAt_5068e_J0_isLatin1_aae02 : GoodIn wsJ0_charAt_5068e (wsV RJ0 492 RJ0 yJ0_isLatin1_aae02 wsJ0_isLatin1_aae02) := goodIn_app (goodIn_of _ (by decide +kernel)) ggJ0_charAt_5068e_J0_isLatin1_aae02
set_option maxRecDepth 20000 in
theorem ggJ0_charAt_5068e_J1_charAt_3b067 : GoodIn wsJ0_charAt_5068e wsJ1_charAt_3b067 := goodIn_r _ [12, 13, 14, 5, 15, 16, 17, 18, 19, 20] rfl (by decide +kernel)
set_option maxRecDepth 20000 in
theorem gJ0_charAt_5068e_J1_charAt_3b067 : GoodIn wsJ0_charAt_5068e (va_wsS RJ0 495 yJ1_charAt_3b067 wsJ1_charAt_3b067) := goodIn_app (goodIn_of _ (by decide +kernel)) ggJ0_charAt_5068e_J1_charAt_3b067
set_option maxRecDepth 20000 in
theorem ggJ0_charAt_5068e_J2_charAt_3b067 : GoodIn wsJ0_charAt_5068e wsJ2_charAt_3b067 := goodIn_r _ [24, 25, 26, 23, 27, 28, 29, 30, 31, 14, 5, 15, 16, 17, 18, 19, 20, 32, 33, 34, 35, 36, 37] rfl (by decide +kernel)
set_option maxRecDepth 20000 in
theorem gJ0_charAt_5068e_J2_charAt_3b067 : GoodIn wsJ0_charAt_5068e (va_wsS RJ0 498 yJ2_charAt_3b067 wsJ2_charAt_3b067) := goodIn_app (goodIn_of _ (by decide +kernel)) ggJ0_charAt_5068e_J2_charAt_3b067
theorem dJ0_charAt_5068e_0 : decode cJ0_charAt_5068e 0 = .ok (.aload_n 0, 1) := by decide +kernel
theorem dJ0_charAt_5068e_1 : decode cJ0_charAt_5068e 1 = .ok (.invokevirtual 492, 3) := by decide +kernel
theorem dJ0_charAt_5068e_4 : decode cJ0_charAt_5068e 4 = .ok (.ifCond .eq 12, 3) := by decide +kernel
theorem dJ0_charAt_5068e_7 : decode cJ0_charAt_5068e 7 = .ok (.aload_n 0, 1) := by decide +kernel
theorem dJ0_charAt_5068e_8 : decode cJ0_charAt_5068e 8 = .ok (.getfield 9, 3) := by decide +kernel
theorem dJ0_charAt_5068e_11 : decode cJ0_charAt_5068e 11 = .ok (.iload_n 1, 1) := by decide +kernel
theorem dJ0_charAt_5068e_12 : decode cJ0_charAt_5068e 12 = .ok (.invokestatic 495, 3) := by decide +kernel
theorem dJ0_charAt_5068e_15 : decode cJ0_charAt_5068e 15 = .ok (.ireturn, 1) := by decide +kernel
theorem dJ0_charAt_5068e_16 : decode cJ0_charAt_5068e 16 = .ok (.aload_n 0, 1) := by decide +kernel
theorem dJ0_charAt_5068e_17 : decode cJ0_charAt_5068e 17 = .ok (.getfield 9, 3) := by decide +kernel
theorem dJ0_charAt_5068e_20 : decode cJ0_charAt_5068e 20 = .ok (.iload_n 1, 1) := by decide +kernel
theorem dJ0_charAt_5068e_21 : decode cJ0_charAt_5068e 21 = .ok (.invokestatic 498, 3) := by decide +kernel
theorem dJ0_charAt_5068e_24 : decode cJ0_charAt_5068e 24 = .ok (.ireturn, 1) := by decide +kernel
set_option maxRecDepth 20000 in
theorem ggJ0_equals_9ea2d_J1_equals_b5fdf : GoodIn wsJ0_equals_9ea2d wsJ1_equals_b5fdf := goodIn_r _ [8] rfl (by decide +kernel)
set_option maxRecDepth 20000 in
theorem gJ0_equals_9ea2d_J1_equals_b5fdf : GoodIn wsJ0_equals_9ea2d (va_wsS RJ0 541 yJ1_equals_b5fdf wsJ1_equals_b5fdf) := goodIn_app (goodIn_of _ (by decide +kernel)) ggJ0_equals_9ea2d_J1_equals_b5fdf
theorem dJ0_equals_9ea2d_0 : decode cJ0_equals_9ea2d 0 = .ok (.aload_n 0, 1) := by decide +kernel
theorem dJ0_equals_9ea2d_1 : decode cJ0_equals_9ea2d 1 = .ok (.aload_n 1, 1) := by decide +kernel
theorem dJ0_equals_9ea2d_2 : decode cJ0_equals_9ea2d 2 = .ok (.if_acmp .ne 5, 3) := by decide +kernel
theorem dJ0_equals_9ea2d_5 : decode cJ0_equals_9ea2d 5 = .ok (.iconst 1, 1) := by decide +kernel
theorem dJ0_equals_9ea2d_6 : decode cJ0_equals_9ea2d 6 = .ok (.ireturn, 1) := by decide +kernel
theorem dJ0_equals_9ea2d_7 : decode cJ0_equals_9ea2d 7 = .ok (.aload_n 1, 1) := by decide +kernel
theorem dJ0_equals_9ea2d_8 : decode cJ0_equals_9ea2d 8 = .ok (.instanceof 10, 3) := by decide +kernel
theorem dJ0_equals_9ea2d_11 : decode cJ0_equals_9ea2d 11 = .ok (.ifCond .eq 43, 3) := by decide +kernel
theorem dJ0_equals_9ea2d_14 : decode cJ0_equals_9ea2d 14 = .ok (.aload_n 1, 1) := by decide +kernel
theorem dJ0_equals_9ea2d_15 : decode cJ0_equals_9ea2d 15 = .ok (.checkcast 10, 3) := by decide +kernel
theorem dJ0_equals_9ea2d_18 : decode cJ0_equals_9ea2d 18 = .ok (.astore_n 2, 1) := by decide +kernel
theorem dJ0_equals_9ea2d_19 : decode cJ0_equals_9ea2d 19 = .ok (.getstatic 38, 3) := by decide +kernel
theorem dJ0_equals_9ea2d_22 : decode cJ0_equals_9ea2d 22 = .ok (.ifCond .eq 14, 3) := by decide +kernel
theorem dJ0_equals_9ea2d_25 : decode cJ0_equals_9ea2d 25 = .ok (.aload_n 0, 1) := by decide +kernel
theorem dJ0_equals_9ea2d_26 : decode cJ0_equals_9ea2d 26 = .ok (.getfield 15, 3) := by decide +kernel
theorem dJ0_equals_9ea2d_29 : decode cJ0_equals_9ea2d 29 = .ok (.aload_n 2, 1) := by decide +kernel
theorem dJ0_equals_9ea2d_30 : decode cJ0_equals_9ea2d 30 = .ok (.getfield 15, 3) := by decide +kernel
theorem dJ0_equals_9ea2d_33 : decode cJ0_equals_9ea2d 33 = .ok (.if_icmp .ne 21, 3) := by decide +kernel
theorem dJ0_equals_9ea2d_36 : decode cJ0_equals_9ea2d 36 = .ok (.aload_n 0, 1) := by decide +kernel
theorem dJ0_equals_9ea2d_37 : decode cJ0_equals_9ea2d 37 = .ok (.getfield 9, 3) := by decide +kernel
theorem dJ0_equals_9ea2d_40 : decode cJ0_equals_9ea2d 40 = .ok (.aload_n 2, 1) := by decide +kernel
theorem dJ0_equals_9ea2d_41 : decode cJ0_equals_9ea2d 41 = .ok (.getfield 9, 3) := by decide +kernel
theorem dJ0_equals_9ea2d_44 : decode cJ0_equals_9ea2d 44 = .ok (.invokestatic 541, 3) := by decide +kernel
theorem dJ0_equals_9ea2d_47 : decode cJ0_equals_9ea2d 47 = .ok (.ifCond .eq 7, 3) := by decide +kernel
theorem dJ0_equals_9ea2d_50 : decode cJ0_equals_9ea2d 50 = .ok (.iconst 1, 1) := by decide +kernel
theorem dJ0_equals_9ea2d_51 : decode cJ0_equals_9ea2d 51 = .ok (.goto 4, 3) := by decide +kernel
theorem dJ0_equals_9ea2d_54 : decode cJ0_equals_9ea2d 54 = .ok (.iconst 0, 1) := by decide +kernel
theorem dJ0_equals_9ea2d_55 : decode cJ0_equals_9ea2d 55 = .ok (.ireturn, 1) := by decide +kernel
set_option maxRecDepth 20000 in
theorem ggJ0_indexOf_0f7a4_J0_indexOf_7cf53 : GoodIn wsJ0_indexOf_0f7a4 wsJ0_indexOf_7cf53 := goodIn_r _ [5, 6, 7, 8, 9, 4, 10, 11, 12, 13, 14, 15, 16, 17, 18, 19, 20, 21, 22, 23, 24, 25, 26, 27, 28, 29, 30, 31, 32, 33, 34, 35, 36, 37, 38, 39, 40, 41, 42, 43, 44, 45, 46, 47, 48, 49, 50, 51, 52, 53, 54, 55, 56, 57, 58, 59, 60, 61, 62, 63, 64, 65, 66, 67, 68, 69, 70, 71, 72, 73, 74, 75, 76, 77, 78, 79, 80, 81, 82, 83, 84, 85, 86, 87, 88, 89] rfl (by decide +kernel)
set_option maxRecDepth 20000 in
theorem gJ0_indexOf_0f7a4_J0_indexOf_7cf53 : GoodIn wsJ0_indexOf_0f7a4 (wsV RJ0 633 RJ0 yJ0_indexOf_7cf53 wsJ0_indexOf_7cf53) := goodIn_app (goodIn_of _ (by decide +kernel)) ggJ0_indexOf_0f7a4_J0_indexOf_7cf53
theorem dJ0_indexOf_0f7a4_0 : decode cJ0_indexOf_0f7a4 0 = .ok (.aload_n 0, 1) := by decide +kernel
theorem dJ0_indexOf_0f7a4_1 : decode cJ0_indexOf_0f7a4 1 = .ok (.iload_n 1, 1) := by decide +kernel
theorem dJ0_indexOf_0f7a4_2 : decode cJ0_indexOf_0f7a4 2 = .ok (.iconst 0, 1) := by decide +kernel
theorem dJ0_indexOf_0f7a4_3 : decode cJ0_indexOf_0f7a4 3 = .ok (.invokevirtual 633, 3) := by decide +kernel
theorem dJ0_indexOf_0f7a4_6 : decode cJ0_indexOf_0f7a4 6 = .ok (.ireturn, 1) := by decide +kernel
set_option maxRecDepth 20000 in
theorem ggJ0_indexOf_7cf53_J0_isLatin1_aae02 : GoodIn wsJ0_indexOf_7cf53 wsJ0_isLatin1_aae02 := goodIn_r _ [6, 7, 8, 82, 83, 84, 85] rfl (by decide +kernel)
set_option maxRecDepth 20000 in
theorem gJ0_indexOf_7cf53_J0_isLatin1_aae02 : GoodIn wsJ0_indexOf_7cf53 (wsV RJ0 492 RJ0 yJ0_isLatin1_aae02 wsJ0_isLatin1_aae02) := goodIn_app (goodIn_of _ (by decide +kernel)) ggJ0_indexOf_7cf53_J0_isLatin1_aae02
set_option maxRecDepth 20000 in
theorem ggJ0_indexOf_7cf53_J0_length_8abf5 : GoodIn wsJ0_indexOf_7cf53 wsJ0_length_8abf5 := goodIn_r _ [12, 1, 13, 14, 15, 5, 16, 7, 8, 82, 83, 84, 85] rfl (by decide +kernel)
set_option maxRecDepth 20000 in
theorem gJ0_indexOf_7cf53_J0_length_8abf5 : GoodIn wsJ0_indexOf_7cf53 (wsV RJ0 505 RJ0 yJ0_length_8abf5 wsJ0_length_8abf5) := goodIn_app (goodIn_of _ (by decide +kernel)) ggJ0_indexOf_7cf53_J0_length_8abf5
set_option maxRecDepth 20000 in
theorem ggJ0_indexOf_7cf53_J1_indexOf_4cfef : GoodIn wsJ0_indexOf_7cf53 wsJ1_indexOf_4cfef := goodIn_r _ [20, 21, 22, 23, 24, 25, 26, 27, 28, 29, 19, 30, 31, 32, 33] rfl (by decide +kernel)
set_option maxRecDepth 20000 in
theorem gJ0_indexOf_7cf53_J1_indexOf_4cfef : GoodIn wsJ0_indexOf_7cf53 (va_wsS RJ0 637 yJ1_indexOf_4cfef wsJ1_indexOf_4cfef) := goodIn_app (goodIn_of _ (by decide +kernel)) ggJ0_indexOf_7cf53_J1_indexOf_4cfef
set_option maxRecDepth 20000 in
theorem ggJ0_indexOf_7cf53_J2_indexOf_4cfef : GoodIn wsJ0_indexOf_7cf53 wsJ2_indexOf_4cfef := goodIn_r _ [37, 38, 22, 23, 24, 39, 26, 27, 40, 41, 42, 36, 43, 44, 45, 46, 47, 48, 49, 50, 51, 5, 52, 53, 54, 55, 56, 57, 58, 59, 60, 61, 62, 63, 64, 65, 66, 67, 68, 69, 70, 71, 72, 73, 74, 75, 76, 77, 78, 79, 80, 81] rfl (by decide +kernel)
set_option maxRecDepth 20000 in
theorem gJ0_indexOf_7cf53_J2_indexOf_4cfef : GoodIn wsJ0_indexOf_7cf53 (va_wsS RJ0 640 yJ2_indexOf_4cfef wsJ2_indexOf_4cfef) := goodIn_app (goodIn_of _ (by decide +kernel)) ggJ0_indexOf_7cf53_J2_indexOf_4cfef
theorem dJ0_indexOf_7cf53_0 : decode cJ0_indexOf_7cf53 0 = .ok (.aload_n 0, 1) := by decide +kernel
theorem dJ0_indexOf_7cf53_1 : decode cJ0_indexOf_7cf53 1 = .ok (.invokevirtual 492, 3) := by decide +kernel
theorem dJ0_indexOf_7cf53_4 : decode cJ0_indexOf_7cf53 4 = .ok (.ifCond .eq 19, 3) := by decide +kernel
theorem dJ0_indexOf_7cf53_7 : decode cJ0_indexOf_7cf53 7 = .ok (.aload_n 0, 1) := by decide +kernel
theorem dJ0_indexOf_7cf53_8 : decode cJ0_indexOf_7cf53 8 = .ok (.getfield 9, 3) := by decide +kernel
theorem dJ0_indexOf_7cf53_11 : decode cJ0_indexOf_7cf53 11 = .ok (.iload_n 1, 1) := by decide +kernel
theorem dJ0_indexOf_7cf53_12 : decode cJ0_indexOf_7cf53 12 = .ok (.iload_n 2, 1) := by decide +kernel
theorem dJ0_indexOf_7cf53_13 : decode cJ0_indexOf_7cf53 13 = .ok (.aload_n 0, 1) := by decide +kernel
theorem dJ0_indexOf_7cf53_14 : decode cJ0_indexOf_7cf53 14 = .ok (.invokevirtual 505, 3) := by decide +kernel
theorem dJ0_indexOf_7cf53_17 : decode cJ0_indexOf_7cf53 17 = .ok (.invokestatic 637, 3) := by decide +kernel
theorem dJ0_indexOf_7cf53_20 : decode cJ0_indexOf_7cf53 20 = .ok (.goto 16, 3) := by decide +kernel
theorem dJ0_indexOf_7cf53_23 : decode cJ0_indexOf_7cf53 23 = .ok (.aload_n 0, 1) := by decide +kernel
theorem dJ0_indexOf_7cf53_24 : decode cJ0_indexOf_7cf53 24 = .ok (.getfield 9, 3) := by decide +kernel
theorem dJ0_indexOf_7cf53_27 : decode cJ0_indexOf_7cf53 27 = .ok (.iload_n 1, 1) := by decide +kernel
theorem dJ0_indexOf_7cf53_28 : decode cJ0_indexOf_7cf53 28 = .ok (.iload_n 2, 1) := by decide +kernel
theorem dJ0_indexOf_7cf53_29 : decode cJ0_indexOf_7cf53 29 = .ok (.aload_n 0, 1) := by decide +kernel
theorem dJ0_indexOf_7cf53_30 : decode cJ0_indexOf_7cf53 30 = .ok (.invokevirtual 505, 3) := by decide +kernel
theorem dJ0_indexOf_7cf53_33 : decode cJ0_indexOf_7cf53 33 = .ok (.invokestatic 640, 3) := by decide +kernel
theorem dJ0_indexOf_7cf53_36 : decode cJ0_indexOf_7cf53 36 = .ok (.ireturn, 1) := by decide +kernel
set_option maxRecDepth 20000 in
theorem ggJ0_getBytes_840e7_J0_coder_7d493 : GoodIn wsJ0_getBytes_840e7 wsJ0_coder_7d493 := goodIn_r _ [10, 11, 12, 41, 42, 43, 44] rfl (by decide +kernel)
set_option maxRecDepth 20000 in
theorem gJ0_getBytes_840e7_J0_coder_7d493 : GoodIn wsJ0_getBytes_840e7 (wsV RJ0 335 RJ0 yJ0_coder_7d493 wsJ0_coder_7d493) := goodIn_app (goodIn_of _ (by decide +kernel)) ggJ0_getBytes_840e7_J0_coder_7d493
set_option maxRecDepth 20000 in
theorem ggJ0_getBytes_840e7_J1_inflate_0e8fd : GoodIn wsJ0_getBytes_840e7 wsJ1_inflate_0e8fd := goodIn_r _ [16, 17, 18, 19, 20, 21, 22, 23, 24, 25, 26, 27, 28, 9, 29, 30, 31, 32, 33, 34, 35, 36, 37, 38, 39, 40] rfl (by decide +kernel)
set_option maxRecDepth 20000 in
theorem gJ0_getBytes_840e7_J1_inflate_0e8fd : GoodIn wsJ0_getBytes_840e7 (va_wsS RJ0 106 yJ1_inflate_0e8fd wsJ1_inflate_0e8fd) := goodIn_app (goodIn_of _ (by decide +kernel)) ggJ0_getBytes_840e7_J1_inflate_0e8fd
theorem dJ0_getBytes_840e7_0 : decode cJ0_getBytes_840e7 0 = .ok (.aload_n 0, 1) := by decide +kernel
theorem dJ0_getBytes_840e7_1 : decode cJ0_getBytes_840e7 1 = .ok (.invokevirtual 335, 3) := by decide +kernel
theorem dJ0_getBytes_840e7_4 : decode cJ0_getBytes_840e7 4 = .ok (.iload_n 3, 1) := by decide +kernel
theorem dJ0_getBytes_840e7_5 : decode cJ0_getBytes_840e7 5 = .ok (.if_icmp .ne 23, 3) := by decide +kernel
theorem dJ0_getBytes_840e7_8 : decode cJ0_getBytes_840e7 8 = .ok (.aload_n 0, 1) := by decide +kernel
theorem dJ0_getBytes_840e7_9 : decode cJ0_getBytes_840e7 9 = .ok (.getfield 9, 3) := by decide +kernel
theorem dJ0_getBytes_840e7_12 : decode cJ0_getBytes_840e7 12 = .ok (.iconst 0, 1) := by decide +kernel
theorem dJ0_getBytes_840e7_13 : decode cJ0_getBytes_840e7 13 = .ok (.aload_n 1, 1) := by decide +kernel
theorem dJ0_getBytes_840e7_14 : decode cJ0_getBytes_840e7 14 = .ok (.iload_n 2, 1) := by decide +kernel
theorem dJ0_getBytes_840e7_15 : decode cJ0_getBytes_840e7 15 = .ok (.iload_n 3, 1) := by decide +kernel
theorem dJ0_getBytes_840e7_16 : decode cJ0_getBytes_840e7 16 = .ok (.ishl, 1) := by decide +kernel
theorem dJ0_getBytes_840e7_17 : decode cJ0_getBytes_840e7 17 = .ok (.aload_n 0, 1) := by decide +kernel
theorem dJ0_getBytes_840e7_18 : decode cJ0_getBytes_840e7 18 = .ok (.getfield 9, 3) := by decide +kernel
theorem dJ0_getBytes_840e7_21 : decode cJ0_getBytes_840e7 21 = .ok (.arraylength, 1) := by decide +kernel
theorem dJ0_getBytes_840e7_22 : decode cJ0_getBytes_840e7 22 = .ok (.invokestatic 212, 3) := by decide +kernel
theorem dJ0_getBytes_840e7_25 : decode cJ0_getBytes_840e7 25 = .ok (.goto 18, 3) := by decide +kernel
theorem dJ0_getBytes_840e7_28 : decode cJ0_getBytes_840e7 28 = .ok (.aload_n 0, 1) := by decide +kernel
theorem dJ0_getBytes_840e7_29 : decode cJ0_getBytes_840e7 29 = .ok (.getfield 9, 3) := by decide +kernel
theorem dJ0_getBytes_840e7_32 : decode cJ0_getBytes_840e7 32 = .ok (.iconst 0, 1) := by decide +kernel
theorem dJ0_getBytes_840e7_33 : decode cJ0_getBytes_840e7 33 = .ok (.aload_n 1, 1) := by decide +kernel
theorem dJ0_getBytes_840e7_34 : decode cJ0_getBytes_840e7 34 = .ok (.iload_n 2, 1) := by decide +kernel
theorem dJ0_getBytes_840e7_35 : decode cJ0_getBytes_840e7 35 = .ok (.aload_n 0, 1) := by decide +kernel
theorem dJ0_getBytes_840e7_36 : decode cJ0_getBytes_840e7 36 = .ok (.getfield 9, 3) := by decide +kernel
theorem dJ0_getBytes_840e7_39 : decode cJ0_getBytes_840e7 39 = .ok (.arraylength, 1) := by decide +kernel
theorem dJ0_getBytes_840e7_40 : decode cJ0_getBytes_840e7 40 = .ok (.invokestatic 106, 3) := by decide +kernel
theorem dJ0_getBytes_840e7_43 : decode cJ0_getBytes_840e7 43 = .ok (.return_, 1) := by decide +kernel
set_option maxRecDepth 20000 in
theorem ggJ0_init_db425_J5_getValue_6d5f1 : GoodIn wsJ0_init_db425 wsJ5_getValue_6d5f1 := goodIn_r _ [13, 14, 101, 102, 103, 104] rfl (by decide +kernel)
set_option maxRecDepth 20000 in
theorem gJ0_init_db425_J5_getValue_6d5f1_u552J4 : GoodIn wsJ0_init_db425 (va_wsU RJ0 552 RJ4 "java/lang/AbstractStringBuilder" ⟨"java/lang/AbstractStringBuilder", "getValue", "()[B"⟩ yJ5_getValue_6d5f1 wsJ5_getValue_6d5f1) := goodIn_app (goodIn_of _ (by decide +kernel)) ggJ0_init_db425_J5_getValue_6d5f1
set_option maxRecDepth 20000 in
theorem ggJ0_init_db425_J4_length_8abf5 : GoodIn wsJ0_init_db425 wsJ4_length_8abf5 := goodIn_r _ [21, 22, 16, 23, 24, 12, 25, 26, 101, 102, 103, 104] rfl (by decide +kernel)
set_option maxRecDepth 20000 in
theorem gJ0_init_db425_J4_length_8abf5_u549J4 : GoodIn wsJ0_init_db425 (va_wsO RJ0 549 RJ4 "java/lang/AbstractStringBuilder" ⟨"java/lang/AbstractStringBuilder", "length", "()I"⟩ yJ4_length_8abf5 wsJ4_length_8abf5) := goodIn_app (goodIn_of _ (by decide +kernel)) ggJ0_init_db425_J4_length_8abf5
set_option maxRecDepth 20000 in
theorem ggJ0_init_db425_J5_isLatin1_aae02 : GoodIn wsJ0_init_db425 wsJ5_isLatin1_aae02 := goodIn_r _ [31, 32, 33, 101, 102, 103, 104] rfl (by decide +kernel)
set_option maxRecDepth 20000 in
theorem gJ0_init_db425_J5_isLatin1_aae02_u1047J4 : GoodIn wsJ0_init_db425 (va_wsU RJ0 1047 RJ4 "java/lang/AbstractStringBuilder" ⟨"java/lang/AbstractStringBuilder", "isLatin1", "()Z"⟩ yJ5_isLatin1_aae02 wsJ5_isLatin1_aae02) := goodIn_app (goodIn_of _ (by decide +kernel)) ggJ0_init_db425_J5_isLatin1_aae02
set_option maxRecDepth 20000 in
theorem ggJ0_init_db425_J7_copyOfRange_39247 : GoodIn wsJ0_init_db425 wsJ7_copyOfRange_39247 := goodIn_r _ [37, 38, 39, 40, 41, 42, 43, 44, 45, 36, 46, 47, 48, 49, 50, 51, 52, 53, 54, 55, 56, 57, 58, 59, 60, 20, 101, 102, 103, 104] rfl (by decide +kernel)
set_option maxRecDepth 20000 in
theorem gJ0_init_db425_J7_copyOfRange_39247 : GoodIn wsJ0_init_db425 (va_wsS RJ0 54 yJ7_copyOfRange_39247 wsJ7_copyOfRange_39247) := goodIn_app (goodIn_of _ (by decide +kernel)) ggJ0_init_db425_J7_copyOfRange_39247
set_option maxRecDepth 20000 in
theorem ggJ0_init_db425_J2_compress_39247 : GoodIn wsJ0_init_db425 wsJ2_compress_39247 := goodIn_r _ [64, 47, 65, 66, 63, 67, 68, 69, 70, 71, 72, 73, 74, 75, 76, 77, 78, 79, 80, 81, 82, 83, 84, 85, 86, 87, 88, 89, 90, 91, 92, 93, 35, 36, 37, 38, 39, 40, 41, 42, 43, 44, 45, 46, 48, 49, 50, 51, 52, 53, 54, 55, 56, 57, 58, 59, 60, 20, 101, 102, 103, 104] rfl (by decide +kernel)
set_option maxRecDepth 20000 in
theorem gJ0_init_db425_J2_compress_39247 : GoodIn wsJ0_init_db425 (va_wsS RJ0 1051 yJ2_compress_39247 wsJ2_compress_39247) := goodIn_app (goodIn_of _ (by decide +kernel)) ggJ0_init_db425_J2_compress_39247
set_option maxRecDepth 20000 in
theorem ggJ0_init_db425_J2_coderFromArrayLen_85cad : GoodIn wsJ0_init_db425 wsJ2_coderFromArrayLen_85cad := goodIn_r _ [96] rfl (by decide +kernel)
set_option maxRecDepth 20000 in
theorem gJ0_init_db425_J2_coderFromArrayLen_85cad : GoodIn wsJ0_init_db425 (va_wsS RJ0 47 yJ2_coderFromArrayLen_85cad wsJ2_coderFromArrayLen_85cad) := goodIn_app (goodIn_of _ (by decide +kernel)) ggJ0_init_db425_J2_coderFromArrayLen_85cad
theorem dJ0_init_db425_0 : decode cJ0_init_db425 0 = .ok (.aload_n 0, 1) := by decide +kernel
theorem dJ0_init_db425_1 : decode cJ0_init_db425 1 = .ok (.invokespecial 1, 3) := by decide +kernel
theorem dJ0_init_db425_4 : decode cJ0_init_db425 4 = .ok (.aload_n 1, 1) := by decide +kernel
theorem dJ0_init_db425_5 : decode cJ0_init_db425 5 = .ok (.invokevirtual 552, 3) := by decide +kernel
theorem dJ0_init_db425_8 : decode cJ0_init_db425 8 = .ok (.astore_n 3, 1) := by decide +kernel
theorem dJ0_init_db425_9 : decode cJ0_init_db425 9 = .ok (.aload_n 1, 1) := by decide +kernel
theorem dJ0_init_db425_10 : decode cJ0_init_db425 10 = .ok (.invokevirtual 549, 3) := by decide +kernel
theorem dJ0_init_db425_13 : decode cJ0_init_db425 13 = .ok (.istore 4, 2) := by decide +kernel
theorem dJ0_init_db425_15 : decode cJ0_init_db425 15 = .ok (.aload_n 1, 1) := by decide +kernel
theorem dJ0_init_db425_16 : decode cJ0_init_db425 16 = .ok (.invokevirtual 1047, 3) := by decide +kernel
theorem dJ0_init_db425_19 : decode cJ0_init_db425 19 = .ok (.ifCond .eq 22, 3) := by decide +kernel
theorem dJ0_init_db425_22 : decode cJ0_init_db425 22 = .ok (.aload_n 0, 1) := by decide +kernel
theorem dJ0_init_db425_23 : decode cJ0_init_db425 23 = .ok (.iconst 0, 1) := by decide +kernel
theorem dJ0_init_db425_24 : decode cJ0_init_db425 24 = .ok (.putfield 15, 3) := by decide +kernel
theorem dJ0_init_db425_27 : decode cJ0_init_db425 27 = .ok (.aload_n 0, 1) := by decide +kernel
theorem dJ0_init_db425_28 : decode cJ0_init_db425 28 = .ok (.aload_n 3, 1) := by decide +kernel
theorem dJ0_init_db425_29 : decode cJ0_init_db425 29 = .ok (.iconst 0, 1) := by decide +kernel
theorem dJ0_init_db425_30 : decode cJ0_init_db425 30 = .ok (.iload 4, 2) := by decide +kernel
theorem dJ0_init_db425_32 : decode cJ0_init_db425 32 = .ok (.invokestatic 54, 3) := by decide +kernel
theorem dJ0_init_db425_35 : decode cJ0_init_db425 35 = .ok (.putfield 9, 3) := by decide +kernel
theorem dJ0_init_db425_38 : decode cJ0_init_db425 38 = .ok (.goto 59, 3) := by decide +kernel
theorem dJ0_init_db425_41 : decode cJ0_init_db425 41 = .ok (.getstatic 38, 3) := by decide +kernel
theorem dJ0_init_db425_44 : decode cJ0_init_db425 44 = .ok (.ifCond .eq 35, 3) := by decide +kernel
theorem dJ0_init_db425_47 : decode cJ0_init_db425 47 = .ok (.aload_n 1, 1) := by decide +kernel
theorem dJ0_init_db425_48 : decode cJ0_init_db425 48 = .ok (.getfield 1048, 3) := by decide +kernel
theorem dJ0_init_db425_51 : decode cJ0_init_db425 51 = .ok (.ifCond .eq 28, 3) := by decide +kernel
theorem dJ0_init_db425_54 : decode cJ0_init_db425 54 = .ok (.aload_n 0, 1) := by decide +kernel
theorem dJ0_init_db425_55 : decode cJ0_init_db425 55 = .ok (.aload_n 3, 1) := by decide +kernel
theorem dJ0_init_db425_56 : decode cJ0_init_db425 56 = .ok (.iconst 0, 1) := by decide +kernel
theorem dJ0_init_db425_57 : decode cJ0_init_db425 57 = .ok (.iload 4, 2) := by decide +kernel
theorem dJ0_init_db425_59 : decode cJ0_init_db425 59 = .ok (.invokestatic 1051, 3) := by decide +kernel
theorem dJ0_init_db425_62 : decode cJ0_init_db425 62 = .ok (.putfield 9, 3) := by decide +kernel
theorem dJ0_init_db425_65 : decode cJ0_init_db425 65 = .ok (.aload_n 0, 1) := by decide +kernel
theorem dJ0_init_db425_66 : decode cJ0_init_db425 66 = .ok (.aload_n 0, 1) := by decide +kernel
theorem dJ0_init_db425_67 : decode cJ0_init_db425 67 = .ok (.getfield 9, 3) := by decide +kernel
theorem dJ0_init_db425_70 : decode cJ0_init_db425 70 = .ok (.iload 4, 2) := by decide +kernel
theorem dJ0_init_db425_72 : decode cJ0_init_db425 72 = .ok (.invokestatic 47, 3) := by decide +kernel
theorem dJ0_init_db425_75 : decode cJ0_init_db425 75 = .ok (.putfield 15, 3) := by decide +kernel
theorem dJ0_init_db425_78 : decode cJ0_init_db425 78 = .ok (.return_, 1) := by decide +kernel
theorem dJ0_init_db425_79 : decode cJ0_init_db425 79 = .ok (.aload_n 0, 1) := by decide +kernel
theorem dJ0_init_db425_80 : decode cJ0_init_db425 80 = .ok (.iconst 1, 1) := by decide +kernel
theorem dJ0_init_db425_81 : decode cJ0_init_db425 81 = .ok (.putfield 15, 3) := by decide +kernel
theorem dJ0_init_db425_84 : decode cJ0_init_db425 84 = .ok (.aload_n 0, 1) := by decide +kernel
theorem dJ0_init_db425_85 : decode cJ0_init_db425 85 = .ok (.aload_n 3, 1) := by decide +kernel
theorem dJ0_init_db425_86 : decode cJ0_init_db425 86 = .ok (.iconst 0, 1) := by decide +kernel
theorem dJ0_init_db425_87 : decode cJ0_init_db425 87 = .ok (.iload 4, 2) := by decide +kernel
theorem dJ0_init_db425_89 : decode cJ0_init_db425 89 = .ok (.iconst 1, 1) := by decide +kernel
theorem dJ0_init_db425_90 : decode cJ0_init_db425 90 = .ok (.ishl, 1) := by decide +kernel
theorem dJ0_init_db425_91 : decode cJ0_init_db425 91 = .ok (.invokestatic 54, 3) := by decide +kernel
theorem dJ0_init_db425_94 : decode cJ0_init_db425 94 = .ok (.putfield 9, 3) := by decide +kernel
theorem dJ0_init_db425_97 : decode cJ0_init_db425 97 = .ok (.return_, 1) := by decide +kernel
theorem dJ0_coder_7d493_0 : decode cJ0_coder_7d493 0 = .ok (.getstatic 38, 3) := by decide +kernel
theorem dJ0_coder_7d493_3 : decode cJ0_coder_7d493 3 = .ok (.ifCond .eq 10, 3) := by decide +kernel
theorem dJ0_coder_7d493_6 : decode cJ0_coder_7d493 6 = .ok (.aload_n 0, 1) := by decide +kernel
theorem dJ0_coder_7d493_7 : decode cJ0_coder_7d493 7 = .ok (.getfield 15, 3) := by decide +kernel
theorem dJ0_coder_7d493_10 : decode cJ0_coder_7d493 10 = .ok (.goto 4, 3) := by decide +kernel
theorem dJ0_coder_7d493_13 : decode cJ0_coder_7d493 13 = .ok (.iconst 1, 1) := by decide +kernel
theorem dJ0_coder_7d493_14 : decode cJ0_coder_7d493 14 = .ok (.ireturn, 1) := by decide +kernel
theorem dJ0_value_6d5f1_0 : decode cJ0_value_6d5f1 0 = .ok (.aload_n 0, 1) := by decide +kernel
theorem dJ0_value_6d5f1_1 : decode cJ0_value_6d5f1 1 = .ok (.getfield 9, 3) := by decide +kernel
theorem dJ0_value_6d5f1_4 : decode cJ0_value_6d5f1 4 = .ok (.areturn, 1) := by decide +kernel
theorem dJ0_isLatin1_aae02_0 : decode cJ0_isLatin1_aae02 0 = .ok (.getstatic 38, 3) := by decide +kernel
theorem dJ0_isLatin1_aae02_3 : decode cJ0_isLatin1_aae02 3 = .ok (.ifCond .eq 14, 3) := by decide +kernel
theorem dJ0_isLatin1_aae02_6 : decode cJ0_isLatin1_aae02 6 = .ok (.aload_n 0, 1) := by decide +kernel
theorem dJ0_isLatin1_aae02_7 : decode cJ0_isLatin1_aae02 7 = .ok (.getfield 15, 3) := by decide +kernel
theorem dJ0_isLatin1_aae02_10 : decode cJ0_isLatin1_aae02 10 = .ok (.ifCond .ne 7, 3) := by decide +kernel
theorem dJ0_isLatin1_aae02_13 : decode cJ0_isLatin1_aae02 13 = .ok (.iconst 1, 1) := by decide +kernel
theorem dJ0_isLatin1_aae02_14 : decode cJ0_isLatin1_aae02 14 = .ok (.goto 4, 3) := by decide +kernel
theorem dJ0_isLatin1_aae02_17 : decode cJ0_isLatin1_aae02 17 = .ok (.iconst 0, 1) := by decide +kernel
theorem dJ0_isLatin1_aae02_18 : decode cJ0_isLatin1_aae02 18 = .ok (.ireturn, 1) := by decide +kernel
set_option maxRecDepth 20000 in
theorem ggJ0_checkIndex_df160_J3_checkIndex_8e157 : GoodIn wsJ0_checkIndex_df160 wsJ3_checkIndex_8e157 := goodIn_r _ [5] rfl (by decide +kernel)
set_option maxRecDepth 20000 in
theorem gJ0_checkIndex_df160_J3_checkIndex_8e157 : GoodIn wsJ0_checkIndex_df160 (va_wsS RJ0 1059 yJ3_checkIndex_8e157 wsJ3_checkIndex_8e157) := goodIn_app (goodIn_of _ (by decide +kernel)) ggJ0_checkIndex_df160_J3_checkIndex_8e157
theorem dJ0_checkIndex_df160_0 : decode cJ0_checkIndex_df160 0 = .ok (.iload_n 0, 1) := by decide +kernel
theorem dJ0_checkIndex_df160_1 : decode cJ0_checkIndex_df160 1 = .ok (.iload_n 1, 1) := by decide +kernel
theorem dJ0_checkIndex_df160_2 : decode cJ0_checkIndex_df160 2 = .ok (.getstatic 1053, 3) := by decide +kernel
theorem dJ0_checkIndex_df160_5 : decode cJ0_checkIndex_df160 5 = .ok (.invokestatic 1059, 3) := by decide +kernel
theorem dJ0_checkIndex_df160_8 : decode cJ0_checkIndex_df160 8 = .ok (.pop, 1) := by decide +kernel
theorem dJ0_checkIndex_df160_9 : decode cJ0_checkIndex_df160 9 = .ok (.return_, 1) := by decide +kernel
set_option maxRecDepth 20000 in
theorem ggJ0_checkBoundsOffCount_cabcc_J3_checkFromIndexSize_8c36e : GoodIn wsJ0_checkBoundsOffCount_cabcc wsJ3_checkFromIndexSize_8c36e := goodIn_r _ [5] rfl (by decide +kernel)
set_option maxRecDepth 20000 in
theorem gJ0_checkBoundsOffCount_cabcc_J3_checkFromIndexSize_8c36e : GoodIn wsJ0_checkBoundsOffCount_cabcc (va_wsS RJ0 1065 yJ3_checkFromIndexSize_8c36e wsJ3_checkFromIndexSize_8c36e) := goodIn_app (goodIn_of _ (by decide +kernel)) ggJ0_checkBoundsOffCount_cabcc_J3_checkFromIndexSize_8c36e
theorem dJ0_checkBoundsOffCount_cabcc_0 : decode cJ0_checkBoundsOffCount_cabcc 0 = .ok (.iload_n 0, 1) := by decide +kernel
theorem dJ0_checkBoundsOffCount_cabcc_1 : decode cJ0_checkBoundsOffCount_cabcc 1 = .ok (.iload_n 1, 1) := by decide +kernel
theorem dJ0_checkBoundsOffCount_cabcc_2 : decode cJ0_checkBoundsOffCount_cabcc 2 = .ok (.iload_n 2, 1) := by decide +kernel
theorem dJ0_checkBoundsOffCount_cabcc_3 : decode cJ0_checkBoundsOffCount_cabcc 3 = .ok (.getstatic 1053, 3) := by decide +kernel
theorem dJ0_checkBoundsOffCount_cabcc_6 : decode cJ0_checkBoundsOffCount_cabcc 6 = .ok (.invokestatic 1065, 3) := by decide +kernel
theorem dJ0_checkBoundsOffCount_cabcc_9 : decode cJ0_checkBoundsOffCount_cabcc 9 = .ok (.ireturn, 1) := by decide +kernel
set_option maxRecDepth 20000 in
theorem ggJ0_checkBoundsBeginEnd_23922_J3_checkFromToIndex_8c36e : GoodIn wsJ0_checkBoundsBeginEnd_23922 wsJ3_checkFromToIndex_8c36e := goodIn_r _ [5] rfl (by decide +kernel)
set_option maxRecDepth 20000 in
theorem gJ0_checkBoundsBeginEnd_23922_J3_checkFromToIndex_8c36e : GoodIn wsJ0_checkBoundsBeginEnd_23922 (va_wsS RJ0 1062 yJ3_checkFromToIndex_8c36e wsJ3_checkFromToIndex_8c36e) := goodIn_app (goodIn_of _ (by decide +kernel)) ggJ0_checkBoundsBeginEnd_23922_J3_checkFromToIndex_8c36e
theorem dJ0_checkBoundsBeginEnd_23922_0 : decode cJ0_checkBoundsBeginEnd_23922 0 = .ok (.iload_n 0, 1) := by decide +kernel
theorem dJ0_checkBoundsBeginEnd_23922_1 : decode cJ0_checkBoundsBeginEnd_23922 1 = .ok (.iload_n 1, 1) := by decide +kernel
theorem dJ0_checkBoundsBeginEnd_23922_2 : decode cJ0_checkBoundsBeginEnd_23922 2 = .ok (.iload_n 2, 1) := by decide +kernel
theorem dJ0_checkBoundsBeginEnd_23922_3 : decode cJ0_checkBoundsBeginEnd_23922 3 = .ok (.getstatic 1053, 3) := by decide +kernel
theorem dJ0_checkBoundsBeginEnd_23922_6 : decode cJ0_checkBoundsBeginEnd_23922 6 = .ok (.invokestatic 1062, 3) := by decide +kernel
theorem dJ0_checkBoundsBeginEnd_23922_9 : decode cJ0_checkBoundsBeginEnd_23922 9 = .ok (.pop, 1) := by decide +kernel
theorem dJ0_checkBoundsBeginEnd_23922_10 : decode cJ0_checkBoundsBeginEnd_23922 10 = .ok (.return_, 1) := by decide +kernel
set_option maxRecDepth 20000 in
theorem ggJxe8eeb_append_b568b_J5_append_a1634 : GoodIn wsJxe8eeb_append_b568b wsJ5_append_a1634 := goodIn_r _ [7, 8, 9, 10, 11, 12, 6, 13, 14, 15, 16, 17, 18, 19, 20, 21, 22, 23, 24, 25, 26, 27, 28, 29, 30, 31, 32, 33, 34, 35, 36, 37, 38, 39, 40, 41, 42, 43, 44, 45, 46, 47, 48, 49, 50, 51, 52, 53, 54, 55, 56, 57, 58, 59, 60, 61, 62, 63, 64, 65, 66, 67, 68, 69, 70, 71, 72, 73, 74, 75, 76, 77, 78, 79, 80, 81, 82, 83, 84, 85, 86, 87, 88, 89, 90, 91, 92, 93, 94, 95, 96, 97, 98, 99, 100, 101, 102, 103, 104, 105, 106, 107, 108, 109, 110, 111, 112, 113, 114, 115, 116, 117, 118, 119, 120, 121, 122, 123, 124, 125] rfl (by decide +kernel)
set_option maxRecDepth 20000 in
theorem gJxe8eeb_append_b568b_J5_append_a1634_s89 : GoodIn wsJxe8eeb_append_b568b (va_wsSU RJxe8eeb 89 yJ5_append_a1634 wsJ5_append_a1634) := goodIn_app (goodIn_of _ (by decide +kernel)) ggJxe8eeb_append_b568b_J5_append_a1634
theorem dJxe8eeb_append_b568b_0 : decode cJxe8eeb_append_b568b 0 = .ok (.aload_n 0, 1) := by decide +kernel
theorem dJxe8eeb_append_b568b_1 : decode cJxe8eeb_append_b568b 1 = .ok (.aconst_null, 1) := by decide +kernel
theorem dJxe8eeb_append_b568b_2 : decode cJxe8eeb_append_b568b 2 = .ok (.putfield 34, 3) := by decide +kernel
theorem dJxe8eeb_append_b568b_5 : decode cJxe8eeb_append_b568b 5 = .ok (.aload_n 0, 1) := by decide +kernel
theorem dJxe8eeb_append_b568b_6 : decode cJxe8eeb_append_b568b 6 = .ok (.aload_n 1, 1) := by decide +kernel
theorem dJxe8eeb_append_b568b_7 : decode cJxe8eeb_append_b568b 7 = .ok (.invokespecial 89, 3) := by decide +kernel
theorem dJxe8eeb_append_b568b_10 : decode cJxe8eeb_append_b568b 10 = .ok (.pop, 1) := by decide +kernel
theorem dJxe8eeb_append_b568b_11 : decode cJxe8eeb_append_b568b 11 = .ok (.aload_n 0, 1) := by decide +kernel
theorem dJxe8eeb_append_b568b_12 : decode cJxe8eeb_append_b568b 12 = .ok (.areturn, 1) := by decide +kernel
set_option maxRecDepth 20000 in
theorem ggJ4_init_da8c8_J5_init_d00df : GoodIn wsJ4_init_da8c8 wsJ5_init_d00df := goodIn_r _ [4, 5, 6, 7, 8, 9, 10, 11, 12, 13, 14, 15, 16, 17, 18, 19, 20, 21, 22, 23] rfl (by decide +kernel)
set_option maxRecDepth 20000 in
theorem gJ4_init_da8c8_J5_init_d00df : GoodIn wsJ4_init_da8c8 (wsJ5_init_d00df) := ggJ4_init_da8c8_J5_init_d00df
theorem dJ4_init_da8c8_0 : decode cJ4_init_da8c8 0 = .ok (.aload_n 0, 1) := by decide +kernel
theorem dJ4_init_da8c8_1 : decode cJ4_init_da8c8 1 = .ok (.bipush 16, 2) := by decide +kernel
theorem dJ4_init_da8c8_3 : decode cJ4_init_da8c8 3 = .ok (.invokespecial 1, 3) := by decide +kernel
theorem dJ4_init_da8c8_6 : decode cJ4_init_da8c8 6 = .ok (.return_, 1) := by decide +kernel
set_option maxRecDepth 20000 in
theorem ggJ4_init_a7421_J5_init_a7421 : GoodIn wsJ4_init_a7421 wsJ5_init_a7421 := goodIn_r _ [4, 5, 6, 7, 8, 9, 10, 11, 12, 13, 14, 15, 16, 17, 18, 19, 20, 21, 22, 23, 24, 25, 26, 27, 28, 29, 30, 31, 32, 33, 34, 35, 36, 37, 38, 39, 40, 41, 42, 43, 44, 45, 46, 47, 3, 48, 49, 50, 51, 52, 53, 54, 55, 56, 57, 58, 59, 60, 61, 62, 63, 64, 65, 66, 67, 68, 69, 70, 71, 72, 73, 74, 75, 76, 77, 78, 79, 80, 81, 82, 83, 84, 85, 86, 87, 88, 89, 90, 91, 92, 93, 94, 95, 96, 97, 98, 99, 100, 101, 102, 103, 104, 105, 106, 107, 108, 109, 110, 111, 112, 113, 114, 115, 116, 117, 118, 119, 120, 121, 122, 123, 124, 125, 126, 127, 128, 129, 130, 131, 132, 133, 134, 135, 136, 137, 138, 139, 140, 141, 142, 143, 144, 145, 146, 147, 148, 149, 150, 151, 152, 153, 154, 155, 156, 157, 158, 159, 160, 161, 162, 163, 164, 165, 166, 167] rfl (by decide +kernel)
set_option maxRecDepth 20000 in
theorem gJ4_init_a7421_J5_init_a7421 : GoodIn wsJ4_init_a7421 (wsJ5_init_a7421) := ggJ4_init_a7421_J5_init_a7421
theorem dJ4_init_a7421_0 : decode cJ4_init_a7421 0 = .ok (.aload_n 0, 1) := by decide +kernel
theorem dJ4_init_a7421_1 : decode cJ4_init_a7421 1 = .ok (.aload_n 1, 1) := by decide +kernel
theorem dJ4_init_a7421_2 : decode cJ4_init_a7421 2 = .ok (.invokespecial 7, 3) := by decide +kernel
theorem dJ4_init_a7421_5 : decode cJ4_init_a7421 5 = .ok (.return_, 1) := by decide +kernel
set_option maxRecDepth 20000 in
theorem ggJ4_append_15ec4_J5_append_cf1ce : GoodIn wsJ4_append_15ec4 wsJ5_append_cf1ce := goodIn_r _ [6, 7, 8, 9, 10, 11, 5, 12, 13, 14, 15, 16, 17, 18, 19, 20, 21, 22, 23, 24, 25, 26, 27, 28, 29, 30, 31, 32, 33, 34, 35, 36, 37, 38, 39, 40, 41, 42, 43, 44, 45, 46, 47, 48, 49, 50, 51, 52, 53, 54, 55, 56, 57, 58, 59, 60, 61, 62, 63, 64, 65, 66, 67, 68, 69, 70, 71, 72, 73, 74, 75, 76, 77, 78, 79, 80, 81, 82, 83, 84, 85, 86, 87, 88, 89, 90, 91, 92, 93, 94, 95, 96, 97, 98, 99, 100, 101, 102, 103, 104, 105, 106, 107, 108, 109, 110, 111, 112, 113, 114, 115, 116, 117, 118, 119, 120, 121, 122, 123, 124, 125, 126, 127, 128, 129, 130, 131, 132, 133, 134, 135, 136, 137, 138, 139, 140, 141, 142, 143, 144, 145, 146, 147, 148, 149, 150] rfl (by decide +kernel)
set_option maxRecDepth 20000 in
theorem gJ4_append_15ec4_J5_append_cf1ce_s29 : GoodIn wsJ4_append_15ec4 (va_wsSU RJ4 29 yJ5_append_cf1ce wsJ5_append_cf1ce) := goodIn_app (goodIn_of _ (by decide +kernel)) ggJ4_append_15ec4_J5_append_cf1ce
theorem dJ4_append_15ec4_0 : decode cJ4_append_15ec4 0 = .ok (.aload_n 0, 1) := by decide +kernel
theorem dJ4_append_15ec4_1 : decode cJ4_append_15ec4 1 = .ok (.aload_n 1, 1) := by decide +kernel
theorem dJ4_append_15ec4_2 : decode cJ4_append_15ec4 2 = .ok (.invokespecial 29, 3) := by decide +kernel
theorem dJ4_append_15ec4_5 : decode cJ4_append_15ec4 5 = .ok (.pop, 1) := by decide +kernel
theorem dJ4_append_15ec4_6 : decode cJ4_append_15ec4 6 = .ok (.aload_n 0, 1) := by decide +kernel
theorem dJ4_append_15ec4_7 : decode cJ4_append_15ec4 7 = .ok (.areturn, 1) := by decide +kernel
set_option maxRecDepth 20000 in
theorem ggJ4_append_1fab5_J5_append_8f9a3 : GoodIn wsJ4_append_1fab5 wsJ5_append_8f9a3 := goodIn_r _ [6, 7, 8, 9, 10, 11, 12, 5, 13, 14, 15, 16, 17, 18, 19, 20, 21, 22, 23, 24, 25, 26, 27, 28, 29, 30, 31, 32, 33, 34, 35, 36, 37, 38, 39, 40, 41, 42, 43, 44, 45, 46, 47, 48, 49, 50, 51, 52, 53, 54, 55, 56, 57, 58, 59, 60, 61, 62, 63, 64, 65, 66, 67, 68, 69, 70, 71, 72, 73, 74, 75, 76, 77, 78, 79, 80, 81, 82, 83, 84, 85, 86, 87, 88, 89, 90, 91, 92, 93, 94, 95, 96, 97, 98, 99, 100, 3, 101, 102, 103, 104, 105, 106, 107, 108, 109, 110, 111, 112, 113, 114, 115, 116, 117, 118, 119, 120, 121, 122, 123, 124, 125, 126, 127, 128, 129, 130, 131, 132, 133, 134, 135, 136, 137, 138, 139, 140, 141, 142, 143, 144, 145, 146, 147, 148, 149, 150, 151, 152, 153, 154, 155, 156, 157, 158, 159, 160, 161, 162, 163, 164, 165, 166, 167, 168, 169, 170, 171, 172, 173, 174, 175, 176, 177, 178, 179, 180, 181, 182, 183, 184, 185, 186, 187, 188, 189, 190, 191, 192, 193, 194, 195, 196, 197, 198, 199, 200, 201, 202, 203, 204, 205, 206, 207, 208, 209, 210, 211, 212, 213, 214, 215, 216, 217, 218, 219, 220, 221, 222, 223, 224, 225, 226, 227, 228, 229, 230, 231, 232, 233, 234, 235, 236, 237, 238, 239, 240, 241, 242, 243, 244, 245, 246, 247, 248, 249, 250, 251, 252, 253, 254, 255, 256, 257, 258, 259, 260, 261, 262, 263, 264, 265, 266, 267, 268, 269, 270, 271, 272, 273, 274, 275, 276, 277, 278, 279] rfl (by decide +kernel)
set_option maxRecDepth 20000 in
theorem gJ4_append_1fab5_J5_append_8f9a3_s35 : GoodIn wsJ4_append_1fab5 (va_wsSU RJ4 35 yJ5_append_8f9a3 wsJ5_append_8f9a3) := goodIn_app (goodIn_of _ (by decide +kernel)) ggJ4_append_1fab5_J5_append_8f9a3
theorem dJ4_append_1fab5_0 : decode cJ4_append_1fab5 0 = .ok (.aload_n 0, 1) := by decide +kernel
theorem dJ4_append_1fab5_1 : decode cJ4_append_1fab5 1 = .ok (.aload_n 1, 1) := by decide +kernel
theorem dJ4_append_1fab5_2 : decode cJ4_append_1fab5 2 = .ok (.invokespecial 35, 3) := by decide +kernel
theorem dJ4_append_1fab5_5 : decode cJ4_append_1fab5 5 = .ok (.pop, 1) := by decide +kernel
theorem dJ4_append_1fab5_6 : decode cJ4_append_1fab5 6 = .ok (.aload_n 0, 1) := by decide +kernel
theorem dJ4_append_1fab5_7 : decode cJ4_append_1fab5 7 = .ok (.areturn, 1) := by decide +kernel
set_option maxRecDepth 20000 in
theorem ggJ4_append_69d29_J5_append_e1f22 : GoodIn wsJ4_append_69d29 wsJ5_append_e1f22 := goodIn_r _ [6, 7, 8, 9, 10, 11, 12, 13, 14, 15, 16, 17, 18, 19, 20, 21, 22, 23, 24, 25, 26, 27, 3, 28, 5, 29, 30, 31, 32, 33, 34, 35, 36, 37, 38, 39, 40, 41, 42, 43, 44, 45, 46, 47, 48, 49, 50, 51, 52, 53, 54, 55, 56, 57, 58, 59, 60, 61, 62, 63, 64, 65, 66, 67, 68, 69, 70, 71, 72, 73, 74, 75, 76, 77, 78, 79, 80, 81, 82, 83, 84, 85, 86, 87, 88, 89, 90, 91, 92, 93, 94, 95, 96, 97, 98, 99, 100, 101, 102, 103, 104, 105, 106, 107, 108, 109, 110, 111, 112, 113, 114, 115, 116, 117, 118, 119, 120, 121, 122, 123, 124, 125, 126, 127, 128, 129, 130, 131, 132, 133, 134, 135, 136, 137, 138, 139, 140, 141, 142, 143, 144, 145, 146, 147, 148, 149, 150, 151, 152, 153, 154, 155, 156, 157, 158, 159, 160, 161, 162, 163, 164, 165, 166, 167, 168, 169, 170, 171, 172, 173, 174, 175, 176, 177, 178, 179, 180, 181, 182, 183, 184, 185, 186, 187, 188, 189, 190, 191, 192, 193, 194, 195, 196, 197, 198, 199, 200, 201] rfl (by decide +kernel)
set_option maxRecDepth 20000 in
theorem gJ4_append_69d29_J5_append_e1f22_s38 : GoodIn wsJ4_append_69d29 (va_wsSU RJ4 38 yJ5_append_e1f22 wsJ5_append_e1f22) := goodIn_app (goodIn_of _ (by decide +kernel)) ggJ4_append_69d29_J5_append_e1f22
theorem dJ4_append_69d29_0 : decode cJ4_append_69d29 0 = .ok (.aload_n 0, 1) := by decide +kernel
theorem dJ4_append_69d29_1 : decode cJ4_append_69d29 1 = .ok (.aload_n 1, 1) := by decide +kernel
theorem dJ4_append_69d29_2 : decode cJ4_append_69d29 2 = .ok (.iload_n 2, 1) := by decide +kernel
theorem dJ4_append_69d29_3 : decode cJ4_append_69d29 3 = .ok (.iload_n 3, 1) := by decide +kernel
theorem dJ4_append_69d29_4 : decode cJ4_append_69d29 4 = .ok (.invokespecial 38, 3) := by decide +kernel
theorem dJ4_append_69d29_7 : decode cJ4_append_69d29 7 = .ok (.pop, 1) := by decide +kernel
theorem dJ4_append_69d29_8 : decode cJ4_append_69d29 8 = .ok (.aload_n 0, 1) := by decide +kernel
theorem dJ4_append_69d29_9 : decode cJ4_append_69d29 9 = .ok (.areturn, 1) := by decide +kernel
set_option maxRecDepth 20000 in
theorem ggJ4_append_37e8c_J5_append_a1634 : GoodIn wsJ4_append_37e8c wsJ5_append_a1634 := goodIn_r _ [6, 7, 8, 9, 10, 11, 5, 12, 13, 14, 15, 16, 17, 18, 19, 20, 21, 22, 23, 24, 25, 26, 27, 28, 29, 30, 31, 32, 33, 34, 35, 36, 37, 38, 39, 40, 41, 42, 43, 44, 45, 46, 47, 48, 49, 50, 51, 52, 53, 54, 55, 56, 57, 58, 59, 60, 61, 62, 63, 64, 65, 66, 67, 68, 69, 70, 71, 72, 73, 74, 75, 76, 77, 78, 79, 80, 81, 82, 83, 84, 85, 86, 87, 88, 89, 90, 91, 92, 93, 94, 95, 96, 97, 98, 99, 100, 101, 102, 103, 104, 105, 106, 107, 108, 109, 110, 111, 112, 113, 114, 115, 116, 117, 118, 119, 120, 121, 122, 123, 124] rfl (by decide +kernel)
set_option maxRecDepth 20000 in
theorem gJ4_append_37e8c_J5_append_a1634_s41 : GoodIn wsJ4_append_37e8c (va_wsSU RJ4 41 yJ5_append_a1634 wsJ5_append_a1634) := goodIn_app (goodIn_of _ (by decide +kernel)) ggJ4_append_37e8c_J5_append_a1634
theorem dJ4_append_37e8c_0 : decode cJ4_append_37e8c 0 = .ok (.aload_n 0, 1) := by decide +kernel
theorem dJ4_append_37e8c_1 : decode cJ4_append_37e8c 1 = .ok (.aload_n 1, 1) := by decide +kernel
theorem dJ4_append_37e8c_2 : decode cJ4_append_37e8c 2 = .ok (.invokespecial 41, 3) := by decide +kernel
theorem dJ4_append_37e8c_5 : decode cJ4_append_37e8c 5 = .ok (.pop, 1) := by decide +kernel
theorem dJ4_append_37e8c_6 : decode cJ4_append_37e8c 6 = .ok (.aload_n 0, 1) := by decide +kernel
theorem dJ4_append_37e8c_7 : decode cJ4_append_37e8c 7 = .ok (.areturn, 1) := by decide +kernel
set_option maxRecDepth 20000 in
theorem ggJ4_append_cf468_J5_append_3fe6f : GoodIn wsJ4_append_cf468 wsJ5_append_3fe6f := goodIn_r _ [6, 7, 8, 9, 10, 11, 12, 5, 13, 14, 15, 16, 17, 18, 19, 20, 21, 22, 23, 24, 25, 26, 27, 28, 29, 30, 31, 32, 33, 34, 35, 36, 37, 38, 39, 40, 41, 42, 43, 44, 45, 46, 47, 48, 49, 50, 51, 52, 53, 54, 55, 56, 57, 58, 59, 60, 61, 62, 63, 64, 65, 66, 67, 68, 69, 70, 71, 72, 73, 74, 75, 76, 77, 78, 79, 80, 81, 82, 83, 84, 85, 86, 87, 88, 89, 90, 91, 92, 93, 94, 95, 96, 97, 98, 99, 100, 101, 102, 103, 104, 105, 106, 107, 108, 109, 110, 111, 112, 113, 114, 115, 116] rfl (by decide +kernel)
set_option maxRecDepth 20000 in
theorem gJ4_append_cf468_J5_append_3fe6f_s50 : GoodIn wsJ4_append_cf468 (va_wsSU RJ4 50 yJ5_append_3fe6f wsJ5_append_3fe6f) := goodIn_app (goodIn_of _ (by decide +kernel)) ggJ4_append_cf468_J5_append_3fe6f
theorem dJ4_append_cf468_0 : decode cJ4_append_cf468 0 = .ok (.aload_n 0, 1) := by decide +kernel
theorem dJ4_append_cf468_1 : decode cJ4_append_cf468 1 = .ok (.iload_n 1, 1) := by decide +kernel
theorem dJ4_append_cf468_2 : decode cJ4_append_cf468 2 = .ok (.invokespecial 50, 3) := by decide +kernel
theorem dJ4_append_cf468_5 : decode cJ4_append_cf468 5 = .ok (.pop, 1) := by decide +kernel
theorem dJ4_append_cf468_6 : decode cJ4_append_cf468 6 = .ok (.aload_n 0, 1) := by decide +kernel
theorem dJ4_append_cf468_7 : decode cJ4_append_cf468 7 = .ok (.areturn, 1) := by decide +kernel
set_option maxRecDepth 20000 in
theorem ggJ4_append_bf812_J5_append_c97b9 : GoodIn wsJ4_append_bf812 wsJ5_append_c97b9 := goodIn_r _ [6, 7, 8, 9, 10, 11, 12, 13, 14, 15, 16, 5, 17, 18, 19, 20, 21, 22, 23, 24, 25, 26, 27, 28, 29, 30, 31, 32, 33, 34, 35, 36, 37, 38, 39, 40, 41, 42, 43, 44, 45, 46, 47, 48, 49, 50, 51, 52, 53, 54, 55, 56, 57, 58, 59, 60, 61, 62, 63, 64, 65, 66, 67, 68, 69, 70, 71, 72, 73, 74, 75, 76, 77, 78, 79, 80, 81, 82, 83, 84, 85, 86, 87, 88, 89, 90, 91, 92, 93, 94, 95, 96, 97, 98, 99] rfl (by decide +kernel)
set_option maxRecDepth 20000 in
theorem gJ4_append_bf812_J5_append_c97b9_s53 : GoodIn wsJ4_append_bf812 (va_wsSU RJ4 53 yJ5_append_c97b9 wsJ5_append_c97b9) := goodIn_app (goodIn_of _ (by decide +kernel)) ggJ4_append_bf812_J5_append_c97b9
theorem dJ4_append_bf812_0 : decode cJ4_append_bf812 0 = .ok (.aload_n 0, 1) := by decide +kernel
theorem dJ4_append_bf812_1 : decode cJ4_append_bf812 1 = .ok (.iload_n 1, 1) := by decide +kernel
theorem dJ4_append_bf812_2 : decode cJ4_append_bf812 2 = .ok (.invokespecial 53, 3) := by decide +kernel
theorem dJ4_append_bf812_5 : decode cJ4_append_bf812 5 = .ok (.pop, 1) := by decide +kernel
theorem dJ4_append_bf812_6 : decode cJ4_append_bf812 6 = .ok (.aload_n 0, 1) := by decide +kernel
theorem dJ4_append_bf812_7 : decode cJ4_append_bf812 7 = .ok (.areturn, 1) := by decide +kernel
set_option maxRecDepth 20000 in
theorem ggJ4_append_9d4c8_J5_append_b089e : GoodIn wsJ4_append_9d4c8 wsJ5_append_b089e := goodIn_r _ [6, 7, 8, 9, 10, 11, 12, 13, 14, 15, 16, 17, 18, 19, 20, 21, 22, 23, 24, 25, 26, 27, 28, 29, 30, 31, 32, 33, 34, 35, 36, 37, 38, 39, 40, 41, 42, 43, 44, 45, 46, 47, 48, 49, 50, 51, 52, 53, 54, 55, 56, 57, 58, 59, 60, 61, 62, 63, 64, 65, 66, 67, 68, 69, 70, 71, 72, 73, 74, 75, 76, 77, 78, 79, 80, 81, 82, 83, 84, 85, 86, 87, 88, 89, 90, 91, 92, 93, 94, 95, 96, 97, 98, 99, 100, 101, 102, 103, 104, 105, 106, 107, 108, 109, 110, 111, 112, 113, 114, 115, 116, 117, 118, 119, 120, 121, 122, 123, 124, 125, 126, 127, 128, 129, 130, 3, 131, 5, 132, 133, 134, 135, 136, 137, 138, 139, 140, 141, 142, 143, 144, 145, 146, 147, 148, 149, 150, 151, 152, 153, 154, 155, 156, 157, 158, 159, 160, 161, 162, 163, 164, 165, 166, 167, 168, 169, 170, 171, 172, 173, 174, 175, 176, 177, 178, 179, 180, 181, 182, 183, 184, 185, 186, 187, 188, 189, 190, 191, 192, 193, 194, 195, 196, 197, 198, 199, 200, 201, 202, 203, 204, 205, 206, 207, 208, 209, 210, 211, 212, 213, 214, 215, 216, 217, 218, 219, 220, 221, 222, 223, 224, 225, 226, 227, 228, 229, 230, 231, 232, 233, 234, 235, 236, 237, 238, 239, 240, 241, 242, 243, 244, 245, 246, 247, 248, 249, 250, 251, 252, 253, 254, 255, 256, 257, 258, 259, 260, 261, 262, 263, 264, 265, 266, 267, 268, 269, 270, 271, 272, 273, 274, 275, 276, 277, 278, 279, 280, 281, 282, 283, 284, 285, 286, 287, 288, 289, 290, 291, 292, 293, 294, 295, 296, 297, 298, 299, 300, 301, 302, 303, 304, 305, 306, 307, 308, 309, 310, 311, 312, 313, 314, 315, 316, 317, 318, 319, 320, 321, 322, 323, 324, 325, 326, 327, 328, 329, 330, 331, 332, 333, 334, 335, 336, 337, 338, 339, 340, 341, 342, 343, 344, 345, 346, 347, 348, 349, 350, 351, 352, 353, 354, 355, 356, 357, 358, 359, 360, 361, 362, 363, 364, 365, 366, 367, 368, 369, 370, 371, 372, 373, 374, 375, 376, 377, 378, 379, 380, 381, 382, 383, 384, 385, 386, 387, 388, 389, 390, 391, 392, 393, 394, 395, 396, 397, 398, 399, 400, 401, 402, 403, 404, 405, 406, 407, 408, 409, 410, 411, 412, 413, 414, 415, 416, 417, 418, 419, 420, 421, 422, 423, 424, 425, 426, 427, 428, 429, 430, 431, 432, 433, 434, 435, 436, 437, 438, 439, 440] rfl (by decide +kernel)
set_option maxRecDepth 20000 in
theorem gJ4_append_9d4c8_J5_append_b089e_s59 : GoodIn wsJ4_append_9d4c8 (va_wsSU RJ4 59 yJ5_append_b089e wsJ5_append_b089e) := goodIn_app (goodIn_of _ (by decide +kernel)) ggJ4_append_9d4c8_J5_append_b089e
theorem dJ4_append_9d4c8_0 : decode cJ4_append_9d4c8 0 = .ok (.aload_n 0, 1) := by decide +kernel
theorem dJ4_append_9d4c8_1 : decode cJ4_append_9d4c8 1 = .ok (.fload_n 1, 1) := by decide +kernel
theorem dJ4_append_9d4c8_2 : decode cJ4_append_9d4c8 2 = .ok (.invokespecial 59, 3) := by decide +kernel
theorem dJ4_append_9d4c8_5 : decode cJ4_append_9d4c8 5 = .ok (.pop, 1) := by decide +kernel
theorem dJ4_append_9d4c8_6 : decode cJ4_append_9d4c8 6 = .ok (.aload_n 0, 1) := by decide +kernel
theorem dJ4_append_9d4c8_7 : decode cJ4_append_9d4c8 7 = .ok (.areturn, 1) := by decide +kernel
set_option maxRecDepth 20000 in
theorem ggJ4_toString_0e30d_J0_init_81219 : GoodIn wsJ4_toString_0e30d wsJ0_init_81219 := goodIn_r _ [6, 7, 8, 3, 9, 10, 11, 12, 13, 14, 15, 16, 17, 18, 19, 20, 21, 22, 23, 24, 25, 26, 27, 28, 29, 30, 31, 32, 33, 34, 35, 36, 37, 38, 39, 40, 41, 42, 43, 44, 45, 46, 47, 48, 49, 50, 51, 52, 53, 54, 55, 56, 57, 58, 59, 60, 61, 62, 63, 64, 65, 66, 67, 68, 69, 70, 71, 72, 73, 74, 75, 76, 77, 78, 79, 80, 81, 82, 83, 84, 85, 86, 87, 88, 89, 90, 91, 92, 93, 94, 95, 96, 97, 98, 99, 100, 101, 102, 103, 104, 105, 106, 107, 108, 109, 110, 111, 112] rfl (by decide +kernel)
set_option maxRecDepth 20000 in
theorem gJ4_toString_0e30d_J0_init_81219 : GoodIn wsJ4_toString_0e30d (wsJ0_init_81219) := ggJ4_toString_0e30d_J0_init_81219
theorem dJ4_toString_0e30d_0 : decode cJ4_toString_0e30d 0 = .ok (.new 18, 3) := by decide +kernel
theorem dJ4_toString_0e30d_3 : decode cJ4_toString_0e30d 3 = .ok (.dup, 1) := by decide +kernel
theorem dJ4_toString_0e30d_4 : decode cJ4_toString_0e30d 4 = .ok (.aload_n 0, 1) := by decide +kernel
theorem dJ4_toString_0e30d_5 : decode cJ4_toString_0e30d 5 = .ok (.invokespecial 137, 3) := by decide +kernel
theorem dJ4_toString_0e30d_8 : decode cJ4_toString_0e30d 8 = .ok (.areturn, 1) := by decide +kernel
set_option maxRecDepth 20000 in
theorem ggJ4_append_e1f22_J4_append_69d29 : GoodIn wsJ4_append_e1f22 wsJ4_append_69d29 := goodIn_r _ [5, 6, 7, 8, 9, 10, 11, 12, 13, 14, 15, 16, 17, 18, 19, 20, 21, 22, 23, 24, 25, 26, 27, 28, 4, 29, 30, 31, 32, 33, 34, 35, 36, 37, 38, 39, 40, 41, 42, 43, 44, 45, 46, 47, 48, 49, 50, 51, 52, 53, 54, 55, 56, 57, 58, 59, 60, 61, 62, 63, 64, 65, 66, 67, 68, 69, 70, 71, 72, 73, 74, 75, 76, 77, 78, 79, 80, 81, 82, 83, 84, 85, 86, 87, 88, 89, 90, 91, 92, 93, 94, 95, 96, 97, 98, 99, 100, 101, 102, 103, 104, 105, 106, 107, 108, 109, 110, 111, 112, 113, 114, 115, 116, 117, 118, 119, 120, 121, 122, 123, 124, 125, 126, 127, 128, 129, 130, 131, 132, 133, 134, 135, 136, 137, 138, 139, 140, 141, 142, 143, 144, 145, 146, 147, 148, 149, 150, 151, 152, 153, 154, 155, 156, 157, 158, 159, 160, 161, 162, 163, 164, 165, 166, 167, 168, 169, 170, 171, 172, 173, 174, 175, 176, 177, 178, 179, 180, 181, 182, 183, 184, 185, 186, 187, 188, 189, 190, 191, 192, 193, 194, 195, 196, 197, 198, 199, 200, 201, 202, 203, 204, 205] rfl (by decide +kernel)
set_option maxRecDepth 20000 in
theorem gJ4_append_e1f22_J4_append_69d29 : GoodIn wsJ4_append_e1f22 (wsV RJ4 296 RJ4 yJ4_append_69d29 wsJ4_append_69d29) := goodIn_app (goodIn_of _ (by decide +kernel)) ggJ4_append_e1f22_J4_append_69d29
theorem dJ4_append_e1f22_0 : decode cJ4_append_e1f22 0 = .ok (.aload_n 0, 1) := by decide +kernel
theorem dJ4_append_e1f22_1 : decode cJ4_append_e1f22 1 = .ok (.aload_n 1, 1) := by decide +kernel
theorem dJ4_append_e1f22_2 : decode cJ4_append_e1f22 2 = .ok (.iload_n 2, 1) := by decide +kernel
theorem dJ4_append_e1f22_3 : decode cJ4_append_e1f22 3 = .ok (.iload_n 3, 1) := by decide +kernel
theorem dJ4_append_e1f22_4 : decode cJ4_append_e1f22 4 = .ok (.invokevirtual 296, 3) := by decide +kernel
theorem dJ4_append_e1f22_7 : decode cJ4_append_e1f22 7 = .ok (.areturn, 1) := by decide +kernel
set_option maxRecDepth 20000 in
theorem ggJ4_append_cf1ce_J4_append_15ec4 : GoodIn wsJ4_append_cf1ce wsJ4_append_15ec4 := goodIn_r _ [5, 6, 7, 8, 9, 10, 11, 12, 13, 14, 15, 16, 17, 18, 19, 20, 21, 22, 23, 24, 25, 26, 27, 28, 29, 30, 31, 32, 33, 34, 35, 36, 37, 38, 39, 40, 41, 42, 43, 44, 45, 46, 47, 48, 49, 50, 51, 52, 53, 54, 55, 56, 57, 58, 59, 60, 61, 62, 63, 64, 65, 66, 67, 68, 69, 70, 71, 72, 73, 74, 75, 76, 77, 78, 79, 80, 81, 82, 83, 84, 85, 86, 87, 88, 89, 90, 91, 92, 93, 94, 95, 96, 97, 98, 99, 100, 101, 102, 103, 104, 105, 106, 107, 108, 109, 110, 111, 112, 113, 114, 115, 116, 117, 118, 119, 120, 121, 122, 123, 124, 125, 126, 127, 128, 129, 130, 131, 132, 133, 134, 135, 136, 137, 138, 139, 140, 141, 142, 143, 144, 145, 146, 147, 148, 149, 150, 151, 152, 153, 154, 155] rfl (by decide +kernel)
set_option maxRecDepth 20000 in
theorem gJ4_append_cf1ce_J4_append_15ec4 : GoodIn wsJ4_append_cf1ce (wsV RJ4 23 RJ4 yJ4_append_15ec4 wsJ4_append_15ec4) := goodIn_app (goodIn_of _ (by decide +kernel)) ggJ4_append_cf1ce_J4_append_15ec4
theorem dJ4_append_cf1ce_0 : decode cJ4_append_cf1ce 0 = .ok (.aload_n 0, 1) := by decide +kernel
theorem dJ4_append_cf1ce_1 : decode cJ4_append_cf1ce 1 = .ok (.aload_n 1, 1) := by decide +kernel
theorem dJ4_append_cf1ce_2 : decode cJ4_append_cf1ce 2 = .ok (.invokevirtual 23, 3) := by decide +kernel
theorem dJ4_append_cf1ce_5 : decode cJ4_append_cf1ce 5 = .ok (.areturn, 1) := by decide +kernel
set_option maxRecDepth 20000 in
theorem ggJ4_charAt_5068e_J5_charAt_5068e : GoodIn wsJ4_charAt_5068e wsJ5_charAt_5068e := goodIn_r _ [6, 7, 8, 9, 10, 11, 12, 13, 14, 15, 16, 17, 18, 19, 20, 21, 22, 23, 24, 25, 26, 27, 28, 29, 30, 31, 32, 33, 34, 35, 36] rfl (by decide +kernel)
set_option maxRecDepth 20000 in
theorem gJ4_charAt_5068e_J5_charAt_5068e_s329 : GoodIn wsJ4_charAt_5068e (va_wsSU RJ4 329 yJ5_charAt_5068e wsJ5_charAt_5068e) := goodIn_app (goodIn_of _ (by decide +kernel)) ggJ4_charAt_5068e_J5_charAt_5068e
theorem dJ4_charAt_5068e_0 : decode cJ4_charAt_5068e 0 = .ok (.aload_n 0, 1) := by decide +kernel
theorem dJ4_charAt_5068e_1 : decode cJ4_charAt_5068e 1 = .ok (.iload_n 1, 1) := by decide +kernel
theorem dJ4_charAt_5068e_2 : decode cJ4_charAt_5068e 2 = .ok (.invokespecial 329, 3) := by decide +kernel
theorem dJ4_charAt_5068e_5 : decode cJ4_charAt_5068e 5 = .ok (.ireturn, 1) := by decide +kernel
set_option maxRecDepth 20000 in
theorem ggJ4_length_8abf5_J5_length_8abf5 : GoodIn wsJ4_length_8abf5 wsJ5_length_8abf5 := goodIn_r _ [6, 7, 8, 9, 10, 11] rfl (by decide +kernel)
set_option maxRecDepth 20000 in
theorem gJ4_length_8abf5_J5_length_8abf5_s343 : GoodIn wsJ4_length_8abf5 (va_wsSU RJ4 343 yJ5_length_8abf5 wsJ5_length_8abf5) := goodIn_app (goodIn_of _ (by decide +kernel)) ggJ4_length_8abf5_J5_length_8abf5
theorem dJ4_length_8abf5_0 : decode cJ4_length_8abf5 0 = .ok (.aload_n 0, 1) := by decide +kernel
theorem dJ4_length_8abf5_1 : decode cJ4_length_8abf5 1 = .ok (.invokespecial 343, 3) := by decide +kernel
theorem dJ4_length_8abf5_4 : decode cJ4_length_8abf5 4 = .ok (.ireturn, 1) := by decide +kernel
set_option maxRecDepth 20000 in
theorem ggJ4_append_b3078_J4_append_cf468 : GoodIn wsJ4_append_b3078 wsJ4_append_cf468 := goodIn_r _ [5, 6, 7, 8, 9, 10, 11, 12, 13, 14, 15, 16, 17, 18, 19, 20, 21, 22, 23, 24, 25, 26, 27, 28, 29, 30, 31, 32, 33, 34, 35, 36, 37, 38, 39, 40, 41, 42, 43, 44, 45, 46, 47, 48, 49, 50, 51, 52, 53, 54, 55, 56, 57, 58, 59, 60, 61, 62, 63, 64, 65, 66, 67, 68, 69, 70, 71, 72, 73, 74, 75, 76, 77, 78, 79, 80, 81, 82, 83, 84, 85, 86, 87, 88, 89, 90, 91, 92, 93, 94, 95, 96, 97, 98, 99, 100, 101, 102, 103, 104, 105, 106, 107, 108, 109, 110, 111, 112, 113, 114, 115, 116, 117, 118, 119, 120, 121] rfl (by decide +kernel)
set_option maxRecDepth 20000 in
theorem gJ4_append_b3078_J4_append_cf468 : GoodIn wsJ4_append_b3078 (wsV RJ4 284 RJ4 yJ4_append_cf468 wsJ4_append_cf468) := goodIn_app (goodIn_of _ (by decide +kernel)) ggJ4_append_b3078_J4_append_cf468
theorem dJ4_append_b3078_0 : decode cJ4_append_b3078 0 = .ok (.aload_n 0, 1) := by decide +kernel
theorem dJ4_append_b3078_1 : decode cJ4_append_b3078 1 = .ok (.iload_n 1, 1) := by decide +kernel
theorem dJ4_append_b3078_2 : decode cJ4_append_b3078 2 = .ok (.invokevirtual 284, 3) := by decide +kernel
theorem dJ4_append_b3078_5 : decode cJ4_append_b3078 5 = .ok (.areturn, 1) := by decide +kernel
set_option maxRecDepth 20000 in
theorem ggJ4_append_996db_J4_append_1fab5 : GoodIn wsJ4_append_996db wsJ4_append_1fab5 := goodIn_r _ [5, 6, 7, 8, 9, 10, 11, 12, 13, 14, 15, 16, 17, 18, 19, 20, 21, 22, 23, 24, 25, 26, 27, 28, 29, 30, 31, 32, 33, 34, 35, 36, 37, 38, 39, 40, 41, 42, 43, 44, 45, 46, 47, 48, 49, 50, 51, 52, 53, 54, 55, 56, 57, 58, 59, 60, 61, 62, 63, 64, 65, 66, 67, 68, 69, 70, 71, 72, 73, 74, 75, 76, 77, 78, 79, 80, 81, 82, 83, 84, 85, 86, 87, 88, 89, 90, 91, 92, 93, 94, 95, 96, 97, 98, 4, 99, 100, 101, 102, 103, 104, 105, 106, 107, 108, 109, 110, 111, 112, 113, 114, 115, 116, 117, 118, 119, 120, 121, 122, 123, 124, 125, 126, 127, 128, 129, 130, 131, 132, 133, 134, 135, 136, 137, 138, 139, 140, 141, 142, 143, 144, 145, 146, 147, 148, 149, 150, 151, 152, 153, 154, 155, 156, 157, 158, 159, 160, 161, 162, 163, 164, 165, 166, 167, 168, 169, 170, 171, 172, 173, 174, 175, 176, 177, 178, 179, 180, 181, 182, 183, 184, 185, 186, 187, 188, 189, 190, 191, 192, 193, 194, 195, 196, 197, 198, 199, 200, 201, 202, 203, 204, 205, 206, 207, 208, 209, 210, 211, 212, 213, 214, 215, 216, 217, 218, 219, 220, 221, 222, 223, 224, 225, 226, 227, 228, 229, 230, 231, 232, 233, 234, 235, 236, 237, 238, 239, 240, 241, 242, 243, 244, 245, 246, 247, 248, 249, 250, 251, 252, 253, 254, 255, 256, 257, 258, 259, 260, 261, 262, 263, 264, 265, 266, 267, 268, 269, 270, 271, 272, 273, 274, 275, 276, 277, 278, 279, 280, 281, 282, 283] rfl (by decide +kernel)
set_option maxRecDepth 20000 in
theorem gJ4_append_996db_J4_append_1fab5 : GoodIn wsJ4_append_996db (wsV RJ4 299 RJ4 yJ4_append_1fab5 wsJ4_append_1fab5) := goodIn_app (goodIn_of _ (by decide +kernel)) ggJ4_append_996db_J4_append_1fab5
theorem dJ4_append_996db_0 : decode cJ4_append_996db 0 = .ok (.aload_n 0, 1) := by decide +kernel
theorem dJ4_append_996db_1 : decode cJ4_append_996db 1 = .ok (.aload_n 1, 1) := by decide +kernel
theorem dJ4_append_996db_2 : decode cJ4_append_996db 2 = .ok (.invokevirtual 299, 3) := by decide +kernel
theorem dJ4_append_996db_5 : decode cJ4_append_996db 5 = .ok (.areturn, 1) := by decide +kernel
set_option maxRecDepth 20000 in
theorem ggJ1_charAt_3b067_J0_checkIndex_df160 : GoodIn wsJ1_charAt_3b067 wsJ0_checkIndex_df160 := goodIn_r _ [4, 5, 6, 7, 8, 9] rfl (by decide +kernel)
set_option maxRecDepth 20000 in
theorem gJ1_charAt_3b067_J0_checkIndex_df160 : GoodIn wsJ1_charAt_3b067 (va_wsS RJ1 9 yJ0_checkIndex_df160 wsJ0_checkIndex_df160) := goodIn_app (goodIn_of _ (by decide +kernel)) ggJ1_charAt_3b067_J0_checkIndex_df160
theorem dJ1_charAt_3b067_0 : decode cJ1_charAt_3b067 0 = .ok (.iload_n 1, 1) := by decide +kernel
theorem dJ1_charAt_3b067_1 : decode cJ1_charAt_3b067 1 = .ok (.aload_n 0, 1) := by decide +kernel
theorem dJ1_charAt_3b067_2 : decode cJ1_charAt_3b067 2 = .ok (.arraylength, 1) := by decide +kernel
theorem dJ1_charAt_3b067_3 : decode cJ1_charAt_3b067 3 = .ok (.invokestatic 9, 3) := by decide +kernel
theorem dJ1_charAt_3b067_6 : decode cJ1_charAt_3b067 6 = .ok (.aload_n 0, 1) := by decide +kernel
theorem dJ1_charAt_3b067_7 : decode cJ1_charAt_3b067 7 = .ok (.iload_n 1, 1) := by decide +kernel
theorem dJ1_charAt_3b067_8 : decode cJ1_charAt_3b067 8 = .ok (.baload, 1) := by decide +kernel
theorem dJ1_charAt_3b067_9 : decode cJ1_charAt_3b067 9 = .ok (.sipush 255, 3) := by decide +kernel
theorem dJ1_charAt_3b067_12 : decode cJ1_charAt_3b067 12 = .ok (.iand, 1) := by decide +kernel
theorem dJ1_charAt_3b067_13 : decode cJ1_charAt_3b067 13 = .ok (.i2c, 1) := by decide +kernel
theorem dJ1_charAt_3b067_14 : decode cJ1_charAt_3b067 14 = .ok (.ireturn, 1) := by decide +kernel
theorem dJ1_canEncode_fc78d_0 : decode cJ1_canEncode_fc78d 0 = .ok (.iload_n 0, 1) := by decide +kernel
theorem dJ1_canEncode_fc78d_1 : decode cJ1_canEncode_fc78d 1 = .ok (.sipush 255, 3) := by decide +kernel
theorem dJ1_canEncode_fc78d_4 : decode cJ1_canEncode_fc78d 4 = .ok (.if_icmp .gt 7, 3) := by decide +kernel
theorem dJ1_canEncode_fc78d_7 : decode cJ1_canEncode_fc78d 7 = .ok (.iconst 1, 1) := by decide +kernel
theorem dJ1_canEncode_fc78d_8 : decode cJ1_canEncode_fc78d 8 = .ok (.goto 4, 3) := by decide +kernel
theorem dJ1_canEncode_fc78d_11 : decode cJ1_canEncode_fc78d 11 = .ok (.iconst 0, 1) := by decide +kernel
theorem dJ1_canEncode_fc78d_12 : decode cJ1_canEncode_fc78d 12 = .ok (.ireturn, 1) := by decide +kernel
theorem dJ1_canEncode_9a6ad_0 : decode cJ1_canEncode_9a6ad 0 = .ok (.iload_n 0, 1) := by decide +kernel
theorem dJ1_canEncode_9a6ad_1 : decode cJ1_canEncode_9a6ad 1 = .ok (.ifCond .lt 14, 3) := by decide +kernel
theorem dJ1_canEncode_9a6ad_4 : decode cJ1_canEncode_9a6ad 4 = .ok (.iload_n 0, 1) := by decide +kernel
theorem dJ1_canEncode_9a6ad_5 : decode cJ1_canEncode_9a6ad 5 = .ok (.sipush 255, 3) := by decide +kernel
theorem dJ1_canEncode_9a6ad_8 : decode cJ1_canEncode_9a6ad 8 = .ok (.if_icmp .gt 7, 3) := by decide +kernel
theorem dJ1_canEncode_9a6ad_11 : decode cJ1_canEncode_9a6ad 11 = .ok (.iconst 1, 1) := by decide +kernel
theorem dJ1_canEncode_9a6ad_12 : decode cJ1_canEncode_9a6ad 12 = .ok (.goto 4, 3) := by decide +kernel
theorem dJ1_canEncode_9a6ad_15 : decode cJ1_canEncode_9a6ad 15 = .ok (.iconst 0, 1) := by decide +kernel
theorem dJ1_canEncode_9a6ad_16 : decode cJ1_canEncode_9a6ad 16 = .ok (.ireturn, 1) := by decide +kernel
theorem dJ1_equals_b5fdf_0 : decode cJ1_equals_b5fdf 0 = .ok (.aload_n 0, 1) := by decide +kernel
theorem dJ1_equals_b5fdf_1 : decode cJ1_equals_b5fdf 1 = .ok (.arraylength, 1) := by decide +kernel
theorem dJ1_equals_b5fdf_2 : decode cJ1_equals_b5fdf 2 = .ok (.aload_n 1, 1) := by decide +kernel
theorem dJ1_equals_b5fdf_3 : decode cJ1_equals_b5fdf 3 = .ok (.arraylength, 1) := by decide +kernel
theorem dJ1_equals_b5fdf_4 : decode cJ1_equals_b5fdf 4 = .ok (.if_icmp .ne 30, 3) := by decide +kernel
theorem dJ1_equals_b5fdf_7 : decode cJ1_equals_b5fdf 7 = .ok (.iconst 0, 1) := by decide +kernel
theorem dJ1_equals_b5fdf_8 : decode cJ1_equals_b5fdf 8 = .ok (.istore_n 2, 1) := by decide +kernel
theorem dJ1_equals_b5fdf_9 : decode cJ1_equals_b5fdf 9 = .ok (.iload_n 2, 1) := by decide +kernel
theorem dJ1_equals_b5fdf_10 : decode cJ1_equals_b5fdf 10 = .ok (.aload_n 0, 1) := by decide +kernel
theorem dJ1_equals_b5fdf_11 : decode cJ1_equals_b5fdf 11 = .ok (.arraylength, 1) := by decide +kernel
theorem dJ1_equals_b5fdf_12 : decode cJ1_equals_b5fdf 12 = .ok (.if_icmp .ge 20, 3) := by decide +kernel
theorem dJ1_equals_b5fdf_15 : decode cJ1_equals_b5fdf 15 = .ok (.aload_n 0, 1) := by decide +kernel
theorem dJ1_equals_b5fdf_16 : decode cJ1_equals_b5fdf 16 = .ok (.iload_n 2, 1) := by decide +kernel
theorem dJ1_equals_b5fdf_17 : decode cJ1_equals_b5fdf 17 = .ok (.baload, 1) := by decide +kernel
theorem dJ1_equals_b5fdf_18 : decode cJ1_equals_b5fdf 18 = .ok (.aload_n 1, 1) := by decide +kernel
theorem dJ1_equals_b5fdf_19 : decode cJ1_equals_b5fdf 19 = .ok (.iload_n 2, 1) := by decide +kernel
theorem dJ1_equals_b5fdf_20 : decode cJ1_equals_b5fdf 20 = .ok (.baload, 1) := by decide +kernel
theorem dJ1_equals_b5fdf_21 : decode cJ1_equals_b5fdf 21 = .ok (.if_icmp .eq 5, 3) := by decide +kernel
theorem dJ1_equals_b5fdf_24 : decode cJ1_equals_b5fdf 24 = .ok (.iconst 0, 1) := by decide +kernel
theorem dJ1_equals_b5fdf_25 : decode cJ1_equals_b5fdf 25 = .ok (.ireturn, 1) := by decide +kernel
theorem dJ1_equals_b5fdf_26 : decode cJ1_equals_b5fdf 26 = .ok (.iinc 2 1, 3) := by decide +kernel
theorem dJ1_equals_b5fdf_29 : decode cJ1_equals_b5fdf 29 = .ok (.goto (-20), 3) := by decide +kernel
theorem dJ1_equals_b5fdf_32 : decode cJ1_equals_b5fdf 32 = .ok (.iconst 1, 1) := by decide +kernel
theorem dJ1_equals_b5fdf_33 : decode cJ1_equals_b5fdf 33 = .ok (.ireturn, 1) := by decide +kernel
theorem dJ1_equals_b5fdf_34 : decode cJ1_equals_b5fdf 34 = .ok (.iconst 0, 1) := by decide +kernel
theorem dJ1_equals_b5fdf_35 : decode cJ1_equals_b5fdf 35 = .ok (.ireturn, 1) := by decide +kernel
set_option maxRecDepth 20000 in
theorem ggJ1_indexOf_4cfef_J1_canEncode_9a6ad : GoodIn wsJ1_indexOf_4cfef wsJ1_canEncode_9a6ad := goodIn_r _ [11] rfl (by decide +kernel)
set_option maxRecDepth 20000 in
theorem gJ1_indexOf_4cfef_J1_canEncode_9a6ad : GoodIn wsJ1_indexOf_4cfef (va_wsS RJ1 88 yJ1_canEncode_9a6ad wsJ1_canEncode_9a6ad) := goodIn_app (goodIn_of _ (by decide +kernel)) ggJ1_indexOf_4cfef_J1_canEncode_9a6ad
set_option maxRecDepth 20000 in
theorem ggJ1_indexOf_4cfef_J1_indexOfChar_4cfef : GoodIn wsJ1_indexOf_4cfef wsJ1_indexOfChar_4cfef := goodIn_r _ [14] rfl (by decide +kernel)
set_option maxRecDepth 20000 in
theorem gJ1_indexOf_4cfef_J1_indexOfChar_4cfef : GoodIn wsJ1_indexOf_4cfef (va_wsS RJ1 95 yJ1_indexOfChar_4cfef wsJ1_indexOfChar_4cfef) := goodIn_app (goodIn_of _ (by decide +kernel)) ggJ1_indexOf_4cfef_J1_indexOfChar_4cfef
theorem dJ1_indexOf_4cfef_0 : decode cJ1_indexOf_4cfef 0 = .ok (.iload_n 1, 1) := by decide +kernel
theorem dJ1_indexOf_4cfef_1 : decode cJ1_indexOf_4cfef 1 = .ok (.invokestatic 88, 3) := by decide +kernel
theorem dJ1_indexOf_4cfef_4 : decode cJ1_indexOf_4cfef 4 = .ok (.ifCond .ne 5, 3) := by decide +kernel
theorem dJ1_indexOf_4cfef_7 : decode cJ1_indexOf_4cfef 7 = .ok (.iconst (-1), 1) := by decide +kernel
theorem dJ1_indexOf_4cfef_8 : decode cJ1_indexOf_4cfef 8 = .ok (.ireturn, 1) := by decide +kernel
theorem dJ1_indexOf_4cfef_9 : decode cJ1_indexOf_4cfef 9 = .ok (.iload_n 2, 1) := by decide +kernel
theorem dJ1_indexOf_4cfef_10 : decode cJ1_indexOf_4cfef 10 = .ok (.iconst 0, 1) := by decide +kernel
theorem dJ1_indexOf_4cfef_11 : decode cJ1_indexOf_4cfef 11 = .ok (.invokestatic 92, 3) := by decide +kernel
theorem dJ1_indexOf_4cfef_14 : decode cJ1_indexOf_4cfef 14 = .ok (.istore_n 2, 1) := by decide +kernel
theorem dJ1_indexOf_4cfef_15 : decode cJ1_indexOf_4cfef 15 = .ok (.iload_n 3, 1) := by decide +kernel
theorem dJ1_indexOf_4cfef_16 : decode cJ1_indexOf_4cfef 16 = .ok (.aload_n 0, 1) := by decide +kernel
theorem dJ1_indexOf_4cfef_17 : decode cJ1_indexOf_4cfef 17 = .ok (.arraylength, 1) := by decide +kernel
theorem dJ1_indexOf_4cfef_18 : decode cJ1_indexOf_4cfef 18 = .ok (.invokestatic 38, 3) := by decide +kernel
theorem dJ1_indexOf_4cfef_21 : decode cJ1_indexOf_4cfef 21 = .ok (.istore_n 3, 1) := by decide +kernel
theorem dJ1_indexOf_4cfef_22 : decode cJ1_indexOf_4cfef 22 = .ok (.iload_n 2, 1) := by decide +kernel
theorem dJ1_indexOf_4cfef_23 : decode cJ1_indexOf_4cfef 23 = .ok (.iload_n 3, 1) := by decide +kernel
theorem dJ1_indexOf_4cfef_24 : decode cJ1_indexOf_4cfef 24 = .ok (.if_icmp .lt 5, 3) := by decide +kernel
theorem dJ1_indexOf_4cfef_27 : decode cJ1_indexOf_4cfef 27 = .ok (.iconst (-1), 1) := by decide +kernel
theorem dJ1_indexOf_4cfef_28 : decode cJ1_indexOf_4cfef 28 = .ok (.ireturn, 1) := by decide +kernel
theorem dJ1_indexOf_4cfef_29 : decode cJ1_indexOf_4cfef 29 = .ok (.aload_n 0, 1) := by decide +kernel
theorem dJ1_indexOf_4cfef_30 : decode cJ1_indexOf_4cfef 30 = .ok (.iload_n 1, 1) := by decide +kernel
theorem dJ1_indexOf_4cfef_31 : decode cJ1_indexOf_4cfef 31 = .ok (.iload_n 2, 1) := by decide +kernel
theorem dJ1_indexOf_4cfef_32 : decode cJ1_indexOf_4cfef 32 = .ok (.iload_n 3, 1) := by decide +kernel
theorem dJ1_indexOf_4cfef_33 : decode cJ1_indexOf_4cfef 33 = .ok (.invokestatic 95, 3) := by decide +kernel
theorem dJ1_indexOf_4cfef_36 : decode cJ1_indexOf_4cfef 36 = .ok (.ireturn, 1) := by decide +kernel
theorem dJ1_indexOfChar_4cfef_0 : decode cJ1_indexOfChar_4cfef 0 = .ok (.iload_n 1, 1) := by decide +kernel
theorem dJ1_indexOfChar_4cfef_1 : decode cJ1_indexOfChar_4cfef 1 = .ok (.i2b, 1) := by decide +kernel
theorem dJ1_indexOfChar_4cfef_2 : decode cJ1_indexOfChar_4cfef 2 = .ok (.istore 4, 2) := by decide +kernel
theorem dJ1_indexOfChar_4cfef_4 : decode cJ1_indexOfChar_4cfef 4 = .ok (.iload_n 2, 1) := by decide +kernel
theorem dJ1_indexOfChar_4cfef_5 : decode cJ1_indexOfChar_4cfef 5 = .ok (.istore 5, 2) := by decide +kernel
theorem dJ1_indexOfChar_4cfef_7 : decode cJ1_indexOfChar_4cfef 7 = .ok (.iload 5, 2) := by decide +kernel
theorem dJ1_indexOfChar_4cfef_9 : decode cJ1_indexOfChar_4cfef 9 = .ok (.iload_n 3, 1) := by decide +kernel
theorem dJ1_indexOfChar_4cfef_10 : decode cJ1_indexOfChar_4cfef 10 = .ok (.if_icmp .ge 21, 3) := by decide +kernel
theorem dJ1_indexOfChar_4cfef_13 : decode cJ1_indexOfChar_4cfef 13 = .ok (.aload_n 0, 1) := by decide +kernel
theorem dJ1_indexOfChar_4cfef_14 : decode cJ1_indexOfChar_4cfef 14 = .ok (.iload 5, 2) := by decide +kernel
theorem dJ1_indexOfChar_4cfef_16 : decode cJ1_indexOfChar_4cfef 16 = .ok (.baload, 1) := by decide +kernel
theorem dJ1_indexOfChar_4cfef_17 : decode cJ1_indexOfChar_4cfef 17 = .ok (.iload 4, 2) := by decide +kernel
theorem dJ1_indexOfChar_4cfef_19 : decode cJ1_indexOfChar_4cfef 19 = .ok (.if_icmp .ne 6, 3) := by decide +kernel
theorem dJ1_indexOfChar_4cfef_22 : decode cJ1_indexOfChar_4cfef 22 = .ok (.iload 5, 2) := by decide +kernel
theorem dJ1_indexOfChar_4cfef_24 : decode cJ1_indexOfChar_4cfef 24 = .ok (.ireturn, 1) := by decide +kernel
theorem dJ1_indexOfChar_4cfef_25 : decode cJ1_indexOfChar_4cfef 25 = .ok (.iinc 5 1, 3) := by decide +kernel
theorem dJ1_indexOfChar_4cfef_28 : decode cJ1_indexOfChar_4cfef 28 = .ok (.goto (-21), 3) := by decide +kernel
theorem dJ1_indexOfChar_4cfef_31 : decode cJ1_indexOfChar_4cfef 31 = .ok (.iconst (-1), 1) := by decide +kernel
theorem dJ1_indexOfChar_4cfef_32 : decode cJ1_indexOfChar_4cfef 32 = .ok (.ireturn, 1) := by decide +kernel
set_option maxRecDepth 20000 in
theorem ggJ1_inflate_0e8fd_J2_inflate_0e8fd : GoodIn wsJ1_inflate_0e8fd wsJ2_inflate_0e8fd := goodIn_r _ [4, 5, 6, 3, 7, 8, 9, 10, 11, 12, 13, 14, 15, 16, 17, 18, 19, 20, 21, 22, 23, 24, 25] rfl (by decide +kernel)
set_option maxRecDepth 20000 in
theorem gJ1_inflate_0e8fd_J2_inflate_0e8fd : GoodIn wsJ1_inflate_0e8fd (va_wsS RJ1 240 yJ2_inflate_0e8fd wsJ2_inflate_0e8fd) := goodIn_app (goodIn_of _ (by decide +kernel)) ggJ1_inflate_0e8fd_J2_inflate_0e8fd
theorem dJ1_inflate_0e8fd_0 : decode cJ1_inflate_0e8fd 0 = .ok (.aload_n 0, 1) := by decide +kernel
theorem dJ1_inflate_0e8fd_1 : decode cJ1_inflate_0e8fd 1 = .ok (.iload_n 1, 1) := by decide +kernel
theorem dJ1_inflate_0e8fd_2 : decode cJ1_inflate_0e8fd 2 = .ok (.aload_n 2, 1) := by decide +kernel
theorem dJ1_inflate_0e8fd_3 : decode cJ1_inflate_0e8fd 3 = .ok (.iload_n 3, 1) := by decide +kernel
theorem dJ1_inflate_0e8fd_4 : decode cJ1_inflate_0e8fd 4 = .ok (.iload 4, 2) := by decide +kernel
theorem dJ1_inflate_0e8fd_6 : decode cJ1_inflate_0e8fd 6 = .ok (.invokestatic 240, 3) := by decide +kernel
theorem dJ1_inflate_0e8fd_9 : decode cJ1_inflate_0e8fd 9 = .ok (.return_, 1) := by decide +kernel
set_option maxRecDepth 20000 in
theorem ggJ2_newBytesFor_77867_J2_newBytesLength_0f7a4 : GoodIn wsJ2_newBytesFor_77867 wsJ2_newBytesLength_0f7a4 := goodIn_r _ [5, 6] rfl (by decide +kernel)
set_option maxRecDepth 20000 in
theorem gJ2_newBytesFor_77867_J2_newBytesLength_0f7a4 : GoodIn wsJ2_newBytesFor_77867 (va_wsS RJ2 11 yJ2_newBytesLength_0f7a4 wsJ2_newBytesLength_0f7a4) := goodIn_app (goodIn_of _ (by decide +kernel)) ggJ2_newBytesFor_77867_J2_newBytesLength_0f7a4
theorem dJ2_newBytesFor_77867_0 : decode cJ2_newBytesFor_77867 0 = .ok (.iload_n 0, 1) := by decide +kernel
theorem dJ2_newBytesFor_77867_1 : decode cJ2_newBytesFor_77867 1 = .ok (.invokestatic 11, 3) := by decide +kernel
theorem dJ2_newBytesFor_77867_4 : decode cJ2_newBytesFor_77867 4 = .ok (.newarray .byte, 2) := by decide +kernel
theorem dJ2_newBytesFor_77867_6 : decode cJ2_newBytesFor_77867 6 = .ok (.areturn, 1) := by decide +kernel
theorem dJ2_newBytesLength_0f7a4_0 : decode cJ2_newBytesLength_0f7a4 0 = .ok (.iload_n 0, 1) := by decide +kernel
theorem dJ2_newBytesLength_0f7a4_1 : decode cJ2_newBytesLength_0f7a4 1 = .ok (.ifCond .ge 11, 3) := by decide +kernel
theorem dJ2_newBytesLength_0f7a4_4 : decode cJ2_newBytesLength_0f7a4 4 = .ok (.new 17, 3) := by decide +kernel
theorem dJ2_newBytesLength_0f7a4_7 : decode cJ2_newBytesLength_0f7a4 7 = .ok (.dup, 1) := by decide +kernel
theorem dJ2_newBytesLength_0f7a4_8 : decode cJ2_newBytesLength_0f7a4 8 = .ok (.invokespecial 19, 3) := by decide +kernel
theorem dJ2_newBytesLength_0f7a4_11 : decode cJ2_newBytesLength_0f7a4 11 = .ok (.athrow, 1) := by decide +kernel
theorem dJ2_newBytesLength_0f7a4_12 : decode cJ2_newBytesLength_0f7a4 12 = .ok (.iload_n 0, 1) := by decide +kernel
theorem dJ2_newBytesLength_0f7a4_13 : decode cJ2_newBytesLength_0f7a4 13 = .ok (.ldc 20, 2) := by decide +kernel
theorem dJ2_newBytesLength_0f7a4_15 : decode cJ2_newBytesLength_0f7a4 15 = .ok (.if_icmp .lt 40, 3) := by decide +kernel
theorem dJ2_newBytesLength_0f7a4_18 : decode cJ2_newBytesLength_0f7a4 18 = .ok (.new 21, 3) := by decide +kernel
theorem dJ2_newBytesLength_0f7a4_21 : decode cJ2_newBytesLength_0f7a4 21 = .ok (.dup, 1) := by decide +kernel
theorem dJ2_newBytesLength_0f7a4_22 : decode cJ2_newBytesLength_0f7a4 22 = .ok (.new 23, 3) := by decide +kernel
theorem dJ2_newBytesLength_0f7a4_25 : decode cJ2_newBytesLength_0f7a4 25 = .ok (.dup, 1) := by decide +kernel
theorem dJ2_newBytesLength_0f7a4_26 : decode cJ2_newBytesLength_0f7a4 26 = .ok (.invokespecial 25, 3) := by decide +kernel
theorem dJ2_newBytesLength_0f7a4_29 : decode cJ2_newBytesLength_0f7a4 29 = .ok (.ldc 26, 2) := by decide +kernel
theorem dJ2_newBytesLength_0f7a4_31 : decode cJ2_newBytesLength_0f7a4 31 = .ok (.invokevirtual 28, 3) := by decide +kernel
theorem dJ2_newBytesLength_0f7a4_34 : decode cJ2_newBytesLength_0f7a4 34 = .ok (.iload_n 0, 1) := by decide +kernel
theorem dJ2_newBytesLength_0f7a4_35 : decode cJ2_newBytesLength_0f7a4 35 = .ok (.invokevirtual 32, 3) := by decide +kernel
theorem dJ2_newBytesLength_0f7a4_38 : decode cJ2_newBytesLength_0f7a4 38 = .ok (.ldc 35, 2) := by decide +kernel
theorem dJ2_newBytesLength_0f7a4_40 : decode cJ2_newBytesLength_0f7a4 40 = .ok (.invokevirtual 28, 3) := by decide +kernel
theorem dJ2_newBytesLength_0f7a4_43 : decode cJ2_newBytesLength_0f7a4 43 = .ok (.ldc 20, 2) := by decide +kernel
theorem dJ2_newBytesLength_0f7a4_45 : decode cJ2_newBytesLength_0f7a4 45 = .ok (.invokevirtual 32, 3) := by decide +kernel
theorem dJ2_newBytesLength_0f7a4_48 : decode cJ2_newBytesLength_0f7a4 48 = .ok (.invokevirtual 37, 3) := by decide +kernel
theorem dJ2_newBytesLength_0f7a4_51 : decode cJ2_newBytesLength_0f7a4 51 = .ok (.invokespecial 41, 3) := by decide +kernel
theorem dJ2_newBytesLength_0f7a4_54 : decode cJ2_newBytesLength_0f7a4 54 = .ok (.athrow, 1) := by decide +kernel
theorem dJ2_newBytesLength_0f7a4_55 : decode cJ2_newBytesLength_0f7a4 55 = .ok (.iload_n 0, 1) := by decide +kernel
theorem dJ2_newBytesLength_0f7a4_56 : decode cJ2_newBytesLength_0f7a4 56 = .ok (.iconst 1, 1) := by decide +kernel
theorem dJ2_newBytesLength_0f7a4_57 : decode cJ2_newBytesLength_0f7a4 57 = .ok (.ishl, 1) := by decide +kernel
theorem dJ2_newBytesLength_0f7a4_58 : decode cJ2_newBytesLength_0f7a4 58 = .ok (.ireturn, 1) := by decide +kernel
set_option maxRecDepth 20000 in
theorem ggJ2_putChar_b72d1_J2_length_9d52b : GoodIn wsJ2_putChar_b72d1 wsJ2_length_9d52b := goodIn_r _ [7] rfl (by decide +kernel)
set_option maxRecDepth 20000 in
theorem gJ2_putChar_b72d1_J2_length_9d52b : GoodIn wsJ2_putChar_b72d1 (va_wsS RJ2 48 yJ2_length_9d52b wsJ2_length_9d52b) := goodIn_app (goodIn_of _ (by decide +kernel)) ggJ2_putChar_b72d1_J2_length_9d52b
theorem dJ2_putChar_b72d1_0 : decode cJ2_putChar_b72d1 0 = .ok (.getstatic 44, 3) := by decide +kernel
theorem dJ2_putChar_b72d1_3 : decode cJ2_putChar_b72d1 3 = .ok (.ifCond .ne 25, 3) := by decide +kernel
theorem dJ2_putChar_b72d1_6 : decode cJ2_putChar_b72d1 6 = .ok (.iload_n 1, 1) := by decide +kernel
theorem dJ2_putChar_b72d1_7 : decode cJ2_putChar_b72d1 7 = .ok (.ifCond .lt 11, 3) := by decide +kernel
theorem dJ2_putChar_b72d1_10 : decode cJ2_putChar_b72d1 10 = .ok (.iload_n 1, 1) := by decide +kernel
theorem dJ2_putChar_b72d1_11 : decode cJ2_putChar_b72d1 11 = .ok (.aload_n 0, 1) := by decide +kernel
theorem dJ2_putChar_b72d1_12 : decode cJ2_putChar_b72d1 12 = .ok (.invokestatic 48, 3) := by decide +kernel
theorem dJ2_putChar_b72d1_15 : decode cJ2_putChar_b72d1 15 = .ok (.if_icmp .lt 13, 3) := by decide +kernel
theorem dJ2_putChar_b72d1_18 : decode cJ2_putChar_b72d1 18 = .ok (.new 52, 3) := by decide +kernel
theorem dJ2_putChar_b72d1_21 : decode cJ2_putChar_b72d1 21 = .ok (.dup, 1) := by decide +kernel
theorem dJ2_putChar_b72d1_22 : decode cJ2_putChar_b72d1 22 = .ok (.ldc 54, 2) := by decide +kernel
theorem dJ2_putChar_b72d1_24 : decode cJ2_putChar_b72d1 24 = .ok (.invokespecial 56, 3) := by decide +kernel
theorem dJ2_putChar_b72d1_27 : decode cJ2_putChar_b72d1 27 = .ok (.athrow, 1) := by decide +kernel
theorem dJ2_putChar_b72d1_28 : decode cJ2_putChar_b72d1 28 = .ok (.iload_n 1, 1) := by decide +kernel
theorem dJ2_putChar_b72d1_29 : decode cJ2_putChar_b72d1 29 = .ok (.iconst 1, 1) := by decide +kernel
theorem dJ2_putChar_b72d1_30 : decode cJ2_putChar_b72d1 30 = .ok (.ishl, 1) := by decide +kernel
theorem dJ2_putChar_b72d1_31 : decode cJ2_putChar_b72d1 31 = .ok (.istore_n 1, 1) := by decide +kernel
theorem dJ2_putChar_b72d1_32 : decode cJ2_putChar_b72d1 32 = .ok (.aload_n 0, 1) := by decide +kernel
theorem dJ2_putChar_b72d1_33 : decode cJ2_putChar_b72d1 33 = .ok (.iload_n 1, 1) := by decide +kernel
theorem dJ2_putChar_b72d1_34 : decode cJ2_putChar_b72d1 34 = .ok (.iinc 1 1, 3) := by decide +kernel
theorem dJ2_putChar_b72d1_37 : decode cJ2_putChar_b72d1 37 = .ok (.iload_n 2, 1) := by decide +kernel
theorem dJ2_putChar_b72d1_38 : decode cJ2_putChar_b72d1 38 = .ok (.getstatic 59, 3) := by decide +kernel
theorem dJ2_putChar_b72d1_41 : decode cJ2_putChar_b72d1 41 = .ok (.ishr, 1) := by decide +kernel
theorem dJ2_putChar_b72d1_42 : decode cJ2_putChar_b72d1 42 = .ok (.i2b, 1) := by decide +kernel
theorem dJ2_putChar_b72d1_43 : decode cJ2_putChar_b72d1 43 = .ok (.bastore, 1) := by decide +kernel
theorem dJ2_putChar_b72d1_44 : decode cJ2_putChar_b72d1 44 = .ok (.aload_n 0, 1) := by decide +kernel
theorem dJ2_putChar_b72d1_45 : decode cJ2_putChar_b72d1 45 = .ok (.iload_n 1, 1) := by decide +kernel
theorem dJ2_putChar_b72d1_46 : decode cJ2_putChar_b72d1 46 = .ok (.iload_n 2, 1) := by decide +kernel
theorem dJ2_putChar_b72d1_47 : decode cJ2_putChar_b72d1 47 = .ok (.getstatic 63, 3) := by decide +kernel
theorem dJ2_putChar_b72d1_50 : decode cJ2_putChar_b72d1 50 = .ok (.ishr, 1) := by decide +kernel
theorem dJ2_putChar_b72d1_51 : decode cJ2_putChar_b72d1 51 = .ok (.i2b, 1) := by decide +kernel
theorem dJ2_putChar_b72d1_52 : decode cJ2_putChar_b72d1 52 = .ok (.bastore, 1) := by decide +kernel
theorem dJ2_putChar_b72d1_53 : decode cJ2_putChar_b72d1 53 = .ok (.return_, 1) := by decide +kernel
set_option maxRecDepth 20000 in
theorem ggJ2_getChar_3b067_J2_length_9d52b : GoodIn wsJ2_getChar_3b067 wsJ2_length_9d52b := goodIn_r _ [7] rfl (by decide +kernel)
set_option maxRecDepth 20000 in
theorem gJ2_getChar_3b067_J2_length_9d52b : GoodIn wsJ2_getChar_3b067 (va_wsS RJ2 48 yJ2_length_9d52b wsJ2_length_9d52b) := goodIn_app (goodIn_of _ (by decide +kernel)) ggJ2_getChar_3b067_J2_length_9d52b
theorem dJ2_getChar_3b067_0 : decode cJ2_getChar_3b067 0 = .ok (.getstatic 44, 3) := by decide +kernel
theorem dJ2_getChar_3b067_3 : decode cJ2_getChar_3b067 3 = .ok (.ifCond .ne 25, 3) := by decide +kernel
theorem dJ2_getChar_3b067_6 : decode cJ2_getChar_3b067 6 = .ok (.iload_n 1, 1) := by decide +kernel
theorem dJ2_getChar_3b067_7 : decode cJ2_getChar_3b067 7 = .ok (.ifCond .lt 11, 3) := by decide +kernel
theorem dJ2_getChar_3b067_10 : decode cJ2_getChar_3b067 10 = .ok (.iload_n 1, 1) := by decide +kernel
theorem dJ2_getChar_3b067_11 : decode cJ2_getChar_3b067 11 = .ok (.aload_n 0, 1) := by decide +kernel
theorem dJ2_getChar_3b067_12 : decode cJ2_getChar_3b067 12 = .ok (.invokestatic 48, 3) := by decide +kernel
theorem dJ2_getChar_3b067_15 : decode cJ2_getChar_3b067 15 = .ok (.if_icmp .lt 13, 3) := by decide +kernel
theorem dJ2_getChar_3b067_18 : decode cJ2_getChar_3b067 18 = .ok (.new 52, 3) := by decide +kernel
theorem dJ2_getChar_3b067_21 : decode cJ2_getChar_3b067 21 = .ok (.dup, 1) := by decide +kernel
theorem dJ2_getChar_3b067_22 : decode cJ2_getChar_3b067 22 = .ok (.ldc 54, 2) := by decide +kernel
theorem dJ2_getChar_3b067_24 : decode cJ2_getChar_3b067 24 = .ok (.invokespecial 56, 3) := by decide +kernel
theorem dJ2_getChar_3b067_27 : decode cJ2_getChar_3b067 27 = .ok (.athrow, 1) := by decide +kernel
theorem dJ2_getChar_3b067_28 : decode cJ2_getChar_3b067 28 = .ok (.iload_n 1, 1) := by decide +kernel
theorem dJ2_getChar_3b067_29 : decode cJ2_getChar_3b067 29 = .ok (.iconst 1, 1) := by decide +kernel
theorem dJ2_getChar_3b067_30 : decode cJ2_getChar_3b067 30 = .ok (.ishl, 1) := by decide +kernel
theorem dJ2_getChar_3b067_31 : decode cJ2_getChar_3b067 31 = .ok (.istore_n 1, 1) := by decide +kernel
theorem dJ2_getChar_3b067_32 : decode cJ2_getChar_3b067 32 = .ok (.aload_n 0, 1) := by decide +kernel
theorem dJ2_getChar_3b067_33 : decode cJ2_getChar_3b067 33 = .ok (.iload_n 1, 1) := by decide +kernel
theorem dJ2_getChar_3b067_34 : decode cJ2_getChar_3b067 34 = .ok (.iinc 1 1, 3) := by decide +kernel
theorem dJ2_getChar_3b067_37 : decode cJ2_getChar_3b067 37 = .ok (.baload, 1) := by decide +kernel
theorem dJ2_getChar_3b067_38 : decode cJ2_getChar_3b067 38 = .ok (.sipush 255, 3) := by decide +kernel
theorem dJ2_getChar_3b067_41 : decode cJ2_getChar_3b067 41 = .ok (.iand, 1) := by decide +kernel
theorem dJ2_getChar_3b067_42 : decode cJ2_getChar_3b067 42 = .ok (.getstatic 59, 3) := by decide +kernel
theorem dJ2_getChar_3b067_45 : decode cJ2_getChar_3b067 45 = .ok (.ishl, 1) := by decide +kernel
theorem dJ2_getChar_3b067_46 : decode cJ2_getChar_3b067 46 = .ok (.aload_n 0, 1) := by decide +kernel
theorem dJ2_getChar_3b067_47 : decode cJ2_getChar_3b067 47 = .ok (.iload_n 1, 1) := by decide +kernel
theorem dJ2_getChar_3b067_48 : decode cJ2_getChar_3b067 48 = .ok (.baload, 1) := by decide +kernel
theorem dJ2_getChar_3b067_49 : decode cJ2_getChar_3b067 49 = .ok (.sipush 255, 3) := by decide +kernel
theorem dJ2_getChar_3b067_52 : decode cJ2_getChar_3b067 52 = .ok (.iand, 1) := by decide +kernel
theorem dJ2_getChar_3b067_53 : decode cJ2_getChar_3b067 53 = .ok (.getstatic 63, 3) := by decide +kernel
theorem dJ2_getChar_3b067_56 : decode cJ2_getChar_3b067 56 = .ok (.ishl, 1) := by decide +kernel
theorem dJ2_getChar_3b067_57 : decode cJ2_getChar_3b067 57 = .ok (.ior, 1) := by decide +kernel
theorem dJ2_getChar_3b067_58 : decode cJ2_getChar_3b067 58 = .ok (.i2c, 1) := by decide +kernel
theorem dJ2_getChar_3b067_59 : decode cJ2_getChar_3b067 59 = .ok (.ireturn, 1) := by decide +kernel
theorem dJ2_length_9d52b_0 : decode cJ2_length_9d52b 0 = .ok (.aload_n 0, 1) := by decide +kernel
theorem dJ2_length_9d52b_1 : decode cJ2_length_9d52b 1 = .ok (.arraylength, 1) := by decide +kernel
theorem dJ2_length_9d52b_2 : decode cJ2_length_9d52b 2 = .ok (.iconst 1, 1) := by decide +kernel
theorem dJ2_length_9d52b_3 : decode cJ2_length_9d52b 3 = .ok (.ishr, 1) := by decide +kernel
theorem dJ2_length_9d52b_4 : decode cJ2_length_9d52b 4 = .ok (.ireturn, 1) := by decide +kernel
theorem dJ2_coderFromArrayLen_85cad_0 : decode cJ2_coderFromArrayLen_85cad 0 = .ok (.iload_n 1, 1) := by decide +kernel
theorem dJ2_coderFromArrayLen_85cad_1 : decode cJ2_coderFromArrayLen_85cad 1 = .ok (.aload_n 0, 1) := by decide +kernel
theorem dJ2_coderFromArrayLen_85cad_2 : decode cJ2_coderFromArrayLen_85cad 2 = .ok (.arraylength, 1) := by decide +kernel
theorem dJ2_coderFromArrayLen_85cad_3 : decode cJ2_coderFromArrayLen_85cad 3 = .ok (.isub, 1) := by decide +kernel
theorem dJ2_coderFromArrayLen_85cad_4 : decode cJ2_coderFromArrayLen_85cad 4 = .ok (.bipush 31, 2) := by decide +kernel
theorem dJ2_coderFromArrayLen_85cad_6 : decode cJ2_coderFromArrayLen_85cad 6 = .ok (.iushr, 1) := by decide +kernel
theorem dJ2_coderFromArrayLen_85cad_7 : decode cJ2_coderFromArrayLen_85cad 7 = .ok (.i2b, 1) := by decide +kernel
theorem dJ2_coderFromArrayLen_85cad_8 : decode cJ2_coderFromArrayLen_85cad 8 = .ok (.ireturn, 1) := by decide +kernel
set_option maxRecDepth 20000 in
theorem ggJ2_compress_39247_J2_compress_5af95 : GoodIn wsJ2_compress_39247 wsJ2_compress_5af95 := goodIn_r _ [5, 6, 7, 4, 8, 9, 10, 11, 12, 13, 14, 15, 16, 17, 18, 19, 20, 21, 22, 23, 24, 25, 26] rfl (by decide +kernel)
set_option maxRecDepth 20000 in
theorem gJ2_compress_39247_J2_compress_5af95 : GoodIn wsJ2_compress_39247 (va_wsS RJ2 123 yJ2_compress_5af95 wsJ2_compress_5af95) := goodIn_app (goodIn_of _ (by decide +kernel)) ggJ2_compress_39247_J2_compress_5af95
set_option maxRecDepth 20000 in
theorem ggJ2_compress_39247_J2_newBytesLength_0f7a4 : GoodIn wsJ2_compress_39247 wsJ2_newBytesLength_0f7a4 := goodIn_r _ [29, 30] rfl (by decide +kernel)
set_option maxRecDepth 20000 in
theorem gJ2_compress_39247_J2_newBytesLength_0f7a4 : GoodIn wsJ2_compress_39247 (va_wsS RJ2 11 yJ2_newBytesLength_0f7a4 wsJ2_newBytesLength_0f7a4) := goodIn_app (goodIn_of _ (by decide +kernel)) ggJ2_compress_39247_J2_newBytesLength_0f7a4
set_option maxRecDepth 20000 in
theorem ggJ2_compress_39247_J7_copyOfRange_39247 : GoodIn wsJ2_compress_39247 wsJ7_copyOfRange_39247 := goodIn_r _ [34, 35, 36, 37, 38, 39, 40, 41, 42, 33, 43, 1, 44, 45, 46, 47, 48, 49, 50, 51, 52, 53, 54, 55, 56, 57, 58, 59, 60, 61] rfl (by decide +kernel)
set_option maxRecDepth 20000 in
theorem gJ2_compress_39247_J7_copyOfRange_39247 : GoodIn wsJ2_compress_39247 (va_wsS RJ2 126 yJ7_copyOfRange_39247 wsJ7_copyOfRange_39247) := goodIn_app (goodIn_of _ (by decide +kernel)) ggJ2_compress_39247_J7_copyOfRange_39247
set_option maxRecDepth 20000 in
theorem ggJ2_compress_39247_J2_getChar_3b067 : GoodIn wsJ2_compress_39247 wsJ2_getChar_3b067 := goodIn_r _ [23, 24, 25, 26, 9, 10, 4, 11] rfl (by decide +kernel)
set_option maxRecDepth 20000 in
theorem gJ2_compress_39247_J2_getChar_3b067 : GoodIn wsJ2_compress_39247 (va_wsS RJ2 71 yJ2_getChar_3b067 wsJ2_getChar_3b067) := goodIn_app (goodIn_of _ (by decide +kernel)) ggJ2_compress_39247_J2_getChar_3b067
theorem dJ2_compress_39247_0 : decode cJ2_compress_39247 0 = .ok (.iload_n 2, 1) := by decide +kernel
theorem dJ2_compress_39247_1 : decode cJ2_compress_39247 1 = .ok (.newarray .byte, 2) := by decide +kernel
theorem dJ2_compress_39247_3 : decode cJ2_compress_39247 3 = .ok (.astore_n 3, 1) := by decide +kernel
theorem dJ2_compress_39247_4 : decode cJ2_compress_39247 4 = .ok (.aload_n 0, 1) := by decide +kernel
theorem dJ2_compress_39247_5 : decode cJ2_compress_39247 5 = .ok (.iload_n 1, 1) := by decide +kernel
theorem dJ2_compress_39247_6 : decode cJ2_compress_39247 6 = .ok (.aload_n 3, 1) := by decide +kernel
theorem dJ2_compress_39247_7 : decode cJ2_compress_39247 7 = .ok (.iconst 0, 1) := by decide +kernel
theorem dJ2_compress_39247_8 : decode cJ2_compress_39247 8 = .ok (.iload_n 2, 1) := by decide +kernel
theorem dJ2_compress_39247_9 : decode cJ2_compress_39247 9 = .ok (.invokestatic 123, 3) := by decide +kernel
theorem dJ2_compress_39247_12 : decode cJ2_compress_39247 12 = .ok (.istore 4, 2) := by decide +kernel
theorem dJ2_compress_39247_14 : decode cJ2_compress_39247 14 = .ok (.iload 4, 2) := by decide +kernel
theorem dJ2_compress_39247_16 : decode cJ2_compress_39247 16 = .ok (.iload_n 2, 1) := by decide +kernel
theorem dJ2_compress_39247_17 : decode cJ2_compress_39247 17 = .ok (.if_icmp .eq 47, 3) := by decide +kernel
theorem dJ2_compress_39247_20 : decode cJ2_compress_39247 20 = .ok (.aload_n 0, 1) := by decide +kernel
theorem dJ2_compress_39247_21 : decode cJ2_compress_39247 21 = .ok (.iload_n 1, 1) := by decide +kernel
theorem dJ2_compress_39247_22 : decode cJ2_compress_39247 22 = .ok (.iconst 1, 1) := by decide +kernel
theorem dJ2_compress_39247_23 : decode cJ2_compress_39247 23 = .ok (.ishl, 1) := by decide +kernel
theorem dJ2_compress_39247_24 : decode cJ2_compress_39247 24 = .ok (.iload_n 1, 1) := by decide +kernel
theorem dJ2_compress_39247_25 : decode cJ2_compress_39247 25 = .ok (.iload_n 2, 1) := by decide +kernel
theorem dJ2_compress_39247_26 : decode cJ2_compress_39247 26 = .ok (.iadd, 1) := by decide +kernel
theorem dJ2_compress_39247_27 : decode cJ2_compress_39247 27 = .ok (.invokestatic 11, 3) := by decide +kernel
theorem dJ2_compress_39247_30 : decode cJ2_compress_39247 30 = .ok (.invokestatic 126, 3) := by decide +kernel
theorem dJ2_compress_39247_33 : decode cJ2_compress_39247 33 = .ok (.astore 5, 2) := by decide +kernel
theorem dJ2_compress_39247_35 : decode cJ2_compress_39247 35 = .ok (.aload 5, 2) := by decide +kernel
theorem dJ2_compress_39247_37 : decode cJ2_compress_39247 37 = .ok (.iload 4, 2) := by decide +kernel
theorem dJ2_compress_39247_39 : decode cJ2_compress_39247 39 = .ok (.invokestatic 71, 3) := by decide +kernel
theorem dJ2_compress_39247_42 : decode cJ2_compress_39247 42 = .ok (.sipush 255, 3) := by decide +kernel
theorem dJ2_compress_39247_45 : decode cJ2_compress_39247 45 = .ok (.if_icmp .gt 16, 3) := by decide +kernel
theorem dJ2_compress_39247_48 : decode cJ2_compress_39247 48 = .ok (.aload 5, 2) := by decide +kernel
theorem dJ2_compress_39247_50 : decode cJ2_compress_39247 50 = .ok (.iconst 0, 1) := by decide +kernel
theorem dJ2_compress_39247_51 : decode cJ2_compress_39247 51 = .ok (.aload_n 3, 1) := by decide +kernel
theorem dJ2_compress_39247_52 : decode cJ2_compress_39247 52 = .ok (.iconst 0, 1) := by decide +kernel
theorem dJ2_compress_39247_53 : decode cJ2_compress_39247 53 = .ok (.iload_n 2, 1) := by decide +kernel
theorem dJ2_compress_39247_54 : decode cJ2_compress_39247 54 = .ok (.invokestatic 123, 3) := by decide +kernel
theorem dJ2_compress_39247_57 : decode cJ2_compress_39247 57 = .ok (.iload_n 2, 1) := by decide +kernel
theorem dJ2_compress_39247_58 : decode cJ2_compress_39247 58 = .ok (.if_icmp .eq 6, 3) := by decide +kernel
theorem dJ2_compress_39247_61 : decode cJ2_compress_39247 61 = .ok (.aload 5, 2) := by decide +kernel
theorem dJ2_compress_39247_63 : decode cJ2_compress_39247 63 = .ok (.areturn, 1) := by decide +kernel
theorem dJ2_compress_39247_64 : decode cJ2_compress_39247 64 = .ok (.aload_n 3, 1) := by decide +kernel
theorem dJ2_compress_39247_65 : decode cJ2_compress_39247 65 = .ok (.areturn, 1) := by decide +kernel
set_option maxRecDepth 20000 in
theorem ggJ2_compress_5af95_J2_checkBoundsOffCount_d044e : GoodIn wsJ2_compress_5af95 wsJ2_checkBoundsOffCount_d044e := goodIn_r _ [4, 5, 6, 3, 7, 8, 9, 10, 11, 12, 13, 14, 15, 16] rfl (by decide +kernel)
set_option maxRecDepth 20000 in
theorem gJ2_compress_5af95_J2_checkBoundsOffCount_d044e : GoodIn wsJ2_compress_5af95 (va_wsS RJ2 173 yJ2_checkBoundsOffCount_d044e wsJ2_checkBoundsOffCount_d044e) := goodIn_app (goodIn_of _ (by decide +kernel)) ggJ2_compress_5af95_J2_checkBoundsOffCount_d044e
set_option maxRecDepth 20000 in
theorem ggJ2_compress_5af95_J2_getChar_3b067 : GoodIn wsJ2_compress_5af95 wsJ2_getChar_3b067 := goodIn_r _ [19, 20, 21, 22, 5, 6, 3, 7] rfl (by decide +kernel)
set_option maxRecDepth 20000 in
theorem gJ2_compress_5af95_J2_getChar_3b067 : GoodIn wsJ2_compress_5af95 (va_wsS RJ2 71 yJ2_getChar_3b067 wsJ2_getChar_3b067) := goodIn_app (goodIn_of _ (by decide +kernel)) ggJ2_compress_5af95_J2_getChar_3b067
theorem dJ2_compress_5af95_0 : decode cJ2_compress_5af95 0 = .ok (.iload_n 1, 1) := by decide +kernel
theorem dJ2_compress_5af95_1 : decode cJ2_compress_5af95 1 = .ok (.iload 4, 2) := by decide +kernel
theorem dJ2_compress_5af95_3 : decode cJ2_compress_5af95 3 = .ok (.aload_n 0, 1) := by decide +kernel
theorem dJ2_compress_5af95_4 : decode cJ2_compress_5af95 4 = .ok (.invokestatic 173, 3) := by decide +kernel
theorem dJ2_compress_5af95_7 : decode cJ2_compress_5af95 7 = .ok (.iconst 0, 1) := by decide +kernel
theorem dJ2_compress_5af95_8 : decode cJ2_compress_5af95 8 = .ok (.istore 5, 2) := by decide +kernel
theorem dJ2_compress_5af95_10 : decode cJ2_compress_5af95 10 = .ok (.iload 5, 2) := by decide +kernel
theorem dJ2_compress_5af95_12 : decode cJ2_compress_5af95 12 = .ok (.iload 4, 2) := by decide +kernel
theorem dJ2_compress_5af95_14 : decode cJ2_compress_5af95 14 = .ok (.if_icmp .ge 39, 3) := by decide +kernel
theorem dJ2_compress_5af95_17 : decode cJ2_compress_5af95 17 = .ok (.aload_n 0, 1) := by decide +kernel
theorem dJ2_compress_5af95_18 : decode cJ2_compress_5af95 18 = .ok (.iload_n 1, 1) := by decide +kernel
theorem dJ2_compress_5af95_19 : decode cJ2_compress_5af95 19 = .ok (.invokestatic 71, 3) := by decide +kernel
theorem dJ2_compress_5af95_22 : decode cJ2_compress_5af95 22 = .ok (.istore 6, 2) := by decide +kernel
theorem dJ2_compress_5af95_24 : decode cJ2_compress_5af95 24 = .ok (.iload 6, 2) := by decide +kernel
theorem dJ2_compress_5af95_26 : decode cJ2_compress_5af95 26 = .ok (.sipush 255, 3) := by decide +kernel
theorem dJ2_compress_5af95_29 : decode cJ2_compress_5af95 29 = .ok (.if_icmp .le 6, 3) := by decide +kernel
theorem dJ2_compress_5af95_32 : decode cJ2_compress_5af95 32 = .ok (.iload 5, 2) := by decide +kernel
theorem dJ2_compress_5af95_34 : decode cJ2_compress_5af95 34 = .ok (.ireturn, 1) := by decide +kernel
theorem dJ2_compress_5af95_35 : decode cJ2_compress_5af95 35 = .ok (.aload_n 2, 1) := by decide +kernel
theorem dJ2_compress_5af95_36 : decode cJ2_compress_5af95 36 = .ok (.iload_n 3, 1) := by decide +kernel
theorem dJ2_compress_5af95_37 : decode cJ2_compress_5af95 37 = .ok (.iload 6, 2) := by decide +kernel
theorem dJ2_compress_5af95_39 : decode cJ2_compress_5af95 39 = .ok (.i2b, 1) := by decide +kernel
theorem dJ2_compress_5af95_40 : decode cJ2_compress_5af95 40 = .ok (.bastore, 1) := by decide +kernel
theorem dJ2_compress_5af95_41 : decode cJ2_compress_5af95 41 = .ok (.iinc 1 1, 3) := by decide +kernel
theorem dJ2_compress_5af95_44 : decode cJ2_compress_5af95 44 = .ok (.iinc 3 1, 3) := by decide +kernel
theorem dJ2_compress_5af95_47 : decode cJ2_compress_5af95 47 = .ok (.iinc 5 1, 3) := by decide +kernel
theorem dJ2_compress_5af95_50 : decode cJ2_compress_5af95 50 = .ok (.goto (-40), 3) := by decide +kernel
theorem dJ2_compress_5af95_53 : decode cJ2_compress_5af95 53 = .ok (.iload 4, 2) := by decide +kernel
theorem dJ2_compress_5af95_55 : decode cJ2_compress_5af95 55 = .ok (.ireturn, 1) := by decide +kernel
set_option maxRecDepth 20000 in
theorem ggJ2_indexOf_4cfef_J2_indexOfChar_4cfef : GoodIn wsJ2_indexOf_4cfef wsJ2_indexOfChar_4cfef := goodIn_r _ [12, 13, 14, 11, 15, 16, 17, 18, 19, 20, 21, 22, 23, 24, 25, 26, 27, 28, 29, 30, 31, 32, 33, 34, 35, 36] rfl (by decide +kernel)
set_option maxRecDepth 20000 in
theorem gJ2_indexOf_4cfef_J2_indexOfChar_4cfef : GoodIn wsJ2_indexOf_4cfef (va_wsS RJ2 228 yJ2_indexOfChar_4cfef wsJ2_indexOfChar_4cfef) := goodIn_app (goodIn_of _ (by decide +kernel)) ggJ2_indexOf_4cfef_J2_indexOfChar_4cfef
set_option maxRecDepth 20000 in
theorem ggJ2_indexOf_4cfef_J2_indexOfSupplementary_4cfef : GoodIn wsJ2_indexOf_4cfef wsJ2_indexOfSupplementary_4cfef := goodIn_r _ [39, 40, 41, 42, 43, 44, 45, 46, 47, 48, 49, 50, 51, 13, 14, 11, 15, 16, 17, 18, 19, 20, 21, 22, 23, 24, 25, 26, 27, 31, 32, 33, 34, 35, 36] rfl (by decide +kernel)
set_option maxRecDepth 20000 in
theorem gJ2_indexOf_4cfef_J2_indexOfSupplementary_4cfef : GoodIn wsJ2_indexOf_4cfef (va_wsS RJ2 232 yJ2_indexOfSupplementary_4cfef wsJ2_indexOfSupplementary_4cfef) := goodIn_app (goodIn_of _ (by decide +kernel)) ggJ2_indexOf_4cfef_J2_indexOfSupplementary_4cfef
theorem dJ2_indexOf_4cfef_0 : decode cJ2_indexOf_4cfef 0 = .ok (.iload_n 2, 1) := by decide +kernel
theorem dJ2_indexOf_4cfef_1 : decode cJ2_indexOf_4cfef 1 = .ok (.iconst 0, 1) := by decide +kernel
theorem dJ2_indexOf_4cfef_2 : decode cJ2_indexOf_4cfef 2 = .ok (.invokestatic 224, 3) := by decide +kernel
theorem dJ2_indexOf_4cfef_5 : decode cJ2_indexOf_4cfef 5 = .ok (.istore_n 2, 1) := by decide +kernel
theorem dJ2_indexOf_4cfef_6 : decode cJ2_indexOf_4cfef 6 = .ok (.iload_n 3, 1) := by decide +kernel
theorem dJ2_indexOf_4cfef_7 : decode cJ2_indexOf_4cfef 7 = .ok (.aload_n 0, 1) := by decide +kernel
theorem dJ2_indexOf_4cfef_8 : decode cJ2_indexOf_4cfef 8 = .ok (.arraylength, 1) := by decide +kernel
theorem dJ2_indexOf_4cfef_9 : decode cJ2_indexOf_4cfef 9 = .ok (.iconst 1, 1) := by decide +kernel
theorem dJ2_indexOf_4cfef_10 : decode cJ2_indexOf_4cfef 10 = .ok (.ishr, 1) := by decide +kernel
theorem dJ2_indexOf_4cfef_11 : decode cJ2_indexOf_4cfef 11 = .ok (.invokestatic 183, 3) := by decide +kernel
theorem dJ2_indexOf_4cfef_14 : decode cJ2_indexOf_4cfef 14 = .ok (.istore_n 3, 1) := by decide +kernel
theorem dJ2_indexOf_4cfef_15 : decode cJ2_indexOf_4cfef 15 = .ok (.iload_n 2, 1) := by decide +kernel
theorem dJ2_indexOf_4cfef_16 : decode cJ2_indexOf_4cfef 16 = .ok (.iload_n 3, 1) := by decide +kernel
theorem dJ2_indexOf_4cfef_17 : decode cJ2_indexOf_4cfef 17 = .ok (.if_icmp .lt 5, 3) := by decide +kernel
theorem dJ2_indexOf_4cfef_20 : decode cJ2_indexOf_4cfef 20 = .ok (.iconst (-1), 1) := by decide +kernel
theorem dJ2_indexOf_4cfef_21 : decode cJ2_indexOf_4cfef 21 = .ok (.ireturn, 1) := by decide +kernel
theorem dJ2_indexOf_4cfef_22 : decode cJ2_indexOf_4cfef 22 = .ok (.iload_n 1, 1) := by decide +kernel
theorem dJ2_indexOf_4cfef_23 : decode cJ2_indexOf_4cfef 23 = .ok (.ldc 227, 2) := by decide +kernel
theorem dJ2_indexOf_4cfef_25 : decode cJ2_indexOf_4cfef 25 = .ok (.if_icmp .ge 11, 3) := by decide +kernel
theorem dJ2_indexOf_4cfef_28 : decode cJ2_indexOf_4cfef 28 = .ok (.aload_n 0, 1) := by decide +kernel
theorem dJ2_indexOf_4cfef_29 : decode cJ2_indexOf_4cfef 29 = .ok (.iload_n 1, 1) := by decide +kernel
theorem dJ2_indexOf_4cfef_30 : decode cJ2_indexOf_4cfef 30 = .ok (.iload_n 2, 1) := by decide +kernel
theorem dJ2_indexOf_4cfef_31 : decode cJ2_indexOf_4cfef 31 = .ok (.iload_n 3, 1) := by decide +kernel
theorem dJ2_indexOf_4cfef_32 : decode cJ2_indexOf_4cfef 32 = .ok (.invokestatic 228, 3) := by decide +kernel
theorem dJ2_indexOf_4cfef_35 : decode cJ2_indexOf_4cfef 35 = .ok (.ireturn, 1) := by decide +kernel
theorem dJ2_indexOf_4cfef_36 : decode cJ2_indexOf_4cfef 36 = .ok (.aload_n 0, 1) := by decide +kernel
theorem dJ2_indexOf_4cfef_37 : decode cJ2_indexOf_4cfef 37 = .ok (.iload_n 1, 1) := by decide +kernel
theorem dJ2_indexOf_4cfef_38 : decode cJ2_indexOf_4cfef 38 = .ok (.iload_n 2, 1) := by decide +kernel
theorem dJ2_indexOf_4cfef_39 : decode cJ2_indexOf_4cfef 39 = .ok (.iload_n 3, 1) := by decide +kernel
theorem dJ2_indexOf_4cfef_40 : decode cJ2_indexOf_4cfef 40 = .ok (.invokestatic 232, 3) := by decide +kernel
theorem dJ2_indexOf_4cfef_43 : decode cJ2_indexOf_4cfef 43 = .ok (.ireturn, 1) := by decide +kernel
set_option maxRecDepth 20000 in
theorem ggJ2_indexOfChar_4cfef_J2_checkBoundsBeginEnd_d044e : GoodIn wsJ2_indexOfChar_4cfef wsJ2_checkBoundsBeginEnd_d044e := goodIn_r _ [4, 5, 6, 3, 7, 8, 9, 10, 11, 12, 13, 14, 15, 16] rfl (by decide +kernel)
set_option maxRecDepth 20000 in
theorem gJ2_indexOfChar_4cfef_J2_checkBoundsBeginEnd_d044e : GoodIn wsJ2_indexOfChar_4cfef (va_wsS RJ2 96 yJ2_checkBoundsBeginEnd_d044e wsJ2_checkBoundsBeginEnd_d044e) := goodIn_app (goodIn_of _ (by decide +kernel)) ggJ2_indexOfChar_4cfef_J2_checkBoundsBeginEnd_d044e
set_option maxRecDepth 20000 in
theorem ggJ2_indexOfChar_4cfef_J2_indexOfCharUnsafe_4cfef : GoodIn wsJ2_indexOfChar_4cfef wsJ2_indexOfCharUnsafe_4cfef := goodIn_r _ [19, 20, 21, 3, 22, 23, 24, 25, 5, 6, 7] rfl (by decide +kernel)
set_option maxRecDepth 20000 in
theorem gJ2_indexOfChar_4cfef_J2_indexOfCharUnsafe_4cfef : GoodIn wsJ2_indexOfChar_4cfef (va_wsS RJ2 244 yJ2_indexOfCharUnsafe_4cfef wsJ2_indexOfCharUnsafe_4cfef) := goodIn_app (goodIn_of _ (by decide +kernel)) ggJ2_indexOfChar_4cfef_J2_indexOfCharUnsafe_4cfef
theorem dJ2_indexOfChar_4cfef_0 : decode cJ2_indexOfChar_4cfef 0 = .ok (.iload_n 2, 1) := by decide +kernel
theorem dJ2_indexOfChar_4cfef_1 : decode cJ2_indexOfChar_4cfef 1 = .ok (.iload_n 3, 1) := by decide +kernel
theorem dJ2_indexOfChar_4cfef_2 : decode cJ2_indexOfChar_4cfef 2 = .ok (.aload_n 0, 1) := by decide +kernel
theorem dJ2_indexOfChar_4cfef_3 : decode cJ2_indexOfChar_4cfef 3 = .ok (.invokestatic 96, 3) := by decide +kernel
theorem dJ2_indexOfChar_4cfef_6 : decode cJ2_indexOfChar_4cfef 6 = .ok (.aload_n 0, 1) := by decide +kernel
theorem dJ2_indexOfChar_4cfef_7 : decode cJ2_indexOfChar_4cfef 7 = .ok (.iload_n 1, 1) := by decide +kernel
theorem dJ2_indexOfChar_4cfef_8 : decode cJ2_indexOfChar_4cfef 8 = .ok (.iload_n 2, 1) := by decide +kernel
theorem dJ2_indexOfChar_4cfef_9 : decode cJ2_indexOfChar_4cfef 9 = .ok (.iload_n 3, 1) := by decide +kernel
theorem dJ2_indexOfChar_4cfef_10 : decode cJ2_indexOfChar_4cfef 10 = .ok (.invokestatic 244, 3) := by decide +kernel
theorem dJ2_indexOfChar_4cfef_13 : decode cJ2_indexOfChar_4cfef 13 = .ok (.ireturn, 1) := by decide +kernel
set_option maxRecDepth 20000 in
theorem ggJ2_indexOfCharUnsafe_4cfef_J2_getChar_3b067 : GoodIn wsJ2_indexOfCharUnsafe_4cfef wsJ2_getChar_3b067 := goodIn_r _ [4, 5, 6, 7, 8, 9, 3, 10] rfl (by decide +kernel)
set_option maxRecDepth 20000 in
theorem gJ2_indexOfCharUnsafe_4cfef_J2_getChar_3b067 : GoodIn wsJ2_indexOfCharUnsafe_4cfef (va_wsS RJ2 71 yJ2_getChar_3b067 wsJ2_getChar_3b067) := goodIn_app (goodIn_of _ (by decide +kernel)) ggJ2_indexOfCharUnsafe_4cfef_J2_getChar_3b067
theorem dJ2_indexOfCharUnsafe_4cfef_0 : decode cJ2_indexOfCharUnsafe_4cfef 0 = .ok (.iload_n 2, 1) := by decide +kernel
theorem dJ2_indexOfCharUnsafe_4cfef_1 : decode cJ2_indexOfCharUnsafe_4cfef 1 = .ok (.istore 4, 2) := by decide +kernel
theorem dJ2_indexOfCharUnsafe_4cfef_3 : decode cJ2_indexOfCharUnsafe_4cfef 3 = .ok (.iload 4, 2) := by decide +kernel
theorem dJ2_indexOfCharUnsafe_4cfef_5 : decode cJ2_indexOfCharUnsafe_4cfef 5 = .ok (.iload_n 3, 1) := by decide +kernel
theorem dJ2_indexOfCharUnsafe_4cfef_6 : decode cJ2_indexOfCharUnsafe_4cfef 6 = .ok (.if_icmp .ge 22, 3) := by decide +kernel
theorem dJ2_indexOfCharUnsafe_4cfef_9 : decode cJ2_indexOfCharUnsafe_4cfef 9 = .ok (.aload_n 0, 1) := by decide +kernel
theorem dJ2_indexOfCharUnsafe_4cfef_10 : decode cJ2_indexOfCharUnsafe_4cfef 10 = .ok (.iload 4, 2) := by decide +kernel
theorem dJ2_indexOfCharUnsafe_4cfef_12 : decode cJ2_indexOfCharUnsafe_4cfef 12 = .ok (.invokestatic 71, 3) := by decide +kernel
theorem dJ2_indexOfCharUnsafe_4cfef_15 : decode cJ2_indexOfCharUnsafe_4cfef 15 = .ok (.iload_n 1, 1) := by decide +kernel
theorem dJ2_indexOfCharUnsafe_4cfef_16 : decode cJ2_indexOfCharUnsafe_4cfef 16 = .ok (.if_icmp .ne 6, 3) := by decide +kernel
theorem dJ2_indexOfCharUnsafe_4cfef_19 : decode cJ2_indexOfCharUnsafe_4cfef 19 = .ok (.iload 4, 2) := by decide +kernel
theorem dJ2_indexOfCharUnsafe_4cfef_21 : decode cJ2_indexOfCharUnsafe_4cfef 21 = .ok (.ireturn, 1) := by decide +kernel
theorem dJ2_indexOfCharUnsafe_4cfef_22 : decode cJ2_indexOfCharUnsafe_4cfef 22 = .ok (.iinc 4 1, 3) := by decide +kernel
theorem dJ2_indexOfCharUnsafe_4cfef_25 : decode cJ2_indexOfCharUnsafe_4cfef 25 = .ok (.goto (-22), 3) := by decide +kernel
theorem dJ2_indexOfCharUnsafe_4cfef_28 : decode cJ2_indexOfCharUnsafe_4cfef 28 = .ok (.iconst (-1), 1) := by decide +kernel
theorem dJ2_indexOfCharUnsafe_4cfef_29 : decode cJ2_indexOfCharUnsafe_4cfef 29 = .ok (.ireturn, 1) := by decide +kernel
set_option maxRecDepth 20000 in
theorem ggJ2_indexOfSupplementary_4cfef_J11_isValidCodePoint_9a6ad : GoodIn wsJ2_indexOfSupplementary_4cfef wsJ11_isValidCodePoint_9a6ad := goodIn_r _ [4] rfl (by decide +kernel)
set_option maxRecDepth 20000 in
theorem gJ2_indexOfSupplementary_4cfef_J11_isValidCodePoint_9a6ad : GoodIn wsJ2_indexOfSupplementary_4cfef (va_wsS RJ2 164 yJ11_isValidCodePoint_9a6ad wsJ11_isValidCodePoint_9a6ad) := goodIn_app (goodIn_of _ (by decide +kernel)) ggJ2_indexOfSupplementary_4cfef_J11_isValidCodePoint_9a6ad
set_option maxRecDepth 20000 in
theorem ggJ2_indexOfSupplementary_4cfef_J11_highSurrogate_5068e : GoodIn wsJ2_indexOfSupplementary_4cfef wsJ11_highSurrogate_5068e := goodIn_r _ [7, 8] rfl (by decide +kernel)
set_option maxRecDepth 20000 in
theorem gJ2_indexOfSupplementary_4cfef_J11_highSurrogate_5068e : GoodIn wsJ2_indexOfSupplementary_4cfef (va_wsS RJ2 157 yJ11_highSurrogate_5068e wsJ11_highSurrogate_5068e) := goodIn_app (goodIn_of _ (by decide +kernel)) ggJ2_indexOfSupplementary_4cfef_J11_highSurrogate_5068e
set_option maxRecDepth 20000 in
theorem ggJ2_indexOfSupplementary_4cfef_J11_lowSurrogate_5068e : GoodIn wsJ2_indexOfSupplementary_4cfef wsJ11_lowSurrogate_5068e := goodIn_r _ [11, 12] rfl (by decide +kernel)
set_option maxRecDepth 20000 in
theorem gJ2_indexOfSupplementary_4cfef_J11_lowSurrogate_5068e : GoodIn wsJ2_indexOfSupplementary_4cfef (va_wsS RJ2 161 yJ11_lowSurrogate_5068e wsJ11_lowSurrogate_5068e) := goodIn_app (goodIn_of _ (by decide +kernel)) ggJ2_indexOfSupplementary_4cfef_J11_lowSurrogate_5068e
set_option maxRecDepth 20000 in
theorem ggJ2_indexOfSupplementary_4cfef_J2_checkBoundsBeginEnd_d044e : GoodIn wsJ2_indexOfSupplementary_4cfef wsJ2_checkBoundsBeginEnd_d044e := goodIn_r _ [16, 17, 18, 15, 19, 20, 21, 22, 23, 24, 25, 26, 27, 28] rfl (by decide +kernel)
set_option maxRecDepth 20000 in
theorem gJ2_indexOfSupplementary_4cfef_J2_checkBoundsBeginEnd_d044e : GoodIn wsJ2_indexOfSupplementary_4cfef (va_wsS RJ2 96 yJ2_checkBoundsBeginEnd_d044e wsJ2_checkBoundsBeginEnd_d044e) := goodIn_app (goodIn_of _ (by decide +kernel)) ggJ2_indexOfSupplementary_4cfef_J2_checkBoundsBeginEnd_d044e
set_option maxRecDepth 20000 in
theorem ggJ2_indexOfSupplementary_4cfef_J2_getChar_3b067 : GoodIn wsJ2_indexOfSupplementary_4cfef wsJ2_getChar_3b067 := goodIn_r _ [31, 32, 33, 34, 17, 18, 15, 19] rfl (by decide +kernel)
set_option maxRecDepth 20000 in
theorem gJ2_indexOfSupplementary_4cfef_J2_getChar_3b067 : GoodIn wsJ2_indexOfSupplementary_4cfef (va_wsS RJ2 71 yJ2_getChar_3b067 wsJ2_getChar_3b067) := goodIn_app (goodIn_of _ (by decide +kernel)) ggJ2_indexOfSupplementary_4cfef_J2_getChar_3b067
theorem dJ2_indexOfSupplementary_4cfef_0 : decode cJ2_indexOfSupplementary_4cfef 0 = .ok (.iload_n 1, 1) := by decide +kernel
theorem dJ2_indexOfSupplementary_4cfef_1 : decode cJ2_indexOfSupplementary_4cfef 1 = .ok (.invokestatic 164, 3) := by decide +kernel
theorem dJ2_indexOfSupplementary_4cfef_4 : decode cJ2_indexOfSupplementary_4cfef 4 = .ok (.ifCond .eq 65, 3) := by decide +kernel
theorem dJ2_indexOfSupplementary_4cfef_7 : decode cJ2_indexOfSupplementary_4cfef 7 = .ok (.iload_n 1, 1) := by decide +kernel
theorem dJ2_indexOfSupplementary_4cfef_8 : decode cJ2_indexOfSupplementary_4cfef 8 = .ok (.invokestatic 157, 3) := by decide +kernel
theorem dJ2_indexOfSupplementary_4cfef_11 : decode cJ2_indexOfSupplementary_4cfef 11 = .ok (.istore 4, 2) := by decide +kernel
theorem dJ2_indexOfSupplementary_4cfef_13 : decode cJ2_indexOfSupplementary_4cfef 13 = .ok (.iload_n 1, 1) := by decide +kernel
theorem dJ2_indexOfSupplementary_4cfef_14 : decode cJ2_indexOfSupplementary_4cfef 14 = .ok (.invokestatic 161, 3) := by decide +kernel
theorem dJ2_indexOfSupplementary_4cfef_17 : decode cJ2_indexOfSupplementary_4cfef 17 = .ok (.istore 5, 2) := by decide +kernel
theorem dJ2_indexOfSupplementary_4cfef_19 : decode cJ2_indexOfSupplementary_4cfef 19 = .ok (.iload_n 2, 1) := by decide +kernel
theorem dJ2_indexOfSupplementary_4cfef_20 : decode cJ2_indexOfSupplementary_4cfef 20 = .ok (.iload_n 3, 1) := by decide +kernel
theorem dJ2_indexOfSupplementary_4cfef_21 : decode cJ2_indexOfSupplementary_4cfef 21 = .ok (.aload_n 0, 1) := by decide +kernel
theorem dJ2_indexOfSupplementary_4cfef_22 : decode cJ2_indexOfSupplementary_4cfef 22 = .ok (.invokestatic 96, 3) := by decide +kernel
theorem dJ2_indexOfSupplementary_4cfef_25 : decode cJ2_indexOfSupplementary_4cfef 25 = .ok (.iload_n 2, 1) := by decide +kernel
theorem dJ2_indexOfSupplementary_4cfef_26 : decode cJ2_indexOfSupplementary_4cfef 26 = .ok (.istore 6, 2) := by decide +kernel
theorem dJ2_indexOfSupplementary_4cfef_28 : decode cJ2_indexOfSupplementary_4cfef 28 = .ok (.iload 6, 2) := by decide +kernel
theorem dJ2_indexOfSupplementary_4cfef_30 : decode cJ2_indexOfSupplementary_4cfef 30 = .ok (.iload_n 3, 1) := by decide +kernel
theorem dJ2_indexOfSupplementary_4cfef_31 : decode cJ2_indexOfSupplementary_4cfef 31 = .ok (.iconst 1, 1) := by decide +kernel
theorem dJ2_indexOfSupplementary_4cfef_32 : decode cJ2_indexOfSupplementary_4cfef 32 = .ok (.isub, 1) := by decide +kernel
theorem dJ2_indexOfSupplementary_4cfef_33 : decode cJ2_indexOfSupplementary_4cfef 33 = .ok (.if_icmp .ge 36, 3) := by decide +kernel
theorem dJ2_indexOfSupplementary_4cfef_36 : decode cJ2_indexOfSupplementary_4cfef 36 = .ok (.aload_n 0, 1) := by decide +kernel
theorem dJ2_indexOfSupplementary_4cfef_37 : decode cJ2_indexOfSupplementary_4cfef 37 = .ok (.iload 6, 2) := by decide +kernel
theorem dJ2_indexOfSupplementary_4cfef_39 : decode cJ2_indexOfSupplementary_4cfef 39 = .ok (.invokestatic 71, 3) := by decide +kernel
theorem dJ2_indexOfSupplementary_4cfef_42 : decode cJ2_indexOfSupplementary_4cfef 42 = .ok (.iload 4, 2) := by decide +kernel
theorem dJ2_indexOfSupplementary_4cfef_44 : decode cJ2_indexOfSupplementary_4cfef 44 = .ok (.if_icmp .ne 19, 3) := by decide +kernel
theorem dJ2_indexOfSupplementary_4cfef_47 : decode cJ2_indexOfSupplementary_4cfef 47 = .ok (.aload_n 0, 1) := by decide +kernel
theorem dJ2_indexOfSupplementary_4cfef_48 : decode cJ2_indexOfSupplementary_4cfef 48 = .ok (.iload 6, 2) := by decide +kernel
theorem dJ2_indexOfSupplementary_4cfef_50 : decode cJ2_indexOfSupplementary_4cfef 50 = .ok (.iconst 1, 1) := by decide +kernel
theorem dJ2_indexOfSupplementary_4cfef_51 : decode cJ2_indexOfSupplementary_4cfef 51 = .ok (.iadd, 1) := by decide +kernel
theorem dJ2_indexOfSupplementary_4cfef_52 : decode cJ2_indexOfSupplementary_4cfef 52 = .ok (.invokestatic 71, 3) := by decide +kernel
theorem dJ2_indexOfSupplementary_4cfef_55 : decode cJ2_indexOfSupplementary_4cfef 55 = .ok (.iload 5, 2) := by decide +kernel
theorem dJ2_indexOfSupplementary_4cfef_57 : decode cJ2_indexOfSupplementary_4cfef 57 = .ok (.if_icmp .ne 6, 3) := by decide +kernel
theorem dJ2_indexOfSupplementary_4cfef_60 : decode cJ2_indexOfSupplementary_4cfef 60 = .ok (.iload 6, 2) := by decide +kernel
theorem dJ2_indexOfSupplementary_4cfef_62 : decode cJ2_indexOfSupplementary_4cfef 62 = .ok (.ireturn, 1) := by decide +kernel
theorem dJ2_indexOfSupplementary_4cfef_63 : decode cJ2_indexOfSupplementary_4cfef 63 = .ok (.iinc 6 1, 3) := by decide +kernel
theorem dJ2_indexOfSupplementary_4cfef_66 : decode cJ2_indexOfSupplementary_4cfef 66 = .ok (.goto (-38), 3) := by decide +kernel
theorem dJ2_indexOfSupplementary_4cfef_69 : decode cJ2_indexOfSupplementary_4cfef 69 = .ok (.iconst (-1), 1) := by decide +kernel
theorem dJ2_indexOfSupplementary_4cfef_70 : decode cJ2_indexOfSupplementary_4cfef 70 = .ok (.ireturn, 1) := by decide +kernel
set_option maxRecDepth 20000 in
theorem ggJ2_putChars_03870_J2_putChar_b72d1 : GoodIn wsJ2_putChars_03870 wsJ2_putChar_b72d1 := goodIn_r _ [4, 5, 6, 7, 8, 9, 3, 10] rfl (by decide +kernel)
set_option maxRecDepth 20000 in
theorem gJ2_putChars_03870_J2_putChar_b72d1 : GoodIn wsJ2_putChars_03870 (va_wsS RJ2 111 yJ2_putChar_b72d1 wsJ2_putChar_b72d1) := goodIn_app (goodIn_of _ (by decide +kernel)) ggJ2_putChars_03870_J2_putChar_b72d1
theorem dJ2_putChars_03870_0 : decode cJ2_putChars_03870 0 = .ok (.iload_n 3, 1) := by decide +kernel
theorem dJ2_putChars_03870_1 : decode cJ2_putChars_03870 1 = .ok (.iload 4, 2) := by decide +kernel
theorem dJ2_putChars_03870_3 : decode cJ2_putChars_03870 3 = .ok (.if_icmp .ge 20, 3) := by decide +kernel
theorem dJ2_putChars_03870_6 : decode cJ2_putChars_03870 6 = .ok (.aload_n 0, 1) := by decide +kernel
theorem dJ2_putChars_03870_7 : decode cJ2_putChars_03870 7 = .ok (.iload_n 1, 1) := by decide +kernel
theorem dJ2_putChars_03870_8 : decode cJ2_putChars_03870 8 = .ok (.iinc 1 1, 3) := by decide +kernel
theorem dJ2_putChars_03870_11 : decode cJ2_putChars_03870 11 = .ok (.aload_n 2, 1) := by decide +kernel
theorem dJ2_putChars_03870_12 : decode cJ2_putChars_03870 12 = .ok (.iload_n 3, 1) := by decide +kernel
theorem dJ2_putChars_03870_13 : decode cJ2_putChars_03870 13 = .ok (.iinc 3 1, 3) := by decide +kernel
theorem dJ2_putChars_03870_16 : decode cJ2_putChars_03870 16 = .ok (.caload, 1) := by decide +kernel
theorem dJ2_putChars_03870_17 : decode cJ2_putChars_03870 17 = .ok (.invokestatic 111, 3) := by decide +kernel
theorem dJ2_putChars_03870_20 : decode cJ2_putChars_03870 20 = .ok (.goto (-20), 3) := by decide +kernel
theorem dJ2_putChars_03870_23 : decode cJ2_putChars_03870 23 = .ok (.return_, 1) := by decide +kernel
set_option maxRecDepth 20000 in
theorem ggJ2_putCharSB_b72d1_J2_checkIndex_2214a : GoodIn wsJ2_putCharSB_b72d1 wsJ2_checkIndex_2214a := goodIn_r _ [4, 5, 6, 3, 7, 8, 9, 10, 11, 12, 13, 14, 15, 16] rfl (by decide +kernel)
set_option maxRecDepth 20000 in
theorem gJ2_putCharSB_b72d1_J2_checkIndex_2214a : GoodIn wsJ2_putCharSB_b72d1 (va_wsS RJ2 67 yJ2_checkIndex_2214a wsJ2_checkIndex_2214a) := goodIn_app (goodIn_of _ (by decide +kernel)) ggJ2_putCharSB_b72d1_J2_checkIndex_2214a
set_option maxRecDepth 20000 in
theorem ggJ2_putCharSB_b72d1_J2_putChar_b72d1 : GoodIn wsJ2_putCharSB_b72d1 wsJ2_putChar_b72d1 := goodIn_r _ [19, 20, 21, 22, 5, 6, 3, 7] rfl (by decide +kernel)
set_option maxRecDepth 20000 in
theorem gJ2_putCharSB_b72d1_J2_putChar_b72d1 : GoodIn wsJ2_putCharSB_b72d1 (va_wsS RJ2 111 yJ2_putChar_b72d1 wsJ2_putChar_b72d1) := goodIn_app (goodIn_of _ (by decide +kernel)) ggJ2_putCharSB_b72d1_J2_putChar_b72d1
theorem dJ2_putCharSB_b72d1_0 : decode cJ2_putCharSB_b72d1 0 = .ok (.iload_n 1, 1) := by decide +kernel
theorem dJ2_putCharSB_b72d1_1 : decode cJ2_putCharSB_b72d1 1 = .ok (.aload_n 0, 1) := by decide +kernel
theorem dJ2_putCharSB_b72d1_2 : decode cJ2_putCharSB_b72d1 2 = .ok (.invokestatic 67, 3) := by decide +kernel
theorem dJ2_putCharSB_b72d1_5 : decode cJ2_putCharSB_b72d1 5 = .ok (.aload_n 0, 1) := by decide +kernel
theorem dJ2_putCharSB_b72d1_6 : decode cJ2_putCharSB_b72d1 6 = .ok (.iload_n 1, 1) := by decide +kernel
theorem dJ2_putCharSB_b72d1_7 : decode cJ2_putCharSB_b72d1 7 = .ok (.iload_n 2, 1) := by decide +kernel
theorem dJ2_putCharSB_b72d1_8 : decode cJ2_putCharSB_b72d1 8 = .ok (.invokestatic 111, 3) := by decide +kernel
theorem dJ2_putCharSB_b72d1_11 : decode cJ2_putCharSB_b72d1 11 = .ok (.return_, 1) := by decide +kernel
set_option maxRecDepth 20000 in
theorem ggJ2_putCharsSB_03870_J2_checkBoundsBeginEnd_d044e : GoodIn wsJ2_putCharsSB_03870 wsJ2_checkBoundsBeginEnd_d044e := goodIn_r _ [4, 5, 6, 3, 7, 8, 9, 10, 11, 12, 13, 14, 15, 16] rfl (by decide +kernel)
set_option maxRecDepth 20000 in
theorem gJ2_putCharsSB_03870_J2_checkBoundsBeginEnd_d044e : GoodIn wsJ2_putCharsSB_03870 (va_wsS RJ2 96 yJ2_checkBoundsBeginEnd_d044e wsJ2_checkBoundsBeginEnd_d044e) := goodIn_app (goodIn_of _ (by decide +kernel)) ggJ2_putCharsSB_03870_J2_checkBoundsBeginEnd_d044e
set_option maxRecDepth 20000 in
theorem ggJ2_putCharsSB_03870_J2_putChars_03870 : GoodIn wsJ2_putCharsSB_03870 wsJ2_putChars_03870 := goodIn_r _ [19, 20, 21, 3, 22, 23, 24, 25, 5, 6, 7] rfl (by decide +kernel)
set_option maxRecDepth 20000 in
theorem gJ2_putCharsSB_03870_J2_putChars_03870 : GoodIn wsJ2_putCharsSB_03870 (va_wsS RJ2 384 yJ2_putChars_03870 wsJ2_putChars_03870) := goodIn_app (goodIn_of _ (by decide +kernel)) ggJ2_putCharsSB_03870_J2_putChars_03870
theorem dJ2_putCharsSB_03870_0 : decode cJ2_putCharsSB_03870 0 = .ok (.iload_n 1, 1) := by decide +kernel
theorem dJ2_putCharsSB_03870_1 : decode cJ2_putCharsSB_03870 1 = .ok (.iload_n 1, 1) := by decide +kernel
theorem dJ2_putCharsSB_03870_2 : decode cJ2_putCharsSB_03870 2 = .ok (.iload 4, 2) := by decide +kernel
theorem dJ2_putCharsSB_03870_4 : decode cJ2_putCharsSB_03870 4 = .ok (.iadd, 1) := by decide +kernel
theorem dJ2_putCharsSB_03870_5 : decode cJ2_putCharsSB_03870 5 = .ok (.iload_n 3, 1) := by decide +kernel
theorem dJ2_putCharsSB_03870_6 : decode cJ2_putCharsSB_03870 6 = .ok (.isub, 1) := by decide +kernel
theorem dJ2_putCharsSB_03870_7 : decode cJ2_putCharsSB_03870 7 = .ok (.aload_n 0, 1) := by decide +kernel
theorem dJ2_putCharsSB_03870_8 : decode cJ2_putCharsSB_03870 8 = .ok (.invokestatic 96, 3) := by decide +kernel
theorem dJ2_putCharsSB_03870_11 : decode cJ2_putCharsSB_03870 11 = .ok (.aload_n 0, 1) := by decide +kernel
theorem dJ2_putCharsSB_03870_12 : decode cJ2_putCharsSB_03870 12 = .ok (.iload_n 1, 1) := by decide +kernel
theorem dJ2_putCharsSB_03870_13 : decode cJ2_putCharsSB_03870 13 = .ok (.aload_n 2, 1) := by decide +kernel
theorem dJ2_putCharsSB_03870_14 : decode cJ2_putCharsSB_03870 14 = .ok (.iload_n 3, 1) := by decide +kernel
theorem dJ2_putCharsSB_03870_15 : decode cJ2_putCharsSB_03870 15 = .ok (.iload 4, 2) := by decide +kernel
theorem dJ2_putCharsSB_03870_17 : decode cJ2_putCharsSB_03870 17 = .ok (.invokestatic 384, 3) := by decide +kernel
theorem dJ2_putCharsSB_03870_20 : decode cJ2_putCharsSB_03870 20 = .ok (.return_, 1) := by decide +kernel
set_option maxRecDepth 20000 in
theorem ggJ2_putCharsSB_8fd6a_J2_checkBoundsBeginEnd_d044e : GoodIn wsJ2_putCharsSB_8fd6a wsJ2_checkBoundsBeginEnd_d044e := goodIn_r _ [4, 5, 6, 3, 7, 8, 9, 10, 11, 12, 13, 14, 15, 16] rfl (by decide +kernel)
set_option maxRecDepth 20000 in
theorem gJ2_putCharsSB_8fd6a_J2_checkBoundsBeginEnd_d044e : GoodIn wsJ2_putCharsSB_8fd6a (va_wsS RJ2 96 yJ2_checkBoundsBeginEnd_d044e wsJ2_checkBoundsBeginEnd_d044e) := goodIn_app (goodIn_of _ (by decide +kernel)) ggJ2_putCharsSB_8fd6a_J2_checkBoundsBeginEnd_d044e
set_option maxRecDepth 20000 in
theorem ggJ2_putCharsSB_8fd6a_J0_charAt_5068e : GoodIn wsJ2_putCharsSB_8fd6a wsJ0_charAt_5068e := goodIn_r _ [20, 21, 22, 23, 24, 10, 25, 26, 27, 28, 29, 30, 31, 32, 33, 34, 12, 35, 36, 15, 37, 38, 39, 3, 40, 41, 42, 43, 5, 6, 7, 44, 45, 46, 47, 48, 49, 50, 73, 74, 75, 76] rfl (by decide +kernel)
set_option maxRecDepth 20000 in
theorem gJ2_putCharsSB_8fd6a_J0_charAt_5068e_f388J0 : GoodIn wsJ2_putCharsSB_8fd6a (va_wsF RJ2 388 RJ0 ⟨"java/lang/CharSequence", "charAt", "(I)C"⟩ yJ0_charAt_5068e wsJ0_charAt_5068e) := goodIn_app (goodIn_of _ (by decide +kernel)) ggJ2_putCharsSB_8fd6a_J0_charAt_5068e
set_option maxRecDepth 20000 in
theorem ggJ2_putCharsSB_8fd6a_J4_charAt_5068e : GoodIn wsJ2_putCharsSB_8fd6a wsJ4_charAt_5068e := goodIn_r _ [54, 55, 56, 57, 58, 59, 60, 61, 62, 63, 64, 65, 66, 67, 68, 33, 10, 34, 12, 35, 36, 15, 37, 69, 46, 3, 47, 48, 49, 50, 5, 6, 7, 77, 78, 79, 80] rfl (by decide +kernel)
set_option maxRecDepth 20000 in
theorem gJ2_putCharsSB_8fd6a_J4_charAt_5068e_f388J4 : GoodIn wsJ2_putCharsSB_8fd6a (va_wsF RJ2 388 RJ4 ⟨"java/lang/CharSequence", "charAt", "(I)C"⟩ yJ4_charAt_5068e wsJ4_charAt_5068e) := goodIn_app (goodIn_of _ (by decide +kernel)) ggJ2_putCharsSB_8fd6a_J4_charAt_5068e
set_option maxRecDepth 20000 in
theorem ggJ2_putCharsSB_8fd6a_J2_putChar_b72d1 : GoodIn wsJ2_putCharsSB_8fd6a wsJ2_putChar_b72d1 := goodIn_r _ [72, 48, 49, 50, 5, 6, 3, 7] rfl (by decide +kernel)
set_option maxRecDepth 20000 in
theorem gJ2_putCharsSB_8fd6a_J2_putChar_b72d1 : GoodIn wsJ2_putCharsSB_8fd6a (va_wsS RJ2 111 yJ2_putChar_b72d1 wsJ2_putChar_b72d1) := goodIn_app (goodIn_of _ (by decide +kernel)) ggJ2_putCharsSB_8fd6a_J2_putChar_b72d1
theorem dJ2_putCharsSB_8fd6a_0 : decode cJ2_putCharsSB_8fd6a 0 = .ok (.iload_n 1, 1) := by decide +kernel
theorem dJ2_putCharsSB_8fd6a_1 : decode cJ2_putCharsSB_8fd6a 1 = .ok (.iload_n 1, 1) := by decide +kernel
theorem dJ2_putCharsSB_8fd6a_2 : decode cJ2_putCharsSB_8fd6a 2 = .ok (.iload 4, 2) := by decide +kernel
theorem dJ2_putCharsSB_8fd6a_4 : decode cJ2_putCharsSB_8fd6a 4 = .ok (.iadd, 1) := by decide +kernel
theorem dJ2_putCharsSB_8fd6a_5 : decode cJ2_putCharsSB_8fd6a 5 = .ok (.iload_n 3, 1) := by decide +kernel
theorem dJ2_putCharsSB_8fd6a_6 : decode cJ2_putCharsSB_8fd6a 6 = .ok (.isub, 1) := by decide +kernel
theorem dJ2_putCharsSB_8fd6a_7 : decode cJ2_putCharsSB_8fd6a 7 = .ok (.aload_n 0, 1) := by decide +kernel
theorem dJ2_putCharsSB_8fd6a_8 : decode cJ2_putCharsSB_8fd6a 8 = .ok (.invokestatic 96, 3) := by decide +kernel
theorem dJ2_putCharsSB_8fd6a_11 : decode cJ2_putCharsSB_8fd6a 11 = .ok (.iload_n 3, 1) := by decide +kernel
theorem dJ2_putCharsSB_8fd6a_12 : decode cJ2_putCharsSB_8fd6a 12 = .ok (.istore 5, 2) := by decide +kernel
theorem dJ2_putCharsSB_8fd6a_14 : decode cJ2_putCharsSB_8fd6a 14 = .ok (.iload 5, 2) := by decide +kernel
theorem dJ2_putCharsSB_8fd6a_16 : decode cJ2_putCharsSB_8fd6a 16 = .ok (.iload 4, 2) := by decide +kernel
theorem dJ2_putCharsSB_8fd6a_18 : decode cJ2_putCharsSB_8fd6a 18 = .ok (.if_icmp .ge 25, 3) := by decide +kernel
theorem dJ2_putCharsSB_8fd6a_21 : decode cJ2_putCharsSB_8fd6a 21 = .ok (.aload_n 0, 1) := by decide +kernel
theorem dJ2_putCharsSB_8fd6a_22 : decode cJ2_putCharsSB_8fd6a 22 = .ok (.iload_n 1, 1) := by decide +kernel
theorem dJ2_putCharsSB_8fd6a_23 : decode cJ2_putCharsSB_8fd6a 23 = .ok (.iinc 1 1, 3) := by decide +kernel
theorem dJ2_putCharsSB_8fd6a_26 : decode cJ2_putCharsSB_8fd6a 26 = .ok (.aload_n 2, 1) := by decide +kernel
theorem dJ2_putCharsSB_8fd6a_27 : decode cJ2_putCharsSB_8fd6a 27 = .ok (.iload 5, 2) := by decide +kernel
theorem dJ2_putCharsSB_8fd6a_29 : decode cJ2_putCharsSB_8fd6a 29 = .ok (.invokeinterface 388 2, 5) := by decide +kernel
theorem dJ2_putCharsSB_8fd6a_34 : decode cJ2_putCharsSB_8fd6a 34 = .ok (.invokestatic 111, 3) := by decide +kernel
theorem dJ2_putCharsSB_8fd6a_37 : decode cJ2_putCharsSB_8fd6a 37 = .ok (.iinc 5 1, 3) := by decide +kernel
theorem dJ2_putCharsSB_8fd6a_40 : decode cJ2_putCharsSB_8fd6a 40 = .ok (.goto (-26), 3) := by decide +kernel
theorem dJ2_putCharsSB_8fd6a_43 : decode cJ2_putCharsSB_8fd6a 43 = .ok (.return_, 1) := by decide +kernel
set_option maxRecDepth 20000 in
theorem ggJ2_getChars_46870_J2_checkBoundsBeginEnd_d044e : GoodIn wsJ2_getChars_46870 wsJ2_checkBoundsBeginEnd_d044e := goodIn_r _ [5, 6, 7, 4, 8, 9, 10, 11, 12, 13, 14, 15, 16, 17] rfl (by decide +kernel)
set_option maxRecDepth 20000 in
theorem gJ2_getChars_46870_J2_checkBoundsBeginEnd_d044e : GoodIn wsJ2_getChars_46870 (va_wsS RJ2 96 yJ2_checkBoundsBeginEnd_d044e wsJ2_checkBoundsBeginEnd_d044e) := goodIn_app (goodIn_of _ (by decide +kernel)) ggJ2_getChars_46870_J2_checkBoundsBeginEnd_d044e
set_option maxRecDepth 20000 in
theorem ggJ2_getChars_46870_J2_getChars_ba4f3 : GoodIn wsJ2_getChars_46870 wsJ2_getChars_ba4f3 := goodIn_r _ [20, 21, 22, 23, 24, 4, 25, 1, 26, 27, 6, 7, 8] rfl (by decide +kernel)
set_option maxRecDepth 20000 in
theorem gJ2_getChars_46870_J2_getChars_ba4f3 : GoodIn wsJ2_getChars_46870 (va_wsS RJ2 393 yJ2_getChars_ba4f3 wsJ2_getChars_ba4f3) := goodIn_app (goodIn_of _ (by decide +kernel)) ggJ2_getChars_46870_J2_getChars_ba4f3
theorem dJ2_getChars_46870_0 : decode cJ2_getChars_46870 0 = .ok (.iload_n 1, 1) := by decide +kernel
theorem dJ2_getChars_46870_1 : decode cJ2_getChars_46870 1 = .ok (.iload_n 2, 1) := by decide +kernel
theorem dJ2_getChars_46870_2 : decode cJ2_getChars_46870 2 = .ok (.aload_n 3, 1) := by decide +kernel
theorem dJ2_getChars_46870_3 : decode cJ2_getChars_46870 3 = .ok (.invokestatic 96, 3) := by decide +kernel
theorem dJ2_getChars_46870_6 : decode cJ2_getChars_46870 6 = .ok (.iload_n 0, 1) := by decide +kernel
theorem dJ2_getChars_46870_7 : decode cJ2_getChars_46870 7 = .ok (.iload_n 2, 1) := by decide +kernel
theorem dJ2_getChars_46870_8 : decode cJ2_getChars_46870 8 = .ok (.aload_n 3, 1) := by decide +kernel
theorem dJ2_getChars_46870_9 : decode cJ2_getChars_46870 9 = .ok (.invokestatic 393, 3) := by decide +kernel
theorem dJ2_getChars_46870_12 : decode cJ2_getChars_46870 12 = .ok (.istore 4, 2) := by decide +kernel
theorem dJ2_getChars_46870_14 : decode cJ2_getChars_46870 14 = .ok (.getstatic 44, 3) := by decide +kernel
theorem dJ2_getChars_46870_17 : decode cJ2_getChars_46870 17 = .ok (.ifCond .ne 17, 3) := by decide +kernel
theorem dJ2_getChars_46870_20 : decode cJ2_getChars_46870 20 = .ok (.iload_n 1, 1) := by decide +kernel
theorem dJ2_getChars_46870_21 : decode cJ2_getChars_46870 21 = .ok (.iload 4, 2) := by decide +kernel
theorem dJ2_getChars_46870_23 : decode cJ2_getChars_46870 23 = .ok (.if_icmp .eq 11, 3) := by decide +kernel
theorem dJ2_getChars_46870_26 : decode cJ2_getChars_46870 26 = .ok (.new 52, 3) := by decide +kernel
theorem dJ2_getChars_46870_29 : decode cJ2_getChars_46870 29 = .ok (.dup, 1) := by decide +kernel
theorem dJ2_getChars_46870_30 : decode cJ2_getChars_46870 30 = .ok (.invokespecial 66, 3) := by decide +kernel
theorem dJ2_getChars_46870_33 : decode cJ2_getChars_46870 33 = .ok (.athrow, 1) := by decide +kernel
theorem dJ2_getChars_46870_34 : decode cJ2_getChars_46870 34 = .ok (.iload 4, 2) := by decide +kernel
theorem dJ2_getChars_46870_36 : decode cJ2_getChars_46870 36 = .ok (.ireturn, 1) := by decide +kernel
set_option maxRecDepth 20000 in
theorem ggJ2_putCharsAt_cd4e5_J2_checkBoundsBeginEnd_d044e : GoodIn wsJ2_putCharsAt_cd4e5 wsJ2_checkBoundsBeginEnd_d044e := goodIn_r _ [5, 6, 7, 4, 8, 9, 10, 11, 12, 13, 14, 15, 16, 17] rfl (by decide +kernel)
set_option maxRecDepth 20000 in
theorem gJ2_putCharsAt_cd4e5_J2_checkBoundsBeginEnd_d044e : GoodIn wsJ2_putCharsAt_cd4e5 (va_wsS RJ2 96 yJ2_checkBoundsBeginEnd_d044e wsJ2_checkBoundsBeginEnd_d044e) := goodIn_app (goodIn_of _ (by decide +kernel)) ggJ2_putCharsAt_cd4e5_J2_checkBoundsBeginEnd_d044e
set_option maxRecDepth 20000 in
theorem ggJ2_putCharsAt_cd4e5_J2_putChar_b72d1 : GoodIn wsJ2_putCharsAt_cd4e5 wsJ2_putChar_b72d1 := goodIn_r _ [20, 1, 21, 22, 6, 7, 4, 8] rfl (by decide +kernel)
set_option maxRecDepth 20000 in
theorem gJ2_putCharsAt_cd4e5_J2_putChar_b72d1 : GoodIn wsJ2_putCharsAt_cd4e5 (va_wsS RJ2 111 yJ2_putChar_b72d1 wsJ2_putChar_b72d1) := goodIn_app (goodIn_of _ (by decide +kernel)) ggJ2_putCharsAt_cd4e5_J2_putChar_b72d1
theorem dJ2_putCharsAt_cd4e5_0 : decode cJ2_putCharsAt_cd4e5 0 = .ok (.iload_n 1, 1) := by decide +kernel
theorem dJ2_putCharsAt_cd4e5_1 : decode cJ2_putCharsAt_cd4e5 1 = .ok (.iconst 4, 1) := by decide +kernel
theorem dJ2_putCharsAt_cd4e5_2 : decode cJ2_putCharsAt_cd4e5 2 = .ok (.iadd, 1) := by decide +kernel
theorem dJ2_putCharsAt_cd4e5_3 : decode cJ2_putCharsAt_cd4e5 3 = .ok (.istore 6, 2) := by decide +kernel
theorem dJ2_putCharsAt_cd4e5_5 : decode cJ2_putCharsAt_cd4e5 5 = .ok (.iload_n 1, 1) := by decide +kernel
theorem dJ2_putCharsAt_cd4e5_6 : decode cJ2_putCharsAt_cd4e5 6 = .ok (.iload 6, 2) := by decide +kernel
theorem dJ2_putCharsAt_cd4e5_8 : decode cJ2_putCharsAt_cd4e5 8 = .ok (.aload_n 0, 1) := by decide +kernel
theorem dJ2_putCharsAt_cd4e5_9 : decode cJ2_putCharsAt_cd4e5 9 = .ok (.invokestatic 96, 3) := by decide +kernel
theorem dJ2_putCharsAt_cd4e5_12 : decode cJ2_putCharsAt_cd4e5 12 = .ok (.aload_n 0, 1) := by decide +kernel
theorem dJ2_putCharsAt_cd4e5_13 : decode cJ2_putCharsAt_cd4e5 13 = .ok (.iload_n 1, 1) := by decide +kernel
theorem dJ2_putCharsAt_cd4e5_14 : decode cJ2_putCharsAt_cd4e5 14 = .ok (.iinc 1 1, 3) := by decide +kernel
theorem dJ2_putCharsAt_cd4e5_17 : decode cJ2_putCharsAt_cd4e5 17 = .ok (.iload_n 2, 1) := by decide +kernel
theorem dJ2_putCharsAt_cd4e5_18 : decode cJ2_putCharsAt_cd4e5 18 = .ok (.invokestatic 111, 3) := by decide +kernel
theorem dJ2_putCharsAt_cd4e5_21 : decode cJ2_putCharsAt_cd4e5 21 = .ok (.aload_n 0, 1) := by decide +kernel
theorem dJ2_putCharsAt_cd4e5_22 : decode cJ2_putCharsAt_cd4e5 22 = .ok (.iload_n 1, 1) := by decide +kernel
theorem dJ2_putCharsAt_cd4e5_23 : decode cJ2_putCharsAt_cd4e5 23 = .ok (.iinc 1 1, 3) := by decide +kernel
theorem dJ2_putCharsAt_cd4e5_26 : decode cJ2_putCharsAt_cd4e5 26 = .ok (.iload_n 3, 1) := by decide +kernel
theorem dJ2_putCharsAt_cd4e5_27 : decode cJ2_putCharsAt_cd4e5 27 = .ok (.invokestatic 111, 3) := by decide +kernel
theorem dJ2_putCharsAt_cd4e5_30 : decode cJ2_putCharsAt_cd4e5 30 = .ok (.aload_n 0, 1) := by decide +kernel
theorem dJ2_putCharsAt_cd4e5_31 : decode cJ2_putCharsAt_cd4e5 31 = .ok (.iload_n 1, 1) := by decide +kernel
theorem dJ2_putCharsAt_cd4e5_32 : decode cJ2_putCharsAt_cd4e5 32 = .ok (.iinc 1 1, 3) := by decide +kernel
theorem dJ2_putCharsAt_cd4e5_35 : decode cJ2_putCharsAt_cd4e5 35 = .ok (.iload 4, 2) := by decide +kernel
theorem dJ2_putCharsAt_cd4e5_37 : decode cJ2_putCharsAt_cd4e5 37 = .ok (.invokestatic 111, 3) := by decide +kernel
theorem dJ2_putCharsAt_cd4e5_40 : decode cJ2_putCharsAt_cd4e5 40 = .ok (.aload_n 0, 1) := by decide +kernel
theorem dJ2_putCharsAt_cd4e5_41 : decode cJ2_putCharsAt_cd4e5 41 = .ok (.iload_n 1, 1) := by decide +kernel
theorem dJ2_putCharsAt_cd4e5_42 : decode cJ2_putCharsAt_cd4e5 42 = .ok (.iinc 1 1, 3) := by decide +kernel
theorem dJ2_putCharsAt_cd4e5_45 : decode cJ2_putCharsAt_cd4e5 45 = .ok (.iload 5, 2) := by decide +kernel
theorem dJ2_putCharsAt_cd4e5_47 : decode cJ2_putCharsAt_cd4e5 47 = .ok (.invokestatic 111, 3) := by decide +kernel
theorem dJ2_putCharsAt_cd4e5_50 : decode cJ2_putCharsAt_cd4e5 50 = .ok (.getstatic 44, 3) := by decide +kernel
theorem dJ2_putCharsAt_cd4e5_53 : decode cJ2_putCharsAt_cd4e5 53 = .ok (.ifCond .ne 17, 3) := by decide +kernel
theorem dJ2_putCharsAt_cd4e5_56 : decode cJ2_putCharsAt_cd4e5 56 = .ok (.iload_n 1, 1) := by decide +kernel
theorem dJ2_putCharsAt_cd4e5_57 : decode cJ2_putCharsAt_cd4e5 57 = .ok (.iload 6, 2) := by decide +kernel
theorem dJ2_putCharsAt_cd4e5_59 : decode cJ2_putCharsAt_cd4e5 59 = .ok (.if_icmp .eq 11, 3) := by decide +kernel
theorem dJ2_putCharsAt_cd4e5_62 : decode cJ2_putCharsAt_cd4e5 62 = .ok (.new 52, 3) := by decide +kernel
theorem dJ2_putCharsAt_cd4e5_65 : decode cJ2_putCharsAt_cd4e5 65 = .ok (.dup, 1) := by decide +kernel
theorem dJ2_putCharsAt_cd4e5_66 : decode cJ2_putCharsAt_cd4e5 66 = .ok (.invokespecial 66, 3) := by decide +kernel
theorem dJ2_putCharsAt_cd4e5_69 : decode cJ2_putCharsAt_cd4e5 69 = .ok (.athrow, 1) := by decide +kernel
theorem dJ2_putCharsAt_cd4e5_70 : decode cJ2_putCharsAt_cd4e5 70 = .ok (.iload 6, 2) := by decide +kernel
theorem dJ2_putCharsAt_cd4e5_72 : decode cJ2_putCharsAt_cd4e5 72 = .ok (.ireturn, 1) := by decide +kernel
set_option maxRecDepth 20000 in
theorem ggJ2_charAt_3b067_J2_checkIndex_2214a : GoodIn wsJ2_charAt_3b067 wsJ2_checkIndex_2214a := goodIn_r _ [4, 5, 6, 3, 7, 8, 9, 10, 11, 12, 13, 14, 15, 16] rfl (by decide +kernel)
set_option maxRecDepth 20000 in
theorem gJ2_charAt_3b067_J2_checkIndex_2214a : GoodIn wsJ2_charAt_3b067 (va_wsS RJ2 67 yJ2_checkIndex_2214a wsJ2_checkIndex_2214a) := goodIn_app (goodIn_of _ (by decide +kernel)) ggJ2_charAt_3b067_J2_checkIndex_2214a
set_option maxRecDepth 20000 in
theorem ggJ2_charAt_3b067_J2_getChar_3b067 : GoodIn wsJ2_charAt_3b067 wsJ2_getChar_3b067 := goodIn_r _ [19, 20, 21, 22, 5, 6, 3, 7] rfl (by decide +kernel)
set_option maxRecDepth 20000 in
theorem gJ2_charAt_3b067_J2_getChar_3b067 : GoodIn wsJ2_charAt_3b067 (va_wsS RJ2 71 yJ2_getChar_3b067 wsJ2_getChar_3b067) := goodIn_app (goodIn_of _ (by decide +kernel)) ggJ2_charAt_3b067_J2_getChar_3b067
theorem dJ2_charAt_3b067_0 : decode cJ2_charAt_3b067 0 = .ok (.iload_n 1, 1) := by decide +kernel
theorem dJ2_charAt_3b067_1 : decode cJ2_charAt_3b067 1 = .ok (.aload_n 0, 1) := by decide +kernel
theorem dJ2_charAt_3b067_2 : decode cJ2_charAt_3b067 2 = .ok (.invokestatic 67, 3) := by decide +kernel
theorem dJ2_charAt_3b067_5 : decode cJ2_charAt_3b067 5 = .ok (.aload_n 0, 1) := by decide +kernel
theorem dJ2_charAt_3b067_6 : decode cJ2_charAt_3b067 6 = .ok (.iload_n 1, 1) := by decide +kernel
theorem dJ2_charAt_3b067_7 : decode cJ2_charAt_3b067 7 = .ok (.invokestatic 71, 3) := by decide +kernel
theorem dJ2_charAt_3b067_10 : decode cJ2_charAt_3b067 10 = .ok (.ireturn, 1) := by decide +kernel
set_option maxRecDepth 20000 in
theorem ggJ2_inflate_0e8fd_J2_checkBoundsOffCount_d044e : GoodIn wsJ2_inflate_0e8fd wsJ2_checkBoundsOffCount_d044e := goodIn_r _ [4, 5, 6, 3, 7, 8, 9, 10, 11, 12, 13, 14, 15, 16] rfl (by decide +kernel)
set_option maxRecDepth 20000 in
theorem gJ2_inflate_0e8fd_J2_checkBoundsOffCount_d044e : GoodIn wsJ2_inflate_0e8fd (va_wsS RJ2 173 yJ2_checkBoundsOffCount_d044e wsJ2_checkBoundsOffCount_d044e) := goodIn_app (goodIn_of _ (by decide +kernel)) ggJ2_inflate_0e8fd_J2_checkBoundsOffCount_d044e
set_option maxRecDepth 20000 in
theorem ggJ2_inflate_0e8fd_J2_putChar_b72d1 : GoodIn wsJ2_inflate_0e8fd wsJ2_putChar_b72d1 := goodIn_r _ [19, 20, 21, 22, 5, 6, 3, 7] rfl (by decide +kernel)
set_option maxRecDepth 20000 in
theorem gJ2_inflate_0e8fd_J2_putChar_b72d1 : GoodIn wsJ2_inflate_0e8fd (va_wsS RJ2 111 yJ2_putChar_b72d1 wsJ2_putChar_b72d1) := goodIn_app (goodIn_of _ (by decide +kernel)) ggJ2_inflate_0e8fd_J2_putChar_b72d1
theorem dJ2_inflate_0e8fd_0 : decode cJ2_inflate_0e8fd 0 = .ok (.iload_n 3, 1) := by decide +kernel
theorem dJ2_inflate_0e8fd_1 : decode cJ2_inflate_0e8fd 1 = .ok (.iload 4, 2) := by decide +kernel
theorem dJ2_inflate_0e8fd_3 : decode cJ2_inflate_0e8fd 3 = .ok (.aload_n 2, 1) := by decide +kernel
theorem dJ2_inflate_0e8fd_4 : decode cJ2_inflate_0e8fd 4 = .ok (.invokestatic 173, 3) := by decide +kernel
theorem dJ2_inflate_0e8fd_7 : decode cJ2_inflate_0e8fd 7 = .ok (.iconst 0, 1) := by decide +kernel
theorem dJ2_inflate_0e8fd_8 : decode cJ2_inflate_0e8fd 8 = .ok (.istore 5, 2) := by decide +kernel
theorem dJ2_inflate_0e8fd_10 : decode cJ2_inflate_0e8fd 10 = .ok (.iload 5, 2) := by decide +kernel
theorem dJ2_inflate_0e8fd_12 : decode cJ2_inflate_0e8fd 12 = .ok (.iload 4, 2) := by decide +kernel
theorem dJ2_inflate_0e8fd_14 : decode cJ2_inflate_0e8fd 14 = .ok (.if_icmp .ge 27, 3) := by decide +kernel
theorem dJ2_inflate_0e8fd_17 : decode cJ2_inflate_0e8fd 17 = .ok (.aload_n 2, 1) := by decide +kernel
theorem dJ2_inflate_0e8fd_18 : decode cJ2_inflate_0e8fd 18 = .ok (.iload_n 3, 1) := by decide +kernel
theorem dJ2_inflate_0e8fd_19 : decode cJ2_inflate_0e8fd 19 = .ok (.iinc 3 1, 3) := by decide +kernel
theorem dJ2_inflate_0e8fd_22 : decode cJ2_inflate_0e8fd 22 = .ok (.aload_n 0, 1) := by decide +kernel
theorem dJ2_inflate_0e8fd_23 : decode cJ2_inflate_0e8fd 23 = .ok (.iload_n 1, 1) := by decide +kernel
theorem dJ2_inflate_0e8fd_24 : decode cJ2_inflate_0e8fd 24 = .ok (.iinc 1 1, 3) := by decide +kernel
theorem dJ2_inflate_0e8fd_27 : decode cJ2_inflate_0e8fd 27 = .ok (.baload, 1) := by decide +kernel
theorem dJ2_inflate_0e8fd_28 : decode cJ2_inflate_0e8fd 28 = .ok (.sipush 255, 3) := by decide +kernel
theorem dJ2_inflate_0e8fd_31 : decode cJ2_inflate_0e8fd 31 = .ok (.iand, 1) := by decide +kernel
theorem dJ2_inflate_0e8fd_32 : decode cJ2_inflate_0e8fd 32 = .ok (.invokestatic 111, 3) := by decide +kernel
theorem dJ2_inflate_0e8fd_35 : decode cJ2_inflate_0e8fd 35 = .ok (.iinc 5 1, 3) := by decide +kernel
theorem dJ2_inflate_0e8fd_38 : decode cJ2_inflate_0e8fd 38 = .ok (.goto (-28), 3) := by decide +kernel
theorem dJ2_inflate_0e8fd_41 : decode cJ2_inflate_0e8fd 41 = .ok (.return_, 1) := by decide +kernel
set_option maxRecDepth 20000 in
theorem ggJ2_getChars_ba4f3_J2_putChar_b72d1 : GoodIn wsJ2_getChars_ba4f3 wsJ2_putChar_b72d1 := goodIn_r _ [6, 7, 8, 9, 10, 11, 5, 12] rfl (by decide +kernel)
set_option maxRecDepth 20000 in
theorem gJ2_getChars_ba4f3_J2_putChar_b72d1 : GoodIn wsJ2_getChars_ba4f3 (va_wsS RJ2 111 yJ2_putChar_b72d1 wsJ2_putChar_b72d1) := goodIn_app (goodIn_of _ (by decide +kernel)) ggJ2_getChars_ba4f3_J2_putChar_b72d1
theorem dJ2_getChars_ba4f3_0 : decode cJ2_getChars_ba4f3 0 = .ok (.iload_n 1, 1) := by decide +kernel
theorem dJ2_getChars_ba4f3_1 : decode cJ2_getChars_ba4f3 1 = .ok (.istore 5, 2) := by decide +kernel
theorem dJ2_getChars_ba4f3_3 : decode cJ2_getChars_ba4f3 3 = .ok (.iload_n 0, 1) := by decide +kernel
theorem dJ2_getChars_ba4f3_4 : decode cJ2_getChars_ba4f3 4 = .ok (.ifCond .ge 7, 3) := by decide +kernel
theorem dJ2_getChars_ba4f3_7 : decode cJ2_getChars_ba4f3 7 = .ok (.iconst 1, 1) := by decide +kernel
theorem dJ2_getChars_ba4f3_8 : decode cJ2_getChars_ba4f3 8 = .ok (.goto 4, 3) := by decide +kernel
theorem dJ2_getChars_ba4f3_11 : decode cJ2_getChars_ba4f3 11 = .ok (.iconst 0, 1) := by decide +kernel
theorem dJ2_getChars_ba4f3_12 : decode cJ2_getChars_ba4f3 12 = .ok (.istore 6, 2) := by decide +kernel
theorem dJ2_getChars_ba4f3_14 : decode cJ2_getChars_ba4f3 14 = .ok (.iload 6, 2) := by decide +kernel
theorem dJ2_getChars_ba4f3_16 : decode cJ2_getChars_ba4f3 16 = .ok (.ifCond .ne 6, 3) := by decide +kernel
theorem dJ2_getChars_ba4f3_19 : decode cJ2_getChars_ba4f3 19 = .ok (.iload_n 0, 1) := by decide +kernel
theorem dJ2_getChars_ba4f3_20 : decode cJ2_getChars_ba4f3 20 = .ok (.ineg, 1) := by decide +kernel
theorem dJ2_getChars_ba4f3_21 : decode cJ2_getChars_ba4f3 21 = .ok (.istore_n 0, 1) := by decide +kernel
theorem dJ2_getChars_ba4f3_22 : decode cJ2_getChars_ba4f3 22 = .ok (.iload_n 0, 1) := by decide +kernel
theorem dJ2_getChars_ba4f3_23 : decode cJ2_getChars_ba4f3 23 = .ok (.bipush (-100), 2) := by decide +kernel
theorem dJ2_getChars_ba4f3_25 : decode cJ2_getChars_ba4f3 25 = .ok (.if_icmp .gt 51, 3) := by decide +kernel
theorem dJ2_getChars_ba4f3_28 : decode cJ2_getChars_ba4f3 28 = .ok (.iload_n 0, 1) := by decide +kernel
theorem dJ2_getChars_ba4f3_29 : decode cJ2_getChars_ba4f3 29 = .ok (.bipush 100, 2) := by decide +kernel
theorem dJ2_getChars_ba4f3_31 : decode cJ2_getChars_ba4f3 31 = .ok (.idiv, 1) := by decide +kernel
theorem dJ2_getChars_ba4f3_32 : decode cJ2_getChars_ba4f3 32 = .ok (.istore_n 3, 1) := by decide +kernel
theorem dJ2_getChars_ba4f3_33 : decode cJ2_getChars_ba4f3 33 = .ok (.iload_n 3, 1) := by decide +kernel
theorem dJ2_getChars_ba4f3_34 : decode cJ2_getChars_ba4f3 34 = .ok (.bipush 100, 2) := by decide +kernel
theorem dJ2_getChars_ba4f3_36 : decode cJ2_getChars_ba4f3 36 = .ok (.imul, 1) := by decide +kernel
theorem dJ2_getChars_ba4f3_37 : decode cJ2_getChars_ba4f3 37 = .ok (.iload_n 0, 1) := by decide +kernel
theorem dJ2_getChars_ba4f3_38 : decode cJ2_getChars_ba4f3 38 = .ok (.isub, 1) := by decide +kernel
theorem dJ2_getChars_ba4f3_39 : decode cJ2_getChars_ba4f3 39 = .ok (.istore 4, 2) := by decide +kernel
theorem dJ2_getChars_ba4f3_41 : decode cJ2_getChars_ba4f3 41 = .ok (.iload_n 3, 1) := by decide +kernel
theorem dJ2_getChars_ba4f3_42 : decode cJ2_getChars_ba4f3 42 = .ok (.istore_n 0, 1) := by decide +kernel
theorem dJ2_getChars_ba4f3_43 : decode cJ2_getChars_ba4f3 43 = .ok (.aload_n 2, 1) := by decide +kernel
theorem dJ2_getChars_ba4f3_44 : decode cJ2_getChars_ba4f3 44 = .ok (.iinc 5 (-1), 3) := by decide +kernel
theorem dJ2_getChars_ba4f3_47 : decode cJ2_getChars_ba4f3 47 = .ok (.iload 5, 2) := by decide +kernel
theorem dJ2_getChars_ba4f3_49 : decode cJ2_getChars_ba4f3 49 = .ok (.getstatic 403, 3) := by decide +kernel
theorem dJ2_getChars_ba4f3_52 : decode cJ2_getChars_ba4f3 52 = .ok (.iload 4, 2) := by decide +kernel
theorem dJ2_getChars_ba4f3_54 : decode cJ2_getChars_ba4f3 54 = .ok (.baload, 1) := by decide +kernel
theorem dJ2_getChars_ba4f3_55 : decode cJ2_getChars_ba4f3 55 = .ok (.invokestatic 111, 3) := by decide +kernel
theorem dJ2_getChars_ba4f3_58 : decode cJ2_getChars_ba4f3 58 = .ok (.aload_n 2, 1) := by decide +kernel
theorem dJ2_getChars_ba4f3_59 : decode cJ2_getChars_ba4f3 59 = .ok (.iinc 5 (-1), 3) := by decide +kernel
theorem dJ2_getChars_ba4f3_62 : decode cJ2_getChars_ba4f3 62 = .ok (.iload 5, 2) := by decide +kernel
theorem dJ2_getChars_ba4f3_64 : decode cJ2_getChars_ba4f3 64 = .ok (.getstatic 407, 3) := by decide +kernel
theorem dJ2_getChars_ba4f3_67 : decode cJ2_getChars_ba4f3 67 = .ok (.iload 4, 2) := by decide +kernel
theorem dJ2_getChars_ba4f3_69 : decode cJ2_getChars_ba4f3 69 = .ok (.baload, 1) := by decide +kernel
theorem dJ2_getChars_ba4f3_70 : decode cJ2_getChars_ba4f3 70 = .ok (.invokestatic 111, 3) := by decide +kernel
theorem dJ2_getChars_ba4f3_73 : decode cJ2_getChars_ba4f3 73 = .ok (.goto (-51), 3) := by decide +kernel
theorem dJ2_getChars_ba4f3_76 : decode cJ2_getChars_ba4f3 76 = .ok (.aload_n 2, 1) := by decide +kernel
theorem dJ2_getChars_ba4f3_77 : decode cJ2_getChars_ba4f3 77 = .ok (.iinc 5 (-1), 3) := by decide +kernel
theorem dJ2_getChars_ba4f3_80 : decode cJ2_getChars_ba4f3 80 = .ok (.iload 5, 2) := by decide +kernel
theorem dJ2_getChars_ba4f3_82 : decode cJ2_getChars_ba4f3 82 = .ok (.getstatic 403, 3) := by decide +kernel
theorem dJ2_getChars_ba4f3_85 : decode cJ2_getChars_ba4f3 85 = .ok (.iload_n 0, 1) := by decide +kernel
theorem dJ2_getChars_ba4f3_86 : decode cJ2_getChars_ba4f3 86 = .ok (.ineg, 1) := by decide +kernel
theorem dJ2_getChars_ba4f3_87 : decode cJ2_getChars_ba4f3 87 = .ok (.baload, 1) := by decide +kernel
theorem dJ2_getChars_ba4f3_88 : decode cJ2_getChars_ba4f3 88 = .ok (.invokestatic 111, 3) := by decide +kernel
theorem dJ2_getChars_ba4f3_91 : decode cJ2_getChars_ba4f3 91 = .ok (.iload_n 0, 1) := by decide +kernel
theorem dJ2_getChars_ba4f3_92 : decode cJ2_getChars_ba4f3 92 = .ok (.bipush (-9), 2) := by decide +kernel
theorem dJ2_getChars_ba4f3_94 : decode cJ2_getChars_ba4f3 94 = .ok (.if_icmp .ge 18, 3) := by decide +kernel
theorem dJ2_getChars_ba4f3_97 : decode cJ2_getChars_ba4f3 97 = .ok (.aload_n 2, 1) := by decide +kernel
theorem dJ2_getChars_ba4f3_98 : decode cJ2_getChars_ba4f3 98 = .ok (.iinc 5 (-1), 3) := by decide +kernel
theorem dJ2_getChars_ba4f3_101 : decode cJ2_getChars_ba4f3 101 = .ok (.iload 5, 2) := by decide +kernel
theorem dJ2_getChars_ba4f3_103 : decode cJ2_getChars_ba4f3 103 = .ok (.getstatic 407, 3) := by decide +kernel
theorem dJ2_getChars_ba4f3_106 : decode cJ2_getChars_ba4f3 106 = .ok (.iload_n 0, 1) := by decide +kernel
theorem dJ2_getChars_ba4f3_107 : decode cJ2_getChars_ba4f3 107 = .ok (.ineg, 1) := by decide +kernel
theorem dJ2_getChars_ba4f3_108 : decode cJ2_getChars_ba4f3 108 = .ok (.baload, 1) := by decide +kernel
theorem dJ2_getChars_ba4f3_109 : decode cJ2_getChars_ba4f3 109 = .ok (.invokestatic 111, 3) := by decide +kernel
theorem dJ2_getChars_ba4f3_112 : decode cJ2_getChars_ba4f3 112 = .ok (.iload 6, 2) := by decide +kernel
theorem dJ2_getChars_ba4f3_114 : decode cJ2_getChars_ba4f3 114 = .ok (.ifCond .eq 14, 3) := by decide +kernel
theorem dJ2_getChars_ba4f3_117 : decode cJ2_getChars_ba4f3 117 = .ok (.aload_n 2, 1) := by decide +kernel
theorem dJ2_getChars_ba4f3_118 : decode cJ2_getChars_ba4f3 118 = .ok (.iinc 5 (-1), 3) := by decide +kernel
theorem dJ2_getChars_ba4f3_121 : decode cJ2_getChars_ba4f3 121 = .ok (.iload 5, 2) := by decide +kernel
theorem dJ2_getChars_ba4f3_123 : decode cJ2_getChars_ba4f3 123 = .ok (.bipush 45, 2) := by decide +kernel
theorem dJ2_getChars_ba4f3_125 : decode cJ2_getChars_ba4f3 125 = .ok (.invokestatic 111, 3) := by decide +kernel
theorem dJ2_getChars_ba4f3_128 : decode cJ2_getChars_ba4f3 128 = .ok (.iload 5, 2) := by decide +kernel
theorem dJ2_getChars_ba4f3_130 : decode cJ2_getChars_ba4f3 130 = .ok (.ireturn, 1) := by decide +kernel
set_option maxRecDepth 20000 in
theorem ggJ2_checkIndex_2214a_J2_length_9d52b : GoodIn wsJ2_checkIndex_2214a wsJ2_length_9d52b := goodIn_r _ [4] rfl (by decide +kernel)
set_option maxRecDepth 20000 in
theorem gJ2_checkIndex_2214a_J2_length_9d52b : GoodIn wsJ2_checkIndex_2214a (va_wsS RJ2 48 yJ2_length_9d52b wsJ2_length_9d52b) := goodIn_app (goodIn_of _ (by decide +kernel)) ggJ2_checkIndex_2214a_J2_length_9d52b
set_option maxRecDepth 20000 in
theorem ggJ2_checkIndex_2214a_J0_checkIndex_df160 : GoodIn wsJ2_checkIndex_2214a wsJ0_checkIndex_df160 := goodIn_r _ [8, 9, 10, 11, 12, 13] rfl (by decide +kernel)
set_option maxRecDepth 20000 in
theorem gJ2_checkIndex_2214a_J0_checkIndex_df160 : GoodIn wsJ2_checkIndex_2214a (va_wsS RJ2 414 yJ0_checkIndex_df160 wsJ0_checkIndex_df160) := goodIn_app (goodIn_of _ (by decide +kernel)) ggJ2_checkIndex_2214a_J0_checkIndex_df160
theorem dJ2_checkIndex_2214a_0 : decode cJ2_checkIndex_2214a 0 = .ok (.iload_n 0, 1) := by decide +kernel
theorem dJ2_checkIndex_2214a_1 : decode cJ2_checkIndex_2214a 1 = .ok (.aload_n 1, 1) := by decide +kernel
theorem dJ2_checkIndex_2214a_2 : decode cJ2_checkIndex_2214a 2 = .ok (.invokestatic 48, 3) := by decide +kernel
theorem dJ2_checkIndex_2214a_5 : decode cJ2_checkIndex_2214a 5 = .ok (.invokestatic 414, 3) := by decide +kernel
theorem dJ2_checkIndex_2214a_8 : decode cJ2_checkIndex_2214a 8 = .ok (.return_, 1) := by decide +kernel
set_option maxRecDepth 20000 in
theorem ggJ2_checkBoundsBeginEnd_d044e_J2_length_9d52b : GoodIn wsJ2_checkBoundsBeginEnd_d044e wsJ2_length_9d52b := goodIn_r _ [4] rfl (by decide +kernel)
set_option maxRecDepth 20000 in
theorem gJ2_checkBoundsBeginEnd_d044e_J2_length_9d52b : GoodIn wsJ2_checkBoundsBeginEnd_d044e (va_wsS RJ2 48 yJ2_length_9d52b wsJ2_length_9d52b) := goodIn_app (goodIn_of _ (by decide +kernel)) ggJ2_checkBoundsBeginEnd_d044e_J2_length_9d52b
set_option maxRecDepth 20000 in
theorem ggJ2_checkBoundsBeginEnd_d044e_J0_checkBoundsBeginEnd_23922 : GoodIn wsJ2_checkBoundsBeginEnd_d044e wsJ0_checkBoundsBeginEnd_23922 := goodIn_r _ [8, 9, 10, 11, 12, 13] rfl (by decide +kernel)
set_option maxRecDepth 20000 in
theorem gJ2_checkBoundsBeginEnd_d044e_J0_checkBoundsBeginEnd_23922 : GoodIn wsJ2_checkBoundsBeginEnd_d044e (va_wsS RJ2 241 yJ0_checkBoundsBeginEnd_23922 wsJ0_checkBoundsBeginEnd_23922) := goodIn_app (goodIn_of _ (by decide +kernel)) ggJ2_checkBoundsBeginEnd_d044e_J0_checkBoundsBeginEnd_23922
theorem dJ2_checkBoundsBeginEnd_d044e_0 : decode cJ2_checkBoundsBeginEnd_d044e 0 = .ok (.iload_n 0, 1) := by decide +kernel
theorem dJ2_checkBoundsBeginEnd_d044e_1 : decode cJ2_checkBoundsBeginEnd_d044e 1 = .ok (.iload_n 1, 1) := by decide +kernel
theorem dJ2_checkBoundsBeginEnd_d044e_2 : decode cJ2_checkBoundsBeginEnd_d044e 2 = .ok (.aload_n 2, 1) := by decide +kernel
theorem dJ2_checkBoundsBeginEnd_d044e_3 : decode cJ2_checkBoundsBeginEnd_d044e 3 = .ok (.invokestatic 48, 3) := by decide +kernel
theorem dJ2_checkBoundsBeginEnd_d044e_6 : decode cJ2_checkBoundsBeginEnd_d044e 6 = .ok (.invokestatic 241, 3) := by decide +kernel
theorem dJ2_checkBoundsBeginEnd_d044e_9 : decode cJ2_checkBoundsBeginEnd_d044e 9 = .ok (.return_, 1) := by decide +kernel
set_option maxRecDepth 20000 in
theorem ggJ2_checkBoundsOffCount_d044e_J2_length_9d52b : GoodIn wsJ2_checkBoundsOffCount_d044e wsJ2_length_9d52b := goodIn_r _ [4] rfl (by decide +kernel)
set_option maxRecDepth 20000 in
theorem gJ2_checkBoundsOffCount_d044e_J2_length_9d52b : GoodIn wsJ2_checkBoundsOffCount_d044e (va_wsS RJ2 48 yJ2_length_9d52b wsJ2_length_9d52b) := goodIn_app (goodIn_of _ (by decide +kernel)) ggJ2_checkBoundsOffCount_d044e_J2_length_9d52b
set_option maxRecDepth 20000 in
theorem ggJ2_checkBoundsOffCount_d044e_J0_checkBoundsOffCount_cabcc : GoodIn wsJ2_checkBoundsOffCount_d044e wsJ0_checkBoundsOffCount_cabcc := goodIn_r _ [8, 9, 10, 11, 12, 13] rfl (by decide +kernel)
set_option maxRecDepth 20000 in
theorem gJ2_checkBoundsOffCount_d044e_J0_checkBoundsOffCount_cabcc : GoodIn wsJ2_checkBoundsOffCount_d044e (va_wsS RJ2 419 yJ0_checkBoundsOffCount_cabcc wsJ0_checkBoundsOffCount_cabcc) := goodIn_app (goodIn_of _ (by decide +kernel)) ggJ2_checkBoundsOffCount_d044e_J0_checkBoundsOffCount_cabcc
theorem dJ2_checkBoundsOffCount_d044e_0 : decode cJ2_checkBoundsOffCount_d044e 0 = .ok (.iload_n 0, 1) := by decide +kernel
theorem dJ2_checkBoundsOffCount_d044e_1 : decode cJ2_checkBoundsOffCount_d044e 1 = .ok (.iload_n 1, 1) := by decide +kernel
theorem dJ2_checkBoundsOffCount_d044e_2 : decode cJ2_checkBoundsOffCount_d044e 2 = .ok (.aload_n 2, 1) := by decide +kernel
theorem dJ2_checkBoundsOffCount_d044e_3 : decode cJ2_checkBoundsOffCount_d044e 3 = .ok (.invokestatic 48, 3) := by decide +kernel
theorem dJ2_checkBoundsOffCount_d044e_6 : decode cJ2_checkBoundsOffCount_d044e 6 = .ok (.invokestatic 419, 3) := by decide +kernel
theorem dJ2_checkBoundsOffCount_d044e_9 : decode cJ2_checkBoundsOffCount_d044e 9 = .ok (.pop, 1) := by decide +kernel
theorem dJ2_checkBoundsOffCount_d044e_10 : decode cJ2_checkBoundsOffCount_d044e 10 = .ok (.return_, 1) := by decide +kernel
theorem dJ7_copyOf_9075b_0 : decode cJ7_copyOf_9075b 0 = .ok (.iload_n 1, 1) := by decide +kernel
theorem dJ7_copyOf_9075b_1 : decode cJ7_copyOf_9075b 1 = .ok (.aload_n 0, 1) := by decide +kernel
theorem dJ7_copyOf_9075b_2 : decode cJ7_copyOf_9075b 2 = .ok (.arraylength, 1) := by decide +kernel
theorem dJ7_copyOf_9075b_3 : decode cJ7_copyOf_9075b 3 = .ok (.if_icmp .ne 11, 3) := by decide +kernel
theorem dJ7_copyOf_9075b_6 : decode cJ7_copyOf_9075b 6 = .ok (.aload_n 0, 1) := by decide +kernel
theorem dJ7_copyOf_9075b_7 : decode cJ7_copyOf_9075b 7 = .ok (.invokevirtual 310, 3) := by decide +kernel
theorem dJ7_copyOf_9075b_10 : decode cJ7_copyOf_9075b 10 = .ok (.checkcast 311, 3) := by decide +kernel
theorem dJ7_copyOf_9075b_13 : decode cJ7_copyOf_9075b 13 = .ok (.areturn, 1) := by decide +kernel
theorem dJ7_copyOf_9075b_14 : decode cJ7_copyOf_9075b 14 = .ok (.iload_n 1, 1) := by decide +kernel
theorem dJ7_copyOf_9075b_15 : decode cJ7_copyOf_9075b 15 = .ok (.newarray .byte, 2) := by decide +kernel
theorem dJ7_copyOf_9075b_17 : decode cJ7_copyOf_9075b 17 = .ok (.astore_n 2, 1) := by decide +kernel
theorem dJ7_copyOf_9075b_18 : decode cJ7_copyOf_9075b 18 = .ok (.aload_n 0, 1) := by decide +kernel
theorem dJ7_copyOf_9075b_19 : decode cJ7_copyOf_9075b 19 = .ok (.iconst 0, 1) := by decide +kernel
theorem dJ7_copyOf_9075b_20 : decode cJ7_copyOf_9075b 20 = .ok (.aload_n 2, 1) := by decide +kernel
theorem dJ7_copyOf_9075b_21 : decode cJ7_copyOf_9075b 21 = .ok (.iconst 0, 1) := by decide +kernel
theorem dJ7_copyOf_9075b_22 : decode cJ7_copyOf_9075b 22 = .ok (.aload_n 0, 1) := by decide +kernel
theorem dJ7_copyOf_9075b_23 : decode cJ7_copyOf_9075b 23 = .ok (.arraylength, 1) := by decide +kernel
theorem dJ7_copyOf_9075b_24 : decode cJ7_copyOf_9075b 24 = .ok (.iload_n 1, 1) := by decide +kernel
theorem dJ7_copyOf_9075b_25 : decode cJ7_copyOf_9075b 25 = .ok (.invokestatic 304, 3) := by decide +kernel
theorem dJ7_copyOf_9075b_28 : decode cJ7_copyOf_9075b 28 = .ok (.invokestatic 150, 3) := by decide +kernel
theorem dJ7_copyOf_9075b_31 : decode cJ7_copyOf_9075b 31 = .ok (.aload_n 2, 1) := by decide +kernel
theorem dJ7_copyOf_9075b_32 : decode cJ7_copyOf_9075b 32 = .ok (.areturn, 1) := by decide +kernel
theorem dJ7_checkLength_df160_0 : decode cJ7_checkLength_df160 0 = .ok (.iload_n 1, 1) := by decide +kernel
theorem dJ7_checkLength_df160_1 : decode cJ7_checkLength_df160 1 = .ok (.iload_n 0, 1) := by decide +kernel
theorem dJ7_checkLength_df160_2 : decode cJ7_checkLength_df160 2 = .ok (.if_icmp .ge 35, 3) := by decide +kernel
theorem dJ7_checkLength_df160_5 : decode cJ7_checkLength_df160 5 = .ok (.new 43, 3) := by decide +kernel
theorem dJ7_checkLength_df160_8 : decode cJ7_checkLength_df160 8 = .ok (.dup, 1) := by decide +kernel
theorem dJ7_checkLength_df160_9 : decode cJ7_checkLength_df160 9 = .ok (.new 45, 3) := by decide +kernel
theorem dJ7_checkLength_df160_12 : decode cJ7_checkLength_df160 12 = .ok (.dup, 1) := by decide +kernel
theorem dJ7_checkLength_df160_13 : decode cJ7_checkLength_df160 13 = .ok (.invokespecial 47, 3) := by decide +kernel
theorem dJ7_checkLength_df160_16 : decode cJ7_checkLength_df160 16 = .ok (.iload_n 0, 1) := by decide +kernel
theorem dJ7_checkLength_df160_17 : decode cJ7_checkLength_df160 17 = .ok (.invokevirtual 54, 3) := by decide +kernel
theorem dJ7_checkLength_df160_20 : decode cJ7_checkLength_df160 20 = .ok (.ldc_w 337, 3) := by decide +kernel
theorem dJ7_checkLength_df160_23 : decode cJ7_checkLength_df160 23 = .ok (.invokevirtual 50, 3) := by decide +kernel
theorem dJ7_checkLength_df160_26 : decode cJ7_checkLength_df160 26 = .ok (.iload_n 1, 1) := by decide +kernel
theorem dJ7_checkLength_df160_27 : decode cJ7_checkLength_df160 27 = .ok (.invokevirtual 54, 3) := by decide +kernel
theorem dJ7_checkLength_df160_30 : decode cJ7_checkLength_df160 30 = .ok (.invokevirtual 61, 3) := by decide +kernel
theorem dJ7_checkLength_df160_33 : decode cJ7_checkLength_df160 33 = .ok (.invokespecial 65, 3) := by decide +kernel
theorem dJ7_checkLength_df160_36 : decode cJ7_checkLength_df160 36 = .ok (.athrow, 1) := by decide +kernel
theorem dJ7_checkLength_df160_37 : decode cJ7_checkLength_df160 37 = .ok (.return_, 1) := by decide +kernel
set_option maxRecDepth 20000 in
theorem ggJ7_copyOfRange_39247_J7_copyOfRangeByte_39247 : GoodIn wsJ7_copyOfRange_39247 wsJ7_copyOfRangeByte_39247 := goodIn_r _ [10, 11, 12, 13, 14, 15, 16, 17, 18, 19, 20, 21, 9, 22, 23, 24, 25, 26, 27, 28, 29] rfl (by decide +kernel)
set_option maxRecDepth 20000 in
theorem gJ7_copyOfRange_39247_J7_copyOfRangeByte_39247 : GoodIn wsJ7_copyOfRange_39247 (va_wsS RJ7 339 yJ7_copyOfRangeByte_39247 wsJ7_copyOfRangeByte_39247) := goodIn_app (goodIn_of _ (by decide +kernel)) ggJ7_copyOfRange_39247_J7_copyOfRangeByte_39247
theorem dJ7_copyOfRange_39247_0 : decode cJ7_copyOfRange_39247 0 = .ok (.iload_n 1, 1) := by decide +kernel
theorem dJ7_copyOfRange_39247_1 : decode cJ7_copyOfRange_39247 1 = .ok (.ifCond .ne 9, 3) := by decide +kernel
theorem dJ7_copyOfRange_39247_4 : decode cJ7_copyOfRange_39247 4 = .ok (.iload_n 2, 1) := by decide +kernel
theorem dJ7_copyOfRange_39247_5 : decode cJ7_copyOfRange_39247 5 = .ok (.aload_n 0, 1) := by decide +kernel
theorem dJ7_copyOfRange_39247_6 : decode cJ7_copyOfRange_39247 6 = .ok (.arraylength, 1) := by decide +kernel
theorem dJ7_copyOfRange_39247_7 : decode cJ7_copyOfRange_39247 7 = .ok (.if_icmp .eq 10, 3) := by decide +kernel
theorem dJ7_copyOfRange_39247_10 : decode cJ7_copyOfRange_39247 10 = .ok (.aload_n 0, 1) := by decide +kernel
theorem dJ7_copyOfRange_39247_11 : decode cJ7_copyOfRange_39247 11 = .ok (.iload_n 1, 1) := by decide +kernel
theorem dJ7_copyOfRange_39247_12 : decode cJ7_copyOfRange_39247 12 = .ok (.iload_n 2, 1) := by decide +kernel
theorem dJ7_copyOfRange_39247_13 : decode cJ7_copyOfRange_39247 13 = .ok (.invokestatic 339, 3) := by decide +kernel
theorem dJ7_copyOfRange_39247_16 : decode cJ7_copyOfRange_39247 16 = .ok (.areturn, 1) := by decide +kernel
theorem dJ7_copyOfRange_39247_17 : decode cJ7_copyOfRange_39247 17 = .ok (.aload_n 0, 1) := by decide +kernel
theorem dJ7_copyOfRange_39247_18 : decode cJ7_copyOfRange_39247 18 = .ok (.invokevirtual 310, 3) := by decide +kernel
theorem dJ7_copyOfRange_39247_21 : decode cJ7_copyOfRange_39247 21 = .ok (.checkcast 311, 3) := by decide +kernel
theorem dJ7_copyOfRange_39247_24 : decode cJ7_copyOfRange_39247 24 = .ok (.areturn, 1) := by decide +kernel
set_option maxRecDepth 20000 in
theorem ggJ7_copyOfRangeByte_39247_J7_checkLength_df160 : GoodIn wsJ7_copyOfRangeByte_39247 wsJ7_checkLength_df160 := goodIn_r _ [13, 14, 15, 16, 17, 18, 19, 20] rfl (by decide +kernel)
set_option maxRecDepth 20000 in
theorem gJ7_copyOfRangeByte_39247_J7_checkLength_df160 : GoodIn wsJ7_copyOfRangeByte_39247 (va_wsS RJ7 343 yJ7_checkLength_df160 wsJ7_checkLength_df160) := goodIn_app (goodIn_of _ (by decide +kernel)) ggJ7_copyOfRangeByte_39247_J7_checkLength_df160
theorem dJ7_copyOfRangeByte_39247_0 : decode cJ7_copyOfRangeByte_39247 0 = .ok (.iload_n 1, 1) := by decide +kernel
theorem dJ7_copyOfRangeByte_39247_1 : decode cJ7_copyOfRangeByte_39247 1 = .ok (.iload_n 2, 1) := by decide +kernel
theorem dJ7_copyOfRangeByte_39247_2 : decode cJ7_copyOfRangeByte_39247 2 = .ok (.invokestatic 343, 3) := by decide +kernel
theorem dJ7_copyOfRangeByte_39247_5 : decode cJ7_copyOfRangeByte_39247 5 = .ok (.iload_n 2, 1) := by decide +kernel
theorem dJ7_copyOfRangeByte_39247_6 : decode cJ7_copyOfRangeByte_39247 6 = .ok (.iload_n 1, 1) := by decide +kernel
theorem dJ7_copyOfRangeByte_39247_7 : decode cJ7_copyOfRangeByte_39247 7 = .ok (.isub, 1) := by decide +kernel
theorem dJ7_copyOfRangeByte_39247_8 : decode cJ7_copyOfRangeByte_39247 8 = .ok (.istore_n 3, 1) := by decide +kernel
theorem dJ7_copyOfRangeByte_39247_9 : decode cJ7_copyOfRangeByte_39247 9 = .ok (.iload_n 3, 1) := by decide +kernel
theorem dJ7_copyOfRangeByte_39247_10 : decode cJ7_copyOfRangeByte_39247 10 = .ok (.newarray .byte, 2) := by decide +kernel
theorem dJ7_copyOfRangeByte_39247_12 : decode cJ7_copyOfRangeByte_39247 12 = .ok (.astore 4, 2) := by decide +kernel
theorem dJ7_copyOfRangeByte_39247_14 : decode cJ7_copyOfRangeByte_39247 14 = .ok (.aload_n 0, 1) := by decide +kernel
theorem dJ7_copyOfRangeByte_39247_15 : decode cJ7_copyOfRangeByte_39247 15 = .ok (.iload_n 1, 1) := by decide +kernel
theorem dJ7_copyOfRangeByte_39247_16 : decode cJ7_copyOfRangeByte_39247 16 = .ok (.aload 4, 2) := by decide +kernel
theorem dJ7_copyOfRangeByte_39247_18 : decode cJ7_copyOfRangeByte_39247 18 = .ok (.iconst 0, 1) := by decide +kernel
theorem dJ7_copyOfRangeByte_39247_19 : decode cJ7_copyOfRangeByte_39247 19 = .ok (.aload_n 0, 1) := by decide +kernel
theorem dJ7_copyOfRangeByte_39247_20 : decode cJ7_copyOfRangeByte_39247 20 = .ok (.arraylength, 1) := by decide +kernel
theorem dJ7_copyOfRangeByte_39247_21 : decode cJ7_copyOfRangeByte_39247 21 = .ok (.iload_n 1, 1) := by decide +kernel
theorem dJ7_copyOfRangeByte_39247_22 : decode cJ7_copyOfRangeByte_39247 22 = .ok (.isub, 1) := by decide +kernel
theorem dJ7_copyOfRangeByte_39247_23 : decode cJ7_copyOfRangeByte_39247 23 = .ok (.iload_n 3, 1) := by decide +kernel
theorem dJ7_copyOfRangeByte_39247_24 : decode cJ7_copyOfRangeByte_39247 24 = .ok (.invokestatic 304, 3) := by decide +kernel
theorem dJ7_copyOfRangeByte_39247_27 : decode cJ7_copyOfRangeByte_39247 27 = .ok (.invokestatic 150, 3) := by decide +kernel
theorem dJ7_copyOfRangeByte_39247_30 : decode cJ7_copyOfRangeByte_39247 30 = .ok (.aload 4, 2) := by decide +kernel
theorem dJ7_copyOfRangeByte_39247_32 : decode cJ7_copyOfRangeByte_39247 32 = .ok (.areturn, 1) := by decide +kernel
theorem dJx40b00_init_da8c8_0 : decode cJx40b00_init_da8c8 0 = .ok (.aload_n 0, 1) := by decide +kernel
theorem dJx40b00_init_da8c8_1 : decode cJx40b00_init_da8c8 1 = .ok (.invokespecial 5, 3) := by decide +kernel
theorem dJx40b00_init_da8c8_4 : decode cJx40b00_init_da8c8 4 = .ok (.aload_n 0, 1) := by decide +kernel
theorem dJx40b00_init_da8c8_5 : decode cJx40b00_init_da8c8 5 = .ok (.bipush 15, 2) := by decide +kernel
theorem dJx40b00_init_da8c8_7 : decode cJx40b00_init_da8c8 7 = .ok (.newarray .byte, 2) := by decide +kernel
theorem dJx40b00_init_da8c8_9 : decode cJx40b00_init_da8c8 9 = .ok (.putfield 11, 3) := by decide +kernel
theorem dJx40b00_init_da8c8_12 : decode cJx40b00_init_da8c8 12 = .ok (.return_, 1) := by decide +kernel
set_option maxRecDepth 20000 in
theorem ggJx40b00_appendTo_8d9f2_Jx40b00_init_da8c8 : GoodIn wsJx40b00_appendTo_8d9f2 wsJx40b00_init_da8c8 := goodIn_r _ [6, 7, 8, 9, 10, 11, 424, 425] rfl (by decide +kernel)
set_option maxRecDepth 20000 in
theorem gJx40b00_appendTo_8d9f2_Jx40b00_init_da8c8 : GoodIn wsJx40b00_appendTo_8d9f2 (wsJx40b00_init_da8c8) := ggJx40b00_appendTo_8d9f2_Jx40b00_init_da8c8
set_option maxRecDepth 20000 in
theorem ggJx40b00_appendTo_8d9f2_Jx40b00_appendDecimalTo_8d9f2 : GoodIn wsJx40b00_appendTo_8d9f2 wsJx40b00_appendDecimalTo_8d9f2 := goodIn_r _ [15, 16, 17, 11, 18, 19, 20, 21, 22, 3, 23, 24, 25, 26, 27, 28, 29, 30, 31, 32, 33, 34, 35, 36, 37, 38, 39, 40, 41, 42, 43, 44, 45, 46, 47, 48, 49, 50, 51, 52, 53, 54, 55, 56, 57, 58, 59, 60, 61, 62, 63, 64, 65, 66, 67, 68, 69, 70, 71, 72, 73, 74, 75, 76, 77, 78, 79, 80, 81, 82, 83, 84, 85, 86, 87, 88, 89, 90, 91, 92, 93, 94, 95, 96, 97, 98, 99, 100, 101, 102, 103, 104, 105, 106, 107, 108, 109, 110, 111, 112, 113, 114, 115, 116, 117, 118, 119, 120, 121, 122, 123, 124, 125, 126, 127, 128, 129, 130, 131, 132, 133, 134, 135, 136, 137, 138, 139, 140, 141, 142, 143, 144, 145, 146, 147, 148, 149, 150, 151, 152, 153, 154, 155, 156, 157, 158, 159, 160, 161, 10, 162, 163, 164, 165, 166, 167, 168, 169, 170, 171, 172, 173, 174, 175, 176, 177, 178, 179, 180, 181, 182, 183, 184, 185, 186, 187, 188, 189, 190, 191, 192, 193, 194, 195, 196, 197, 198, 199, 200, 201, 202, 203, 204, 205, 206, 207, 208, 209, 210, 211, 212, 213, 214, 215, 216, 217, 218, 219, 220, 221, 222, 223, 224, 225, 226, 227, 228, 229, 230, 231, 232, 233, 234, 235, 236, 237, 238, 239, 240, 241, 242, 243, 244, 245, 246, 247, 248, 249, 250, 251, 252, 253, 254, 255, 256, 257, 258, 259, 260, 261, 262, 263, 264, 265, 266, 267, 268, 269, 270, 271, 272, 273, 274, 275, 276, 277, 278, 279, 280, 281, 282, 283, 284, 285, 286, 287, 288, 289, 290, 291, 292, 293, 294, 295, 296, 297, 298, 299, 300, 301, 302, 303, 304, 305, 306, 307, 308, 309, 310, 311, 312, 313, 314, 315, 316, 317, 318, 319, 320, 321, 322, 323, 324, 325, 326, 327, 328, 329, 330, 331, 332, 333, 334, 335, 336, 337, 338, 339, 340, 341, 342, 343, 344, 345, 346, 347, 348, 349, 350, 351, 352, 353, 354, 355, 356, 357, 358, 359, 360, 361, 362, 363, 364, 365, 366, 367, 368, 369, 370, 371, 372, 373, 374, 375, 376, 377, 378, 379, 380, 381, 382, 383, 384, 385, 386, 387, 388, 389, 390, 391, 392, 393, 394, 395, 396, 397, 398, 399, 400, 401, 402, 403, 404, 405, 406, 407, 408, 409, 410, 411, 412, 413, 414, 415, 416, 417, 418, 419, 420, 421, 422, 423, 424, 425, 426, 427, 428, 429, 430, 431, 432, 433] rfl (by decide +kernel)
set_option maxRecDepth 20000 in
theorem gJx40b00_appendTo_8d9f2_Jx40b00_appendDecimalTo_8d9f2 : GoodIn wsJx40b00_appendTo_8d9f2 (wsV RJx40b00 20 RJx40b00 yJx40b00_appendDecimalTo_8d9f2 wsJx40b00_appendDecimalTo_8d9f2) := goodIn_app (goodIn_of _ (by decide +kernel)) ggJx40b00_appendTo_8d9f2_Jx40b00_appendDecimalTo_8d9f2
theorem dJx40b00_appendTo_8d9f2_0 : decode cJx40b00_appendTo_8d9f2 0 = .ok (.new 3, 3) := by decide +kernel
theorem dJx40b00_appendTo_8d9f2_3 : decode cJx40b00_appendTo_8d9f2 3 = .ok (.dup, 1) := by decide +kernel
theorem dJx40b00_appendTo_8d9f2_4 : decode cJx40b00_appendTo_8d9f2 4 = .ok (.invokespecial 15, 3) := by decide +kernel
theorem dJx40b00_appendTo_8d9f2_7 : decode cJx40b00_appendTo_8d9f2 7 = .ok (.fload_n 0, 1) := by decide +kernel
theorem dJx40b00_appendTo_8d9f2_8 : decode cJx40b00_appendTo_8d9f2 8 = .ok (.aload_n 1, 1) := by decide +kernel
theorem dJx40b00_appendTo_8d9f2_9 : decode cJx40b00_appendTo_8d9f2 9 = .ok (.invokevirtual 20, 3) := by decide +kernel
theorem dJx40b00_appendTo_8d9f2_12 : decode cJx40b00_appendTo_8d9f2 12 = .ok (.areturn, 1) := by decide +kernel
set_option maxRecDepth 20000 in
theorem ggJx40b00_appendDecimalTo_8d9f2_Jx40b00_toDecimal_5c35a : GoodIn wsJx40b00_appendDecimalTo_8d9f2 wsJx40b00_toDecimal_5c35a := goodIn_r _ [10, 11, 12, 13, 14, 15, 1, 16, 17, 18, 19, 9, 20, 3, 21, 22, 23, 24, 25, 26, 27, 28, 29, 30, 31, 32, 33, 34, 35, 36, 37, 38, 39, 40, 41, 42, 43, 44, 45, 46, 47, 48, 49, 50, 51, 52, 53, 54, 55, 56, 57, 58, 59, 60, 61, 62, 63, 64, 65, 66, 67, 68, 69, 70, 71, 72, 73, 74, 75, 76, 77, 78, 79, 80, 81, 82, 83, 84, 85, 86, 87, 88, 89, 90, 91, 92, 93, 94, 95, 96, 97, 98, 99, 100, 101, 412, 413] rfl (by decide +kernel)
set_option maxRecDepth 20000 in
theorem gJx40b00_appendDecimalTo_8d9f2_Jx40b00_toDecimal_5c35a : GoodIn wsJx40b00_appendDecimalTo_8d9f2 (wsV RJx40b00 24 RJx40b00 yJx40b00_toDecimal_5c35a wsJx40b00_toDecimal_5c35a) := goodIn_app (goodIn_of _ (by decide +kernel)) ggJx40b00_appendDecimalTo_8d9f2_Jx40b00_toDecimal_5c35a
set_option maxRecDepth 20000 in
theorem ggJx40b00_appendDecimalTo_8d9f2_J4_append_37e8c : GoodIn wsJx40b00_appendDecimalTo_8d9f2 wsJ4_append_37e8c := goodIn_r _ [106, 107, 108, 109, 110, 111, 112, 113, 114, 115, 116, 117, 118, 119, 120, 121, 122, 123, 124, 125, 126, 127, 128, 129, 130, 131, 132, 133, 134, 135, 136, 137, 138, 139, 140, 141, 142, 143, 144, 145, 146, 147, 148, 149, 150, 151, 152, 153, 154, 155, 156, 157, 158, 159, 160, 161, 162, 163, 164, 165, 166, 167, 168, 169, 170, 171, 172, 173, 174, 175, 176, 177, 178, 179, 180, 181, 182, 183, 184, 185, 186, 187, 188, 189, 190, 191, 192, 193, 194, 195, 196, 197, 198, 199, 200, 201, 202, 203, 204, 205, 206, 207, 208, 209, 210, 211, 212, 213, 214, 215, 216, 217, 218, 219, 220, 221, 222, 223, 224, 225, 226, 414, 415, 416, 417] rfl (by decide +kernel)
set_option maxRecDepth 20000 in
theorem gJx40b00_appendDecimalTo_8d9f2_J4_append_37e8c : GoodIn wsJx40b00_appendDecimalTo_8d9f2 (wsV RJx40b00 48 RJ4 yJ4_append_37e8c wsJ4_append_37e8c) := goodIn_app (goodIn_of _ (by decide +kernel)) ggJx40b00_appendDecimalTo_8d9f2_J4_append_37e8c
set_option maxRecDepth 20000 in
theorem ggJx40b00_appendDecimalTo_8d9f2_J4_append_b3078 : GoodIn wsJx40b00_appendDecimalTo_8d9f2 wsJ4_append_b3078 := goodIn_r _ [230, 231, 232, 233, 105, 234, 235, 236, 109, 237, 111, 238, 113, 119, 114, 115, 116, 117, 118, 120, 121, 122, 123, 124, 125, 126, 127, 128, 129, 130, 131, 132, 133, 134, 135, 136, 137, 138, 139, 140, 141, 142, 143, 144, 145, 146, 147, 148, 149, 150, 151, 152, 153, 154, 155, 156, 162, 163, 164, 165, 166, 167, 168, 169, 170, 171, 172, 173, 174, 175, 176, 177, 178, 179, 180, 181, 182, 183, 184, 185, 186, 187, 188, 189, 190, 191, 192, 193, 194, 195, 196, 197, 198, 199, 200, 201, 202, 203, 204, 205, 206, 207, 208, 209, 210, 211, 239, 240, 241, 242, 243, 244, 245, 246, 247, 248, 249, 250, 414, 415, 416, 417] rfl (by decide +kernel)
set_option maxRecDepth 20000 in
theorem gJx40b00_appendDecimalTo_8d9f2_J4_append_b3078_f57J4 : GoodIn wsJx40b00_appendDecimalTo_8d9f2 (va_wsF RJx40b00 57 RJ4 ⟨"java/lang/Appendable", "append", "(C)Ljava/lang/Appendable;"⟩ yJ4_append_b3078 wsJ4_append_b3078) := goodIn_app (goodIn_of _ (by decide +kernel)) ggJx40b00_appendDecimalTo_8d9f2_J4_append_b3078
set_option maxRecDepth 20000 in
theorem ggJx40b00_appendDecimalTo_8d9f2_J4_append_996db : GoodIn wsJx40b00_appendDecimalTo_8d9f2 wsJ4_append_996db := goodIn_r _ [254, 255, 256, 257, 105, 258, 259, 260, 109, 261, 111, 262, 263, 264, 265, 266, 267, 268, 269, 113, 119, 114, 115, 116, 117, 118, 120, 121, 122, 123, 124, 125, 126, 127, 128, 129, 130, 131, 132, 133, 134, 135, 136, 137, 138, 139, 140, 141, 142, 143, 144, 145, 146, 147, 148, 149, 150, 151, 152, 153, 154, 155, 156, 162, 163, 164, 165, 166, 167, 270, 271, 179, 272, 209, 215, 216, 217, 194, 195, 196, 218, 219, 199, 220, 201, 221, 222, 204, 223, 206, 207, 208, 210, 211, 273, 274, 275, 276, 277, 278, 279, 280, 281, 282, 283, 284, 285, 286, 287, 288, 289, 290, 291, 292, 293, 294, 295, 296, 297, 298, 299, 300, 301, 302, 303, 304, 305, 306, 307, 172, 173, 174, 175, 176, 177, 178, 180, 181, 182, 183, 184, 185, 186, 170, 187, 188, 189, 190, 191, 192, 193, 197, 198, 200, 202, 203, 205, 308, 309, 310, 311, 312, 313, 314, 315, 316, 317, 318, 319, 320, 321, 322, 323, 324, 325, 326, 327, 328, 329, 330, 331, 332, 333, 334, 335, 336, 337, 338, 339, 340, 341, 342, 343, 344, 345, 346, 347, 348, 349, 350, 351, 352, 353, 354, 355, 356, 357, 358, 359, 360, 361, 362, 363, 364, 365, 366, 367, 368, 369, 370, 371, 372, 373, 374, 375, 376, 377, 378, 379, 380, 381, 382, 383, 384, 246, 247, 248, 249, 250, 385, 386, 387, 242, 243, 244, 245, 388, 389, 390, 168, 169, 171, 391, 392, 393, 394, 395, 396, 397, 398, 399, 400, 401, 402, 403, 404, 405, 406, 407, 408, 409, 410, 411, 239, 240, 241, 414, 415, 416, 417, 418, 419, 420, 421] rfl (by decide +kernel)
set_option maxRecDepth 20000 in
theorem gJx40b00_appendDecimalTo_8d9f2_J4_append_996db_f62J4 : GoodIn wsJx40b00_appendDecimalTo_8d9f2 (va_wsF RJx40b00 62 RJ4 ⟨"java/lang/Appendable", "append", "(Ljava/lang/CharSequence;)Ljava/lang/Appendable;"⟩ yJ4_append_996db wsJ4_append_996db) := goodIn_app (goodIn_of _ (by decide +kernel)) ggJx40b00_appendDecimalTo_8d9f2_J4_append_996db
theorem dJx40b00_appendDecimalTo_8d9f2_0 : decode cJx40b00_appendDecimalTo_8d9f2 0 = .ok (.aload_n 0, 1) := by decide +kernel
theorem dJx40b00_appendDecimalTo_8d9f2_1 : decode cJx40b00_appendDecimalTo_8d9f2 1 = .ok (.fload_n 1, 1) := by decide +kernel
theorem dJx40b00_appendDecimalTo_8d9f2_2 : decode cJx40b00_appendDecimalTo_8d9f2 2 = .ok (.invokevirtual 24, 3) := by decide +kernel
theorem dJx40b00_appendDecimalTo_8d9f2_5 : decode cJx40b00_appendDecimalTo_8d9f2 5 = .ok (.tableswitch 190 0 4 #[35, 154, 163, 172, 181], 35) := by decide +kernel
theorem dJx40b00_appendDecimalTo_8d9f2_40 : decode cJx40b00_appendDecimalTo_8d9f2 40 = .ok (.aload_n 0, 1) := by decide +kernel
theorem dJx40b00_appendDecimalTo_8d9f2_41 : decode cJx40b00_appendDecimalTo_8d9f2 41 = .ok (.getfield 42, 3) := by decide +kernel
theorem dJx40b00_appendDecimalTo_8d9f2_44 : decode cJx40b00_appendDecimalTo_8d9f2 44 = .ok (.iconst 1, 1) := by decide +kernel
theorem dJx40b00_appendDecimalTo_8d9f2_45 : decode cJx40b00_appendDecimalTo_8d9f2 45 = .ok (.iadd, 1) := by decide +kernel
theorem dJx40b00_appendDecimalTo_8d9f2_46 : decode cJx40b00_appendDecimalTo_8d9f2 46 = .ok (.newarray .char, 2) := by decide +kernel
theorem dJx40b00_appendDecimalTo_8d9f2_48 : decode cJx40b00_appendDecimalTo_8d9f2 48 = .ok (.astore_n 3, 1) := by decide +kernel
theorem dJx40b00_appendDecimalTo_8d9f2_49 : decode cJx40b00_appendDecimalTo_8d9f2 49 = .ok (.iconst 0, 1) := by decide +kernel
theorem dJx40b00_appendDecimalTo_8d9f2_50 : decode cJx40b00_appendDecimalTo_8d9f2 50 = .ok (.istore 4, 2) := by decide +kernel
theorem dJx40b00_appendDecimalTo_8d9f2_52 : decode cJx40b00_appendDecimalTo_8d9f2 52 = .ok (.iload 4, 2) := by decide +kernel
theorem dJx40b00_appendDecimalTo_8d9f2_54 : decode cJx40b00_appendDecimalTo_8d9f2 54 = .ok (.aload_n 3, 1) := by decide +kernel
theorem dJx40b00_appendDecimalTo_8d9f2_55 : decode cJx40b00_appendDecimalTo_8d9f2 55 = .ok (.arraylength, 1) := by decide +kernel
theorem dJx40b00_appendDecimalTo_8d9f2_56 : decode cJx40b00_appendDecimalTo_8d9f2 56 = .ok (.if_icmp .ge 21, 3) := by decide +kernel
theorem dJx40b00_appendDecimalTo_8d9f2_59 : decode cJx40b00_appendDecimalTo_8d9f2 59 = .ok (.aload_n 3, 1) := by decide +kernel
theorem dJx40b00_appendDecimalTo_8d9f2_60 : decode cJx40b00_appendDecimalTo_8d9f2 60 = .ok (.iload 4, 2) := by decide +kernel
theorem dJx40b00_appendDecimalTo_8d9f2_62 : decode cJx40b00_appendDecimalTo_8d9f2 62 = .ok (.aload_n 0, 1) := by decide +kernel
theorem dJx40b00_appendDecimalTo_8d9f2_63 : decode cJx40b00_appendDecimalTo_8d9f2 63 = .ok (.getfield 11, 3) := by decide +kernel
theorem dJx40b00_appendDecimalTo_8d9f2_66 : decode cJx40b00_appendDecimalTo_8d9f2 66 = .ok (.iload 4, 2) := by decide +kernel
theorem dJx40b00_appendDecimalTo_8d9f2_68 : decode cJx40b00_appendDecimalTo_8d9f2 68 = .ok (.baload, 1) := by decide +kernel
theorem dJx40b00_appendDecimalTo_8d9f2_69 : decode cJx40b00_appendDecimalTo_8d9f2 69 = .ok (.i2c, 1) := by decide +kernel
theorem dJx40b00_appendDecimalTo_8d9f2_70 : decode cJx40b00_appendDecimalTo_8d9f2 70 = .ok (.castore, 1) := by decide +kernel
theorem dJx40b00_appendDecimalTo_8d9f2_71 : decode cJx40b00_appendDecimalTo_8d9f2 71 = .ok (.iinc 4 1, 3) := by decide +kernel
theorem dJx40b00_appendDecimalTo_8d9f2_74 : decode cJx40b00_appendDecimalTo_8d9f2 74 = .ok (.goto (-22), 3) := by decide +kernel
theorem dJx40b00_appendDecimalTo_8d9f2_77 : decode cJx40b00_appendDecimalTo_8d9f2 77 = .ok (.aload_n 2, 1) := by decide +kernel
theorem dJx40b00_appendDecimalTo_8d9f2_78 : decode cJx40b00_appendDecimalTo_8d9f2 78 = .ok (.instanceof 46, 3) := by decide +kernel
theorem dJx40b00_appendDecimalTo_8d9f2_81 : decode cJx40b00_appendDecimalTo_8d9f2 81 = .ok (.ifCond .eq 16, 3) := by decide +kernel
theorem dJx40b00_appendDecimalTo_8d9f2_84 : decode cJx40b00_appendDecimalTo_8d9f2 84 = .ok (.aload_n 2, 1) := by decide +kernel
theorem dJx40b00_appendDecimalTo_8d9f2_85 : decode cJx40b00_appendDecimalTo_8d9f2 85 = .ok (.checkcast 46, 3) := by decide +kernel
theorem dJx40b00_appendDecimalTo_8d9f2_88 : decode cJx40b00_appendDecimalTo_8d9f2 88 = .ok (.astore 4, 2) := by decide +kernel
theorem dJx40b00_appendDecimalTo_8d9f2_90 : decode cJx40b00_appendDecimalTo_8d9f2 90 = .ok (.aload 4, 2) := by decide +kernel
theorem dJx40b00_appendDecimalTo_8d9f2_92 : decode cJx40b00_appendDecimalTo_8d9f2 92 = .ok (.aload_n 3, 1) := by decide +kernel
theorem dJx40b00_appendDecimalTo_8d9f2_93 : decode cJx40b00_appendDecimalTo_8d9f2 93 = .ok (.invokevirtual 48, 3) := by decide +kernel
theorem dJx40b00_appendDecimalTo_8d9f2_96 : decode cJx40b00_appendDecimalTo_8d9f2 96 = .ok (.areturn, 1) := by decide +kernel
theorem dJx40b00_appendDecimalTo_8d9f2_97 : decode cJx40b00_appendDecimalTo_8d9f2 97 = .ok (.aload_n 2, 1) := by decide +kernel
theorem dJx40b00_appendDecimalTo_8d9f2_98 : decode cJx40b00_appendDecimalTo_8d9f2 98 = .ok (.instanceof 52, 3) := by decide +kernel
theorem dJx40b00_appendDecimalTo_8d9f2_101 : decode cJx40b00_appendDecimalTo_8d9f2 101 = .ok (.ifCond .eq 16, 3) := by decide +kernel
theorem dJx40b00_appendDecimalTo_8d9f2_104 : decode cJx40b00_appendDecimalTo_8d9f2 104 = .ok (.aload_n 2, 1) := by decide +kernel
theorem dJx40b00_appendDecimalTo_8d9f2_105 : decode cJx40b00_appendDecimalTo_8d9f2 105 = .ok (.checkcast 52, 3) := by decide +kernel
theorem dJx40b00_appendDecimalTo_8d9f2_108 : decode cJx40b00_appendDecimalTo_8d9f2 108 = .ok (.astore 4, 2) := by decide +kernel
theorem dJx40b00_appendDecimalTo_8d9f2_110 : decode cJx40b00_appendDecimalTo_8d9f2 110 = .ok (.aload 4, 2) := by decide +kernel
theorem dJx40b00_appendDecimalTo_8d9f2_112 : decode cJx40b00_appendDecimalTo_8d9f2 112 = .ok (.aload_n 3, 1) := by decide +kernel
theorem dJx40b00_appendDecimalTo_8d9f2_113 : decode cJx40b00_appendDecimalTo_8d9f2 113 = .ok (.invokevirtual 54, 3) := by decide +kernel
theorem dJx40b00_appendDecimalTo_8d9f2_116 : decode cJx40b00_appendDecimalTo_8d9f2 116 = .ok (.areturn, 1) := by decide +kernel
theorem dJx40b00_appendDecimalTo_8d9f2_117 : decode cJx40b00_appendDecimalTo_8d9f2 117 = .ok (.aload_n 3, 1) := by decide +kernel
theorem dJx40b00_appendDecimalTo_8d9f2_118 : decode cJx40b00_appendDecimalTo_8d9f2 118 = .ok (.astore 4, 2) := by decide +kernel
theorem dJx40b00_appendDecimalTo_8d9f2_120 : decode cJx40b00_appendDecimalTo_8d9f2 120 = .ok (.aload 4, 2) := by decide +kernel
theorem dJx40b00_appendDecimalTo_8d9f2_122 : decode cJx40b00_appendDecimalTo_8d9f2 122 = .ok (.arraylength, 1) := by decide +kernel
theorem dJx40b00_appendDecimalTo_8d9f2_123 : decode cJx40b00_appendDecimalTo_8d9f2 123 = .ok (.istore 5, 2) := by decide +kernel
theorem dJx40b00_appendDecimalTo_8d9f2_125 : decode cJx40b00_appendDecimalTo_8d9f2 125 = .ok (.iconst 0, 1) := by decide +kernel
theorem dJx40b00_appendDecimalTo_8d9f2_126 : decode cJx40b00_appendDecimalTo_8d9f2 126 = .ok (.istore 6, 2) := by decide +kernel
theorem dJx40b00_appendDecimalTo_8d9f2_128 : decode cJx40b00_appendDecimalTo_8d9f2 128 = .ok (.iload 6, 2) := by decide +kernel
theorem dJx40b00_appendDecimalTo_8d9f2_130 : decode cJx40b00_appendDecimalTo_8d9f2 130 = .ok (.iload 5, 2) := by decide +kernel
theorem dJx40b00_appendDecimalTo_8d9f2_132 : decode cJx40b00_appendDecimalTo_8d9f2 132 = .ok (.if_icmp .ge 25, 3) := by decide +kernel
theorem dJx40b00_appendDecimalTo_8d9f2_135 : decode cJx40b00_appendDecimalTo_8d9f2 135 = .ok (.aload 4, 2) := by decide +kernel
theorem dJx40b00_appendDecimalTo_8d9f2_137 : decode cJx40b00_appendDecimalTo_8d9f2 137 = .ok (.iload 6, 2) := by decide +kernel
theorem dJx40b00_appendDecimalTo_8d9f2_139 : decode cJx40b00_appendDecimalTo_8d9f2 139 = .ok (.caload, 1) := by decide +kernel
theorem dJx40b00_appendDecimalTo_8d9f2_140 : decode cJx40b00_appendDecimalTo_8d9f2 140 = .ok (.istore 7, 2) := by decide +kernel
theorem dJx40b00_appendDecimalTo_8d9f2_142 : decode cJx40b00_appendDecimalTo_8d9f2 142 = .ok (.aload_n 2, 1) := by decide +kernel
theorem dJx40b00_appendDecimalTo_8d9f2_143 : decode cJx40b00_appendDecimalTo_8d9f2 143 = .ok (.iload 7, 2) := by decide +kernel
theorem dJx40b00_appendDecimalTo_8d9f2_145 : decode cJx40b00_appendDecimalTo_8d9f2 145 = .ok (.invokeinterface 57 2, 5) := by decide +kernel
theorem dJx40b00_appendDecimalTo_8d9f2_150 : decode cJx40b00_appendDecimalTo_8d9f2 150 = .ok (.pop, 1) := by decide +kernel
theorem dJx40b00_appendDecimalTo_8d9f2_151 : decode cJx40b00_appendDecimalTo_8d9f2 151 = .ok (.iinc 6 1, 3) := by decide +kernel
theorem dJx40b00_appendDecimalTo_8d9f2_154 : decode cJx40b00_appendDecimalTo_8d9f2 154 = .ok (.goto (-26), 3) := by decide +kernel
theorem dJx40b00_appendDecimalTo_8d9f2_157 : decode cJx40b00_appendDecimalTo_8d9f2 157 = .ok (.aload_n 2, 1) := by decide +kernel
theorem dJx40b00_appendDecimalTo_8d9f2_158 : decode cJx40b00_appendDecimalTo_8d9f2 158 = .ok (.areturn, 1) := by decide +kernel
theorem dJx40b00_appendDecimalTo_8d9f2_159 : decode cJx40b00_appendDecimalTo_8d9f2 159 = .ok (.aload_n 2, 1) := by decide +kernel
theorem dJx40b00_appendDecimalTo_8d9f2_160 : decode cJx40b00_appendDecimalTo_8d9f2 160 = .ok (.ldc 32, 2) := by decide +kernel
theorem dJx40b00_appendDecimalTo_8d9f2_162 : decode cJx40b00_appendDecimalTo_8d9f2 162 = .ok (.invokeinterface 62 2, 5) := by decide +kernel
theorem dJx40b00_appendDecimalTo_8d9f2_167 : decode cJx40b00_appendDecimalTo_8d9f2 167 = .ok (.areturn, 1) := by decide +kernel
theorem dJx40b00_appendDecimalTo_8d9f2_168 : decode cJx40b00_appendDecimalTo_8d9f2 168 = .ok (.aload_n 2, 1) := by decide +kernel
theorem dJx40b00_appendDecimalTo_8d9f2_169 : decode cJx40b00_appendDecimalTo_8d9f2 169 = .ok (.ldc 34, 2) := by decide +kernel
theorem dJx40b00_appendDecimalTo_8d9f2_171 : decode cJx40b00_appendDecimalTo_8d9f2 171 = .ok (.invokeinterface 62 2, 5) := by decide +kernel
theorem dJx40b00_appendDecimalTo_8d9f2_176 : decode cJx40b00_appendDecimalTo_8d9f2 176 = .ok (.areturn, 1) := by decide +kernel
theorem dJx40b00_appendDecimalTo_8d9f2_177 : decode cJx40b00_appendDecimalTo_8d9f2 177 = .ok (.aload_n 2, 1) := by decide +kernel
theorem dJx40b00_appendDecimalTo_8d9f2_178 : decode cJx40b00_appendDecimalTo_8d9f2 178 = .ok (.ldc 36, 2) := by decide +kernel
theorem dJx40b00_appendDecimalTo_8d9f2_180 : decode cJx40b00_appendDecimalTo_8d9f2 180 = .ok (.invokeinterface 62 2, 5) := by decide +kernel
theorem dJx40b00_appendDecimalTo_8d9f2_185 : decode cJx40b00_appendDecimalTo_8d9f2 185 = .ok (.areturn, 1) := by decide +kernel
theorem dJx40b00_appendDecimalTo_8d9f2_186 : decode cJx40b00_appendDecimalTo_8d9f2 186 = .ok (.aload_n 2, 1) := by decide +kernel
theorem dJx40b00_appendDecimalTo_8d9f2_187 : decode cJx40b00_appendDecimalTo_8d9f2 187 = .ok (.ldc 38, 2) := by decide +kernel
theorem dJx40b00_appendDecimalTo_8d9f2_189 : decode cJx40b00_appendDecimalTo_8d9f2 189 = .ok (.invokeinterface 62 2, 5) := by decide +kernel
theorem dJx40b00_appendDecimalTo_8d9f2_194 : decode cJx40b00_appendDecimalTo_8d9f2 194 = .ok (.areturn, 1) := by decide +kernel
theorem dJx40b00_appendDecimalTo_8d9f2_195 : decode cJx40b00_appendDecimalTo_8d9f2 195 = .ok (.aload_n 2, 1) := by decide +kernel
theorem dJx40b00_appendDecimalTo_8d9f2_196 : decode cJx40b00_appendDecimalTo_8d9f2 196 = .ok (.ldc 40, 2) := by decide +kernel
theorem dJx40b00_appendDecimalTo_8d9f2_198 : decode cJx40b00_appendDecimalTo_8d9f2 198 = .ok (.invokeinterface 62 2, 5) := by decide +kernel
theorem dJx40b00_appendDecimalTo_8d9f2_203 : decode cJx40b00_appendDecimalTo_8d9f2 203 = .ok (.areturn, 1) := by decide +kernel
set_option maxRecDepth 20000 in
theorem ggJx40b00_toDecimal_5c35a_Jx40b00_append_d00df : GoodIn wsJx40b00_toDecimal_5c35a wsJx40b00_append_d00df := goodIn_r _ [12, 13, 6, 95, 96] rfl (by decide +kernel)
set_option maxRecDepth 20000 in
theorem gJx40b00_toDecimal_5c35a_Jx40b00_append_d00df : GoodIn wsJx40b00_toDecimal_5c35a (wsV RJx40b00 69 RJx40b00 yJx40b00_append_d00df wsJx40b00_append_d00df) := goodIn_app (goodIn_of _ (by decide +kernel)) ggJx40b00_toDecimal_5c35a_Jx40b00_append_d00df
set_option maxRecDepth 20000 in
theorem ggJx40b00_toDecimal_5c35a_Jx40b00_toChars_7cf53 : GoodIn wsJx40b00_toDecimal_5c35a wsJx40b00_toChars_7cf53 := goodIn_r _ [17, 18, 19, 20, 21, 22, 23, 24, 25, 26, 27, 28, 29, 30, 31, 32, 33, 34, 35, 36, 11, 37, 38, 39, 40, 41, 42, 13, 6, 43, 44, 45, 46, 47, 48, 49, 50, 51, 52, 8, 9, 10, 12, 53, 54, 55, 56, 57, 58, 59, 60, 61, 62, 63, 64, 65, 66, 67, 68, 69, 70, 71, 72, 95, 96] rfl (by decide +kernel)
set_option maxRecDepth 20000 in
theorem gJx40b00_toDecimal_5c35a_Jx40b00_toChars_7cf53 : GoodIn wsJx40b00_toDecimal_5c35a (wsV RJx40b00 73 RJx40b00 yJx40b00_toChars_7cf53 wsJx40b00_toChars_7cf53) := goodIn_app (goodIn_of _ (by decide +kernel)) ggJx40b00_toDecimal_5c35a_Jx40b00_toChars_7cf53
set_option maxRecDepth 20000 in
theorem ggJx40b00_toDecimal_5c35a_Jx40b00_toDecimal_cabcc : GoodIn wsJx40b00_toDecimal_5c35a wsJx40b00_toDecimal_cabcc := goodIn_r _ [76, 77, 7, 78, 25, 26, 27, 28, 29, 79, 80, 81, 82, 83, 84, 85, 86, 87, 88, 89, 90, 91, 92, 11, 93, 94, 48, 49, 50, 51, 52, 14, 15, 16, 17, 18, 19, 20, 21, 22, 23, 24, 30, 31, 32, 33, 34, 35, 36, 37, 38, 39, 40, 41, 42, 13, 6, 43, 44, 45, 46, 47, 8, 9, 10, 12, 53, 54, 55, 56, 57, 58, 59, 60, 61, 62, 63, 64, 65, 66, 67, 68, 69, 70, 71, 72, 95, 96] rfl (by decide +kernel)
set_option maxRecDepth 20000 in
theorem gJx40b00_toDecimal_5c35a_Jx40b00_toDecimal_cabcc : GoodIn wsJx40b00_toDecimal_5c35a (wsV RJx40b00 77 RJx40b00 yJx40b00_toDecimal_cabcc wsJx40b00_toDecimal_cabcc) := goodIn_app (goodIn_of _ (by decide +kernel)) ggJx40b00_toDecimal_5c35a_Jx40b00_toDecimal_cabcc
theorem dJx40b00_toDecimal_5c35a_0 : decode cJx40b00_toDecimal_5c35a 0 = .ok (.fload_n 1, 1) := by decide +kernel
theorem dJx40b00_toDecimal_5c35a_1 : decode cJx40b00_toDecimal_5c35a 1 = .ok (.invokestatic 65, 3) := by decide +kernel
theorem dJx40b00_toDecimal_5c35a_4 : decode cJx40b00_toDecimal_5c35a 4 = .ok (.istore_n 2, 1) := by decide +kernel
theorem dJx40b00_toDecimal_5c35a_5 : decode cJx40b00_toDecimal_5c35a 5 = .ok (.iload_n 2, 1) := by decide +kernel
theorem dJx40b00_toDecimal_5c35a_6 : decode cJx40b00_toDecimal_5c35a 6 = .ok (.ldc 68, 2) := by decide +kernel
theorem dJx40b00_toDecimal_5c35a_8 : decode cJx40b00_toDecimal_5c35a 8 = .ok (.iand, 1) := by decide +kernel
theorem dJx40b00_toDecimal_5c35a_9 : decode cJx40b00_toDecimal_5c35a 9 = .ok (.istore_n 3, 1) := by decide +kernel
theorem dJx40b00_toDecimal_5c35a_10 : decode cJx40b00_toDecimal_5c35a 10 = .ok (.iload_n 2, 1) := by decide +kernel
theorem dJx40b00_toDecimal_5c35a_11 : decode cJx40b00_toDecimal_5c35a 11 = .ok (.bipush 23, 2) := by decide +kernel
theorem dJx40b00_toDecimal_5c35a_13 : decode cJx40b00_toDecimal_5c35a 13 = .ok (.iushr, 1) := by decide +kernel
theorem dJx40b00_toDecimal_5c35a_14 : decode cJx40b00_toDecimal_5c35a 14 = .ok (.sipush 255, 3) := by decide +kernel
theorem dJx40b00_toDecimal_5c35a_17 : decode cJx40b00_toDecimal_5c35a 17 = .ok (.iand, 1) := by decide +kernel
theorem dJx40b00_toDecimal_5c35a_18 : decode cJx40b00_toDecimal_5c35a 18 = .ok (.istore 4, 2) := by decide +kernel
theorem dJx40b00_toDecimal_5c35a_20 : decode cJx40b00_toDecimal_5c35a 20 = .ok (.iload 4, 2) := by decide +kernel
theorem dJx40b00_toDecimal_5c35a_22 : decode cJx40b00_toDecimal_5c35a 22 = .ok (.sipush 255, 3) := by decide +kernel
theorem dJx40b00_toDecimal_5c35a_25 : decode cJx40b00_toDecimal_5c35a 25 = .ok (.if_icmp .ge 145, 3) := by decide +kernel
theorem dJx40b00_toDecimal_5c35a_28 : decode cJx40b00_toDecimal_5c35a 28 = .ok (.aload_n 0, 1) := by decide +kernel
theorem dJx40b00_toDecimal_5c35a_29 : decode cJx40b00_toDecimal_5c35a 29 = .ok (.iconst (-1), 1) := by decide +kernel
theorem dJx40b00_toDecimal_5c35a_30 : decode cJx40b00_toDecimal_5c35a 30 = .ok (.putfield 42, 3) := by decide +kernel
theorem dJx40b00_toDecimal_5c35a_33 : decode cJx40b00_toDecimal_5c35a 33 = .ok (.iload_n 2, 1) := by decide +kernel
theorem dJx40b00_toDecimal_5c35a_34 : decode cJx40b00_toDecimal_5c35a 34 = .ok (.ifCond .ge 9, 3) := by decide +kernel
theorem dJx40b00_toDecimal_5c35a_37 : decode cJx40b00_toDecimal_5c35a 37 = .ok (.aload_n 0, 1) := by decide +kernel
theorem dJx40b00_toDecimal_5c35a_38 : decode cJx40b00_toDecimal_5c35a 38 = .ok (.bipush 45, 2) := by decide +kernel
theorem dJx40b00_toDecimal_5c35a_40 : decode cJx40b00_toDecimal_5c35a 40 = .ok (.invokevirtual 69, 3) := by decide +kernel
theorem dJx40b00_toDecimal_5c35a_43 : decode cJx40b00_toDecimal_5c35a 43 = .ok (.iload 4, 2) := by decide +kernel
theorem dJx40b00_toDecimal_5c35a_45 : decode cJx40b00_toDecimal_5c35a 45 = .ok (.ifCond .eq 80, 3) := by decide +kernel
theorem dJx40b00_toDecimal_5c35a_48 : decode cJx40b00_toDecimal_5c35a 48 = .ok (.sipush 150, 3) := by decide +kernel
theorem dJx40b00_toDecimal_5c35a_51 : decode cJx40b00_toDecimal_5c35a 51 = .ok (.iload 4, 2) := by decide +kernel
theorem dJx40b00_toDecimal_5c35a_53 : decode cJx40b00_toDecimal_5c35a 53 = .ok (.isub, 1) := by decide +kernel
theorem dJx40b00_toDecimal_5c35a_54 : decode cJx40b00_toDecimal_5c35a 54 = .ok (.istore 5, 2) := by decide +kernel
theorem dJx40b00_toDecimal_5c35a_56 : decode cJx40b00_toDecimal_5c35a 56 = .ok (.ldc 72, 2) := by decide +kernel
theorem dJx40b00_toDecimal_5c35a_58 : decode cJx40b00_toDecimal_5c35a 58 = .ok (.iload_n 3, 1) := by decide +kernel
theorem dJx40b00_toDecimal_5c35a_59 : decode cJx40b00_toDecimal_5c35a 59 = .ok (.ior, 1) := by decide +kernel
theorem dJx40b00_toDecimal_5c35a_60 : decode cJx40b00_toDecimal_5c35a 60 = .ok (.istore 6, 2) := by decide +kernel
theorem dJx40b00_toDecimal_5c35a_62 : decode cJx40b00_toDecimal_5c35a 62 = .ok (.iconst 0, 1) := by decide +kernel
theorem dJx40b00_toDecimal_5c35a_63 : decode cJx40b00_toDecimal_5c35a 63 = .ok (.iload 5, 2) := by decide +kernel
theorem dJx40b00_toDecimal_5c35a_65 : decode cJx40b00_toDecimal_5c35a 65 = .ok (.if_icmp .ge 7, 3) := by decide +kernel
theorem dJx40b00_toDecimal_5c35a_68 : decode cJx40b00_toDecimal_5c35a 68 = .ok (.iconst 1, 1) := by decide +kernel
theorem dJx40b00_toDecimal_5c35a_69 : decode cJx40b00_toDecimal_5c35a 69 = .ok (.goto 4, 3) := by decide +kernel
theorem dJx40b00_toDecimal_5c35a_72 : decode cJx40b00_toDecimal_5c35a 72 = .ok (.iconst 0, 1) := by decide +kernel
theorem dJx40b00_toDecimal_5c35a_73 : decode cJx40b00_toDecimal_5c35a 73 = .ok (.iload 5, 2) := by decide +kernel
theorem dJx40b00_toDecimal_5c35a_75 : decode cJx40b00_toDecimal_5c35a 75 = .ok (.bipush 24, 2) := by decide +kernel
theorem dJx40b00_toDecimal_5c35a_77 : decode cJx40b00_toDecimal_5c35a 77 = .ok (.if_icmp .ge 7, 3) := by decide +kernel
theorem dJx40b00_toDecimal_5c35a_80 : decode cJx40b00_toDecimal_5c35a 80 = .ok (.iconst 1, 1) := by decide +kernel
theorem dJx40b00_toDecimal_5c35a_81 : decode cJx40b00_toDecimal_5c35a 81 = .ok (.goto 4, 3) := by decide +kernel
theorem dJx40b00_toDecimal_5c35a_84 : decode cJx40b00_toDecimal_5c35a 84 = .ok (.iconst 0, 1) := by decide +kernel
theorem dJx40b00_toDecimal_5c35a_85 : decode cJx40b00_toDecimal_5c35a 85 = .ok (.iand, 1) := by decide +kernel
theorem dJx40b00_toDecimal_5c35a_86 : decode cJx40b00_toDecimal_5c35a 86 = .ok (.ifCond .eq 28, 3) := by decide +kernel
theorem dJx40b00_toDecimal_5c35a_89 : decode cJx40b00_toDecimal_5c35a 89 = .ok (.iload 6, 2) := by decide +kernel
theorem dJx40b00_toDecimal_5c35a_91 : decode cJx40b00_toDecimal_5c35a 91 = .ok (.iload 5, 2) := by decide +kernel
theorem dJx40b00_toDecimal_5c35a_93 : decode cJx40b00_toDecimal_5c35a 93 = .ok (.ishr, 1) := by decide +kernel
theorem dJx40b00_toDecimal_5c35a_94 : decode cJx40b00_toDecimal_5c35a 94 = .ok (.istore 7, 2) := by decide +kernel
theorem dJx40b00_toDecimal_5c35a_96 : decode cJx40b00_toDecimal_5c35a 96 = .ok (.iload 7, 2) := by decide +kernel
theorem dJx40b00_toDecimal_5c35a_98 : decode cJx40b00_toDecimal_5c35a 98 = .ok (.iload 5, 2) := by decide +kernel
theorem dJx40b00_toDecimal_5c35a_100 : decode cJx40b00_toDecimal_5c35a 100 = .ok (.ishl, 1) := by decide +kernel
theorem dJx40b00_toDecimal_5c35a_101 : decode cJx40b00_toDecimal_5c35a 101 = .ok (.iload 6, 2) := by decide +kernel
theorem dJx40b00_toDecimal_5c35a_103 : decode cJx40b00_toDecimal_5c35a 103 = .ok (.if_icmp .ne 11, 3) := by decide +kernel
theorem dJx40b00_toDecimal_5c35a_106 : decode cJx40b00_toDecimal_5c35a 106 = .ok (.aload_n 0, 1) := by decide +kernel
theorem dJx40b00_toDecimal_5c35a_107 : decode cJx40b00_toDecimal_5c35a 107 = .ok (.iload 7, 2) := by decide +kernel
theorem dJx40b00_toDecimal_5c35a_109 : decode cJx40b00_toDecimal_5c35a 109 = .ok (.iconst 0, 1) := by decide +kernel
theorem dJx40b00_toDecimal_5c35a_110 : decode cJx40b00_toDecimal_5c35a 110 = .ok (.invokevirtual 73, 3) := by decide +kernel
theorem dJx40b00_toDecimal_5c35a_113 : decode cJx40b00_toDecimal_5c35a 113 = .ok (.ireturn, 1) := by decide +kernel
theorem dJx40b00_toDecimal_5c35a_114 : decode cJx40b00_toDecimal_5c35a 114 = .ok (.aload_n 0, 1) := by decide +kernel
theorem dJx40b00_toDecimal_5c35a_115 : decode cJx40b00_toDecimal_5c35a 115 = .ok (.iload 5, 2) := by decide +kernel
theorem dJx40b00_toDecimal_5c35a_117 : decode cJx40b00_toDecimal_5c35a 117 = .ok (.ineg, 1) := by decide +kernel
theorem dJx40b00_toDecimal_5c35a_118 : decode cJx40b00_toDecimal_5c35a 118 = .ok (.iload 6, 2) := by decide +kernel
theorem dJx40b00_toDecimal_5c35a_120 : decode cJx40b00_toDecimal_5c35a 120 = .ok (.iconst 0, 1) := by decide +kernel
theorem dJx40b00_toDecimal_5c35a_121 : decode cJx40b00_toDecimal_5c35a 121 = .ok (.invokevirtual 77, 3) := by decide +kernel
theorem dJx40b00_toDecimal_5c35a_124 : decode cJx40b00_toDecimal_5c35a 124 = .ok (.ireturn, 1) := by decide +kernel
theorem dJx40b00_toDecimal_5c35a_125 : decode cJx40b00_toDecimal_5c35a 125 = .ok (.iload_n 3, 1) := by decide +kernel
theorem dJx40b00_toDecimal_5c35a_126 : decode cJx40b00_toDecimal_5c35a 126 = .ok (.ifCond .eq 34, 3) := by decide +kernel
theorem dJx40b00_toDecimal_5c35a_129 : decode cJx40b00_toDecimal_5c35a 129 = .ok (.iload_n 3, 1) := by decide +kernel
theorem dJx40b00_toDecimal_5c35a_130 : decode cJx40b00_toDecimal_5c35a 130 = .ok (.bipush 8, 2) := by decide +kernel
theorem dJx40b00_toDecimal_5c35a_132 : decode cJx40b00_toDecimal_5c35a 132 = .ok (.if_icmp .ge 18, 3) := by decide +kernel
theorem dJx40b00_toDecimal_5c35a_135 : decode cJx40b00_toDecimal_5c35a 135 = .ok (.aload_n 0, 1) := by decide +kernel
theorem dJx40b00_toDecimal_5c35a_136 : decode cJx40b00_toDecimal_5c35a 136 = .ok (.sipush (-149), 3) := by decide +kernel
theorem dJx40b00_toDecimal_5c35a_139 : decode cJx40b00_toDecimal_5c35a 139 = .ok (.bipush 10, 2) := by decide +kernel
theorem dJx40b00_toDecimal_5c35a_141 : decode cJx40b00_toDecimal_5c35a 141 = .ok (.iload_n 3, 1) := by decide +kernel
theorem dJx40b00_toDecimal_5c35a_142 : decode cJx40b00_toDecimal_5c35a 142 = .ok (.imul, 1) := by decide +kernel
theorem dJx40b00_toDecimal_5c35a_143 : decode cJx40b00_toDecimal_5c35a 143 = .ok (.iconst (-1), 1) := by decide +kernel
theorem dJx40b00_toDecimal_5c35a_144 : decode cJx40b00_toDecimal_5c35a 144 = .ok (.invokevirtual 77, 3) := by decide +kernel
theorem dJx40b00_toDecimal_5c35a_147 : decode cJx40b00_toDecimal_5c35a 147 = .ok (.goto 12, 3) := by decide +kernel
theorem dJx40b00_toDecimal_5c35a_150 : decode cJx40b00_toDecimal_5c35a 150 = .ok (.aload_n 0, 1) := by decide +kernel
theorem dJx40b00_toDecimal_5c35a_151 : decode cJx40b00_toDecimal_5c35a 151 = .ok (.sipush (-149), 3) := by decide +kernel
theorem dJx40b00_toDecimal_5c35a_154 : decode cJx40b00_toDecimal_5c35a 154 = .ok (.iload_n 3, 1) := by decide +kernel
theorem dJx40b00_toDecimal_5c35a_155 : decode cJx40b00_toDecimal_5c35a 155 = .ok (.iconst 0, 1) := by decide +kernel
theorem dJx40b00_toDecimal_5c35a_156 : decode cJx40b00_toDecimal_5c35a 156 = .ok (.invokevirtual 77, 3) := by decide +kernel
theorem dJx40b00_toDecimal_5c35a_159 : decode cJx40b00_toDecimal_5c35a 159 = .ok (.ireturn, 1) := by decide +kernel
theorem dJx40b00_toDecimal_5c35a_160 : decode cJx40b00_toDecimal_5c35a 160 = .ok (.iload_n 2, 1) := by decide +kernel
theorem dJx40b00_toDecimal_5c35a_161 : decode cJx40b00_toDecimal_5c35a 161 = .ok (.ifCond .ne 7, 3) := by decide +kernel
theorem dJx40b00_toDecimal_5c35a_164 : decode cJx40b00_toDecimal_5c35a 164 = .ok (.iconst 1, 1) := by decide +kernel
theorem dJx40b00_toDecimal_5c35a_165 : decode cJx40b00_toDecimal_5c35a 165 = .ok (.goto 4, 3) := by decide +kernel
theorem dJx40b00_toDecimal_5c35a_168 : decode cJx40b00_toDecimal_5c35a 168 = .ok (.iconst 2, 1) := by decide +kernel
theorem dJx40b00_toDecimal_5c35a_169 : decode cJx40b00_toDecimal_5c35a 169 = .ok (.ireturn, 1) := by decide +kernel
theorem dJx40b00_toDecimal_5c35a_170 : decode cJx40b00_toDecimal_5c35a 170 = .ok (.iload_n 3, 1) := by decide +kernel
theorem dJx40b00_toDecimal_5c35a_171 : decode cJx40b00_toDecimal_5c35a 171 = .ok (.ifCond .eq 5, 3) := by decide +kernel
theorem dJx40b00_toDecimal_5c35a_174 : decode cJx40b00_toDecimal_5c35a 174 = .ok (.iconst 5, 1) := by decide +kernel
theorem dJx40b00_toDecimal_5c35a_175 : decode cJx40b00_toDecimal_5c35a 175 = .ok (.ireturn, 1) := by decide +kernel
theorem dJx40b00_toDecimal_5c35a_176 : decode cJx40b00_toDecimal_5c35a 176 = .ok (.iload_n 2, 1) := by decide +kernel
theorem dJx40b00_toDecimal_5c35a_177 : decode cJx40b00_toDecimal_5c35a 177 = .ok (.ifCond .le 7, 3) := by decide +kernel
theorem dJx40b00_toDecimal_5c35a_180 : decode cJx40b00_toDecimal_5c35a 180 = .ok (.iconst 3, 1) := by decide +kernel
theorem dJx40b00_toDecimal_5c35a_181 : decode cJx40b00_toDecimal_5c35a 181 = .ok (.goto 4, 3) := by decide +kernel
theorem dJx40b00_toDecimal_5c35a_184 : decode cJx40b00_toDecimal_5c35a 184 = .ok (.iconst 4, 1) := by decide +kernel
theorem dJx40b00_toDecimal_5c35a_185 : decode cJx40b00_toDecimal_5c35a 185 = .ok (.ireturn, 1) := by decide +kernel
set_option maxRecDepth 20000 in
theorem ggJx40b00_toDecimal_cabcc_Jx25f51_flog10pow2_0f7a4 : GoodIn wsJx40b00_toDecimal_cabcc wsJx25f51_flog10pow2_0f7a4 := goodIn_r _ [7, 8] rfl (by decide +kernel)
set_option maxRecDepth 20000 in
theorem gJx40b00_toDecimal_cabcc_Jx25f51_flog10pow2_0f7a4 : GoodIn wsJx40b00_toDecimal_cabcc (va_wsS RJx40b00 82 yJx25f51_flog10pow2_0f7a4 wsJx25f51_flog10pow2_0f7a4) := goodIn_app (goodIn_of _ (by decide +kernel)) ggJx40b00_toDecimal_cabcc_Jx25f51_flog10pow2_0f7a4
set_option maxRecDepth 20000 in
theorem ggJx40b00_toDecimal_cabcc_Jx25f51_flog10threeQuartersPow2_0f7a4 : GoodIn wsJx40b00_toDecimal_cabcc wsJx25f51_flog10threeQuartersPow2_0f7a4 := goodIn_r _ [11, 8, 12] rfl (by decide +kernel)
set_option maxRecDepth 20000 in
theorem gJx40b00_toDecimal_cabcc_Jx25f51_flog10threeQuartersPow2_0f7a4 : GoodIn wsJx40b00_toDecimal_cabcc (va_wsS RJx40b00 88 yJx25f51_flog10threeQuartersPow2_0f7a4 wsJx25f51_flog10threeQuartersPow2_0f7a4) := goodIn_app (goodIn_of _ (by decide +kernel)) ggJx40b00_toDecimal_cabcc_Jx25f51_flog10threeQuartersPow2_0f7a4
set_option maxRecDepth 20000 in
theorem ggJx40b00_toDecimal_cabcc_Jx25f51_flog2pow10_0f7a4 : GoodIn wsJx40b00_toDecimal_cabcc wsJx25f51_flog2pow10_0f7a4 := goodIn_r _ [15, 16] rfl (by decide +kernel)
set_option maxRecDepth 20000 in
theorem gJx40b00_toDecimal_cabcc_Jx25f51_flog2pow10_0f7a4 : GoodIn wsJx40b00_toDecimal_cabcc (va_wsS RJx40b00 91 yJx25f51_flog2pow10_0f7a4 wsJx25f51_flog2pow10_0f7a4) := goodIn_app (goodIn_of _ (by decide +kernel)) ggJx40b00_toDecimal_cabcc_Jx25f51_flog2pow10_0f7a4
set_option maxRecDepth 20000 in
theorem ggJx40b00_toDecimal_cabcc_Jx25f51_g1_3e8ac : GoodIn wsJx40b00_toDecimal_cabcc wsJx25f51_g1_3e8ac := goodIn_r _ [19, 20] rfl (by decide +kernel)
set_option maxRecDepth 20000 in
theorem gJx40b00_toDecimal_cabcc_Jx25f51_g1_3e8ac : GoodIn wsJx40b00_toDecimal_cabcc (va_wsS RJx40b00 94 yJx25f51_g1_3e8ac wsJx25f51_g1_3e8ac) := goodIn_app (goodIn_of _ (by decide +kernel)) ggJx40b00_toDecimal_cabcc_Jx25f51_g1_3e8ac
set_option maxRecDepth 20000 in
theorem ggJx40b00_toDecimal_cabcc_Jx40b00_rop_74951 : GoodIn wsJx40b00_toDecimal_cabcc wsJx40b00_rop_74951 := goodIn_r _ [24, 25, 26, 27, 28, 29, 30] rfl (by decide +kernel)
set_option maxRecDepth 20000 in
theorem gJx40b00_toDecimal_cabcc_Jx40b00_rop_74951 : GoodIn wsJx40b00_toDecimal_cabcc (va_wsS RJx40b00 98 yJx40b00_rop_74951 wsJx40b00_rop_74951) := goodIn_app (goodIn_of _ (by decide +kernel)) ggJx40b00_toDecimal_cabcc_Jx40b00_rop_74951
set_option maxRecDepth 20000 in
theorem ggJx40b00_toDecimal_cabcc_Jx40b00_toChars_7cf53 : GoodIn wsJx40b00_toDecimal_cabcc wsJx40b00_toChars_7cf53 := goodIn_r _ [34, 35, 36, 37, 38, 39, 40, 41, 4, 5, 6, 7, 8, 42, 43, 44, 45, 46, 47, 48, 23, 49, 50, 51, 52, 53, 54, 55, 56, 57, 58, 59, 60, 61, 26, 27, 28, 29, 30, 62, 63, 64, 65, 66, 67, 68, 69, 70, 71, 72, 73, 74, 75, 76, 77, 78, 79, 80, 81, 82, 83, 84, 85, 86, 87] rfl (by decide +kernel)
set_option maxRecDepth 20000 in
theorem gJx40b00_toDecimal_cabcc_Jx40b00_toChars_7cf53 : GoodIn wsJx40b00_toDecimal_cabcc (wsV RJx40b00 73 RJx40b00 yJx40b00_toChars_7cf53 wsJx40b00_toChars_7cf53) := goodIn_app (goodIn_of _ (by decide +kernel)) ggJx40b00_toDecimal_cabcc_Jx40b00_toChars_7cf53
theorem dJx40b00_toDecimal_cabcc_0 : decode cJx40b00_toDecimal_cabcc 0 = .ok (.iload_n 2, 1) := by decide +kernel
theorem dJx40b00_toDecimal_cabcc_1 : decode cJx40b00_toDecimal_cabcc 1 = .ok (.iconst 1, 1) := by decide +kernel
theorem dJx40b00_toDecimal_cabcc_2 : decode cJx40b00_toDecimal_cabcc 2 = .ok (.iand, 1) := by decide +kernel
theorem dJx40b00_toDecimal_cabcc_3 : decode cJx40b00_toDecimal_cabcc 3 = .ok (.istore 4, 2) := by decide +kernel
theorem dJx40b00_toDecimal_cabcc_5 : decode cJx40b00_toDecimal_cabcc 5 = .ok (.iload_n 2, 1) := by decide +kernel
theorem dJx40b00_toDecimal_cabcc_6 : decode cJx40b00_toDecimal_cabcc 6 = .ok (.iconst 2, 1) := by decide +kernel
theorem dJx40b00_toDecimal_cabcc_7 : decode cJx40b00_toDecimal_cabcc 7 = .ok (.ishl, 1) := by decide +kernel
theorem dJx40b00_toDecimal_cabcc_8 : decode cJx40b00_toDecimal_cabcc 8 = .ok (.i2l, 1) := by decide +kernel
theorem dJx40b00_toDecimal_cabcc_9 : decode cJx40b00_toDecimal_cabcc 9 = .ok (.lstore 5, 2) := by decide +kernel
theorem dJx40b00_toDecimal_cabcc_11 : decode cJx40b00_toDecimal_cabcc 11 = .ok (.lload 5, 2) := by decide +kernel
theorem dJx40b00_toDecimal_cabcc_13 : decode cJx40b00_toDecimal_cabcc 13 = .ok (.ldc2_w 80, 3) := by decide +kernel
theorem dJx40b00_toDecimal_cabcc_16 : decode cJx40b00_toDecimal_cabcc 16 = .ok (.ladd, 1) := by decide +kernel
theorem dJx40b00_toDecimal_cabcc_17 : decode cJx40b00_toDecimal_cabcc 17 = .ok (.lstore 7, 2) := by decide +kernel
theorem dJx40b00_toDecimal_cabcc_19 : decode cJx40b00_toDecimal_cabcc 19 = .ok (.iload_n 2, 1) := by decide +kernel
theorem dJx40b00_toDecimal_cabcc_20 : decode cJx40b00_toDecimal_cabcc 20 = .ok (.ldc 72, 2) := by decide +kernel
theorem dJx40b00_toDecimal_cabcc_22 : decode cJx40b00_toDecimal_cabcc 22 = .ok (.if_icmp .eq 7, 3) := by decide +kernel
theorem dJx40b00_toDecimal_cabcc_25 : decode cJx40b00_toDecimal_cabcc 25 = .ok (.iconst 1, 1) := by decide +kernel
theorem dJx40b00_toDecimal_cabcc_26 : decode cJx40b00_toDecimal_cabcc 26 = .ok (.goto 4, 3) := by decide +kernel
theorem dJx40b00_toDecimal_cabcc_29 : decode cJx40b00_toDecimal_cabcc 29 = .ok (.iconst 0, 1) := by decide +kernel
theorem dJx40b00_toDecimal_cabcc_30 : decode cJx40b00_toDecimal_cabcc 30 = .ok (.iload_n 1, 1) := by decide +kernel
theorem dJx40b00_toDecimal_cabcc_31 : decode cJx40b00_toDecimal_cabcc 31 = .ok (.sipush (-149), 3) := by decide +kernel
theorem dJx40b00_toDecimal_cabcc_34 : decode cJx40b00_toDecimal_cabcc 34 = .ok (.if_icmp .ne 7, 3) := by decide +kernel
theorem dJx40b00_toDecimal_cabcc_37 : decode cJx40b00_toDecimal_cabcc 37 = .ok (.iconst 1, 1) := by decide +kernel
theorem dJx40b00_toDecimal_cabcc_38 : decode cJx40b00_toDecimal_cabcc 38 = .ok (.goto 4, 3) := by decide +kernel
theorem dJx40b00_toDecimal_cabcc_41 : decode cJx40b00_toDecimal_cabcc 41 = .ok (.iconst 0, 1) := by decide +kernel
theorem dJx40b00_toDecimal_cabcc_42 : decode cJx40b00_toDecimal_cabcc 42 = .ok (.ior, 1) := by decide +kernel
theorem dJx40b00_toDecimal_cabcc_43 : decode cJx40b00_toDecimal_cabcc 43 = .ok (.ifCond .eq 20, 3) := by decide +kernel
theorem dJx40b00_toDecimal_cabcc_46 : decode cJx40b00_toDecimal_cabcc 46 = .ok (.lload 5, 2) := by decide +kernel
theorem dJx40b00_toDecimal_cabcc_48 : decode cJx40b00_toDecimal_cabcc 48 = .ok (.ldc2_w 80, 3) := by decide +kernel
theorem dJx40b00_toDecimal_cabcc_51 : decode cJx40b00_toDecimal_cabcc 51 = .ok (.lsub, 1) := by decide +kernel
theorem dJx40b00_toDecimal_cabcc_52 : decode cJx40b00_toDecimal_cabcc 52 = .ok (.lstore 9, 2) := by decide +kernel
theorem dJx40b00_toDecimal_cabcc_54 : decode cJx40b00_toDecimal_cabcc 54 = .ok (.iload_n 1, 1) := by decide +kernel
theorem dJx40b00_toDecimal_cabcc_55 : decode cJx40b00_toDecimal_cabcc 55 = .ok (.invokestatic 82, 3) := by decide +kernel
theorem dJx40b00_toDecimal_cabcc_58 : decode cJx40b00_toDecimal_cabcc 58 = .ok (.istore 11, 2) := by decide +kernel
theorem dJx40b00_toDecimal_cabcc_60 : decode cJx40b00_toDecimal_cabcc 60 = .ok (.goto 15, 3) := by decide +kernel
theorem dJx40b00_toDecimal_cabcc_63 : decode cJx40b00_toDecimal_cabcc 63 = .ok (.lload 5, 2) := by decide +kernel
theorem dJx40b00_toDecimal_cabcc_65 : decode cJx40b00_toDecimal_cabcc 65 = .ok (.lconst 1, 1) := by decide +kernel
theorem dJx40b00_toDecimal_cabcc_66 : decode cJx40b00_toDecimal_cabcc 66 = .ok (.lsub, 1) := by decide +kernel
theorem dJx40b00_toDecimal_cabcc_67 : decode cJx40b00_toDecimal_cabcc 67 = .ok (.lstore 9, 2) := by decide +kernel
theorem dJx40b00_toDecimal_cabcc_69 : decode cJx40b00_toDecimal_cabcc 69 = .ok (.iload_n 1, 1) := by decide +kernel
theorem dJx40b00_toDecimal_cabcc_70 : decode cJx40b00_toDecimal_cabcc 70 = .ok (.invokestatic 88, 3) := by decide +kernel
theorem dJx40b00_toDecimal_cabcc_73 : decode cJx40b00_toDecimal_cabcc 73 = .ok (.istore 11, 2) := by decide +kernel
theorem dJx40b00_toDecimal_cabcc_75 : decode cJx40b00_toDecimal_cabcc 75 = .ok (.iload_n 1, 1) := by decide +kernel
theorem dJx40b00_toDecimal_cabcc_76 : decode cJx40b00_toDecimal_cabcc 76 = .ok (.iload 11, 2) := by decide +kernel
theorem dJx40b00_toDecimal_cabcc_78 : decode cJx40b00_toDecimal_cabcc 78 = .ok (.ineg, 1) := by decide +kernel
theorem dJx40b00_toDecimal_cabcc_79 : decode cJx40b00_toDecimal_cabcc 79 = .ok (.invokestatic 91, 3) := by decide +kernel
theorem dJx40b00_toDecimal_cabcc_82 : decode cJx40b00_toDecimal_cabcc 82 = .ok (.iadd, 1) := by decide +kernel
theorem dJx40b00_toDecimal_cabcc_83 : decode cJx40b00_toDecimal_cabcc 83 = .ok (.bipush 33, 2) := by decide +kernel
theorem dJx40b00_toDecimal_cabcc_85 : decode cJx40b00_toDecimal_cabcc 85 = .ok (.iadd, 1) := by decide +kernel
theorem dJx40b00_toDecimal_cabcc_86 : decode cJx40b00_toDecimal_cabcc 86 = .ok (.istore 12, 2) := by decide +kernel
theorem dJx40b00_toDecimal_cabcc_88 : decode cJx40b00_toDecimal_cabcc 88 = .ok (.iload 11, 2) := by decide +kernel
theorem dJx40b00_toDecimal_cabcc_90 : decode cJx40b00_toDecimal_cabcc 90 = .ok (.invokestatic 94, 3) := by decide +kernel
theorem dJx40b00_toDecimal_cabcc_93 : decode cJx40b00_toDecimal_cabcc 93 = .ok (.lconst 1, 1) := by decide +kernel
theorem dJx40b00_toDecimal_cabcc_94 : decode cJx40b00_toDecimal_cabcc 94 = .ok (.ladd, 1) := by decide +kernel
theorem dJx40b00_toDecimal_cabcc_95 : decode cJx40b00_toDecimal_cabcc 95 = .ok (.lstore 13, 2) := by decide +kernel
theorem dJx40b00_toDecimal_cabcc_97 : decode cJx40b00_toDecimal_cabcc 97 = .ok (.lload 13, 2) := by decide +kernel
theorem dJx40b00_toDecimal_cabcc_99 : decode cJx40b00_toDecimal_cabcc 99 = .ok (.lload 5, 2) := by decide +kernel
theorem dJx40b00_toDecimal_cabcc_101 : decode cJx40b00_toDecimal_cabcc 101 = .ok (.iload 12, 2) := by decide +kernel
theorem dJx40b00_toDecimal_cabcc_103 : decode cJx40b00_toDecimal_cabcc 103 = .ok (.lshl, 1) := by decide +kernel
theorem dJx40b00_toDecimal_cabcc_104 : decode cJx40b00_toDecimal_cabcc 104 = .ok (.invokestatic 98, 3) := by decide +kernel
theorem dJx40b00_toDecimal_cabcc_107 : decode cJx40b00_toDecimal_cabcc 107 = .ok (.istore 15, 2) := by decide +kernel
theorem dJx40b00_toDecimal_cabcc_109 : decode cJx40b00_toDecimal_cabcc 109 = .ok (.lload 13, 2) := by decide +kernel
theorem dJx40b00_toDecimal_cabcc_111 : decode cJx40b00_toDecimal_cabcc 111 = .ok (.lload 9, 2) := by decide +kernel
theorem dJx40b00_toDecimal_cabcc_113 : decode cJx40b00_toDecimal_cabcc 113 = .ok (.iload 12, 2) := by decide +kernel
theorem dJx40b00_toDecimal_cabcc_115 : decode cJx40b00_toDecimal_cabcc 115 = .ok (.lshl, 1) := by decide +kernel
theorem dJx40b00_toDecimal_cabcc_116 : decode cJx40b00_toDecimal_cabcc 116 = .ok (.invokestatic 98, 3) := by decide +kernel
theorem dJx40b00_toDecimal_cabcc_119 : decode cJx40b00_toDecimal_cabcc 119 = .ok (.istore 16, 2) := by decide +kernel
theorem dJx40b00_toDecimal_cabcc_121 : decode cJx40b00_toDecimal_cabcc 121 = .ok (.lload 13, 2) := by decide +kernel
theorem dJx40b00_toDecimal_cabcc_123 : decode cJx40b00_toDecimal_cabcc 123 = .ok (.lload 7, 2) := by decide +kernel
theorem dJx40b00_toDecimal_cabcc_125 : decode cJx40b00_toDecimal_cabcc 125 = .ok (.iload 12, 2) := by decide +kernel
theorem dJx40b00_toDecimal_cabcc_127 : decode cJx40b00_toDecimal_cabcc 127 = .ok (.lshl, 1) := by decide +kernel
theorem dJx40b00_toDecimal_cabcc_128 : decode cJx40b00_toDecimal_cabcc 128 = .ok (.invokestatic 98, 3) := by decide +kernel
theorem dJx40b00_toDecimal_cabcc_131 : decode cJx40b00_toDecimal_cabcc 131 = .ok (.istore 17, 2) := by decide +kernel
theorem dJx40b00_toDecimal_cabcc_133 : decode cJx40b00_toDecimal_cabcc 133 = .ok (.iload 15, 2) := by decide +kernel
theorem dJx40b00_toDecimal_cabcc_135 : decode cJx40b00_toDecimal_cabcc 135 = .ok (.iconst 2, 1) := by decide +kernel
theorem dJx40b00_toDecimal_cabcc_136 : decode cJx40b00_toDecimal_cabcc 136 = .ok (.ishr, 1) := by decide +kernel
theorem dJx40b00_toDecimal_cabcc_137 : decode cJx40b00_toDecimal_cabcc 137 = .ok (.istore 18, 2) := by decide +kernel
theorem dJx40b00_toDecimal_cabcc_139 : decode cJx40b00_toDecimal_cabcc 139 = .ok (.iload 18, 2) := by decide +kernel
theorem dJx40b00_toDecimal_cabcc_141 : decode cJx40b00_toDecimal_cabcc 141 = .ok (.bipush 100, 2) := by decide +kernel
theorem dJx40b00_toDecimal_cabcc_143 : decode cJx40b00_toDecimal_cabcc 143 = .ok (.if_icmp .lt 90, 3) := by decide +kernel
theorem dJx40b00_toDecimal_cabcc_146 : decode cJx40b00_toDecimal_cabcc 146 = .ok (.bipush 10, 2) := by decide +kernel
theorem dJx40b00_toDecimal_cabcc_148 : decode cJx40b00_toDecimal_cabcc 148 = .ok (.iload 18, 2) := by decide +kernel
theorem dJx40b00_toDecimal_cabcc_150 : decode cJx40b00_toDecimal_cabcc 150 = .ok (.i2l, 1) := by decide +kernel
theorem dJx40b00_toDecimal_cabcc_151 : decode cJx40b00_toDecimal_cabcc 151 = .ok (.ldc2_w 102, 3) := by decide +kernel
theorem dJx40b00_toDecimal_cabcc_154 : decode cJx40b00_toDecimal_cabcc 154 = .ok (.lmul, 1) := by decide +kernel
theorem dJx40b00_toDecimal_cabcc_155 : decode cJx40b00_toDecimal_cabcc 155 = .ok (.bipush 34, 2) := by decide +kernel
theorem dJx40b00_toDecimal_cabcc_157 : decode cJx40b00_toDecimal_cabcc 157 = .ok (.lushr, 1) := by decide +kernel
theorem dJx40b00_toDecimal_cabcc_158 : decode cJx40b00_toDecimal_cabcc 158 = .ok (.l2i, 1) := by decide +kernel
theorem dJx40b00_toDecimal_cabcc_159 : decode cJx40b00_toDecimal_cabcc 159 = .ok (.imul, 1) := by decide +kernel
theorem dJx40b00_toDecimal_cabcc_160 : decode cJx40b00_toDecimal_cabcc 160 = .ok (.istore 19, 2) := by decide +kernel
theorem dJx40b00_toDecimal_cabcc_162 : decode cJx40b00_toDecimal_cabcc 162 = .ok (.iload 19, 2) := by decide +kernel
theorem dJx40b00_toDecimal_cabcc_164 : decode cJx40b00_toDecimal_cabcc 164 = .ok (.bipush 10, 2) := by decide +kernel
theorem dJx40b00_toDecimal_cabcc_166 : decode cJx40b00_toDecimal_cabcc 166 = .ok (.iadd, 1) := by decide +kernel
theorem dJx40b00_toDecimal_cabcc_167 : decode cJx40b00_toDecimal_cabcc 167 = .ok (.istore 20, 2) := by decide +kernel
theorem dJx40b00_toDecimal_cabcc_169 : decode cJx40b00_toDecimal_cabcc 169 = .ok (.iload 16, 2) := by decide +kernel
theorem dJx40b00_toDecimal_cabcc_171 : decode cJx40b00_toDecimal_cabcc 171 = .ok (.iload 4, 2) := by decide +kernel
theorem dJx40b00_toDecimal_cabcc_173 : decode cJx40b00_toDecimal_cabcc 173 = .ok (.iadd, 1) := by decide +kernel
theorem dJx40b00_toDecimal_cabcc_174 : decode cJx40b00_toDecimal_cabcc 174 = .ok (.iload 19, 2) := by decide +kernel
theorem dJx40b00_toDecimal_cabcc_176 : decode cJx40b00_toDecimal_cabcc 176 = .ok (.iconst 2, 1) := by decide +kernel
theorem dJx40b00_toDecimal_cabcc_177 : decode cJx40b00_toDecimal_cabcc 177 = .ok (.ishl, 1) := by decide +kernel
theorem dJx40b00_toDecimal_cabcc_178 : decode cJx40b00_toDecimal_cabcc 178 = .ok (.if_icmp .gt 7, 3) := by decide +kernel
theorem dJx40b00_toDecimal_cabcc_181 : decode cJx40b00_toDecimal_cabcc 181 = .ok (.iconst 1, 1) := by decide +kernel
theorem dJx40b00_toDecimal_cabcc_182 : decode cJx40b00_toDecimal_cabcc 182 = .ok (.goto 4, 3) := by decide +kernel
theorem dJx40b00_toDecimal_cabcc_185 : decode cJx40b00_toDecimal_cabcc 185 = .ok (.iconst 0, 1) := by decide +kernel
theorem dJx40b00_toDecimal_cabcc_186 : decode cJx40b00_toDecimal_cabcc 186 = .ok (.istore 21, 2) := by decide +kernel
theorem dJx40b00_toDecimal_cabcc_188 : decode cJx40b00_toDecimal_cabcc 188 = .ok (.iload 20, 2) := by decide +kernel
theorem dJx40b00_toDecimal_cabcc_190 : decode cJx40b00_toDecimal_cabcc 190 = .ok (.iconst 2, 1) := by decide +kernel
theorem dJx40b00_toDecimal_cabcc_191 : decode cJx40b00_toDecimal_cabcc 191 = .ok (.ishl, 1) := by decide +kernel
theorem dJx40b00_toDecimal_cabcc_192 : decode cJx40b00_toDecimal_cabcc 192 = .ok (.iload 4, 2) := by decide +kernel
theorem dJx40b00_toDecimal_cabcc_194 : decode cJx40b00_toDecimal_cabcc 194 = .ok (.iadd, 1) := by decide +kernel
theorem dJx40b00_toDecimal_cabcc_195 : decode cJx40b00_toDecimal_cabcc 195 = .ok (.iload 17, 2) := by decide +kernel
theorem dJx40b00_toDecimal_cabcc_197 : decode cJx40b00_toDecimal_cabcc 197 = .ok (.if_icmp .gt 7, 3) := by decide +kernel
theorem dJx40b00_toDecimal_cabcc_200 : decode cJx40b00_toDecimal_cabcc 200 = .ok (.iconst 1, 1) := by decide +kernel
theorem dJx40b00_toDecimal_cabcc_201 : decode cJx40b00_toDecimal_cabcc 201 = .ok (.goto 4, 3) := by decide +kernel
theorem dJx40b00_toDecimal_cabcc_204 : decode cJx40b00_toDecimal_cabcc 204 = .ok (.iconst 0, 1) := by decide +kernel
theorem dJx40b00_toDecimal_cabcc_205 : decode cJx40b00_toDecimal_cabcc 205 = .ok (.istore 22, 2) := by decide +kernel
theorem dJx40b00_toDecimal_cabcc_207 : decode cJx40b00_toDecimal_cabcc 207 = .ok (.iload 21, 2) := by decide +kernel
theorem dJx40b00_toDecimal_cabcc_209 : decode cJx40b00_toDecimal_cabcc 209 = .ok (.iload 22, 2) := by decide +kernel
theorem dJx40b00_toDecimal_cabcc_211 : decode cJx40b00_toDecimal_cabcc 211 = .ok (.if_icmp .eq 22, 3) := by decide +kernel
theorem dJx40b00_toDecimal_cabcc_214 : decode cJx40b00_toDecimal_cabcc 214 = .ok (.aload_n 0, 1) := by decide +kernel
theorem dJx40b00_toDecimal_cabcc_215 : decode cJx40b00_toDecimal_cabcc 215 = .ok (.iload 21, 2) := by decide +kernel
theorem dJx40b00_toDecimal_cabcc_217 : decode cJx40b00_toDecimal_cabcc 217 = .ok (.ifCond .eq 8, 3) := by decide +kernel
theorem dJx40b00_toDecimal_cabcc_220 : decode cJx40b00_toDecimal_cabcc 220 = .ok (.iload 19, 2) := by decide +kernel
theorem dJx40b00_toDecimal_cabcc_222 : decode cJx40b00_toDecimal_cabcc 222 = .ok (.goto 5, 3) := by decide +kernel
theorem dJx40b00_toDecimal_cabcc_225 : decode cJx40b00_toDecimal_cabcc 225 = .ok (.iload 20, 2) := by decide +kernel
theorem dJx40b00_toDecimal_cabcc_227 : decode cJx40b00_toDecimal_cabcc 227 = .ok (.iload 11, 2) := by decide +kernel
theorem dJx40b00_toDecimal_cabcc_229 : decode cJx40b00_toDecimal_cabcc 229 = .ok (.invokevirtual 73, 3) := by decide +kernel
theorem dJx40b00_toDecimal_cabcc_232 : decode cJx40b00_toDecimal_cabcc 232 = .ok (.ireturn, 1) := by decide +kernel
theorem dJx40b00_toDecimal_cabcc_233 : decode cJx40b00_toDecimal_cabcc 233 = .ok (.iload 18, 2) := by decide +kernel
theorem dJx40b00_toDecimal_cabcc_235 : decode cJx40b00_toDecimal_cabcc 235 = .ok (.iconst 1, 1) := by decide +kernel
theorem dJx40b00_toDecimal_cabcc_236 : decode cJx40b00_toDecimal_cabcc 236 = .ok (.iadd, 1) := by decide +kernel
theorem dJx40b00_toDecimal_cabcc_237 : decode cJx40b00_toDecimal_cabcc 237 = .ok (.istore 19, 2) := by decide +kernel
theorem dJx40b00_toDecimal_cabcc_239 : decode cJx40b00_toDecimal_cabcc 239 = .ok (.iload 16, 2) := by decide +kernel
theorem dJx40b00_toDecimal_cabcc_241 : decode cJx40b00_toDecimal_cabcc 241 = .ok (.iload 4, 2) := by decide +kernel
theorem dJx40b00_toDecimal_cabcc_243 : decode cJx40b00_toDecimal_cabcc 243 = .ok (.iadd, 1) := by decide +kernel
theorem dJx40b00_toDecimal_cabcc_244 : decode cJx40b00_toDecimal_cabcc 244 = .ok (.iload 18, 2) := by decide +kernel
theorem dJx40b00_toDecimal_cabcc_246 : decode cJx40b00_toDecimal_cabcc 246 = .ok (.iconst 2, 1) := by decide +kernel
theorem dJx40b00_toDecimal_cabcc_247 : decode cJx40b00_toDecimal_cabcc 247 = .ok (.ishl, 1) := by decide +kernel
theorem dJx40b00_toDecimal_cabcc_248 : decode cJx40b00_toDecimal_cabcc 248 = .ok (.if_icmp .gt 7, 3) := by decide +kernel
theorem dJx40b00_toDecimal_cabcc_251 : decode cJx40b00_toDecimal_cabcc 251 = .ok (.iconst 1, 1) := by decide +kernel
theorem dJx40b00_toDecimal_cabcc_252 : decode cJx40b00_toDecimal_cabcc 252 = .ok (.goto 4, 3) := by decide +kernel
theorem dJx40b00_toDecimal_cabcc_255 : decode cJx40b00_toDecimal_cabcc 255 = .ok (.iconst 0, 1) := by decide +kernel
theorem dJx40b00_toDecimal_cabcc_256 : decode cJx40b00_toDecimal_cabcc 256 = .ok (.istore 20, 2) := by decide +kernel
theorem dJx40b00_toDecimal_cabcc_258 : decode cJx40b00_toDecimal_cabcc 258 = .ok (.iload 19, 2) := by decide +kernel
theorem dJx40b00_toDecimal_cabcc_260 : decode cJx40b00_toDecimal_cabcc 260 = .ok (.iconst 2, 1) := by decide +kernel
theorem dJx40b00_toDecimal_cabcc_261 : decode cJx40b00_toDecimal_cabcc 261 = .ok (.ishl, 1) := by decide +kernel
theorem dJx40b00_toDecimal_cabcc_262 : decode cJx40b00_toDecimal_cabcc 262 = .ok (.iload 4, 2) := by decide +kernel
theorem dJx40b00_toDecimal_cabcc_264 : decode cJx40b00_toDecimal_cabcc 264 = .ok (.iadd, 1) := by decide +kernel
theorem dJx40b00_toDecimal_cabcc_265 : decode cJx40b00_toDecimal_cabcc 265 = .ok (.iload 17, 2) := by decide +kernel
theorem dJx40b00_toDecimal_cabcc_267 : decode cJx40b00_toDecimal_cabcc 267 = .ok (.if_icmp .gt 7, 3) := by decide +kernel
theorem dJx40b00_toDecimal_cabcc_270 : decode cJx40b00_toDecimal_cabcc 270 = .ok (.iconst 1, 1) := by decide +kernel
theorem dJx40b00_toDecimal_cabcc_271 : decode cJx40b00_toDecimal_cabcc 271 = .ok (.goto 4, 3) := by decide +kernel
theorem dJx40b00_toDecimal_cabcc_274 : decode cJx40b00_toDecimal_cabcc 274 = .ok (.iconst 0, 1) := by decide +kernel
theorem dJx40b00_toDecimal_cabcc_275 : decode cJx40b00_toDecimal_cabcc 275 = .ok (.istore 21, 2) := by decide +kernel
theorem dJx40b00_toDecimal_cabcc_277 : decode cJx40b00_toDecimal_cabcc 277 = .ok (.iload 20, 2) := by decide +kernel
theorem dJx40b00_toDecimal_cabcc_279 : decode cJx40b00_toDecimal_cabcc 279 = .ok (.iload 21, 2) := by decide +kernel
theorem dJx40b00_toDecimal_cabcc_281 : decode cJx40b00_toDecimal_cabcc 281 = .ok (.if_icmp .eq 24, 3) := by decide +kernel
theorem dJx40b00_toDecimal_cabcc_284 : decode cJx40b00_toDecimal_cabcc 284 = .ok (.aload_n 0, 1) := by decide +kernel
theorem dJx40b00_toDecimal_cabcc_285 : decode cJx40b00_toDecimal_cabcc 285 = .ok (.iload 20, 2) := by decide +kernel
theorem dJx40b00_toDecimal_cabcc_287 : decode cJx40b00_toDecimal_cabcc 287 = .ok (.ifCond .eq 8, 3) := by decide +kernel
theorem dJx40b00_toDecimal_cabcc_290 : decode cJx40b00_toDecimal_cabcc 290 = .ok (.iload 18, 2) := by decide +kernel
theorem dJx40b00_toDecimal_cabcc_292 : decode cJx40b00_toDecimal_cabcc 292 = .ok (.goto 5, 3) := by decide +kernel
theorem dJx40b00_toDecimal_cabcc_295 : decode cJx40b00_toDecimal_cabcc 295 = .ok (.iload 19, 2) := by decide +kernel
theorem dJx40b00_toDecimal_cabcc_297 : decode cJx40b00_toDecimal_cabcc 297 = .ok (.iload 11, 2) := by decide +kernel
theorem dJx40b00_toDecimal_cabcc_299 : decode cJx40b00_toDecimal_cabcc 299 = .ok (.iload_n 3, 1) := by decide +kernel
theorem dJx40b00_toDecimal_cabcc_300 : decode cJx40b00_toDecimal_cabcc 300 = .ok (.iadd, 1) := by decide +kernel
theorem dJx40b00_toDecimal_cabcc_301 : decode cJx40b00_toDecimal_cabcc 301 = .ok (.invokevirtual 73, 3) := by decide +kernel
theorem dJx40b00_toDecimal_cabcc_304 : decode cJx40b00_toDecimal_cabcc 304 = .ok (.ireturn, 1) := by decide +kernel
theorem dJx40b00_toDecimal_cabcc_305 : decode cJx40b00_toDecimal_cabcc 305 = .ok (.iload 15, 2) := by decide +kernel
theorem dJx40b00_toDecimal_cabcc_307 : decode cJx40b00_toDecimal_cabcc 307 = .ok (.iload 18, 2) := by decide +kernel
theorem dJx40b00_toDecimal_cabcc_309 : decode cJx40b00_toDecimal_cabcc 309 = .ok (.iload 19, 2) := by decide +kernel
theorem dJx40b00_toDecimal_cabcc_311 : decode cJx40b00_toDecimal_cabcc 311 = .ok (.iadd, 1) := by decide +kernel
theorem dJx40b00_toDecimal_cabcc_312 : decode cJx40b00_toDecimal_cabcc 312 = .ok (.iconst 1, 1) := by decide +kernel
theorem dJx40b00_toDecimal_cabcc_313 : decode cJx40b00_toDecimal_cabcc 313 = .ok (.ishl, 1) := by decide +kernel
theorem dJx40b00_toDecimal_cabcc_314 : decode cJx40b00_toDecimal_cabcc 314 = .ok (.isub, 1) := by decide +kernel
theorem dJx40b00_toDecimal_cabcc_315 : decode cJx40b00_toDecimal_cabcc 315 = .ok (.istore 22, 2) := by decide +kernel
theorem dJx40b00_toDecimal_cabcc_317 : decode cJx40b00_toDecimal_cabcc 317 = .ok (.aload_n 0, 1) := by decide +kernel
theorem dJx40b00_toDecimal_cabcc_318 : decode cJx40b00_toDecimal_cabcc 318 = .ok (.iload 22, 2) := by decide +kernel
theorem dJx40b00_toDecimal_cabcc_320 : decode cJx40b00_toDecimal_cabcc 320 = .ok (.ifCond .lt 15, 3) := by decide +kernel
theorem dJx40b00_toDecimal_cabcc_323 : decode cJx40b00_toDecimal_cabcc 323 = .ok (.iload 22, 2) := by decide +kernel
theorem dJx40b00_toDecimal_cabcc_325 : decode cJx40b00_toDecimal_cabcc 325 = .ok (.ifCond .ne 15, 3) := by decide +kernel
theorem dJx40b00_toDecimal_cabcc_328 : decode cJx40b00_toDecimal_cabcc 328 = .ok (.iload 18, 2) := by decide +kernel
theorem dJx40b00_toDecimal_cabcc_330 : decode cJx40b00_toDecimal_cabcc 330 = .ok (.iconst 1, 1) := by decide +kernel
theorem dJx40b00_toDecimal_cabcc_331 : decode cJx40b00_toDecimal_cabcc 331 = .ok (.iand, 1) := by decide +kernel
theorem dJx40b00_toDecimal_cabcc_332 : decode cJx40b00_toDecimal_cabcc 332 = .ok (.ifCond .ne 8, 3) := by decide +kernel
theorem dJx40b00_toDecimal_cabcc_335 : decode cJx40b00_toDecimal_cabcc 335 = .ok (.iload 18, 2) := by decide +kernel
theorem dJx40b00_toDecimal_cabcc_337 : decode cJx40b00_toDecimal_cabcc 337 = .ok (.goto 5, 3) := by decide +kernel
theorem dJx40b00_toDecimal_cabcc_340 : decode cJx40b00_toDecimal_cabcc 340 = .ok (.iload 19, 2) := by decide +kernel
theorem dJx40b00_toDecimal_cabcc_342 : decode cJx40b00_toDecimal_cabcc 342 = .ok (.iload 11, 2) := by decide +kernel
theorem dJx40b00_toDecimal_cabcc_344 : decode cJx40b00_toDecimal_cabcc 344 = .ok (.iload_n 3, 1) := by decide +kernel
theorem dJx40b00_toDecimal_cabcc_345 : decode cJx40b00_toDecimal_cabcc 345 = .ok (.iadd, 1) := by decide +kernel
theorem dJx40b00_toDecimal_cabcc_346 : decode cJx40b00_toDecimal_cabcc 346 = .ok (.invokevirtual 73, 3) := by decide +kernel
theorem dJx40b00_toDecimal_cabcc_349 : decode cJx40b00_toDecimal_cabcc 349 = .ok (.ireturn, 1) := by decide +kernel
set_option maxRecDepth 20000 in
theorem ggJx40b00_rop_74951_J9_multiplyHigh_f86c9 : GoodIn wsJx40b00_rop_74951 wsJ9_multiplyHigh_f86c9 := goodIn_r _ [5, 6] rfl (by decide +kernel)
set_option maxRecDepth 20000 in
theorem gJx40b00_rop_74951_J9_multiplyHigh_f86c9 : GoodIn wsJx40b00_rop_74951 (va_wsS RJx40b00 104 yJ9_multiplyHigh_f86c9 wsJ9_multiplyHigh_f86c9) := goodIn_app (goodIn_of _ (by decide +kernel)) ggJx40b00_rop_74951_J9_multiplyHigh_f86c9
theorem dJx40b00_rop_74951_0 : decode cJx40b00_rop_74951 0 = .ok (.lload_n 0, 1) := by decide +kernel
theorem dJx40b00_rop_74951_1 : decode cJx40b00_rop_74951 1 = .ok (.lload_n 2, 1) := by decide +kernel
theorem dJx40b00_rop_74951_2 : decode cJx40b00_rop_74951 2 = .ok (.invokestatic 104, 3) := by decide +kernel
theorem dJx40b00_rop_74951_5 : decode cJx40b00_rop_74951 5 = .ok (.lstore 4, 2) := by decide +kernel
theorem dJx40b00_rop_74951_7 : decode cJx40b00_rop_74951 7 = .ok (.lload 4, 2) := by decide +kernel
theorem dJx40b00_rop_74951_9 : decode cJx40b00_rop_74951 9 = .ok (.bipush 31, 2) := by decide +kernel
theorem dJx40b00_rop_74951_11 : decode cJx40b00_rop_74951 11 = .ok (.lushr, 1) := by decide +kernel
theorem dJx40b00_rop_74951_12 : decode cJx40b00_rop_74951 12 = .ok (.lstore 6, 2) := by decide +kernel
theorem dJx40b00_rop_74951_14 : decode cJx40b00_rop_74951 14 = .ok (.lload 6, 2) := by decide +kernel
theorem dJx40b00_rop_74951_16 : decode cJx40b00_rop_74951 16 = .ok (.lload 4, 2) := by decide +kernel
theorem dJx40b00_rop_74951_18 : decode cJx40b00_rop_74951 18 = .ok (.ldc2_w 110, 3) := by decide +kernel
theorem dJx40b00_rop_74951_21 : decode cJx40b00_rop_74951 21 = .ok (.land, 1) := by decide +kernel
theorem dJx40b00_rop_74951_22 : decode cJx40b00_rop_74951 22 = .ok (.ldc2_w 110, 3) := by decide +kernel
theorem dJx40b00_rop_74951_25 : decode cJx40b00_rop_74951 25 = .ok (.ladd, 1) := by decide +kernel
theorem dJx40b00_rop_74951_26 : decode cJx40b00_rop_74951 26 = .ok (.bipush 32, 2) := by decide +kernel
theorem dJx40b00_rop_74951_28 : decode cJx40b00_rop_74951 28 = .ok (.lushr, 1) := by decide +kernel
theorem dJx40b00_rop_74951_29 : decode cJx40b00_rop_74951 29 = .ok (.lor, 1) := by decide +kernel
theorem dJx40b00_rop_74951_30 : decode cJx40b00_rop_74951 30 = .ok (.l2i, 1) := by decide +kernel
theorem dJx40b00_rop_74951_31 : decode cJx40b00_rop_74951 31 = .ok (.ireturn, 1) := by decide +kernel
set_option maxRecDepth 20000 in
theorem ggJx40b00_toChars_7cf53_J6_numberOfLeadingZeros_0f7a4 : GoodIn wsJx40b00_toChars_7cf53 wsJ6_numberOfLeadingZeros_0f7a4 := goodIn_r _ [6, 7] rfl (by decide +kernel)
set_option maxRecDepth 20000 in
theorem gJx40b00_toChars_7cf53_J6_numberOfLeadingZeros_0f7a4 : GoodIn wsJx40b00_toChars_7cf53 (va_wsS RJx40b00 114 yJ6_numberOfLeadingZeros_0f7a4 wsJ6_numberOfLeadingZeros_0f7a4) := goodIn_app (goodIn_of _ (by decide +kernel)) ggJx40b00_toChars_7cf53_J6_numberOfLeadingZeros_0f7a4
set_option maxRecDepth 20000 in
theorem ggJx40b00_toChars_7cf53_Jx25f51_flog10pow2_0f7a4 : GoodIn wsJx40b00_toChars_7cf53 wsJx25f51_flog10pow2_0f7a4 := goodIn_r _ [11, 12] rfl (by decide +kernel)
set_option maxRecDepth 20000 in
theorem gJx40b00_toChars_7cf53_Jx25f51_flog10pow2_0f7a4 : GoodIn wsJx40b00_toChars_7cf53 (va_wsS RJx40b00 82 yJx25f51_flog10pow2_0f7a4 wsJx25f51_flog10pow2_0f7a4) := goodIn_app (goodIn_of _ (by decide +kernel)) ggJx40b00_toChars_7cf53_Jx25f51_flog10pow2_0f7a4
set_option maxRecDepth 20000 in
theorem ggJx40b00_toChars_7cf53_Jx25f51_pow10_3e8ac : GoodIn wsJx40b00_toChars_7cf53 wsJx25f51_pow10_3e8ac := goodIn_r _ [15, 16] rfl (by decide +kernel)
set_option maxRecDepth 20000 in
theorem gJx40b00_toChars_7cf53_Jx25f51_pow10_3e8ac : GoodIn wsJx40b00_toChars_7cf53 (va_wsS RJx40b00 117 yJx25f51_pow10_3e8ac wsJx25f51_pow10_3e8ac) := goodIn_app (goodIn_of _ (by decide +kernel)) ggJx40b00_toChars_7cf53_Jx25f51_pow10_3e8ac
set_option maxRecDepth 20000 in
theorem ggJx40b00_toChars_7cf53_Jx40b00_toChars1_cabcc : GoodIn wsJx40b00_toChars_7cf53 wsJx40b00_toChars1_cabcc := goodIn_r _ [21, 22, 23, 24, 25, 20, 26, 27, 28, 29, 30, 31, 32, 33, 34, 35, 36, 37, 38, 39, 40, 41, 42, 43, 44, 45, 46, 63, 64] rfl (by decide +kernel)
set_option maxRecDepth 20000 in
theorem gJx40b00_toChars_7cf53_Jx40b00_toChars1_cabcc : GoodIn wsJx40b00_toChars_7cf53 (wsV RJx40b00 123 RJx40b00 yJx40b00_toChars1_cabcc wsJx40b00_toChars1_cabcc) := goodIn_app (goodIn_of _ (by decide +kernel)) ggJx40b00_toChars_7cf53_Jx40b00_toChars1_cabcc
set_option maxRecDepth 20000 in
theorem ggJx40b00_toChars_7cf53_Jx40b00_toChars2_cabcc : GoodIn wsJx40b00_toChars_7cf53 wsJx40b00_toChars2_cabcc := goodIn_r _ [50, 23, 24, 25, 20, 26, 27, 28, 39, 40, 41, 42, 51, 52, 53, 54, 22, 29, 30, 31, 32, 33, 34, 35, 36, 37, 38, 43, 44, 45, 46, 63, 64] rfl (by decide +kernel)
set_option maxRecDepth 20000 in
theorem gJx40b00_toChars_7cf53_Jx40b00_toChars2_cabcc : GoodIn wsJx40b00_toChars_7cf53 (wsV RJx40b00 126 RJx40b00 yJx40b00_toChars2_cabcc wsJx40b00_toChars2_cabcc) := goodIn_app (goodIn_of _ (by decide +kernel)) ggJx40b00_toChars_7cf53_Jx40b00_toChars2_cabcc
set_option maxRecDepth 20000 in
theorem ggJx40b00_toChars_7cf53_Jx40b00_toChars3_cabcc : GoodIn wsJx40b00_toChars_7cf53 wsJx40b00_toChars3_cabcc := goodIn_r _ [58, 23, 24, 25, 20, 26, 27, 28, 39, 40, 41, 42, 51, 52, 53, 54, 22, 29, 30, 31, 32, 33, 34, 35, 36, 37, 38, 43, 44, 45, 46, 59, 60, 61, 62, 63, 64] rfl (by decide +kernel)
set_option maxRecDepth 20000 in
theorem gJx40b00_toChars_7cf53_Jx40b00_toChars3_cabcc : GoodIn wsJx40b00_toChars_7cf53 (wsV RJx40b00 129 RJx40b00 yJx40b00_toChars3_cabcc wsJx40b00_toChars3_cabcc) := goodIn_app (goodIn_of _ (by decide +kernel)) ggJx40b00_toChars_7cf53_Jx40b00_toChars3_cabcc
theorem dJx40b00_toChars_7cf53_0 : decode cJx40b00_toChars_7cf53 0 = .ok (.bipush 32, 2) := by decide +kernel
theorem dJx40b00_toChars_7cf53_2 : decode cJx40b00_toChars_7cf53 2 = .ok (.iload_n 1, 1) := by decide +kernel
theorem dJx40b00_toChars_7cf53_3 : decode cJx40b00_toChars_7cf53 3 = .ok (.invokestatic 114, 3) := by decide +kernel
theorem dJx40b00_toChars_7cf53_6 : decode cJx40b00_toChars_7cf53 6 = .ok (.isub, 1) := by decide +kernel
theorem dJx40b00_toChars_7cf53_7 : decode cJx40b00_toChars_7cf53 7 = .ok (.invokestatic 82, 3) := by decide +kernel
theorem dJx40b00_toChars_7cf53_10 : decode cJx40b00_toChars_7cf53 10 = .ok (.istore_n 3, 1) := by decide +kernel
theorem dJx40b00_toChars_7cf53_11 : decode cJx40b00_toChars_7cf53 11 = .ok (.iload_n 1, 1) := by decide +kernel
theorem dJx40b00_toChars_7cf53_12 : decode cJx40b00_toChars_7cf53 12 = .ok (.i2l, 1) := by decide +kernel
theorem dJx40b00_toChars_7cf53_13 : decode cJx40b00_toChars_7cf53 13 = .ok (.iload_n 3, 1) := by decide +kernel
theorem dJx40b00_toChars_7cf53_14 : decode cJx40b00_toChars_7cf53 14 = .ok (.invokestatic 117, 3) := by decide +kernel
theorem dJx40b00_toChars_7cf53_17 : decode cJx40b00_toChars_7cf53 17 = .ok (.lcmp, 1) := by decide +kernel
theorem dJx40b00_toChars_7cf53_18 : decode cJx40b00_toChars_7cf53 18 = .ok (.ifCond .lt 6, 3) := by decide +kernel
theorem dJx40b00_toChars_7cf53_21 : decode cJx40b00_toChars_7cf53 21 = .ok (.iinc 3 1, 3) := by decide +kernel
theorem dJx40b00_toChars_7cf53_24 : decode cJx40b00_toChars_7cf53 24 = .ok (.iload_n 1, 1) := by decide +kernel
theorem dJx40b00_toChars_7cf53_25 : decode cJx40b00_toChars_7cf53 25 = .ok (.bipush 9, 2) := by decide +kernel
theorem dJx40b00_toChars_7cf53_27 : decode cJx40b00_toChars_7cf53 27 = .ok (.iload_n 3, 1) := by decide +kernel
theorem dJx40b00_toChars_7cf53_28 : decode cJx40b00_toChars_7cf53 28 = .ok (.isub, 1) := by decide +kernel
theorem dJx40b00_toChars_7cf53_29 : decode cJx40b00_toChars_7cf53 29 = .ok (.invokestatic 117, 3) := by decide +kernel
theorem dJx40b00_toChars_7cf53_32 : decode cJx40b00_toChars_7cf53 32 = .ok (.l2i, 1) := by decide +kernel
theorem dJx40b00_toChars_7cf53_33 : decode cJx40b00_toChars_7cf53 33 = .ok (.imul, 1) := by decide +kernel
theorem dJx40b00_toChars_7cf53_34 : decode cJx40b00_toChars_7cf53 34 = .ok (.istore_n 1, 1) := by decide +kernel
theorem dJx40b00_toChars_7cf53_35 : decode cJx40b00_toChars_7cf53 35 = .ok (.iload_n 2, 1) := by decide +kernel
theorem dJx40b00_toChars_7cf53_36 : decode cJx40b00_toChars_7cf53 36 = .ok (.iload_n 3, 1) := by decide +kernel
theorem dJx40b00_toChars_7cf53_37 : decode cJx40b00_toChars_7cf53 37 = .ok (.iadd, 1) := by decide +kernel
theorem dJx40b00_toChars_7cf53_38 : decode cJx40b00_toChars_7cf53 38 = .ok (.istore_n 2, 1) := by decide +kernel
theorem dJx40b00_toChars_7cf53_39 : decode cJx40b00_toChars_7cf53 39 = .ok (.iload_n 1, 1) := by decide +kernel
theorem dJx40b00_toChars_7cf53_40 : decode cJx40b00_toChars_7cf53 40 = .ok (.i2l, 1) := by decide +kernel
theorem dJx40b00_toChars_7cf53_41 : decode cJx40b00_toChars_7cf53 41 = .ok (.ldc2_w 120, 3) := by decide +kernel
theorem dJx40b00_toChars_7cf53_44 : decode cJx40b00_toChars_7cf53 44 = .ok (.lmul, 1) := by decide +kernel
theorem dJx40b00_toChars_7cf53_45 : decode cJx40b00_toChars_7cf53 45 = .ok (.bipush 57, 2) := by decide +kernel
theorem dJx40b00_toChars_7cf53_47 : decode cJx40b00_toChars_7cf53 47 = .ok (.lushr, 1) := by decide +kernel
theorem dJx40b00_toChars_7cf53_48 : decode cJx40b00_toChars_7cf53 48 = .ok (.l2i, 1) := by decide +kernel
theorem dJx40b00_toChars_7cf53_49 : decode cJx40b00_toChars_7cf53 49 = .ok (.istore 4, 2) := by decide +kernel
theorem dJx40b00_toChars_7cf53_51 : decode cJx40b00_toChars_7cf53 51 = .ok (.iload_n 1, 1) := by decide +kernel
theorem dJx40b00_toChars_7cf53_52 : decode cJx40b00_toChars_7cf53 52 = .ok (.ldc 122, 2) := by decide +kernel
theorem dJx40b00_toChars_7cf53_54 : decode cJx40b00_toChars_7cf53 54 = .ok (.iload 4, 2) := by decide +kernel
theorem dJx40b00_toChars_7cf53_56 : decode cJx40b00_toChars_7cf53 56 = .ok (.imul, 1) := by decide +kernel
theorem dJx40b00_toChars_7cf53_57 : decode cJx40b00_toChars_7cf53 57 = .ok (.isub, 1) := by decide +kernel
theorem dJx40b00_toChars_7cf53_58 : decode cJx40b00_toChars_7cf53 58 = .ok (.istore 5, 2) := by decide +kernel
theorem dJx40b00_toChars_7cf53_60 : decode cJx40b00_toChars_7cf53 60 = .ok (.iconst 0, 1) := by decide +kernel
theorem dJx40b00_toChars_7cf53_61 : decode cJx40b00_toChars_7cf53 61 = .ok (.iload_n 2, 1) := by decide +kernel
theorem dJx40b00_toChars_7cf53_62 : decode cJx40b00_toChars_7cf53 62 = .ok (.if_icmp .ge 19, 3) := by decide +kernel
theorem dJx40b00_toChars_7cf53_65 : decode cJx40b00_toChars_7cf53 65 = .ok (.iload_n 2, 1) := by decide +kernel
theorem dJx40b00_toChars_7cf53_66 : decode cJx40b00_toChars_7cf53 66 = .ok (.bipush 7, 2) := by decide +kernel
theorem dJx40b00_toChars_7cf53_68 : decode cJx40b00_toChars_7cf53 68 = .ok (.if_icmp .gt 13, 3) := by decide +kernel
theorem dJx40b00_toChars_7cf53_71 : decode cJx40b00_toChars_7cf53 71 = .ok (.aload_n 0, 1) := by decide +kernel
theorem dJx40b00_toChars_7cf53_72 : decode cJx40b00_toChars_7cf53 72 = .ok (.iload 4, 2) := by decide +kernel
theorem dJx40b00_toChars_7cf53_74 : decode cJx40b00_toChars_7cf53 74 = .ok (.iload 5, 2) := by decide +kernel
theorem dJx40b00_toChars_7cf53_76 : decode cJx40b00_toChars_7cf53 76 = .ok (.iload_n 2, 1) := by decide +kernel
theorem dJx40b00_toChars_7cf53_77 : decode cJx40b00_toChars_7cf53 77 = .ok (.invokevirtual 123, 3) := by decide +kernel
theorem dJx40b00_toChars_7cf53_80 : decode cJx40b00_toChars_7cf53 80 = .ok (.ireturn, 1) := by decide +kernel
theorem dJx40b00_toChars_7cf53_81 : decode cJx40b00_toChars_7cf53 81 = .ok (.bipush (-3), 2) := by decide +kernel
theorem dJx40b00_toChars_7cf53_83 : decode cJx40b00_toChars_7cf53 83 = .ok (.iload_n 2, 1) := by decide +kernel
theorem dJx40b00_toChars_7cf53_84 : decode cJx40b00_toChars_7cf53 84 = .ok (.if_icmp .ge 17, 3) := by decide +kernel
theorem dJx40b00_toChars_7cf53_87 : decode cJx40b00_toChars_7cf53 87 = .ok (.iload_n 2, 1) := by decide +kernel
theorem dJx40b00_toChars_7cf53_88 : decode cJx40b00_toChars_7cf53 88 = .ok (.ifCond .gt 13, 3) := by decide +kernel
theorem dJx40b00_toChars_7cf53_91 : decode cJx40b00_toChars_7cf53 91 = .ok (.aload_n 0, 1) := by decide +kernel
theorem dJx40b00_toChars_7cf53_92 : decode cJx40b00_toChars_7cf53 92 = .ok (.iload 4, 2) := by decide +kernel
theorem dJx40b00_toChars_7cf53_94 : decode cJx40b00_toChars_7cf53 94 = .ok (.iload 5, 2) := by decide +kernel
theorem dJx40b00_toChars_7cf53_96 : decode cJx40b00_toChars_7cf53 96 = .ok (.iload_n 2, 1) := by decide +kernel
theorem dJx40b00_toChars_7cf53_97 : decode cJx40b00_toChars_7cf53 97 = .ok (.invokevirtual 126, 3) := by decide +kernel
theorem dJx40b00_toChars_7cf53_100 : decode cJx40b00_toChars_7cf53 100 = .ok (.ireturn, 1) := by decide +kernel
theorem dJx40b00_toChars_7cf53_101 : decode cJx40b00_toChars_7cf53 101 = .ok (.aload_n 0, 1) := by decide +kernel
theorem dJx40b00_toChars_7cf53_102 : decode cJx40b00_toChars_7cf53 102 = .ok (.iload 4, 2) := by decide +kernel
theorem dJx40b00_toChars_7cf53_104 : decode cJx40b00_toChars_7cf53 104 = .ok (.iload 5, 2) := by decide +kernel
theorem dJx40b00_toChars_7cf53_106 : decode cJx40b00_toChars_7cf53 106 = .ok (.iload_n 2, 1) := by decide +kernel
theorem dJx40b00_toChars_7cf53_107 : decode cJx40b00_toChars_7cf53 107 = .ok (.invokevirtual 129, 3) := by decide +kernel
theorem dJx40b00_toChars_7cf53_110 : decode cJx40b00_toChars_7cf53 110 = .ok (.ireturn, 1) := by decide +kernel
set_option maxRecDepth 20000 in
theorem ggJx40b00_toChars1_cabcc_Jx40b00_appendDigit_d00df : GoodIn wsJx40b00_toChars1_cabcc wsJx40b00_appendDigit_d00df := goodIn_r _ [6, 7, 8, 27, 28] rfl (by decide +kernel)
set_option maxRecDepth 20000 in
theorem gJx40b00_toChars1_cabcc_Jx40b00_appendDigit_d00df : GoodIn wsJx40b00_toChars1_cabcc (wsV RJx40b00 132 RJx40b00 yJx40b00_appendDigit_d00df wsJx40b00_appendDigit_d00df) := goodIn_app (goodIn_of _ (by decide +kernel)) ggJx40b00_toChars1_cabcc_Jx40b00_appendDigit_d00df
set_option maxRecDepth 20000 in
theorem ggJx40b00_toChars1_cabcc_Jx40b00_y_0f7a4 : GoodIn wsJx40b00_toChars1_cabcc wsJx40b00_y_0f7a4 := goodIn_r _ [12, 13, 14, 15, 16, 17, 18] rfl (by decide +kernel)
set_option maxRecDepth 20000 in
theorem gJx40b00_toChars1_cabcc_Jx40b00_y_0f7a4 : GoodIn wsJx40b00_toChars1_cabcc (wsV RJx40b00 135 RJx40b00 yJx40b00_y_0f7a4 wsJx40b00_y_0f7a4) := goodIn_app (goodIn_of _ (by decide +kernel)) ggJx40b00_toChars1_cabcc_Jx40b00_y_0f7a4
set_option maxRecDepth 20000 in
theorem ggJx40b00_toChars1_cabcc_Jx40b00_append_d00df : GoodIn wsJx40b00_toChars1_cabcc wsJx40b00_append_d00df := goodIn_r _ [22, 7, 8, 27, 28] rfl (by decide +kernel)
set_option maxRecDepth 20000 in
theorem gJx40b00_toChars1_cabcc_Jx40b00_append_d00df : GoodIn wsJx40b00_toChars1_cabcc (wsV RJx40b00 69 RJx40b00 yJx40b00_append_d00df wsJx40b00_append_d00df) := goodIn_app (goodIn_of _ (by decide +kernel)) ggJx40b00_toChars1_cabcc_Jx40b00_append_d00df
set_option maxRecDepth 20000 in
theorem ggJx40b00_toChars1_cabcc_Jx40b00_removeTrailingZeroes_da8c8 : GoodIn wsJx40b00_toChars1_cabcc wsJx40b00_removeTrailingZeroes_da8c8 := goodIn_r _ [26, 7, 8, 27, 28] rfl (by decide +kernel)
set_option maxRecDepth 20000 in
theorem gJx40b00_toChars1_cabcc_Jx40b00_removeTrailingZeroes_da8c8 : GoodIn wsJx40b00_toChars1_cabcc (wsV RJx40b00 139 RJx40b00 yJx40b00_removeTrailingZeroes_da8c8 wsJx40b00_removeTrailingZeroes_da8c8) := goodIn_app (goodIn_of _ (by decide +kernel)) ggJx40b00_toChars1_cabcc_Jx40b00_removeTrailingZeroes_da8c8
theorem dJx40b00_toChars1_cabcc_0 : decode cJx40b00_toChars1_cabcc 0 = .ok (.aload_n 0, 1) := by decide +kernel
theorem dJx40b00_toChars1_cabcc_1 : decode cJx40b00_toChars1_cabcc 1 = .ok (.iload_n 1, 1) := by decide +kernel
theorem dJx40b00_toChars1_cabcc_2 : decode cJx40b00_toChars1_cabcc 2 = .ok (.invokevirtual 132, 3) := by decide +kernel
theorem dJx40b00_toChars1_cabcc_5 : decode cJx40b00_toChars1_cabcc 5 = .ok (.aload_n 0, 1) := by decide +kernel
theorem dJx40b00_toChars1_cabcc_6 : decode cJx40b00_toChars1_cabcc 6 = .ok (.iload_n 2, 1) := by decide +kernel
theorem dJx40b00_toChars1_cabcc_7 : decode cJx40b00_toChars1_cabcc 7 = .ok (.invokevirtual 135, 3) := by decide +kernel
theorem dJx40b00_toChars1_cabcc_10 : decode cJx40b00_toChars1_cabcc 10 = .ok (.istore 4, 2) := by decide +kernel
theorem dJx40b00_toChars1_cabcc_12 : decode cJx40b00_toChars1_cabcc 12 = .ok (.iconst 1, 1) := by decide +kernel
theorem dJx40b00_toChars1_cabcc_13 : decode cJx40b00_toChars1_cabcc 13 = .ok (.istore 6, 2) := by decide +kernel
theorem dJx40b00_toChars1_cabcc_15 : decode cJx40b00_toChars1_cabcc 15 = .ok (.iload 6, 2) := by decide +kernel
theorem dJx40b00_toChars1_cabcc_17 : decode cJx40b00_toChars1_cabcc 17 = .ok (.iload_n 3, 1) := by decide +kernel
theorem dJx40b00_toChars1_cabcc_18 : decode cJx40b00_toChars1_cabcc 18 = .ok (.if_icmp .ge 32, 3) := by decide +kernel
theorem dJx40b00_toChars1_cabcc_21 : decode cJx40b00_toChars1_cabcc 21 = .ok (.bipush 10, 2) := by decide +kernel
theorem dJx40b00_toChars1_cabcc_23 : decode cJx40b00_toChars1_cabcc 23 = .ok (.iload 4, 2) := by decide +kernel
theorem dJx40b00_toChars1_cabcc_25 : decode cJx40b00_toChars1_cabcc 25 = .ok (.imul, 1) := by decide +kernel
theorem dJx40b00_toChars1_cabcc_26 : decode cJx40b00_toChars1_cabcc 26 = .ok (.istore 5, 2) := by decide +kernel
theorem dJx40b00_toChars1_cabcc_28 : decode cJx40b00_toChars1_cabcc 28 = .ok (.aload_n 0, 1) := by decide +kernel
theorem dJx40b00_toChars1_cabcc_29 : decode cJx40b00_toChars1_cabcc 29 = .ok (.iload 5, 2) := by decide +kernel
theorem dJx40b00_toChars1_cabcc_31 : decode cJx40b00_toChars1_cabcc 31 = .ok (.bipush 28, 2) := by decide +kernel
theorem dJx40b00_toChars1_cabcc_33 : decode cJx40b00_toChars1_cabcc 33 = .ok (.iushr, 1) := by decide +kernel
theorem dJx40b00_toChars1_cabcc_34 : decode cJx40b00_toChars1_cabcc 34 = .ok (.invokevirtual 132, 3) := by decide +kernel
theorem dJx40b00_toChars1_cabcc_37 : decode cJx40b00_toChars1_cabcc 37 = .ok (.iload 5, 2) := by decide +kernel
theorem dJx40b00_toChars1_cabcc_39 : decode cJx40b00_toChars1_cabcc 39 = .ok (.ldc 138, 2) := by decide +kernel
theorem dJx40b00_toChars1_cabcc_41 : decode cJx40b00_toChars1_cabcc 41 = .ok (.iand, 1) := by decide +kernel
theorem dJx40b00_toChars1_cabcc_42 : decode cJx40b00_toChars1_cabcc 42 = .ok (.istore 4, 2) := by decide +kernel
theorem dJx40b00_toChars1_cabcc_44 : decode cJx40b00_toChars1_cabcc 44 = .ok (.iinc 6 1, 3) := by decide +kernel
theorem dJx40b00_toChars1_cabcc_47 : decode cJx40b00_toChars1_cabcc 47 = .ok (.goto (-32), 3) := by decide +kernel
theorem dJx40b00_toChars1_cabcc_50 : decode cJx40b00_toChars1_cabcc 50 = .ok (.aload_n 0, 1) := by decide +kernel
theorem dJx40b00_toChars1_cabcc_51 : decode cJx40b00_toChars1_cabcc 51 = .ok (.bipush 46, 2) := by decide +kernel
theorem dJx40b00_toChars1_cabcc_53 : decode cJx40b00_toChars1_cabcc 53 = .ok (.invokevirtual 69, 3) := by decide +kernel
theorem dJx40b00_toChars1_cabcc_56 : decode cJx40b00_toChars1_cabcc 56 = .ok (.iload 6, 2) := by decide +kernel
theorem dJx40b00_toChars1_cabcc_58 : decode cJx40b00_toChars1_cabcc 58 = .ok (.bipush 8, 2) := by decide +kernel
theorem dJx40b00_toChars1_cabcc_60 : decode cJx40b00_toChars1_cabcc 60 = .ok (.if_icmp .gt 32, 3) := by decide +kernel
theorem dJx40b00_toChars1_cabcc_63 : decode cJx40b00_toChars1_cabcc 63 = .ok (.bipush 10, 2) := by decide +kernel
theorem dJx40b00_toChars1_cabcc_65 : decode cJx40b00_toChars1_cabcc 65 = .ok (.iload 4, 2) := by decide +kernel
theorem dJx40b00_toChars1_cabcc_67 : decode cJx40b00_toChars1_cabcc 67 = .ok (.imul, 1) := by decide +kernel
theorem dJx40b00_toChars1_cabcc_68 : decode cJx40b00_toChars1_cabcc 68 = .ok (.istore 5, 2) := by decide +kernel
theorem dJx40b00_toChars1_cabcc_70 : decode cJx40b00_toChars1_cabcc 70 = .ok (.aload_n 0, 1) := by decide +kernel
theorem dJx40b00_toChars1_cabcc_71 : decode cJx40b00_toChars1_cabcc 71 = .ok (.iload 5, 2) := by decide +kernel
theorem dJx40b00_toChars1_cabcc_73 : decode cJx40b00_toChars1_cabcc 73 = .ok (.bipush 28, 2) := by decide +kernel
theorem dJx40b00_toChars1_cabcc_75 : decode cJx40b00_toChars1_cabcc 75 = .ok (.iushr, 1) := by decide +kernel
theorem dJx40b00_toChars1_cabcc_76 : decode cJx40b00_toChars1_cabcc 76 = .ok (.invokevirtual 132, 3) := by decide +kernel
theorem dJx40b00_toChars1_cabcc_79 : decode cJx40b00_toChars1_cabcc 79 = .ok (.iload 5, 2) := by decide +kernel
theorem dJx40b00_toChars1_cabcc_81 : decode cJx40b00_toChars1_cabcc 81 = .ok (.ldc 138, 2) := by decide +kernel
theorem dJx40b00_toChars1_cabcc_83 : decode cJx40b00_toChars1_cabcc 83 = .ok (.iand, 1) := by decide +kernel
theorem dJx40b00_toChars1_cabcc_84 : decode cJx40b00_toChars1_cabcc 84 = .ok (.istore 4, 2) := by decide +kernel
theorem dJx40b00_toChars1_cabcc_86 : decode cJx40b00_toChars1_cabcc 86 = .ok (.iinc 6 1, 3) := by decide +kernel
theorem dJx40b00_toChars1_cabcc_89 : decode cJx40b00_toChars1_cabcc 89 = .ok (.goto (-33), 3) := by decide +kernel
theorem dJx40b00_toChars1_cabcc_92 : decode cJx40b00_toChars1_cabcc 92 = .ok (.aload_n 0, 1) := by decide +kernel
theorem dJx40b00_toChars1_cabcc_93 : decode cJx40b00_toChars1_cabcc 93 = .ok (.invokevirtual 139, 3) := by decide +kernel
theorem dJx40b00_toChars1_cabcc_96 : decode cJx40b00_toChars1_cabcc 96 = .ok (.iconst 0, 1) := by decide +kernel
theorem dJx40b00_toChars1_cabcc_97 : decode cJx40b00_toChars1_cabcc 97 = .ok (.ireturn, 1) := by decide +kernel
set_option maxRecDepth 20000 in
theorem ggJx40b00_toChars2_cabcc_Jx40b00_appendDigit_d00df : GoodIn wsJx40b00_toChars2_cabcc wsJx40b00_appendDigit_d00df := goodIn_r _ [5, 6, 7, 31, 32] rfl (by decide +kernel)
set_option maxRecDepth 20000 in
theorem gJx40b00_toChars2_cabcc_Jx40b00_appendDigit_d00df : GoodIn wsJx40b00_toChars2_cabcc (wsV RJx40b00 132 RJx40b00 yJx40b00_appendDigit_d00df wsJx40b00_appendDigit_d00df) := goodIn_app (goodIn_of _ (by decide +kernel)) ggJx40b00_toChars2_cabcc_Jx40b00_appendDigit_d00df
set_option maxRecDepth 20000 in
theorem ggJx40b00_toChars2_cabcc_Jx40b00_append_d00df : GoodIn wsJx40b00_toChars2_cabcc wsJx40b00_append_d00df := goodIn_r _ [11, 6, 7, 31, 32] rfl (by decide +kernel)
set_option maxRecDepth 20000 in
theorem gJx40b00_toChars2_cabcc_Jx40b00_append_d00df : GoodIn wsJx40b00_toChars2_cabcc (wsV RJx40b00 69 RJx40b00 yJx40b00_append_d00df wsJx40b00_append_d00df) := goodIn_app (goodIn_of _ (by decide +kernel)) ggJx40b00_toChars2_cabcc_Jx40b00_append_d00df
set_option maxRecDepth 20000 in
theorem ggJx40b00_toChars2_cabcc_Jx40b00_append8Digits_d00df : GoodIn wsJx40b00_toChars2_cabcc wsJx40b00_append8Digits_d00df := goodIn_r _ [15, 16, 17, 18, 19, 4, 20, 21, 22, 23, 24, 25, 26, 1, 2, 3, 5, 6, 7, 31, 32] rfl (by decide +kernel)
set_option maxRecDepth 20000 in
theorem gJx40b00_toChars2_cabcc_Jx40b00_append8Digits_d00df : GoodIn wsJx40b00_toChars2_cabcc (wsV RJx40b00 142 RJx40b00 yJx40b00_append8Digits_d00df wsJx40b00_append8Digits_d00df) := goodIn_app (goodIn_of _ (by decide +kernel)) ggJx40b00_toChars2_cabcc_Jx40b00_append8Digits_d00df
set_option maxRecDepth 20000 in
theorem ggJx40b00_toChars2_cabcc_Jx40b00_removeTrailingZeroes_da8c8 : GoodIn wsJx40b00_toChars2_cabcc wsJx40b00_removeTrailingZeroes_da8c8 := goodIn_r _ [30, 6, 7, 31, 32] rfl (by decide +kernel)
set_option maxRecDepth 20000 in
theorem gJx40b00_toChars2_cabcc_Jx40b00_removeTrailingZeroes_da8c8 : GoodIn wsJx40b00_toChars2_cabcc (wsV RJx40b00 139 RJx40b00 yJx40b00_removeTrailingZeroes_da8c8 wsJx40b00_removeTrailingZeroes_da8c8) := goodIn_app (goodIn_of _ (by decide +kernel)) ggJx40b00_toChars2_cabcc_Jx40b00_removeTrailingZeroes_da8c8
theorem dJx40b00_toChars2_cabcc_0 : decode cJx40b00_toChars2_cabcc 0 = .ok (.aload_n 0, 1) := by decide +kernel
theorem dJx40b00_toChars2_cabcc_1 : decode cJx40b00_toChars2_cabcc 1 = .ok (.iconst 0, 1) := by decide +kernel
theorem dJx40b00_toChars2_cabcc_2 : decode cJx40b00_toChars2_cabcc 2 = .ok (.invokevirtual 132, 3) := by decide +kernel
theorem dJx40b00_toChars2_cabcc_5 : decode cJx40b00_toChars2_cabcc 5 = .ok (.aload_n 0, 1) := by decide +kernel
theorem dJx40b00_toChars2_cabcc_6 : decode cJx40b00_toChars2_cabcc 6 = .ok (.bipush 46, 2) := by decide +kernel
theorem dJx40b00_toChars2_cabcc_8 : decode cJx40b00_toChars2_cabcc 8 = .ok (.invokevirtual 69, 3) := by decide +kernel
theorem dJx40b00_toChars2_cabcc_11 : decode cJx40b00_toChars2_cabcc 11 = .ok (.iload_n 3, 1) := by decide +kernel
theorem dJx40b00_toChars2_cabcc_12 : decode cJx40b00_toChars2_cabcc 12 = .ok (.ifCond .ge 14, 3) := by decide +kernel
theorem dJx40b00_toChars2_cabcc_15 : decode cJx40b00_toChars2_cabcc 15 = .ok (.aload_n 0, 1) := by decide +kernel
theorem dJx40b00_toChars2_cabcc_16 : decode cJx40b00_toChars2_cabcc 16 = .ok (.iconst 0, 1) := by decide +kernel
theorem dJx40b00_toChars2_cabcc_17 : decode cJx40b00_toChars2_cabcc 17 = .ok (.invokevirtual 132, 3) := by decide +kernel
theorem dJx40b00_toChars2_cabcc_20 : decode cJx40b00_toChars2_cabcc 20 = .ok (.iinc 3 1, 3) := by decide +kernel
theorem dJx40b00_toChars2_cabcc_23 : decode cJx40b00_toChars2_cabcc 23 = .ok (.goto (-12), 3) := by decide +kernel
theorem dJx40b00_toChars2_cabcc_26 : decode cJx40b00_toChars2_cabcc 26 = .ok (.aload_n 0, 1) := by decide +kernel
theorem dJx40b00_toChars2_cabcc_27 : decode cJx40b00_toChars2_cabcc 27 = .ok (.iload_n 1, 1) := by decide +kernel
theorem dJx40b00_toChars2_cabcc_28 : decode cJx40b00_toChars2_cabcc 28 = .ok (.invokevirtual 132, 3) := by decide +kernel
theorem dJx40b00_toChars2_cabcc_31 : decode cJx40b00_toChars2_cabcc 31 = .ok (.aload_n 0, 1) := by decide +kernel
theorem dJx40b00_toChars2_cabcc_32 : decode cJx40b00_toChars2_cabcc 32 = .ok (.iload_n 2, 1) := by decide +kernel
theorem dJx40b00_toChars2_cabcc_33 : decode cJx40b00_toChars2_cabcc 33 = .ok (.invokevirtual 142, 3) := by decide +kernel
theorem dJx40b00_toChars2_cabcc_36 : decode cJx40b00_toChars2_cabcc 36 = .ok (.aload_n 0, 1) := by decide +kernel
theorem dJx40b00_toChars2_cabcc_37 : decode cJx40b00_toChars2_cabcc 37 = .ok (.invokevirtual 139, 3) := by decide +kernel
theorem dJx40b00_toChars2_cabcc_40 : decode cJx40b00_toChars2_cabcc 40 = .ok (.iconst 0, 1) := by decide +kernel
theorem dJx40b00_toChars2_cabcc_41 : decode cJx40b00_toChars2_cabcc 41 = .ok (.ireturn, 1) := by decide +kernel
set_option maxRecDepth 20000 in
theorem ggJx40b00_toChars3_cabcc_Jx40b00_appendDigit_d00df : GoodIn wsJx40b00_toChars3_cabcc wsJx40b00_appendDigit_d00df := goodIn_r _ [5, 6, 7, 35, 36] rfl (by decide +kernel)
set_option maxRecDepth 20000 in
theorem gJx40b00_toChars3_cabcc_Jx40b00_appendDigit_d00df : GoodIn wsJx40b00_toChars3_cabcc (wsV RJx40b00 132 RJx40b00 yJx40b00_appendDigit_d00df wsJx40b00_appendDigit_d00df) := goodIn_app (goodIn_of _ (by decide +kernel)) ggJx40b00_toChars3_cabcc_Jx40b00_appendDigit_d00df
set_option maxRecDepth 20000 in
theorem ggJx40b00_toChars3_cabcc_Jx40b00_append_d00df : GoodIn wsJx40b00_toChars3_cabcc wsJx40b00_append_d00df := goodIn_r _ [11, 6, 7, 35, 36] rfl (by decide +kernel)
set_option maxRecDepth 20000 in
theorem gJx40b00_toChars3_cabcc_Jx40b00_append_d00df : GoodIn wsJx40b00_toChars3_cabcc (wsV RJx40b00 69 RJx40b00 yJx40b00_append_d00df wsJx40b00_append_d00df) := goodIn_app (goodIn_of _ (by decide +kernel)) ggJx40b00_toChars3_cabcc_Jx40b00_append_d00df
set_option maxRecDepth 20000 in
theorem ggJx40b00_toChars3_cabcc_Jx40b00_append8Digits_d00df : GoodIn wsJx40b00_toChars3_cabcc wsJx40b00_append8Digits_d00df := goodIn_r _ [15, 16, 17, 18, 19, 4, 20, 21, 22, 23, 24, 25, 26, 1, 2, 3, 5, 6, 7, 35, 36] rfl (by decide +kernel)
set_option maxRecDepth 20000 in
theorem gJx40b00_toChars3_cabcc_Jx40b00_append8Digits_d00df : GoodIn wsJx40b00_toChars3_cabcc (wsV RJx40b00 142 RJx40b00 yJx40b00_append8Digits_d00df wsJx40b00_append8Digits_d00df) := goodIn_app (goodIn_of _ (by decide +kernel)) ggJx40b00_toChars3_cabcc_Jx40b00_append8Digits_d00df
set_option maxRecDepth 20000 in
theorem ggJx40b00_toChars3_cabcc_Jx40b00_removeTrailingZeroes_da8c8 : GoodIn wsJx40b00_toChars3_cabcc wsJx40b00_removeTrailingZeroes_da8c8 := goodIn_r _ [30, 6, 7, 35, 36] rfl (by decide +kernel)
set_option maxRecDepth 20000 in
theorem gJx40b00_toChars3_cabcc_Jx40b00_removeTrailingZeroes_da8c8 : GoodIn wsJx40b00_toChars3_cabcc (wsV RJx40b00 139 RJx40b00 yJx40b00_removeTrailingZeroes_da8c8 wsJx40b00_removeTrailingZeroes_da8c8) := goodIn_app (goodIn_of _ (by decide +kernel)) ggJx40b00_toChars3_cabcc_Jx40b00_removeTrailingZeroes_da8c8
set_option maxRecDepth 20000 in
theorem ggJx40b00_toChars3_cabcc_Jx40b00_exponent_d00df : GoodIn wsJx40b00_toChars3_cabcc wsJx40b00_exponent_d00df := goodIn_r _ [34, 8, 9, 10, 4, 11, 6, 7, 1, 2, 3, 5, 35, 36] rfl (by decide +kernel)
set_option maxRecDepth 20000 in
theorem gJx40b00_toChars3_cabcc_Jx40b00_exponent_d00df : GoodIn wsJx40b00_toChars3_cabcc (wsV RJx40b00 145 RJx40b00 yJx40b00_exponent_d00df wsJx40b00_exponent_d00df) := goodIn_app (goodIn_of _ (by decide +kernel)) ggJx40b00_toChars3_cabcc_Jx40b00_exponent_d00df
theorem dJx40b00_toChars3_cabcc_0 : decode cJx40b00_toChars3_cabcc 0 = .ok (.aload_n 0, 1) := by decide +kernel
theorem dJx40b00_toChars3_cabcc_1 : decode cJx40b00_toChars3_cabcc 1 = .ok (.iload_n 1, 1) := by decide +kernel
theorem dJx40b00_toChars3_cabcc_2 : decode cJx40b00_toChars3_cabcc 2 = .ok (.invokevirtual 132, 3) := by decide +kernel
theorem dJx40b00_toChars3_cabcc_5 : decode cJx40b00_toChars3_cabcc 5 = .ok (.aload_n 0, 1) := by decide +kernel
theorem dJx40b00_toChars3_cabcc_6 : decode cJx40b00_toChars3_cabcc 6 = .ok (.bipush 46, 2) := by decide +kernel
theorem dJx40b00_toChars3_cabcc_8 : decode cJx40b00_toChars3_cabcc 8 = .ok (.invokevirtual 69, 3) := by decide +kernel
theorem dJx40b00_toChars3_cabcc_11 : decode cJx40b00_toChars3_cabcc 11 = .ok (.aload_n 0, 1) := by decide +kernel
theorem dJx40b00_toChars3_cabcc_12 : decode cJx40b00_toChars3_cabcc 12 = .ok (.iload_n 2, 1) := by decide +kernel
theorem dJx40b00_toChars3_cabcc_13 : decode cJx40b00_toChars3_cabcc 13 = .ok (.invokevirtual 142, 3) := by decide +kernel
theorem dJx40b00_toChars3_cabcc_16 : decode cJx40b00_toChars3_cabcc 16 = .ok (.aload_n 0, 1) := by decide +kernel
theorem dJx40b00_toChars3_cabcc_17 : decode cJx40b00_toChars3_cabcc 17 = .ok (.invokevirtual 139, 3) := by decide +kernel
theorem dJx40b00_toChars3_cabcc_20 : decode cJx40b00_toChars3_cabcc 20 = .ok (.aload_n 0, 1) := by decide +kernel
theorem dJx40b00_toChars3_cabcc_21 : decode cJx40b00_toChars3_cabcc 21 = .ok (.iload_n 3, 1) := by decide +kernel
theorem dJx40b00_toChars3_cabcc_22 : decode cJx40b00_toChars3_cabcc 22 = .ok (.iconst 1, 1) := by decide +kernel
theorem dJx40b00_toChars3_cabcc_23 : decode cJx40b00_toChars3_cabcc 23 = .ok (.isub, 1) := by decide +kernel
theorem dJx40b00_toChars3_cabcc_24 : decode cJx40b00_toChars3_cabcc 24 = .ok (.invokevirtual 145, 3) := by decide +kernel
theorem dJx40b00_toChars3_cabcc_27 : decode cJx40b00_toChars3_cabcc 27 = .ok (.iconst 0, 1) := by decide +kernel
theorem dJx40b00_toChars3_cabcc_28 : decode cJx40b00_toChars3_cabcc 28 = .ok (.ireturn, 1) := by decide +kernel
set_option maxRecDepth 20000 in
theorem ggJx40b00_append8Digits_d00df_Jx40b00_y_0f7a4 : GoodIn wsJx40b00_append8Digits_d00df wsJx40b00_y_0f7a4 := goodIn_r _ [6, 7, 8, 9, 10, 11, 12] rfl (by decide +kernel)
set_option maxRecDepth 20000 in
theorem gJx40b00_append8Digits_d00df_Jx40b00_y_0f7a4 : GoodIn wsJx40b00_append8Digits_d00df (wsV RJx40b00 135 RJx40b00 yJx40b00_y_0f7a4 wsJx40b00_y_0f7a4) := goodIn_app (goodIn_of _ (by decide +kernel)) ggJx40b00_append8Digits_d00df_Jx40b00_y_0f7a4
set_option maxRecDepth 20000 in
theorem ggJx40b00_append8Digits_d00df_Jx40b00_appendDigit_d00df : GoodIn wsJx40b00_append8Digits_d00df wsJx40b00_appendDigit_d00df := goodIn_r _ [16, 17, 18, 19, 20] rfl (by decide +kernel)
set_option maxRecDepth 20000 in
theorem gJx40b00_append8Digits_d00df_Jx40b00_appendDigit_d00df : GoodIn wsJx40b00_append8Digits_d00df (wsV RJx40b00 132 RJx40b00 yJx40b00_appendDigit_d00df wsJx40b00_appendDigit_d00df) := goodIn_app (goodIn_of _ (by decide +kernel)) ggJx40b00_append8Digits_d00df_Jx40b00_appendDigit_d00df
theorem dJx40b00_append8Digits_d00df_0 : decode cJx40b00_append8Digits_d00df 0 = .ok (.aload_n 0, 1) := by decide +kernel
theorem dJx40b00_append8Digits_d00df_1 : decode cJx40b00_append8Digits_d00df 1 = .ok (.iload_n 1, 1) := by decide +kernel
theorem dJx40b00_append8Digits_d00df_2 : decode cJx40b00_append8Digits_d00df 2 = .ok (.invokevirtual 135, 3) := by decide +kernel
theorem dJx40b00_append8Digits_d00df_5 : decode cJx40b00_append8Digits_d00df 5 = .ok (.istore_n 2, 1) := by decide +kernel
theorem dJx40b00_append8Digits_d00df_6 : decode cJx40b00_append8Digits_d00df 6 = .ok (.iconst 0, 1) := by decide +kernel
theorem dJx40b00_append8Digits_d00df_7 : decode cJx40b00_append8Digits_d00df 7 = .ok (.istore_n 3, 1) := by decide +kernel
theorem dJx40b00_append8Digits_d00df_8 : decode cJx40b00_append8Digits_d00df 8 = .ok (.iload_n 3, 1) := by decide +kernel
theorem dJx40b00_append8Digits_d00df_9 : decode cJx40b00_append8Digits_d00df 9 = .ok (.bipush 8, 2) := by decide +kernel
theorem dJx40b00_append8Digits_d00df_11 : decode cJx40b00_append8Digits_d00df 11 = .ok (.if_icmp .ge 30, 3) := by decide +kernel
theorem dJx40b00_append8Digits_d00df_14 : decode cJx40b00_append8Digits_d00df 14 = .ok (.bipush 10, 2) := by decide +kernel
theorem dJx40b00_append8Digits_d00df_16 : decode cJx40b00_append8Digits_d00df 16 = .ok (.iload_n 2, 1) := by decide +kernel
theorem dJx40b00_append8Digits_d00df_17 : decode cJx40b00_append8Digits_d00df 17 = .ok (.imul, 1) := by decide +kernel
theorem dJx40b00_append8Digits_d00df_18 : decode cJx40b00_append8Digits_d00df 18 = .ok (.istore 4, 2) := by decide +kernel
theorem dJx40b00_append8Digits_d00df_20 : decode cJx40b00_append8Digits_d00df 20 = .ok (.aload_n 0, 1) := by decide +kernel
theorem dJx40b00_append8Digits_d00df_21 : decode cJx40b00_append8Digits_d00df 21 = .ok (.iload 4, 2) := by decide +kernel
theorem dJx40b00_append8Digits_d00df_23 : decode cJx40b00_append8Digits_d00df 23 = .ok (.bipush 28, 2) := by decide +kernel
theorem dJx40b00_append8Digits_d00df_25 : decode cJx40b00_append8Digits_d00df 25 = .ok (.iushr, 1) := by decide +kernel
theorem dJx40b00_append8Digits_d00df_26 : decode cJx40b00_append8Digits_d00df 26 = .ok (.invokevirtual 132, 3) := by decide +kernel
theorem dJx40b00_append8Digits_d00df_29 : decode cJx40b00_append8Digits_d00df 29 = .ok (.iload 4, 2) := by decide +kernel
theorem dJx40b00_append8Digits_d00df_31 : decode cJx40b00_append8Digits_d00df 31 = .ok (.ldc 138, 2) := by decide +kernel
theorem dJx40b00_append8Digits_d00df_33 : decode cJx40b00_append8Digits_d00df 33 = .ok (.iand, 1) := by decide +kernel
theorem dJx40b00_append8Digits_d00df_34 : decode cJx40b00_append8Digits_d00df 34 = .ok (.istore_n 2, 1) := by decide +kernel
theorem dJx40b00_append8Digits_d00df_35 : decode cJx40b00_append8Digits_d00df 35 = .ok (.iinc 3 1, 3) := by decide +kernel
theorem dJx40b00_append8Digits_d00df_38 : decode cJx40b00_append8Digits_d00df 38 = .ok (.goto (-30), 3) := by decide +kernel
theorem dJx40b00_append8Digits_d00df_41 : decode cJx40b00_append8Digits_d00df 41 = .ok (.return_, 1) := by decide +kernel
theorem dJx40b00_removeTrailingZeroes_da8c8_0 : decode cJx40b00_removeTrailingZeroes_da8c8 0 = .ok (.aload_n 0, 1) := by decide +kernel
theorem dJx40b00_removeTrailingZeroes_da8c8_1 : decode cJx40b00_removeTrailingZeroes_da8c8 1 = .ok (.getfield 11, 3) := by decide +kernel
theorem dJx40b00_removeTrailingZeroes_da8c8_4 : decode cJx40b00_removeTrailingZeroes_da8c8 4 = .ok (.aload_n 0, 1) := by decide +kernel
theorem dJx40b00_removeTrailingZeroes_da8c8_5 : decode cJx40b00_removeTrailingZeroes_da8c8 5 = .ok (.getfield 42, 3) := by decide +kernel
theorem dJx40b00_removeTrailingZeroes_da8c8_8 : decode cJx40b00_removeTrailingZeroes_da8c8 8 = .ok (.baload, 1) := by decide +kernel
theorem dJx40b00_removeTrailingZeroes_da8c8_9 : decode cJx40b00_removeTrailingZeroes_da8c8 9 = .ok (.bipush 48, 2) := by decide +kernel
theorem dJx40b00_removeTrailingZeroes_da8c8_11 : decode cJx40b00_removeTrailingZeroes_da8c8 11 = .ok (.if_icmp .ne 16, 3) := by decide +kernel
theorem dJx40b00_removeTrailingZeroes_da8c8_14 : decode cJx40b00_removeTrailingZeroes_da8c8 14 = .ok (.aload_n 0, 1) := by decide +kernel
theorem dJx40b00_removeTrailingZeroes_da8c8_15 : decode cJx40b00_removeTrailingZeroes_da8c8 15 = .ok (.dup, 1) := by decide +kernel
theorem dJx40b00_removeTrailingZeroes_da8c8_16 : decode cJx40b00_removeTrailingZeroes_da8c8 16 = .ok (.getfield 42, 3) := by decide +kernel
theorem dJx40b00_removeTrailingZeroes_da8c8_19 : decode cJx40b00_removeTrailingZeroes_da8c8 19 = .ok (.iconst 1, 1) := by decide +kernel
theorem dJx40b00_removeTrailingZeroes_da8c8_20 : decode cJx40b00_removeTrailingZeroes_da8c8 20 = .ok (.isub, 1) := by decide +kernel
theorem dJx40b00_removeTrailingZeroes_da8c8_21 : decode cJx40b00_removeTrailingZeroes_da8c8 21 = .ok (.putfield 42, 3) := by decide +kernel
theorem dJx40b00_removeTrailingZeroes_da8c8_24 : decode cJx40b00_removeTrailingZeroes_da8c8 24 = .ok (.goto (-24), 3) := by decide +kernel
theorem dJx40b00_removeTrailingZeroes_da8c8_27 : decode cJx40b00_removeTrailingZeroes_da8c8 27 = .ok (.aload_n 0, 1) := by decide +kernel
theorem dJx40b00_removeTrailingZeroes_da8c8_28 : decode cJx40b00_removeTrailingZeroes_da8c8 28 = .ok (.getfield 11, 3) := by decide +kernel
theorem dJx40b00_removeTrailingZeroes_da8c8_31 : decode cJx40b00_removeTrailingZeroes_da8c8 31 = .ok (.aload_n 0, 1) := by decide +kernel
theorem dJx40b00_removeTrailingZeroes_da8c8_32 : decode cJx40b00_removeTrailingZeroes_da8c8 32 = .ok (.getfield 42, 3) := by decide +kernel
theorem dJx40b00_removeTrailingZeroes_da8c8_35 : decode cJx40b00_removeTrailingZeroes_da8c8 35 = .ok (.baload, 1) := by decide +kernel
theorem dJx40b00_removeTrailingZeroes_da8c8_36 : decode cJx40b00_removeTrailingZeroes_da8c8 36 = .ok (.bipush 46, 2) := by decide +kernel
theorem dJx40b00_removeTrailingZeroes_da8c8_38 : decode cJx40b00_removeTrailingZeroes_da8c8 38 = .ok (.if_icmp .ne 13, 3) := by decide +kernel
theorem dJx40b00_removeTrailingZeroes_da8c8_41 : decode cJx40b00_removeTrailingZeroes_da8c8 41 = .ok (.aload_n 0, 1) := by decide +kernel
theorem dJx40b00_removeTrailingZeroes_da8c8_42 : decode cJx40b00_removeTrailingZeroes_da8c8 42 = .ok (.dup, 1) := by decide +kernel
theorem dJx40b00_removeTrailingZeroes_da8c8_43 : decode cJx40b00_removeTrailingZeroes_da8c8 43 = .ok (.getfield 42, 3) := by decide +kernel
theorem dJx40b00_removeTrailingZeroes_da8c8_46 : decode cJx40b00_removeTrailingZeroes_da8c8 46 = .ok (.iconst 1, 1) := by decide +kernel
theorem dJx40b00_removeTrailingZeroes_da8c8_47 : decode cJx40b00_removeTrailingZeroes_da8c8 47 = .ok (.iadd, 1) := by decide +kernel
theorem dJx40b00_removeTrailingZeroes_da8c8_48 : decode cJx40b00_removeTrailingZeroes_da8c8 48 = .ok (.putfield 42, 3) := by decide +kernel
theorem dJx40b00_removeTrailingZeroes_da8c8_51 : decode cJx40b00_removeTrailingZeroes_da8c8 51 = .ok (.return_, 1) := by decide +kernel
set_option maxRecDepth 20000 in
theorem ggJx40b00_y_0f7a4_J9_multiplyHigh_f86c9 : GoodIn wsJx40b00_y_0f7a4 wsJ9_multiplyHigh_f86c9 := goodIn_r _ [5, 6] rfl (by decide +kernel)
set_option maxRecDepth 20000 in
theorem gJx40b00_y_0f7a4_J9_multiplyHigh_f86c9 : GoodIn wsJx40b00_y_0f7a4 (va_wsS RJx40b00 104 yJ9_multiplyHigh_f86c9 wsJ9_multiplyHigh_f86c9) := goodIn_app (goodIn_of _ (by decide +kernel)) ggJx40b00_y_0f7a4_J9_multiplyHigh_f86c9
theorem dJx40b00_y_0f7a4_0 : decode cJx40b00_y_0f7a4 0 = .ok (.iload_n 1, 1) := by decide +kernel
theorem dJx40b00_y_0f7a4_1 : decode cJx40b00_y_0f7a4 1 = .ok (.iconst 1, 1) := by decide +kernel
theorem dJx40b00_y_0f7a4_2 : decode cJx40b00_y_0f7a4 2 = .ok (.iadd, 1) := by decide +kernel
theorem dJx40b00_y_0f7a4_3 : decode cJx40b00_y_0f7a4 3 = .ok (.i2l, 1) := by decide +kernel
theorem dJx40b00_y_0f7a4_4 : decode cJx40b00_y_0f7a4 4 = .ok (.bipush 28, 2) := by decide +kernel
theorem dJx40b00_y_0f7a4_6 : decode cJx40b00_y_0f7a4 6 = .ok (.lshl, 1) := by decide +kernel
theorem dJx40b00_y_0f7a4_7 : decode cJx40b00_y_0f7a4 7 = .ok (.ldc2_w 148, 3) := by decide +kernel
theorem dJx40b00_y_0f7a4_10 : decode cJx40b00_y_0f7a4 10 = .ok (.invokestatic 104, 3) := by decide +kernel
theorem dJx40b00_y_0f7a4_13 : decode cJx40b00_y_0f7a4 13 = .ok (.bipush 20, 2) := by decide +kernel
theorem dJx40b00_y_0f7a4_15 : decode cJx40b00_y_0f7a4 15 = .ok (.lushr, 1) := by decide +kernel
theorem dJx40b00_y_0f7a4_16 : decode cJx40b00_y_0f7a4 16 = .ok (.l2i, 1) := by decide +kernel
theorem dJx40b00_y_0f7a4_17 : decode cJx40b00_y_0f7a4 17 = .ok (.iconst 1, 1) := by decide +kernel
theorem dJx40b00_y_0f7a4_18 : decode cJx40b00_y_0f7a4 18 = .ok (.isub, 1) := by decide +kernel
theorem dJx40b00_y_0f7a4_19 : decode cJx40b00_y_0f7a4 19 = .ok (.ireturn, 1) := by decide +kernel
set_option maxRecDepth 20000 in
theorem ggJx40b00_exponent_d00df_Jx40b00_append_d00df : GoodIn wsJx40b00_exponent_d00df wsJx40b00_append_d00df := goodIn_r _ [5, 6, 7, 12, 13] rfl (by decide +kernel)
set_option maxRecDepth 20000 in
theorem gJx40b00_exponent_d00df_Jx40b00_append_d00df : GoodIn wsJx40b00_exponent_d00df (wsV RJx40b00 69 RJx40b00 yJx40b00_append_d00df wsJx40b00_append_d00df) := goodIn_app (goodIn_of _ (by decide +kernel)) ggJx40b00_exponent_d00df_Jx40b00_append_d00df
set_option maxRecDepth 20000 in
theorem ggJx40b00_exponent_d00df_Jx40b00_appendDigit_d00df : GoodIn wsJx40b00_exponent_d00df wsJx40b00_appendDigit_d00df := goodIn_r _ [11, 6, 7, 12, 13] rfl (by decide +kernel)
set_option maxRecDepth 20000 in
theorem gJx40b00_exponent_d00df_Jx40b00_appendDigit_d00df : GoodIn wsJx40b00_exponent_d00df (wsV RJx40b00 132 RJx40b00 yJx40b00_appendDigit_d00df wsJx40b00_appendDigit_d00df) := goodIn_app (goodIn_of _ (by decide +kernel)) ggJx40b00_exponent_d00df_Jx40b00_appendDigit_d00df
theorem dJx40b00_exponent_d00df_0 : decode cJx40b00_exponent_d00df 0 = .ok (.aload_n 0, 1) := by decide +kernel
theorem dJx40b00_exponent_d00df_1 : decode cJx40b00_exponent_d00df 1 = .ok (.bipush 69, 2) := by decide +kernel
theorem dJx40b00_exponent_d00df_3 : decode cJx40b00_exponent_d00df 3 = .ok (.invokevirtual 69, 3) := by decide +kernel
theorem dJx40b00_exponent_d00df_6 : decode cJx40b00_exponent_d00df 6 = .ok (.iload_n 1, 1) := by decide +kernel
theorem dJx40b00_exponent_d00df_7 : decode cJx40b00_exponent_d00df 7 = .ok (.ifCond .ge 12, 3) := by decide +kernel
theorem dJx40b00_exponent_d00df_10 : decode cJx40b00_exponent_d00df 10 = .ok (.aload_n 0, 1) := by decide +kernel
theorem dJx40b00_exponent_d00df_11 : decode cJx40b00_exponent_d00df 11 = .ok (.bipush 45, 2) := by decide +kernel
theorem dJx40b00_exponent_d00df_13 : decode cJx40b00_exponent_d00df 13 = .ok (.invokevirtual 69, 3) := by decide +kernel
theorem dJx40b00_exponent_d00df_16 : decode cJx40b00_exponent_d00df 16 = .ok (.iload_n 1, 1) := by decide +kernel
theorem dJx40b00_exponent_d00df_17 : decode cJx40b00_exponent_d00df 17 = .ok (.ineg, 1) := by decide +kernel
theorem dJx40b00_exponent_d00df_18 : decode cJx40b00_exponent_d00df 18 = .ok (.istore_n 1, 1) := by decide +kernel
theorem dJx40b00_exponent_d00df_19 : decode cJx40b00_exponent_d00df 19 = .ok (.iload_n 1, 1) := by decide +kernel
theorem dJx40b00_exponent_d00df_20 : decode cJx40b00_exponent_d00df 20 = .ok (.bipush 10, 2) := by decide +kernel
theorem dJx40b00_exponent_d00df_22 : decode cJx40b00_exponent_d00df 22 = .ok (.if_icmp .ge 9, 3) := by decide +kernel
theorem dJx40b00_exponent_d00df_25 : decode cJx40b00_exponent_d00df 25 = .ok (.aload_n 0, 1) := by decide +kernel
theorem dJx40b00_exponent_d00df_26 : decode cJx40b00_exponent_d00df 26 = .ok (.iload_n 1, 1) := by decide +kernel
theorem dJx40b00_exponent_d00df_27 : decode cJx40b00_exponent_d00df 27 = .ok (.invokevirtual 132, 3) := by decide +kernel
theorem dJx40b00_exponent_d00df_30 : decode cJx40b00_exponent_d00df 30 = .ok (.return_, 1) := by decide +kernel
theorem dJx40b00_exponent_d00df_31 : decode cJx40b00_exponent_d00df 31 = .ok (.iload_n 1, 1) := by decide +kernel
theorem dJx40b00_exponent_d00df_32 : decode cJx40b00_exponent_d00df 32 = .ok (.bipush 103, 2) := by decide +kernel
theorem dJx40b00_exponent_d00df_34 : decode cJx40b00_exponent_d00df 34 = .ok (.imul, 1) := by decide +kernel
theorem dJx40b00_exponent_d00df_35 : decode cJx40b00_exponent_d00df 35 = .ok (.bipush 10, 2) := by decide +kernel
theorem dJx40b00_exponent_d00df_37 : decode cJx40b00_exponent_d00df 37 = .ok (.iushr, 1) := by decide +kernel
theorem dJx40b00_exponent_d00df_38 : decode cJx40b00_exponent_d00df 38 = .ok (.istore_n 2, 1) := by decide +kernel
theorem dJx40b00_exponent_d00df_39 : decode cJx40b00_exponent_d00df 39 = .ok (.aload_n 0, 1) := by decide +kernel
theorem dJx40b00_exponent_d00df_40 : decode cJx40b00_exponent_d00df 40 = .ok (.iload_n 2, 1) := by decide +kernel
theorem dJx40b00_exponent_d00df_41 : decode cJx40b00_exponent_d00df 41 = .ok (.invokevirtual 132, 3) := by decide +kernel
theorem dJx40b00_exponent_d00df_44 : decode cJx40b00_exponent_d00df 44 = .ok (.aload_n 0, 1) := by decide +kernel
theorem dJx40b00_exponent_d00df_45 : decode cJx40b00_exponent_d00df 45 = .ok (.iload_n 1, 1) := by decide +kernel
theorem dJx40b00_exponent_d00df_46 : decode cJx40b00_exponent_d00df 46 = .ok (.bipush 10, 2) := by decide +kernel
theorem dJx40b00_exponent_d00df_48 : decode cJx40b00_exponent_d00df 48 = .ok (.iload_n 2, 1) := by decide +kernel
theorem dJx40b00_exponent_d00df_49 : decode cJx40b00_exponent_d00df 49 = .ok (.imul, 1) := by decide +kernel
theorem dJx40b00_exponent_d00df_50 : decode cJx40b00_exponent_d00df 50 = .ok (.isub, 1) := by decide +kernel
theorem dJx40b00_exponent_d00df_51 : decode cJx40b00_exponent_d00df 51 = .ok (.invokevirtual 132, 3) := by decide +kernel
theorem dJx40b00_exponent_d00df_54 : decode cJx40b00_exponent_d00df 54 = .ok (.return_, 1) := by decide +kernel
theorem dJx40b00_append_d00df_0 : decode cJx40b00_append_d00df 0 = .ok (.aload_n 0, 1) := by decide +kernel
theorem dJx40b00_append_d00df_1 : decode cJx40b00_append_d00df 1 = .ok (.getfield 11, 3) := by decide +kernel
theorem dJx40b00_append_d00df_4 : decode cJx40b00_append_d00df 4 = .ok (.aload_n 0, 1) := by decide +kernel
theorem dJx40b00_append_d00df_5 : decode cJx40b00_append_d00df 5 = .ok (.dup, 1) := by decide +kernel
theorem dJx40b00_append_d00df_6 : decode cJx40b00_append_d00df 6 = .ok (.getfield 42, 3) := by decide +kernel
theorem dJx40b00_append_d00df_9 : decode cJx40b00_append_d00df 9 = .ok (.iconst 1, 1) := by decide +kernel
theorem dJx40b00_append_d00df_10 : decode cJx40b00_append_d00df 10 = .ok (.iadd, 1) := by decide +kernel
theorem dJx40b00_append_d00df_11 : decode cJx40b00_append_d00df 11 = .ok (.dup_x1, 1) := by decide +kernel
theorem dJx40b00_append_d00df_12 : decode cJx40b00_append_d00df 12 = .ok (.putfield 42, 3) := by decide +kernel
theorem dJx40b00_append_d00df_15 : decode cJx40b00_append_d00df 15 = .ok (.iload_n 1, 1) := by decide +kernel
theorem dJx40b00_append_d00df_16 : decode cJx40b00_append_d00df 16 = .ok (.i2b, 1) := by decide +kernel
theorem dJx40b00_append_d00df_17 : decode cJx40b00_append_d00df 17 = .ok (.bastore, 1) := by decide +kernel
theorem dJx40b00_append_d00df_18 : decode cJx40b00_append_d00df 18 = .ok (.return_, 1) := by decide +kernel
theorem dJx40b00_appendDigit_d00df_0 : decode cJx40b00_appendDigit_d00df 0 = .ok (.aload_n 0, 1) := by decide +kernel
theorem dJx40b00_appendDigit_d00df_1 : decode cJx40b00_appendDigit_d00df 1 = .ok (.getfield 11, 3) := by decide +kernel
theorem dJx40b00_appendDigit_d00df_4 : decode cJx40b00_appendDigit_d00df 4 = .ok (.aload_n 0, 1) := by decide +kernel
theorem dJx40b00_appendDigit_d00df_5 : decode cJx40b00_appendDigit_d00df 5 = .ok (.dup, 1) := by decide +kernel
theorem dJx40b00_appendDigit_d00df_6 : decode cJx40b00_appendDigit_d00df 6 = .ok (.getfield 42, 3) := by decide +kernel
theorem dJx40b00_appendDigit_d00df_9 : decode cJx40b00_appendDigit_d00df 9 = .ok (.iconst 1, 1) := by decide +kernel
theorem dJx40b00_appendDigit_d00df_10 : decode cJx40b00_appendDigit_d00df 10 = .ok (.iadd, 1) := by decide +kernel
theorem dJx40b00_appendDigit_d00df_11 : decode cJx40b00_appendDigit_d00df 11 = .ok (.dup_x1, 1) := by decide +kernel
theorem dJx40b00_appendDigit_d00df_12 : decode cJx40b00_appendDigit_d00df 12 = .ok (.putfield 42, 3) := by decide +kernel
theorem dJx40b00_appendDigit_d00df_15 : decode cJx40b00_appendDigit_d00df 15 = .ok (.bipush 48, 2) := by decide +kernel
theorem dJx40b00_appendDigit_d00df_17 : decode cJx40b00_appendDigit_d00df 17 = .ok (.iload_n 1, 1) := by decide +kernel
theorem dJx40b00_appendDigit_d00df_18 : decode cJx40b00_appendDigit_d00df 18 = .ok (.iadd, 1) := by decide +kernel
theorem dJx40b00_appendDigit_d00df_19 : decode cJx40b00_appendDigit_d00df 19 = .ok (.i2b, 1) := by decide +kernel
theorem dJx40b00_appendDigit_d00df_20 : decode cJx40b00_appendDigit_d00df 20 = .ok (.bastore, 1) := by decide +kernel
theorem dJx40b00_appendDigit_d00df_21 : decode cJx40b00_appendDigit_d00df 21 = .ok (.return_, 1) := by decide +kernel
theorem dJx25f51_pow10_3e8ac_0 : decode cJx25f51_pow10_3e8ac 0 = .ok (.getstatic 14, 3) := by decide +kernel
theorem dJx25f51_pow10_3e8ac_3 : decode cJx25f51_pow10_3e8ac 3 = .ok (.iload_n 0, 1) := by decide +kernel
theorem dJx25f51_pow10_3e8ac_4 : decode cJx25f51_pow10_3e8ac 4 = .ok (.laload, 1) := by decide +kernel
theorem dJx25f51_pow10_3e8ac_5 : decode cJx25f51_pow10_3e8ac 5 = .ok (.lreturn, 1) := by decide +kernel
theorem dJx25f51_flog10pow2_0f7a4_0 : decode cJx25f51_flog10pow2_0f7a4 0 = .ok (.iload_n 0, 1) := by decide +kernel
theorem dJx25f51_flog10pow2_0f7a4_1 : decode cJx25f51_flog10pow2_0f7a4 1 = .ok (.i2l, 1) := by decide +kernel
theorem dJx25f51_flog10pow2_0f7a4_2 : decode cJx25f51_flog10pow2_0f7a4 2 = .ok (.ldc2_w 20, 3) := by decide +kernel
theorem dJx25f51_flog10pow2_0f7a4_5 : decode cJx25f51_flog10pow2_0f7a4 5 = .ok (.lmul, 1) := by decide +kernel
theorem dJx25f51_flog10pow2_0f7a4_6 : decode cJx25f51_flog10pow2_0f7a4 6 = .ok (.bipush 41, 2) := by decide +kernel
theorem dJx25f51_flog10pow2_0f7a4_8 : decode cJx25f51_flog10pow2_0f7a4 8 = .ok (.lshr, 1) := by decide +kernel
theorem dJx25f51_flog10pow2_0f7a4_9 : decode cJx25f51_flog10pow2_0f7a4 9 = .ok (.l2i, 1) := by decide +kernel
theorem dJx25f51_flog10pow2_0f7a4_10 : decode cJx25f51_flog10pow2_0f7a4 10 = .ok (.ireturn, 1) := by decide +kernel
theorem dJx25f51_flog10threeQuartersPow2_0f7a4_0 : decode cJx25f51_flog10threeQuartersPow2_0f7a4 0 = .ok (.iload_n 0, 1) := by decide +kernel
theorem dJx25f51_flog10threeQuartersPow2_0f7a4_1 : decode cJx25f51_flog10threeQuartersPow2_0f7a4 1 = .ok (.i2l, 1) := by decide +kernel
theorem dJx25f51_flog10threeQuartersPow2_0f7a4_2 : decode cJx25f51_flog10threeQuartersPow2_0f7a4 2 = .ok (.ldc2_w 20, 3) := by decide +kernel
theorem dJx25f51_flog10threeQuartersPow2_0f7a4_5 : decode cJx25f51_flog10threeQuartersPow2_0f7a4 5 = .ok (.lmul, 1) := by decide +kernel
theorem dJx25f51_flog10threeQuartersPow2_0f7a4_6 : decode cJx25f51_flog10threeQuartersPow2_0f7a4 6 = .ok (.ldc2_w 22, 3) := by decide +kernel
theorem dJx25f51_flog10threeQuartersPow2_0f7a4_9 : decode cJx25f51_flog10threeQuartersPow2_0f7a4 9 = .ok (.ladd, 1) := by decide +kernel
theorem dJx25f51_flog10threeQuartersPow2_0f7a4_10 : decode cJx25f51_flog10threeQuartersPow2_0f7a4 10 = .ok (.bipush 41, 2) := by decide +kernel
theorem dJx25f51_flog10threeQuartersPow2_0f7a4_12 : decode cJx25f51_flog10threeQuartersPow2_0f7a4 12 = .ok (.lshr, 1) := by decide +kernel
theorem dJx25f51_flog10threeQuartersPow2_0f7a4_13 : decode cJx25f51_flog10threeQuartersPow2_0f7a4 13 = .ok (.l2i, 1) := by decide +kernel
theorem dJx25f51_flog10threeQuartersPow2_0f7a4_14 : decode cJx25f51_flog10threeQuartersPow2_0f7a4 14 = .ok (.ireturn, 1) := by decide +kernel
theorem dJx25f51_flog2pow10_0f7a4_0 : decode cJx25f51_flog2pow10_0f7a4 0 = .ok (.iload_n 0, 1) := by decide +kernel
theorem dJx25f51_flog2pow10_0f7a4_1 : decode cJx25f51_flog2pow10_0f7a4 1 = .ok (.i2l, 1) := by decide +kernel
theorem dJx25f51_flog2pow10_0f7a4_2 : decode cJx25f51_flog2pow10_0f7a4 2 = .ok (.ldc2_w 24, 3) := by decide +kernel
theorem dJx25f51_flog2pow10_0f7a4_5 : decode cJx25f51_flog2pow10_0f7a4 5 = .ok (.lmul, 1) := by decide +kernel
theorem dJx25f51_flog2pow10_0f7a4_6 : decode cJx25f51_flog2pow10_0f7a4 6 = .ok (.bipush 38, 2) := by decide +kernel
theorem dJx25f51_flog2pow10_0f7a4_8 : decode cJx25f51_flog2pow10_0f7a4 8 = .ok (.lshr, 1) := by decide +kernel
theorem dJx25f51_flog2pow10_0f7a4_9 : decode cJx25f51_flog2pow10_0f7a4 9 = .ok (.l2i, 1) := by decide +kernel
theorem dJx25f51_flog2pow10_0f7a4_10 : decode cJx25f51_flog2pow10_0f7a4 10 = .ok (.ireturn, 1) := by decide +kernel
theorem dJx25f51_g1_3e8ac_0 : decode cJx25f51_g1_3e8ac 0 = .ok (.getstatic 26, 3) := by decide +kernel
theorem dJx25f51_g1_3e8ac_3 : decode cJx25f51_g1_3e8ac 3 = .ok (.iload_n 0, 1) := by decide +kernel
theorem dJx25f51_g1_3e8ac_4 : decode cJx25f51_g1_3e8ac 4 = .ok (.sipush (-324), 3) := by decide +kernel
theorem dJx25f51_g1_3e8ac_7 : decode cJx25f51_g1_3e8ac 7 = .ok (.isub, 1) := by decide +kernel
theorem dJx25f51_g1_3e8ac_8 : decode cJx25f51_g1_3e8ac 8 = .ok (.iconst 1, 1) := by decide +kernel
theorem dJx25f51_g1_3e8ac_9 : decode cJx25f51_g1_3e8ac 9 = .ok (.ishl, 1) := by decide +kernel
theorem dJx25f51_g1_3e8ac_10 : decode cJx25f51_g1_3e8ac 10 = .ok (.laload, 1) := by decide +kernel
theorem dJx25f51_g1_3e8ac_11 : decode cJx25f51_g1_3e8ac 11 = .ok (.lreturn, 1) := by decide +kernel
set_option maxRecDepth 20000 in
theorem ggJ8_newLength_cabcc_J8_hugeLength_7cf53 : GoodIn wsJ8_newLength_cabcc wsJ8_hugeLength_7cf53 := goodIn_r _ [9, 5] rfl (by decide +kernel)
set_option maxRecDepth 20000 in
theorem gJ8_newLength_cabcc_J8_hugeLength_7cf53 : GoodIn wsJ8_newLength_cabcc (va_wsS RJ8 201 yJ8_hugeLength_7cf53 wsJ8_hugeLength_7cf53) := goodIn_app (goodIn_of _ (by decide +kernel)) ggJ8_newLength_cabcc_J8_hugeLength_7cf53
theorem dJ8_newLength_cabcc_0 : decode cJ8_newLength_cabcc 0 = .ok (.iload_n 0, 1) := by decide +kernel
theorem dJ8_newLength_cabcc_1 : decode cJ8_newLength_cabcc 1 = .ok (.iload_n 1, 1) := by decide +kernel
theorem dJ8_newLength_cabcc_2 : decode cJ8_newLength_cabcc 2 = .ok (.iload_n 2, 1) := by decide +kernel
theorem dJ8_newLength_cabcc_3 : decode cJ8_newLength_cabcc 3 = .ok (.invokestatic 194, 3) := by decide +kernel
theorem dJ8_newLength_cabcc_6 : decode cJ8_newLength_cabcc 6 = .ok (.iadd, 1) := by decide +kernel
theorem dJ8_newLength_cabcc_7 : decode cJ8_newLength_cabcc 7 = .ok (.istore_n 3, 1) := by decide +kernel
theorem dJ8_newLength_cabcc_8 : decode cJ8_newLength_cabcc 8 = .ok (.iconst 0, 1) := by decide +kernel
theorem dJ8_newLength_cabcc_9 : decode cJ8_newLength_cabcc 9 = .ok (.iload_n 3, 1) := by decide +kernel
theorem dJ8_newLength_cabcc_10 : decode cJ8_newLength_cabcc 10 = .ok (.if_icmp .ge 11, 3) := by decide +kernel
theorem dJ8_newLength_cabcc_13 : decode cJ8_newLength_cabcc 13 = .ok (.iload_n 3, 1) := by decide +kernel
theorem dJ8_newLength_cabcc_14 : decode cJ8_newLength_cabcc 14 = .ok (.ldc 200, 2) := by decide +kernel
theorem dJ8_newLength_cabcc_16 : decode cJ8_newLength_cabcc 16 = .ok (.if_icmp .gt 5, 3) := by decide +kernel
theorem dJ8_newLength_cabcc_19 : decode cJ8_newLength_cabcc 19 = .ok (.iload_n 3, 1) := by decide +kernel
theorem dJ8_newLength_cabcc_20 : decode cJ8_newLength_cabcc 20 = .ok (.ireturn, 1) := by decide +kernel
theorem dJ8_newLength_cabcc_21 : decode cJ8_newLength_cabcc 21 = .ok (.iload_n 0, 1) := by decide +kernel
theorem dJ8_newLength_cabcc_22 : decode cJ8_newLength_cabcc 22 = .ok (.iload_n 1, 1) := by decide +kernel
theorem dJ8_newLength_cabcc_23 : decode cJ8_newLength_cabcc 23 = .ok (.invokestatic 201, 3) := by decide +kernel
theorem dJ8_newLength_cabcc_26 : decode cJ8_newLength_cabcc 26 = .ok (.ireturn, 1) := by decide +kernel
theorem dJ8_hugeLength_7cf53_0 : decode cJ8_hugeLength_7cf53 0 = .ok (.iload_n 0, 1) := by decide +kernel
theorem dJ8_hugeLength_7cf53_1 : decode cJ8_hugeLength_7cf53 1 = .ok (.iload_n 1, 1) := by decide +kernel
theorem dJ8_hugeLength_7cf53_2 : decode cJ8_hugeLength_7cf53 2 = .ok (.iadd, 1) := by decide +kernel
theorem dJ8_hugeLength_7cf53_3 : decode cJ8_hugeLength_7cf53 3 = .ok (.istore_n 2, 1) := by decide +kernel
theorem dJ8_hugeLength_7cf53_4 : decode cJ8_hugeLength_7cf53 4 = .ok (.iload_n 2, 1) := by decide +kernel
theorem dJ8_hugeLength_7cf53_5 : decode cJ8_hugeLength_7cf53 5 = .ok (.ifCond .ge 44, 3) := by decide +kernel
theorem dJ8_hugeLength_7cf53_8 : decode cJ8_hugeLength_7cf53 8 = .ok (.new 204, 3) := by decide +kernel
theorem dJ8_hugeLength_7cf53_11 : decode cJ8_hugeLength_7cf53 11 = .ok (.dup, 1) := by decide +kernel
theorem dJ8_hugeLength_7cf53_12 : decode cJ8_hugeLength_7cf53 12 = .ok (.new 89, 3) := by decide +kernel
theorem dJ8_hugeLength_7cf53_15 : decode cJ8_hugeLength_7cf53 15 = .ok (.dup, 1) := by decide +kernel
theorem dJ8_hugeLength_7cf53_16 : decode cJ8_hugeLength_7cf53 16 = .ok (.invokespecial 91, 3) := by decide +kernel
theorem dJ8_hugeLength_7cf53_19 : decode cJ8_hugeLength_7cf53 19 = .ok (.ldc 206, 2) := by decide +kernel
theorem dJ8_hugeLength_7cf53_21 : decode cJ8_hugeLength_7cf53 21 = .ok (.invokevirtual 94, 3) := by decide +kernel
theorem dJ8_hugeLength_7cf53_24 : decode cJ8_hugeLength_7cf53 24 = .ok (.iload_n 0, 1) := by decide +kernel
theorem dJ8_hugeLength_7cf53_25 : decode cJ8_hugeLength_7cf53 25 = .ok (.invokevirtual 98, 3) := by decide +kernel
theorem dJ8_hugeLength_7cf53_28 : decode cJ8_hugeLength_7cf53 28 = .ok (.ldc 208, 2) := by decide +kernel
theorem dJ8_hugeLength_7cf53_30 : decode cJ8_hugeLength_7cf53 30 = .ok (.invokevirtual 94, 3) := by decide +kernel
theorem dJ8_hugeLength_7cf53_33 : decode cJ8_hugeLength_7cf53 33 = .ok (.iload_n 1, 1) := by decide +kernel
theorem dJ8_hugeLength_7cf53_34 : decode cJ8_hugeLength_7cf53 34 = .ok (.invokevirtual 98, 3) := by decide +kernel
theorem dJ8_hugeLength_7cf53_37 : decode cJ8_hugeLength_7cf53 37 = .ok (.ldc 210, 2) := by decide +kernel
theorem dJ8_hugeLength_7cf53_39 : decode cJ8_hugeLength_7cf53 39 = .ok (.invokevirtual 94, 3) := by decide +kernel
theorem dJ8_hugeLength_7cf53_42 : decode cJ8_hugeLength_7cf53 42 = .ok (.invokevirtual 101, 3) := by decide +kernel
theorem dJ8_hugeLength_7cf53_45 : decode cJ8_hugeLength_7cf53 45 = .ok (.invokespecial 212, 3) := by decide +kernel
theorem dJ8_hugeLength_7cf53_48 : decode cJ8_hugeLength_7cf53 48 = .ok (.athrow, 1) := by decide +kernel
theorem dJ8_hugeLength_7cf53_49 : decode cJ8_hugeLength_7cf53 49 = .ok (.iload_n 2, 1) := by decide +kernel
theorem dJ8_hugeLength_7cf53_50 : decode cJ8_hugeLength_7cf53 50 = .ok (.ldc 200, 2) := by decide +kernel
theorem dJ8_hugeLength_7cf53_52 : decode cJ8_hugeLength_7cf53 52 = .ok (.if_icmp .gt 6, 3) := by decide +kernel
theorem dJ8_hugeLength_7cf53_55 : decode cJ8_hugeLength_7cf53 55 = .ok (.ldc 200, 2) := by decide +kernel
theorem dJ8_hugeLength_7cf53_57 : decode cJ8_hugeLength_7cf53 57 = .ok (.ireturn, 1) := by decide +kernel
theorem dJ8_hugeLength_7cf53_58 : decode cJ8_hugeLength_7cf53 58 = .ok (.iload_n 2, 1) := by decide +kernel
theorem dJ8_hugeLength_7cf53_59 : decode cJ8_hugeLength_7cf53 59 = .ok (.ireturn, 1) := by decide +kernel
theorem dJ3_checkIndex_8e157_0 : decode cJ3_checkIndex_8e157 0 = .ok (.iload_n 0, 1) := by decide +kernel
theorem dJ3_checkIndex_8e157_1 : decode cJ3_checkIndex_8e157 1 = .ok (.ifCond .lt 8, 3) := by decide +kernel
theorem dJ3_checkIndex_8e157_4 : decode cJ3_checkIndex_8e157 4 = .ok (.iload_n 0, 1) := by decide +kernel
theorem dJ3_checkIndex_8e157_5 : decode cJ3_checkIndex_8e157 5 = .ok (.iload_n 1, 1) := by decide +kernel
theorem dJ3_checkIndex_8e157_6 : decode cJ3_checkIndex_8e157 6 = .ok (.if_icmp .lt 10, 3) := by decide +kernel
theorem dJ3_checkIndex_8e157_9 : decode cJ3_checkIndex_8e157 9 = .ok (.aload_n 2, 1) := by decide +kernel
theorem dJ3_checkIndex_8e157_10 : decode cJ3_checkIndex_8e157 10 = .ok (.iload_n 0, 1) := by decide +kernel
theorem dJ3_checkIndex_8e157_11 : decode cJ3_checkIndex_8e157 11 = .ok (.iload_n 1, 1) := by decide +kernel
theorem dJ3_checkIndex_8e157_12 : decode cJ3_checkIndex_8e157 12 = .ok (.invokestatic 95, 3) := by decide +kernel
theorem dJ3_checkIndex_8e157_15 : decode cJ3_checkIndex_8e157 15 = .ok (.athrow, 1) := by decide +kernel
theorem dJ3_checkIndex_8e157_16 : decode cJ3_checkIndex_8e157 16 = .ok (.iload_n 0, 1) := by decide +kernel
theorem dJ3_checkIndex_8e157_17 : decode cJ3_checkIndex_8e157 17 = .ok (.ireturn, 1) := by decide +kernel
theorem dJ3_checkFromToIndex_8c36e_0 : decode cJ3_checkFromToIndex_8c36e 0 = .ok (.iload_n 0, 1) := by decide +kernel
theorem dJ3_checkFromToIndex_8c36e_1 : decode cJ3_checkFromToIndex_8c36e 1 = .ok (.ifCond .lt 13, 3) := by decide +kernel
theorem dJ3_checkFromToIndex_8c36e_4 : decode cJ3_checkFromToIndex_8c36e 4 = .ok (.iload_n 0, 1) := by decide +kernel
theorem dJ3_checkFromToIndex_8c36e_5 : decode cJ3_checkFromToIndex_8c36e 5 = .ok (.iload_n 1, 1) := by decide +kernel
theorem dJ3_checkFromToIndex_8c36e_6 : decode cJ3_checkFromToIndex_8c36e 6 = .ok (.if_icmp .gt 8, 3) := by decide +kernel
theorem dJ3_checkFromToIndex_8c36e_9 : decode cJ3_checkFromToIndex_8c36e 9 = .ok (.iload_n 1, 1) := by decide +kernel
theorem dJ3_checkFromToIndex_8c36e_10 : decode cJ3_checkFromToIndex_8c36e 10 = .ok (.iload_n 2, 1) := by decide +kernel
theorem dJ3_checkFromToIndex_8c36e_11 : decode cJ3_checkFromToIndex_8c36e 11 = .ok (.if_icmp .le 11, 3) := by decide +kernel
theorem dJ3_checkFromToIndex_8c36e_14 : decode cJ3_checkFromToIndex_8c36e 14 = .ok (.aload_n 3, 1) := by decide +kernel
theorem dJ3_checkFromToIndex_8c36e_15 : decode cJ3_checkFromToIndex_8c36e 15 = .ok (.iload_n 0, 1) := by decide +kernel
theorem dJ3_checkFromToIndex_8c36e_16 : decode cJ3_checkFromToIndex_8c36e 16 = .ok (.iload_n 1, 1) := by decide +kernel
theorem dJ3_checkFromToIndex_8c36e_17 : decode cJ3_checkFromToIndex_8c36e 17 = .ok (.iload_n 2, 1) := by decide +kernel
theorem dJ3_checkFromToIndex_8c36e_18 : decode cJ3_checkFromToIndex_8c36e 18 = .ok (.invokestatic 99, 3) := by decide +kernel
theorem dJ3_checkFromToIndex_8c36e_21 : decode cJ3_checkFromToIndex_8c36e 21 = .ok (.athrow, 1) := by decide +kernel
theorem dJ3_checkFromToIndex_8c36e_22 : decode cJ3_checkFromToIndex_8c36e 22 = .ok (.iload_n 0, 1) := by decide +kernel
theorem dJ3_checkFromToIndex_8c36e_23 : decode cJ3_checkFromToIndex_8c36e 23 = .ok (.ireturn, 1) := by decide +kernel
theorem dJ3_checkFromIndexSize_8c36e_0 : decode cJ3_checkFromIndexSize_8c36e 0 = .ok (.iload_n 2, 1) := by decide +kernel
theorem dJ3_checkFromIndexSize_8c36e_1 : decode cJ3_checkFromIndexSize_8c36e 1 = .ok (.iload_n 0, 1) := by decide +kernel
theorem dJ3_checkFromIndexSize_8c36e_2 : decode cJ3_checkFromIndexSize_8c36e 2 = .ok (.ior, 1) := by decide +kernel
theorem dJ3_checkFromIndexSize_8c36e_3 : decode cJ3_checkFromIndexSize_8c36e 3 = .ok (.iload_n 1, 1) := by decide +kernel
theorem dJ3_checkFromIndexSize_8c36e_4 : decode cJ3_checkFromIndexSize_8c36e 4 = .ok (.ior, 1) := by decide +kernel
theorem dJ3_checkFromIndexSize_8c36e_5 : decode cJ3_checkFromIndexSize_8c36e 5 = .ok (.ifCond .lt 10, 3) := by decide +kernel
theorem dJ3_checkFromIndexSize_8c36e_8 : decode cJ3_checkFromIndexSize_8c36e 8 = .ok (.iload_n 1, 1) := by decide +kernel
theorem dJ3_checkFromIndexSize_8c36e_9 : decode cJ3_checkFromIndexSize_8c36e 9 = .ok (.iload_n 2, 1) := by decide +kernel
theorem dJ3_checkFromIndexSize_8c36e_10 : decode cJ3_checkFromIndexSize_8c36e 10 = .ok (.iload_n 0, 1) := by decide +kernel
theorem dJ3_checkFromIndexSize_8c36e_11 : decode cJ3_checkFromIndexSize_8c36e 11 = .ok (.isub, 1) := by decide +kernel
theorem dJ3_checkFromIndexSize_8c36e_12 : decode cJ3_checkFromIndexSize_8c36e 12 = .ok (.if_icmp .le 11, 3) := by decide +kernel
theorem dJ3_checkFromIndexSize_8c36e_15 : decode cJ3_checkFromIndexSize_8c36e 15 = .ok (.aload_n 3, 1) := by decide +kernel
theorem dJ3_checkFromIndexSize_8c36e_16 : decode cJ3_checkFromIndexSize_8c36e 16 = .ok (.iload_n 0, 1) := by decide +kernel
theorem dJ3_checkFromIndexSize_8c36e_17 : decode cJ3_checkFromIndexSize_8c36e 17 = .ok (.iload_n 1, 1) := by decide +kernel
theorem dJ3_checkFromIndexSize_8c36e_18 : decode cJ3_checkFromIndexSize_8c36e 18 = .ok (.iload_n 2, 1) := by decide +kernel
theorem dJ3_checkFromIndexSize_8c36e_19 : decode cJ3_checkFromIndexSize_8c36e 19 = .ok (.invokestatic 103, 3) := by decide +kernel
theorem dJ3_checkFromIndexSize_8c36e_22 : decode cJ3_checkFromIndexSize_8c36e 22 = .ok (.athrow, 1) := by decide +kernel
theorem dJ3_checkFromIndexSize_8c36e_23 : decode cJ3_checkFromIndexSize_8c36e 23 = .ok (.iload_n 0, 1) := by decide +kernel
theorem dJ3_checkFromIndexSize_8c36e_24 : decode cJ3_checkFromIndexSize_8c36e 24 = .ok (.ireturn, 1) := by decide +kernel
