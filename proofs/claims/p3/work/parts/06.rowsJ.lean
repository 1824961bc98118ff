set_option maxRecDepth 20000 in
theorem ggJ5_init_d00df_J2_newBytesFor_77867 : GoodIn wsJ5_init_d00df wsJ2_newBytesFor_77867 := goodIn_r _ [11, 5, 12, 13, 10, 14, 15] rfl (by decide +kernel)
set_option maxRecDepth 20000 in
theorem gJ5_init_d00df_J2_newBytesFor_77867 : GoodIn wsJ5_init_d00df (va_wsS RJ5 26 yJ2_newBytesFor_77867 wsJ2_newBytesFor_77867) := goodIn_app (goodIn_r _ [8, 9, 10] rfl rfl) ggJ5_init_d00df_J2_newBytesFor_77867
theorem qdJ5_init_d00df_0_20 : dcAll cJ5_init_d00df [(0, .aload_n 0, 1), (1, .invokespecial 3, 3), (4, .getstatic 18, 3), (7, .ifCond .eq 18, 3), (10, .aload_n 0, 1), (11, .iload_n 1, 1), (12, .newarray .byte, 2), (14, .putfield 15, 3), (17, .aload_n 0, 1), (18, .iconst 0, 1), (19, .putfield 22, 3), (22, .goto 16, 3), (25, .aload_n 0, 1), (26, .iload_n 1, 1), (27, .invokestatic 26, 3), (30, .putfield 15, 3), (33, .aload_n 0, 1), (34, .iconst 1, 1), (35, .putfield 22, 3), (38, .return_, 1)] := dcAll_of (by decide +kernel)
theorem dJ5_init_d00df_0 : decode cJ5_init_d00df 0 = .ok (.aload_n 0, 1) := qdJ5_init_d00df_0_20.1
theorem dJ5_init_d00df_1 : decode cJ5_init_d00df 1 = .ok (.invokespecial 3, 3) := qdJ5_init_d00df_0_20.2.1
theorem dJ5_init_d00df_4 : decode cJ5_init_d00df 4 = .ok (.getstatic 18, 3) := qdJ5_init_d00df_0_20.2.2.1
theorem dJ5_init_d00df_7 : decode cJ5_init_d00df 7 = .ok (.ifCond .eq 18, 3) := qdJ5_init_d00df_0_20.2.2.2.1
theorem dJ5_init_d00df_10 : decode cJ5_init_d00df 10 = .ok (.aload_n 0, 1) := qdJ5_init_d00df_0_20.2.2.2.2.1
theorem dJ5_init_d00df_11 : decode cJ5_init_d00df 11 = .ok (.iload_n 1, 1) := qdJ5_init_d00df_0_20.2.2.2.2.2.1
theorem dJ5_init_d00df_12 : decode cJ5_init_d00df 12 = .ok (.newarray .byte, 2) := qdJ5_init_d00df_0_20.2.2.2.2.2.2.1
theorem dJ5_init_d00df_14 : decode cJ5_init_d00df 14 = .ok (.putfield 15, 3) := qdJ5_init_d00df_0_20.2.2.2.2.2.2.2.1
theorem dJ5_init_d00df_17 : decode cJ5_init_d00df 17 = .ok (.aload_n 0, 1) := qdJ5_init_d00df_0_20.2.2.2.2.2.2.2.2.1
theorem dJ5_init_d00df_18 : decode cJ5_init_d00df 18 = .ok (.iconst 0, 1) := qdJ5_init_d00df_0_20.2.2.2.2.2.2.2.2.2.1
theorem dJ5_init_d00df_19 : decode cJ5_init_d00df 19 = .ok (.putfield 22, 3) := qdJ5_init_d00df_0_20.2.2.2.2.2.2.2.2.2.2.1
theorem dJ5_init_d00df_22 : decode cJ5_init_d00df 22 = .ok (.goto 16, 3) := qdJ5_init_d00df_0_20.2.2.2.2.2.2.2.2.2.2.2.1
theorem dJ5_init_d00df_25 : decode cJ5_init_d00df 25 = .ok (.aload_n 0, 1) := qdJ5_init_d00df_0_20.2.2.2.2.2.2.2.2.2.2.2.2.1
theorem dJ5_init_d00df_26 : decode cJ5_init_d00df 26 = .ok (.iload_n 1, 1) := qdJ5_init_d00df_0_20.2.2.2.2.2.2.2.2.2.2.2.2.2.1
theorem dJ5_init_d00df_27 : decode cJ5_init_d00df 27 = .ok (.invokestatic 26, 3) := qdJ5_init_d00df_0_20.2.2.2.2.2.2.2.2.2.2.2.2.2.2.1
theorem dJ5_init_d00df_30 : decode cJ5_init_d00df 30 = .ok (.putfield 15, 3) := qdJ5_init_d00df_0_20.2.2.2.2.2.2.2.2.2.2.2.2.2.2.2.1
theorem dJ5_init_d00df_33 : decode cJ5_init_d00df 33 = .ok (.aload_n 0, 1) := qdJ5_init_d00df_0_20.2.2.2.2.2.2.2.2.2.2.2.2.2.2.2.2.1
theorem dJ5_init_d00df_34 : decode cJ5_init_d00df 34 = .ok (.iconst 1, 1) := qdJ5_init_d00df_0_20.2.2.2.2.2.2.2.2.2.2.2.2.2.2.2.2.2.1
theorem dJ5_init_d00df_35 : decode cJ5_init_d00df 35 = .ok (.putfield 22, 3) := qdJ5_init_d00df_0_20.2.2.2.2.2.2.2.2.2.2.2.2.2.2.2.2.2.2.1
theorem dJ5_init_d00df_38 : decode cJ5_init_d00df 38 = .ok (.return_, 1) := qdJ5_init_d00df_0_20.2.2.2.2.2.2.2.2.2.2.2.2.2.2.2.2.2.2.2.1
theorem qdJ5_length_8abf5_0_3 : dcAll cJ5_length_8abf5 [(0, .aload_n 0, 1), (1, .getfield 79, 3), (4, .ireturn, 1)] := dcAll_of (by decide +kernel)
theorem dJ5_length_8abf5_0 : decode cJ5_length_8abf5 0 = .ok (.aload_n 0, 1) := qdJ5_length_8abf5_0_3.1
theorem dJ5_length_8abf5_1 : decode cJ5_length_8abf5 1 = .ok (.getfield 79, 3) := qdJ5_length_8abf5_0_3.2.1
theorem dJ5_length_8abf5_4 : decode cJ5_length_8abf5 4 = .ok (.ireturn, 1) := qdJ5_length_8abf5_0_3.2.2.1
set_option maxRecDepth 20000 in
theorem ggJ5_ensureCapacityInternal_d00df_J5_newCapacity_0f7a4 : GoodIn wsJ5_ensureCapacityInternal_d00df wsJ5_newCapacity_0f7a4 := goodIn_r _ [8, 1, 2, 9, 10, 11, 12, 13, 14, 15, 16, 17, 18, 19, 20, 21, 40, 41, 42, 43] rfl (by decide +kernel)
set_option maxRecDepth 20000 in
theorem gJ5_ensureCapacityInternal_d00df_J5_newCapacity_0f7a4_u104J4 : GoodIn wsJ5_ensureCapacityInternal_d00df (va_wsU RJ5 104 RJ4 "java/lang/AbstractStringBuilder" ⟨"java/lang/AbstractStringBuilder", "newCapacity", "(I)I"⟩ yJ5_newCapacity_0f7a4 wsJ5_newCapacity_0f7a4) := goodIn_app (goodIn_of _ (by decide +kernel)) ggJ5_ensureCapacityInternal_d00df_J5_newCapacity_0f7a4
set_option maxRecDepth 20000 in
theorem ggJ5_ensureCapacityInternal_d00df_J7_copyOf_9075b : GoodIn wsJ5_ensureCapacityInternal_d00df wsJ7_copyOf_9075b := goodIn_r _ [25, 26, 27, 28, 29, 30, 31, 32, 33, 34, 16, 35, 36, 37, 38, 39] rfl (by decide +kernel)
set_option maxRecDepth 20000 in
theorem gJ5_ensureCapacityInternal_d00df_J7_copyOf_9075b : GoodIn wsJ5_ensureCapacityInternal_d00df (va_wsS RJ5 108 yJ7_copyOf_9075b wsJ7_copyOf_9075b) := goodIn_app (goodIn_r _ [22, 23, 24] rfl rfl) ggJ5_ensureCapacityInternal_d00df_J7_copyOf_9075b
theorem qdJ5_ensureCapacityInternal_d00df_0_23 : dcAll cJ5_ensureCapacityInternal_d00df [(0, .aload_n 0, 1), (1, .getfield 15, 3), (4, .arraylength, 1), (5, .aload_n 0, 1), (6, .getfield 22, 3), (9, .ishr, 1), (10, .istore_n 2, 1), (11, .iload_n 1, 1), (12, .iload_n 2, 1), (13, .isub, 1), (14, .ifCond .le 24, 3), (17, .aload_n 0, 1), (18, .aload_n 0, 1), (19, .getfield 15, 3), (22, .aload_n 0, 1), (23, .iload_n 1, 1), (24, .invokevirtual 104, 3), (27, .aload_n 0, 1), (28, .getfield 22, 3), (31, .ishl, 1), (32, .invokestatic 108, 3), (35, .putfield 15, 3), (38, .return_, 1)] := dcAll_of (by decide +kernel)
theorem dJ5_ensureCapacityInternal_d00df_0 : decode cJ5_ensureCapacityInternal_d00df 0 = .ok (.aload_n 0, 1) := qdJ5_ensureCapacityInternal_d00df_0_23.1
theorem dJ5_ensureCapacityInternal_d00df_1 : decode cJ5_ensureCapacityInternal_d00df 1 = .ok (.getfield 15, 3) := qdJ5_ensureCapacityInternal_d00df_0_23.2.1
theorem dJ5_ensureCapacityInternal_d00df_4 : decode cJ5_ensureCapacityInternal_d00df 4 = .ok (.arraylength, 1) := qdJ5_ensureCapacityInternal_d00df_0_23.2.2.1
theorem dJ5_ensureCapacityInternal_d00df_5 : decode cJ5_ensureCapacityInternal_d00df 5 = .ok (.aload_n 0, 1) := qdJ5_ensureCapacityInternal_d00df_0_23.2.2.2.1
theorem dJ5_ensureCapacityInternal_d00df_6 : decode cJ5_ensureCapacityInternal_d00df 6 = .ok (.getfield 22, 3) := qdJ5_ensureCapacityInternal_d00df_0_23.2.2.2.2.1
theorem dJ5_ensureCapacityInternal_d00df_9 : decode cJ5_ensureCapacityInternal_d00df 9 = .ok (.ishr, 1) := qdJ5_ensureCapacityInternal_d00df_0_23.2.2.2.2.2.1
theorem dJ5_ensureCapacityInternal_d00df_10 : decode cJ5_ensureCapacityInternal_d00df 10 = .ok (.istore_n 2, 1) := qdJ5_ensureCapacityInternal_d00df_0_23.2.2.2.2.2.2.1
theorem dJ5_ensureCapacityInternal_d00df_11 : decode cJ5_ensureCapacityInternal_d00df 11 = .ok (.iload_n 1, 1) := qdJ5_ensureCapacityInternal_d00df_0_23.2.2.2.2.2.2.2.1
theorem dJ5_ensureCapacityInternal_d00df_12 : decode cJ5_ensureCapacityInternal_d00df 12 = .ok (.iload_n 2, 1) := qdJ5_ensureCapacityInternal_d00df_0_23.2.2.2.2.2.2.2.2.1
theorem dJ5_ensureCapacityInternal_d00df_13 : decode cJ5_ensureCapacityInternal_d00df 13 = .ok (.isub, 1) := qdJ5_ensureCapacityInternal_d00df_0_23.2.2.2.2.2.2.2.2.2.1
theorem dJ5_ensureCapacityInternal_d00df_14 : decode cJ5_ensureCapacityInternal_d00df 14 = .ok (.ifCond .le 24, 3) := qdJ5_ensureCapacityInternal_d00df_0_23.2.2.2.2.2.2.2.2.2.2.1
theorem dJ5_ensureCapacityInternal_d00df_17 : decode cJ5_ensureCapacityInternal_d00df 17 = .ok (.aload_n 0, 1) := qdJ5_ensureCapacityInternal_d00df_0_23.2.2.2.2.2.2.2.2.2.2.2.1
theorem dJ5_ensureCapacityInternal_d00df_18 : decode cJ5_ensureCapacityInternal_d00df 18 = .ok (.aload_n 0, 1) := qdJ5_ensureCapacityInternal_d00df_0_23.2.2.2.2.2.2.2.2.2.2.2.2.1
theorem dJ5_ensureCapacityInternal_d00df_19 : decode cJ5_ensureCapacityInternal_d00df 19 = .ok (.getfield 15, 3) := qdJ5_ensureCapacityInternal_d00df_0_23.2.2.2.2.2.2.2.2.2.2.2.2.2.1
theorem dJ5_ensureCapacityInternal_d00df_22 : decode cJ5_ensureCapacityInternal_d00df 22 = .ok (.aload_n 0, 1) := qdJ5_ensureCapacityInternal_d00df_0_23.2.2.2.2.2.2.2.2.2.2.2.2.2.2.1
theorem dJ5_ensureCapacityInternal_d00df_23 : decode cJ5_ensureCapacityInternal_d00df 23 = .ok (.iload_n 1, 1) := qdJ5_ensureCapacityInternal_d00df_0_23.2.2.2.2.2.2.2.2.2.2.2.2.2.2.2.1
theorem dJ5_ensureCapacityInternal_d00df_24 : decode cJ5_ensureCapacityInternal_d00df 24 = .ok (.invokevirtual 104, 3) := qdJ5_ensureCapacityInternal_d00df_0_23.2.2.2.2.2.2.2.2.2.2.2.2.2.2.2.2.1
theorem dJ5_ensureCapacityInternal_d00df_27 : decode cJ5_ensureCapacityInternal_d00df 27 = .ok (.aload_n 0, 1) := qdJ5_ensureCapacityInternal_d00df_0_23.2.2.2.2.2.2.2.2.2.2.2.2.2.2.2.2.2.1
theorem dJ5_ensureCapacityInternal_d00df_28 : decode cJ5_ensureCapacityInternal_d00df 28 = .ok (.getfield 22, 3) := qdJ5_ensureCapacityInternal_d00df_0_23.2.2.2.2.2.2.2.2.2.2.2.2.2.2.2.2.2.2.1
theorem dJ5_ensureCapacityInternal_d00df_31 : decode cJ5_ensureCapacityInternal_d00df 31 = .ok (.ishl, 1) := qdJ5_ensureCapacityInternal_d00df_0_23.2.2.2.2.2.2.2.2.2.2.2.2.2.2.2.2.2.2.2.1
theorem dJ5_ensureCapacityInternal_d00df_32 : decode cJ5_ensureCapacityInternal_d00df 32 = .ok (.invokestatic 108, 3) := qdJ5_ensureCapacityInternal_d00df_0_23.2.2.2.2.2.2.2.2.2.2.2.2.2.2.2.2.2.2.2.2.1
theorem dJ5_ensureCapacityInternal_d00df_35 : decode cJ5_ensureCapacityInternal_d00df 35 = .ok (.putfield 15, 3) := qdJ5_ensureCapacityInternal_d00df_0_23.2.2.2.2.2.2.2.2.2.2.2.2.2.2.2.2.2.2.2.2.2.1
theorem dJ5_ensureCapacityInternal_d00df_38 : decode cJ5_ensureCapacityInternal_d00df 38 = .ok (.return_, 1) := qdJ5_ensureCapacityInternal_d00df_0_23.2.2.2.2.2.2.2.2.2.2.2.2.2.2.2.2.2.2.2.2.2.2.1
set_option maxRecDepth 20000 in
theorem ggJ5_newCapacity_0f7a4_J8_newLength_cabcc : GoodIn wsJ5_newCapacity_0f7a4 wsJ8_newLength_cabcc := goodIn_r _ [7, 8, 9, 10, 11, 12, 13, 14, 6, 15] rfl (by decide +kernel)
set_option maxRecDepth 20000 in
theorem gJ5_newCapacity_0f7a4_J8_newLength_cabcc : GoodIn wsJ5_newCapacity_0f7a4 (va_wsS RJ5 114 yJ8_newLength_cabcc wsJ8_newLength_cabcc) := goodIn_app (goodIn_r _ [4, 5, 6] rfl rfl) ggJ5_newCapacity_0f7a4_J8_newLength_cabcc
theorem qdJ5_newCapacity_0f7a4_0_24 : dcAll cJ5_newCapacity_0f7a4 [(0, .aload_n 0, 1), (1, .getfield 15, 3), (4, .arraylength, 1), (5, .istore_n 2, 1), (6, .iload_n 1, 1), (7, .aload_n 0, 1), (8, .getfield 22, 3), (11, .ishl, 1), (12, .istore_n 3, 1), (13, .iload_n 3, 1), (14, .iload_n 2, 1), (15, .isub, 1), (16, .istore 4, 2), (18, .iload_n 2, 1), (19, .iload 4, 2), (21, .iload_n 2, 1), (22, .iconst 2, 1), (23, .aload_n 0, 1), (24, .getfield 22, 3), (27, .ishl, 1), (28, .iadd, 1), (29, .invokestatic 114, 3), (32, .istore 5, 2), (34, .iload 5, 2)] := dcAll_of (by decide +kernel)
theorem dJ5_newCapacity_0f7a4_0 : decode cJ5_newCapacity_0f7a4 0 = .ok (.aload_n 0, 1) := qdJ5_newCapacity_0f7a4_0_24.1
theorem dJ5_newCapacity_0f7a4_1 : decode cJ5_newCapacity_0f7a4 1 = .ok (.getfield 15, 3) := qdJ5_newCapacity_0f7a4_0_24.2.1
theorem dJ5_newCapacity_0f7a4_4 : decode cJ5_newCapacity_0f7a4 4 = .ok (.arraylength, 1) := qdJ5_newCapacity_0f7a4_0_24.2.2.1
theorem dJ5_newCapacity_0f7a4_5 : decode cJ5_newCapacity_0f7a4 5 = .ok (.istore_n 2, 1) := qdJ5_newCapacity_0f7a4_0_24.2.2.2.1
theorem dJ5_newCapacity_0f7a4_6 : decode cJ5_newCapacity_0f7a4 6 = .ok (.iload_n 1, 1) := qdJ5_newCapacity_0f7a4_0_24.2.2.2.2.1
theorem dJ5_newCapacity_0f7a4_7 : decode cJ5_newCapacity_0f7a4 7 = .ok (.aload_n 0, 1) := qdJ5_newCapacity_0f7a4_0_24.2.2.2.2.2.1
theorem dJ5_newCapacity_0f7a4_8 : decode cJ5_newCapacity_0f7a4 8 = .ok (.getfield 22, 3) := qdJ5_newCapacity_0f7a4_0_24.2.2.2.2.2.2.1
theorem dJ5_newCapacity_0f7a4_11 : decode cJ5_newCapacity_0f7a4 11 = .ok (.ishl, 1) := qdJ5_newCapacity_0f7a4_0_24.2.2.2.2.2.2.2.1
theorem dJ5_newCapacity_0f7a4_12 : decode cJ5_newCapacity_0f7a4 12 = .ok (.istore_n 3, 1) := qdJ5_newCapacity_0f7a4_0_24.2.2.2.2.2.2.2.2.1
theorem dJ5_newCapacity_0f7a4_13 : decode cJ5_newCapacity_0f7a4 13 = .ok (.iload_n 3, 1) := qdJ5_newCapacity_0f7a4_0_24.2.2.2.2.2.2.2.2.2.1
theorem dJ5_newCapacity_0f7a4_14 : decode cJ5_newCapacity_0f7a4 14 = .ok (.iload_n 2, 1) := qdJ5_newCapacity_0f7a4_0_24.2.2.2.2.2.2.2.2.2.2.1
theorem dJ5_newCapacity_0f7a4_15 : decode cJ5_newCapacity_0f7a4 15 = .ok (.isub, 1) := qdJ5_newCapacity_0f7a4_0_24.2.2.2.2.2.2.2.2.2.2.2.1
theorem dJ5_newCapacity_0f7a4_16 : decode cJ5_newCapacity_0f7a4 16 = .ok (.istore 4, 2) := qdJ5_newCapacity_0f7a4_0_24.2.2.2.2.2.2.2.2.2.2.2.2.1
theorem dJ5_newCapacity_0f7a4_18 : decode cJ5_newCapacity_0f7a4 18 = .ok (.iload_n 2, 1) := qdJ5_newCapacity_0f7a4_0_24.2.2.2.2.2.2.2.2.2.2.2.2.2.1
theorem dJ5_newCapacity_0f7a4_19 : decode cJ5_newCapacity_0f7a4 19 = .ok (.iload 4, 2) := qdJ5_newCapacity_0f7a4_0_24.2.2.2.2.2.2.2.2.2.2.2.2.2.2.1
theorem dJ5_newCapacity_0f7a4_21 : decode cJ5_newCapacity_0f7a4 21 = .ok (.iload_n 2, 1) := qdJ5_newCapacity_0f7a4_0_24.2.2.2.2.2.2.2.2.2.2.2.2.2.2.2.1
theorem dJ5_newCapacity_0f7a4_22 : decode cJ5_newCapacity_0f7a4 22 = .ok (.iconst 2, 1) := qdJ5_newCapacity_0f7a4_0_24.2.2.2.2.2.2.2.2.2.2.2.2.2.2.2.2.1
theorem dJ5_newCapacity_0f7a4_23 : decode cJ5_newCapacity_0f7a4 23 = .ok (.aload_n 0, 1) := qdJ5_newCapacity_0f7a4_0_24.2.2.2.2.2.2.2.2.2.2.2.2.2.2.2.2.2.1
theorem dJ5_newCapacity_0f7a4_24 : decode cJ5_newCapacity_0f7a4 24 = .ok (.getfield 22, 3) := qdJ5_newCapacity_0f7a4_0_24.2.2.2.2.2.2.2.2.2.2.2.2.2.2.2.2.2.2.1
theorem dJ5_newCapacity_0f7a4_27 : decode cJ5_newCapacity_0f7a4 27 = .ok (.ishl, 1) := qdJ5_newCapacity_0f7a4_0_24.2.2.2.2.2.2.2.2.2.2.2.2.2.2.2.2.2.2.2.1
theorem dJ5_newCapacity_0f7a4_28 : decode cJ5_newCapacity_0f7a4 28 = .ok (.iadd, 1) := qdJ5_newCapacity_0f7a4_0_24.2.2.2.2.2.2.2.2.2.2.2.2.2.2.2.2.2.2.2.2.1
theorem dJ5_newCapacity_0f7a4_29 : decode cJ5_newCapacity_0f7a4 29 = .ok (.invokestatic 114, 3) := qdJ5_newCapacity_0f7a4_0_24.2.2.2.2.2.2.2.2.2.2.2.2.2.2.2.2.2.2.2.2.2.1
theorem dJ5_newCapacity_0f7a4_32 : decode cJ5_newCapacity_0f7a4 32 = .ok (.istore 5, 2) := qdJ5_newCapacity_0f7a4_0_24.2.2.2.2.2.2.2.2.2.2.2.2.2.2.2.2.2.2.2.2.2.2.1
theorem dJ5_newCapacity_0f7a4_34 : decode cJ5_newCapacity_0f7a4 34 = .ok (.iload 5, 2) := qdJ5_newCapacity_0f7a4_0_24.2.2.2.2.2.2.2.2.2.2.2.2.2.2.2.2.2.2.2.2.2.2.2.1
theorem qdJ5_newCapacity_0f7a4_36_12 : dcAll cJ5_newCapacity_0f7a4 [(36, .ldc 39, 2), (38, .if_icmp .ne 13, 3), (41, .new 120, 3), (44, .dup, 1), (45, .ldc 122, 2), (47, .invokespecial 124, 3), (50, .athrow, 1), (51, .iload 5, 2), (53, .aload_n 0, 1), (54, .getfield 22, 3), (57, .ishr, 1), (58, .ireturn, 1)] := dcAll_of (by decide +kernel)
theorem dJ5_newCapacity_0f7a4_36 : decode cJ5_newCapacity_0f7a4 36 = .ok (.ldc 39, 2) := qdJ5_newCapacity_0f7a4_36_12.1
theorem dJ5_newCapacity_0f7a4_38 : decode cJ5_newCapacity_0f7a4 38 = .ok (.if_icmp .ne 13, 3) := qdJ5_newCapacity_0f7a4_36_12.2.1
theorem dJ5_newCapacity_0f7a4_41 : decode cJ5_newCapacity_0f7a4 41 = .ok (.new 120, 3) := qdJ5_newCapacity_0f7a4_36_12.2.2.1
theorem dJ5_newCapacity_0f7a4_44 : decode cJ5_newCapacity_0f7a4 44 = .ok (.dup, 1) := qdJ5_newCapacity_0f7a4_36_12.2.2.2.1
theorem dJ5_newCapacity_0f7a4_45 : decode cJ5_newCapacity_0f7a4 45 = .ok (.ldc 122, 2) := qdJ5_newCapacity_0f7a4_36_12.2.2.2.2.1
theorem dJ5_newCapacity_0f7a4_47 : decode cJ5_newCapacity_0f7a4 47 = .ok (.invokespecial 124, 3) := qdJ5_newCapacity_0f7a4_36_12.2.2.2.2.2.1
theorem dJ5_newCapacity_0f7a4_50 : decode cJ5_newCapacity_0f7a4 50 = .ok (.athrow, 1) := qdJ5_newCapacity_0f7a4_36_12.2.2.2.2.2.2.1
theorem dJ5_newCapacity_0f7a4_51 : decode cJ5_newCapacity_0f7a4 51 = .ok (.iload 5, 2) := qdJ5_newCapacity_0f7a4_36_12.2.2.2.2.2.2.2.1
theorem dJ5_newCapacity_0f7a4_53 : decode cJ5_newCapacity_0f7a4 53 = .ok (.aload_n 0, 1) := qdJ5_newCapacity_0f7a4_36_12.2.2.2.2.2.2.2.2.1
theorem dJ5_newCapacity_0f7a4_54 : decode cJ5_newCapacity_0f7a4 54 = .ok (.getfield 22, 3) := qdJ5_newCapacity_0f7a4_36_12.2.2.2.2.2.2.2.2.2.1
theorem dJ5_newCapacity_0f7a4_57 : decode cJ5_newCapacity_0f7a4 57 = .ok (.ishr, 1) := qdJ5_newCapacity_0f7a4_36_12.2.2.2.2.2.2.2.2.2.2.1
theorem dJ5_newCapacity_0f7a4_58 : decode cJ5_newCapacity_0f7a4 58 = .ok (.ireturn, 1) := qdJ5_newCapacity_0f7a4_36_12.2.2.2.2.2.2.2.2.2.2.2.1
set_option maxRecDepth 20000 in
theorem ggJ5_inflate_da8c8_J5_isLatin1_aae02 : GoodIn wsJ5_inflate_da8c8 wsJ5_isLatin1_aae02 := goodIn_r _ [9, 10, 3, 48, 49, 50, 51] rfl (by decide +kernel)
set_option maxRecDepth 20000 in
theorem gJ5_inflate_da8c8_J5_isLatin1_aae02_u83J4 : GoodIn wsJ5_inflate_da8c8 (va_wsU RJ5 83 RJ4 "java/lang/AbstractStringBuilder" ⟨"java/lang/AbstractStringBuilder", "isLatin1", "()Z"⟩ yJ5_isLatin1_aae02 wsJ5_isLatin1_aae02) := goodIn_app (goodIn_of _ (by decide +kernel)) ggJ5_inflate_da8c8_J5_isLatin1_aae02
set_option maxRecDepth 20000 in
theorem ggJ5_inflate_da8c8_J2_newBytesFor_77867 : GoodIn wsJ5_inflate_da8c8 wsJ2_newBytesFor_77867 := goodIn_r _ [14, 15, 16, 17, 13, 18, 19] rfl (by decide +kernel)
set_option maxRecDepth 20000 in
theorem gJ5_inflate_da8c8_J2_newBytesFor_77867 : GoodIn wsJ5_inflate_da8c8 (va_wsS RJ5 26 yJ2_newBytesFor_77867 wsJ2_newBytesFor_77867) := goodIn_app (goodIn_r _ [11, 12, 13] rfl rfl) ggJ5_inflate_da8c8_J2_newBytesFor_77867
set_option maxRecDepth 20000 in
theorem ggJ5_inflate_da8c8_J1_inflate_0e8fd : GoodIn wsJ5_inflate_da8c8 wsJ1_inflate_0e8fd := goodIn_r _ [23, 24, 25, 13, 26, 27, 28, 29, 30, 31, 32, 33, 34, 35, 36, 37, 38, 39, 40, 41, 42, 43, 44, 45, 46, 47] rfl (by decide +kernel)
set_option maxRecDepth 20000 in
theorem gJ5_inflate_da8c8_J1_inflate_0e8fd : GoodIn wsJ5_inflate_da8c8 (va_wsS RJ5 125 yJ1_inflate_0e8fd wsJ1_inflate_0e8fd) := goodIn_app (goodIn_r _ [20, 21, 22] rfl rfl) ggJ5_inflate_da8c8_J1_inflate_0e8fd
theorem qdJ5_inflate_da8c8_0_24 : dcAll cJ5_inflate_da8c8 [(0, .aload_n 0, 1), (1, .invokevirtual 83, 3), (4, .ifCond .ne 4, 3), (7, .return_, 1), (8, .aload_n 0, 1), (9, .getfield 15, 3), (12, .arraylength, 1), (13, .invokestatic 26, 3), (16, .astore_n 1, 1), (17, .aload_n 0, 1), (18, .getfield 15, 3), (21, .iconst 0, 1), (22, .aload_n 1, 1), (23, .iconst 0, 1), (24, .aload_n 0, 1), (25, .getfield 79, 3), (28, .invokestatic 125, 3), (31, .aload_n 0, 1), (32, .aload_n 1, 1), (33, .putfield 15, 3), (36, .aload_n 0, 1), (37, .iconst 1, 1), (38, .putfield 22, 3), (41, .return_, 1)] := dcAll_of (by decide +kernel)
theorem dJ5_inflate_da8c8_0 : decode cJ5_inflate_da8c8 0 = .ok (.aload_n 0, 1) := qdJ5_inflate_da8c8_0_24.1
theorem dJ5_inflate_da8c8_1 : decode cJ5_inflate_da8c8 1 = .ok (.invokevirtual 83, 3) := qdJ5_inflate_da8c8_0_24.2.1
theorem dJ5_inflate_da8c8_4 : decode cJ5_inflate_da8c8 4 = .ok (.ifCond .ne 4, 3) := qdJ5_inflate_da8c8_0_24.2.2.1
theorem dJ5_inflate_da8c8_7 : decode cJ5_inflate_da8c8 7 = .ok (.return_, 1) := qdJ5_inflate_da8c8_0_24.2.2.2.1
theorem dJ5_inflate_da8c8_8 : decode cJ5_inflate_da8c8 8 = .ok (.aload_n 0, 1) := qdJ5_inflate_da8c8_0_24.2.2.2.2.1
theorem dJ5_inflate_da8c8_9 : decode cJ5_inflate_da8c8 9 = .ok (.getfield 15, 3) := qdJ5_inflate_da8c8_0_24.2.2.2.2.2.1
theorem dJ5_inflate_da8c8_12 : decode cJ5_inflate_da8c8 12 = .ok (.arraylength, 1) := qdJ5_inflate_da8c8_0_24.2.2.2.2.2.2.1
theorem dJ5_inflate_da8c8_13 : decode cJ5_inflate_da8c8 13 = .ok (.invokestatic 26, 3) := qdJ5_inflate_da8c8_0_24.2.2.2.2.2.2.2.1
theorem dJ5_inflate_da8c8_16 : decode cJ5_inflate_da8c8 16 = .ok (.astore_n 1, 1) := qdJ5_inflate_da8c8_0_24.2.2.2.2.2.2.2.2.1
theorem dJ5_inflate_da8c8_17 : decode cJ5_inflate_da8c8 17 = .ok (.aload_n 0, 1) := qdJ5_inflate_da8c8_0_24.2.2.2.2.2.2.2.2.2.1
theorem dJ5_inflate_da8c8_18 : decode cJ5_inflate_da8c8 18 = .ok (.getfield 15, 3) := qdJ5_inflate_da8c8_0_24.2.2.2.2.2.2.2.2.2.2.1
theorem dJ5_inflate_da8c8_21 : decode cJ5_inflate_da8c8 21 = .ok (.iconst 0, 1) := qdJ5_inflate_da8c8_0_24.2.2.2.2.2.2.2.2.2.2.2.1
theorem dJ5_inflate_da8c8_22 : decode cJ5_inflate_da8c8 22 = .ok (.aload_n 1, 1) := qdJ5_inflate_da8c8_0_24.2.2.2.2.2.2.2.2.2.2.2.2.1
theorem dJ5_inflate_da8c8_23 : decode cJ5_inflate_da8c8 23 = .ok (.iconst 0, 1) := qdJ5_inflate_da8c8_0_24.2.2.2.2.2.2.2.2.2.2.2.2.2.1
theorem dJ5_inflate_da8c8_24 : decode cJ5_inflate_da8c8 24 = .ok (.aload_n 0, 1) := qdJ5_inflate_da8c8_0_24.2.2.2.2.2.2.2.2.2.2.2.2.2.2.1
theorem dJ5_inflate_da8c8_25 : decode cJ5_inflate_da8c8 25 = .ok (.getfield 79, 3) := qdJ5_inflate_da8c8_0_24.2.2.2.2.2.2.2.2.2.2.2.2.2.2.2.1
theorem dJ5_inflate_da8c8_28 : decode cJ5_inflate_da8c8 28 = .ok (.invokestatic 125, 3) := qdJ5_inflate_da8c8_0_24.2.2.2.2.2.2.2.2.2.2.2.2.2.2.2.2.1
theorem dJ5_inflate_da8c8_31 : decode cJ5_inflate_da8c8 31 = .ok (.aload_n 0, 1) := qdJ5_inflate_da8c8_0_24.2.2.2.2.2.2.2.2.2.2.2.2.2.2.2.2.2.1
theorem dJ5_inflate_da8c8_32 : decode cJ5_inflate_da8c8 32 = .ok (.aload_n 1, 1) := qdJ5_inflate_da8c8_0_24.2.2.2.2.2.2.2.2.2.2.2.2.2.2.2.2.2.2.1
theorem dJ5_inflate_da8c8_33 : decode cJ5_inflate_da8c8 33 = .ok (.putfield 15, 3) := qdJ5_inflate_da8c8_0_24.2.2.2.2.2.2.2.2.2.2.2.2.2.2.2.2.2.2.2.1
theorem dJ5_inflate_da8c8_36 : decode cJ5_inflate_da8c8 36 = .ok (.aload_n 0, 1) := qdJ5_inflate_da8c8_0_24.2.2.2.2.2.2.2.2.2.2.2.2.2.2.2.2.2.2.2.2.1
theorem dJ5_inflate_da8c8_37 : decode cJ5_inflate_da8c8 37 = .ok (.iconst 1, 1) := qdJ5_inflate_da8c8_0_24.2.2.2.2.2.2.2.2.2.2.2.2.2.2.2.2.2.2.2.2.2.1
theorem dJ5_inflate_da8c8_38 : decode cJ5_inflate_da8c8 38 = .ok (.putfield 22, 3) := qdJ5_inflate_da8c8_0_24.2.2.2.2.2.2.2.2.2.2.2.2.2.2.2.2.2.2.2.2.2.2.1
theorem dJ5_inflate_da8c8_41 : decode cJ5_inflate_da8c8 41 = .ok (.return_, 1) := qdJ5_inflate_da8c8_0_24.2.2.2.2.2.2.2.2.2.2.2.2.2.2.2.2.2.2.2.2.2.2.2.1
set_option maxRecDepth 20000 in
theorem ggJ5_append_cf1ce_J5_appendNull_278bc : GoodIn wsJ5_append_cf1ce wsJ5_appendNull_278bc := goodIn_r _ [7, 1, 8, 9, 10, 11, 12, 6, 13, 14, 15, 16, 17, 18, 19, 20, 21, 22, 23, 24, 25, 26, 27, 28, 29, 30, 31, 32, 33, 34, 35, 36, 37, 38, 39, 40, 41, 42, 43, 44, 45, 46, 47, 48, 49, 50, 51, 52, 53, 54, 55, 56, 57, 58, 59, 60, 61, 62, 63, 64, 65, 66, 67, 68, 69, 70, 71, 72, 73, 74, 75, 76, 77, 78, 79, 80, 81, 138, 139, 140, 141] rfl (by decide +kernel)
set_option maxRecDepth 20000 in
theorem gJ5_append_cf1ce_J5_appendNull_278bc_u204J4 : GoodIn wsJ5_append_cf1ce (va_wsU RJ5 204 RJ4 "java/lang/AbstractStringBuilder" ⟨"java/lang/AbstractStringBuilder", "appendNull", "()Ljava/lang/AbstractStringBuilder;"⟩ yJ5_appendNull_278bc wsJ5_appendNull_278bc) := goodIn_app (goodIn_of _ (by decide +kernel)) ggJ5_append_cf1ce_J5_appendNull_278bc
set_option maxRecDepth 20000 in
theorem ggJ5_append_cf1ce_J0_length_8abf5 : GoodIn wsJ5_append_cf1ce wsJ0_length_8abf5 := goodIn_r _ [85, 86, 87, 88, 89, 70, 90, 91, 92, 142, 143, 144, 145] rfl (by decide +kernel)
set_option maxRecDepth 20000 in
theorem gJ5_append_cf1ce_J0_length_8abf5 : GoodIn wsJ5_append_cf1ce (wsV RJ5 32 RJ0 yJ0_length_8abf5 wsJ0_length_8abf5) := goodIn_app (goodIn_r _ [82, 83, 84, 70] rfl rfl) ggJ5_append_cf1ce_J0_length_8abf5
set_option maxRecDepth 20000 in
theorem ggJ5_append_cf1ce_J5_ensureCapacityInternal_d00df : GoodIn wsJ5_append_cf1ce wsJ5_ensureCapacityInternal_d00df := goodIn_r _ [13, 8, 14, 15, 16, 17, 18, 6, 19, 20, 21, 22, 23, 24, 25, 26, 27, 28, 29, 30, 31, 32, 33, 34, 35, 36, 37, 38, 39, 40, 41, 42, 43, 44, 45, 46, 47, 48, 49, 50, 138, 139, 140, 141] rfl (by decide +kernel)
set_option maxRecDepth 20000 in
theorem gJ5_append_cf1ce_J5_ensureCapacityInternal_d00df_u100J4 : GoodIn wsJ5_append_cf1ce (va_wsU RJ5 100 RJ4 "java/lang/AbstractStringBuilder" ⟨"java/lang/AbstractStringBuilder", "ensureCapacityInternal", "(I)V"⟩ yJ5_ensureCapacityInternal_d00df wsJ5_ensureCapacityInternal_d00df) := goodIn_app (goodIn_of _ (by decide +kernel)) ggJ5_append_cf1ce_J5_ensureCapacityInternal_d00df
set_option maxRecDepth 20000 in
theorem ggJ5_append_cf1ce_J5_putStringAt_47b60 : GoodIn wsJ5_append_cf1ce wsJ5_putStringAt_47b60 := goodIn_r _ [97, 8, 14, 98, 99, 100, 101, 6, 102, 56, 103, 88, 89, 70, 90, 91, 92, 104, 105, 106, 107, 108, 1, 51, 52, 53, 54, 55, 109, 110, 59, 111, 43, 112, 113, 114, 115, 116, 117, 118, 119, 120, 121, 122, 123, 124, 125, 65, 66, 67, 126, 127, 128, 72, 129, 130, 75, 131, 77, 78, 79, 61, 80, 81, 132, 133, 134, 135, 86, 136, 48, 49, 50, 87, 137, 138, 139, 140, 141, 142, 143, 144, 145] rfl (by decide +kernel)
set_option maxRecDepth 20000 in
theorem gJ5_append_cf1ce_J5_putStringAt_47b60_u208J4 : GoodIn wsJ5_append_cf1ce (va_wsU RJ5 208 RJ4 "java/lang/AbstractStringBuilder" ⟨"java/lang/AbstractStringBuilder", "putStringAt", "(ILjava/lang/String;)V"⟩ yJ5_putStringAt_47b60 wsJ5_putStringAt_47b60) := goodIn_app (goodIn_of _ (by decide +kernel)) ggJ5_append_cf1ce_J5_putStringAt_47b60
theorem qdJ5_append_cf1ce_0_24 : dcAll cJ5_append_cf1ce [(0, .aload_n 1, 1), (1, .ifnonnull 8, 3), (4, .aload_n 0, 1), (5, .invokevirtual 204, 3), (8, .areturn, 1), (9, .aload_n 1, 1), (10, .invokevirtual 32, 3), (13, .istore_n 2, 1), (14, .aload_n 0, 1), (15, .aload_n 0, 1), (16, .getfield 79, 3), (19, .iload_n 2, 1), (20, .iadd, 1), (21, .invokevirtual 100, 3), (24, .aload_n 0, 1), (25, .aload_n 0, 1), (26, .getfield 79, 3), (29, .aload_n 1, 1), (30, .invokevirtual 208, 3), (33, .aload_n 0, 1), (34, .dup, 1), (35, .getfield 79, 3), (38, .iload_n 2, 1), (39, .iadd, 1)] := dcAll_of (by decide +kernel)
theorem dJ5_append_cf1ce_0 : decode cJ5_append_cf1ce 0 = .ok (.aload_n 1, 1) := qdJ5_append_cf1ce_0_24.1
theorem dJ5_append_cf1ce_1 : decode cJ5_append_cf1ce 1 = .ok (.ifnonnull 8, 3) := qdJ5_append_cf1ce_0_24.2.1
theorem dJ5_append_cf1ce_4 : decode cJ5_append_cf1ce 4 = .ok (.aload_n 0, 1) := qdJ5_append_cf1ce_0_24.2.2.1
theorem dJ5_append_cf1ce_5 : decode cJ5_append_cf1ce 5 = .ok (.invokevirtual 204, 3) := qdJ5_append_cf1ce_0_24.2.2.2.1
theorem dJ5_append_cf1ce_8 : decode cJ5_append_cf1ce 8 = .ok (.areturn, 1) := qdJ5_append_cf1ce_0_24.2.2.2.2.1
theorem dJ5_append_cf1ce_9 : decode cJ5_append_cf1ce 9 = .ok (.aload_n 1, 1) := qdJ5_append_cf1ce_0_24.2.2.2.2.2.1
theorem dJ5_append_cf1ce_10 : decode cJ5_append_cf1ce 10 = .ok (.invokevirtual 32, 3) := qdJ5_append_cf1ce_0_24.2.2.2.2.2.2.1
theorem dJ5_append_cf1ce_13 : decode cJ5_append_cf1ce 13 = .ok (.istore_n 2, 1) := qdJ5_append_cf1ce_0_24.2.2.2.2.2.2.2.1
theorem dJ5_append_cf1ce_14 : decode cJ5_append_cf1ce 14 = .ok (.aload_n 0, 1) := qdJ5_append_cf1ce_0_24.2.2.2.2.2.2.2.2.1
theorem dJ5_append_cf1ce_15 : decode cJ5_append_cf1ce 15 = .ok (.aload_n 0, 1) := qdJ5_append_cf1ce_0_24.2.2.2.2.2.2.2.2.2.1
theorem dJ5_append_cf1ce_16 : decode cJ5_append_cf1ce 16 = .ok (.getfield 79, 3) := qdJ5_append_cf1ce_0_24.2.2.2.2.2.2.2.2.2.2.1
theorem dJ5_append_cf1ce_19 : decode cJ5_append_cf1ce 19 = .ok (.iload_n 2, 1) := qdJ5_append_cf1ce_0_24.2.2.2.2.2.2.2.2.2.2.2.1
theorem dJ5_append_cf1ce_20 : decode cJ5_append_cf1ce 20 = .ok (.iadd, 1) := qdJ5_append_cf1ce_0_24.2.2.2.2.2.2.2.2.2.2.2.2.1
theorem dJ5_append_cf1ce_21 : decode cJ5_append_cf1ce 21 = .ok (.invokevirtual 100, 3) := qdJ5_append_cf1ce_0_24.2.2.2.2.2.2.2.2.2.2.2.2.2.1
theorem dJ5_append_cf1ce_24 : decode cJ5_append_cf1ce 24 = .ok (.aload_n 0, 1) := qdJ5_append_cf1ce_0_24.2.2.2.2.2.2.2.2.2.2.2.2.2.2.1
theorem dJ5_append_cf1ce_25 : decode cJ5_append_cf1ce 25 = .ok (.aload_n 0, 1) := qdJ5_append_cf1ce_0_24.2.2.2.2.2.2.2.2.2.2.2.2.2.2.2.1
theorem dJ5_append_cf1ce_26 : decode cJ5_append_cf1ce 26 = .ok (.getfield 79, 3) := qdJ5_append_cf1ce_0_24.2.2.2.2.2.2.2.2.2.2.2.2.2.2.2.2.1
theorem dJ5_append_cf1ce_29 : decode cJ5_append_cf1ce 29 = .ok (.aload_n 1, 1) := qdJ5_append_cf1ce_0_24.2.2.2.2.2.2.2.2.2.2.2.2.2.2.2.2.2.1
theorem dJ5_append_cf1ce_30 : decode cJ5_append_cf1ce 30 = .ok (.invokevirtual 208, 3) := qdJ5_append_cf1ce_0_24.2.2.2.2.2.2.2.2.2.2.2.2.2.2.2.2.2.2.1
theorem dJ5_append_cf1ce_33 : decode cJ5_append_cf1ce 33 = .ok (.aload_n 0, 1) := qdJ5_append_cf1ce_0_24.2.2.2.2.2.2.2.2.2.2.2.2.2.2.2.2.2.2.2.1
theorem dJ5_append_cf1ce_34 : decode cJ5_append_cf1ce 34 = .ok (.dup, 1) := qdJ5_append_cf1ce_0_24.2.2.2.2.2.2.2.2.2.2.2.2.2.2.2.2.2.2.2.2.1
theorem dJ5_append_cf1ce_35 : decode cJ5_append_cf1ce 35 = .ok (.getfield 79, 3) := qdJ5_append_cf1ce_0_24.2.2.2.2.2.2.2.2.2.2.2.2.2.2.2.2.2.2.2.2.2.1
theorem dJ5_append_cf1ce_38 : decode cJ5_append_cf1ce 38 = .ok (.iload_n 2, 1) := qdJ5_append_cf1ce_0_24.2.2.2.2.2.2.2.2.2.2.2.2.2.2.2.2.2.2.2.2.2.2.1
theorem dJ5_append_cf1ce_39 : decode cJ5_append_cf1ce 39 = .ok (.iadd, 1) := qdJ5_append_cf1ce_0_24.2.2.2.2.2.2.2.2.2.2.2.2.2.2.2.2.2.2.2.2.2.2.2.1
theorem qdJ5_append_cf1ce_40_3 : dcAll cJ5_append_cf1ce [(40, .putfield 79, 3), (43, .aload_n 0, 1), (44, .areturn, 1)] := dcAll_of (by decide +kernel)
theorem dJ5_append_cf1ce_40 : decode cJ5_append_cf1ce 40 = .ok (.putfield 79, 3) := qdJ5_append_cf1ce_40_3.1
theorem dJ5_append_cf1ce_43 : decode cJ5_append_cf1ce 43 = .ok (.aload_n 0, 1) := qdJ5_append_cf1ce_40_3.2.1
theorem dJ5_append_cf1ce_44 : decode cJ5_append_cf1ce 44 = .ok (.areturn, 1) := qdJ5_append_cf1ce_40_3.2.2.1
set_option maxRecDepth 20000 in
theorem ggJ5_appendNull_278bc_J5_ensureCapacityInternal_d00df : GoodIn wsJ5_appendNull_278bc wsJ5_ensureCapacityInternal_d00df := goodIn_r _ [8, 2, 9, 10, 11, 12, 13, 7, 14, 15, 16, 17, 18, 19, 20, 21, 22, 23, 24, 25, 26, 27, 28, 29, 30, 31, 32, 33, 34, 35, 36, 37, 38, 39, 40, 41, 42, 43, 44, 45, 77, 78, 79, 80] rfl (by decide +kernel)
set_option maxRecDepth 20000 in
theorem gJ5_appendNull_278bc_J5_ensureCapacityInternal_d00df_u100J4 : GoodIn wsJ5_appendNull_278bc (va_wsU RJ5 100 RJ4 "java/lang/AbstractStringBuilder" ⟨"java/lang/AbstractStringBuilder", "ensureCapacityInternal", "(I)V"⟩ yJ5_ensureCapacityInternal_d00df wsJ5_ensureCapacityInternal_d00df) := goodIn_app (goodIn_of _ (by decide +kernel)) ggJ5_appendNull_278bc_J5_ensureCapacityInternal_d00df
set_option maxRecDepth 20000 in
theorem ggJ5_appendNull_278bc_J5_isLatin1_aae02 : GoodIn wsJ5_appendNull_278bc wsJ5_isLatin1_aae02 := goodIn_r _ [50, 51, 9, 77, 78, 79, 80] rfl (by decide +kernel)
set_option maxRecDepth 20000 in
theorem gJ5_appendNull_278bc_J5_isLatin1_aae02_u83J4 : GoodIn wsJ5_appendNull_278bc (va_wsU RJ5 83 RJ4 "java/lang/AbstractStringBuilder" ⟨"java/lang/AbstractStringBuilder", "isLatin1", "()Z"⟩ yJ5_isLatin1_aae02 wsJ5_isLatin1_aae02) := goodIn_app (goodIn_of _ (by decide +kernel)) ggJ5_appendNull_278bc_J5_isLatin1_aae02
set_option maxRecDepth 20000 in
theorem ggJ5_appendNull_278bc_J2_putCharsAt_cd4e5 : GoodIn wsJ5_appendNull_278bc wsJ2_putCharsAt_cd4e5 := goodIn_r _ [55, 56, 57, 58, 54, 59, 60, 61, 62, 63, 64, 65, 66, 67, 68, 69, 70, 71, 72, 73, 74, 75, 76] rfl (by decide +kernel)
set_option maxRecDepth 20000 in
theorem gJ5_appendNull_278bc_J2_putCharsAt_cd4e5 : GoodIn wsJ5_appendNull_278bc (va_wsS RJ5 226 yJ2_putCharsAt_cd4e5 wsJ2_putCharsAt_cd4e5) := goodIn_app (goodIn_r _ [52, 53, 54] rfl rfl) ggJ5_appendNull_278bc_J2_putCharsAt_cd4e5
theorem qdJ5_appendNull_278bc_0_24 : dcAll cJ5_appendNull_278bc [(0, .aload_n 0, 1), (1, .aload_n 0, 1), (2, .getfield 79, 3), (5, .iconst 4, 1), (6, .iadd, 1), (7, .invokevirtual 100, 3), (10, .aload_n 0, 1), (11, .getfield 79, 3), (14, .istore_n 1, 1), (15, .aload_n 0, 1), (16, .getfield 15, 3), (19, .astore_n 2, 1), (20, .aload_n 0, 1), (21, .invokevirtual 83, 3), (24, .ifCond .eq 38, 3), (27, .aload_n 2, 1), (28, .iload_n 1, 1), (29, .iinc 1 1, 3), (32, .bipush 110, 2), (34, .bastore, 1), (35, .aload_n 2, 1), (36, .iload_n 1, 1), (37, .iinc 1 1, 3), (40, .bipush 117, 2)] := dcAll_of (by decide +kernel)
theorem dJ5_appendNull_278bc_0 : decode cJ5_appendNull_278bc 0 = .ok (.aload_n 0, 1) := qdJ5_appendNull_278bc_0_24.1
theorem dJ5_appendNull_278bc_1 : decode cJ5_appendNull_278bc 1 = .ok (.aload_n 0, 1) := qdJ5_appendNull_278bc_0_24.2.1
theorem dJ5_appendNull_278bc_2 : decode cJ5_appendNull_278bc 2 = .ok (.getfield 79, 3) := qdJ5_appendNull_278bc_0_24.2.2.1
theorem dJ5_appendNull_278bc_5 : decode cJ5_appendNull_278bc 5 = .ok (.iconst 4, 1) := qdJ5_appendNull_278bc_0_24.2.2.2.1
theorem dJ5_appendNull_278bc_6 : decode cJ5_appendNull_278bc 6 = .ok (.iadd, 1) := qdJ5_appendNull_278bc_0_24.2.2.2.2.1
theorem dJ5_appendNull_278bc_7 : decode cJ5_appendNull_278bc 7 = .ok (.invokevirtual 100, 3) := qdJ5_appendNull_278bc_0_24.2.2.2.2.2.1
theorem dJ5_appendNull_278bc_10 : decode cJ5_appendNull_278bc 10 = .ok (.aload_n 0, 1) := qdJ5_appendNull_278bc_0_24.2.2.2.2.2.2.1
theorem dJ5_appendNull_278bc_11 : decode cJ5_appendNull_278bc 11 = .ok (.getfield 79, 3) := qdJ5_appendNull_278bc_0_24.2.2.2.2.2.2.2.1
theorem dJ5_appendNull_278bc_14 : decode cJ5_appendNull_278bc 14 = .ok (.istore_n 1, 1) := qdJ5_appendNull_278bc_0_24.2.2.2.2.2.2.2.2.1
theorem dJ5_appendNull_278bc_15 : decode cJ5_appendNull_278bc 15 = .ok (.aload_n 0, 1) := qdJ5_appendNull_278bc_0_24.2.2.2.2.2.2.2.2.2.1
theorem dJ5_appendNull_278bc_16 : decode cJ5_appendNull_278bc 16 = .ok (.getfield 15, 3) := qdJ5_appendNull_278bc_0_24.2.2.2.2.2.2.2.2.2.2.1
theorem dJ5_appendNull_278bc_19 : decode cJ5_appendNull_278bc 19 = .ok (.astore_n 2, 1) := qdJ5_appendNull_278bc_0_24.2.2.2.2.2.2.2.2.2.2.2.1
theorem dJ5_appendNull_278bc_20 : decode cJ5_appendNull_278bc 20 = .ok (.aload_n 0, 1) := qdJ5_appendNull_278bc_0_24.2.2.2.2.2.2.2.2.2.2.2.2.1
theorem dJ5_appendNull_278bc_21 : decode cJ5_appendNull_278bc 21 = .ok (.invokevirtual 83, 3) := qdJ5_appendNull_278bc_0_24.2.2.2.2.2.2.2.2.2.2.2.2.2.1
theorem dJ5_appendNull_278bc_24 : decode cJ5_appendNull_278bc 24 = .ok (.ifCond .eq 38, 3) := qdJ5_appendNull_278bc_0_24.2.2.2.2.2.2.2.2.2.2.2.2.2.2.1
theorem dJ5_appendNull_278bc_27 : decode cJ5_appendNull_278bc 27 = .ok (.aload_n 2, 1) := qdJ5_appendNull_278bc_0_24.2.2.2.2.2.2.2.2.2.2.2.2.2.2.2.1
theorem dJ5_appendNull_278bc_28 : decode cJ5_appendNull_278bc 28 = .ok (.iload_n 1, 1) := qdJ5_appendNull_278bc_0_24.2.2.2.2.2.2.2.2.2.2.2.2.2.2.2.2.1
theorem dJ5_appendNull_278bc_29 : decode cJ5_appendNull_278bc 29 = .ok (.iinc 1 1, 3) := qdJ5_appendNull_278bc_0_24.2.2.2.2.2.2.2.2.2.2.2.2.2.2.2.2.2.1
theorem dJ5_appendNull_278bc_32 : decode cJ5_appendNull_278bc 32 = .ok (.bipush 110, 2) := qdJ5_appendNull_278bc_0_24.2.2.2.2.2.2.2.2.2.2.2.2.2.2.2.2.2.2.1
theorem dJ5_appendNull_278bc_34 : decode cJ5_appendNull_278bc 34 = .ok (.bastore, 1) := qdJ5_appendNull_278bc_0_24.2.2.2.2.2.2.2.2.2.2.2.2.2.2.2.2.2.2.2.1
theorem dJ5_appendNull_278bc_35 : decode cJ5_appendNull_278bc 35 = .ok (.aload_n 2, 1) := qdJ5_appendNull_278bc_0_24.2.2.2.2.2.2.2.2.2.2.2.2.2.2.2.2.2.2.2.2.1
theorem dJ5_appendNull_278bc_36 : decode cJ5_appendNull_278bc 36 = .ok (.iload_n 1, 1) := qdJ5_appendNull_278bc_0_24.2.2.2.2.2.2.2.2.2.2.2.2.2.2.2.2.2.2.2.2.2.1
theorem dJ5_appendNull_278bc_37 : decode cJ5_appendNull_278bc 37 = .ok (.iinc 1 1, 3) := qdJ5_appendNull_278bc_0_24.2.2.2.2.2.2.2.2.2.2.2.2.2.2.2.2.2.2.2.2.2.2.1
theorem dJ5_appendNull_278bc_40 : decode cJ5_appendNull_278bc 40 = .ok (.bipush 117, 2) := qdJ5_appendNull_278bc_0_24.2.2.2.2.2.2.2.2.2.2.2.2.2.2.2.2.2.2.2.2.2.2.2.1
theorem qdJ5_appendNull_278bc_42_24 : dcAll cJ5_appendNull_278bc [(42, .bastore, 1), (43, .aload_n 2, 1), (44, .iload_n 1, 1), (45, .iinc 1 1, 3), (48, .bipush 108, 2), (50, .bastore, 1), (51, .aload_n 2, 1), (52, .iload_n 1, 1), (53, .iinc 1 1, 3), (56, .bipush 108, 2), (58, .bastore, 1), (59, .goto 17, 3), (62, .aload_n 2, 1), (63, .iload_n 1, 1), (64, .bipush 110, 2), (66, .bipush 117, 2), (68, .bipush 108, 2), (70, .bipush 108, 2), (72, .invokestatic 226, 3), (75, .istore_n 1, 1), (76, .aload_n 0, 1), (77, .iload_n 1, 1), (78, .putfield 79, 3), (81, .aload_n 0, 1)] := dcAll_of (by decide +kernel)
theorem dJ5_appendNull_278bc_42 : decode cJ5_appendNull_278bc 42 = .ok (.bastore, 1) := qdJ5_appendNull_278bc_42_24.1
theorem dJ5_appendNull_278bc_43 : decode cJ5_appendNull_278bc 43 = .ok (.aload_n 2, 1) := qdJ5_appendNull_278bc_42_24.2.1
theorem dJ5_appendNull_278bc_44 : decode cJ5_appendNull_278bc 44 = .ok (.iload_n 1, 1) := qdJ5_appendNull_278bc_42_24.2.2.1
theorem dJ5_appendNull_278bc_45 : decode cJ5_appendNull_278bc 45 = .ok (.iinc 1 1, 3) := qdJ5_appendNull_278bc_42_24.2.2.2.1
theorem dJ5_appendNull_278bc_48 : decode cJ5_appendNull_278bc 48 = .ok (.bipush 108, 2) := qdJ5_appendNull_278bc_42_24.2.2.2.2.1
theorem dJ5_appendNull_278bc_50 : decode cJ5_appendNull_278bc 50 = .ok (.bastore, 1) := qdJ5_appendNull_278bc_42_24.2.2.2.2.2.1
theorem dJ5_appendNull_278bc_51 : decode cJ5_appendNull_278bc 51 = .ok (.aload_n 2, 1) := qdJ5_appendNull_278bc_42_24.2.2.2.2.2.2.1
theorem dJ5_appendNull_278bc_52 : decode cJ5_appendNull_278bc 52 = .ok (.iload_n 1, 1) := qdJ5_appendNull_278bc_42_24.2.2.2.2.2.2.2.1
theorem dJ5_appendNull_278bc_53 : decode cJ5_appendNull_278bc 53 = .ok (.iinc 1 1, 3) := qdJ5_appendNull_278bc_42_24.2.2.2.2.2.2.2.2.1
theorem dJ5_appendNull_278bc_56 : decode cJ5_appendNull_278bc 56 = .ok (.bipush 108, 2) := qdJ5_appendNull_278bc_42_24.2.2.2.2.2.2.2.2.2.1
theorem dJ5_appendNull_278bc_58 : decode cJ5_appendNull_278bc 58 = .ok (.bastore, 1) := qdJ5_appendNull_278bc_42_24.2.2.2.2.2.2.2.2.2.2.1
theorem dJ5_appendNull_278bc_59 : decode cJ5_appendNull_278bc 59 = .ok (.goto 17, 3) := qdJ5_appendNull_278bc_42_24.2.2.2.2.2.2.2.2.2.2.2.1
theorem dJ5_appendNull_278bc_62 : decode cJ5_appendNull_278bc 62 = .ok (.aload_n 2, 1) := qdJ5_appendNull_278bc_42_24.2.2.2.2.2.2.2.2.2.2.2.2.1
theorem dJ5_appendNull_278bc_63 : decode cJ5_appendNull_278bc 63 = .ok (.iload_n 1, 1) := qdJ5_appendNull_278bc_42_24.2.2.2.2.2.2.2.2.2.2.2.2.2.1
theorem dJ5_appendNull_278bc_64 : decode cJ5_appendNull_278bc 64 = .ok (.bipush 110, 2) := qdJ5_appendNull_278bc_42_24.2.2.2.2.2.2.2.2.2.2.2.2.2.2.1
theorem dJ5_appendNull_278bc_66 : decode cJ5_appendNull_278bc 66 = .ok (.bipush 117, 2) := qdJ5_appendNull_278bc_42_24.2.2.2.2.2.2.2.2.2.2.2.2.2.2.2.1
theorem dJ5_appendNull_278bc_68 : decode cJ5_appendNull_278bc 68 = .ok (.bipush 108, 2) := qdJ5_appendNull_278bc_42_24.2.2.2.2.2.2.2.2.2.2.2.2.2.2.2.2.1
theorem dJ5_appendNull_278bc_70 : decode cJ5_appendNull_278bc 70 = .ok (.bipush 108, 2) := qdJ5_appendNull_278bc_42_24.2.2.2.2.2.2.2.2.2.2.2.2.2.2.2.2.2.1
theorem dJ5_appendNull_278bc_72 : decode cJ5_appendNull_278bc 72 = .ok (.invokestatic 226, 3) := qdJ5_appendNull_278bc_42_24.2.2.2.2.2.2.2.2.2.2.2.2.2.2.2.2.2.2.1
theorem dJ5_appendNull_278bc_75 : decode cJ5_appendNull_278bc 75 = .ok (.istore_n 1, 1) := qdJ5_appendNull_278bc_42_24.2.2.2.2.2.2.2.2.2.2.2.2.2.2.2.2.2.2.2.1
theorem dJ5_appendNull_278bc_76 : decode cJ5_appendNull_278bc 76 = .ok (.aload_n 0, 1) := qdJ5_appendNull_278bc_42_24.2.2.2.2.2.2.2.2.2.2.2.2.2.2.2.2.2.2.2.2.1
theorem dJ5_appendNull_278bc_77 : decode cJ5_appendNull_278bc 77 = .ok (.iload_n 1, 1) := qdJ5_appendNull_278bc_42_24.2.2.2.2.2.2.2.2.2.2.2.2.2.2.2.2.2.2.2.2.2.1
theorem dJ5_appendNull_278bc_78 : decode cJ5_appendNull_278bc 78 = .ok (.putfield 79, 3) := qdJ5_appendNull_278bc_42_24.2.2.2.2.2.2.2.2.2.2.2.2.2.2.2.2.2.2.2.2.2.2.1
theorem dJ5_appendNull_278bc_81 : decode cJ5_appendNull_278bc 81 = .ok (.aload_n 0, 1) := qdJ5_appendNull_278bc_42_24.2.2.2.2.2.2.2.2.2.2.2.2.2.2.2.2.2.2.2.2.2.2.2.1
theorem dJ5_appendNull_278bc_82 : decode cJ5_appendNull_278bc 82 = .ok (.areturn, 1) := by decide +kernel
set_option maxRecDepth 20000 in
theorem ggJ5_append_3fe6f_J5_ensureCapacityInternal_d00df : GoodIn wsJ5_append_3fe6f wsJ5_ensureCapacityInternal_d00df := goodIn_r _ [8, 2, 9, 10, 11, 12, 13, 7, 14, 15, 16, 17, 18, 19, 20, 21, 22, 23, 24, 25, 26, 27, 28, 29, 30, 31, 32, 33, 34, 35, 36, 37, 38, 39, 40, 41, 42, 43, 44, 45, 108, 109, 110, 111] rfl (by decide +kernel)
set_option maxRecDepth 20000 in
theorem gJ5_append_3fe6f_J5_ensureCapacityInternal_d00df_u100J4 : GoodIn wsJ5_append_3fe6f (va_wsU RJ5 100 RJ4 "java/lang/AbstractStringBuilder" ⟨"java/lang/AbstractStringBuilder", "ensureCapacityInternal", "(I)V"⟩ yJ5_ensureCapacityInternal_d00df wsJ5_ensureCapacityInternal_d00df) := goodIn_app (goodIn_of _ (by decide +kernel)) ggJ5_append_3fe6f_J5_ensureCapacityInternal_d00df
set_option maxRecDepth 20000 in
theorem ggJ5_append_3fe6f_J5_isLatin1_aae02 : GoodIn wsJ5_append_3fe6f wsJ5_isLatin1_aae02 := goodIn_r _ [50, 51, 9, 108, 109, 110, 111] rfl (by decide +kernel)
set_option maxRecDepth 20000 in
theorem gJ5_append_3fe6f_J5_isLatin1_aae02_u83J4 : GoodIn wsJ5_append_3fe6f (va_wsU RJ5 83 RJ4 "java/lang/AbstractStringBuilder" ⟨"java/lang/AbstractStringBuilder", "isLatin1", "()Z"⟩ yJ5_isLatin1_aae02 wsJ5_isLatin1_aae02) := goodIn_app (goodIn_of _ (by decide +kernel)) ggJ5_append_3fe6f_J5_isLatin1_aae02
set_option maxRecDepth 20000 in
theorem ggJ5_append_3fe6f_J1_canEncode_fc78d : GoodIn wsJ5_append_3fe6f wsJ1_canEncode_fc78d := goodIn_r _ [55] rfl (by decide +kernel)
set_option maxRecDepth 20000 in
theorem gJ5_append_3fe6f_J1_canEncode_fc78d : GoodIn wsJ5_append_3fe6f (va_wsS RJ5 191 yJ1_canEncode_fc78d wsJ1_canEncode_fc78d) := goodIn_app (goodIn_r _ [52, 53, 54] rfl rfl) ggJ5_append_3fe6f_J1_canEncode_fc78d
set_option maxRecDepth 20000 in
theorem ggJ5_append_3fe6f_J5_inflate_da8c8 : GoodIn wsJ5_append_3fe6f wsJ5_inflate_da8c8 := goodIn_r _ [60, 2, 1, 9, 46, 47, 48, 49, 7, 50, 51, 61, 62, 63, 64, 38, 65, 66, 67, 68, 69, 70, 54, 71, 72, 73, 74, 75, 76, 77, 78, 79, 80, 81, 82, 83, 84, 85, 86, 87, 88, 89, 90, 91, 92, 93, 94, 95, 108, 109, 110, 111] rfl (by decide +kernel)
set_option maxRecDepth 20000 in
theorem gJ5_append_3fe6f_J5_inflate_da8c8_u195J4 : GoodIn wsJ5_append_3fe6f (va_wsU RJ5 195 RJ4 "java/lang/AbstractStringBuilder" ⟨"java/lang/AbstractStringBuilder", "inflate", "()V"⟩ yJ5_inflate_da8c8 wsJ5_inflate_da8c8) := goodIn_app (goodIn_of _ (by decide +kernel)) ggJ5_append_3fe6f_J5_inflate_da8c8
set_option maxRecDepth 20000 in
theorem ggJ5_append_3fe6f_J2_putCharSB_b72d1 : GoodIn wsJ5_append_3fe6f wsJ2_putCharSB_b72d1 := goodIn_r _ [98, 99, 100, 63, 101, 78, 79, 80, 102, 103, 83, 104, 85, 105, 106, 88, 107, 90, 91, 92, 93, 94, 95] rfl (by decide +kernel)
set_option maxRecDepth 20000 in
theorem gJ5_append_3fe6f_J2_putCharSB_b72d1 : GoodIn wsJ5_append_3fe6f (va_wsS RJ5 197 yJ2_putCharSB_b72d1 wsJ2_putCharSB_b72d1) := goodIn_app (goodIn_r _ [96, 97, 63] rfl rfl) ggJ5_append_3fe6f_J2_putCharSB_b72d1
theorem qdJ5_append_3fe6f_0_24 : dcAll cJ5_append_3fe6f [(0, .aload_n 0, 1), (1, .aload_n 0, 1), (2, .getfield 79, 3), (5, .iconst 1, 1), (6, .iadd, 1), (7, .invokevirtual 100, 3), (10, .aload_n 0, 1), (11, .invokevirtual 83, 3), (14, .ifCond .eq 31, 3), (17, .iload_n 1, 1), (18, .invokestatic 191, 3), (21, .ifCond .eq 24, 3), (24, .aload_n 0, 1), (25, .getfield 15, 3), (28, .aload_n 0, 1), (29, .dup, 1), (30, .getfield 79, 3), (33, .dup_x1, 1), (34, .iconst 1, 1), (35, .iadd, 1), (36, .putfield 79, 3), (39, .iload_n 1, 1), (40, .i2b, 1), (41, .bastore, 1)] := dcAll_of (by decide +kernel)
theorem dJ5_append_3fe6f_0 : decode cJ5_append_3fe6f 0 = .ok (.aload_n 0, 1) := qdJ5_append_3fe6f_0_24.1
theorem dJ5_append_3fe6f_1 : decode cJ5_append_3fe6f 1 = .ok (.aload_n 0, 1) := qdJ5_append_3fe6f_0_24.2.1
theorem dJ5_append_3fe6f_2 : decode cJ5_append_3fe6f 2 = .ok (.getfield 79, 3) := qdJ5_append_3fe6f_0_24.2.2.1
theorem dJ5_append_3fe6f_5 : decode cJ5_append_3fe6f 5 = .ok (.iconst 1, 1) := qdJ5_append_3fe6f_0_24.2.2.2.1
theorem dJ5_append_3fe6f_6 : decode cJ5_append_3fe6f 6 = .ok (.iadd, 1) := qdJ5_append_3fe6f_0_24.2.2.2.2.1
theorem dJ5_append_3fe6f_7 : decode cJ5_append_3fe6f 7 = .ok (.invokevirtual 100, 3) := qdJ5_append_3fe6f_0_24.2.2.2.2.2.1
theorem dJ5_append_3fe6f_10 : decode cJ5_append_3fe6f 10 = .ok (.aload_n 0, 1) := qdJ5_append_3fe6f_0_24.2.2.2.2.2.2.1
theorem dJ5_append_3fe6f_11 : decode cJ5_append_3fe6f 11 = .ok (.invokevirtual 83, 3) := qdJ5_append_3fe6f_0_24.2.2.2.2.2.2.2.1
theorem dJ5_append_3fe6f_14 : decode cJ5_append_3fe6f 14 = .ok (.ifCond .eq 31, 3) := qdJ5_append_3fe6f_0_24.2.2.2.2.2.2.2.2.1
theorem dJ5_append_3fe6f_17 : decode cJ5_append_3fe6f 17 = .ok (.iload_n 1, 1) := qdJ5_append_3fe6f_0_24.2.2.2.2.2.2.2.2.2.1
theorem dJ5_append_3fe6f_18 : decode cJ5_append_3fe6f 18 = .ok (.invokestatic 191, 3) := qdJ5_append_3fe6f_0_24.2.2.2.2.2.2.2.2.2.2.1
theorem dJ5_append_3fe6f_21 : decode cJ5_append_3fe6f 21 = .ok (.ifCond .eq 24, 3) := qdJ5_append_3fe6f_0_24.2.2.2.2.2.2.2.2.2.2.2.1
theorem dJ5_append_3fe6f_24 : decode cJ5_append_3fe6f 24 = .ok (.aload_n 0, 1) := qdJ5_append_3fe6f_0_24.2.2.2.2.2.2.2.2.2.2.2.2.1
theorem dJ5_append_3fe6f_25 : decode cJ5_append_3fe6f 25 = .ok (.getfield 15, 3) := qdJ5_append_3fe6f_0_24.2.2.2.2.2.2.2.2.2.2.2.2.2.1
theorem dJ5_append_3fe6f_28 : decode cJ5_append_3fe6f 28 = .ok (.aload_n 0, 1) := qdJ5_append_3fe6f_0_24.2.2.2.2.2.2.2.2.2.2.2.2.2.2.1
theorem dJ5_append_3fe6f_29 : decode cJ5_append_3fe6f 29 = .ok (.dup, 1) := qdJ5_append_3fe6f_0_24.2.2.2.2.2.2.2.2.2.2.2.2.2.2.2.1
theorem dJ5_append_3fe6f_30 : decode cJ5_append_3fe6f 30 = .ok (.getfield 79, 3) := qdJ5_append_3fe6f_0_24.2.2.2.2.2.2.2.2.2.2.2.2.2.2.2.2.1
theorem dJ5_append_3fe6f_33 : decode cJ5_append_3fe6f 33 = .ok (.dup_x1, 1) := qdJ5_append_3fe6f_0_24.2.2.2.2.2.2.2.2.2.2.2.2.2.2.2.2.2.1
theorem dJ5_append_3fe6f_34 : decode cJ5_append_3fe6f 34 = .ok (.iconst 1, 1) := qdJ5_append_3fe6f_0_24.2.2.2.2.2.2.2.2.2.2.2.2.2.2.2.2.2.2.1
theorem dJ5_append_3fe6f_35 : decode cJ5_append_3fe6f 35 = .ok (.iadd, 1) := qdJ5_append_3fe6f_0_24.2.2.2.2.2.2.2.2.2.2.2.2.2.2.2.2.2.2.2.1
theorem dJ5_append_3fe6f_36 : decode cJ5_append_3fe6f 36 = .ok (.putfield 79, 3) := qdJ5_append_3fe6f_0_24.2.2.2.2.2.2.2.2.2.2.2.2.2.2.2.2.2.2.2.2.1
theorem dJ5_append_3fe6f_39 : decode cJ5_append_3fe6f 39 = .ok (.iload_n 1, 1) := qdJ5_append_3fe6f_0_24.2.2.2.2.2.2.2.2.2.2.2.2.2.2.2.2.2.2.2.2.2.1
theorem dJ5_append_3fe6f_40 : decode cJ5_append_3fe6f 40 = .ok (.i2b, 1) := qdJ5_append_3fe6f_0_24.2.2.2.2.2.2.2.2.2.2.2.2.2.2.2.2.2.2.2.2.2.2.1
theorem dJ5_append_3fe6f_41 : decode cJ5_append_3fe6f 41 = .ok (.bastore, 1) := qdJ5_append_3fe6f_0_24.2.2.2.2.2.2.2.2.2.2.2.2.2.2.2.2.2.2.2.2.2.2.2.1
theorem qdJ5_append_3fe6f_42_19 : dcAll cJ5_append_3fe6f [(42, .goto 33, 3), (45, .aload_n 0, 1), (46, .invokevirtual 83, 3), (49, .ifCond .eq 7, 3), (52, .aload_n 0, 1), (53, .invokevirtual 195, 3), (56, .aload_n 0, 1), (57, .getfield 15, 3), (60, .aload_n 0, 1), (61, .dup, 1), (62, .getfield 79, 3), (65, .dup_x1, 1), (66, .iconst 1, 1), (67, .iadd, 1), (68, .putfield 79, 3), (71, .iload_n 1, 1), (72, .invokestatic 197, 3), (75, .aload_n 0, 1), (76, .areturn, 1)] := dcAll_of (by decide +kernel)
theorem dJ5_append_3fe6f_42 : decode cJ5_append_3fe6f 42 = .ok (.goto 33, 3) := qdJ5_append_3fe6f_42_19.1
theorem dJ5_append_3fe6f_45 : decode cJ5_append_3fe6f 45 = .ok (.aload_n 0, 1) := qdJ5_append_3fe6f_42_19.2.1
theorem dJ5_append_3fe6f_46 : decode cJ5_append_3fe6f 46 = .ok (.invokevirtual 83, 3) := qdJ5_append_3fe6f_42_19.2.2.1
theorem dJ5_append_3fe6f_49 : decode cJ5_append_3fe6f 49 = .ok (.ifCond .eq 7, 3) := qdJ5_append_3fe6f_42_19.2.2.2.1
theorem dJ5_append_3fe6f_52 : decode cJ5_append_3fe6f 52 = .ok (.aload_n 0, 1) := qdJ5_append_3fe6f_42_19.2.2.2.2.1
theorem dJ5_append_3fe6f_53 : decode cJ5_append_3fe6f 53 = .ok (.invokevirtual 195, 3) := qdJ5_append_3fe6f_42_19.2.2.2.2.2.1
theorem dJ5_append_3fe6f_56 : decode cJ5_append_3fe6f 56 = .ok (.aload_n 0, 1) := qdJ5_append_3fe6f_42_19.2.2.2.2.2.2.1
theorem dJ5_append_3fe6f_57 : decode cJ5_append_3fe6f 57 = .ok (.getfield 15, 3) := qdJ5_append_3fe6f_42_19.2.2.2.2.2.2.2.1
theorem dJ5_append_3fe6f_60 : decode cJ5_append_3fe6f 60 = .ok (.aload_n 0, 1) := qdJ5_append_3fe6f_42_19.2.2.2.2.2.2.2.2.1
theorem dJ5_append_3fe6f_61 : decode cJ5_append_3fe6f 61 = .ok (.dup, 1) := qdJ5_append_3fe6f_42_19.2.2.2.2.2.2.2.2.2.1
theorem dJ5_append_3fe6f_62 : decode cJ5_append_3fe6f 62 = .ok (.getfield 79, 3) := qdJ5_append_3fe6f_42_19.2.2.2.2.2.2.2.2.2.2.1
theorem dJ5_append_3fe6f_65 : decode cJ5_append_3fe6f 65 = .ok (.dup_x1, 1) := qdJ5_append_3fe6f_42_19.2.2.2.2.2.2.2.2.2.2.2.1
theorem dJ5_append_3fe6f_66 : decode cJ5_append_3fe6f 66 = .ok (.iconst 1, 1) := qdJ5_append_3fe6f_42_19.2.2.2.2.2.2.2.2.2.2.2.2.1
theorem dJ5_append_3fe6f_67 : decode cJ5_append_3fe6f 67 = .ok (.iadd, 1) := qdJ5_append_3fe6f_42_19.2.2.2.2.2.2.2.2.2.2.2.2.2.1
theorem dJ5_append_3fe6f_68 : decode cJ5_append_3fe6f 68 = .ok (.putfield 79, 3) := qdJ5_append_3fe6f_42_19.2.2.2.2.2.2.2.2.2.2.2.2.2.2.1
theorem dJ5_append_3fe6f_71 : decode cJ5_append_3fe6f 71 = .ok (.iload_n 1, 1) := qdJ5_append_3fe6f_42_19.2.2.2.2.2.2.2.2.2.2.2.2.2.2.2.1
theorem dJ5_append_3fe6f_72 : decode cJ5_append_3fe6f 72 = .ok (.invokestatic 197, 3) := qdJ5_append_3fe6f_42_19.2.2.2.2.2.2.2.2.2.2.2.2.2.2.2.2.1
theorem dJ5_append_3fe6f_75 : decode cJ5_append_3fe6f 75 = .ok (.aload_n 0, 1) := qdJ5_append_3fe6f_42_19.2.2.2.2.2.2.2.2.2.2.2.2.2.2.2.2.2.1
theorem dJ5_append_3fe6f_76 : decode cJ5_append_3fe6f 76 = .ok (.areturn, 1) := qdJ5_append_3fe6f_42_19.2.2.2.2.2.2.2.2.2.2.2.2.2.2.2.2.2.2.1
set_option maxRecDepth 20000 in
theorem ggJ5_append_c97b9_J6_stringSize_0f7a4 : GoodIn wsJ5_append_c97b9 wsJ6_stringSize_0f7a4 := goodIn_r _ [6] rfl (by decide +kernel)
set_option maxRecDepth 20000 in
theorem gJ5_append_c97b9_J6_stringSize_0f7a4 : GoodIn wsJ5_append_c97b9 (va_wsS RJ5 245 yJ6_stringSize_0f7a4 wsJ6_stringSize_0f7a4) := goodIn_app (goodIn_r _ [3, 4, 5] rfl rfl) ggJ5_append_c97b9_J6_stringSize_0f7a4
set_option maxRecDepth 20000 in
theorem ggJ5_append_c97b9_J5_ensureCapacityInternal_d00df : GoodIn wsJ5_append_c97b9 wsJ5_ensureCapacityInternal_d00df := goodIn_r _ [12, 2, 13, 14, 15, 16, 17, 11, 18, 19, 20, 21, 22, 23, 24, 25, 26, 27, 28, 29, 30, 31, 32, 33, 34, 35, 36, 37, 38, 39, 40, 41, 42, 43, 44, 45, 46, 47, 48, 49, 91, 92, 93, 94] rfl (by decide +kernel)
set_option maxRecDepth 20000 in
theorem gJ5_append_c97b9_J5_ensureCapacityInternal_d00df_u100J4 : GoodIn wsJ5_append_c97b9 (va_wsU RJ5 100 RJ4 "java/lang/AbstractStringBuilder" ⟨"java/lang/AbstractStringBuilder", "ensureCapacityInternal", "(I)V"⟩ yJ5_ensureCapacityInternal_d00df wsJ5_ensureCapacityInternal_d00df) := goodIn_app (goodIn_of _ (by decide +kernel)) ggJ5_append_c97b9_J5_ensureCapacityInternal_d00df
set_option maxRecDepth 20000 in
theorem ggJ5_append_c97b9_J5_isLatin1_aae02 : GoodIn wsJ5_append_c97b9 wsJ5_isLatin1_aae02 := goodIn_r _ [54, 55, 13, 91, 92, 93, 94] rfl (by decide +kernel)
set_option maxRecDepth 20000 in
theorem gJ5_append_c97b9_J5_isLatin1_aae02_u83J4 : GoodIn wsJ5_append_c97b9 (va_wsU RJ5 83 RJ4 "java/lang/AbstractStringBuilder" ⟨"java/lang/AbstractStringBuilder", "isLatin1", "()Z"⟩ yJ5_isLatin1_aae02 wsJ5_isLatin1_aae02) := goodIn_app (goodIn_of _ (by decide +kernel)) ggJ5_append_c97b9_J5_isLatin1_aae02
set_option maxRecDepth 20000 in
theorem ggJ5_append_c97b9_J6_getChars_ba4f3 : GoodIn wsJ5_append_c97b9 wsJ6_getChars_ba4f3 := goodIn_r _ [58, 59, 60] rfl (by decide +kernel)
set_option maxRecDepth 20000 in
theorem gJ5_append_c97b9_J6_getChars_ba4f3 : GoodIn wsJ5_append_c97b9 (va_wsS RJ5 248 yJ6_getChars_ba4f3 wsJ6_getChars_ba4f3) := goodIn_app (goodIn_r _ [56, 57, 5] rfl rfl) ggJ5_append_c97b9_J6_getChars_ba4f3
set_option maxRecDepth 20000 in
theorem ggJ5_append_c97b9_J2_getChars_46870 : GoodIn wsJ5_append_c97b9 wsJ2_getChars_46870 := goodIn_r _ [64, 65, 66, 67, 63, 68, 69, 70, 71, 72, 73, 74, 75, 76, 77, 78, 79, 80, 81, 82, 83, 84, 85, 86, 87, 88, 89, 90] rfl (by decide +kernel)
set_option maxRecDepth 20000 in
theorem gJ5_append_c97b9_J2_getChars_46870 : GoodIn wsJ5_append_c97b9 (va_wsS RJ5 251 yJ2_getChars_46870 wsJ2_getChars_46870) := goodIn_app (goodIn_r _ [61, 62, 63] rfl rfl) ggJ5_append_c97b9_J2_getChars_46870
theorem qdJ5_append_c97b9_0_24 : dcAll cJ5_append_c97b9 [(0, .aload_n 0, 1), (1, .getfield 79, 3), (4, .istore_n 2, 1), (5, .iload_n 2, 1), (6, .iload_n 1, 1), (7, .invokestatic 245, 3), (10, .iadd, 1), (11, .istore_n 3, 1), (12, .aload_n 0, 1), (13, .iload_n 3, 1), (14, .invokevirtual 100, 3), (17, .aload_n 0, 1), (18, .invokevirtual 83, 3), (21, .ifCond .eq 16, 3), (24, .iload_n 1, 1), (25, .iload_n 3, 1), (26, .aload_n 0, 1), (27, .getfield 15, 3), (30, .invokestatic 248, 3), (33, .pop, 1), (34, .goto 14, 3), (37, .iload_n 1, 1), (38, .iload_n 2, 1), (39, .iload_n 3, 1)] := dcAll_of (by decide +kernel)
theorem dJ5_append_c97b9_0 : decode cJ5_append_c97b9 0 = .ok (.aload_n 0, 1) := qdJ5_append_c97b9_0_24.1
theorem dJ5_append_c97b9_1 : decode cJ5_append_c97b9 1 = .ok (.getfield 79, 3) := qdJ5_append_c97b9_0_24.2.1
theorem dJ5_append_c97b9_4 : decode cJ5_append_c97b9 4 = .ok (.istore_n 2, 1) := qdJ5_append_c97b9_0_24.2.2.1
theorem dJ5_append_c97b9_5 : decode cJ5_append_c97b9 5 = .ok (.iload_n 2, 1) := qdJ5_append_c97b9_0_24.2.2.2.1
theorem dJ5_append_c97b9_6 : decode cJ5_append_c97b9 6 = .ok (.iload_n 1, 1) := qdJ5_append_c97b9_0_24.2.2.2.2.1
theorem dJ5_append_c97b9_7 : decode cJ5_append_c97b9 7 = .ok (.invokestatic 245, 3) := qdJ5_append_c97b9_0_24.2.2.2.2.2.1
theorem dJ5_append_c97b9_10 : decode cJ5_append_c97b9 10 = .ok (.iadd, 1) := qdJ5_append_c97b9_0_24.2.2.2.2.2.2.1
theorem dJ5_append_c97b9_11 : decode cJ5_append_c97b9 11 = .ok (.istore_n 3, 1) := qdJ5_append_c97b9_0_24.2.2.2.2.2.2.2.1
theorem dJ5_append_c97b9_12 : decode cJ5_append_c97b9 12 = .ok (.aload_n 0, 1) := qdJ5_append_c97b9_0_24.2.2.2.2.2.2.2.2.1
theorem dJ5_append_c97b9_13 : decode cJ5_append_c97b9 13 = .ok (.iload_n 3, 1) := qdJ5_append_c97b9_0_24.2.2.2.2.2.2.2.2.2.1
theorem dJ5_append_c97b9_14 : decode cJ5_append_c97b9 14 = .ok (.invokevirtual 100, 3) := qdJ5_append_c97b9_0_24.2.2.2.2.2.2.2.2.2.2.1
theorem dJ5_append_c97b9_17 : decode cJ5_append_c97b9 17 = .ok (.aload_n 0, 1) := qdJ5_append_c97b9_0_24.2.2.2.2.2.2.2.2.2.2.2.1
theorem dJ5_append_c97b9_18 : decode cJ5_append_c97b9 18 = .ok (.invokevirtual 83, 3) := qdJ5_append_c97b9_0_24.2.2.2.2.2.2.2.2.2.2.2.2.1
theorem dJ5_append_c97b9_21 : decode cJ5_append_c97b9 21 = .ok (.ifCond .eq 16, 3) := qdJ5_append_c97b9_0_24.2.2.2.2.2.2.2.2.2.2.2.2.2.1
theorem dJ5_append_c97b9_24 : decode cJ5_append_c97b9 24 = .ok (.iload_n 1, 1) := qdJ5_append_c97b9_0_24.2.2.2.2.2.2.2.2.2.2.2.2.2.2.1
theorem dJ5_append_c97b9_25 : decode cJ5_append_c97b9 25 = .ok (.iload_n 3, 1) := qdJ5_append_c97b9_0_24.2.2.2.2.2.2.2.2.2.2.2.2.2.2.2.1
theorem dJ5_append_c97b9_26 : decode cJ5_append_c97b9 26 = .ok (.aload_n 0, 1) := qdJ5_append_c97b9_0_24.2.2.2.2.2.2.2.2.2.2.2.2.2.2.2.2.1
theorem dJ5_append_c97b9_27 : decode cJ5_append_c97b9 27 = .ok (.getfield 15, 3) := qdJ5_append_c97b9_0_24.2.2.2.2.2.2.2.2.2.2.2.2.2.2.2.2.2.1
theorem dJ5_append_c97b9_30 : decode cJ5_append_c97b9 30 = .ok (.invokestatic 248, 3) := qdJ5_append_c97b9_0_24.2.2.2.2.2.2.2.2.2.2.2.2.2.2.2.2.2.2.1
theorem dJ5_append_c97b9_33 : decode cJ5_append_c97b9 33 = .ok (.pop, 1) := qdJ5_append_c97b9_0_24.2.2.2.2.2.2.2.2.2.2.2.2.2.2.2.2.2.2.2.1
theorem dJ5_append_c97b9_34 : decode cJ5_append_c97b9 34 = .ok (.goto 14, 3) := qdJ5_append_c97b9_0_24.2.2.2.2.2.2.2.2.2.2.2.2.2.2.2.2.2.2.2.2.1
theorem dJ5_append_c97b9_37 : decode cJ5_append_c97b9 37 = .ok (.iload_n 1, 1) := qdJ5_append_c97b9_0_24.2.2.2.2.2.2.2.2.2.2.2.2.2.2.2.2.2.2.2.2.2.1
theorem dJ5_append_c97b9_38 : decode cJ5_append_c97b9 38 = .ok (.iload_n 2, 1) := qdJ5_append_c97b9_0_24.2.2.2.2.2.2.2.2.2.2.2.2.2.2.2.2.2.2.2.2.2.2.1
theorem dJ5_append_c97b9_39 : decode cJ5_append_c97b9 39 = .ok (.iload_n 3, 1) := qdJ5_append_c97b9_0_24.2.2.2.2.2.2.2.2.2.2.2.2.2.2.2.2.2.2.2.2.2.2.2.1
theorem qdJ5_append_c97b9_40_9 : dcAll cJ5_append_c97b9 [(40, .aload_n 0, 1), (41, .getfield 15, 3), (44, .invokestatic 251, 3), (47, .pop, 1), (48, .aload_n 0, 1), (49, .iload_n 3, 1), (50, .putfield 79, 3), (53, .aload_n 0, 1), (54, .areturn, 1)] := dcAll_of (by decide +kernel)
theorem dJ5_append_c97b9_40 : decode cJ5_append_c97b9 40 = .ok (.aload_n 0, 1) := qdJ5_append_c97b9_40_9.1
theorem dJ5_append_c97b9_41 : decode cJ5_append_c97b9 41 = .ok (.getfield 15, 3) := qdJ5_append_c97b9_40_9.2.1
theorem dJ5_append_c97b9_44 : decode cJ5_append_c97b9 44 = .ok (.invokestatic 251, 3) := qdJ5_append_c97b9_40_9.2.2.1
theorem dJ5_append_c97b9_47 : decode cJ5_append_c97b9 47 = .ok (.pop, 1) := qdJ5_append_c97b9_40_9.2.2.2.1
theorem dJ5_append_c97b9_48 : decode cJ5_append_c97b9 48 = .ok (.aload_n 0, 1) := qdJ5_append_c97b9_40_9.2.2.2.2.1
theorem dJ5_append_c97b9_49 : decode cJ5_append_c97b9 49 = .ok (.iload_n 3, 1) := qdJ5_append_c97b9_40_9.2.2.2.2.2.1
theorem dJ5_append_c97b9_50 : decode cJ5_append_c97b9 50 = .ok (.putfield 79, 3) := qdJ5_append_c97b9_40_9.2.2.2.2.2.2.1
theorem dJ5_append_c97b9_53 : decode cJ5_append_c97b9 53 = .ok (.aload_n 0, 1) := qdJ5_append_c97b9_40_9.2.2.2.2.2.2.2.1
theorem dJ5_append_c97b9_54 : decode cJ5_append_c97b9 54 = .ok (.areturn, 1) := qdJ5_append_c97b9_40_9.2.2.2.2.2.2.2.2.1
set_option maxRecDepth 20000 in
theorem ggJ5_append_66267_J13_stringSize_95d88 : GoodIn wsJ5_append_66267 wsJ13_stringSize_95d88 := goodIn_r _ [6, 7, 8] rfl (by decide +kernel)
set_option maxRecDepth 20000 in
theorem gJ5_append_66267_J13_stringSize_95d88 : GoodIn wsJ5_append_66267 (va_wsS RJ5 254 yJ13_stringSize_95d88 wsJ13_stringSize_95d88) := goodIn_app (goodIn_r _ [3, 4, 5] rfl rfl) ggJ5_append_66267_J13_stringSize_95d88
set_option maxRecDepth 20000 in
theorem ggJ5_append_66267_J5_ensureCapacityInternal_d00df : GoodIn wsJ5_append_66267 wsJ5_ensureCapacityInternal_d00df := goodIn_r _ [14, 2, 15, 16, 17, 18, 19, 13, 20, 21, 22, 23, 24, 25, 26, 27, 28, 29, 30, 31, 32, 33, 34, 35, 36, 37, 38, 39, 40, 41, 42, 43, 44, 45, 46, 47, 48, 49, 50, 51, 97, 98, 99, 100] rfl (by decide +kernel)
set_option maxRecDepth 20000 in
theorem gJ5_append_66267_J5_ensureCapacityInternal_d00df_u100J4 : GoodIn wsJ5_append_66267 (va_wsU RJ5 100 RJ4 "java/lang/AbstractStringBuilder" ⟨"java/lang/AbstractStringBuilder", "ensureCapacityInternal", "(I)V"⟩ yJ5_ensureCapacityInternal_d00df wsJ5_ensureCapacityInternal_d00df) := goodIn_app (goodIn_of _ (by decide +kernel)) ggJ5_append_66267_J5_ensureCapacityInternal_d00df
set_option maxRecDepth 20000 in
theorem ggJ5_append_66267_J5_isLatin1_aae02 : GoodIn wsJ5_append_66267 wsJ5_isLatin1_aae02 := goodIn_r _ [56, 57, 15, 97, 98, 99, 100] rfl (by decide +kernel)
set_option maxRecDepth 20000 in
theorem gJ5_append_66267_J5_isLatin1_aae02_u83J4 : GoodIn wsJ5_append_66267 (va_wsU RJ5 83 RJ4 "java/lang/AbstractStringBuilder" ⟨"java/lang/AbstractStringBuilder", "isLatin1", "()Z"⟩ yJ5_isLatin1_aae02 wsJ5_isLatin1_aae02) := goodIn_app (goodIn_of _ (by decide +kernel)) ggJ5_append_66267_J5_isLatin1_aae02
set_option maxRecDepth 20000 in
theorem ggJ5_append_66267_J13_getChars_11360 : GoodIn wsJ5_append_66267 wsJ13_getChars_11360 := goodIn_r _ [60, 61, 62, 63, 64] rfl (by decide +kernel)
set_option maxRecDepth 20000 in
theorem gJ5_append_66267_J13_getChars_11360 : GoodIn wsJ5_append_66267 (va_wsS RJ5 259 yJ13_getChars_11360 wsJ13_getChars_11360) := goodIn_app (goodIn_r _ [58, 59, 5] rfl rfl) ggJ5_append_66267_J13_getChars_11360
set_option maxRecDepth 20000 in
theorem ggJ5_append_66267_J2_getChars_1ba55 : GoodIn wsJ5_append_66267 wsJ2_getChars_1ba55 := goodIn_r _ [68, 69, 70, 71, 67, 72, 73, 74, 75, 76, 77, 78, 79, 80, 81, 82, 83, 84, 85, 86, 87, 88, 89, 90, 91, 92, 93, 94, 95, 96] rfl (by decide +kernel)
set_option maxRecDepth 20000 in
theorem gJ5_append_66267_J2_getChars_1ba55 : GoodIn wsJ5_append_66267 (va_wsS RJ5 262 yJ2_getChars_1ba55 wsJ2_getChars_1ba55) := goodIn_app (goodIn_r _ [65, 66, 67] rfl rfl) ggJ5_append_66267_J2_getChars_1ba55
theorem qdJ5_append_66267_0_24 : dcAll cJ5_append_66267 [(0, .aload_n 0, 1), (1, .getfield 79, 3), (4, .istore_n 3, 1), (5, .iload_n 3, 1), (6, .lload_n 1, 1), (7, .invokestatic 254, 3), (10, .iadd, 1), (11, .istore 4, 2), (13, .aload_n 0, 1), (14, .iload 4, 2), (16, .invokevirtual 100, 3), (19, .aload_n 0, 1), (20, .invokevirtual 83, 3), (23, .ifCond .eq 17, 3), (26, .lload_n 1, 1), (27, .iload 4, 2), (29, .aload_n 0, 1), (30, .getfield 15, 3), (33, .invokestatic 259, 3), (36, .pop, 1), (37, .goto 15, 3), (40, .lload_n 1, 1), (41, .iload_n 3, 1), (42, .iload 4, 2)] := dcAll_of (by decide +kernel)
theorem dJ5_append_66267_0 : decode cJ5_append_66267 0 = .ok (.aload_n 0, 1) := qdJ5_append_66267_0_24.1
theorem dJ5_append_66267_1 : decode cJ5_append_66267 1 = .ok (.getfield 79, 3) := qdJ5_append_66267_0_24.2.1
theorem dJ5_append_66267_4 : decode cJ5_append_66267 4 = .ok (.istore_n 3, 1) := qdJ5_append_66267_0_24.2.2.1
theorem dJ5_append_66267_5 : decode cJ5_append_66267 5 = .ok (.iload_n 3, 1) := qdJ5_append_66267_0_24.2.2.2.1
theorem dJ5_append_66267_6 : decode cJ5_append_66267 6 = .ok (.lload_n 1, 1) := qdJ5_append_66267_0_24.2.2.2.2.1
theorem dJ5_append_66267_7 : decode cJ5_append_66267 7 = .ok (.invokestatic 254, 3) := qdJ5_append_66267_0_24.2.2.2.2.2.1
theorem dJ5_append_66267_10 : decode cJ5_append_66267 10 = .ok (.iadd, 1) := qdJ5_append_66267_0_24.2.2.2.2.2.2.1
theorem dJ5_append_66267_11 : decode cJ5_append_66267 11 = .ok (.istore 4, 2) := qdJ5_append_66267_0_24.2.2.2.2.2.2.2.1
theorem dJ5_append_66267_13 : decode cJ5_append_66267 13 = .ok (.aload_n 0, 1) := qdJ5_append_66267_0_24.2.2.2.2.2.2.2.2.1
theorem dJ5_append_66267_14 : decode cJ5_append_66267 14 = .ok (.iload 4, 2) := qdJ5_append_66267_0_24.2.2.2.2.2.2.2.2.2.1
theorem dJ5_append_66267_16 : decode cJ5_append_66267 16 = .ok (.invokevirtual 100, 3) := qdJ5_append_66267_0_24.2.2.2.2.2.2.2.2.2.2.1
theorem dJ5_append_66267_19 : decode cJ5_append_66267 19 = .ok (.aload_n 0, 1) := qdJ5_append_66267_0_24.2.2.2.2.2.2.2.2.2.2.2.1
theorem dJ5_append_66267_20 : decode cJ5_append_66267 20 = .ok (.invokevirtual 83, 3) := qdJ5_append_66267_0_24.2.2.2.2.2.2.2.2.2.2.2.2.1
theorem dJ5_append_66267_23 : decode cJ5_append_66267 23 = .ok (.ifCond .eq 17, 3) := qdJ5_append_66267_0_24.2.2.2.2.2.2.2.2.2.2.2.2.2.1
theorem dJ5_append_66267_26 : decode cJ5_append_66267 26 = .ok (.lload_n 1, 1) := qdJ5_append_66267_0_24.2.2.2.2.2.2.2.2.2.2.2.2.2.2.1
theorem dJ5_append_66267_27 : decode cJ5_append_66267 27 = .ok (.iload 4, 2) := qdJ5_append_66267_0_24.2.2.2.2.2.2.2.2.2.2.2.2.2.2.2.1
theorem dJ5_append_66267_29 : decode cJ5_append_66267 29 = .ok (.aload_n 0, 1) := qdJ5_append_66267_0_24.2.2.2.2.2.2.2.2.2.2.2.2.2.2.2.2.1
theorem dJ5_append_66267_30 : decode cJ5_append_66267 30 = .ok (.getfield 15, 3) := qdJ5_append_66267_0_24.2.2.2.2.2.2.2.2.2.2.2.2.2.2.2.2.2.1
theorem dJ5_append_66267_33 : decode cJ5_append_66267 33 = .ok (.invokestatic 259, 3) := qdJ5_append_66267_0_24.2.2.2.2.2.2.2.2.2.2.2.2.2.2.2.2.2.2.1
theorem dJ5_append_66267_36 : decode cJ5_append_66267 36 = .ok (.pop, 1) := qdJ5_append_66267_0_24.2.2.2.2.2.2.2.2.2.2.2.2.2.2.2.2.2.2.2.1
theorem dJ5_append_66267_37 : decode cJ5_append_66267 37 = .ok (.goto 15, 3) := qdJ5_append_66267_0_24.2.2.2.2.2.2.2.2.2.2.2.2.2.2.2.2.2.2.2.2.1
theorem dJ5_append_66267_40 : decode cJ5_append_66267 40 = .ok (.lload_n 1, 1) := qdJ5_append_66267_0_24.2.2.2.2.2.2.2.2.2.2.2.2.2.2.2.2.2.2.2.2.2.1
theorem dJ5_append_66267_41 : decode cJ5_append_66267 41 = .ok (.iload_n 3, 1) := qdJ5_append_66267_0_24.2.2.2.2.2.2.2.2.2.2.2.2.2.2.2.2.2.2.2.2.2.2.1
theorem dJ5_append_66267_42 : decode cJ5_append_66267 42 = .ok (.iload 4, 2) := qdJ5_append_66267_0_24.2.2.2.2.2.2.2.2.2.2.2.2.2.2.2.2.2.2.2.2.2.2.2.1
theorem qdJ5_append_66267_44_9 : dcAll cJ5_append_66267 [(44, .aload_n 0, 1), (45, .getfield 15, 3), (48, .invokestatic 262, 3), (51, .pop, 1), (52, .aload_n 0, 1), (53, .iload 4, 2), (55, .putfield 79, 3), (58, .aload_n 0, 1), (59, .areturn, 1)] := dcAll_of (by decide +kernel)
theorem dJ5_append_66267_44 : decode cJ5_append_66267 44 = .ok (.aload_n 0, 1) := qdJ5_append_66267_44_9.1
theorem dJ5_append_66267_45 : decode cJ5_append_66267 45 = .ok (.getfield 15, 3) := qdJ5_append_66267_44_9.2.1
theorem dJ5_append_66267_48 : decode cJ5_append_66267 48 = .ok (.invokestatic 262, 3) := qdJ5_append_66267_44_9.2.2.1
theorem dJ5_append_66267_51 : decode cJ5_append_66267 51 = .ok (.pop, 1) := qdJ5_append_66267_44_9.2.2.2.1
theorem dJ5_append_66267_52 : decode cJ5_append_66267 52 = .ok (.aload_n 0, 1) := qdJ5_append_66267_44_9.2.2.2.2.1
theorem dJ5_append_66267_53 : decode cJ5_append_66267 53 = .ok (.iload 4, 2) := qdJ5_append_66267_44_9.2.2.2.2.2.1
theorem dJ5_append_66267_55 : decode cJ5_append_66267 55 = .ok (.putfield 79, 3) := qdJ5_append_66267_44_9.2.2.2.2.2.2.1
theorem dJ5_append_66267_58 : decode cJ5_append_66267 58 = .ok (.aload_n 0, 1) := qdJ5_append_66267_44_9.2.2.2.2.2.2.2.1
theorem dJ5_append_66267_59 : decode cJ5_append_66267 59 = .ok (.areturn, 1) := qdJ5_append_66267_44_9.2.2.2.2.2.2.2.2.1
set_option maxRecDepth 20000 in
theorem ggJ5_reverse_278bc_J5_isLatin1_aae02 : GoodIn wsJ5_reverse_278bc wsJ5_isLatin1_aae02 := goodIn_r _ [8, 9, 10, 55, 56, 57, 58] rfl (by decide +kernel)
set_option maxRecDepth 20000 in
theorem gJ5_reverse_278bc_J5_isLatin1_aae02_u83J4 : GoodIn wsJ5_reverse_278bc (va_wsU RJ5 83 RJ4 "java/lang/AbstractStringBuilder" ⟨"java/lang/AbstractStringBuilder", "isLatin1", "()Z"⟩ yJ5_isLatin1_aae02 wsJ5_isLatin1_aae02) := goodIn_app (goodIn_of _ (by decide +kernel)) ggJ5_reverse_278bc_J5_isLatin1_aae02
set_option maxRecDepth 20000 in
theorem ggJ5_reverse_278bc_J2_reverse_db04f : GoodIn wsJ5_reverse_278bc wsJ2_reverse_db04f := goodIn_r _ [14, 15, 16, 13, 17, 18, 19, 20, 21, 22, 23, 24, 25, 26, 27, 28, 29, 30, 31, 32, 33, 34, 35, 36, 37, 38, 39, 40, 41, 42, 43, 44, 45, 46, 47, 48, 49, 50, 51, 52, 53, 54] rfl (by decide +kernel)
set_option maxRecDepth 20000 in
theorem gJ5_reverse_278bc_J2_reverse_db04f : GoodIn wsJ5_reverse_278bc (va_wsS RJ5 358 yJ2_reverse_db04f wsJ2_reverse_db04f) := goodIn_app (goodIn_r _ [11, 12, 13] rfl rfl) ggJ5_reverse_278bc_J2_reverse_db04f
theorem qdJ5_reverse_278bc_0_24 : dcAll cJ5_reverse_278bc [(0, .aload_n 0, 1), (1, .getfield 15, 3), (4, .astore_n 1, 1), (5, .aload_n 0, 1), (6, .getfield 79, 3), (9, .istore_n 2, 1), (10, .iload_n 2, 1), (11, .iconst 1, 1), (12, .isub, 1), (13, .istore_n 3, 1), (14, .aload_n 0, 1), (15, .invokevirtual 83, 3), (18, .ifCond .eq 50, 3), (21, .iload_n 3, 1), (22, .iconst 1, 1), (23, .isub, 1), (24, .iconst 1, 1), (25, .ishr, 1), (26, .istore 4, 2), (28, .iload 4, 2), (30, .ifCond .lt 35, 3), (33, .iload_n 3, 1), (34, .iload 4, 2), (36, .isub, 1)] := dcAll_of (by decide +kernel)
theorem dJ5_reverse_278bc_0 : decode cJ5_reverse_278bc 0 = .ok (.aload_n 0, 1) := qdJ5_reverse_278bc_0_24.1
theorem dJ5_reverse_278bc_1 : decode cJ5_reverse_278bc 1 = .ok (.getfield 15, 3) := qdJ5_reverse_278bc_0_24.2.1
theorem dJ5_reverse_278bc_4 : decode cJ5_reverse_278bc 4 = .ok (.astore_n 1, 1) := qdJ5_reverse_278bc_0_24.2.2.1
theorem dJ5_reverse_278bc_5 : decode cJ5_reverse_278bc 5 = .ok (.aload_n 0, 1) := qdJ5_reverse_278bc_0_24.2.2.2.1
theorem dJ5_reverse_278bc_6 : decode cJ5_reverse_278bc 6 = .ok (.getfield 79, 3) := qdJ5_reverse_278bc_0_24.2.2.2.2.1
theorem dJ5_reverse_278bc_9 : decode cJ5_reverse_278bc 9 = .ok (.istore_n 2, 1) := qdJ5_reverse_278bc_0_24.2.2.2.2.2.1
theorem dJ5_reverse_278bc_10 : decode cJ5_reverse_278bc 10 = .ok (.iload_n 2, 1) := qdJ5_reverse_278bc_0_24.2.2.2.2.2.2.1
theorem dJ5_reverse_278bc_11 : decode cJ5_reverse_278bc 11 = .ok (.iconst 1, 1) := qdJ5_reverse_278bc_0_24.2.2.2.2.2.2.2.1
theorem dJ5_reverse_278bc_12 : decode cJ5_reverse_278bc 12 = .ok (.isub, 1) := qdJ5_reverse_278bc_0_24.2.2.2.2.2.2.2.2.1
theorem dJ5_reverse_278bc_13 : decode cJ5_reverse_278bc 13 = .ok (.istore_n 3, 1) := qdJ5_reverse_278bc_0_24.2.2.2.2.2.2.2.2.2.1
theorem dJ5_reverse_278bc_14 : decode cJ5_reverse_278bc 14 = .ok (.aload_n 0, 1) := qdJ5_reverse_278bc_0_24.2.2.2.2.2.2.2.2.2.2.1
theorem dJ5_reverse_278bc_15 : decode cJ5_reverse_278bc 15 = .ok (.invokevirtual 83, 3) := qdJ5_reverse_278bc_0_24.2.2.2.2.2.2.2.2.2.2.2.1
theorem dJ5_reverse_278bc_18 : decode cJ5_reverse_278bc 18 = .ok (.ifCond .eq 50, 3) := qdJ5_reverse_278bc_0_24.2.2.2.2.2.2.2.2.2.2.2.2.1
theorem dJ5_reverse_278bc_21 : decode cJ5_reverse_278bc 21 = .ok (.iload_n 3, 1) := qdJ5_reverse_278bc_0_24.2.2.2.2.2.2.2.2.2.2.2.2.2.1
theorem dJ5_reverse_278bc_22 : decode cJ5_reverse_278bc 22 = .ok (.iconst 1, 1) := qdJ5_reverse_278bc_0_24.2.2.2.2.2.2.2.2.2.2.2.2.2.2.1
theorem dJ5_reverse_278bc_23 : decode cJ5_reverse_278bc 23 = .ok (.isub, 1) := qdJ5_reverse_278bc_0_24.2.2.2.2.2.2.2.2.2.2.2.2.2.2.2.1
theorem dJ5_reverse_278bc_24 : decode cJ5_reverse_278bc 24 = .ok (.iconst 1, 1) := qdJ5_reverse_278bc_0_24.2.2.2.2.2.2.2.2.2.2.2.2.2.2.2.2.1
theorem dJ5_reverse_278bc_25 : decode cJ5_reverse_278bc 25 = .ok (.ishr, 1) := qdJ5_reverse_278bc_0_24.2.2.2.2.2.2.2.2.2.2.2.2.2.2.2.2.2.1
theorem dJ5_reverse_278bc_26 : decode cJ5_reverse_278bc 26 = .ok (.istore 4, 2) := qdJ5_reverse_278bc_0_24.2.2.2.2.2.2.2.2.2.2.2.2.2.2.2.2.2.2.1
theorem dJ5_reverse_278bc_28 : decode cJ5_reverse_278bc 28 = .ok (.iload 4, 2) := qdJ5_reverse_278bc_0_24.2.2.2.2.2.2.2.2.2.2.2.2.2.2.2.2.2.2.2.1
theorem dJ5_reverse_278bc_30 : decode cJ5_reverse_278bc 30 = .ok (.ifCond .lt 35, 3) := qdJ5_reverse_278bc_0_24.2.2.2.2.2.2.2.2.2.2.2.2.2.2.2.2.2.2.2.2.1
theorem dJ5_reverse_278bc_33 : decode cJ5_reverse_278bc 33 = .ok (.iload_n 3, 1) := qdJ5_reverse_278bc_0_24.2.2.2.2.2.2.2.2.2.2.2.2.2.2.2.2.2.2.2.2.2.1
theorem dJ5_reverse_278bc_34 : decode cJ5_reverse_278bc 34 = .ok (.iload 4, 2) := qdJ5_reverse_278bc_0_24.2.2.2.2.2.2.2.2.2.2.2.2.2.2.2.2.2.2.2.2.2.2.1
theorem dJ5_reverse_278bc_36 : decode cJ5_reverse_278bc 36 = .ok (.isub, 1) := qdJ5_reverse_278bc_0_24.2.2.2.2.2.2.2.2.2.2.2.2.2.2.2.2.2.2.2.2.2.2.2.1
theorem qdJ5_reverse_278bc_37_23 : dcAll cJ5_reverse_278bc [(37, .istore 5, 2), (39, .aload_n 1, 1), (40, .iload 4, 2), (42, .baload, 1), (43, .istore 6, 2), (45, .aload_n 1, 1), (46, .iload 4, 2), (48, .aload_n 1, 1), (49, .iload 5, 2), (51, .baload, 1), (52, .bastore, 1), (53, .aload_n 1, 1), (54, .iload 5, 2), (56, .iload 6, 2), (58, .bastore, 1), (59, .iinc 4 (-1), 3), (62, .goto (-34), 3), (65, .goto 8, 3), (68, .aload_n 1, 1), (69, .iload_n 2, 1), (70, .invokestatic 358, 3), (73, .aload_n 0, 1), (74, .areturn, 1)] := dcAll_of (by decide +kernel)
theorem dJ5_reverse_278bc_37 : decode cJ5_reverse_278bc 37 = .ok (.istore 5, 2) := qdJ5_reverse_278bc_37_23.1
theorem dJ5_reverse_278bc_39 : decode cJ5_reverse_278bc 39 = .ok (.aload_n 1, 1) := qdJ5_reverse_278bc_37_23.2.1
theorem dJ5_reverse_278bc_40 : decode cJ5_reverse_278bc 40 = .ok (.iload 4, 2) := qdJ5_reverse_278bc_37_23.2.2.1
theorem dJ5_reverse_278bc_42 : decode cJ5_reverse_278bc 42 = .ok (.baload, 1) := qdJ5_reverse_278bc_37_23.2.2.2.1
theorem dJ5_reverse_278bc_43 : decode cJ5_reverse_278bc 43 = .ok (.istore 6, 2) := qdJ5_reverse_278bc_37_23.2.2.2.2.1
theorem dJ5_reverse_278bc_45 : decode cJ5_reverse_278bc 45 = .ok (.aload_n 1, 1) := qdJ5_reverse_278bc_37_23.2.2.2.2.2.1
theorem dJ5_reverse_278bc_46 : decode cJ5_reverse_278bc 46 = .ok (.iload 4, 2) := qdJ5_reverse_278bc_37_23.2.2.2.2.2.2.1
theorem dJ5_reverse_278bc_48 : decode cJ5_reverse_278bc 48 = .ok (.aload_n 1, 1) := qdJ5_reverse_278bc_37_23.2.2.2.2.2.2.2.1
theorem dJ5_reverse_278bc_49 : decode cJ5_reverse_278bc 49 = .ok (.iload 5, 2) := qdJ5_reverse_278bc_37_23.2.2.2.2.2.2.2.2.1
theorem dJ5_reverse_278bc_51 : decode cJ5_reverse_278bc 51 = .ok (.baload, 1) := qdJ5_reverse_278bc_37_23.2.2.2.2.2.2.2.2.2.1
theorem dJ5_reverse_278bc_52 : decode cJ5_reverse_278bc 52 = .ok (.bastore, 1) := qdJ5_reverse_278bc_37_23.2.2.2.2.2.2.2.2.2.2.1
theorem dJ5_reverse_278bc_53 : decode cJ5_reverse_278bc 53 = .ok (.aload_n 1, 1) := qdJ5_reverse_278bc_37_23.2.2.2.2.2.2.2.2.2.2.2.1
theorem dJ5_reverse_278bc_54 : decode cJ5_reverse_278bc 54 = .ok (.iload 5, 2) := qdJ5_reverse_278bc_37_23.2.2.2.2.2.2.2.2.2.2.2.2.1
theorem dJ5_reverse_278bc_56 : decode cJ5_reverse_278bc 56 = .ok (.iload 6, 2) := qdJ5_reverse_278bc_37_23.2.2.2.2.2.2.2.2.2.2.2.2.2.1
theorem dJ5_reverse_278bc_58 : decode cJ5_reverse_278bc 58 = .ok (.bastore, 1) := qdJ5_reverse_278bc_37_23.2.2.2.2.2.2.2.2.2.2.2.2.2.2.1
theorem dJ5_reverse_278bc_59 : decode cJ5_reverse_278bc 59 = .ok (.iinc 4 (-1), 3) := qdJ5_reverse_278bc_37_23.2.2.2.2.2.2.2.2.2.2.2.2.2.2.2.1
theorem dJ5_reverse_278bc_62 : decode cJ5_reverse_278bc 62 = .ok (.goto (-34), 3) := qdJ5_reverse_278bc_37_23.2.2.2.2.2.2.2.2.2.2.2.2.2.2.2.2.1
theorem dJ5_reverse_278bc_65 : decode cJ5_reverse_278bc 65 = .ok (.goto 8, 3) := qdJ5_reverse_278bc_37_23.2.2.2.2.2.2.2.2.2.2.2.2.2.2.2.2.2.1
theorem dJ5_reverse_278bc_68 : decode cJ5_reverse_278bc 68 = .ok (.aload_n 1, 1) := qdJ5_reverse_278bc_37_23.2.2.2.2.2.2.2.2.2.2.2.2.2.2.2.2.2.2.1
theorem dJ5_reverse_278bc_69 : decode cJ5_reverse_278bc 69 = .ok (.iload_n 2, 1) := qdJ5_reverse_278bc_37_23.2.2.2.2.2.2.2.2.2.2.2.2.2.2.2.2.2.2.2.1
theorem dJ5_reverse_278bc_70 : decode cJ5_reverse_278bc 70 = .ok (.invokestatic 358, 3) := qdJ5_reverse_278bc_37_23.2.2.2.2.2.2.2.2.2.2.2.2.2.2.2.2.2.2.2.2.1
theorem dJ5_reverse_278bc_73 : decode cJ5_reverse_278bc 73 = .ok (.aload_n 0, 1) := qdJ5_reverse_278bc_37_23.2.2.2.2.2.2.2.2.2.2.2.2.2.2.2.2.2.2.2.2.2.1
theorem dJ5_reverse_278bc_74 : decode cJ5_reverse_278bc 74 = .ok (.areturn, 1) := qdJ5_reverse_278bc_37_23.2.2.2.2.2.2.2.2.2.2.2.2.2.2.2.2.2.2.2.2.2.2.1
theorem qdJ5_getValue_6d5f1_0_3 : dcAll cJ5_getValue_6d5f1 [(0, .aload_n 0, 1), (1, .getfield 15, 3), (4, .areturn, 1)] := dcAll_of (by decide +kernel)
theorem dJ5_getValue_6d5f1_0 : decode cJ5_getValue_6d5f1 0 = .ok (.aload_n 0, 1) := qdJ5_getValue_6d5f1_0_3.1
theorem dJ5_getValue_6d5f1_1 : decode cJ5_getValue_6d5f1 1 = .ok (.getfield 15, 3) := qdJ5_getValue_6d5f1_0_3.2.1
theorem dJ5_getValue_6d5f1_4 : decode cJ5_getValue_6d5f1 4 = .ok (.areturn, 1) := qdJ5_getValue_6d5f1_0_3.2.2.1
theorem qdJ5_isLatin1_aae02_0_9 : dcAll cJ5_isLatin1_aae02 [(0, .getstatic 18, 3), (3, .ifCond .eq 14, 3), (6, .aload_n 0, 1), (7, .getfield 22, 3), (10, .ifCond .ne 7, 3), (13, .iconst 1, 1), (14, .goto 4, 3), (17, .iconst 0, 1), (18, .ireturn, 1)] := dcAll_of (by decide +kernel)
theorem dJ5_isLatin1_aae02_0 : decode cJ5_isLatin1_aae02 0 = .ok (.getstatic 18, 3) := qdJ5_isLatin1_aae02_0_9.1
theorem dJ5_isLatin1_aae02_3 : decode cJ5_isLatin1_aae02 3 = .ok (.ifCond .eq 14, 3) := qdJ5_isLatin1_aae02_0_9.2.1
theorem dJ5_isLatin1_aae02_6 : decode cJ5_isLatin1_aae02 6 = .ok (.aload_n 0, 1) := qdJ5_isLatin1_aae02_0_9.2.2.1
theorem dJ5_isLatin1_aae02_7 : decode cJ5_isLatin1_aae02 7 = .ok (.getfield 22, 3) := qdJ5_isLatin1_aae02_0_9.2.2.2.1
theorem dJ5_isLatin1_aae02_10 : decode cJ5_isLatin1_aae02 10 = .ok (.ifCond .ne 7, 3) := qdJ5_isLatin1_aae02_0_9.2.2.2.2.1
theorem dJ5_isLatin1_aae02_13 : decode cJ5_isLatin1_aae02 13 = .ok (.iconst 1, 1) := qdJ5_isLatin1_aae02_0_9.2.2.2.2.2.1
theorem dJ5_isLatin1_aae02_14 : decode cJ5_isLatin1_aae02 14 = .ok (.goto 4, 3) := qdJ5_isLatin1_aae02_0_9.2.2.2.2.2.2.1
theorem dJ5_isLatin1_aae02_17 : decode cJ5_isLatin1_aae02 17 = .ok (.iconst 0, 1) := qdJ5_isLatin1_aae02_0_9.2.2.2.2.2.2.2.1
theorem dJ5_isLatin1_aae02_18 : decode cJ5_isLatin1_aae02 18 = .ok (.ireturn, 1) := qdJ5_isLatin1_aae02_0_9.2.2.2.2.2.2.2.2.1
set_option maxRecDepth 20000 in
theorem ggJ5_inflateIfNeededFor_a7421_J0_coder_7d493 : GoodIn wsJ5_inflateIfNeededFor_a7421 wsJ0_coder_7d493 := goodIn_r _ [7, 8, 9, 63, 64, 65, 66] rfl (by decide +kernel)
set_option maxRecDepth 20000 in
theorem gJ5_inflateIfNeededFor_a7421_J0_coder_7d493 : GoodIn wsJ5_inflateIfNeededFor_a7421 (wsV RJ5 40 RJ0 yJ0_coder_7d493 wsJ0_coder_7d493) := goodIn_app (goodIn_r _ [3, 4, 5, 6] rfl rfl) ggJ5_inflateIfNeededFor_a7421_J0_coder_7d493
set_option maxRecDepth 20000 in
theorem ggJ5_inflateIfNeededFor_a7421_J5_inflate_da8c8 : GoodIn wsJ5_inflateIfNeededFor_a7421 wsJ5_inflate_da8c8 := goodIn_r _ [15, 16, 17, 2, 18, 19, 20, 21, 14, 22, 1, 23, 24, 25, 26, 27, 28, 29, 30, 31, 32, 33, 34, 35, 36, 37, 38, 39, 40, 41, 42, 43, 44, 45, 46, 6, 47, 48, 49, 50, 51, 52, 53, 54, 55, 56, 57, 58, 59, 60, 61, 62] rfl (by decide +kernel)
set_option maxRecDepth 20000 in
theorem gJ5_inflateIfNeededFor_a7421_J5_inflate_da8c8_u195J4 : GoodIn wsJ5_inflateIfNeededFor_a7421 (va_wsU RJ5 195 RJ4 "java/lang/AbstractStringBuilder" ⟨"java/lang/AbstractStringBuilder", "inflate", "()V"⟩ yJ5_inflate_da8c8 wsJ5_inflate_da8c8) := goodIn_app (goodIn_of _ (by decide +kernel)) ggJ5_inflateIfNeededFor_a7421_J5_inflate_da8c8
theorem qdJ5_inflateIfNeededFor_a7421_0_10 : dcAll cJ5_inflateIfNeededFor_a7421 [(0, .getstatic 18, 3), (3, .ifCond .eq 18, 3), (6, .aload_n 0, 1), (7, .getfield 22, 3), (10, .aload_n 1, 1), (11, .invokevirtual 40, 3), (14, .if_icmp .eq 7, 3), (17, .aload_n 0, 1), (18, .invokevirtual 195, 3), (21, .return_, 1)] := dcAll_of (by decide +kernel)
theorem dJ5_inflateIfNeededFor_a7421_0 : decode cJ5_inflateIfNeededFor_a7421 0 = .ok (.getstatic 18, 3) := qdJ5_inflateIfNeededFor_a7421_0_10.1
theorem dJ5_inflateIfNeededFor_a7421_3 : decode cJ5_inflateIfNeededFor_a7421 3 = .ok (.ifCond .eq 18, 3) := qdJ5_inflateIfNeededFor_a7421_0_10.2.1
theorem dJ5_inflateIfNeededFor_a7421_6 : decode cJ5_inflateIfNeededFor_a7421 6 = .ok (.aload_n 0, 1) := qdJ5_inflateIfNeededFor_a7421_0_10.2.2.1
theorem dJ5_inflateIfNeededFor_a7421_7 : decode cJ5_inflateIfNeededFor_a7421 7 = .ok (.getfield 22, 3) := qdJ5_inflateIfNeededFor_a7421_0_10.2.2.2.1
theorem dJ5_inflateIfNeededFor_a7421_10 : decode cJ5_inflateIfNeededFor_a7421 10 = .ok (.aload_n 1, 1) := qdJ5_inflateIfNeededFor_a7421_0_10.2.2.2.2.1
theorem dJ5_inflateIfNeededFor_a7421_11 : decode cJ5_inflateIfNeededFor_a7421 11 = .ok (.invokevirtual 40, 3) := qdJ5_inflateIfNeededFor_a7421_0_10.2.2.2.2.2.1
theorem dJ5_inflateIfNeededFor_a7421_14 : decode cJ5_inflateIfNeededFor_a7421 14 = .ok (.if_icmp .eq 7, 3) := qdJ5_inflateIfNeededFor_a7421_0_10.2.2.2.2.2.2.1
theorem dJ5_inflateIfNeededFor_a7421_17 : decode cJ5_inflateIfNeededFor_a7421 17 = .ok (.aload_n 0, 1) := qdJ5_inflateIfNeededFor_a7421_0_10.2.2.2.2.2.2.2.1
theorem dJ5_inflateIfNeededFor_a7421_18 : decode cJ5_inflateIfNeededFor_a7421 18 = .ok (.invokevirtual 195, 3) := qdJ5_inflateIfNeededFor_a7421_0_10.2.2.2.2.2.2.2.2.1
theorem dJ5_inflateIfNeededFor_a7421_21 : decode cJ5_inflateIfNeededFor_a7421 21 = .ok (.return_, 1) := qdJ5_inflateIfNeededFor_a7421_0_10.2.2.2.2.2.2.2.2.2.1
set_option maxRecDepth 20000 in
theorem ggJ5_putStringAt_47b60_J5_inflateIfNeededFor_a7421 : GoodIn wsJ5_putStringAt_47b60 wsJ5_inflateIfNeededFor_a7421 := goodIn_r _ [8, 9, 2, 10, 11, 12, 13, 14, 15, 16, 17, 18, 19, 20, 7, 21, 1, 22, 23, 24, 25, 26, 27, 28, 29, 30, 31, 32, 33, 34, 35, 36, 37, 38, 39, 40, 41, 42, 43, 44, 45, 46, 47, 48, 49, 50, 51, 52, 53, 54, 55, 56, 57, 58, 59, 60, 61, 62, 63, 75, 76, 77, 78, 79, 80, 81, 82] rfl (by decide +kernel)
set_option maxRecDepth 20000 in
theorem gJ5_putStringAt_47b60_J5_inflateIfNeededFor_a7421_u397J4 : GoodIn wsJ5_putStringAt_47b60 (va_wsU RJ5 397 RJ4 "java/lang/AbstractStringBuilder" ⟨"java/lang/AbstractStringBuilder", "inflateIfNeededFor", "(Ljava/lang/String;)V"⟩ yJ5_inflateIfNeededFor_a7421 wsJ5_inflateIfNeededFor_a7421) := goodIn_app (goodIn_of _ (by decide +kernel)) ggJ5_putStringAt_47b60_J5_inflateIfNeededFor_a7421
set_option maxRecDepth 20000 in
theorem ggJ5_putStringAt_47b60_J0_getBytes_840e7 : GoodIn wsJ5_putStringAt_47b60 wsJ0_getBytes_840e7 := goodIn_r _ [67, 68, 69, 70, 71, 72, 73, 11, 12, 13, 14, 15, 16, 74, 38, 39, 40, 41, 42, 30, 43, 44, 45, 46, 47, 48, 49, 50, 51, 52, 53, 54, 55, 56, 57, 58, 59, 60, 61, 62, 63, 79, 80, 81, 82] rfl (by decide +kernel)
set_option maxRecDepth 20000 in
theorem gJ5_putStringAt_47b60_J0_getBytes_840e7 : GoodIn wsJ5_putStringAt_47b60 (wsV RJ5 399 RJ0 yJ0_getBytes_840e7 wsJ0_getBytes_840e7) := goodIn_app (goodIn_r _ [64, 65, 66, 13] rfl rfl) ggJ5_putStringAt_47b60_J0_getBytes_840e7
theorem qdJ5_putStringAt_47b60_0_11 : dcAll cJ5_putStringAt_47b60 [(0, .aload_n 0, 1), (1, .aload_n 2, 1), (2, .invokevirtual 397, 3), (5, .aload_n 2, 1), (6, .aload_n 0, 1), (7, .getfield 15, 3), (10, .iload_n 1, 1), (11, .aload_n 0, 1), (12, .getfield 22, 3), (15, .invokevirtual 399, 3), (18, .return_, 1)] := dcAll_of (by decide +kernel)
theorem dJ5_putStringAt_47b60_0 : decode cJ5_putStringAt_47b60 0 = .ok (.aload_n 0, 1) := qdJ5_putStringAt_47b60_0_11.1
theorem dJ5_putStringAt_47b60_1 : decode cJ5_putStringAt_47b60 1 = .ok (.aload_n 2, 1) := qdJ5_putStringAt_47b60_0_11.2.1
theorem dJ5_putStringAt_47b60_2 : decode cJ5_putStringAt_47b60 2 = .ok (.invokevirtual 397, 3) := qdJ5_putStringAt_47b60_0_11.2.2.1
theorem dJ5_putStringAt_47b60_5 : decode cJ5_putStringAt_47b60 5 = .ok (.aload_n 2, 1) := qdJ5_putStringAt_47b60_0_11.2.2.2.1
theorem dJ5_putStringAt_47b60_6 : decode cJ5_putStringAt_47b60 6 = .ok (.aload_n 0, 1) := qdJ5_putStringAt_47b60_0_11.2.2.2.2.1
theorem dJ5_putStringAt_47b60_7 : decode cJ5_putStringAt_47b60 7 = .ok (.getfield 15, 3) := qdJ5_putStringAt_47b60_0_11.2.2.2.2.2.1
theorem dJ5_putStringAt_47b60_10 : decode cJ5_putStringAt_47b60 10 = .ok (.iload_n 1, 1) := qdJ5_putStringAt_47b60_0_11.2.2.2.2.2.2.1
theorem dJ5_putStringAt_47b60_11 : decode cJ5_putStringAt_47b60 11 = .ok (.aload_n 0, 1) := qdJ5_putStringAt_47b60_0_11.2.2.2.2.2.2.2.1
theorem dJ5_putStringAt_47b60_12 : decode cJ5_putStringAt_47b60 12 = .ok (.getfield 22, 3) := qdJ5_putStringAt_47b60_0_11.2.2.2.2.2.2.2.2.1
theorem dJ5_putStringAt_47b60_15 : decode cJ5_putStringAt_47b60 15 = .ok (.invokevirtual 399, 3) := qdJ5_putStringAt_47b60_0_11.2.2.2.2.2.2.2.2.2.1
theorem dJ5_putStringAt_47b60_18 : decode cJ5_putStringAt_47b60 18 = .ok (.return_, 1) := qdJ5_putStringAt_47b60_0_11.2.2.2.2.2.2.2.2.2.2.1
theorem qdJ11_isHighSurrogate_fc78d_0_10 : dcAll cJ11_isHighSurrogate_fc78d [(0, .iload_n 0, 1), (1, .ldc 75, 2), (3, .if_icmp .lt 13, 3), (6, .iload_n 0, 1), (7, .ldc 76, 2), (9, .if_icmp .ge 7, 3), (12, .iconst 1, 1), (13, .goto 4, 3), (16, .iconst 0, 1), (17, .ireturn, 1)] := dcAll_of (by decide +kernel)
theorem dJ11_isHighSurrogate_fc78d_0 : decode cJ11_isHighSurrogate_fc78d 0 = .ok (.iload_n 0, 1) := qdJ11_isHighSurrogate_fc78d_0_10.1
theorem dJ11_isHighSurrogate_fc78d_1 : decode cJ11_isHighSurrogate_fc78d 1 = .ok (.ldc 75, 2) := qdJ11_isHighSurrogate_fc78d_0_10.2.1
theorem dJ11_isHighSurrogate_fc78d_3 : decode cJ11_isHighSurrogate_fc78d 3 = .ok (.if_icmp .lt 13, 3) := qdJ11_isHighSurrogate_fc78d_0_10.2.2.1
theorem dJ11_isHighSurrogate_fc78d_6 : decode cJ11_isHighSurrogate_fc78d 6 = .ok (.iload_n 0, 1) := qdJ11_isHighSurrogate_fc78d_0_10.2.2.2.1
theorem dJ11_isHighSurrogate_fc78d_7 : decode cJ11_isHighSurrogate_fc78d 7 = .ok (.ldc 76, 2) := qdJ11_isHighSurrogate_fc78d_0_10.2.2.2.2.1
theorem dJ11_isHighSurrogate_fc78d_9 : decode cJ11_isHighSurrogate_fc78d 9 = .ok (.if_icmp .ge 7, 3) := qdJ11_isHighSurrogate_fc78d_0_10.2.2.2.2.2.1
theorem dJ11_isHighSurrogate_fc78d_12 : decode cJ11_isHighSurrogate_fc78d 12 = .ok (.iconst 1, 1) := qdJ11_isHighSurrogate_fc78d_0_10.2.2.2.2.2.2.1
theorem dJ11_isHighSurrogate_fc78d_13 : decode cJ11_isHighSurrogate_fc78d 13 = .ok (.goto 4, 3) := qdJ11_isHighSurrogate_fc78d_0_10.2.2.2.2.2.2.2.1
theorem dJ11_isHighSurrogate_fc78d_16 : decode cJ11_isHighSurrogate_fc78d 16 = .ok (.iconst 0, 1) := qdJ11_isHighSurrogate_fc78d_0_10.2.2.2.2.2.2.2.2.1
theorem dJ11_isHighSurrogate_fc78d_17 : decode cJ11_isHighSurrogate_fc78d 17 = .ok (.ireturn, 1) := qdJ11_isHighSurrogate_fc78d_0_10.2.2.2.2.2.2.2.2.2.1
theorem qdJ11_isLowSurrogate_fc78d_0_10 : dcAll cJ11_isLowSurrogate_fc78d [(0, .iload_n 0, 1), (1, .ldc 76, 2), (3, .if_icmp .lt 13, 3), (6, .iload_n 0, 1), (7, .ldc 77, 2), (9, .if_icmp .ge 7, 3), (12, .iconst 1, 1), (13, .goto 4, 3), (16, .iconst 0, 1), (17, .ireturn, 1)] := dcAll_of (by decide +kernel)
theorem dJ11_isLowSurrogate_fc78d_0 : decode cJ11_isLowSurrogate_fc78d 0 = .ok (.iload_n 0, 1) := qdJ11_isLowSurrogate_fc78d_0_10.1
theorem dJ11_isLowSurrogate_fc78d_1 : decode cJ11_isLowSurrogate_fc78d 1 = .ok (.ldc 76, 2) := qdJ11_isLowSurrogate_fc78d_0_10.2.1
theorem dJ11_isLowSurrogate_fc78d_3 : decode cJ11_isLowSurrogate_fc78d 3 = .ok (.if_icmp .lt 13, 3) := qdJ11_isLowSurrogate_fc78d_0_10.2.2.1
theorem dJ11_isLowSurrogate_fc78d_6 : decode cJ11_isLowSurrogate_fc78d 6 = .ok (.iload_n 0, 1) := qdJ11_isLowSurrogate_fc78d_0_10.2.2.2.1
theorem dJ11_isLowSurrogate_fc78d_7 : decode cJ11_isLowSurrogate_fc78d 7 = .ok (.ldc 77, 2) := qdJ11_isLowSurrogate_fc78d_0_10.2.2.2.2.1
theorem dJ11_isLowSurrogate_fc78d_9 : decode cJ11_isLowSurrogate_fc78d 9 = .ok (.if_icmp .ge 7, 3) := qdJ11_isLowSurrogate_fc78d_0_10.2.2.2.2.2.1
theorem dJ11_isLowSurrogate_fc78d_12 : decode cJ11_isLowSurrogate_fc78d 12 = .ok (.iconst 1, 1) := qdJ11_isLowSurrogate_fc78d_0_10.2.2.2.2.2.2.1
theorem dJ11_isLowSurrogate_fc78d_13 : decode cJ11_isLowSurrogate_fc78d 13 = .ok (.goto 4, 3) := qdJ11_isLowSurrogate_fc78d_0_10.2.2.2.2.2.2.2.1
theorem dJ11_isLowSurrogate_fc78d_16 : decode cJ11_isLowSurrogate_fc78d 16 = .ok (.iconst 0, 1) := qdJ11_isLowSurrogate_fc78d_0_10.2.2.2.2.2.2.2.2.1
theorem dJ11_isLowSurrogate_fc78d_17 : decode cJ11_isLowSurrogate_fc78d 17 = .ok (.ireturn, 1) := qdJ11_isLowSurrogate_fc78d_0_10.2.2.2.2.2.2.2.2.2.1
theorem qdJ11_isSurrogate_fc78d_0_10 : dcAll cJ11_isSurrogate_fc78d [(0, .iload_n 0, 1), (1, .ldc 75, 2), (3, .if_icmp .lt 13, 3), (6, .iload_n 0, 1), (7, .ldc 77, 2), (9, .if_icmp .ge 7, 3), (12, .iconst 1, 1), (13, .goto 4, 3), (16, .iconst 0, 1), (17, .ireturn, 1)] := dcAll_of (by decide +kernel)
theorem dJ11_isSurrogate_fc78d_0 : decode cJ11_isSurrogate_fc78d 0 = .ok (.iload_n 0, 1) := qdJ11_isSurrogate_fc78d_0_10.1
theorem dJ11_isSurrogate_fc78d_1 : decode cJ11_isSurrogate_fc78d 1 = .ok (.ldc 75, 2) := qdJ11_isSurrogate_fc78d_0_10.2.1
theorem dJ11_isSurrogate_fc78d_3 : decode cJ11_isSurrogate_fc78d 3 = .ok (.if_icmp .lt 13, 3) := qdJ11_isSurrogate_fc78d_0_10.2.2.1
theorem dJ11_isSurrogate_fc78d_6 : decode cJ11_isSurrogate_fc78d 6 = .ok (.iload_n 0, 1) := qdJ11_isSurrogate_fc78d_0_10.2.2.2.1
theorem dJ11_isSurrogate_fc78d_7 : decode cJ11_isSurrogate_fc78d 7 = .ok (.ldc 77, 2) := qdJ11_isSurrogate_fc78d_0_10.2.2.2.2.1
theorem dJ11_isSurrogate_fc78d_9 : decode cJ11_isSurrogate_fc78d 9 = .ok (.if_icmp .ge 7, 3) := qdJ11_isSurrogate_fc78d_0_10.2.2.2.2.2.1
theorem dJ11_isSurrogate_fc78d_12 : decode cJ11_isSurrogate_fc78d 12 = .ok (.iconst 1, 1) := qdJ11_isSurrogate_fc78d_0_10.2.2.2.2.2.2.1
theorem dJ11_isSurrogate_fc78d_13 : decode cJ11_isSurrogate_fc78d 13 = .ok (.goto 4, 3) := qdJ11_isSurrogate_fc78d_0_10.2.2.2.2.2.2.2.1
theorem dJ11_isSurrogate_fc78d_16 : decode cJ11_isSurrogate_fc78d 16 = .ok (.iconst 0, 1) := qdJ11_isSurrogate_fc78d_0_10.2.2.2.2.2.2.2.2.1
theorem dJ11_isSurrogate_fc78d_17 : decode cJ11_isSurrogate_fc78d 17 = .ok (.ireturn, 1) := qdJ11_isSurrogate_fc78d_0_10.2.2.2.2.2.2.2.2.2.1
theorem qdJ6_getChars_ba4f3_0_24 : dcAll cJ6_getChars_ba4f3 [(0, .iload_n 1, 1), (1, .istore 5, 2), (3, .iload_n 0, 1), (4, .ifCond .ge 7, 3), (7, .iconst 1, 1), (8, .goto 4, 3), (11, .iconst 0, 1), (12, .istore 6, 2), (14, .iload 6, 2), (16, .ifCond .ne 6, 3), (19, .iload_n 0, 1), (20, .ineg, 1), (21, .istore_n 0, 1), (22, .iload_n 0, 1), (23, .bipush (-100), 2), (25, .if_icmp .gt 47, 3), (28, .iload_n 0, 1), (29, .bipush 100, 2), (31, .idiv, 1), (32, .istore_n 3, 1), (33, .iload_n 3, 1), (34, .bipush 100, 2), (36, .imul, 1), (37, .iload_n 0, 1)] := dcAll_of (by decide +kernel)
theorem dJ6_getChars_ba4f3_0 : decode cJ6_getChars_ba4f3 0 = .ok (.iload_n 1, 1) := qdJ6_getChars_ba4f3_0_24.1
theorem dJ6_getChars_ba4f3_1 : decode cJ6_getChars_ba4f3 1 = .ok (.istore 5, 2) := qdJ6_getChars_ba4f3_0_24.2.1
theorem dJ6_getChars_ba4f3_3 : decode cJ6_getChars_ba4f3 3 = .ok (.iload_n 0, 1) := qdJ6_getChars_ba4f3_0_24.2.2.1
theorem dJ6_getChars_ba4f3_4 : decode cJ6_getChars_ba4f3 4 = .ok (.ifCond .ge 7, 3) := qdJ6_getChars_ba4f3_0_24.2.2.2.1
theorem dJ6_getChars_ba4f3_7 : decode cJ6_getChars_ba4f3 7 = .ok (.iconst 1, 1) := qdJ6_getChars_ba4f3_0_24.2.2.2.2.1
theorem dJ6_getChars_ba4f3_8 : decode cJ6_getChars_ba4f3 8 = .ok (.goto 4, 3) := qdJ6_getChars_ba4f3_0_24.2.2.2.2.2.1
theorem dJ6_getChars_ba4f3_11 : decode cJ6_getChars_ba4f3 11 = .ok (.iconst 0, 1) := qdJ6_getChars_ba4f3_0_24.2.2.2.2.2.2.1
theorem dJ6_getChars_ba4f3_12 : decode cJ6_getChars_ba4f3 12 = .ok (.istore 6, 2) := qdJ6_getChars_ba4f3_0_24.2.2.2.2.2.2.2.1
theorem dJ6_getChars_ba4f3_14 : decode cJ6_getChars_ba4f3 14 = .ok (.iload 6, 2) := qdJ6_getChars_ba4f3_0_24.2.2.2.2.2.2.2.2.1
theorem dJ6_getChars_ba4f3_16 : decode cJ6_getChars_ba4f3 16 = .ok (.ifCond .ne 6, 3) := qdJ6_getChars_ba4f3_0_24.2.2.2.2.2.2.2.2.2.1
theorem dJ6_getChars_ba4f3_19 : decode cJ6_getChars_ba4f3 19 = .ok (.iload_n 0, 1) := qdJ6_getChars_ba4f3_0_24.2.2.2.2.2.2.2.2.2.2.1
theorem dJ6_getChars_ba4f3_20 : decode cJ6_getChars_ba4f3 20 = .ok (.ineg, 1) := qdJ6_getChars_ba4f3_0_24.2.2.2.2.2.2.2.2.2.2.2.1
theorem dJ6_getChars_ba4f3_21 : decode cJ6_getChars_ba4f3 21 = .ok (.istore_n 0, 1) := qdJ6_getChars_ba4f3_0_24.2.2.2.2.2.2.2.2.2.2.2.2.1
theorem dJ6_getChars_ba4f3_22 : decode cJ6_getChars_ba4f3 22 = .ok (.iload_n 0, 1) := qdJ6_getChars_ba4f3_0_24.2.2.2.2.2.2.2.2.2.2.2.2.2.1
theorem dJ6_getChars_ba4f3_23 : decode cJ6_getChars_ba4f3 23 = .ok (.bipush (-100), 2) := qdJ6_getChars_ba4f3_0_24.2.2.2.2.2.2.2.2.2.2.2.2.2.2.1
theorem dJ6_getChars_ba4f3_25 : decode cJ6_getChars_ba4f3 25 = .ok (.if_icmp .gt 47, 3) := qdJ6_getChars_ba4f3_0_24.2.2.2.2.2.2.2.2.2.2.2.2.2.2.2.1
theorem dJ6_getChars_ba4f3_28 : decode cJ6_getChars_ba4f3 28 = .ok (.iload_n 0, 1) := qdJ6_getChars_ba4f3_0_24.2.2.2.2.2.2.2.2.2.2.2.2.2.2.2.2.1
theorem dJ6_getChars_ba4f3_29 : decode cJ6_getChars_ba4f3 29 = .ok (.bipush 100, 2) := qdJ6_getChars_ba4f3_0_24.2.2.2.2.2.2.2.2.2.2.2.2.2.2.2.2.2.1
theorem dJ6_getChars_ba4f3_31 : decode cJ6_getChars_ba4f3 31 = .ok (.idiv, 1) := qdJ6_getChars_ba4f3_0_24.2.2.2.2.2.2.2.2.2.2.2.2.2.2.2.2.2.2.1
theorem dJ6_getChars_ba4f3_32 : decode cJ6_getChars_ba4f3 32 = .ok (.istore_n 3, 1) := qdJ6_getChars_ba4f3_0_24.2.2.2.2.2.2.2.2.2.2.2.2.2.2.2.2.2.2.2.1
theorem dJ6_getChars_ba4f3_33 : decode cJ6_getChars_ba4f3 33 = .ok (.iload_n 3, 1) := qdJ6_getChars_ba4f3_0_24.2.2.2.2.2.2.2.2.2.2.2.2.2.2.2.2.2.2.2.2.1
theorem dJ6_getChars_ba4f3_34 : decode cJ6_getChars_ba4f3 34 = .ok (.bipush 100, 2) := qdJ6_getChars_ba4f3_0_24.2.2.2.2.2.2.2.2.2.2.2.2.2.2.2.2.2.2.2.2.2.1
theorem dJ6_getChars_ba4f3_36 : decode cJ6_getChars_ba4f3 36 = .ok (.imul, 1) := qdJ6_getChars_ba4f3_0_24.2.2.2.2.2.2.2.2.2.2.2.2.2.2.2.2.2.2.2.2.2.2.1
theorem dJ6_getChars_ba4f3_37 : decode cJ6_getChars_ba4f3 37 = .ok (.iload_n 0, 1) := qdJ6_getChars_ba4f3_0_24.2.2.2.2.2.2.2.2.2.2.2.2.2.2.2.2.2.2.2.2.2.2.2.1
theorem qdJ6_getChars_ba4f3_38_24 : dcAll cJ6_getChars_ba4f3 [(38, .isub, 1), (39, .istore 4, 2), (41, .iload_n 3, 1), (42, .istore_n 0, 1), (43, .aload_n 2, 1), (44, .iinc 5 (-1), 3), (47, .iload 5, 2), (49, .getstatic 83, 3), (52, .iload 4, 2), (54, .baload, 1), (55, .bastore, 1), (56, .aload_n 2, 1), (57, .iinc 5 (-1), 3), (60, .iload 5, 2), (62, .getstatic 87, 3), (65, .iload 4, 2), (67, .baload, 1), (68, .bastore, 1), (69, .goto (-47), 3), (72, .aload_n 2, 1), (73, .iinc 5 (-1), 3), (76, .iload 5, 2), (78, .getstatic 83, 3), (81, .iload_n 0, 1)] := dcAll_of (by decide +kernel)
theorem dJ6_getChars_ba4f3_38 : decode cJ6_getChars_ba4f3 38 = .ok (.isub, 1) := qdJ6_getChars_ba4f3_38_24.1
theorem dJ6_getChars_ba4f3_39 : decode cJ6_getChars_ba4f3 39 = .ok (.istore 4, 2) := qdJ6_getChars_ba4f3_38_24.2.1
theorem dJ6_getChars_ba4f3_41 : decode cJ6_getChars_ba4f3 41 = .ok (.iload_n 3, 1) := qdJ6_getChars_ba4f3_38_24.2.2.1
theorem dJ6_getChars_ba4f3_42 : decode cJ6_getChars_ba4f3 42 = .ok (.istore_n 0, 1) := qdJ6_getChars_ba4f3_38_24.2.2.2.1
theorem dJ6_getChars_ba4f3_43 : decode cJ6_getChars_ba4f3 43 = .ok (.aload_n 2, 1) := qdJ6_getChars_ba4f3_38_24.2.2.2.2.1
theorem dJ6_getChars_ba4f3_44 : decode cJ6_getChars_ba4f3 44 = .ok (.iinc 5 (-1), 3) := qdJ6_getChars_ba4f3_38_24.2.2.2.2.2.1
theorem dJ6_getChars_ba4f3_47 : decode cJ6_getChars_ba4f3 47 = .ok (.iload 5, 2) := qdJ6_getChars_ba4f3_38_24.2.2.2.2.2.2.1
theorem dJ6_getChars_ba4f3_49 : decode cJ6_getChars_ba4f3 49 = .ok (.getstatic 83, 3) := qdJ6_getChars_ba4f3_38_24.2.2.2.2.2.2.2.1
theorem dJ6_getChars_ba4f3_52 : decode cJ6_getChars_ba4f3 52 = .ok (.iload 4, 2) := qdJ6_getChars_ba4f3_38_24.2.2.2.2.2.2.2.2.1
theorem dJ6_getChars_ba4f3_54 : decode cJ6_getChars_ba4f3 54 = .ok (.baload, 1) := qdJ6_getChars_ba4f3_38_24.2.2.2.2.2.2.2.2.2.1
theorem dJ6_getChars_ba4f3_55 : decode cJ6_getChars_ba4f3 55 = .ok (.bastore, 1) := qdJ6_getChars_ba4f3_38_24.2.2.2.2.2.2.2.2.2.2.1
theorem dJ6_getChars_ba4f3_56 : decode cJ6_getChars_ba4f3 56 = .ok (.aload_n 2, 1) := qdJ6_getChars_ba4f3_38_24.2.2.2.2.2.2.2.2.2.2.2.1
theorem dJ6_getChars_ba4f3_57 : decode cJ6_getChars_ba4f3 57 = .ok (.iinc 5 (-1), 3) := qdJ6_getChars_ba4f3_38_24.2.2.2.2.2.2.2.2.2.2.2.2.1
theorem dJ6_getChars_ba4f3_60 : decode cJ6_getChars_ba4f3 60 = .ok (.iload 5, 2) := qdJ6_getChars_ba4f3_38_24.2.2.2.2.2.2.2.2.2.2.2.2.2.1
theorem dJ6_getChars_ba4f3_62 : decode cJ6_getChars_ba4f3 62 = .ok (.getstatic 87, 3) := qdJ6_getChars_ba4f3_38_24.2.2.2.2.2.2.2.2.2.2.2.2.2.2.1
theorem dJ6_getChars_ba4f3_65 : decode cJ6_getChars_ba4f3 65 = .ok (.iload 4, 2) := qdJ6_getChars_ba4f3_38_24.2.2.2.2.2.2.2.2.2.2.2.2.2.2.2.1
theorem dJ6_getChars_ba4f3_67 : decode cJ6_getChars_ba4f3 67 = .ok (.baload, 1) := qdJ6_getChars_ba4f3_38_24.2.2.2.2.2.2.2.2.2.2.2.2.2.2.2.2.1
theorem dJ6_getChars_ba4f3_68 : decode cJ6_getChars_ba4f3 68 = .ok (.bastore, 1) := qdJ6_getChars_ba4f3_38_24.2.2.2.2.2.2.2.2.2.2.2.2.2.2.2.2.2.1
theorem dJ6_getChars_ba4f3_69 : decode cJ6_getChars_ba4f3 69 = .ok (.goto (-47), 3) := qdJ6_getChars_ba4f3_38_24.2.2.2.2.2.2.2.2.2.2.2.2.2.2.2.2.2.2.1
theorem dJ6_getChars_ba4f3_72 : decode cJ6_getChars_ba4f3 72 = .ok (.aload_n 2, 1) := qdJ6_getChars_ba4f3_38_24.2.2.2.2.2.2.2.2.2.2.2.2.2.2.2.2.2.2.2.1
theorem dJ6_getChars_ba4f3_73 : decode cJ6_getChars_ba4f3 73 = .ok (.iinc 5 (-1), 3) := qdJ6_getChars_ba4f3_38_24.2.2.2.2.2.2.2.2.2.2.2.2.2.2.2.2.2.2.2.2.1
theorem dJ6_getChars_ba4f3_76 : decode cJ6_getChars_ba4f3 76 = .ok (.iload 5, 2) := qdJ6_getChars_ba4f3_38_24.2.2.2.2.2.2.2.2.2.2.2.2.2.2.2.2.2.2.2.2.2.1
theorem dJ6_getChars_ba4f3_78 : decode cJ6_getChars_ba4f3 78 = .ok (.getstatic 83, 3) := qdJ6_getChars_ba4f3_38_24.2.2.2.2.2.2.2.2.2.2.2.2.2.2.2.2.2.2.2.2.2.2.1
theorem dJ6_getChars_ba4f3_81 : decode cJ6_getChars_ba4f3 81 = .ok (.iload_n 0, 1) := qdJ6_getChars_ba4f3_38_24.2.2.2.2.2.2.2.2.2.2.2.2.2.2.2.2.2.2.2.2.2.2.2.1
theorem qdJ6_getChars_ba4f3_82_23 : dcAll cJ6_getChars_ba4f3 [(82, .ineg, 1), (83, .baload, 1), (84, .bastore, 1), (85, .iload_n 0, 1), (86, .bipush (-9), 2), (88, .if_icmp .ge 16, 3), (91, .aload_n 2, 1), (92, .iinc 5 (-1), 3), (95, .iload 5, 2), (97, .getstatic 87, 3), (100, .iload_n 0, 1), (101, .ineg, 1), (102, .baload, 1), (103, .bastore, 1), (104, .iload 6, 2), (106, .ifCond .eq 12, 3), (109, .aload_n 2, 1), (110, .iinc 5 (-1), 3), (113, .iload 5, 2), (115, .bipush 45, 2), (117, .bastore, 1), (118, .iload 5, 2), (120, .ireturn, 1)] := dcAll_of (by decide +kernel)
theorem dJ6_getChars_ba4f3_82 : decode cJ6_getChars_ba4f3 82 = .ok (.ineg, 1) := qdJ6_getChars_ba4f3_82_23.1
theorem dJ6_getChars_ba4f3_83 : decode cJ6_getChars_ba4f3 83 = .ok (.baload, 1) := qdJ6_getChars_ba4f3_82_23.2.1
theorem dJ6_getChars_ba4f3_84 : decode cJ6_getChars_ba4f3 84 = .ok (.bastore, 1) := qdJ6_getChars_ba4f3_82_23.2.2.1
theorem dJ6_getChars_ba4f3_85 : decode cJ6_getChars_ba4f3 85 = .ok (.iload_n 0, 1) := qdJ6_getChars_ba4f3_82_23.2.2.2.1
theorem dJ6_getChars_ba4f3_86 : decode cJ6_getChars_ba4f3 86 = .ok (.bipush (-9), 2) := qdJ6_getChars_ba4f3_82_23.2.2.2.2.1
theorem dJ6_getChars_ba4f3_88 : decode cJ6_getChars_ba4f3 88 = .ok (.if_icmp .ge 16, 3) := qdJ6_getChars_ba4f3_82_23.2.2.2.2.2.1
theorem dJ6_getChars_ba4f3_91 : decode cJ6_getChars_ba4f3 91 = .ok (.aload_n 2, 1) := qdJ6_getChars_ba4f3_82_23.2.2.2.2.2.2.1
theorem dJ6_getChars_ba4f3_92 : decode cJ6_getChars_ba4f3 92 = .ok (.iinc 5 (-1), 3) := qdJ6_getChars_ba4f3_82_23.2.2.2.2.2.2.2.1
theorem dJ6_getChars_ba4f3_95 : decode cJ6_getChars_ba4f3 95 = .ok (.iload 5, 2) := qdJ6_getChars_ba4f3_82_23.2.2.2.2.2.2.2.2.1
theorem dJ6_getChars_ba4f3_97 : decode cJ6_getChars_ba4f3 97 = .ok (.getstatic 87, 3) := qdJ6_getChars_ba4f3_82_23.2.2.2.2.2.2.2.2.2.1
theorem dJ6_getChars_ba4f3_100 : decode cJ6_getChars_ba4f3 100 = .ok (.iload_n 0, 1) := qdJ6_getChars_ba4f3_82_23.2.2.2.2.2.2.2.2.2.2.1
theorem dJ6_getChars_ba4f3_101 : decode cJ6_getChars_ba4f3 101 = .ok (.ineg, 1) := qdJ6_getChars_ba4f3_82_23.2.2.2.2.2.2.2.2.2.2.2.1
theorem dJ6_getChars_ba4f3_102 : decode cJ6_getChars_ba4f3 102 = .ok (.baload, 1) := qdJ6_getChars_ba4f3_82_23.2.2.2.2.2.2.2.2.2.2.2.2.1
theorem dJ6_getChars_ba4f3_103 : decode cJ6_getChars_ba4f3 103 = .ok (.bastore, 1) := qdJ6_getChars_ba4f3_82_23.2.2.2.2.2.2.2.2.2.2.2.2.2.1
theorem dJ6_getChars_ba4f3_104 : decode cJ6_getChars_ba4f3 104 = .ok (.iload 6, 2) := qdJ6_getChars_ba4f3_82_23.2.2.2.2.2.2.2.2.2.2.2.2.2.2.1
theorem dJ6_getChars_ba4f3_106 : decode cJ6_getChars_ba4f3 106 = .ok (.ifCond .eq 12, 3) := qdJ6_getChars_ba4f3_82_23.2.2.2.2.2.2.2.2.2.2.2.2.2.2.2.1
theorem dJ6_getChars_ba4f3_109 : decode cJ6_getChars_ba4f3 109 = .ok (.aload_n 2, 1) := qdJ6_getChars_ba4f3_82_23.2.2.2.2.2.2.2.2.2.2.2.2.2.2.2.2.1
theorem dJ6_getChars_ba4f3_110 : decode cJ6_getChars_ba4f3 110 = .ok (.iinc 5 (-1), 3) := qdJ6_getChars_ba4f3_82_23.2.2.2.2.2.2.2.2.2.2.2.2.2.2.2.2.2.1
theorem dJ6_getChars_ba4f3_113 : decode cJ6_getChars_ba4f3 113 = .ok (.iload 5, 2) := qdJ6_getChars_ba4f3_82_23.2.2.2.2.2.2.2.2.2.2.2.2.2.2.2.2.2.2.1
theorem dJ6_getChars_ba4f3_115 : decode cJ6_getChars_ba4f3 115 = .ok (.bipush 45, 2) := qdJ6_getChars_ba4f3_82_23.2.2.2.2.2.2.2.2.2.2.2.2.2.2.2.2.2.2.2.1
theorem dJ6_getChars_ba4f3_117 : decode cJ6_getChars_ba4f3 117 = .ok (.bastore, 1) := qdJ6_getChars_ba4f3_82_23.2.2.2.2.2.2.2.2.2.2.2.2.2.2.2.2.2.2.2.2.1
theorem dJ6_getChars_ba4f3_118 : decode cJ6_getChars_ba4f3 118 = .ok (.iload 5, 2) := qdJ6_getChars_ba4f3_82_23.2.2.2.2.2.2.2.2.2.2.2.2.2.2.2.2.2.2.2.2.2.1
theorem dJ6_getChars_ba4f3_120 : decode cJ6_getChars_ba4f3 120 = .ok (.ireturn, 1) := qdJ6_getChars_ba4f3_82_23.2.2.2.2.2.2.2.2.2.2.2.2.2.2.2.2.2.2.2.2.2.2.1
theorem qdJ6_stringSize_0f7a4_0_24 : dcAll cJ6_stringSize_0f7a4 [(0, .iconst 1, 1), (1, .istore_n 1, 1), (2, .iload_n 0, 1), (3, .ifCond .lt 8, 3), (6, .iconst 0, 1), (7, .istore_n 1, 1), (8, .iload_n 0, 1), (9, .ineg, 1), (10, .istore_n 0, 1), (11, .bipush (-10), 2), (13, .istore_n 2, 1), (14, .iconst 1, 1), (15, .istore_n 3, 1), (16, .iload_n 3, 1), (17, .bipush 10, 2), (19, .if_icmp .ge 23, 3), (22, .iload_n 0, 1), (23, .iload_n 2, 1), (24, .if_icmp .le 7, 3), (27, .iload_n 3, 1), (28, .iload_n 1, 1), (29, .iadd, 1), (30, .ireturn, 1), (31, .bipush 10, 2)] := dcAll_of (by decide +kernel)
theorem dJ6_stringSize_0f7a4_0 : decode cJ6_stringSize_0f7a4 0 = .ok (.iconst 1, 1) := qdJ6_stringSize_0f7a4_0_24.1
theorem dJ6_stringSize_0f7a4_1 : decode cJ6_stringSize_0f7a4 1 = .ok (.istore_n 1, 1) := qdJ6_stringSize_0f7a4_0_24.2.1
theorem dJ6_stringSize_0f7a4_2 : decode cJ6_stringSize_0f7a4 2 = .ok (.iload_n 0, 1) := qdJ6_stringSize_0f7a4_0_24.2.2.1
theorem dJ6_stringSize_0f7a4_3 : decode cJ6_stringSize_0f7a4 3 = .ok (.ifCond .lt 8, 3) := qdJ6_stringSize_0f7a4_0_24.2.2.2.1
theorem dJ6_stringSize_0f7a4_6 : decode cJ6_stringSize_0f7a4 6 = .ok (.iconst 0, 1) := qdJ6_stringSize_0f7a4_0_24.2.2.2.2.1
theorem dJ6_stringSize_0f7a4_7 : decode cJ6_stringSize_0f7a4 7 = .ok (.istore_n 1, 1) := qdJ6_stringSize_0f7a4_0_24.2.2.2.2.2.1
theorem dJ6_stringSize_0f7a4_8 : decode cJ6_stringSize_0f7a4 8 = .ok (.iload_n 0, 1) := qdJ6_stringSize_0f7a4_0_24.2.2.2.2.2.2.1
theorem dJ6_stringSize_0f7a4_9 : decode cJ6_stringSize_0f7a4 9 = .ok (.ineg, 1) := qdJ6_stringSize_0f7a4_0_24.2.2.2.2.2.2.2.1
theorem dJ6_stringSize_0f7a4_10 : decode cJ6_stringSize_0f7a4 10 = .ok (.istore_n 0, 1) := qdJ6_stringSize_0f7a4_0_24.2.2.2.2.2.2.2.2.1
theorem dJ6_stringSize_0f7a4_11 : decode cJ6_stringSize_0f7a4 11 = .ok (.bipush (-10), 2) := qdJ6_stringSize_0f7a4_0_24.2.2.2.2.2.2.2.2.2.1
theorem dJ6_stringSize_0f7a4_13 : decode cJ6_stringSize_0f7a4 13 = .ok (.istore_n 2, 1) := qdJ6_stringSize_0f7a4_0_24.2.2.2.2.2.2.2.2.2.2.1
theorem dJ6_stringSize_0f7a4_14 : decode cJ6_stringSize_0f7a4 14 = .ok (.iconst 1, 1) := qdJ6_stringSize_0f7a4_0_24.2.2.2.2.2.2.2.2.2.2.2.1
theorem dJ6_stringSize_0f7a4_15 : decode cJ6_stringSize_0f7a4 15 = .ok (.istore_n 3, 1) := qdJ6_stringSize_0f7a4_0_24.2.2.2.2.2.2.2.2.2.2.2.2.1
theorem dJ6_stringSize_0f7a4_16 : decode cJ6_stringSize_0f7a4 16 = .ok (.iload_n 3, 1) := qdJ6_stringSize_0f7a4_0_24.2.2.2.2.2.2.2.2.2.2.2.2.2.1
theorem dJ6_stringSize_0f7a4_17 : decode cJ6_stringSize_0f7a4 17 = .ok (.bipush 10, 2) := qdJ6_stringSize_0f7a4_0_24.2.2.2.2.2.2.2.2.2.2.2.2.2.2.1
theorem dJ6_stringSize_0f7a4_19 : decode cJ6_stringSize_0f7a4 19 = .ok (.if_icmp .ge 23, 3) := qdJ6_stringSize_0f7a4_0_24.2.2.2.2.2.2.2.2.2.2.2.2.2.2.2.1
theorem dJ6_stringSize_0f7a4_22 : decode cJ6_stringSize_0f7a4 22 = .ok (.iload_n 0, 1) := qdJ6_stringSize_0f7a4_0_24.2.2.2.2.2.2.2.2.2.2.2.2.2.2.2.2.1
theorem dJ6_stringSize_0f7a4_23 : decode cJ6_stringSize_0f7a4 23 = .ok (.iload_n 2, 1) := qdJ6_stringSize_0f7a4_0_24.2.2.2.2.2.2.2.2.2.2.2.2.2.2.2.2.2.1
theorem dJ6_stringSize_0f7a4_24 : decode cJ6_stringSize_0f7a4 24 = .ok (.if_icmp .le 7, 3) := qdJ6_stringSize_0f7a4_0_24.2.2.2.2.2.2.2.2.2.2.2.2.2.2.2.2.2.2.1
theorem dJ6_stringSize_0f7a4_27 : decode cJ6_stringSize_0f7a4 27 = .ok (.iload_n 3, 1) := qdJ6_stringSize_0f7a4_0_24.2.2.2.2.2.2.2.2.2.2.2.2.2.2.2.2.2.2.2.1
theorem dJ6_stringSize_0f7a4_28 : decode cJ6_stringSize_0f7a4 28 = .ok (.iload_n 1, 1) := qdJ6_stringSize_0f7a4_0_24.2.2.2.2.2.2.2.2.2.2.2.2.2.2.2.2.2.2.2.2.1
theorem dJ6_stringSize_0f7a4_29 : decode cJ6_stringSize_0f7a4 29 = .ok (.iadd, 1) := qdJ6_stringSize_0f7a4_0_24.2.2.2.2.2.2.2.2.2.2.2.2.2.2.2.2.2.2.2.2.2.1
theorem dJ6_stringSize_0f7a4_30 : decode cJ6_stringSize_0f7a4 30 = .ok (.ireturn, 1) := qdJ6_stringSize_0f7a4_0_24.2.2.2.2.2.2.2.2.2.2.2.2.2.2.2.2.2.2.2.2.2.2.1
theorem dJ6_stringSize_0f7a4_31 : decode cJ6_stringSize_0f7a4 31 = .ok (.bipush 10, 2) := qdJ6_stringSize_0f7a4_0_24.2.2.2.2.2.2.2.2.2.2.2.2.2.2.2.2.2.2.2.2.2.2.2.1
theorem qdJ6_stringSize_0f7a4_33_9 : dcAll cJ6_stringSize_0f7a4 [(33, .iload_n 2, 1), (34, .imul, 1), (35, .istore_n 2, 1), (36, .iinc 3 1, 3), (39, .goto (-23), 3), (42, .bipush 10, 2), (44, .iload_n 1, 1), (45, .iadd, 1), (46, .ireturn, 1)] := dcAll_of (by decide +kernel)
theorem dJ6_stringSize_0f7a4_33 : decode cJ6_stringSize_0f7a4 33 = .ok (.iload_n 2, 1) := qdJ6_stringSize_0f7a4_33_9.1
theorem dJ6_stringSize_0f7a4_34 : decode cJ6_stringSize_0f7a4 34 = .ok (.imul, 1) := qdJ6_stringSize_0f7a4_33_9.2.1
theorem dJ6_stringSize_0f7a4_35 : decode cJ6_stringSize_0f7a4 35 = .ok (.istore_n 2, 1) := qdJ6_stringSize_0f7a4_33_9.2.2.1
theorem dJ6_stringSize_0f7a4_36 : decode cJ6_stringSize_0f7a4 36 = .ok (.iinc 3 1, 3) := qdJ6_stringSize_0f7a4_33_9.2.2.2.1
theorem dJ6_stringSize_0f7a4_39 : decode cJ6_stringSize_0f7a4 39 = .ok (.goto (-23), 3) := qdJ6_stringSize_0f7a4_33_9.2.2.2.2.1
theorem dJ6_stringSize_0f7a4_42 : decode cJ6_stringSize_0f7a4 42 = .ok (.bipush 10, 2) := qdJ6_stringSize_0f7a4_33_9.2.2.2.2.2.1
theorem dJ6_stringSize_0f7a4_44 : decode cJ6_stringSize_0f7a4 44 = .ok (.iload_n 1, 1) := qdJ6_stringSize_0f7a4_33_9.2.2.2.2.2.2.1
theorem dJ6_stringSize_0f7a4_45 : decode cJ6_stringSize_0f7a4 45 = .ok (.iadd, 1) := qdJ6_stringSize_0f7a4_33_9.2.2.2.2.2.2.2.1
theorem dJ6_stringSize_0f7a4_46 : decode cJ6_stringSize_0f7a4 46 = .ok (.ireturn, 1) := qdJ6_stringSize_0f7a4_33_9.2.2.2.2.2.2.2.2.1
theorem qdJ6_bitCount_0f7a4_0_24 : dcAll cJ6_bitCount_0f7a4 [(0, .iload_n 0, 1), (1, .iload_n 0, 1), (2, .iconst 1, 1), (3, .iushr, 1), (4, .ldc_w 265, 3), (7, .iand, 1), (8, .isub, 1), (9, .istore_n 0, 1), (10, .iload_n 0, 1), (11, .ldc_w 266, 3), (14, .iand, 1), (15, .iload_n 0, 1), (16, .iconst 2, 1), (17, .iushr, 1), (18, .ldc_w 266, 3), (21, .iand, 1), (22, .iadd, 1), (23, .istore_n 0, 1), (24, .iload_n 0, 1), (25, .iload_n 0, 1), (26, .iconst 4, 1), (27, .iushr, 1), (28, .iadd, 1), (29, .ldc_w 267, 3)] := dcAll_of (by decide +kernel)
theorem dJ6_bitCount_0f7a4_0 : decode cJ6_bitCount_0f7a4 0 = .ok (.iload_n 0, 1) := qdJ6_bitCount_0f7a4_0_24.1
theorem dJ6_bitCount_0f7a4_1 : decode cJ6_bitCount_0f7a4 1 = .ok (.iload_n 0, 1) := qdJ6_bitCount_0f7a4_0_24.2.1
theorem dJ6_bitCount_0f7a4_2 : decode cJ6_bitCount_0f7a4 2 = .ok (.iconst 1, 1) := qdJ6_bitCount_0f7a4_0_24.2.2.1
theorem dJ6_bitCount_0f7a4_3 : decode cJ6_bitCount_0f7a4 3 = .ok (.iushr, 1) := qdJ6_bitCount_0f7a4_0_24.2.2.2.1
theorem dJ6_bitCount_0f7a4_4 : decode cJ6_bitCount_0f7a4 4 = .ok (.ldc_w 265, 3) := qdJ6_bitCount_0f7a4_0_24.2.2.2.2.1
theorem dJ6_bitCount_0f7a4_7 : decode cJ6_bitCount_0f7a4 7 = .ok (.iand, 1) := qdJ6_bitCount_0f7a4_0_24.2.2.2.2.2.1
theorem dJ6_bitCount_0f7a4_8 : decode cJ6_bitCount_0f7a4 8 = .ok (.isub, 1) := qdJ6_bitCount_0f7a4_0_24.2.2.2.2.2.2.1
theorem dJ6_bitCount_0f7a4_9 : decode cJ6_bitCount_0f7a4 9 = .ok (.istore_n 0, 1) := qdJ6_bitCount_0f7a4_0_24.2.2.2.2.2.2.2.1
theorem dJ6_bitCount_0f7a4_10 : decode cJ6_bitCount_0f7a4 10 = .ok (.iload_n 0, 1) := qdJ6_bitCount_0f7a4_0_24.2.2.2.2.2.2.2.2.1
theorem dJ6_bitCount_0f7a4_11 : decode cJ6_bitCount_0f7a4 11 = .ok (.ldc_w 266, 3) := qdJ6_bitCount_0f7a4_0_24.2.2.2.2.2.2.2.2.2.1
theorem dJ6_bitCount_0f7a4_14 : decode cJ6_bitCount_0f7a4 14 = .ok (.iand, 1) := qdJ6_bitCount_0f7a4_0_24.2.2.2.2.2.2.2.2.2.2.1
theorem dJ6_bitCount_0f7a4_15 : decode cJ6_bitCount_0f7a4 15 = .ok (.iload_n 0, 1) := qdJ6_bitCount_0f7a4_0_24.2.2.2.2.2.2.2.2.2.2.2.1
theorem dJ6_bitCount_0f7a4_16 : decode cJ6_bitCount_0f7a4 16 = .ok (.iconst 2, 1) := qdJ6_bitCount_0f7a4_0_24.2.2.2.2.2.2.2.2.2.2.2.2.1
theorem dJ6_bitCount_0f7a4_17 : decode cJ6_bitCount_0f7a4 17 = .ok (.iushr, 1) := qdJ6_bitCount_0f7a4_0_24.2.2.2.2.2.2.2.2.2.2.2.2.2.1
theorem dJ6_bitCount_0f7a4_18 : decode cJ6_bitCount_0f7a4 18 = .ok (.ldc_w 266, 3) := qdJ6_bitCount_0f7a4_0_24.2.2.2.2.2.2.2.2.2.2.2.2.2.2.1
theorem dJ6_bitCount_0f7a4_21 : decode cJ6_bitCount_0f7a4 21 = .ok (.iand, 1) := qdJ6_bitCount_0f7a4_0_24.2.2.2.2.2.2.2.2.2.2.2.2.2.2.2.1
theorem dJ6_bitCount_0f7a4_22 : decode cJ6_bitCount_0f7a4 22 = .ok (.iadd, 1) := qdJ6_bitCount_0f7a4_0_24.2.2.2.2.2.2.2.2.2.2.2.2.2.2.2.2.1
theorem dJ6_bitCount_0f7a4_23 : decode cJ6_bitCount_0f7a4 23 = .ok (.istore_n 0, 1) := qdJ6_bitCount_0f7a4_0_24.2.2.2.2.2.2.2.2.2.2.2.2.2.2.2.2.2.1
theorem dJ6_bitCount_0f7a4_24 : decode cJ6_bitCount_0f7a4 24 = .ok (.iload_n 0, 1) := qdJ6_bitCount_0f7a4_0_24.2.2.2.2.2.2.2.2.2.2.2.2.2.2.2.2.2.2.1
theorem dJ6_bitCount_0f7a4_25 : decode cJ6_bitCount_0f7a4 25 = .ok (.iload_n 0, 1) := qdJ6_bitCount_0f7a4_0_24.2.2.2.2.2.2.2.2.2.2.2.2.2.2.2.2.2.2.2.1
theorem dJ6_bitCount_0f7a4_26 : decode cJ6_bitCount_0f7a4 26 = .ok (.iconst 4, 1) := qdJ6_bitCount_0f7a4_0_24.2.2.2.2.2.2.2.2.2.2.2.2.2.2.2.2.2.2.2.2.1
theorem dJ6_bitCount_0f7a4_27 : decode cJ6_bitCount_0f7a4 27 = .ok (.iushr, 1) := qdJ6_bitCount_0f7a4_0_24.2.2.2.2.2.2.2.2.2.2.2.2.2.2.2.2.2.2.2.2.2.1
theorem dJ6_bitCount_0f7a4_28 : decode cJ6_bitCount_0f7a4 28 = .ok (.iadd, 1) := qdJ6_bitCount_0f7a4_0_24.2.2.2.2.2.2.2.2.2.2.2.2.2.2.2.2.2.2.2.2.2.2.1
theorem dJ6_bitCount_0f7a4_29 : decode cJ6_bitCount_0f7a4 29 = .ok (.ldc_w 267, 3) := qdJ6_bitCount_0f7a4_0_24.2.2.2.2.2.2.2.2.2.2.2.2.2.2.2.2.2.2.2.2.2.2.2.1
theorem qdJ6_bitCount_0f7a4_32_18 : dcAll cJ6_bitCount_0f7a4 [(32, .iand, 1), (33, .istore_n 0, 1), (34, .iload_n 0, 1), (35, .iload_n 0, 1), (36, .bipush 8, 2), (38, .iushr, 1), (39, .iadd, 1), (40, .istore_n 0, 1), (41, .iload_n 0, 1), (42, .iload_n 0, 1), (43, .bipush 16, 2), (45, .iushr, 1), (46, .iadd, 1), (47, .istore_n 0, 1), (48, .iload_n 0, 1), (49, .bipush 63, 2), (51, .iand, 1), (52, .ireturn, 1)] := dcAll_of (by decide +kernel)
theorem dJ6_bitCount_0f7a4_32 : decode cJ6_bitCount_0f7a4 32 = .ok (.iand, 1) := qdJ6_bitCount_0f7a4_32_18.1
theorem dJ6_bitCount_0f7a4_33 : decode cJ6_bitCount_0f7a4 33 = .ok (.istore_n 0, 1) := qdJ6_bitCount_0f7a4_32_18.2.1
theorem dJ6_bitCount_0f7a4_34 : decode cJ6_bitCount_0f7a4 34 = .ok (.iload_n 0, 1) := qdJ6_bitCount_0f7a4_32_18.2.2.1
theorem dJ6_bitCount_0f7a4_35 : decode cJ6_bitCount_0f7a4 35 = .ok (.iload_n 0, 1) := qdJ6_bitCount_0f7a4_32_18.2.2.2.1
theorem dJ6_bitCount_0f7a4_36 : decode cJ6_bitCount_0f7a4 36 = .ok (.bipush 8, 2) := qdJ6_bitCount_0f7a4_32_18.2.2.2.2.1
theorem dJ6_bitCount_0f7a4_38 : decode cJ6_bitCount_0f7a4 38 = .ok (.iushr, 1) := qdJ6_bitCount_0f7a4_32_18.2.2.2.2.2.1
theorem dJ6_bitCount_0f7a4_39 : decode cJ6_bitCount_0f7a4 39 = .ok (.iadd, 1) := qdJ6_bitCount_0f7a4_32_18.2.2.2.2.2.2.1
theorem dJ6_bitCount_0f7a4_40 : decode cJ6_bitCount_0f7a4 40 = .ok (.istore_n 0, 1) := qdJ6_bitCount_0f7a4_32_18.2.2.2.2.2.2.2.1
theorem dJ6_bitCount_0f7a4_41 : decode cJ6_bitCount_0f7a4 41 = .ok (.iload_n 0, 1) := qdJ6_bitCount_0f7a4_32_18.2.2.2.2.2.2.2.2.1
theorem dJ6_bitCount_0f7a4_42 : decode cJ6_bitCount_0f7a4 42 = .ok (.iload_n 0, 1) := qdJ6_bitCount_0f7a4_32_18.2.2.2.2.2.2.2.2.2.1
theorem dJ6_bitCount_0f7a4_43 : decode cJ6_bitCount_0f7a4 43 = .ok (.bipush 16, 2) := qdJ6_bitCount_0f7a4_32_18.2.2.2.2.2.2.2.2.2.2.1
theorem dJ6_bitCount_0f7a4_45 : decode cJ6_bitCount_0f7a4 45 = .ok (.iushr, 1) := qdJ6_bitCount_0f7a4_32_18.2.2.2.2.2.2.2.2.2.2.2.1
theorem dJ6_bitCount_0f7a4_46 : decode cJ6_bitCount_0f7a4 46 = .ok (.iadd, 1) := qdJ6_bitCount_0f7a4_32_18.2.2.2.2.2.2.2.2.2.2.2.2.1
theorem dJ6_bitCount_0f7a4_47 : decode cJ6_bitCount_0f7a4 47 = .ok (.istore_n 0, 1) := qdJ6_bitCount_0f7a4_32_18.2.2.2.2.2.2.2.2.2.2.2.2.2.1
theorem dJ6_bitCount_0f7a4_48 : decode cJ6_bitCount_0f7a4 48 = .ok (.iload_n 0, 1) := qdJ6_bitCount_0f7a4_32_18.2.2.2.2.2.2.2.2.2.2.2.2.2.2.1
theorem dJ6_bitCount_0f7a4_49 : decode cJ6_bitCount_0f7a4 49 = .ok (.bipush 63, 2) := qdJ6_bitCount_0f7a4_32_18.2.2.2.2.2.2.2.2.2.2.2.2.2.2.2.1
theorem dJ6_bitCount_0f7a4_51 : decode cJ6_bitCount_0f7a4 51 = .ok (.iand, 1) := qdJ6_bitCount_0f7a4_32_18.2.2.2.2.2.2.2.2.2.2.2.2.2.2.2.2.1
theorem dJ6_bitCount_0f7a4_52 : decode cJ6_bitCount_0f7a4 52 = .ok (.ireturn, 1) := qdJ6_bitCount_0f7a4_32_18.2.2.2.2.2.2.2.2.2.2.2.2.2.2.2.2.2.1
theorem qdJ13_getChars_11360_0_24 : dcAll cJ13_getChars_11360 [(0, .iload_n 2, 1), (1, .istore 7, 2), (3, .lload_n 0, 1), (4, .lconst 0, 1), (5, .lcmp, 1), (6, .ifCond .ge 7, 3), (9, .iconst 1, 1), (10, .goto 4, 3), (13, .iconst 0, 1), (14, .istore 8, 2), (16, .iload 8, 2), (18, .ifCond .ne 6, 3), (21, .lload_n 0, 1), (22, .lneg, 1), (23, .lstore_n 0, 1), (24, .lload_n 0, 1), (25, .ldc2_w 129, 3), (28, .lcmp, 1), (29, .ifCond .gt 53, 3), (32, .lload_n 0, 1), (33, .ldc2_w 131, 3), (36, .ldiv, 1), (37, .lstore 4, 2), (39, .lload 4, 2)] := dcAll_of (by decide +kernel)
theorem dJ13_getChars_11360_0 : decode cJ13_getChars_11360 0 = .ok (.iload_n 2, 1) := qdJ13_getChars_11360_0_24.1
theorem dJ13_getChars_11360_1 : decode cJ13_getChars_11360 1 = .ok (.istore 7, 2) := qdJ13_getChars_11360_0_24.2.1
theorem dJ13_getChars_11360_3 : decode cJ13_getChars_11360 3 = .ok (.lload_n 0, 1) := qdJ13_getChars_11360_0_24.2.2.1
theorem dJ13_getChars_11360_4 : decode cJ13_getChars_11360 4 = .ok (.lconst 0, 1) := qdJ13_getChars_11360_0_24.2.2.2.1
theorem dJ13_getChars_11360_5 : decode cJ13_getChars_11360 5 = .ok (.lcmp, 1) := qdJ13_getChars_11360_0_24.2.2.2.2.1
theorem dJ13_getChars_11360_6 : decode cJ13_getChars_11360 6 = .ok (.ifCond .ge 7, 3) := qdJ13_getChars_11360_0_24.2.2.2.2.2.1
theorem dJ13_getChars_11360_9 : decode cJ13_getChars_11360 9 = .ok (.iconst 1, 1) := qdJ13_getChars_11360_0_24.2.2.2.2.2.2.1
theorem dJ13_getChars_11360_10 : decode cJ13_getChars_11360 10 = .ok (.goto 4, 3) := qdJ13_getChars_11360_0_24.2.2.2.2.2.2.2.1
theorem dJ13_getChars_11360_13 : decode cJ13_getChars_11360 13 = .ok (.iconst 0, 1) := qdJ13_getChars_11360_0_24.2.2.2.2.2.2.2.2.1
theorem dJ13_getChars_11360_14 : decode cJ13_getChars_11360 14 = .ok (.istore 8, 2) := qdJ13_getChars_11360_0_24.2.2.2.2.2.2.2.2.2.1
theorem dJ13_getChars_11360_16 : decode cJ13_getChars_11360 16 = .ok (.iload 8, 2) := qdJ13_getChars_11360_0_24.2.2.2.2.2.2.2.2.2.2.1
theorem dJ13_getChars_11360_18 : decode cJ13_getChars_11360 18 = .ok (.ifCond .ne 6, 3) := qdJ13_getChars_11360_0_24.2.2.2.2.2.2.2.2.2.2.2.1
theorem dJ13_getChars_11360_21 : decode cJ13_getChars_11360 21 = .ok (.lload_n 0, 1) := qdJ13_getChars_11360_0_24.2.2.2.2.2.2.2.2.2.2.2.2.1
theorem dJ13_getChars_11360_22 : decode cJ13_getChars_11360 22 = .ok (.lneg, 1) := qdJ13_getChars_11360_0_24.2.2.2.2.2.2.2.2.2.2.2.2.2.1
theorem dJ13_getChars_11360_23 : decode cJ13_getChars_11360 23 = .ok (.lstore_n 0, 1) := qdJ13_getChars_11360_0_24.2.2.2.2.2.2.2.2.2.2.2.2.2.2.1
theorem dJ13_getChars_11360_24 : decode cJ13_getChars_11360 24 = .ok (.lload_n 0, 1) := qdJ13_getChars_11360_0_24.2.2.2.2.2.2.2.2.2.2.2.2.2.2.2.1
theorem dJ13_getChars_11360_25 : decode cJ13_getChars_11360 25 = .ok (.ldc2_w 129, 3) := qdJ13_getChars_11360_0_24.2.2.2.2.2.2.2.2.2.2.2.2.2.2.2.2.1
theorem dJ13_getChars_11360_28 : decode cJ13_getChars_11360 28 = .ok (.lcmp, 1) := qdJ13_getChars_11360_0_24.2.2.2.2.2.2.2.2.2.2.2.2.2.2.2.2.2.1
theorem dJ13_getChars_11360_29 : decode cJ13_getChars_11360 29 = .ok (.ifCond .gt 53, 3) := qdJ13_getChars_11360_0_24.2.2.2.2.2.2.2.2.2.2.2.2.2.2.2.2.2.2.1
theorem dJ13_getChars_11360_32 : decode cJ13_getChars_11360 32 = .ok (.lload_n 0, 1) := qdJ13_getChars_11360_0_24.2.2.2.2.2.2.2.2.2.2.2.2.2.2.2.2.2.2.2.1
theorem dJ13_getChars_11360_33 : decode cJ13_getChars_11360 33 = .ok (.ldc2_w 131, 3) := qdJ13_getChars_11360_0_24.2.2.2.2.2.2.2.2.2.2.2.2.2.2.2.2.2.2.2.2.1
theorem dJ13_getChars_11360_36 : decode cJ13_getChars_11360 36 = .ok (.ldiv, 1) := qdJ13_getChars_11360_0_24.2.2.2.2.2.2.2.2.2.2.2.2.2.2.2.2.2.2.2.2.2.1
theorem dJ13_getChars_11360_37 : decode cJ13_getChars_11360 37 = .ok (.lstore 4, 2) := qdJ13_getChars_11360_0_24.2.2.2.2.2.2.2.2.2.2.2.2.2.2.2.2.2.2.2.2.2.2.1
theorem dJ13_getChars_11360_39 : decode cJ13_getChars_11360 39 = .ok (.lload 4, 2) := qdJ13_getChars_11360_0_24.2.2.2.2.2.2.2.2.2.2.2.2.2.2.2.2.2.2.2.2.2.2.2.1
theorem qdJ13_getChars_11360_41_24 : dcAll cJ13_getChars_11360 [(41, .ldc2_w 131, 3), (44, .lmul, 1), (45, .lload_n 0, 1), (46, .lsub, 1), (47, .l2i, 1), (48, .istore 6, 2), (50, .lload 4, 2), (52, .lstore_n 0, 1), (53, .aload_n 3, 1), (54, .iinc 7 (-1), 3), (57, .iload 7, 2), (59, .getstatic 133, 3), (62, .iload 6, 2), (64, .baload, 1), (65, .bastore, 1), (66, .aload_n 3, 1), (67, .iinc 7 (-1), 3), (70, .iload 7, 2), (72, .getstatic 137, 3), (75, .iload 6, 2), (77, .baload, 1), (78, .bastore, 1), (79, .goto (-55), 3), (82, .lload_n 0, 1)] := dcAll_of (by decide +kernel)
theorem dJ13_getChars_11360_41 : decode cJ13_getChars_11360 41 = .ok (.ldc2_w 131, 3) := qdJ13_getChars_11360_41_24.1
theorem dJ13_getChars_11360_44 : decode cJ13_getChars_11360 44 = .ok (.lmul, 1) := qdJ13_getChars_11360_41_24.2.1
theorem dJ13_getChars_11360_45 : decode cJ13_getChars_11360 45 = .ok (.lload_n 0, 1) := qdJ13_getChars_11360_41_24.2.2.1
theorem dJ13_getChars_11360_46 : decode cJ13_getChars_11360 46 = .ok (.lsub, 1) := qdJ13_getChars_11360_41_24.2.2.2.1
theorem dJ13_getChars_11360_47 : decode cJ13_getChars_11360 47 = .ok (.l2i, 1) := qdJ13_getChars_11360_41_24.2.2.2.2.1
theorem dJ13_getChars_11360_48 : decode cJ13_getChars_11360 48 = .ok (.istore 6, 2) := qdJ13_getChars_11360_41_24.2.2.2.2.2.1
theorem dJ13_getChars_11360_50 : decode cJ13_getChars_11360 50 = .ok (.lload 4, 2) := qdJ13_getChars_11360_41_24.2.2.2.2.2.2.1
theorem dJ13_getChars_11360_52 : decode cJ13_getChars_11360 52 = .ok (.lstore_n 0, 1) := qdJ13_getChars_11360_41_24.2.2.2.2.2.2.2.1
theorem dJ13_getChars_11360_53 : decode cJ13_getChars_11360 53 = .ok (.aload_n 3, 1) := qdJ13_getChars_11360_41_24.2.2.2.2.2.2.2.2.1
theorem dJ13_getChars_11360_54 : decode cJ13_getChars_11360 54 = .ok (.iinc 7 (-1), 3) := qdJ13_getChars_11360_41_24.2.2.2.2.2.2.2.2.2.1
theorem dJ13_getChars_11360_57 : decode cJ13_getChars_11360 57 = .ok (.iload 7, 2) := qdJ13_getChars_11360_41_24.2.2.2.2.2.2.2.2.2.2.1
theorem dJ13_getChars_11360_59 : decode cJ13_getChars_11360 59 = .ok (.getstatic 133, 3) := qdJ13_getChars_11360_41_24.2.2.2.2.2.2.2.2.2.2.2.1
theorem dJ13_getChars_11360_62 : decode cJ13_getChars_11360 62 = .ok (.iload 6, 2) := qdJ13_getChars_11360_41_24.2.2.2.2.2.2.2.2.2.2.2.2.1
theorem dJ13_getChars_11360_64 : decode cJ13_getChars_11360 64 = .ok (.baload, 1) := qdJ13_getChars_11360_41_24.2.2.2.2.2.2.2.2.2.2.2.2.2.1
theorem dJ13_getChars_11360_65 : decode cJ13_getChars_11360 65 = .ok (.bastore, 1) := qdJ13_getChars_11360_41_24.2.2.2.2.2.2.2.2.2.2.2.2.2.2.1
theorem dJ13_getChars_11360_66 : decode cJ13_getChars_11360 66 = .ok (.aload_n 3, 1) := qdJ13_getChars_11360_41_24.2.2.2.2.2.2.2.2.2.2.2.2.2.2.2.1
theorem dJ13_getChars_11360_67 : decode cJ13_getChars_11360 67 = .ok (.iinc 7 (-1), 3) := qdJ13_getChars_11360_41_24.2.2.2.2.2.2.2.2.2.2.2.2.2.2.2.2.1
theorem dJ13_getChars_11360_70 : decode cJ13_getChars_11360 70 = .ok (.iload 7, 2) := qdJ13_getChars_11360_41_24.2.2.2.2.2.2.2.2.2.2.2.2.2.2.2.2.2.1
theorem dJ13_getChars_11360_72 : decode cJ13_getChars_11360 72 = .ok (.getstatic 137, 3) := qdJ13_getChars_11360_41_24.2.2.2.2.2.2.2.2.2.2.2.2.2.2.2.2.2.2.1
theorem dJ13_getChars_11360_75 : decode cJ13_getChars_11360 75 = .ok (.iload 6, 2) := qdJ13_getChars_11360_41_24.2.2.2.2.2.2.2.2.2.2.2.2.2.2.2.2.2.2.2.1
theorem dJ13_getChars_11360_77 : decode cJ13_getChars_11360 77 = .ok (.baload, 1) := qdJ13_getChars_11360_41_24.2.2.2.2.2.2.2.2.2.2.2.2.2.2.2.2.2.2.2.2.1
theorem dJ13_getChars_11360_78 : decode cJ13_getChars_11360 78 = .ok (.bastore, 1) := qdJ13_getChars_11360_41_24.2.2.2.2.2.2.2.2.2.2.2.2.2.2.2.2.2.2.2.2.2.1
theorem dJ13_getChars_11360_79 : decode cJ13_getChars_11360 79 = .ok (.goto (-55), 3) := qdJ13_getChars_11360_41_24.2.2.2.2.2.2.2.2.2.2.2.2.2.2.2.2.2.2.2.2.2.2.1
theorem dJ13_getChars_11360_82 : decode cJ13_getChars_11360 82 = .ok (.lload_n 0, 1) := qdJ13_getChars_11360_41_24.2.2.2.2.2.2.2.2.2.2.2.2.2.2.2.2.2.2.2.2.2.2.2.1
theorem qdJ13_getChars_11360_83_24 : dcAll cJ13_getChars_11360 [(83, .l2i, 1), (84, .istore 10, 2), (86, .iload 10, 2), (88, .bipush (-100), 2), (90, .if_icmp .gt 53, 3), (93, .iload 10, 2), (95, .bipush 100, 2), (97, .idiv, 1), (98, .istore 9, 2), (100, .iload 9, 2), (102, .bipush 100, 2), (104, .imul, 1), (105, .iload 10, 2), (107, .isub, 1), (108, .istore 6, 2), (110, .iload 9, 2), (112, .istore 10, 2), (114, .aload_n 3, 1), (115, .iinc 7 (-1), 3), (118, .iload 7, 2), (120, .getstatic 133, 3), (123, .iload 6, 2), (125, .baload, 1), (126, .bastore, 1)] := dcAll_of (by decide +kernel)
theorem dJ13_getChars_11360_83 : decode cJ13_getChars_11360 83 = .ok (.l2i, 1) := qdJ13_getChars_11360_83_24.1
theorem dJ13_getChars_11360_84 : decode cJ13_getChars_11360 84 = .ok (.istore 10, 2) := qdJ13_getChars_11360_83_24.2.1
theorem dJ13_getChars_11360_86 : decode cJ13_getChars_11360 86 = .ok (.iload 10, 2) := qdJ13_getChars_11360_83_24.2.2.1
theorem dJ13_getChars_11360_88 : decode cJ13_getChars_11360 88 = .ok (.bipush (-100), 2) := qdJ13_getChars_11360_83_24.2.2.2.1
theorem dJ13_getChars_11360_90 : decode cJ13_getChars_11360 90 = .ok (.if_icmp .gt 53, 3) := qdJ13_getChars_11360_83_24.2.2.2.2.1
theorem dJ13_getChars_11360_93 : decode cJ13_getChars_11360 93 = .ok (.iload 10, 2) := qdJ13_getChars_11360_83_24.2.2.2.2.2.1
theorem dJ13_getChars_11360_95 : decode cJ13_getChars_11360 95 = .ok (.bipush 100, 2) := qdJ13_getChars_11360_83_24.2.2.2.2.2.2.1
theorem dJ13_getChars_11360_97 : decode cJ13_getChars_11360 97 = .ok (.idiv, 1) := qdJ13_getChars_11360_83_24.2.2.2.2.2.2.2.1
theorem dJ13_getChars_11360_98 : decode cJ13_getChars_11360 98 = .ok (.istore 9, 2) := qdJ13_getChars_11360_83_24.2.2.2.2.2.2.2.2.1
theorem dJ13_getChars_11360_100 : decode cJ13_getChars_11360 100 = .ok (.iload 9, 2) := qdJ13_getChars_11360_83_24.2.2.2.2.2.2.2.2.2.1
theorem dJ13_getChars_11360_102 : decode cJ13_getChars_11360 102 = .ok (.bipush 100, 2) := qdJ13_getChars_11360_83_24.2.2.2.2.2.2.2.2.2.2.1
theorem dJ13_getChars_11360_104 : decode cJ13_getChars_11360 104 = .ok (.imul, 1) := qdJ13_getChars_11360_83_24.2.2.2.2.2.2.2.2.2.2.2.1
theorem dJ13_getChars_11360_105 : decode cJ13_getChars_11360 105 = .ok (.iload 10, 2) := qdJ13_getChars_11360_83_24.2.2.2.2.2.2.2.2.2.2.2.2.1
theorem dJ13_getChars_11360_107 : decode cJ13_getChars_11360 107 = .ok (.isub, 1) := qdJ13_getChars_11360_83_24.2.2.2.2.2.2.2.2.2.2.2.2.2.1
theorem dJ13_getChars_11360_108 : decode cJ13_getChars_11360 108 = .ok (.istore 6, 2) := qdJ13_getChars_11360_83_24.2.2.2.2.2.2.2.2.2.2.2.2.2.2.1
theorem dJ13_getChars_11360_110 : decode cJ13_getChars_11360 110 = .ok (.iload 9, 2) := qdJ13_getChars_11360_83_24.2.2.2.2.2.2.2.2.2.2.2.2.2.2.2.1
theorem dJ13_getChars_11360_112 : decode cJ13_getChars_11360 112 = .ok (.istore 10, 2) := qdJ13_getChars_11360_83_24.2.2.2.2.2.2.2.2.2.2.2.2.2.2.2.2.1
theorem dJ13_getChars_11360_114 : decode cJ13_getChars_11360 114 = .ok (.aload_n 3, 1) := qdJ13_getChars_11360_83_24.2.2.2.2.2.2.2.2.2.2.2.2.2.2.2.2.2.1
theorem dJ13_getChars_11360_115 : decode cJ13_getChars_11360 115 = .ok (.iinc 7 (-1), 3) := qdJ13_getChars_11360_83_24.2.2.2.2.2.2.2.2.2.2.2.2.2.2.2.2.2.2.1
theorem dJ13_getChars_11360_118 : decode cJ13_getChars_11360 118 = .ok (.iload 7, 2) := qdJ13_getChars_11360_83_24.2.2.2.2.2.2.2.2.2.2.2.2.2.2.2.2.2.2.2.1
theorem dJ13_getChars_11360_120 : decode cJ13_getChars_11360 120 = .ok (.getstatic 133, 3) := qdJ13_getChars_11360_83_24.2.2.2.2.2.2.2.2.2.2.2.2.2.2.2.2.2.2.2.2.1
theorem dJ13_getChars_11360_123 : decode cJ13_getChars_11360 123 = .ok (.iload 6, 2) := qdJ13_getChars_11360_83_24.2.2.2.2.2.2.2.2.2.2.2.2.2.2.2.2.2.2.2.2.2.1
theorem dJ13_getChars_11360_125 : decode cJ13_getChars_11360 125 = .ok (.baload, 1) := qdJ13_getChars_11360_83_24.2.2.2.2.2.2.2.2.2.2.2.2.2.2.2.2.2.2.2.2.2.2.1
theorem dJ13_getChars_11360_126 : decode cJ13_getChars_11360 126 = .ok (.bastore, 1) := qdJ13_getChars_11360_83_24.2.2.2.2.2.2.2.2.2.2.2.2.2.2.2.2.2.2.2.2.2.2.2.1
theorem qdJ13_getChars_11360_127_24 : dcAll cJ13_getChars_11360 [(127, .aload_n 3, 1), (128, .iinc 7 (-1), 3), (131, .iload 7, 2), (133, .getstatic 137, 3), (136, .iload 6, 2), (138, .baload, 1), (139, .bastore, 1), (140, .goto (-54), 3), (143, .aload_n 3, 1), (144, .iinc 7 (-1), 3), (147, .iload 7, 2), (149, .getstatic 133, 3), (152, .iload 10, 2), (154, .ineg, 1), (155, .baload, 1), (156, .bastore, 1), (157, .iload 10, 2), (159, .bipush (-9), 2), (161, .if_icmp .ge 17, 3), (164, .aload_n 3, 1), (165, .iinc 7 (-1), 3), (168, .iload 7, 2), (170, .getstatic 137, 3), (173, .iload 10, 2)] := dcAll_of (by decide +kernel)
theorem dJ13_getChars_11360_127 : decode cJ13_getChars_11360 127 = .ok (.aload_n 3, 1) := qdJ13_getChars_11360_127_24.1
theorem dJ13_getChars_11360_128 : decode cJ13_getChars_11360 128 = .ok (.iinc 7 (-1), 3) := qdJ13_getChars_11360_127_24.2.1
theorem dJ13_getChars_11360_131 : decode cJ13_getChars_11360 131 = .ok (.iload 7, 2) := qdJ13_getChars_11360_127_24.2.2.1
theorem dJ13_getChars_11360_133 : decode cJ13_getChars_11360 133 = .ok (.getstatic 137, 3) := qdJ13_getChars_11360_127_24.2.2.2.1
theorem dJ13_getChars_11360_136 : decode cJ13_getChars_11360 136 = .ok (.iload 6, 2) := qdJ13_getChars_11360_127_24.2.2.2.2.1
theorem dJ13_getChars_11360_138 : decode cJ13_getChars_11360 138 = .ok (.baload, 1) := qdJ13_getChars_11360_127_24.2.2.2.2.2.1
theorem dJ13_getChars_11360_139 : decode cJ13_getChars_11360 139 = .ok (.bastore, 1) := qdJ13_getChars_11360_127_24.2.2.2.2.2.2.1
theorem dJ13_getChars_11360_140 : decode cJ13_getChars_11360 140 = .ok (.goto (-54), 3) := qdJ13_getChars_11360_127_24.2.2.2.2.2.2.2.1
theorem dJ13_getChars_11360_143 : decode cJ13_getChars_11360 143 = .ok (.aload_n 3, 1) := qdJ13_getChars_11360_127_24.2.2.2.2.2.2.2.2.1
theorem dJ13_getChars_11360_144 : decode cJ13_getChars_11360 144 = .ok (.iinc 7 (-1), 3) := qdJ13_getChars_11360_127_24.2.2.2.2.2.2.2.2.2.1
theorem dJ13_getChars_11360_147 : decode cJ13_getChars_11360 147 = .ok (.iload 7, 2) := qdJ13_getChars_11360_127_24.2.2.2.2.2.2.2.2.2.2.1
theorem dJ13_getChars_11360_149 : decode cJ13_getChars_11360 149 = .ok (.getstatic 133, 3) := qdJ13_getChars_11360_127_24.2.2.2.2.2.2.2.2.2.2.2.1
theorem dJ13_getChars_11360_152 : decode cJ13_getChars_11360 152 = .ok (.iload 10, 2) := qdJ13_getChars_11360_127_24.2.2.2.2.2.2.2.2.2.2.2.2.1
theorem dJ13_getChars_11360_154 : decode cJ13_getChars_11360 154 = .ok (.ineg, 1) := qdJ13_getChars_11360_127_24.2.2.2.2.2.2.2.2.2.2.2.2.2.1
theorem dJ13_getChars_11360_155 : decode cJ13_getChars_11360 155 = .ok (.baload, 1) := qdJ13_getChars_11360_127_24.2.2.2.2.2.2.2.2.2.2.2.2.2.2.1
theorem dJ13_getChars_11360_156 : decode cJ13_getChars_11360 156 = .ok (.bastore, 1) := qdJ13_getChars_11360_127_24.2.2.2.2.2.2.2.2.2.2.2.2.2.2.2.1
theorem dJ13_getChars_11360_157 : decode cJ13_getChars_11360 157 = .ok (.iload 10, 2) := qdJ13_getChars_11360_127_24.2.2.2.2.2.2.2.2.2.2.2.2.2.2.2.2.1
theorem dJ13_getChars_11360_159 : decode cJ13_getChars_11360 159 = .ok (.bipush (-9), 2) := qdJ13_getChars_11360_127_24.2.2.2.2.2.2.2.2.2.2.2.2.2.2.2.2.2.1
theorem dJ13_getChars_11360_161 : decode cJ13_getChars_11360 161 = .ok (.if_icmp .ge 17, 3) := qdJ13_getChars_11360_127_24.2.2.2.2.2.2.2.2.2.2.2.2.2.2.2.2.2.2.1
theorem dJ13_getChars_11360_164 : decode cJ13_getChars_11360 164 = .ok (.aload_n 3, 1) := qdJ13_getChars_11360_127_24.2.2.2.2.2.2.2.2.2.2.2.2.2.2.2.2.2.2.2.1
theorem dJ13_getChars_11360_165 : decode cJ13_getChars_11360 165 = .ok (.iinc 7 (-1), 3) := qdJ13_getChars_11360_127_24.2.2.2.2.2.2.2.2.2.2.2.2.2.2.2.2.2.2.2.2.1
theorem dJ13_getChars_11360_168 : decode cJ13_getChars_11360 168 = .ok (.iload 7, 2) := qdJ13_getChars_11360_127_24.2.2.2.2.2.2.2.2.2.2.2.2.2.2.2.2.2.2.2.2.2.1
theorem dJ13_getChars_11360_170 : decode cJ13_getChars_11360 170 = .ok (.getstatic 137, 3) := qdJ13_getChars_11360_127_24.2.2.2.2.2.2.2.2.2.2.2.2.2.2.2.2.2.2.2.2.2.2.1
theorem dJ13_getChars_11360_173 : decode cJ13_getChars_11360 173 = .ok (.iload 10, 2) := qdJ13_getChars_11360_127_24.2.2.2.2.2.2.2.2.2.2.2.2.2.2.2.2.2.2.2.2.2.2.2.1
theorem qdJ13_getChars_11360_175_12 : dcAll cJ13_getChars_11360 [(175, .ineg, 1), (176, .baload, 1), (177, .bastore, 1), (178, .iload 8, 2), (180, .ifCond .eq 12, 3), (183, .aload_n 3, 1), (184, .iinc 7 (-1), 3), (187, .iload 7, 2), (189, .bipush 45, 2), (191, .bastore, 1), (192, .iload 7, 2), (194, .ireturn, 1)] := dcAll_of (by decide +kernel)
theorem dJ13_getChars_11360_175 : decode cJ13_getChars_11360 175 = .ok (.ineg, 1) := qdJ13_getChars_11360_175_12.1
theorem dJ13_getChars_11360_176 : decode cJ13_getChars_11360 176 = .ok (.baload, 1) := qdJ13_getChars_11360_175_12.2.1
theorem dJ13_getChars_11360_177 : decode cJ13_getChars_11360 177 = .ok (.bastore, 1) := qdJ13_getChars_11360_175_12.2.2.1
theorem dJ13_getChars_11360_178 : decode cJ13_getChars_11360 178 = .ok (.iload 8, 2) := qdJ13_getChars_11360_175_12.2.2.2.1
theorem dJ13_getChars_11360_180 : decode cJ13_getChars_11360 180 = .ok (.ifCond .eq 12, 3) := qdJ13_getChars_11360_175_12.2.2.2.2.1
theorem dJ13_getChars_11360_183 : decode cJ13_getChars_11360 183 = .ok (.aload_n 3, 1) := qdJ13_getChars_11360_175_12.2.2.2.2.2.1
theorem dJ13_getChars_11360_184 : decode cJ13_getChars_11360 184 = .ok (.iinc 7 (-1), 3) := qdJ13_getChars_11360_175_12.2.2.2.2.2.2.1
theorem dJ13_getChars_11360_187 : decode cJ13_getChars_11360 187 = .ok (.iload 7, 2) := qdJ13_getChars_11360_175_12.2.2.2.2.2.2.2.1
theorem dJ13_getChars_11360_189 : decode cJ13_getChars_11360 189 = .ok (.bipush 45, 2) := qdJ13_getChars_11360_175_12.2.2.2.2.2.2.2.2.1
theorem dJ13_getChars_11360_191 : decode cJ13_getChars_11360 191 = .ok (.bastore, 1) := qdJ13_getChars_11360_175_12.2.2.2.2.2.2.2.2.2.1
theorem dJ13_getChars_11360_192 : decode cJ13_getChars_11360 192 = .ok (.iload 7, 2) := qdJ13_getChars_11360_175_12.2.2.2.2.2.2.2.2.2.2.1
theorem dJ13_getChars_11360_194 : decode cJ13_getChars_11360 194 = .ok (.ireturn, 1) := qdJ13_getChars_11360_175_12.2.2.2.2.2.2.2.2.2.2.2.1
theorem qdJ13_stringSize_95d88_0_24 : dcAll cJ13_stringSize_95d88 [(0, .iconst 1, 1), (1, .istore_n 2, 1), (2, .lload_n 0, 1), (3, .lconst 0, 1), (4, .lcmp, 1), (5, .ifCond .lt 8, 3), (8, .iconst 0, 1), (9, .istore_n 2, 1), (10, .lload_n 0, 1), (11, .lneg, 1), (12, .lstore_n 0, 1), (13, .ldc2_w 140, 3), (16, .lstore_n 3, 1), (17, .iconst 1, 1), (18, .istore 5, 2), (20, .iload 5, 2), (22, .bipush 19, 2), (24, .if_icmp .ge 26, 3), (27, .lload_n 0, 1), (28, .lload_n 3, 1), (29, .lcmp, 1), (30, .ifCond .le 8, 3), (33, .iload 5, 2), (35, .iload_n 2, 1)] := dcAll_of (by decide +kernel)
theorem dJ13_stringSize_95d88_0 : decode cJ13_stringSize_95d88 0 = .ok (.iconst 1, 1) := qdJ13_stringSize_95d88_0_24.1
theorem dJ13_stringSize_95d88_1 : decode cJ13_stringSize_95d88 1 = .ok (.istore_n 2, 1) := qdJ13_stringSize_95d88_0_24.2.1
theorem dJ13_stringSize_95d88_2 : decode cJ13_stringSize_95d88 2 = .ok (.lload_n 0, 1) := qdJ13_stringSize_95d88_0_24.2.2.1
theorem dJ13_stringSize_95d88_3 : decode cJ13_stringSize_95d88 3 = .ok (.lconst 0, 1) := qdJ13_stringSize_95d88_0_24.2.2.2.1
theorem dJ13_stringSize_95d88_4 : decode cJ13_stringSize_95d88 4 = .ok (.lcmp, 1) := qdJ13_stringSize_95d88_0_24.2.2.2.2.1
theorem dJ13_stringSize_95d88_5 : decode cJ13_stringSize_95d88 5 = .ok (.ifCond .lt 8, 3) := qdJ13_stringSize_95d88_0_24.2.2.2.2.2.1
theorem dJ13_stringSize_95d88_8 : decode cJ13_stringSize_95d88 8 = .ok (.iconst 0, 1) := qdJ13_stringSize_95d88_0_24.2.2.2.2.2.2.1
theorem dJ13_stringSize_95d88_9 : decode cJ13_stringSize_95d88 9 = .ok (.istore_n 2, 1) := qdJ13_stringSize_95d88_0_24.2.2.2.2.2.2.2.1
theorem dJ13_stringSize_95d88_10 : decode cJ13_stringSize_95d88 10 = .ok (.lload_n 0, 1) := qdJ13_stringSize_95d88_0_24.2.2.2.2.2.2.2.2.1
theorem dJ13_stringSize_95d88_11 : decode cJ13_stringSize_95d88 11 = .ok (.lneg, 1) := qdJ13_stringSize_95d88_0_24.2.2.2.2.2.2.2.2.2.1
theorem dJ13_stringSize_95d88_12 : decode cJ13_stringSize_95d88 12 = .ok (.lstore_n 0, 1) := qdJ13_stringSize_95d88_0_24.2.2.2.2.2.2.2.2.2.2.1
theorem dJ13_stringSize_95d88_13 : decode cJ13_stringSize_95d88 13 = .ok (.ldc2_w 140, 3) := qdJ13_stringSize_95d88_0_24.2.2.2.2.2.2.2.2.2.2.2.1
theorem dJ13_stringSize_95d88_16 : decode cJ13_stringSize_95d88 16 = .ok (.lstore_n 3, 1) := qdJ13_stringSize_95d88_0_24.2.2.2.2.2.2.2.2.2.2.2.2.1
theorem dJ13_stringSize_95d88_17 : decode cJ13_stringSize_95d88 17 = .ok (.iconst 1, 1) := qdJ13_stringSize_95d88_0_24.2.2.2.2.2.2.2.2.2.2.2.2.2.1
theorem dJ13_stringSize_95d88_18 : decode cJ13_stringSize_95d88 18 = .ok (.istore 5, 2) := qdJ13_stringSize_95d88_0_24.2.2.2.2.2.2.2.2.2.2.2.2.2.2.1
theorem dJ13_stringSize_95d88_20 : decode cJ13_stringSize_95d88 20 = .ok (.iload 5, 2) := qdJ13_stringSize_95d88_0_24.2.2.2.2.2.2.2.2.2.2.2.2.2.2.2.1
theorem dJ13_stringSize_95d88_22 : decode cJ13_stringSize_95d88 22 = .ok (.bipush 19, 2) := qdJ13_stringSize_95d88_0_24.2.2.2.2.2.2.2.2.2.2.2.2.2.2.2.2.1
theorem dJ13_stringSize_95d88_24 : decode cJ13_stringSize_95d88 24 = .ok (.if_icmp .ge 26, 3) := qdJ13_stringSize_95d88_0_24.2.2.2.2.2.2.2.2.2.2.2.2.2.2.2.2.2.1
theorem dJ13_stringSize_95d88_27 : decode cJ13_stringSize_95d88 27 = .ok (.lload_n 0, 1) := qdJ13_stringSize_95d88_0_24.2.2.2.2.2.2.2.2.2.2.2.2.2.2.2.2.2.2.1
theorem dJ13_stringSize_95d88_28 : decode cJ13_stringSize_95d88 28 = .ok (.lload_n 3, 1) := qdJ13_stringSize_95d88_0_24.2.2.2.2.2.2.2.2.2.2.2.2.2.2.2.2.2.2.2.1
theorem dJ13_stringSize_95d88_29 : decode cJ13_stringSize_95d88 29 = .ok (.lcmp, 1) := qdJ13_stringSize_95d88_0_24.2.2.2.2.2.2.2.2.2.2.2.2.2.2.2.2.2.2.2.2.1
theorem dJ13_stringSize_95d88_30 : decode cJ13_stringSize_95d88 30 = .ok (.ifCond .le 8, 3) := qdJ13_stringSize_95d88_0_24.2.2.2.2.2.2.2.2.2.2.2.2.2.2.2.2.2.2.2.2.2.1
theorem dJ13_stringSize_95d88_33 : decode cJ13_stringSize_95d88 33 = .ok (.iload 5, 2) := qdJ13_stringSize_95d88_0_24.2.2.2.2.2.2.2.2.2.2.2.2.2.2.2.2.2.2.2.2.2.2.1
theorem dJ13_stringSize_95d88_35 : decode cJ13_stringSize_95d88 35 = .ok (.iload_n 2, 1) := qdJ13_stringSize_95d88_0_24.2.2.2.2.2.2.2.2.2.2.2.2.2.2.2.2.2.2.2.2.2.2.2.1
theorem qdJ13_stringSize_95d88_36_12 : dcAll cJ13_stringSize_95d88 [(36, .iadd, 1), (37, .ireturn, 1), (38, .ldc2_w 53, 3), (41, .lload_n 3, 1), (42, .lmul, 1), (43, .lstore_n 3, 1), (44, .iinc 5 1, 3), (47, .goto (-27), 3), (50, .bipush 19, 2), (52, .iload_n 2, 1), (53, .iadd, 1), (54, .ireturn, 1)] := dcAll_of (by decide +kernel)
theorem dJ13_stringSize_95d88_36 : decode cJ13_stringSize_95d88 36 = .ok (.iadd, 1) := qdJ13_stringSize_95d88_36_12.1
theorem dJ13_stringSize_95d88_37 : decode cJ13_stringSize_95d88 37 = .ok (.ireturn, 1) := qdJ13_stringSize_95d88_36_12.2.1
theorem dJ13_stringSize_95d88_38 : decode cJ13_stringSize_95d88 38 = .ok (.ldc2_w 53, 3) := qdJ13_stringSize_95d88_36_12.2.2.1
theorem dJ13_stringSize_95d88_41 : decode cJ13_stringSize_95d88 41 = .ok (.lload_n 3, 1) := qdJ13_stringSize_95d88_36_12.2.2.2.1
theorem dJ13_stringSize_95d88_42 : decode cJ13_stringSize_95d88 42 = .ok (.lmul, 1) := qdJ13_stringSize_95d88_36_12.2.2.2.2.1
theorem dJ13_stringSize_95d88_43 : decode cJ13_stringSize_95d88 43 = .ok (.lstore_n 3, 1) := qdJ13_stringSize_95d88_36_12.2.2.2.2.2.1
theorem dJ13_stringSize_95d88_44 : decode cJ13_stringSize_95d88 44 = .ok (.iinc 5 1, 3) := qdJ13_stringSize_95d88_36_12.2.2.2.2.2.2.1
theorem dJ13_stringSize_95d88_47 : decode cJ13_stringSize_95d88 47 = .ok (.goto (-27), 3) := qdJ13_stringSize_95d88_36_12.2.2.2.2.2.2.2.1
theorem dJ13_stringSize_95d88_50 : decode cJ13_stringSize_95d88 50 = .ok (.bipush 19, 2) := qdJ13_stringSize_95d88_36_12.2.2.2.2.2.2.2.2.1
theorem dJ13_stringSize_95d88_52 : decode cJ13_stringSize_95d88 52 = .ok (.iload_n 2, 1) := qdJ13_stringSize_95d88_36_12.2.2.2.2.2.2.2.2.2.1
theorem dJ13_stringSize_95d88_53 : decode cJ13_stringSize_95d88 53 = .ok (.iadd, 1) := qdJ13_stringSize_95d88_36_12.2.2.2.2.2.2.2.2.2.2.1
theorem dJ13_stringSize_95d88_54 : decode cJ13_stringSize_95d88 54 = .ok (.ireturn, 1) := qdJ13_stringSize_95d88_36_12.2.2.2.2.2.2.2.2.2.2.2.1
theorem qdJ9_max_7cf53_0_7 : dcAll cJ9_max_7cf53 [(0, .iload_n 0, 1), (1, .iload_n 1, 1), (2, .if_icmp .lt 7, 3), (5, .iload_n 0, 1), (6, .goto 4, 3), (9, .iload_n 1, 1), (10, .ireturn, 1)] := dcAll_of (by decide +kernel)
theorem dJ9_max_7cf53_0 : decode cJ9_max_7cf53 0 = .ok (.iload_n 0, 1) := qdJ9_max_7cf53_0_7.1
theorem dJ9_max_7cf53_1 : decode cJ9_max_7cf53 1 = .ok (.iload_n 1, 1) := qdJ9_max_7cf53_0_7.2.1
theorem dJ9_max_7cf53_2 : decode cJ9_max_7cf53 2 = .ok (.if_icmp .lt 7, 3) := qdJ9_max_7cf53_0_7.2.2.1
theorem dJ9_max_7cf53_5 : decode cJ9_max_7cf53 5 = .ok (.iload_n 0, 1) := qdJ9_max_7cf53_0_7.2.2.2.1
theorem dJ9_max_7cf53_6 : decode cJ9_max_7cf53 6 = .ok (.goto 4, 3) := qdJ9_max_7cf53_0_7.2.2.2.2.1
theorem dJ9_max_7cf53_9 : decode cJ9_max_7cf53 9 = .ok (.iload_n 1, 1) := qdJ9_max_7cf53_0_7.2.2.2.2.2.1
theorem dJ9_max_7cf53_10 : decode cJ9_max_7cf53 10 = .ok (.ireturn, 1) := qdJ9_max_7cf53_0_7.2.2.2.2.2.2.1
theorem qdJ9_min_7cf53_0_7 : dcAll cJ9_min_7cf53 [(0, .iload_n 0, 1), (1, .iload_n 1, 1), (2, .if_icmp .gt 7, 3), (5, .iload_n 0, 1), (6, .goto 4, 3), (9, .iload_n 1, 1), (10, .ireturn, 1)] := dcAll_of (by decide +kernel)
theorem dJ9_min_7cf53_0 : decode cJ9_min_7cf53 0 = .ok (.iload_n 0, 1) := qdJ9_min_7cf53_0_7.1
theorem dJ9_min_7cf53_1 : decode cJ9_min_7cf53 1 = .ok (.iload_n 1, 1) := qdJ9_min_7cf53_0_7.2.1
theorem dJ9_min_7cf53_2 : decode cJ9_min_7cf53 2 = .ok (.if_icmp .gt 7, 3) := qdJ9_min_7cf53_0_7.2.2.1
theorem dJ9_min_7cf53_5 : decode cJ9_min_7cf53 5 = .ok (.iload_n 0, 1) := qdJ9_min_7cf53_0_7.2.2.2.1
theorem dJ9_min_7cf53_6 : decode cJ9_min_7cf53 6 = .ok (.goto 4, 3) := qdJ9_min_7cf53_0_7.2.2.2.2.1
theorem dJ9_min_7cf53_9 : decode cJ9_min_7cf53 9 = .ok (.iload_n 1, 1) := qdJ9_min_7cf53_0_7.2.2.2.2.2.1
theorem dJ9_min_7cf53_10 : decode cJ9_min_7cf53 10 = .ok (.ireturn, 1) := qdJ9_min_7cf53_0_7.2.2.2.2.2.2.1
set_option maxRecDepth 20000 in
theorem ggJ0_init_81219_J0_init_db425 : GoodIn wsJ0_init_81219 wsJ0_init_db425 := goodIn_r _ [4, 5, 6, 7, 8, 9, 10, 11, 12, 13, 14, 15, 16, 17, 18, 19, 20, 21, 22, 23, 24, 25, 26, 27, 28, 29, 30, 31, 32, 33, 34, 35, 36, 37, 38, 39, 40, 41, 42, 43, 44, 45, 46, 47, 48, 49, 50, 51, 52, 53, 54, 55, 56, 57, 58, 59, 60, 61, 62, 63, 64, 65, 66, 67, 68, 69, 70, 71, 72, 73, 74, 75, 76, 77, 78, 79, 3, 80, 81, 82, 83, 84, 85, 86, 87, 88, 89, 90, 91, 92, 93, 94, 95, 96, 97, 98, 99, 100, 101, 102, 103, 104, 105, 106, 107] rfl (by decide +kernel)
set_option maxRecDepth 20000 in
theorem gJ0_init_81219_J0_init_db425 : GoodIn wsJ0_init_81219 (wsJ0_init_db425) := ggJ0_init_81219_J0_init_db425
theorem qdJ0_init_81219_0_5 : dcAll cJ0_init_81219 [(0, .aload_n 0, 1), (1, .aload_n 1, 1), (2, .aconst_null, 1), (3, .invokespecial 489, 3), (6, .return_, 1)] := dcAll_of (by decide +kernel)
theorem dJ0_init_81219_0 : decode cJ0_init_81219 0 = .ok (.aload_n 0, 1) := qdJ0_init_81219_0_5.1
theorem dJ0_init_81219_1 : decode cJ0_init_81219 1 = .ok (.aload_n 1, 1) := qdJ0_init_81219_0_5.2.1
theorem dJ0_init_81219_2 : decode cJ0_init_81219 2 = .ok (.aconst_null, 1) := qdJ0_init_81219_0_5.2.2.1
theorem dJ0_init_81219_3 : decode cJ0_init_81219 3 = .ok (.invokespecial 489, 3) := qdJ0_init_81219_0_5.2.2.2.1
theorem dJ0_init_81219_6 : decode cJ0_init_81219 6 = .ok (.return_, 1) := qdJ0_init_81219_0_5.2.2.2.2.1
set_option maxRecDepth 20000 in
theorem ggJ0_length_8abf5_J0_coder_7d493 : GoodIn wsJ0_length_8abf5 wsJ0_coder_7d493 := goodIn_r _ [6, 7, 8, 9, 10, 11, 12] rfl (by decide +kernel)
set_option maxRecDepth 20000 in
theorem gJ0_length_8abf5_J0_coder_7d493 : GoodIn wsJ0_length_8abf5 (wsV RJ0 335 RJ0 yJ0_coder_7d493 wsJ0_coder_7d493) := goodIn_app (goodIn_r _ [2, 3, 4, 5] rfl rfl) ggJ0_length_8abf5_J0_coder_7d493
theorem qdJ0_length_8abf5_0_7 : dcAll cJ0_length_8abf5 [(0, .aload_n 0, 1), (1, .getfield 9, 3), (4, .arraylength, 1), (5, .aload_n 0, 1), (6, .invokevirtual 335, 3), (9, .ishr, 1), (10, .ireturn, 1)] := dcAll_of (by decide +kernel)
theorem dJ0_length_8abf5_0 : decode cJ0_length_8abf5 0 = .ok (.aload_n 0, 1) := qdJ0_length_8abf5_0_7.1
theorem dJ0_length_8abf5_1 : decode cJ0_length_8abf5 1 = .ok (.getfield 9, 3) := qdJ0_length_8abf5_0_7.2.1
theorem dJ0_length_8abf5_4 : decode cJ0_length_8abf5 4 = .ok (.arraylength, 1) := qdJ0_length_8abf5_0_7.2.2.1
theorem dJ0_length_8abf5_5 : decode cJ0_length_8abf5 5 = .ok (.aload_n 0, 1) := qdJ0_length_8abf5_0_7.2.2.2.1
theorem dJ0_length_8abf5_6 : decode cJ0_length_8abf5 6 = .ok (.invokevirtual 335, 3) := qdJ0_length_8abf5_0_7.2.2.2.2.1
theorem dJ0_length_8abf5_9 : decode cJ0_length_8abf5 9 = .ok (.ishr, 1) := qdJ0_length_8abf5_0_7.2.2.2.2.2.1
theorem dJ0_length_8abf5_10 : decode cJ0_length_8abf5 10 = .ok (.ireturn, 1) := qdJ0_length_8abf5_0_7.2.2.2.2.2.2.1
theorem qdJ0_isEmpty_aae02_0_8 : dcAll cJ0_isEmpty_aae02 [(0, .aload_n 0, 1), (1, .getfield 9, 3), (4, .arraylength, 1), (5, .ifCond .ne 7, 3), (8, .iconst 1, 1), (9, .goto 4, 3), (12, .iconst 0, 1), (13, .ireturn, 1)] := dcAll_of (by decide +kernel)
theorem dJ0_isEmpty_aae02_0 : decode cJ0_isEmpty_aae02 0 = .ok (.aload_n 0, 1) := qdJ0_isEmpty_aae02_0_8.1
theorem dJ0_isEmpty_aae02_1 : decode cJ0_isEmpty_aae02 1 = .ok (.getfield 9, 3) := qdJ0_isEmpty_aae02_0_8.2.1
theorem dJ0_isEmpty_aae02_4 : decode cJ0_isEmpty_aae02 4 = .ok (.arraylength, 1) := qdJ0_isEmpty_aae02_0_8.2.2.1
theorem dJ0_isEmpty_aae02_5 : decode cJ0_isEmpty_aae02 5 = .ok (.ifCond .ne 7, 3) := qdJ0_isEmpty_aae02_0_8.2.2.2.1
theorem dJ0_isEmpty_aae02_8 : decode cJ0_isEmpty_aae02 8 = .ok (.iconst 1, 1) := qdJ0_isEmpty_aae02_0_8.2.2.2.2.1
theorem dJ0_isEmpty_aae02_9 : decode cJ0_isEmpty_aae02 9 = .ok (.goto 4, 3) := qdJ0_isEmpty_aae02_0_8.2.2.2.2.2.1
theorem dJ0_isEmpty_aae02_12 : decode cJ0_isEmpty_aae02 12 = .ok (.iconst 0, 1) := qdJ0_isEmpty_aae02_0_8.2.2.2.2.2.2.1
theorem dJ0_isEmpty_aae02_13 : decode cJ0_isEmpty_aae02 13 = .ok (.ireturn, 1) := qdJ0_isEmpty_aae02_0_8.2.2.2.2.2.2.2.1
set_option maxRecDepth 20000 in
theorem ggJ0_getBytes_840e7_J0_coder_7d493 : GoodIn wsJ0_getBytes_840e7 wsJ0_coder_7d493 := goodIn_r _ [10, 11, 12, 41, 42, 43, 44] rfl (by decide +kernel)
set_option maxRecDepth 20000 in
theorem gJ0_getBytes_840e7_J0_coder_7d493 : GoodIn wsJ0_getBytes_840e7 (wsV RJ0 335 RJ0 yJ0_coder_7d493 wsJ0_coder_7d493) := goodIn_app (goodIn_r _ [6, 7, 8, 9] rfl rfl) ggJ0_getBytes_840e7_J0_coder_7d493
set_option maxRecDepth 20000 in
theorem ggJ0_getBytes_840e7_J1_inflate_0e8fd : GoodIn wsJ0_getBytes_840e7 wsJ1_inflate_0e8fd := goodIn_r _ [16, 17, 18, 19, 20, 21, 22, 23, 24, 25, 26, 27, 28, 9, 29, 30, 31, 32, 33, 34, 35, 36, 37, 38, 39, 40] rfl (by decide +kernel)
set_option maxRecDepth 20000 in
theorem gJ0_getBytes_840e7_J1_inflate_0e8fd : GoodIn wsJ0_getBytes_840e7 (va_wsS RJ0 106 yJ1_inflate_0e8fd wsJ1_inflate_0e8fd) := goodIn_app (goodIn_r _ [13, 14, 15] rfl rfl) ggJ0_getBytes_840e7_J1_inflate_0e8fd
theorem qdJ0_getBytes_840e7_0_24 : dcAll cJ0_getBytes_840e7 [(0, .aload_n 0, 1), (1, .invokevirtual 335, 3), (4, .iload_n 3, 1), (5, .if_icmp .ne 23, 3), (8, .aload_n 0, 1), (9, .getfield 9, 3), (12, .iconst 0, 1), (13, .aload_n 1, 1), (14, .iload_n 2, 1), (15, .iload_n 3, 1), (16, .ishl, 1), (17, .aload_n 0, 1), (18, .getfield 9, 3), (21, .arraylength, 1), (22, .invokestatic 212, 3), (25, .goto 18, 3), (28, .aload_n 0, 1), (29, .getfield 9, 3), (32, .iconst 0, 1), (33, .aload_n 1, 1), (34, .iload_n 2, 1), (35, .aload_n 0, 1), (36, .getfield 9, 3), (39, .arraylength, 1)] := dcAll_of (by decide +kernel)
theorem dJ0_getBytes_840e7_0 : decode cJ0_getBytes_840e7 0 = .ok (.aload_n 0, 1) := qdJ0_getBytes_840e7_0_24.1
theorem dJ0_getBytes_840e7_1 : decode cJ0_getBytes_840e7 1 = .ok (.invokevirtual 335, 3) := qdJ0_getBytes_840e7_0_24.2.1
theorem dJ0_getBytes_840e7_4 : decode cJ0_getBytes_840e7 4 = .ok (.iload_n 3, 1) := qdJ0_getBytes_840e7_0_24.2.2.1
theorem dJ0_getBytes_840e7_5 : decode cJ0_getBytes_840e7 5 = .ok (.if_icmp .ne 23, 3) := qdJ0_getBytes_840e7_0_24.2.2.2.1
theorem dJ0_getBytes_840e7_8 : decode cJ0_getBytes_840e7 8 = .ok (.aload_n 0, 1) := qdJ0_getBytes_840e7_0_24.2.2.2.2.1
theorem dJ0_getBytes_840e7_9 : decode cJ0_getBytes_840e7 9 = .ok (.getfield 9, 3) := qdJ0_getBytes_840e7_0_24.2.2.2.2.2.1
theorem dJ0_getBytes_840e7_12 : decode cJ0_getBytes_840e7 12 = .ok (.iconst 0, 1) := qdJ0_getBytes_840e7_0_24.2.2.2.2.2.2.1
theorem dJ0_getBytes_840e7_13 : decode cJ0_getBytes_840e7 13 = .ok (.aload_n 1, 1) := qdJ0_getBytes_840e7_0_24.2.2.2.2.2.2.2.1
theorem dJ0_getBytes_840e7_14 : decode cJ0_getBytes_840e7 14 = .ok (.iload_n 2, 1) := qdJ0_getBytes_840e7_0_24.2.2.2.2.2.2.2.2.1
theorem dJ0_getBytes_840e7_15 : decode cJ0_getBytes_840e7 15 = .ok (.iload_n 3, 1) := qdJ0_getBytes_840e7_0_24.2.2.2.2.2.2.2.2.2.1
theorem dJ0_getBytes_840e7_16 : decode cJ0_getBytes_840e7 16 = .ok (.ishl, 1) := qdJ0_getBytes_840e7_0_24.2.2.2.2.2.2.2.2.2.2.1
theorem dJ0_getBytes_840e7_17 : decode cJ0_getBytes_840e7 17 = .ok (.aload_n 0, 1) := qdJ0_getBytes_840e7_0_24.2.2.2.2.2.2.2.2.2.2.2.1
theorem dJ0_getBytes_840e7_18 : decode cJ0_getBytes_840e7 18 = .ok (.getfield 9, 3) := qdJ0_getBytes_840e7_0_24.2.2.2.2.2.2.2.2.2.2.2.2.1
theorem dJ0_getBytes_840e7_21 : decode cJ0_getBytes_840e7 21 = .ok (.arraylength, 1) := qdJ0_getBytes_840e7_0_24.2.2.2.2.2.2.2.2.2.2.2.2.2.1
theorem dJ0_getBytes_840e7_22 : decode cJ0_getBytes_840e7 22 = .ok (.invokestatic 212, 3) := qdJ0_getBytes_840e7_0_24.2.2.2.2.2.2.2.2.2.2.2.2.2.2.1
theorem dJ0_getBytes_840e7_25 : decode cJ0_getBytes_840e7 25 = .ok (.goto 18, 3) := qdJ0_getBytes_840e7_0_24.2.2.2.2.2.2.2.2.2.2.2.2.2.2.2.1
theorem dJ0_getBytes_840e7_28 : decode cJ0_getBytes_840e7 28 = .ok (.aload_n 0, 1) := qdJ0_getBytes_840e7_0_24.2.2.2.2.2.2.2.2.2.2.2.2.2.2.2.2.1
theorem dJ0_getBytes_840e7_29 : decode cJ0_getBytes_840e7 29 = .ok (.getfield 9, 3) := qdJ0_getBytes_840e7_0_24.2.2.2.2.2.2.2.2.2.2.2.2.2.2.2.2.2.1
theorem dJ0_getBytes_840e7_32 : decode cJ0_getBytes_840e7 32 = .ok (.iconst 0, 1) := qdJ0_getBytes_840e7_0_24.2.2.2.2.2.2.2.2.2.2.2.2.2.2.2.2.2.2.1
theorem dJ0_getBytes_840e7_33 : decode cJ0_getBytes_840e7 33 = .ok (.aload_n 1, 1) := qdJ0_getBytes_840e7_0_24.2.2.2.2.2.2.2.2.2.2.2.2.2.2.2.2.2.2.2.1
theorem dJ0_getBytes_840e7_34 : decode cJ0_getBytes_840e7 34 = .ok (.iload_n 2, 1) := qdJ0_getBytes_840e7_0_24.2.2.2.2.2.2.2.2.2.2.2.2.2.2.2.2.2.2.2.2.1
theorem dJ0_getBytes_840e7_35 : decode cJ0_getBytes_840e7 35 = .ok (.aload_n 0, 1) := qdJ0_getBytes_840e7_0_24.2.2.2.2.2.2.2.2.2.2.2.2.2.2.2.2.2.2.2.2.2.1
theorem dJ0_getBytes_840e7_36 : decode cJ0_getBytes_840e7 36 = .ok (.getfield 9, 3) := qdJ0_getBytes_840e7_0_24.2.2.2.2.2.2.2.2.2.2.2.2.2.2.2.2.2.2.2.2.2.2.1
theorem dJ0_getBytes_840e7_39 : decode cJ0_getBytes_840e7 39 = .ok (.arraylength, 1) := qdJ0_getBytes_840e7_0_24.2.2.2.2.2.2.2.2.2.2.2.2.2.2.2.2.2.2.2.2.2.2.2.1
theorem qdJ0_getBytes_840e7_40_2 : dcAll cJ0_getBytes_840e7 [(40, .invokestatic 106, 3), (43, .return_, 1)] := dcAll_of (by decide +kernel)
theorem dJ0_getBytes_840e7_40 : decode cJ0_getBytes_840e7 40 = .ok (.invokestatic 106, 3) := qdJ0_getBytes_840e7_40_2.1
theorem dJ0_getBytes_840e7_43 : decode cJ0_getBytes_840e7 43 = .ok (.return_, 1) := qdJ0_getBytes_840e7_40_2.2.1
set_option maxRecDepth 20000 in
theorem ggJ0_init_db425_J5_getValue_6d5f1 : GoodIn wsJ0_init_db425 wsJ5_getValue_6d5f1 := goodIn_r _ [13, 14, 101, 102, 103, 104] rfl (by decide +kernel)
set_option maxRecDepth 20000 in
theorem gJ0_init_db425_J5_getValue_6d5f1_u552J4 : GoodIn wsJ0_init_db425 (va_wsU RJ0 552 RJ4 "java/lang/AbstractStringBuilder" ⟨"java/lang/AbstractStringBuilder", "getValue", "()[B"⟩ yJ5_getValue_6d5f1 wsJ5_getValue_6d5f1) := goodIn_app (goodIn_of _ (by decide +kernel)) ggJ0_init_db425_J5_getValue_6d5f1
set_option maxRecDepth 20000 in
theorem ggJ0_init_db425_J4_length_8abf5 : GoodIn wsJ0_init_db425 wsJ4_length_8abf5 := goodIn_r _ [21, 22, 16, 23, 24, 12, 25, 26, 101, 102, 103, 104] rfl (by decide +kernel)
set_option maxRecDepth 20000 in
theorem gJ0_init_db425_J4_length_8abf5_u549J4 : GoodIn wsJ0_init_db425 (va_wsO RJ0 549 RJ4 "java/lang/AbstractStringBuilder" ⟨"java/lang/AbstractStringBuilder", "length", "()I"⟩ yJ4_length_8abf5 wsJ4_length_8abf5) := goodIn_app (goodIn_of _ (by decide +kernel)) ggJ0_init_db425_J4_length_8abf5
set_option maxRecDepth 20000 in
theorem ggJ0_init_db425_J5_isLatin1_aae02 : GoodIn wsJ0_init_db425 wsJ5_isLatin1_aae02 := goodIn_r _ [31, 32, 33, 101, 102, 103, 104] rfl (by decide +kernel)
set_option maxRecDepth 20000 in
theorem gJ0_init_db425_J5_isLatin1_aae02_u1047J4 : GoodIn wsJ0_init_db425 (va_wsU RJ0 1047 RJ4 "java/lang/AbstractStringBuilder" ⟨"java/lang/AbstractStringBuilder", "isLatin1", "()Z"⟩ yJ5_isLatin1_aae02 wsJ5_isLatin1_aae02) := goodIn_app (goodIn_of _ (by decide +kernel)) ggJ0_init_db425_J5_isLatin1_aae02
set_option maxRecDepth 20000 in
theorem ggJ0_init_db425_J7_copyOfRange_39247 : GoodIn wsJ0_init_db425 wsJ7_copyOfRange_39247 := goodIn_r _ [37, 38, 39, 40, 41, 42, 43, 44, 45, 36, 46, 47, 48, 49, 50, 51, 52, 53, 54, 55, 56, 57, 58, 59, 60, 20, 101, 102, 103, 104] rfl (by decide +kernel)
set_option maxRecDepth 20000 in
theorem gJ0_init_db425_J7_copyOfRange_39247 : GoodIn wsJ0_init_db425 (va_wsS RJ0 54 yJ7_copyOfRange_39247 wsJ7_copyOfRange_39247) := goodIn_app (goodIn_r _ [34, 35, 36] rfl rfl) ggJ0_init_db425_J7_copyOfRange_39247
set_option maxRecDepth 20000 in
theorem ggJ0_init_db425_J2_compress_39247 : GoodIn wsJ0_init_db425 wsJ2_compress_39247 := goodIn_r _ [64, 47, 65, 66, 63, 67, 68, 69, 70, 71, 72, 73, 74, 75, 76, 77, 78, 79, 80, 81, 82, 83, 84, 85, 86, 87, 88, 89, 90, 91, 92, 93, 35, 36, 37, 38, 39, 40, 41, 42, 43, 44, 45, 46, 48, 49, 50, 51, 52, 53, 54, 55, 56, 57, 58, 59, 60, 20, 101, 102, 103, 104] rfl (by decide +kernel)
set_option maxRecDepth 20000 in
theorem gJ0_init_db425_J2_compress_39247 : GoodIn wsJ0_init_db425 (va_wsS RJ0 1051 yJ2_compress_39247 wsJ2_compress_39247) := goodIn_app (goodIn_r _ [61, 62, 63] rfl rfl) ggJ0_init_db425_J2_compress_39247
set_option maxRecDepth 20000 in
theorem ggJ0_init_db425_J2_coderFromArrayLen_85cad : GoodIn wsJ0_init_db425 wsJ2_coderFromArrayLen_85cad := goodIn_r _ [96] rfl (by decide +kernel)
set_option maxRecDepth 20000 in
theorem gJ0_init_db425_J2_coderFromArrayLen_85cad : GoodIn wsJ0_init_db425 (va_wsS RJ0 47 yJ2_coderFromArrayLen_85cad wsJ2_coderFromArrayLen_85cad) := goodIn_app (goodIn_r _ [94, 95, 63] rfl rfl) ggJ0_init_db425_J2_coderFromArrayLen_85cad
theorem qdJ0_init_db425_0_24 : dcAll cJ0_init_db425 [(0, .aload_n 0, 1), (1, .invokespecial 1, 3), (4, .aload_n 1, 1), (5, .invokevirtual 552, 3), (8, .astore_n 3, 1), (9, .aload_n 1, 1), (10, .invokevirtual 549, 3), (13, .istore 4, 2), (15, .aload_n 1, 1), (16, .invokevirtual 1047, 3), (19, .ifCond .eq 22, 3), (22, .aload_n 0, 1), (23, .iconst 0, 1), (24, .putfield 15, 3), (27, .aload_n 0, 1), (28, .aload_n 3, 1), (29, .iconst 0, 1), (30, .iload 4, 2), (32, .invokestatic 54, 3), (35, .putfield 9, 3), (38, .goto 59, 3), (41, .getstatic 38, 3), (44, .ifCond .eq 35, 3), (47, .aload_n 1, 1)] := dcAll_of (by decide +kernel)
theorem dJ0_init_db425_0 : decode cJ0_init_db425 0 = .ok (.aload_n 0, 1) := qdJ0_init_db425_0_24.1
theorem dJ0_init_db425_1 : decode cJ0_init_db425 1 = .ok (.invokespecial 1, 3) := qdJ0_init_db425_0_24.2.1
theorem dJ0_init_db425_4 : decode cJ0_init_db425 4 = .ok (.aload_n 1, 1) := qdJ0_init_db425_0_24.2.2.1
theorem dJ0_init_db425_5 : decode cJ0_init_db425 5 = .ok (.invokevirtual 552, 3) := qdJ0_init_db425_0_24.2.2.2.1
theorem dJ0_init_db425_8 : decode cJ0_init_db425 8 = .ok (.astore_n 3, 1) := qdJ0_init_db425_0_24.2.2.2.2.1
theorem dJ0_init_db425_9 : decode cJ0_init_db425 9 = .ok (.aload_n 1, 1) := qdJ0_init_db425_0_24.2.2.2.2.2.1
theorem dJ0_init_db425_10 : decode cJ0_init_db425 10 = .ok (.invokevirtual 549, 3) := qdJ0_init_db425_0_24.2.2.2.2.2.2.1
theorem dJ0_init_db425_13 : decode cJ0_init_db425 13 = .ok (.istore 4, 2) := qdJ0_init_db425_0_24.2.2.2.2.2.2.2.1
theorem dJ0_init_db425_15 : decode cJ0_init_db425 15 = .ok (.aload_n 1, 1) := qdJ0_init_db425_0_24.2.2.2.2.2.2.2.2.1
theorem dJ0_init_db425_16 : decode cJ0_init_db425 16 = .ok (.invokevirtual 1047, 3) := qdJ0_init_db425_0_24.2.2.2.2.2.2.2.2.2.1
theorem dJ0_init_db425_19 : decode cJ0_init_db425 19 = .ok (.ifCond .eq 22, 3) := qdJ0_init_db425_0_24.2.2.2.2.2.2.2.2.2.2.1
theorem dJ0_init_db425_22 : decode cJ0_init_db425 22 = .ok (.aload_n 0, 1) := qdJ0_init_db425_0_24.2.2.2.2.2.2.2.2.2.2.2.1
theorem dJ0_init_db425_23 : decode cJ0_init_db425 23 = .ok (.iconst 0, 1) := qdJ0_init_db425_0_24.2.2.2.2.2.2.2.2.2.2.2.2.1
theorem dJ0_init_db425_24 : decode cJ0_init_db425 24 = .ok (.putfield 15, 3) := qdJ0_init_db425_0_24.2.2.2.2.2.2.2.2.2.2.2.2.2.1
theorem dJ0_init_db425_27 : decode cJ0_init_db425 27 = .ok (.aload_n 0, 1) := qdJ0_init_db425_0_24.2.2.2.2.2.2.2.2.2.2.2.2.2.2.1
theorem dJ0_init_db425_28 : decode cJ0_init_db425 28 = .ok (.aload_n 3, 1) := qdJ0_init_db425_0_24.2.2.2.2.2.2.2.2.2.2.2.2.2.2.2.1
theorem dJ0_init_db425_29 : decode cJ0_init_db425 29 = .ok (.iconst 0, 1) := qdJ0_init_db425_0_24.2.2.2.2.2.2.2.2.2.2.2.2.2.2.2.2.1
theorem dJ0_init_db425_30 : decode cJ0_init_db425 30 = .ok (.iload 4, 2) := qdJ0_init_db425_0_24.2.2.2.2.2.2.2.2.2.2.2.2.2.2.2.2.2.1
theorem dJ0_init_db425_32 : decode cJ0_init_db425 32 = .ok (.invokestatic 54, 3) := qdJ0_init_db425_0_24.2.2.2.2.2.2.2.2.2.2.2.2.2.2.2.2.2.2.1
theorem dJ0_init_db425_35 : decode cJ0_init_db425 35 = .ok (.putfield 9, 3) := qdJ0_init_db425_0_24.2.2.2.2.2.2.2.2.2.2.2.2.2.2.2.2.2.2.2.1
theorem dJ0_init_db425_38 : decode cJ0_init_db425 38 = .ok (.goto 59, 3) := qdJ0_init_db425_0_24.2.2.2.2.2.2.2.2.2.2.2.2.2.2.2.2.2.2.2.2.1
theorem dJ0_init_db425_41 : decode cJ0_init_db425 41 = .ok (.getstatic 38, 3) := qdJ0_init_db425_0_24.2.2.2.2.2.2.2.2.2.2.2.2.2.2.2.2.2.2.2.2.2.1
theorem dJ0_init_db425_44 : decode cJ0_init_db425 44 = .ok (.ifCond .eq 35, 3) := qdJ0_init_db425_0_24.2.2.2.2.2.2.2.2.2.2.2.2.2.2.2.2.2.2.2.2.2.2.1
theorem dJ0_init_db425_47 : decode cJ0_init_db425 47 = .ok (.aload_n 1, 1) := qdJ0_init_db425_0_24.2.2.2.2.2.2.2.2.2.2.2.2.2.2.2.2.2.2.2.2.2.2.2.1
theorem qdJ0_init_db425_48_24 : dcAll cJ0_init_db425 [(48, .getfield 1048, 3), (51, .ifCond .eq 28, 3), (54, .aload_n 0, 1), (55, .aload_n 3, 1), (56, .iconst 0, 1), (57, .iload 4, 2), (59, .invokestatic 1051, 3), (62, .putfield 9, 3), (65, .aload_n 0, 1), (66, .aload_n 0, 1), (67, .getfield 9, 3), (70, .iload 4, 2), (72, .invokestatic 47, 3), (75, .putfield 15, 3), (78, .return_, 1), (79, .aload_n 0, 1), (80, .iconst 1, 1), (81, .putfield 15, 3), (84, .aload_n 0, 1), (85, .aload_n 3, 1), (86, .iconst 0, 1), (87, .iload 4, 2), (89, .iconst 1, 1), (90, .ishl, 1)] := dcAll_of (by decide +kernel)
theorem dJ0_init_db425_48 : decode cJ0_init_db425 48 = .ok (.getfield 1048, 3) := qdJ0_init_db425_48_24.1
theorem dJ0_init_db425_51 : decode cJ0_init_db425 51 = .ok (.ifCond .eq 28, 3) := qdJ0_init_db425_48_24.2.1
theorem dJ0_init_db425_54 : decode cJ0_init_db425 54 = .ok (.aload_n 0, 1) := qdJ0_init_db425_48_24.2.2.1
theorem dJ0_init_db425_55 : decode cJ0_init_db425 55 = .ok (.aload_n 3, 1) := qdJ0_init_db425_48_24.2.2.2.1
theorem dJ0_init_db425_56 : decode cJ0_init_db425 56 = .ok (.iconst 0, 1) := qdJ0_init_db425_48_24.2.2.2.2.1
theorem dJ0_init_db425_57 : decode cJ0_init_db425 57 = .ok (.iload 4, 2) := qdJ0_init_db425_48_24.2.2.2.2.2.1
theorem dJ0_init_db425_59 : decode cJ0_init_db425 59 = .ok (.invokestatic 1051, 3) := qdJ0_init_db425_48_24.2.2.2.2.2.2.1
theorem dJ0_init_db425_62 : decode cJ0_init_db425 62 = .ok (.putfield 9, 3) := qdJ0_init_db425_48_24.2.2.2.2.2.2.2.1
theorem dJ0_init_db425_65 : decode cJ0_init_db425 65 = .ok (.aload_n 0, 1) := qdJ0_init_db425_48_24.2.2.2.2.2.2.2.2.1
theorem dJ0_init_db425_66 : decode cJ0_init_db425 66 = .ok (.aload_n 0, 1) := qdJ0_init_db425_48_24.2.2.2.2.2.2.2.2.2.1
theorem dJ0_init_db425_67 : decode cJ0_init_db425 67 = .ok (.getfield 9, 3) := qdJ0_init_db425_48_24.2.2.2.2.2.2.2.2.2.2.1
theorem dJ0_init_db425_70 : decode cJ0_init_db425 70 = .ok (.iload 4, 2) := qdJ0_init_db425_48_24.2.2.2.2.2.2.2.2.2.2.2.1
theorem dJ0_init_db425_72 : decode cJ0_init_db425 72 = .ok (.invokestatic 47, 3) := qdJ0_init_db425_48_24.2.2.2.2.2.2.2.2.2.2.2.2.1
theorem dJ0_init_db425_75 : decode cJ0_init_db425 75 = .ok (.putfield 15, 3) := qdJ0_init_db425_48_24.2.2.2.2.2.2.2.2.2.2.2.2.2.1
theorem dJ0_init_db425_78 : decode cJ0_init_db425 78 = .ok (.return_, 1) := qdJ0_init_db425_48_24.2.2.2.2.2.2.2.2.2.2.2.2.2.2.1
theorem dJ0_init_db425_79 : decode cJ0_init_db425 79 = .ok (.aload_n 0, 1) := qdJ0_init_db425_48_24.2.2.2.2.2.2.2.2.2.2.2.2.2.2.2.1
theorem dJ0_init_db425_80 : decode cJ0_init_db425 80 = .ok (.iconst 1, 1) := qdJ0_init_db425_48_24.2.2.2.2.2.2.2.2.2.2.2.2.2.2.2.2.1
theorem dJ0_init_db425_81 : decode cJ0_init_db425 81 = .ok (.putfield 15, 3) := qdJ0_init_db425_48_24.2.2.2.2.2.2.2.2.2.2.2.2.2.2.2.2.2.1
theorem dJ0_init_db425_84 : decode cJ0_init_db425 84 = .ok (.aload_n 0, 1) := qdJ0_init_db425_48_24.2.2.2.2.2.2.2.2.2.2.2.2.2.2.2.2.2.2.1
theorem dJ0_init_db425_85 : decode cJ0_init_db425 85 = .ok (.aload_n 3, 1) := qdJ0_init_db425_48_24.2.2.2.2.2.2.2.2.2.2.2.2.2.2.2.2.2.2.2.1
theorem dJ0_init_db425_86 : decode cJ0_init_db425 86 = .ok (.iconst 0, 1) := qdJ0_init_db425_48_24.2.2.2.2.2.2.2.2.2.2.2.2.2.2.2.2.2.2.2.2.1
theorem dJ0_init_db425_87 : decode cJ0_init_db425 87 = .ok (.iload 4, 2) := qdJ0_init_db425_48_24.2.2.2.2.2.2.2.2.2.2.2.2.2.2.2.2.2.2.2.2.2.1
theorem dJ0_init_db425_89 : decode cJ0_init_db425 89 = .ok (.iconst 1, 1) := qdJ0_init_db425_48_24.2.2.2.2.2.2.2.2.2.2.2.2.2.2.2.2.2.2.2.2.2.2.1
theorem dJ0_init_db425_90 : decode cJ0_init_db425 90 = .ok (.ishl, 1) := qdJ0_init_db425_48_24.2.2.2.2.2.2.2.2.2.2.2.2.2.2.2.2.2.2.2.2.2.2.2.1
theorem qdJ0_init_db425_91_3 : dcAll cJ0_init_db425 [(91, .invokestatic 54, 3), (94, .putfield 9, 3), (97, .return_, 1)] := dcAll_of (by decide +kernel)
theorem dJ0_init_db425_91 : decode cJ0_init_db425 91 = .ok (.invokestatic 54, 3) := qdJ0_init_db425_91_3.1
theorem dJ0_init_db425_94 : decode cJ0_init_db425 94 = .ok (.putfield 9, 3) := qdJ0_init_db425_91_3.2.1
theorem dJ0_init_db425_97 : decode cJ0_init_db425 97 = .ok (.return_, 1) := qdJ0_init_db425_91_3.2.2.1
theorem qdJ0_coder_7d493_0_7 : dcAll cJ0_coder_7d493 [(0, .getstatic 38, 3), (3, .ifCond .eq 10, 3), (6, .aload_n 0, 1), (7, .getfield 15, 3), (10, .goto 4, 3), (13, .iconst 1, 1), (14, .ireturn, 1)] := dcAll_of (by decide +kernel)
theorem dJ0_coder_7d493_0 : decode cJ0_coder_7d493 0 = .ok (.getstatic 38, 3) := qdJ0_coder_7d493_0_7.1
theorem dJ0_coder_7d493_3 : decode cJ0_coder_7d493 3 = .ok (.ifCond .eq 10, 3) := qdJ0_coder_7d493_0_7.2.1
theorem dJ0_coder_7d493_6 : decode cJ0_coder_7d493 6 = .ok (.aload_n 0, 1) := qdJ0_coder_7d493_0_7.2.2.1
theorem dJ0_coder_7d493_7 : decode cJ0_coder_7d493 7 = .ok (.getfield 15, 3) := qdJ0_coder_7d493_0_7.2.2.2.1
theorem dJ0_coder_7d493_10 : decode cJ0_coder_7d493 10 = .ok (.goto 4, 3) := qdJ0_coder_7d493_0_7.2.2.2.2.1
theorem dJ0_coder_7d493_13 : decode cJ0_coder_7d493 13 = .ok (.iconst 1, 1) := qdJ0_coder_7d493_0_7.2.2.2.2.2.1
theorem dJ0_coder_7d493_14 : decode cJ0_coder_7d493 14 = .ok (.ireturn, 1) := qdJ0_coder_7d493_0_7.2.2.2.2.2.2.1
set_option maxRecDepth 20000 in
theorem ggJ0_checkIndex_df160_J3_checkIndex_8e157 : GoodIn wsJ0_checkIndex_df160 wsJ3_checkIndex_8e157 := goodIn_r _ [5] rfl (by decide +kernel)
set_option maxRecDepth 20000 in
theorem gJ0_checkIndex_df160_J3_checkIndex_8e157 : GoodIn wsJ0_checkIndex_df160 (va_wsS RJ0 1059 yJ3_checkIndex_8e157 wsJ3_checkIndex_8e157) := goodIn_app (goodIn_r _ [2, 3, 4] rfl rfl) ggJ0_checkIndex_df160_J3_checkIndex_8e157
theorem qdJ0_checkIndex_df160_0_6 : dcAll cJ0_checkIndex_df160 [(0, .iload_n 0, 1), (1, .iload_n 1, 1), (2, .getstatic 1053, 3), (5, .invokestatic 1059, 3), (8, .pop, 1), (9, .return_, 1)] := dcAll_of (by decide +kernel)
theorem dJ0_checkIndex_df160_0 : decode cJ0_checkIndex_df160 0 = .ok (.iload_n 0, 1) := qdJ0_checkIndex_df160_0_6.1
theorem dJ0_checkIndex_df160_1 : decode cJ0_checkIndex_df160 1 = .ok (.iload_n 1, 1) := qdJ0_checkIndex_df160_0_6.2.1
theorem dJ0_checkIndex_df160_2 : decode cJ0_checkIndex_df160 2 = .ok (.getstatic 1053, 3) := qdJ0_checkIndex_df160_0_6.2.2.1
theorem dJ0_checkIndex_df160_5 : decode cJ0_checkIndex_df160 5 = .ok (.invokestatic 1059, 3) := qdJ0_checkIndex_df160_0_6.2.2.2.1
theorem dJ0_checkIndex_df160_8 : decode cJ0_checkIndex_df160 8 = .ok (.pop, 1) := qdJ0_checkIndex_df160_0_6.2.2.2.2.1
theorem dJ0_checkIndex_df160_9 : decode cJ0_checkIndex_df160 9 = .ok (.return_, 1) := qdJ0_checkIndex_df160_0_6.2.2.2.2.2.1
set_option maxRecDepth 20000 in
theorem ggJ0_checkOffset_df160_J3_checkFromToIndex_8c36e : GoodIn wsJ0_checkOffset_df160 wsJ3_checkFromToIndex_8c36e := goodIn_r _ [5] rfl (by decide +kernel)
set_option maxRecDepth 20000 in
theorem gJ0_checkOffset_df160_J3_checkFromToIndex_8c36e : GoodIn wsJ0_checkOffset_df160 (va_wsS RJ0 1062 yJ3_checkFromToIndex_8c36e wsJ3_checkFromToIndex_8c36e) := goodIn_app (goodIn_r _ [2, 3, 4] rfl rfl) ggJ0_checkOffset_df160_J3_checkFromToIndex_8c36e
theorem qdJ0_checkOffset_df160_0_7 : dcAll cJ0_checkOffset_df160 [(0, .iload_n 0, 1), (1, .iload_n 1, 1), (2, .iload_n 1, 1), (3, .getstatic 1053, 3), (6, .invokestatic 1062, 3), (9, .pop, 1), (10, .return_, 1)] := dcAll_of (by decide +kernel)
theorem dJ0_checkOffset_df160_0 : decode cJ0_checkOffset_df160 0 = .ok (.iload_n 0, 1) := qdJ0_checkOffset_df160_0_7.1
theorem dJ0_checkOffset_df160_1 : decode cJ0_checkOffset_df160 1 = .ok (.iload_n 1, 1) := qdJ0_checkOffset_df160_0_7.2.1
theorem dJ0_checkOffset_df160_2 : decode cJ0_checkOffset_df160 2 = .ok (.iload_n 1, 1) := qdJ0_checkOffset_df160_0_7.2.2.1
theorem dJ0_checkOffset_df160_3 : decode cJ0_checkOffset_df160 3 = .ok (.getstatic 1053, 3) := qdJ0_checkOffset_df160_0_7.2.2.2.1
theorem dJ0_checkOffset_df160_6 : decode cJ0_checkOffset_df160 6 = .ok (.invokestatic 1062, 3) := qdJ0_checkOffset_df160_0_7.2.2.2.2.1
theorem dJ0_checkOffset_df160_9 : decode cJ0_checkOffset_df160 9 = .ok (.pop, 1) := qdJ0_checkOffset_df160_0_7.2.2.2.2.2.1
theorem dJ0_checkOffset_df160_10 : decode cJ0_checkOffset_df160 10 = .ok (.return_, 1) := qdJ0_checkOffset_df160_0_7.2.2.2.2.2.2.1
set_option maxRecDepth 20000 in
theorem ggJ0_checkBoundsOffCount_cabcc_J3_checkFromIndexSize_8c36e : GoodIn wsJ0_checkBoundsOffCount_cabcc wsJ3_checkFromIndexSize_8c36e := goodIn_r _ [5] rfl (by decide +kernel)
set_option maxRecDepth 20000 in
theorem gJ0_checkBoundsOffCount_cabcc_J3_checkFromIndexSize_8c36e : GoodIn wsJ0_checkBoundsOffCount_cabcc (va_wsS RJ0 1065 yJ3_checkFromIndexSize_8c36e wsJ3_checkFromIndexSize_8c36e) := goodIn_app (goodIn_r _ [2, 3, 4] rfl rfl) ggJ0_checkBoundsOffCount_cabcc_J3_checkFromIndexSize_8c36e
theorem qdJ0_checkBoundsOffCount_cabcc_0_6 : dcAll cJ0_checkBoundsOffCount_cabcc [(0, .iload_n 0, 1), (1, .iload_n 1, 1), (2, .iload_n 2, 1), (3, .getstatic 1053, 3), (6, .invokestatic 1065, 3), (9, .ireturn, 1)] := dcAll_of (by decide +kernel)
theorem dJ0_checkBoundsOffCount_cabcc_0 : decode cJ0_checkBoundsOffCount_cabcc 0 = .ok (.iload_n 0, 1) := qdJ0_checkBoundsOffCount_cabcc_0_6.1
theorem dJ0_checkBoundsOffCount_cabcc_1 : decode cJ0_checkBoundsOffCount_cabcc 1 = .ok (.iload_n 1, 1) := qdJ0_checkBoundsOffCount_cabcc_0_6.2.1
theorem dJ0_checkBoundsOffCount_cabcc_2 : decode cJ0_checkBoundsOffCount_cabcc 2 = .ok (.iload_n 2, 1) := qdJ0_checkBoundsOffCount_cabcc_0_6.2.2.1
theorem dJ0_checkBoundsOffCount_cabcc_3 : decode cJ0_checkBoundsOffCount_cabcc 3 = .ok (.getstatic 1053, 3) := qdJ0_checkBoundsOffCount_cabcc_0_6.2.2.2.1
theorem dJ0_checkBoundsOffCount_cabcc_6 : decode cJ0_checkBoundsOffCount_cabcc 6 = .ok (.invokestatic 1065, 3) := qdJ0_checkBoundsOffCount_cabcc_0_6.2.2.2.2.1
theorem dJ0_checkBoundsOffCount_cabcc_9 : decode cJ0_checkBoundsOffCount_cabcc 9 = .ok (.ireturn, 1) := qdJ0_checkBoundsOffCount_cabcc_0_6.2.2.2.2.2.1
set_option maxRecDepth 20000 in
theorem ggJ0_checkBoundsBeginEnd_23922_J3_checkFromToIndex_8c36e : GoodIn wsJ0_checkBoundsBeginEnd_23922 wsJ3_checkFromToIndex_8c36e := goodIn_r _ [5] rfl (by decide +kernel)
set_option maxRecDepth 20000 in
theorem gJ0_checkBoundsBeginEnd_23922_J3_checkFromToIndex_8c36e : GoodIn wsJ0_checkBoundsBeginEnd_23922 (va_wsS RJ0 1062 yJ3_checkFromToIndex_8c36e wsJ3_checkFromToIndex_8c36e) := goodIn_app (goodIn_r _ [2, 3, 4] rfl rfl) ggJ0_checkBoundsBeginEnd_23922_J3_checkFromToIndex_8c36e
theorem qdJ0_checkBoundsBeginEnd_23922_0_7 : dcAll cJ0_checkBoundsBeginEnd_23922 [(0, .iload_n 0, 1), (1, .iload_n 1, 1), (2, .iload_n 2, 1), (3, .getstatic 1053, 3), (6, .invokestatic 1062, 3), (9, .pop, 1), (10, .return_, 1)] := dcAll_of (by decide +kernel)
theorem dJ0_checkBoundsBeginEnd_23922_0 : decode cJ0_checkBoundsBeginEnd_23922 0 = .ok (.iload_n 0, 1) := qdJ0_checkBoundsBeginEnd_23922_0_7.1
theorem dJ0_checkBoundsBeginEnd_23922_1 : decode cJ0_checkBoundsBeginEnd_23922 1 = .ok (.iload_n 1, 1) := qdJ0_checkBoundsBeginEnd_23922_0_7.2.1
theorem dJ0_checkBoundsBeginEnd_23922_2 : decode cJ0_checkBoundsBeginEnd_23922 2 = .ok (.iload_n 2, 1) := qdJ0_checkBoundsBeginEnd_23922_0_7.2.2.1
theorem dJ0_checkBoundsBeginEnd_23922_3 : decode cJ0_checkBoundsBeginEnd_23922 3 = .ok (.getstatic 1053, 3) := qdJ0_checkBoundsBeginEnd_23922_0_7.2.2.2.1
theorem dJ0_checkBoundsBeginEnd_23922_6 : decode cJ0_checkBoundsBeginEnd_23922 6 = .ok (.invokestatic 1062, 3) := qdJ0_checkBoundsBeginEnd_23922_0_7.2.2.2.2.1
theorem dJ0_checkBoundsBeginEnd_23922_9 : decode cJ0_checkBoundsBeginEnd_23922 9 = .ok (.pop, 1) := qdJ0_checkBoundsBeginEnd_23922_0_7.2.2.2.2.2.1
theorem dJ0_checkBoundsBeginEnd_23922_10 : decode cJ0_checkBoundsBeginEnd_23922 10 = .ok (.return_, 1) := qdJ0_checkBoundsBeginEnd_23922_0_7.2.2.2.2.2.2.1
set_option maxRecDepth 20000 in
theorem ggJ4_init_da8c8_J5_init_d00df : GoodIn wsJ4_init_da8c8 wsJ5_init_d00df := goodIn_r _ [4, 5, 6, 7, 8, 9, 10, 11, 12, 13, 14, 15, 16, 17, 18, 19, 20, 21, 22, 23] rfl (by decide +kernel)
set_option maxRecDepth 20000 in
theorem gJ4_init_da8c8_J5_init_d00df : GoodIn wsJ4_init_da8c8 (wsJ5_init_d00df) := ggJ4_init_da8c8_J5_init_d00df
theorem qdJ4_init_da8c8_0_4 : dcAll cJ4_init_da8c8 [(0, .aload_n 0, 1), (1, .bipush 16, 2), (3, .invokespecial 1, 3), (6, .return_, 1)] := dcAll_of (by decide +kernel)
theorem dJ4_init_da8c8_0 : decode cJ4_init_da8c8 0 = .ok (.aload_n 0, 1) := qdJ4_init_da8c8_0_4.1
theorem dJ4_init_da8c8_1 : decode cJ4_init_da8c8 1 = .ok (.bipush 16, 2) := qdJ4_init_da8c8_0_4.2.1
theorem dJ4_init_da8c8_3 : decode cJ4_init_da8c8 3 = .ok (.invokespecial 1, 3) := qdJ4_init_da8c8_0_4.2.2.1
theorem dJ4_init_da8c8_6 : decode cJ4_init_da8c8 6 = .ok (.return_, 1) := qdJ4_init_da8c8_0_4.2.2.2.1
set_option maxRecDepth 20000 in
theorem ggJ4_append_15ec4_J5_append_cf1ce : GoodIn wsJ4_append_15ec4 wsJ5_append_cf1ce := goodIn_r _ [6, 7, 8, 9, 10, 11, 5, 12, 13, 14, 15, 16, 17, 18, 19, 20, 21, 22, 23, 24, 25, 26, 27, 28, 29, 30, 31, 32, 33, 34, 35, 36, 37, 38, 39, 40, 41, 42, 43, 44, 45, 46, 47, 48, 49, 50, 51, 52, 53, 54, 55, 56, 57, 58, 59, 60, 61, 62, 63, 64, 65, 66, 67, 68, 69, 70, 71, 72, 73, 74, 75, 76, 77, 78, 79, 80, 81, 82, 83, 84, 85, 86, 87, 88, 89, 90, 91, 92, 93, 94, 95, 96, 97, 98, 99, 100, 101, 102, 103, 104, 105, 106, 107, 108, 109, 110, 111, 112, 113, 114, 115, 116, 117, 118, 119, 120, 121, 122, 123, 124, 125, 126, 127, 128, 129, 130, 131, 132, 133, 134, 135, 136, 137, 138, 139, 140, 141, 142, 143, 144, 145, 146, 147, 148, 149, 150] rfl (by decide +kernel)
set_option maxRecDepth 20000 in
theorem gJ4_append_15ec4_J5_append_cf1ce_s29 : GoodIn wsJ4_append_15ec4 (va_wsSU RJ4 29 yJ5_append_cf1ce wsJ5_append_cf1ce) := goodIn_app (goodIn_of _ (by decide +kernel)) ggJ4_append_15ec4_J5_append_cf1ce
theorem qdJ4_append_15ec4_0_6 : dcAll cJ4_append_15ec4 [(0, .aload_n 0, 1), (1, .aload_n 1, 1), (2, .invokespecial 29, 3), (5, .pop, 1), (6, .aload_n 0, 1), (7, .areturn, 1)] := dcAll_of (by decide +kernel)
theorem dJ4_append_15ec4_0 : decode cJ4_append_15ec4 0 = .ok (.aload_n 0, 1) := qdJ4_append_15ec4_0_6.1
theorem dJ4_append_15ec4_1 : decode cJ4_append_15ec4 1 = .ok (.aload_n 1, 1) := qdJ4_append_15ec4_0_6.2.1
theorem dJ4_append_15ec4_2 : decode cJ4_append_15ec4 2 = .ok (.invokespecial 29, 3) := qdJ4_append_15ec4_0_6.2.2.1
theorem dJ4_append_15ec4_5 : decode cJ4_append_15ec4 5 = .ok (.pop, 1) := qdJ4_append_15ec4_0_6.2.2.2.1
theorem dJ4_append_15ec4_6 : decode cJ4_append_15ec4 6 = .ok (.aload_n 0, 1) := qdJ4_append_15ec4_0_6.2.2.2.2.1
theorem dJ4_append_15ec4_7 : decode cJ4_append_15ec4 7 = .ok (.areturn, 1) := qdJ4_append_15ec4_0_6.2.2.2.2.2.1
set_option maxRecDepth 20000 in
theorem ggJ4_append_cf468_J5_append_3fe6f : GoodIn wsJ4_append_cf468 wsJ5_append_3fe6f := goodIn_r _ [6, 7, 8, 9, 10, 11, 12, 5, 13, 14, 15, 16, 17, 18, 19, 20, 21, 22, 23, 24, 25, 26, 27, 28, 29, 30, 31, 32, 33, 34, 35, 36, 37, 38, 39, 40, 41, 42, 43, 44, 45, 46, 47, 48, 49, 50, 51, 52, 53, 54, 55, 56, 57, 58, 59, 60, 61, 62, 63, 64, 65, 66, 67, 68, 69, 70, 71, 72, 73, 74, 75, 76, 77, 78, 79, 80, 81, 82, 83, 84, 85, 86, 87, 88, 89, 90, 91, 92, 93, 94, 95, 96, 97, 98, 99, 100, 101, 102, 103, 104, 105, 106, 107, 108, 109, 110, 111, 112, 113, 114, 115, 116] rfl (by decide +kernel)
set_option maxRecDepth 20000 in
theorem gJ4_append_cf468_J5_append_3fe6f_s50 : GoodIn wsJ4_append_cf468 (va_wsSU RJ4 50 yJ5_append_3fe6f wsJ5_append_3fe6f) := goodIn_app (goodIn_of _ (by decide +kernel)) ggJ4_append_cf468_J5_append_3fe6f
theorem qdJ4_append_cf468_0_6 : dcAll cJ4_append_cf468 [(0, .aload_n 0, 1), (1, .iload_n 1, 1), (2, .invokespecial 50, 3), (5, .pop, 1), (6, .aload_n 0, 1), (7, .areturn, 1)] := dcAll_of (by decide +kernel)
theorem dJ4_append_cf468_0 : decode cJ4_append_cf468 0 = .ok (.aload_n 0, 1) := qdJ4_append_cf468_0_6.1
theorem dJ4_append_cf468_1 : decode cJ4_append_cf468 1 = .ok (.iload_n 1, 1) := qdJ4_append_cf468_0_6.2.1
theorem dJ4_append_cf468_2 : decode cJ4_append_cf468 2 = .ok (.invokespecial 50, 3) := qdJ4_append_cf468_0_6.2.2.1
theorem dJ4_append_cf468_5 : decode cJ4_append_cf468 5 = .ok (.pop, 1) := qdJ4_append_cf468_0_6.2.2.2.1
theorem dJ4_append_cf468_6 : decode cJ4_append_cf468 6 = .ok (.aload_n 0, 1) := qdJ4_append_cf468_0_6.2.2.2.2.1
theorem dJ4_append_cf468_7 : decode cJ4_append_cf468 7 = .ok (.areturn, 1) := qdJ4_append_cf468_0_6.2.2.2.2.2.1
set_option maxRecDepth 20000 in
theorem ggJ4_append_bf812_J5_append_c97b9 : GoodIn wsJ4_append_bf812 wsJ5_append_c97b9 := goodIn_r _ [6, 7, 8, 9, 10, 11, 12, 13, 14, 15, 16, 5, 17, 18, 19, 20, 21, 22, 23, 24, 25, 26, 27, 28, 29, 30, 31, 32, 33, 34, 35, 36, 37, 38, 39, 40, 41, 42, 43, 44, 45, 46, 47, 48, 49, 50, 51, 52, 53, 54, 55, 56, 57, 58, 59, 60, 61, 62, 63, 64, 65, 66, 67, 68, 69, 70, 71, 72, 73, 74, 75, 76, 77, 78, 79, 80, 81, 82, 83, 84, 85, 86, 87, 88, 89, 90, 91, 92, 93, 94, 95, 96, 97, 98, 99] rfl (by decide +kernel)
set_option maxRecDepth 20000 in
theorem gJ4_append_bf812_J5_append_c97b9_s53 : GoodIn wsJ4_append_bf812 (va_wsSU RJ4 53 yJ5_append_c97b9 wsJ5_append_c97b9) := goodIn_app (goodIn_of _ (by decide +kernel)) ggJ4_append_bf812_J5_append_c97b9
theorem qdJ4_append_bf812_0_6 : dcAll cJ4_append_bf812 [(0, .aload_n 0, 1), (1, .iload_n 1, 1), (2, .invokespecial 53, 3), (5, .pop, 1), (6, .aload_n 0, 1), (7, .areturn, 1)] := dcAll_of (by decide +kernel)
theorem dJ4_append_bf812_0 : decode cJ4_append_bf812 0 = .ok (.aload_n 0, 1) := qdJ4_append_bf812_0_6.1
theorem dJ4_append_bf812_1 : decode cJ4_append_bf812 1 = .ok (.iload_n 1, 1) := qdJ4_append_bf812_0_6.2.1
theorem dJ4_append_bf812_2 : decode cJ4_append_bf812 2 = .ok (.invokespecial 53, 3) := qdJ4_append_bf812_0_6.2.2.1
theorem dJ4_append_bf812_5 : decode cJ4_append_bf812 5 = .ok (.pop, 1) := qdJ4_append_bf812_0_6.2.2.2.1
theorem dJ4_append_bf812_6 : decode cJ4_append_bf812 6 = .ok (.aload_n 0, 1) := qdJ4_append_bf812_0_6.2.2.2.2.1
theorem dJ4_append_bf812_7 : decode cJ4_append_bf812 7 = .ok (.areturn, 1) := qdJ4_append_bf812_0_6.2.2.2.2.2.1
set_option maxRecDepth 20000 in
theorem ggJ4_append_f7089_J5_append_66267 : GoodIn wsJ4_append_f7089 wsJ5_append_66267 := goodIn_r _ [6, 7, 8, 9, 10, 11, 12, 13, 14, 15, 16, 17, 18, 5, 19, 20, 21, 22, 23, 24, 25, 26, 27, 28, 29, 30, 31, 32, 33, 34, 35, 36, 37, 38, 39, 40, 41, 42, 43, 44, 45, 46, 47, 48, 49, 50, 51, 52, 53, 54, 55, 56, 57, 58, 59, 60, 61, 62, 63, 64, 65, 66, 67, 68, 69, 70, 71, 72, 73, 74, 75, 76, 77, 78, 79, 80, 81, 82, 83, 84, 85, 86, 87, 88, 89, 90, 91, 92, 93, 94, 95, 96, 97, 98, 99, 100, 101, 102, 103, 104, 105] rfl (by decide +kernel)
set_option maxRecDepth 20000 in
theorem gJ4_append_f7089_J5_append_66267_s56 : GoodIn wsJ4_append_f7089 (va_wsSU RJ4 56 yJ5_append_66267 wsJ5_append_66267) := goodIn_app (goodIn_of _ (by decide +kernel)) ggJ4_append_f7089_J5_append_66267
theorem qdJ4_append_f7089_0_6 : dcAll cJ4_append_f7089 [(0, .aload_n 0, 1), (1, .lload_n 1, 1), (2, .invokespecial 56, 3), (5, .pop, 1), (6, .aload_n 0, 1), (7, .areturn, 1)] := dcAll_of (by decide +kernel)
theorem dJ4_append_f7089_0 : decode cJ4_append_f7089 0 = .ok (.aload_n 0, 1) := qdJ4_append_f7089_0_6.1
theorem dJ4_append_f7089_1 : decode cJ4_append_f7089 1 = .ok (.lload_n 1, 1) := qdJ4_append_f7089_0_6.2.1
theorem dJ4_append_f7089_2 : decode cJ4_append_f7089 2 = .ok (.invokespecial 56, 3) := qdJ4_append_f7089_0_6.2.2.1
theorem dJ4_append_f7089_5 : decode cJ4_append_f7089 5 = .ok (.pop, 1) := qdJ4_append_f7089_0_6.2.2.2.1
theorem dJ4_append_f7089_6 : decode cJ4_append_f7089 6 = .ok (.aload_n 0, 1) := qdJ4_append_f7089_0_6.2.2.2.2.1
theorem dJ4_append_f7089_7 : decode cJ4_append_f7089 7 = .ok (.areturn, 1) := qdJ4_append_f7089_0_6.2.2.2.2.2.1
set_option maxRecDepth 20000 in
theorem ggJ4_reverse_43fcb_J5_reverse_278bc : GoodIn wsJ4_reverse_43fcb wsJ5_reverse_278bc := goodIn_r _ [6, 7, 8, 9, 10, 11, 12, 5, 13, 14, 15, 16, 17, 18, 19, 20, 21, 22, 23, 24, 25, 26, 27, 28, 29, 30, 31, 32, 33, 34, 35, 36, 37, 38, 39, 40, 41, 42, 43, 44, 45, 46, 47, 48, 49, 50, 51, 52, 53, 54, 55, 56, 57, 58, 59, 60, 61, 62, 63] rfl (by decide +kernel)
set_option maxRecDepth 20000 in
theorem gJ4_reverse_43fcb_J5_reverse_278bc_s127 : GoodIn wsJ4_reverse_43fcb (va_wsSU RJ4 127 yJ5_reverse_278bc wsJ5_reverse_278bc) := goodIn_app (goodIn_of _ (by decide +kernel)) ggJ4_reverse_43fcb_J5_reverse_278bc
theorem qdJ4_reverse_43fcb_0_5 : dcAll cJ4_reverse_43fcb [(0, .aload_n 0, 1), (1, .invokespecial 127, 3), (4, .pop, 1), (5, .aload_n 0, 1), (6, .areturn, 1)] := dcAll_of (by decide +kernel)
theorem dJ4_reverse_43fcb_0 : decode cJ4_reverse_43fcb 0 = .ok (.aload_n 0, 1) := qdJ4_reverse_43fcb_0_5.1
theorem dJ4_reverse_43fcb_1 : decode cJ4_reverse_43fcb 1 = .ok (.invokespecial 127, 3) := qdJ4_reverse_43fcb_0_5.2.1
theorem dJ4_reverse_43fcb_4 : decode cJ4_reverse_43fcb 4 = .ok (.pop, 1) := qdJ4_reverse_43fcb_0_5.2.2.1
theorem dJ4_reverse_43fcb_5 : decode cJ4_reverse_43fcb 5 = .ok (.aload_n 0, 1) := qdJ4_reverse_43fcb_0_5.2.2.2.1
theorem dJ4_reverse_43fcb_6 : decode cJ4_reverse_43fcb 6 = .ok (.areturn, 1) := qdJ4_reverse_43fcb_0_5.2.2.2.2.1
set_option maxRecDepth 20000 in
theorem ggJ4_toString_0e30d_J0_init_81219 : GoodIn wsJ4_toString_0e30d wsJ0_init_81219 := goodIn_r _ [6, 7, 8, 3, 9, 10, 11, 12, 13, 14, 15, 16, 17, 18, 19, 20, 21, 22, 23, 24, 25, 26, 27, 28, 29, 30, 31, 32, 33, 34, 35, 36, 37, 38, 39, 40, 41, 42, 43, 44, 45, 46, 47, 48, 49, 50, 51, 52, 53, 54, 55, 56, 57, 58, 59, 60, 61, 62, 63, 64, 65, 66, 67, 68, 69, 70, 71, 72, 73, 74, 75, 76, 77, 78, 79, 80, 81, 82, 83, 84, 85, 86, 87, 88, 89, 90, 91, 92, 93, 94, 95, 96, 97, 98, 99, 100, 101, 102, 103, 104, 105, 106, 107, 108, 109, 110, 111, 112] rfl (by decide +kernel)
set_option maxRecDepth 20000 in
theorem gJ4_toString_0e30d_J0_init_81219 : GoodIn wsJ4_toString_0e30d (wsJ0_init_81219) := ggJ4_toString_0e30d_J0_init_81219
theorem qdJ4_toString_0e30d_0_5 : dcAll cJ4_toString_0e30d [(0, .new 18, 3), (3, .dup, 1), (4, .aload_n 0, 1), (5, .invokespecial 137, 3), (8, .areturn, 1)] := dcAll_of (by decide +kernel)
theorem dJ4_toString_0e30d_0 : decode cJ4_toString_0e30d 0 = .ok (.new 18, 3) := qdJ4_toString_0e30d_0_5.1
theorem dJ4_toString_0e30d_3 : decode cJ4_toString_0e30d 3 = .ok (.dup, 1) := qdJ4_toString_0e30d_0_5.2.1
theorem dJ4_toString_0e30d_4 : decode cJ4_toString_0e30d 4 = .ok (.aload_n 0, 1) := qdJ4_toString_0e30d_0_5.2.2.1
theorem dJ4_toString_0e30d_5 : decode cJ4_toString_0e30d 5 = .ok (.invokespecial 137, 3) := qdJ4_toString_0e30d_0_5.2.2.2.1
theorem dJ4_toString_0e30d_8 : decode cJ4_toString_0e30d 8 = .ok (.areturn, 1) := qdJ4_toString_0e30d_0_5.2.2.2.2.1
set_option maxRecDepth 20000 in
theorem ggJ4_length_8abf5_J5_length_8abf5 : GoodIn wsJ4_length_8abf5 wsJ5_length_8abf5 := goodIn_r _ [6, 7, 8, 9, 10, 11] rfl (by decide +kernel)
set_option maxRecDepth 20000 in
theorem gJ4_length_8abf5_J5_length_8abf5_s343 : GoodIn wsJ4_length_8abf5 (va_wsSU RJ4 343 yJ5_length_8abf5 wsJ5_length_8abf5) := goodIn_app (goodIn_of _ (by decide +kernel)) ggJ4_length_8abf5_J5_length_8abf5
theorem qdJ4_length_8abf5_0_3 : dcAll cJ4_length_8abf5 [(0, .aload_n 0, 1), (1, .invokespecial 343, 3), (4, .ireturn, 1)] := dcAll_of (by decide +kernel)
theorem dJ4_length_8abf5_0 : decode cJ4_length_8abf5 0 = .ok (.aload_n 0, 1) := qdJ4_length_8abf5_0_3.1
theorem dJ4_length_8abf5_1 : decode cJ4_length_8abf5 1 = .ok (.invokespecial 343, 3) := qdJ4_length_8abf5_0_3.2.1
theorem dJ4_length_8abf5_4 : decode cJ4_length_8abf5 4 = .ok (.ireturn, 1) := qdJ4_length_8abf5_0_3.2.2.1
theorem qdJ1_canEncode_fc78d_0_7 : dcAll cJ1_canEncode_fc78d [(0, .iload_n 0, 1), (1, .sipush 255, 3), (4, .if_icmp .gt 7, 3), (7, .iconst 1, 1), (8, .goto 4, 3), (11, .iconst 0, 1), (12, .ireturn, 1)] := dcAll_of (by decide +kernel)
theorem dJ1_canEncode_fc78d_0 : decode cJ1_canEncode_fc78d 0 = .ok (.iload_n 0, 1) := qdJ1_canEncode_fc78d_0_7.1
theorem dJ1_canEncode_fc78d_1 : decode cJ1_canEncode_fc78d 1 = .ok (.sipush 255, 3) := qdJ1_canEncode_fc78d_0_7.2.1
theorem dJ1_canEncode_fc78d_4 : decode cJ1_canEncode_fc78d 4 = .ok (.if_icmp .gt 7, 3) := qdJ1_canEncode_fc78d_0_7.2.2.1
theorem dJ1_canEncode_fc78d_7 : decode cJ1_canEncode_fc78d 7 = .ok (.iconst 1, 1) := qdJ1_canEncode_fc78d_0_7.2.2.2.1
theorem dJ1_canEncode_fc78d_8 : decode cJ1_canEncode_fc78d 8 = .ok (.goto 4, 3) := qdJ1_canEncode_fc78d_0_7.2.2.2.2.1
theorem dJ1_canEncode_fc78d_11 : decode cJ1_canEncode_fc78d 11 = .ok (.iconst 0, 1) := qdJ1_canEncode_fc78d_0_7.2.2.2.2.2.1
theorem dJ1_canEncode_fc78d_12 : decode cJ1_canEncode_fc78d 12 = .ok (.ireturn, 1) := qdJ1_canEncode_fc78d_0_7.2.2.2.2.2.2.1
set_option maxRecDepth 20000 in
theorem ggJ1_inflate_0e8fd_J2_inflate_0e8fd : GoodIn wsJ1_inflate_0e8fd wsJ2_inflate_0e8fd := goodIn_r _ [4, 5, 6, 3, 7, 8, 9, 10, 11, 12, 13, 14, 15, 16, 17, 18, 19, 20, 21, 22, 23, 24, 25] rfl (by decide +kernel)
set_option maxRecDepth 20000 in
theorem gJ1_inflate_0e8fd_J2_inflate_0e8fd : GoodIn wsJ1_inflate_0e8fd (va_wsS RJ1 240 yJ2_inflate_0e8fd wsJ2_inflate_0e8fd) := goodIn_app (goodIn_r _ [1, 2, 3] rfl rfl) ggJ1_inflate_0e8fd_J2_inflate_0e8fd
theorem qdJ1_inflate_0e8fd_0_7 : dcAll cJ1_inflate_0e8fd [(0, .aload_n 0, 1), (1, .iload_n 1, 1), (2, .aload_n 2, 1), (3, .iload_n 3, 1), (4, .iload 4, 2), (6, .invokestatic 240, 3), (9, .return_, 1)] := dcAll_of (by decide +kernel)
theorem dJ1_inflate_0e8fd_0 : decode cJ1_inflate_0e8fd 0 = .ok (.aload_n 0, 1) := qdJ1_inflate_0e8fd_0_7.1
theorem dJ1_inflate_0e8fd_1 : decode cJ1_inflate_0e8fd 1 = .ok (.iload_n 1, 1) := qdJ1_inflate_0e8fd_0_7.2.1
theorem dJ1_inflate_0e8fd_2 : decode cJ1_inflate_0e8fd 2 = .ok (.aload_n 2, 1) := qdJ1_inflate_0e8fd_0_7.2.2.1
theorem dJ1_inflate_0e8fd_3 : decode cJ1_inflate_0e8fd 3 = .ok (.iload_n 3, 1) := qdJ1_inflate_0e8fd_0_7.2.2.2.1
theorem dJ1_inflate_0e8fd_4 : decode cJ1_inflate_0e8fd 4 = .ok (.iload 4, 2) := qdJ1_inflate_0e8fd_0_7.2.2.2.2.1
theorem dJ1_inflate_0e8fd_6 : decode cJ1_inflate_0e8fd 6 = .ok (.invokestatic 240, 3) := qdJ1_inflate_0e8fd_0_7.2.2.2.2.2.1
theorem dJ1_inflate_0e8fd_9 : decode cJ1_inflate_0e8fd 9 = .ok (.return_, 1) := qdJ1_inflate_0e8fd_0_7.2.2.2.2.2.2.1
set_option maxRecDepth 20000 in
theorem ggJ2_newBytesFor_77867_J2_newBytesLength_0f7a4 : GoodIn wsJ2_newBytesFor_77867 wsJ2_newBytesLength_0f7a4 := goodIn_r _ [5, 6] rfl (by decide +kernel)
set_option maxRecDepth 20000 in
theorem gJ2_newBytesFor_77867_J2_newBytesLength_0f7a4 : GoodIn wsJ2_newBytesFor_77867 (va_wsS RJ2 11 yJ2_newBytesLength_0f7a4 wsJ2_newBytesLength_0f7a4) := goodIn_app (goodIn_r _ [2, 3, 4] rfl rfl) ggJ2_newBytesFor_77867_J2_newBytesLength_0f7a4
theorem qdJ2_newBytesFor_77867_0_4 : dcAll cJ2_newBytesFor_77867 [(0, .iload_n 0, 1), (1, .invokestatic 11, 3), (4, .newarray .byte, 2), (6, .areturn, 1)] := dcAll_of (by decide +kernel)
theorem dJ2_newBytesFor_77867_0 : decode cJ2_newBytesFor_77867 0 = .ok (.iload_n 0, 1) := qdJ2_newBytesFor_77867_0_4.1
theorem dJ2_newBytesFor_77867_1 : decode cJ2_newBytesFor_77867 1 = .ok (.invokestatic 11, 3) := qdJ2_newBytesFor_77867_0_4.2.1
theorem dJ2_newBytesFor_77867_4 : decode cJ2_newBytesFor_77867 4 = .ok (.newarray .byte, 2) := qdJ2_newBytesFor_77867_0_4.2.2.1
theorem dJ2_newBytesFor_77867_6 : decode cJ2_newBytesFor_77867 6 = .ok (.areturn, 1) := qdJ2_newBytesFor_77867_0_4.2.2.2.1
theorem qdJ2_newBytesLength_0f7a4_0_24 : dcAll cJ2_newBytesLength_0f7a4 [(0, .iload_n 0, 1), (1, .ifCond .ge 11, 3), (4, .new 17, 3), (7, .dup, 1), (8, .invokespecial 19, 3), (11, .athrow, 1), (12, .iload_n 0, 1), (13, .ldc 20, 2), (15, .if_icmp .lt 40, 3), (18, .new 21, 3), (21, .dup, 1), (22, .new 23, 3), (25, .dup, 1), (26, .invokespecial 25, 3), (29, .ldc 26, 2), (31, .invokevirtual 28, 3), (34, .iload_n 0, 1), (35, .invokevirtual 32, 3), (38, .ldc 35, 2), (40, .invokevirtual 28, 3), (43, .ldc 20, 2), (45, .invokevirtual 32, 3), (48, .invokevirtual 37, 3), (51, .invokespecial 41, 3)] := dcAll_of (by decide +kernel)
theorem dJ2_newBytesLength_0f7a4_0 : decode cJ2_newBytesLength_0f7a4 0 = .ok (.iload_n 0, 1) := qdJ2_newBytesLength_0f7a4_0_24.1
theorem dJ2_newBytesLength_0f7a4_1 : decode cJ2_newBytesLength_0f7a4 1 = .ok (.ifCond .ge 11, 3) := qdJ2_newBytesLength_0f7a4_0_24.2.1
theorem dJ2_newBytesLength_0f7a4_4 : decode cJ2_newBytesLength_0f7a4 4 = .ok (.new 17, 3) := qdJ2_newBytesLength_0f7a4_0_24.2.2.1
theorem dJ2_newBytesLength_0f7a4_7 : decode cJ2_newBytesLength_0f7a4 7 = .ok (.dup, 1) := qdJ2_newBytesLength_0f7a4_0_24.2.2.2.1
theorem dJ2_newBytesLength_0f7a4_8 : decode cJ2_newBytesLength_0f7a4 8 = .ok (.invokespecial 19, 3) := qdJ2_newBytesLength_0f7a4_0_24.2.2.2.2.1
theorem dJ2_newBytesLength_0f7a4_11 : decode cJ2_newBytesLength_0f7a4 11 = .ok (.athrow, 1) := qdJ2_newBytesLength_0f7a4_0_24.2.2.2.2.2.1
theorem dJ2_newBytesLength_0f7a4_12 : decode cJ2_newBytesLength_0f7a4 12 = .ok (.iload_n 0, 1) := qdJ2_newBytesLength_0f7a4_0_24.2.2.2.2.2.2.1
theorem dJ2_newBytesLength_0f7a4_13 : decode cJ2_newBytesLength_0f7a4 13 = .ok (.ldc 20, 2) := qdJ2_newBytesLength_0f7a4_0_24.2.2.2.2.2.2.2.1
theorem dJ2_newBytesLength_0f7a4_15 : decode cJ2_newBytesLength_0f7a4 15 = .ok (.if_icmp .lt 40, 3) := qdJ2_newBytesLength_0f7a4_0_24.2.2.2.2.2.2.2.2.1
theorem dJ2_newBytesLength_0f7a4_18 : decode cJ2_newBytesLength_0f7a4 18 = .ok (.new 21, 3) := qdJ2_newBytesLength_0f7a4_0_24.2.2.2.2.2.2.2.2.2.1
theorem dJ2_newBytesLength_0f7a4_21 : decode cJ2_newBytesLength_0f7a4 21 = .ok (.dup, 1) := qdJ2_newBytesLength_0f7a4_0_24.2.2.2.2.2.2.2.2.2.2.1
theorem dJ2_newBytesLength_0f7a4_22 : decode cJ2_newBytesLength_0f7a4 22 = .ok (.new 23, 3) := qdJ2_newBytesLength_0f7a4_0_24.2.2.2.2.2.2.2.2.2.2.2.1
theorem dJ2_newBytesLength_0f7a4_25 : decode cJ2_newBytesLength_0f7a4 25 = .ok (.dup, 1) := qdJ2_newBytesLength_0f7a4_0_24.2.2.2.2.2.2.2.2.2.2.2.2.1
theorem dJ2_newBytesLength_0f7a4_26 : decode cJ2_newBytesLength_0f7a4 26 = .ok (.invokespecial 25, 3) := qdJ2_newBytesLength_0f7a4_0_24.2.2.2.2.2.2.2.2.2.2.2.2.2.1
theorem dJ2_newBytesLength_0f7a4_29 : decode cJ2_newBytesLength_0f7a4 29 = .ok (.ldc 26, 2) := qdJ2_newBytesLength_0f7a4_0_24.2.2.2.2.2.2.2.2.2.2.2.2.2.2.1
theorem dJ2_newBytesLength_0f7a4_31 : decode cJ2_newBytesLength_0f7a4 31 = .ok (.invokevirtual 28, 3) := qdJ2_newBytesLength_0f7a4_0_24.2.2.2.2.2.2.2.2.2.2.2.2.2.2.2.1
theorem dJ2_newBytesLength_0f7a4_34 : decode cJ2_newBytesLength_0f7a4 34 = .ok (.iload_n 0, 1) := qdJ2_newBytesLength_0f7a4_0_24.2.2.2.2.2.2.2.2.2.2.2.2.2.2.2.2.1
theorem dJ2_newBytesLength_0f7a4_35 : decode cJ2_newBytesLength_0f7a4 35 = .ok (.invokevirtual 32, 3) := qdJ2_newBytesLength_0f7a4_0_24.2.2.2.2.2.2.2.2.2.2.2.2.2.2.2.2.2.1
theorem dJ2_newBytesLength_0f7a4_38 : decode cJ2_newBytesLength_0f7a4 38 = .ok (.ldc 35, 2) := qdJ2_newBytesLength_0f7a4_0_24.2.2.2.2.2.2.2.2.2.2.2.2.2.2.2.2.2.2.1
theorem dJ2_newBytesLength_0f7a4_40 : decode cJ2_newBytesLength_0f7a4 40 = .ok (.invokevirtual 28, 3) := qdJ2_newBytesLength_0f7a4_0_24.2.2.2.2.2.2.2.2.2.2.2.2.2.2.2.2.2.2.2.1
theorem dJ2_newBytesLength_0f7a4_43 : decode cJ2_newBytesLength_0f7a4 43 = .ok (.ldc 20, 2) := qdJ2_newBytesLength_0f7a4_0_24.2.2.2.2.2.2.2.2.2.2.2.2.2.2.2.2.2.2.2.2.1
theorem dJ2_newBytesLength_0f7a4_45 : decode cJ2_newBytesLength_0f7a4 45 = .ok (.invokevirtual 32, 3) := qdJ2_newBytesLength_0f7a4_0_24.2.2.2.2.2.2.2.2.2.2.2.2.2.2.2.2.2.2.2.2.2.1
theorem dJ2_newBytesLength_0f7a4_48 : decode cJ2_newBytesLength_0f7a4 48 = .ok (.invokevirtual 37, 3) := qdJ2_newBytesLength_0f7a4_0_24.2.2.2.2.2.2.2.2.2.2.2.2.2.2.2.2.2.2.2.2.2.2.1
theorem dJ2_newBytesLength_0f7a4_51 : decode cJ2_newBytesLength_0f7a4 51 = .ok (.invokespecial 41, 3) := qdJ2_newBytesLength_0f7a4_0_24.2.2.2.2.2.2.2.2.2.2.2.2.2.2.2.2.2.2.2.2.2.2.2.1
theorem qdJ2_newBytesLength_0f7a4_54_5 : dcAll cJ2_newBytesLength_0f7a4 [(54, .athrow, 1), (55, .iload_n 0, 1), (56, .iconst 1, 1), (57, .ishl, 1), (58, .ireturn, 1)] := dcAll_of (by decide +kernel)
theorem dJ2_newBytesLength_0f7a4_54 : decode cJ2_newBytesLength_0f7a4 54 = .ok (.athrow, 1) := qdJ2_newBytesLength_0f7a4_54_5.1
theorem dJ2_newBytesLength_0f7a4_55 : decode cJ2_newBytesLength_0f7a4 55 = .ok (.iload_n 0, 1) := qdJ2_newBytesLength_0f7a4_54_5.2.1
theorem dJ2_newBytesLength_0f7a4_56 : decode cJ2_newBytesLength_0f7a4 56 = .ok (.iconst 1, 1) := qdJ2_newBytesLength_0f7a4_54_5.2.2.1
theorem dJ2_newBytesLength_0f7a4_57 : decode cJ2_newBytesLength_0f7a4 57 = .ok (.ishl, 1) := qdJ2_newBytesLength_0f7a4_54_5.2.2.2.1
theorem dJ2_newBytesLength_0f7a4_58 : decode cJ2_newBytesLength_0f7a4 58 = .ok (.ireturn, 1) := qdJ2_newBytesLength_0f7a4_54_5.2.2.2.2.1
set_option maxRecDepth 20000 in
theorem ggJ2_putChar_b72d1_J2_length_9d52b : GoodIn wsJ2_putChar_b72d1 wsJ2_length_9d52b := goodIn_r _ [7] rfl (by decide +kernel)
set_option maxRecDepth 20000 in
theorem gJ2_putChar_b72d1_J2_length_9d52b : GoodIn wsJ2_putChar_b72d1 (va_wsS RJ2 48 yJ2_length_9d52b wsJ2_length_9d52b) := goodIn_app (goodIn_r _ [4, 5, 6] rfl rfl) ggJ2_putChar_b72d1_J2_length_9d52b
theorem qdJ2_putChar_b72d1_0_24 : dcAll cJ2_putChar_b72d1 [(0, .getstatic 44, 3), (3, .ifCond .ne 25, 3), (6, .iload_n 1, 1), (7, .ifCond .lt 11, 3), (10, .iload_n 1, 1), (11, .aload_n 0, 1), (12, .invokestatic 48, 3), (15, .if_icmp .lt 13, 3), (18, .new 52, 3), (21, .dup, 1), (22, .ldc 54, 2), (24, .invokespecial 56, 3), (27, .athrow, 1), (28, .iload_n 1, 1), (29, .iconst 1, 1), (30, .ishl, 1), (31, .istore_n 1, 1), (32, .aload_n 0, 1), (33, .iload_n 1, 1), (34, .iinc 1 1, 3), (37, .iload_n 2, 1), (38, .getstatic 59, 3), (41, .ishr, 1), (42, .i2b, 1)] := dcAll_of (by decide +kernel)
theorem dJ2_putChar_b72d1_0 : decode cJ2_putChar_b72d1 0 = .ok (.getstatic 44, 3) := qdJ2_putChar_b72d1_0_24.1
theorem dJ2_putChar_b72d1_3 : decode cJ2_putChar_b72d1 3 = .ok (.ifCond .ne 25, 3) := qdJ2_putChar_b72d1_0_24.2.1
theorem dJ2_putChar_b72d1_6 : decode cJ2_putChar_b72d1 6 = .ok (.iload_n 1, 1) := qdJ2_putChar_b72d1_0_24.2.2.1
theorem dJ2_putChar_b72d1_7 : decode cJ2_putChar_b72d1 7 = .ok (.ifCond .lt 11, 3) := qdJ2_putChar_b72d1_0_24.2.2.2.1
theorem dJ2_putChar_b72d1_10 : decode cJ2_putChar_b72d1 10 = .ok (.iload_n 1, 1) := qdJ2_putChar_b72d1_0_24.2.2.2.2.1
theorem dJ2_putChar_b72d1_11 : decode cJ2_putChar_b72d1 11 = .ok (.aload_n 0, 1) := qdJ2_putChar_b72d1_0_24.2.2.2.2.2.1
theorem dJ2_putChar_b72d1_12 : decode cJ2_putChar_b72d1 12 = .ok (.invokestatic 48, 3) := qdJ2_putChar_b72d1_0_24.2.2.2.2.2.2.1
theorem dJ2_putChar_b72d1_15 : decode cJ2_putChar_b72d1 15 = .ok (.if_icmp .lt 13, 3) := qdJ2_putChar_b72d1_0_24.2.2.2.2.2.2.2.1
theorem dJ2_putChar_b72d1_18 : decode cJ2_putChar_b72d1 18 = .ok (.new 52, 3) := qdJ2_putChar_b72d1_0_24.2.2.2.2.2.2.2.2.1
theorem dJ2_putChar_b72d1_21 : decode cJ2_putChar_b72d1 21 = .ok (.dup, 1) := qdJ2_putChar_b72d1_0_24.2.2.2.2.2.2.2.2.2.1
theorem dJ2_putChar_b72d1_22 : decode cJ2_putChar_b72d1 22 = .ok (.ldc 54, 2) := qdJ2_putChar_b72d1_0_24.2.2.2.2.2.2.2.2.2.2.1
theorem dJ2_putChar_b72d1_24 : decode cJ2_putChar_b72d1 24 = .ok (.invokespecial 56, 3) := qdJ2_putChar_b72d1_0_24.2.2.2.2.2.2.2.2.2.2.2.1
theorem dJ2_putChar_b72d1_27 : decode cJ2_putChar_b72d1 27 = .ok (.athrow, 1) := qdJ2_putChar_b72d1_0_24.2.2.2.2.2.2.2.2.2.2.2.2.1
theorem dJ2_putChar_b72d1_28 : decode cJ2_putChar_b72d1 28 = .ok (.iload_n 1, 1) := qdJ2_putChar_b72d1_0_24.2.2.2.2.2.2.2.2.2.2.2.2.2.1
theorem dJ2_putChar_b72d1_29 : decode cJ2_putChar_b72d1 29 = .ok (.iconst 1, 1) := qdJ2_putChar_b72d1_0_24.2.2.2.2.2.2.2.2.2.2.2.2.2.2.1
theorem dJ2_putChar_b72d1_30 : decode cJ2_putChar_b72d1 30 = .ok (.ishl, 1) := qdJ2_putChar_b72d1_0_24.2.2.2.2.2.2.2.2.2.2.2.2.2.2.2.1
theorem dJ2_putChar_b72d1_31 : decode cJ2_putChar_b72d1 31 = .ok (.istore_n 1, 1) := qdJ2_putChar_b72d1_0_24.2.2.2.2.2.2.2.2.2.2.2.2.2.2.2.2.1
theorem dJ2_putChar_b72d1_32 : decode cJ2_putChar_b72d1 32 = .ok (.aload_n 0, 1) := qdJ2_putChar_b72d1_0_24.2.2.2.2.2.2.2.2.2.2.2.2.2.2.2.2.2.1
theorem dJ2_putChar_b72d1_33 : decode cJ2_putChar_b72d1 33 = .ok (.iload_n 1, 1) := qdJ2_putChar_b72d1_0_24.2.2.2.2.2.2.2.2.2.2.2.2.2.2.2.2.2.2.1
theorem dJ2_putChar_b72d1_34 : decode cJ2_putChar_b72d1 34 = .ok (.iinc 1 1, 3) := qdJ2_putChar_b72d1_0_24.2.2.2.2.2.2.2.2.2.2.2.2.2.2.2.2.2.2.2.1
theorem dJ2_putChar_b72d1_37 : decode cJ2_putChar_b72d1 37 = .ok (.iload_n 2, 1) := qdJ2_putChar_b72d1_0_24.2.2.2.2.2.2.2.2.2.2.2.2.2.2.2.2.2.2.2.2.1
theorem dJ2_putChar_b72d1_38 : decode cJ2_putChar_b72d1 38 = .ok (.getstatic 59, 3) := qdJ2_putChar_b72d1_0_24.2.2.2.2.2.2.2.2.2.2.2.2.2.2.2.2.2.2.2.2.2.1
theorem dJ2_putChar_b72d1_41 : decode cJ2_putChar_b72d1 41 = .ok (.ishr, 1) := qdJ2_putChar_b72d1_0_24.2.2.2.2.2.2.2.2.2.2.2.2.2.2.2.2.2.2.2.2.2.2.1
theorem dJ2_putChar_b72d1_42 : decode cJ2_putChar_b72d1 42 = .ok (.i2b, 1) := qdJ2_putChar_b72d1_0_24.2.2.2.2.2.2.2.2.2.2.2.2.2.2.2.2.2.2.2.2.2.2.2.1
theorem qdJ2_putChar_b72d1_43_9 : dcAll cJ2_putChar_b72d1 [(43, .bastore, 1), (44, .aload_n 0, 1), (45, .iload_n 1, 1), (46, .iload_n 2, 1), (47, .getstatic 63, 3), (50, .ishr, 1), (51, .i2b, 1), (52, .bastore, 1), (53, .return_, 1)] := dcAll_of (by decide +kernel)
theorem dJ2_putChar_b72d1_43 : decode cJ2_putChar_b72d1 43 = .ok (.bastore, 1) := qdJ2_putChar_b72d1_43_9.1
theorem dJ2_putChar_b72d1_44 : decode cJ2_putChar_b72d1 44 = .ok (.aload_n 0, 1) := qdJ2_putChar_b72d1_43_9.2.1
theorem dJ2_putChar_b72d1_45 : decode cJ2_putChar_b72d1 45 = .ok (.iload_n 1, 1) := qdJ2_putChar_b72d1_43_9.2.2.1
theorem dJ2_putChar_b72d1_46 : decode cJ2_putChar_b72d1 46 = .ok (.iload_n 2, 1) := qdJ2_putChar_b72d1_43_9.2.2.2.1
theorem dJ2_putChar_b72d1_47 : decode cJ2_putChar_b72d1 47 = .ok (.getstatic 63, 3) := qdJ2_putChar_b72d1_43_9.2.2.2.2.1
theorem dJ2_putChar_b72d1_50 : decode cJ2_putChar_b72d1 50 = .ok (.ishr, 1) := qdJ2_putChar_b72d1_43_9.2.2.2.2.2.1
theorem dJ2_putChar_b72d1_51 : decode cJ2_putChar_b72d1 51 = .ok (.i2b, 1) := qdJ2_putChar_b72d1_43_9.2.2.2.2.2.2.1
theorem dJ2_putChar_b72d1_52 : decode cJ2_putChar_b72d1 52 = .ok (.bastore, 1) := qdJ2_putChar_b72d1_43_9.2.2.2.2.2.2.2.1
theorem dJ2_putChar_b72d1_53 : decode cJ2_putChar_b72d1 53 = .ok (.return_, 1) := qdJ2_putChar_b72d1_43_9.2.2.2.2.2.2.2.2.1
set_option maxRecDepth 20000 in
theorem ggJ2_getChar_3b067_J2_length_9d52b : GoodIn wsJ2_getChar_3b067 wsJ2_length_9d52b := goodIn_r _ [7] rfl (by decide +kernel)
set_option maxRecDepth 20000 in
theorem gJ2_getChar_3b067_J2_length_9d52b : GoodIn wsJ2_getChar_3b067 (va_wsS RJ2 48 yJ2_length_9d52b wsJ2_length_9d52b) := goodIn_app (goodIn_r _ [4, 5, 6] rfl rfl) ggJ2_getChar_3b067_J2_length_9d52b
theorem qdJ2_getChar_3b067_0_24 : dcAll cJ2_getChar_3b067 [(0, .getstatic 44, 3), (3, .ifCond .ne 25, 3), (6, .iload_n 1, 1), (7, .ifCond .lt 11, 3), (10, .iload_n 1, 1), (11, .aload_n 0, 1), (12, .invokestatic 48, 3), (15, .if_icmp .lt 13, 3), (18, .new 52, 3), (21, .dup, 1), (22, .ldc 54, 2), (24, .invokespecial 56, 3), (27, .athrow, 1), (28, .iload_n 1, 1), (29, .iconst 1, 1), (30, .ishl, 1), (31, .istore_n 1, 1), (32, .aload_n 0, 1), (33, .iload_n 1, 1), (34, .iinc 1 1, 3), (37, .baload, 1), (38, .sipush 255, 3), (41, .iand, 1), (42, .getstatic 59, 3)] := dcAll_of (by decide +kernel)
theorem dJ2_getChar_3b067_0 : decode cJ2_getChar_3b067 0 = .ok (.getstatic 44, 3) := qdJ2_getChar_3b067_0_24.1
theorem dJ2_getChar_3b067_3 : decode cJ2_getChar_3b067 3 = .ok (.ifCond .ne 25, 3) := qdJ2_getChar_3b067_0_24.2.1
theorem dJ2_getChar_3b067_6 : decode cJ2_getChar_3b067 6 = .ok (.iload_n 1, 1) := qdJ2_getChar_3b067_0_24.2.2.1
theorem dJ2_getChar_3b067_7 : decode cJ2_getChar_3b067 7 = .ok (.ifCond .lt 11, 3) := qdJ2_getChar_3b067_0_24.2.2.2.1
theorem dJ2_getChar_3b067_10 : decode cJ2_getChar_3b067 10 = .ok (.iload_n 1, 1) := qdJ2_getChar_3b067_0_24.2.2.2.2.1
theorem dJ2_getChar_3b067_11 : decode cJ2_getChar_3b067 11 = .ok (.aload_n 0, 1) := qdJ2_getChar_3b067_0_24.2.2.2.2.2.1
theorem dJ2_getChar_3b067_12 : decode cJ2_getChar_3b067 12 = .ok (.invokestatic 48, 3) := qdJ2_getChar_3b067_0_24.2.2.2.2.2.2.1
theorem dJ2_getChar_3b067_15 : decode cJ2_getChar_3b067 15 = .ok (.if_icmp .lt 13, 3) := qdJ2_getChar_3b067_0_24.2.2.2.2.2.2.2.1
theorem dJ2_getChar_3b067_18 : decode cJ2_getChar_3b067 18 = .ok (.new 52, 3) := qdJ2_getChar_3b067_0_24.2.2.2.2.2.2.2.2.1
theorem dJ2_getChar_3b067_21 : decode cJ2_getChar_3b067 21 = .ok (.dup, 1) := qdJ2_getChar_3b067_0_24.2.2.2.2.2.2.2.2.2.1
theorem dJ2_getChar_3b067_22 : decode cJ2_getChar_3b067 22 = .ok (.ldc 54, 2) := qdJ2_getChar_3b067_0_24.2.2.2.2.2.2.2.2.2.2.1
theorem dJ2_getChar_3b067_24 : decode cJ2_getChar_3b067 24 = .ok (.invokespecial 56, 3) := qdJ2_getChar_3b067_0_24.2.2.2.2.2.2.2.2.2.2.2.1
theorem dJ2_getChar_3b067_27 : decode cJ2_getChar_3b067 27 = .ok (.athrow, 1) := qdJ2_getChar_3b067_0_24.2.2.2.2.2.2.2.2.2.2.2.2.1
theorem dJ2_getChar_3b067_28 : decode cJ2_getChar_3b067 28 = .ok (.iload_n 1, 1) := qdJ2_getChar_3b067_0_24.2.2.2.2.2.2.2.2.2.2.2.2.2.1
theorem dJ2_getChar_3b067_29 : decode cJ2_getChar_3b067 29 = .ok (.iconst 1, 1) := qdJ2_getChar_3b067_0_24.2.2.2.2.2.2.2.2.2.2.2.2.2.2.1
theorem dJ2_getChar_3b067_30 : decode cJ2_getChar_3b067 30 = .ok (.ishl, 1) := qdJ2_getChar_3b067_0_24.2.2.2.2.2.2.2.2.2.2.2.2.2.2.2.1
theorem dJ2_getChar_3b067_31 : decode cJ2_getChar_3b067 31 = .ok (.istore_n 1, 1) := qdJ2_getChar_3b067_0_24.2.2.2.2.2.2.2.2.2.2.2.2.2.2.2.2.1
theorem dJ2_getChar_3b067_32 : decode cJ2_getChar_3b067 32 = .ok (.aload_n 0, 1) := qdJ2_getChar_3b067_0_24.2.2.2.2.2.2.2.2.2.2.2.2.2.2.2.2.2.1
theorem dJ2_getChar_3b067_33 : decode cJ2_getChar_3b067 33 = .ok (.iload_n 1, 1) := qdJ2_getChar_3b067_0_24.2.2.2.2.2.2.2.2.2.2.2.2.2.2.2.2.2.2.1
theorem dJ2_getChar_3b067_34 : decode cJ2_getChar_3b067 34 = .ok (.iinc 1 1, 3) := qdJ2_getChar_3b067_0_24.2.2.2.2.2.2.2.2.2.2.2.2.2.2.2.2.2.2.2.1
theorem dJ2_getChar_3b067_37 : decode cJ2_getChar_3b067 37 = .ok (.baload, 1) := qdJ2_getChar_3b067_0_24.2.2.2.2.2.2.2.2.2.2.2.2.2.2.2.2.2.2.2.2.1
theorem dJ2_getChar_3b067_38 : decode cJ2_getChar_3b067 38 = .ok (.sipush 255, 3) := qdJ2_getChar_3b067_0_24.2.2.2.2.2.2.2.2.2.2.2.2.2.2.2.2.2.2.2.2.2.1
theorem dJ2_getChar_3b067_41 : decode cJ2_getChar_3b067 41 = .ok (.iand, 1) := qdJ2_getChar_3b067_0_24.2.2.2.2.2.2.2.2.2.2.2.2.2.2.2.2.2.2.2.2.2.2.1
theorem dJ2_getChar_3b067_42 : decode cJ2_getChar_3b067 42 = .ok (.getstatic 59, 3) := qdJ2_getChar_3b067_0_24.2.2.2.2.2.2.2.2.2.2.2.2.2.2.2.2.2.2.2.2.2.2.2.1
theorem qdJ2_getChar_3b067_45_11 : dcAll cJ2_getChar_3b067 [(45, .ishl, 1), (46, .aload_n 0, 1), (47, .iload_n 1, 1), (48, .baload, 1), (49, .sipush 255, 3), (52, .iand, 1), (53, .getstatic 63, 3), (56, .ishl, 1), (57, .ior, 1), (58, .i2c, 1), (59, .ireturn, 1)] := dcAll_of (by decide +kernel)
theorem dJ2_getChar_3b067_45 : decode cJ2_getChar_3b067 45 = .ok (.ishl, 1) := qdJ2_getChar_3b067_45_11.1
theorem dJ2_getChar_3b067_46 : decode cJ2_getChar_3b067 46 = .ok (.aload_n 0, 1) := qdJ2_getChar_3b067_45_11.2.1
theorem dJ2_getChar_3b067_47 : decode cJ2_getChar_3b067 47 = .ok (.iload_n 1, 1) := qdJ2_getChar_3b067_45_11.2.2.1
theorem dJ2_getChar_3b067_48 : decode cJ2_getChar_3b067 48 = .ok (.baload, 1) := qdJ2_getChar_3b067_45_11.2.2.2.1
theorem dJ2_getChar_3b067_49 : decode cJ2_getChar_3b067 49 = .ok (.sipush 255, 3) := qdJ2_getChar_3b067_45_11.2.2.2.2.1
theorem dJ2_getChar_3b067_52 : decode cJ2_getChar_3b067 52 = .ok (.iand, 1) := qdJ2_getChar_3b067_45_11.2.2.2.2.2.1
theorem dJ2_getChar_3b067_53 : decode cJ2_getChar_3b067 53 = .ok (.getstatic 63, 3) := qdJ2_getChar_3b067_45_11.2.2.2.2.2.2.1
theorem dJ2_getChar_3b067_56 : decode cJ2_getChar_3b067 56 = .ok (.ishl, 1) := qdJ2_getChar_3b067_45_11.2.2.2.2.2.2.2.1
theorem dJ2_getChar_3b067_57 : decode cJ2_getChar_3b067 57 = .ok (.ior, 1) := qdJ2_getChar_3b067_45_11.2.2.2.2.2.2.2.2.1
theorem dJ2_getChar_3b067_58 : decode cJ2_getChar_3b067 58 = .ok (.i2c, 1) := qdJ2_getChar_3b067_45_11.2.2.2.2.2.2.2.2.2.1
theorem dJ2_getChar_3b067_59 : decode cJ2_getChar_3b067 59 = .ok (.ireturn, 1) := qdJ2_getChar_3b067_45_11.2.2.2.2.2.2.2.2.2.2.1
theorem qdJ2_length_9d52b_0_5 : dcAll cJ2_length_9d52b [(0, .aload_n 0, 1), (1, .arraylength, 1), (2, .iconst 1, 1), (3, .ishr, 1), (4, .ireturn, 1)] := dcAll_of (by decide +kernel)
theorem dJ2_length_9d52b_0 : decode cJ2_length_9d52b 0 = .ok (.aload_n 0, 1) := qdJ2_length_9d52b_0_5.1
theorem dJ2_length_9d52b_1 : decode cJ2_length_9d52b 1 = .ok (.arraylength, 1) := qdJ2_length_9d52b_0_5.2.1
theorem dJ2_length_9d52b_2 : decode cJ2_length_9d52b 2 = .ok (.iconst 1, 1) := qdJ2_length_9d52b_0_5.2.2.1
theorem dJ2_length_9d52b_3 : decode cJ2_length_9d52b 3 = .ok (.ishr, 1) := qdJ2_length_9d52b_0_5.2.2.2.1
theorem dJ2_length_9d52b_4 : decode cJ2_length_9d52b 4 = .ok (.ireturn, 1) := qdJ2_length_9d52b_0_5.2.2.2.2.1
theorem qdJ2_coderFromArrayLen_85cad_0_8 : dcAll cJ2_coderFromArrayLen_85cad [(0, .iload_n 1, 1), (1, .aload_n 0, 1), (2, .arraylength, 1), (3, .isub, 1), (4, .bipush 31, 2), (6, .iushr, 1), (7, .i2b, 1), (8, .ireturn, 1)] := dcAll_of (by decide +kernel)
theorem dJ2_coderFromArrayLen_85cad_0 : decode cJ2_coderFromArrayLen_85cad 0 = .ok (.iload_n 1, 1) := qdJ2_coderFromArrayLen_85cad_0_8.1
theorem dJ2_coderFromArrayLen_85cad_1 : decode cJ2_coderFromArrayLen_85cad 1 = .ok (.aload_n 0, 1) := qdJ2_coderFromArrayLen_85cad_0_8.2.1
theorem dJ2_coderFromArrayLen_85cad_2 : decode cJ2_coderFromArrayLen_85cad 2 = .ok (.arraylength, 1) := qdJ2_coderFromArrayLen_85cad_0_8.2.2.1
theorem dJ2_coderFromArrayLen_85cad_3 : decode cJ2_coderFromArrayLen_85cad 3 = .ok (.isub, 1) := qdJ2_coderFromArrayLen_85cad_0_8.2.2.2.1
theorem dJ2_coderFromArrayLen_85cad_4 : decode cJ2_coderFromArrayLen_85cad 4 = .ok (.bipush 31, 2) := qdJ2_coderFromArrayLen_85cad_0_8.2.2.2.2.1
theorem dJ2_coderFromArrayLen_85cad_6 : decode cJ2_coderFromArrayLen_85cad 6 = .ok (.iushr, 1) := qdJ2_coderFromArrayLen_85cad_0_8.2.2.2.2.2.1
theorem dJ2_coderFromArrayLen_85cad_7 : decode cJ2_coderFromArrayLen_85cad 7 = .ok (.i2b, 1) := qdJ2_coderFromArrayLen_85cad_0_8.2.2.2.2.2.2.1
theorem dJ2_coderFromArrayLen_85cad_8 : decode cJ2_coderFromArrayLen_85cad 8 = .ok (.ireturn, 1) := qdJ2_coderFromArrayLen_85cad_0_8.2.2.2.2.2.2.2.1
set_option maxRecDepth 20000 in
theorem ggJ2_compress_39247_J2_compress_5af95 : GoodIn wsJ2_compress_39247 wsJ2_compress_5af95 := goodIn_r _ [5, 6, 7, 4, 8, 9, 10, 11, 12, 13, 14, 15, 16, 17, 18, 19, 20, 21, 22, 23, 24, 25, 26] rfl (by decide +kernel)
set_option maxRecDepth 20000 in
theorem gJ2_compress_39247_J2_compress_5af95 : GoodIn wsJ2_compress_39247 (va_wsS RJ2 123 yJ2_compress_5af95 wsJ2_compress_5af95) := goodIn_app (goodIn_r _ [2, 3, 4] rfl rfl) ggJ2_compress_39247_J2_compress_5af95
set_option maxRecDepth 20000 in
theorem ggJ2_compress_39247_J2_newBytesLength_0f7a4 : GoodIn wsJ2_compress_39247 wsJ2_newBytesLength_0f7a4 := goodIn_r _ [29, 30] rfl (by decide +kernel)
set_option maxRecDepth 20000 in
theorem gJ2_compress_39247_J2_newBytesLength_0f7a4 : GoodIn wsJ2_compress_39247 (va_wsS RJ2 11 yJ2_newBytesLength_0f7a4 wsJ2_newBytesLength_0f7a4) := goodIn_app (goodIn_r _ [27, 28, 4] rfl rfl) ggJ2_compress_39247_J2_newBytesLength_0f7a4
set_option maxRecDepth 20000 in
theorem ggJ2_compress_39247_J7_copyOfRange_39247 : GoodIn wsJ2_compress_39247 wsJ7_copyOfRange_39247 := goodIn_r _ [34, 35, 36, 37, 38, 39, 40, 41, 42, 33, 43, 1, 44, 45, 46, 47, 48, 49, 50, 51, 52, 53, 54, 55, 56, 57, 58, 59, 60, 61] rfl (by decide +kernel)
set_option maxRecDepth 20000 in
theorem gJ2_compress_39247_J7_copyOfRange_39247 : GoodIn wsJ2_compress_39247 (va_wsS RJ2 126 yJ7_copyOfRange_39247 wsJ7_copyOfRange_39247) := goodIn_app (goodIn_r _ [31, 32, 33] rfl rfl) ggJ2_compress_39247_J7_copyOfRange_39247
set_option maxRecDepth 20000 in
theorem ggJ2_compress_39247_J2_getChar_3b067 : GoodIn wsJ2_compress_39247 wsJ2_getChar_3b067 := goodIn_r _ [23, 24, 25, 26, 9, 10, 4, 11] rfl (by decide +kernel)
set_option maxRecDepth 20000 in
theorem gJ2_compress_39247_J2_getChar_3b067 : GoodIn wsJ2_compress_39247 (va_wsS RJ2 71 yJ2_getChar_3b067 wsJ2_getChar_3b067) := goodIn_app (goodIn_r _ [21, 22, 4] rfl rfl) ggJ2_compress_39247_J2_getChar_3b067
theorem qdJ2_compress_39247_0_24 : dcAll cJ2_compress_39247 [(0, .iload_n 2, 1), (1, .newarray .byte, 2), (3, .astore_n 3, 1), (4, .aload_n 0, 1), (5, .iload_n 1, 1), (6, .aload_n 3, 1), (7, .iconst 0, 1), (8, .iload_n 2, 1), (9, .invokestatic 123, 3), (12, .istore 4, 2), (14, .iload 4, 2), (16, .iload_n 2, 1), (17, .if_icmp .eq 47, 3), (20, .aload_n 0, 1), (21, .iload_n 1, 1), (22, .iconst 1, 1), (23, .ishl, 1), (24, .iload_n 1, 1), (25, .iload_n 2, 1), (26, .iadd, 1), (27, .invokestatic 11, 3), (30, .invokestatic 126, 3), (33, .astore 5, 2), (35, .aload 5, 2)] := dcAll_of (by decide +kernel)
theorem dJ2_compress_39247_0 : decode cJ2_compress_39247 0 = .ok (.iload_n 2, 1) := qdJ2_compress_39247_0_24.1
theorem dJ2_compress_39247_1 : decode cJ2_compress_39247 1 = .ok (.newarray .byte, 2) := qdJ2_compress_39247_0_24.2.1
theorem dJ2_compress_39247_3 : decode cJ2_compress_39247 3 = .ok (.astore_n 3, 1) := qdJ2_compress_39247_0_24.2.2.1
theorem dJ2_compress_39247_4 : decode cJ2_compress_39247 4 = .ok (.aload_n 0, 1) := qdJ2_compress_39247_0_24.2.2.2.1
theorem dJ2_compress_39247_5 : decode cJ2_compress_39247 5 = .ok (.iload_n 1, 1) := qdJ2_compress_39247_0_24.2.2.2.2.1
theorem dJ2_compress_39247_6 : decode cJ2_compress_39247 6 = .ok (.aload_n 3, 1) := qdJ2_compress_39247_0_24.2.2.2.2.2.1
theorem dJ2_compress_39247_7 : decode cJ2_compress_39247 7 = .ok (.iconst 0, 1) := qdJ2_compress_39247_0_24.2.2.2.2.2.2.1
theorem dJ2_compress_39247_8 : decode cJ2_compress_39247 8 = .ok (.iload_n 2, 1) := qdJ2_compress_39247_0_24.2.2.2.2.2.2.2.1
theorem dJ2_compress_39247_9 : decode cJ2_compress_39247 9 = .ok (.invokestatic 123, 3) := qdJ2_compress_39247_0_24.2.2.2.2.2.2.2.2.1
theorem dJ2_compress_39247_12 : decode cJ2_compress_39247 12 = .ok (.istore 4, 2) := qdJ2_compress_39247_0_24.2.2.2.2.2.2.2.2.2.1
theorem dJ2_compress_39247_14 : decode cJ2_compress_39247 14 = .ok (.iload 4, 2) := qdJ2_compress_39247_0_24.2.2.2.2.2.2.2.2.2.2.1
theorem dJ2_compress_39247_16 : decode cJ2_compress_39247 16 = .ok (.iload_n 2, 1) := qdJ2_compress_39247_0_24.2.2.2.2.2.2.2.2.2.2.2.1
theorem dJ2_compress_39247_17 : decode cJ2_compress_39247 17 = .ok (.if_icmp .eq 47, 3) := qdJ2_compress_39247_0_24.2.2.2.2.2.2.2.2.2.2.2.2.1
theorem dJ2_compress_39247_20 : decode cJ2_compress_39247 20 = .ok (.aload_n 0, 1) := qdJ2_compress_39247_0_24.2.2.2.2.2.2.2.2.2.2.2.2.2.1
theorem dJ2_compress_39247_21 : decode cJ2_compress_39247 21 = .ok (.iload_n 1, 1) := qdJ2_compress_39247_0_24.2.2.2.2.2.2.2.2.2.2.2.2.2.2.1
theorem dJ2_compress_39247_22 : decode cJ2_compress_39247 22 = .ok (.iconst 1, 1) := qdJ2_compress_39247_0_24.2.2.2.2.2.2.2.2.2.2.2.2.2.2.2.1
theorem dJ2_compress_39247_23 : decode cJ2_compress_39247 23 = .ok (.ishl, 1) := qdJ2_compress_39247_0_24.2.2.2.2.2.2.2.2.2.2.2.2.2.2.2.2.1
theorem dJ2_compress_39247_24 : decode cJ2_compress_39247 24 = .ok (.iload_n 1, 1) := qdJ2_compress_39247_0_24.2.2.2.2.2.2.2.2.2.2.2.2.2.2.2.2.2.1
theorem dJ2_compress_39247_25 : decode cJ2_compress_39247 25 = .ok (.iload_n 2, 1) := qdJ2_compress_39247_0_24.2.2.2.2.2.2.2.2.2.2.2.2.2.2.2.2.2.2.1
theorem dJ2_compress_39247_26 : decode cJ2_compress_39247 26 = .ok (.iadd, 1) := qdJ2_compress_39247_0_24.2.2.2.2.2.2.2.2.2.2.2.2.2.2.2.2.2.2.2.1
theorem dJ2_compress_39247_27 : decode cJ2_compress_39247 27 = .ok (.invokestatic 11, 3) := qdJ2_compress_39247_0_24.2.2.2.2.2.2.2.2.2.2.2.2.2.2.2.2.2.2.2.2.1
theorem dJ2_compress_39247_30 : decode cJ2_compress_39247 30 = .ok (.invokestatic 126, 3) := qdJ2_compress_39247_0_24.2.2.2.2.2.2.2.2.2.2.2.2.2.2.2.2.2.2.2.2.2.1
theorem dJ2_compress_39247_33 : decode cJ2_compress_39247 33 = .ok (.astore 5, 2) := qdJ2_compress_39247_0_24.2.2.2.2.2.2.2.2.2.2.2.2.2.2.2.2.2.2.2.2.2.2.1
theorem dJ2_compress_39247_35 : decode cJ2_compress_39247 35 = .ok (.aload 5, 2) := qdJ2_compress_39247_0_24.2.2.2.2.2.2.2.2.2.2.2.2.2.2.2.2.2.2.2.2.2.2.2.1
theorem qdJ2_compress_39247_37_16 : dcAll cJ2_compress_39247 [(37, .iload 4, 2), (39, .invokestatic 71, 3), (42, .sipush 255, 3), (45, .if_icmp .gt 16, 3), (48, .aload 5, 2), (50, .iconst 0, 1), (51, .aload_n 3, 1), (52, .iconst 0, 1), (53, .iload_n 2, 1), (54, .invokestatic 123, 3), (57, .iload_n 2, 1), (58, .if_icmp .eq 6, 3), (61, .aload 5, 2), (63, .areturn, 1), (64, .aload_n 3, 1), (65, .areturn, 1)] := dcAll_of (by decide +kernel)
theorem dJ2_compress_39247_37 : decode cJ2_compress_39247 37 = .ok (.iload 4, 2) := qdJ2_compress_39247_37_16.1
theorem dJ2_compress_39247_39 : decode cJ2_compress_39247 39 = .ok (.invokestatic 71, 3) := qdJ2_compress_39247_37_16.2.1
theorem dJ2_compress_39247_42 : decode cJ2_compress_39247 42 = .ok (.sipush 255, 3) := qdJ2_compress_39247_37_16.2.2.1
theorem dJ2_compress_39247_45 : decode cJ2_compress_39247 45 = .ok (.if_icmp .gt 16, 3) := qdJ2_compress_39247_37_16.2.2.2.1
theorem dJ2_compress_39247_48 : decode cJ2_compress_39247 48 = .ok (.aload 5, 2) := qdJ2_compress_39247_37_16.2.2.2.2.1
theorem dJ2_compress_39247_50 : decode cJ2_compress_39247 50 = .ok (.iconst 0, 1) := qdJ2_compress_39247_37_16.2.2.2.2.2.1
theorem dJ2_compress_39247_51 : decode cJ2_compress_39247 51 = .ok (.aload_n 3, 1) := qdJ2_compress_39247_37_16.2.2.2.2.2.2.1
theorem dJ2_compress_39247_52 : decode cJ2_compress_39247 52 = .ok (.iconst 0, 1) := qdJ2_compress_39247_37_16.2.2.2.2.2.2.2.1
theorem dJ2_compress_39247_53 : decode cJ2_compress_39247 53 = .ok (.iload_n 2, 1) := qdJ2_compress_39247_37_16.2.2.2.2.2.2.2.2.1
theorem dJ2_compress_39247_54 : decode cJ2_compress_39247 54 = .ok (.invokestatic 123, 3) := qdJ2_compress_39247_37_16.2.2.2.2.2.2.2.2.2.1
theorem dJ2_compress_39247_57 : decode cJ2_compress_39247 57 = .ok (.iload_n 2, 1) := qdJ2_compress_39247_37_16.2.2.2.2.2.2.2.2.2.2.1
theorem dJ2_compress_39247_58 : decode cJ2_compress_39247 58 = .ok (.if_icmp .eq 6, 3) := qdJ2_compress_39247_37_16.2.2.2.2.2.2.2.2.2.2.2.1
theorem dJ2_compress_39247_61 : decode cJ2_compress_39247 61 = .ok (.aload 5, 2) := qdJ2_compress_39247_37_16.2.2.2.2.2.2.2.2.2.2.2.2.1
theorem dJ2_compress_39247_63 : decode cJ2_compress_39247 63 = .ok (.areturn, 1) := qdJ2_compress_39247_37_16.2.2.2.2.2.2.2.2.2.2.2.2.2.1
theorem dJ2_compress_39247_64 : decode cJ2_compress_39247 64 = .ok (.aload_n 3, 1) := qdJ2_compress_39247_37_16.2.2.2.2.2.2.2.2.2.2.2.2.2.2.1
theorem dJ2_compress_39247_65 : decode cJ2_compress_39247 65 = .ok (.areturn, 1) := qdJ2_compress_39247_37_16.2.2.2.2.2.2.2.2.2.2.2.2.2.2.2.1
set_option maxRecDepth 20000 in
theorem ggJ2_compress_5af95_J2_checkBoundsOffCount_d044e : GoodIn wsJ2_compress_5af95 wsJ2_checkBoundsOffCount_d044e := goodIn_r _ [4, 5, 6, 3, 7, 8, 9, 10, 11, 12, 13, 14, 15, 16] rfl (by decide +kernel)
set_option maxRecDepth 20000 in
theorem gJ2_compress_5af95_J2_checkBoundsOffCount_d044e : GoodIn wsJ2_compress_5af95 (va_wsS RJ2 173 yJ2_checkBoundsOffCount_d044e wsJ2_checkBoundsOffCount_d044e) := goodIn_app (goodIn_r _ [1, 2, 3] rfl rfl) ggJ2_compress_5af95_J2_checkBoundsOffCount_d044e
set_option maxRecDepth 20000 in
theorem ggJ2_compress_5af95_J2_getChar_3b067 : GoodIn wsJ2_compress_5af95 wsJ2_getChar_3b067 := goodIn_r _ [19, 20, 21, 22, 5, 6, 3, 7] rfl (by decide +kernel)
set_option maxRecDepth 20000 in
theorem gJ2_compress_5af95_J2_getChar_3b067 : GoodIn wsJ2_compress_5af95 (va_wsS RJ2 71 yJ2_getChar_3b067 wsJ2_getChar_3b067) := goodIn_app (goodIn_r _ [17, 18, 3] rfl rfl) ggJ2_compress_5af95_J2_getChar_3b067
theorem qdJ2_compress_5af95_0_24 : dcAll cJ2_compress_5af95 [(0, .iload_n 1, 1), (1, .iload 4, 2), (3, .aload_n 0, 1), (4, .invokestatic 173, 3), (7, .iconst 0, 1), (8, .istore 5, 2), (10, .iload 5, 2), (12, .iload 4, 2), (14, .if_icmp .ge 39, 3), (17, .aload_n 0, 1), (18, .iload_n 1, 1), (19, .invokestatic 71, 3), (22, .istore 6, 2), (24, .iload 6, 2), (26, .sipush 255, 3), (29, .if_icmp .le 6, 3), (32, .iload 5, 2), (34, .ireturn, 1), (35, .aload_n 2, 1), (36, .iload_n 3, 1), (37, .iload 6, 2), (39, .i2b, 1), (40, .bastore, 1), (41, .iinc 1 1, 3)] := dcAll_of (by decide +kernel)
theorem dJ2_compress_5af95_0 : decode cJ2_compress_5af95 0 = .ok (.iload_n 1, 1) := qdJ2_compress_5af95_0_24.1
theorem dJ2_compress_5af95_1 : decode cJ2_compress_5af95 1 = .ok (.iload 4, 2) := qdJ2_compress_5af95_0_24.2.1
theorem dJ2_compress_5af95_3 : decode cJ2_compress_5af95 3 = .ok (.aload_n 0, 1) := qdJ2_compress_5af95_0_24.2.2.1
theorem dJ2_compress_5af95_4 : decode cJ2_compress_5af95 4 = .ok (.invokestatic 173, 3) := qdJ2_compress_5af95_0_24.2.2.2.1
theorem dJ2_compress_5af95_7 : decode cJ2_compress_5af95 7 = .ok (.iconst 0, 1) := qdJ2_compress_5af95_0_24.2.2.2.2.1
theorem dJ2_compress_5af95_8 : decode cJ2_compress_5af95 8 = .ok (.istore 5, 2) := qdJ2_compress_5af95_0_24.2.2.2.2.2.1
theorem dJ2_compress_5af95_10 : decode cJ2_compress_5af95 10 = .ok (.iload 5, 2) := qdJ2_compress_5af95_0_24.2.2.2.2.2.2.1
theorem dJ2_compress_5af95_12 : decode cJ2_compress_5af95 12 = .ok (.iload 4, 2) := qdJ2_compress_5af95_0_24.2.2.2.2.2.2.2.1
theorem dJ2_compress_5af95_14 : decode cJ2_compress_5af95 14 = .ok (.if_icmp .ge 39, 3) := qdJ2_compress_5af95_0_24.2.2.2.2.2.2.2.2.1
theorem dJ2_compress_5af95_17 : decode cJ2_compress_5af95 17 = .ok (.aload_n 0, 1) := qdJ2_compress_5af95_0_24.2.2.2.2.2.2.2.2.2.1
theorem dJ2_compress_5af95_18 : decode cJ2_compress_5af95 18 = .ok (.iload_n 1, 1) := qdJ2_compress_5af95_0_24.2.2.2.2.2.2.2.2.2.2.1
theorem dJ2_compress_5af95_19 : decode cJ2_compress_5af95 19 = .ok (.invokestatic 71, 3) := qdJ2_compress_5af95_0_24.2.2.2.2.2.2.2.2.2.2.2.1
theorem dJ2_compress_5af95_22 : decode cJ2_compress_5af95 22 = .ok (.istore 6, 2) := qdJ2_compress_5af95_0_24.2.2.2.2.2.2.2.2.2.2.2.2.1
theorem dJ2_compress_5af95_24 : decode cJ2_compress_5af95 24 = .ok (.iload 6, 2) := qdJ2_compress_5af95_0_24.2.2.2.2.2.2.2.2.2.2.2.2.2.1
theorem dJ2_compress_5af95_26 : decode cJ2_compress_5af95 26 = .ok (.sipush 255, 3) := qdJ2_compress_5af95_0_24.2.2.2.2.2.2.2.2.2.2.2.2.2.2.1
theorem dJ2_compress_5af95_29 : decode cJ2_compress_5af95 29 = .ok (.if_icmp .le 6, 3) := qdJ2_compress_5af95_0_24.2.2.2.2.2.2.2.2.2.2.2.2.2.2.2.1
theorem dJ2_compress_5af95_32 : decode cJ2_compress_5af95 32 = .ok (.iload 5, 2) := qdJ2_compress_5af95_0_24.2.2.2.2.2.2.2.2.2.2.2.2.2.2.2.2.1
theorem dJ2_compress_5af95_34 : decode cJ2_compress_5af95 34 = .ok (.ireturn, 1) := qdJ2_compress_5af95_0_24.2.2.2.2.2.2.2.2.2.2.2.2.2.2.2.2.2.1
theorem dJ2_compress_5af95_35 : decode cJ2_compress_5af95 35 = .ok (.aload_n 2, 1) := qdJ2_compress_5af95_0_24.2.2.2.2.2.2.2.2.2.2.2.2.2.2.2.2.2.2.1
theorem dJ2_compress_5af95_36 : decode cJ2_compress_5af95 36 = .ok (.iload_n 3, 1) := qdJ2_compress_5af95_0_24.2.2.2.2.2.2.2.2.2.2.2.2.2.2.2.2.2.2.2.1
theorem dJ2_compress_5af95_37 : decode cJ2_compress_5af95 37 = .ok (.iload 6, 2) := qdJ2_compress_5af95_0_24.2.2.2.2.2.2.2.2.2.2.2.2.2.2.2.2.2.2.2.2.1
theorem dJ2_compress_5af95_39 : decode cJ2_compress_5af95 39 = .ok (.i2b, 1) := qdJ2_compress_5af95_0_24.2.2.2.2.2.2.2.2.2.2.2.2.2.2.2.2.2.2.2.2.2.1
theorem dJ2_compress_5af95_40 : decode cJ2_compress_5af95 40 = .ok (.bastore, 1) := qdJ2_compress_5af95_0_24.2.2.2.2.2.2.2.2.2.2.2.2.2.2.2.2.2.2.2.2.2.2.1
theorem dJ2_compress_5af95_41 : decode cJ2_compress_5af95 41 = .ok (.iinc 1 1, 3) := qdJ2_compress_5af95_0_24.2.2.2.2.2.2.2.2.2.2.2.2.2.2.2.2.2.2.2.2.2.2.2.1
theorem qdJ2_compress_5af95_44_5 : dcAll cJ2_compress_5af95 [(44, .iinc 3 1, 3), (47, .iinc 5 1, 3), (50, .goto (-40), 3), (53, .iload 4, 2), (55, .ireturn, 1)] := dcAll_of (by decide +kernel)
theorem dJ2_compress_5af95_44 : decode cJ2_compress_5af95 44 = .ok (.iinc 3 1, 3) := qdJ2_compress_5af95_44_5.1
theorem dJ2_compress_5af95_47 : decode cJ2_compress_5af95 47 = .ok (.iinc 5 1, 3) := qdJ2_compress_5af95_44_5.2.1
theorem dJ2_compress_5af95_50 : decode cJ2_compress_5af95 50 = .ok (.goto (-40), 3) := qdJ2_compress_5af95_44_5.2.2.1
theorem dJ2_compress_5af95_53 : decode cJ2_compress_5af95 53 = .ok (.iload 4, 2) := qdJ2_compress_5af95_44_5.2.2.2.1
theorem dJ2_compress_5af95_55 : decode cJ2_compress_5af95 55 = .ok (.ireturn, 1) := qdJ2_compress_5af95_44_5.2.2.2.2.1
set_option maxRecDepth 20000 in
theorem ggJ2_putCharSB_b72d1_J2_checkIndex_2214a : GoodIn wsJ2_putCharSB_b72d1 wsJ2_checkIndex_2214a := goodIn_r _ [4, 5, 6, 3, 7, 8, 9, 10, 11, 12, 13, 14, 15, 16] rfl (by decide +kernel)
set_option maxRecDepth 20000 in
theorem gJ2_putCharSB_b72d1_J2_checkIndex_2214a : GoodIn wsJ2_putCharSB_b72d1 (va_wsS RJ2 67 yJ2_checkIndex_2214a wsJ2_checkIndex_2214a) := goodIn_app (goodIn_r _ [1, 2, 3] rfl rfl) ggJ2_putCharSB_b72d1_J2_checkIndex_2214a
set_option maxRecDepth 20000 in
theorem ggJ2_putCharSB_b72d1_J2_putChar_b72d1 : GoodIn wsJ2_putCharSB_b72d1 wsJ2_putChar_b72d1 := goodIn_r _ [19, 20, 21, 22, 5, 6, 3, 7] rfl (by decide +kernel)
set_option maxRecDepth 20000 in
theorem gJ2_putCharSB_b72d1_J2_putChar_b72d1 : GoodIn wsJ2_putCharSB_b72d1 (va_wsS RJ2 111 yJ2_putChar_b72d1 wsJ2_putChar_b72d1) := goodIn_app (goodIn_r _ [17, 18, 3] rfl rfl) ggJ2_putCharSB_b72d1_J2_putChar_b72d1
theorem qdJ2_putCharSB_b72d1_0_8 : dcAll cJ2_putCharSB_b72d1 [(0, .iload_n 1, 1), (1, .aload_n 0, 1), (2, .invokestatic 67, 3), (5, .aload_n 0, 1), (6, .iload_n 1, 1), (7, .iload_n 2, 1), (8, .invokestatic 111, 3), (11, .return_, 1)] := dcAll_of (by decide +kernel)
theorem dJ2_putCharSB_b72d1_0 : decode cJ2_putCharSB_b72d1 0 = .ok (.iload_n 1, 1) := qdJ2_putCharSB_b72d1_0_8.1
theorem dJ2_putCharSB_b72d1_1 : decode cJ2_putCharSB_b72d1 1 = .ok (.aload_n 0, 1) := qdJ2_putCharSB_b72d1_0_8.2.1
theorem dJ2_putCharSB_b72d1_2 : decode cJ2_putCharSB_b72d1 2 = .ok (.invokestatic 67, 3) := qdJ2_putCharSB_b72d1_0_8.2.2.1
theorem dJ2_putCharSB_b72d1_5 : decode cJ2_putCharSB_b72d1 5 = .ok (.aload_n 0, 1) := qdJ2_putCharSB_b72d1_0_8.2.2.2.1
theorem dJ2_putCharSB_b72d1_6 : decode cJ2_putCharSB_b72d1 6 = .ok (.iload_n 1, 1) := qdJ2_putCharSB_b72d1_0_8.2.2.2.2.1
theorem dJ2_putCharSB_b72d1_7 : decode cJ2_putCharSB_b72d1 7 = .ok (.iload_n 2, 1) := qdJ2_putCharSB_b72d1_0_8.2.2.2.2.2.1
theorem dJ2_putCharSB_b72d1_8 : decode cJ2_putCharSB_b72d1 8 = .ok (.invokestatic 111, 3) := qdJ2_putCharSB_b72d1_0_8.2.2.2.2.2.2.1
theorem dJ2_putCharSB_b72d1_11 : decode cJ2_putCharSB_b72d1 11 = .ok (.return_, 1) := qdJ2_putCharSB_b72d1_0_8.2.2.2.2.2.2.2.1
set_option maxRecDepth 20000 in
theorem ggJ2_getChars_46870_J2_checkBoundsBeginEnd_d044e : GoodIn wsJ2_getChars_46870 wsJ2_checkBoundsBeginEnd_d044e := goodIn_r _ [5, 6, 7, 4, 8, 9, 10, 11, 12, 13, 14, 15, 16, 17] rfl (by decide +kernel)
set_option maxRecDepth 20000 in
theorem gJ2_getChars_46870_J2_checkBoundsBeginEnd_d044e : GoodIn wsJ2_getChars_46870 (va_wsS RJ2 96 yJ2_checkBoundsBeginEnd_d044e wsJ2_checkBoundsBeginEnd_d044e) := goodIn_app (goodIn_r _ [2, 3, 4] rfl rfl) ggJ2_getChars_46870_J2_checkBoundsBeginEnd_d044e
set_option maxRecDepth 20000 in
theorem ggJ2_getChars_46870_J2_getChars_ba4f3 : GoodIn wsJ2_getChars_46870 wsJ2_getChars_ba4f3 := goodIn_r _ [20, 21, 22, 23, 24, 4, 25, 1, 26, 27, 6, 7, 8] rfl (by decide +kernel)
set_option maxRecDepth 20000 in
theorem gJ2_getChars_46870_J2_getChars_ba4f3 : GoodIn wsJ2_getChars_46870 (va_wsS RJ2 393 yJ2_getChars_ba4f3 wsJ2_getChars_ba4f3) := goodIn_app (goodIn_r _ [18, 19, 4] rfl rfl) ggJ2_getChars_46870_J2_getChars_ba4f3
theorem qdJ2_getChars_46870_0_20 : dcAll cJ2_getChars_46870 [(0, .iload_n 1, 1), (1, .iload_n 2, 1), (2, .aload_n 3, 1), (3, .invokestatic 96, 3), (6, .iload_n 0, 1), (7, .iload_n 2, 1), (8, .aload_n 3, 1), (9, .invokestatic 393, 3), (12, .istore 4, 2), (14, .getstatic 44, 3), (17, .ifCond .ne 17, 3), (20, .iload_n 1, 1), (21, .iload 4, 2), (23, .if_icmp .eq 11, 3), (26, .new 52, 3), (29, .dup, 1), (30, .invokespecial 66, 3), (33, .athrow, 1), (34, .iload 4, 2), (36, .ireturn, 1)] := dcAll_of (by decide +kernel)
theorem dJ2_getChars_46870_0 : decode cJ2_getChars_46870 0 = .ok (.iload_n 1, 1) := qdJ2_getChars_46870_0_20.1
theorem dJ2_getChars_46870_1 : decode cJ2_getChars_46870 1 = .ok (.iload_n 2, 1) := qdJ2_getChars_46870_0_20.2.1
theorem dJ2_getChars_46870_2 : decode cJ2_getChars_46870 2 = .ok (.aload_n 3, 1) := qdJ2_getChars_46870_0_20.2.2.1
theorem dJ2_getChars_46870_3 : decode cJ2_getChars_46870 3 = .ok (.invokestatic 96, 3) := qdJ2_getChars_46870_0_20.2.2.2.1
theorem dJ2_getChars_46870_6 : decode cJ2_getChars_46870 6 = .ok (.iload_n 0, 1) := qdJ2_getChars_46870_0_20.2.2.2.2.1
theorem dJ2_getChars_46870_7 : decode cJ2_getChars_46870 7 = .ok (.iload_n 2, 1) := qdJ2_getChars_46870_0_20.2.2.2.2.2.1
theorem dJ2_getChars_46870_8 : decode cJ2_getChars_46870 8 = .ok (.aload_n 3, 1) := qdJ2_getChars_46870_0_20.2.2.2.2.2.2.1
theorem dJ2_getChars_46870_9 : decode cJ2_getChars_46870 9 = .ok (.invokestatic 393, 3) := qdJ2_getChars_46870_0_20.2.2.2.2.2.2.2.1
theorem dJ2_getChars_46870_12 : decode cJ2_getChars_46870 12 = .ok (.istore 4, 2) := qdJ2_getChars_46870_0_20.2.2.2.2.2.2.2.2.1
theorem dJ2_getChars_46870_14 : decode cJ2_getChars_46870 14 = .ok (.getstatic 44, 3) := qdJ2_getChars_46870_0_20.2.2.2.2.2.2.2.2.2.1
theorem dJ2_getChars_46870_17 : decode cJ2_getChars_46870 17 = .ok (.ifCond .ne 17, 3) := qdJ2_getChars_46870_0_20.2.2.2.2.2.2.2.2.2.2.1
theorem dJ2_getChars_46870_20 : decode cJ2_getChars_46870 20 = .ok (.iload_n 1, 1) := qdJ2_getChars_46870_0_20.2.2.2.2.2.2.2.2.2.2.2.1
theorem dJ2_getChars_46870_21 : decode cJ2_getChars_46870 21 = .ok (.iload 4, 2) := qdJ2_getChars_46870_0_20.2.2.2.2.2.2.2.2.2.2.2.2.1
theorem dJ2_getChars_46870_23 : decode cJ2_getChars_46870 23 = .ok (.if_icmp .eq 11, 3) := qdJ2_getChars_46870_0_20.2.2.2.2.2.2.2.2.2.2.2.2.2.1
theorem dJ2_getChars_46870_26 : decode cJ2_getChars_46870 26 = .ok (.new 52, 3) := qdJ2_getChars_46870_0_20.2.2.2.2.2.2.2.2.2.2.2.2.2.2.1
theorem dJ2_getChars_46870_29 : decode cJ2_getChars_46870 29 = .ok (.dup, 1) := qdJ2_getChars_46870_0_20.2.2.2.2.2.2.2.2.2.2.2.2.2.2.2.1
theorem dJ2_getChars_46870_30 : decode cJ2_getChars_46870 30 = .ok (.invokespecial 66, 3) := qdJ2_getChars_46870_0_20.2.2.2.2.2.2.2.2.2.2.2.2.2.2.2.2.1
theorem dJ2_getChars_46870_33 : decode cJ2_getChars_46870 33 = .ok (.athrow, 1) := qdJ2_getChars_46870_0_20.2.2.2.2.2.2.2.2.2.2.2.2.2.2.2.2.2.1
theorem dJ2_getChars_46870_34 : decode cJ2_getChars_46870 34 = .ok (.iload 4, 2) := qdJ2_getChars_46870_0_20.2.2.2.2.2.2.2.2.2.2.2.2.2.2.2.2.2.2.1
theorem dJ2_getChars_46870_36 : decode cJ2_getChars_46870 36 = .ok (.ireturn, 1) := qdJ2_getChars_46870_0_20.2.2.2.2.2.2.2.2.2.2.2.2.2.2.2.2.2.2.2.1
set_option maxRecDepth 20000 in
theorem ggJ2_getChars_1ba55_J2_checkBoundsBeginEnd_d044e : GoodIn wsJ2_getChars_1ba55 wsJ2_checkBoundsBeginEnd_d044e := goodIn_r _ [5, 6, 7, 4, 8, 9, 10, 11, 12, 13, 14, 15, 16, 17] rfl (by decide +kernel)
set_option maxRecDepth 20000 in
theorem gJ2_getChars_1ba55_J2_checkBoundsBeginEnd_d044e : GoodIn wsJ2_getChars_1ba55 (va_wsS RJ2 96 yJ2_checkBoundsBeginEnd_d044e wsJ2_checkBoundsBeginEnd_d044e) := goodIn_app (goodIn_r _ [2, 3, 4] rfl rfl) ggJ2_getChars_1ba55_J2_checkBoundsBeginEnd_d044e
set_option maxRecDepth 20000 in
theorem ggJ2_getChars_1ba55_J2_getChars_11360 : GoodIn wsJ2_getChars_1ba55 wsJ2_getChars_11360 := goodIn_r _ [20, 21, 22, 23, 24, 25, 26, 4, 27, 1, 28, 29, 6, 7, 8] rfl (by decide +kernel)
set_option maxRecDepth 20000 in
theorem gJ2_getChars_1ba55_J2_getChars_11360 : GoodIn wsJ2_getChars_1ba55 (va_wsS RJ2 396 yJ2_getChars_11360 wsJ2_getChars_11360) := goodIn_app (goodIn_r _ [18, 19, 4] rfl rfl) ggJ2_getChars_1ba55_J2_getChars_11360
theorem qdJ2_getChars_1ba55_0_20 : dcAll cJ2_getChars_1ba55 [(0, .iload_n 2, 1), (1, .iload_n 3, 1), (2, .aload 4, 2), (4, .invokestatic 96, 3), (7, .lload_n 0, 1), (8, .iload_n 3, 1), (9, .aload 4, 2), (11, .invokestatic 396, 3), (14, .istore 5, 2), (16, .getstatic 44, 3), (19, .ifCond .ne 17, 3), (22, .iload_n 2, 1), (23, .iload 5, 2), (25, .if_icmp .eq 11, 3), (28, .new 52, 3), (31, .dup, 1), (32, .invokespecial 66, 3), (35, .athrow, 1), (36, .iload 5, 2), (38, .ireturn, 1)] := dcAll_of (by decide +kernel)
theorem dJ2_getChars_1ba55_0 : decode cJ2_getChars_1ba55 0 = .ok (.iload_n 2, 1) := qdJ2_getChars_1ba55_0_20.1
theorem dJ2_getChars_1ba55_1 : decode cJ2_getChars_1ba55 1 = .ok (.iload_n 3, 1) := qdJ2_getChars_1ba55_0_20.2.1
theorem dJ2_getChars_1ba55_2 : decode cJ2_getChars_1ba55 2 = .ok (.aload 4, 2) := qdJ2_getChars_1ba55_0_20.2.2.1
theorem dJ2_getChars_1ba55_4 : decode cJ2_getChars_1ba55 4 = .ok (.invokestatic 96, 3) := qdJ2_getChars_1ba55_0_20.2.2.2.1
theorem dJ2_getChars_1ba55_7 : decode cJ2_getChars_1ba55 7 = .ok (.lload_n 0, 1) := qdJ2_getChars_1ba55_0_20.2.2.2.2.1
theorem dJ2_getChars_1ba55_8 : decode cJ2_getChars_1ba55 8 = .ok (.iload_n 3, 1) := qdJ2_getChars_1ba55_0_20.2.2.2.2.2.1
theorem dJ2_getChars_1ba55_9 : decode cJ2_getChars_1ba55 9 = .ok (.aload 4, 2) := qdJ2_getChars_1ba55_0_20.2.2.2.2.2.2.1
theorem dJ2_getChars_1ba55_11 : decode cJ2_getChars_1ba55 11 = .ok (.invokestatic 396, 3) := qdJ2_getChars_1ba55_0_20.2.2.2.2.2.2.2.1
theorem dJ2_getChars_1ba55_14 : decode cJ2_getChars_1ba55 14 = .ok (.istore 5, 2) := qdJ2_getChars_1ba55_0_20.2.2.2.2.2.2.2.2.1
theorem dJ2_getChars_1ba55_16 : decode cJ2_getChars_1ba55 16 = .ok (.getstatic 44, 3) := qdJ2_getChars_1ba55_0_20.2.2.2.2.2.2.2.2.2.1
theorem dJ2_getChars_1ba55_19 : decode cJ2_getChars_1ba55 19 = .ok (.ifCond .ne 17, 3) := qdJ2_getChars_1ba55_0_20.2.2.2.2.2.2.2.2.2.2.1
theorem dJ2_getChars_1ba55_22 : decode cJ2_getChars_1ba55 22 = .ok (.iload_n 2, 1) := qdJ2_getChars_1ba55_0_20.2.2.2.2.2.2.2.2.2.2.2.1
theorem dJ2_getChars_1ba55_23 : decode cJ2_getChars_1ba55 23 = .ok (.iload 5, 2) := qdJ2_getChars_1ba55_0_20.2.2.2.2.2.2.2.2.2.2.2.2.1
theorem dJ2_getChars_1ba55_25 : decode cJ2_getChars_1ba55 25 = .ok (.if_icmp .eq 11, 3) := qdJ2_getChars_1ba55_0_20.2.2.2.2.2.2.2.2.2.2.2.2.2.1
theorem dJ2_getChars_1ba55_28 : decode cJ2_getChars_1ba55 28 = .ok (.new 52, 3) := qdJ2_getChars_1ba55_0_20.2.2.2.2.2.2.2.2.2.2.2.2.2.2.1
theorem dJ2_getChars_1ba55_31 : decode cJ2_getChars_1ba55 31 = .ok (.dup, 1) := qdJ2_getChars_1ba55_0_20.2.2.2.2.2.2.2.2.2.2.2.2.2.2.2.1
theorem dJ2_getChars_1ba55_32 : decode cJ2_getChars_1ba55 32 = .ok (.invokespecial 66, 3) := qdJ2_getChars_1ba55_0_20.2.2.2.2.2.2.2.2.2.2.2.2.2.2.2.2.1
theorem dJ2_getChars_1ba55_35 : decode cJ2_getChars_1ba55 35 = .ok (.athrow, 1) := qdJ2_getChars_1ba55_0_20.2.2.2.2.2.2.2.2.2.2.2.2.2.2.2.2.2.1
theorem dJ2_getChars_1ba55_36 : decode cJ2_getChars_1ba55 36 = .ok (.iload 5, 2) := qdJ2_getChars_1ba55_0_20.2.2.2.2.2.2.2.2.2.2.2.2.2.2.2.2.2.2.1
theorem dJ2_getChars_1ba55_38 : decode cJ2_getChars_1ba55 38 = .ok (.ireturn, 1) := qdJ2_getChars_1ba55_0_20.2.2.2.2.2.2.2.2.2.2.2.2.2.2.2.2.2.2.2.1
set_option maxRecDepth 20000 in
theorem ggJ2_putCharsAt_cd4e5_J2_checkBoundsBeginEnd_d044e : GoodIn wsJ2_putCharsAt_cd4e5 wsJ2_checkBoundsBeginEnd_d044e := goodIn_r _ [5, 6, 7, 4, 8, 9, 10, 11, 12, 13, 14, 15, 16, 17] rfl (by decide +kernel)
set_option maxRecDepth 20000 in
theorem gJ2_putCharsAt_cd4e5_J2_checkBoundsBeginEnd_d044e : GoodIn wsJ2_putCharsAt_cd4e5 (va_wsS RJ2 96 yJ2_checkBoundsBeginEnd_d044e wsJ2_checkBoundsBeginEnd_d044e) := goodIn_app (goodIn_r _ [2, 3, 4] rfl rfl) ggJ2_putCharsAt_cd4e5_J2_checkBoundsBeginEnd_d044e
set_option maxRecDepth 20000 in
theorem ggJ2_putCharsAt_cd4e5_J2_putChar_b72d1 : GoodIn wsJ2_putCharsAt_cd4e5 wsJ2_putChar_b72d1 := goodIn_r _ [20, 1, 21, 22, 6, 7, 4, 8] rfl (by decide +kernel)
set_option maxRecDepth 20000 in
theorem gJ2_putCharsAt_cd4e5_J2_putChar_b72d1 : GoodIn wsJ2_putCharsAt_cd4e5 (va_wsS RJ2 111 yJ2_putChar_b72d1 wsJ2_putChar_b72d1) := goodIn_app (goodIn_r _ [18, 19, 4] rfl rfl) ggJ2_putCharsAt_cd4e5_J2_putChar_b72d1
theorem qdJ2_putCharsAt_cd4e5_0_24 : dcAll cJ2_putCharsAt_cd4e5 [(0, .iload_n 1, 1), (1, .iconst 4, 1), (2, .iadd, 1), (3, .istore 6, 2), (5, .iload_n 1, 1), (6, .iload 6, 2), (8, .aload_n 0, 1), (9, .invokestatic 96, 3), (12, .aload_n 0, 1), (13, .iload_n 1, 1), (14, .iinc 1 1, 3), (17, .iload_n 2, 1), (18, .invokestatic 111, 3), (21, .aload_n 0, 1), (22, .iload_n 1, 1), (23, .iinc 1 1, 3), (26, .iload_n 3, 1), (27, .invokestatic 111, 3), (30, .aload_n 0, 1), (31, .iload_n 1, 1), (32, .iinc 1 1, 3), (35, .iload 4, 2), (37, .invokestatic 111, 3), (40, .aload_n 0, 1)] := dcAll_of (by decide +kernel)
theorem dJ2_putCharsAt_cd4e5_0 : decode cJ2_putCharsAt_cd4e5 0 = .ok (.iload_n 1, 1) := qdJ2_putCharsAt_cd4e5_0_24.1
theorem dJ2_putCharsAt_cd4e5_1 : decode cJ2_putCharsAt_cd4e5 1 = .ok (.iconst 4, 1) := qdJ2_putCharsAt_cd4e5_0_24.2.1
theorem dJ2_putCharsAt_cd4e5_2 : decode cJ2_putCharsAt_cd4e5 2 = .ok (.iadd, 1) := qdJ2_putCharsAt_cd4e5_0_24.2.2.1
theorem dJ2_putCharsAt_cd4e5_3 : decode cJ2_putCharsAt_cd4e5 3 = .ok (.istore 6, 2) := qdJ2_putCharsAt_cd4e5_0_24.2.2.2.1
theorem dJ2_putCharsAt_cd4e5_5 : decode cJ2_putCharsAt_cd4e5 5 = .ok (.iload_n 1, 1) := qdJ2_putCharsAt_cd4e5_0_24.2.2.2.2.1
theorem dJ2_putCharsAt_cd4e5_6 : decode cJ2_putCharsAt_cd4e5 6 = .ok (.iload 6, 2) := qdJ2_putCharsAt_cd4e5_0_24.2.2.2.2.2.1
theorem dJ2_putCharsAt_cd4e5_8 : decode cJ2_putCharsAt_cd4e5 8 = .ok (.aload_n 0, 1) := qdJ2_putCharsAt_cd4e5_0_24.2.2.2.2.2.2.1
theorem dJ2_putCharsAt_cd4e5_9 : decode cJ2_putCharsAt_cd4e5 9 = .ok (.invokestatic 96, 3) := qdJ2_putCharsAt_cd4e5_0_24.2.2.2.2.2.2.2.1
theorem dJ2_putCharsAt_cd4e5_12 : decode cJ2_putCharsAt_cd4e5 12 = .ok (.aload_n 0, 1) := qdJ2_putCharsAt_cd4e5_0_24.2.2.2.2.2.2.2.2.1
theorem dJ2_putCharsAt_cd4e5_13 : decode cJ2_putCharsAt_cd4e5 13 = .ok (.iload_n 1, 1) := qdJ2_putCharsAt_cd4e5_0_24.2.2.2.2.2.2.2.2.2.1
theorem dJ2_putCharsAt_cd4e5_14 : decode cJ2_putCharsAt_cd4e5 14 = .ok (.iinc 1 1, 3) := qdJ2_putCharsAt_cd4e5_0_24.2.2.2.2.2.2.2.2.2.2.1
theorem dJ2_putCharsAt_cd4e5_17 : decode cJ2_putCharsAt_cd4e5 17 = .ok (.iload_n 2, 1) := qdJ2_putCharsAt_cd4e5_0_24.2.2.2.2.2.2.2.2.2.2.2.1
theorem dJ2_putCharsAt_cd4e5_18 : decode cJ2_putCharsAt_cd4e5 18 = .ok (.invokestatic 111, 3) := qdJ2_putCharsAt_cd4e5_0_24.2.2.2.2.2.2.2.2.2.2.2.2.1
theorem dJ2_putCharsAt_cd4e5_21 : decode cJ2_putCharsAt_cd4e5 21 = .ok (.aload_n 0, 1) := qdJ2_putCharsAt_cd4e5_0_24.2.2.2.2.2.2.2.2.2.2.2.2.2.1
theorem dJ2_putCharsAt_cd4e5_22 : decode cJ2_putCharsAt_cd4e5 22 = .ok (.iload_n 1, 1) := qdJ2_putCharsAt_cd4e5_0_24.2.2.2.2.2.2.2.2.2.2.2.2.2.2.1
theorem dJ2_putCharsAt_cd4e5_23 : decode cJ2_putCharsAt_cd4e5 23 = .ok (.iinc 1 1, 3) := qdJ2_putCharsAt_cd4e5_0_24.2.2.2.2.2.2.2.2.2.2.2.2.2.2.2.1
theorem dJ2_putCharsAt_cd4e5_26 : decode cJ2_putCharsAt_cd4e5 26 = .ok (.iload_n 3, 1) := qdJ2_putCharsAt_cd4e5_0_24.2.2.2.2.2.2.2.2.2.2.2.2.2.2.2.2.1
theorem dJ2_putCharsAt_cd4e5_27 : decode cJ2_putCharsAt_cd4e5 27 = .ok (.invokestatic 111, 3) := qdJ2_putCharsAt_cd4e5_0_24.2.2.2.2.2.2.2.2.2.2.2.2.2.2.2.2.2.1
theorem dJ2_putCharsAt_cd4e5_30 : decode cJ2_putCharsAt_cd4e5 30 = .ok (.aload_n 0, 1) := qdJ2_putCharsAt_cd4e5_0_24.2.2.2.2.2.2.2.2.2.2.2.2.2.2.2.2.2.2.1
theorem dJ2_putCharsAt_cd4e5_31 : decode cJ2_putCharsAt_cd4e5 31 = .ok (.iload_n 1, 1) := qdJ2_putCharsAt_cd4e5_0_24.2.2.2.2.2.2.2.2.2.2.2.2.2.2.2.2.2.2.2.1
theorem dJ2_putCharsAt_cd4e5_32 : decode cJ2_putCharsAt_cd4e5 32 = .ok (.iinc 1 1, 3) := qdJ2_putCharsAt_cd4e5_0_24.2.2.2.2.2.2.2.2.2.2.2.2.2.2.2.2.2.2.2.2.1
theorem dJ2_putCharsAt_cd4e5_35 : decode cJ2_putCharsAt_cd4e5 35 = .ok (.iload 4, 2) := qdJ2_putCharsAt_cd4e5_0_24.2.2.2.2.2.2.2.2.2.2.2.2.2.2.2.2.2.2.2.2.2.1
theorem dJ2_putCharsAt_cd4e5_37 : decode cJ2_putCharsAt_cd4e5 37 = .ok (.invokestatic 111, 3) := qdJ2_putCharsAt_cd4e5_0_24.2.2.2.2.2.2.2.2.2.2.2.2.2.2.2.2.2.2.2.2.2.2.1
theorem dJ2_putCharsAt_cd4e5_40 : decode cJ2_putCharsAt_cd4e5 40 = .ok (.aload_n 0, 1) := qdJ2_putCharsAt_cd4e5_0_24.2.2.2.2.2.2.2.2.2.2.2.2.2.2.2.2.2.2.2.2.2.2.2.1
theorem qdJ2_putCharsAt_cd4e5_41_15 : dcAll cJ2_putCharsAt_cd4e5 [(41, .iload_n 1, 1), (42, .iinc 1 1, 3), (45, .iload 5, 2), (47, .invokestatic 111, 3), (50, .getstatic 44, 3), (53, .ifCond .ne 17, 3), (56, .iload_n 1, 1), (57, .iload 6, 2), (59, .if_icmp .eq 11, 3), (62, .new 52, 3), (65, .dup, 1), (66, .invokespecial 66, 3), (69, .athrow, 1), (70, .iload 6, 2), (72, .ireturn, 1)] := dcAll_of (by decide +kernel)
theorem dJ2_putCharsAt_cd4e5_41 : decode cJ2_putCharsAt_cd4e5 41 = .ok (.iload_n 1, 1) := qdJ2_putCharsAt_cd4e5_41_15.1
theorem dJ2_putCharsAt_cd4e5_42 : decode cJ2_putCharsAt_cd4e5 42 = .ok (.iinc 1 1, 3) := qdJ2_putCharsAt_cd4e5_41_15.2.1
theorem dJ2_putCharsAt_cd4e5_45 : decode cJ2_putCharsAt_cd4e5 45 = .ok (.iload 5, 2) := qdJ2_putCharsAt_cd4e5_41_15.2.2.1
theorem dJ2_putCharsAt_cd4e5_47 : decode cJ2_putCharsAt_cd4e5 47 = .ok (.invokestatic 111, 3) := qdJ2_putCharsAt_cd4e5_41_15.2.2.2.1
theorem dJ2_putCharsAt_cd4e5_50 : decode cJ2_putCharsAt_cd4e5 50 = .ok (.getstatic 44, 3) := qdJ2_putCharsAt_cd4e5_41_15.2.2.2.2.1
theorem dJ2_putCharsAt_cd4e5_53 : decode cJ2_putCharsAt_cd4e5 53 = .ok (.ifCond .ne 17, 3) := qdJ2_putCharsAt_cd4e5_41_15.2.2.2.2.2.1
theorem dJ2_putCharsAt_cd4e5_56 : decode cJ2_putCharsAt_cd4e5 56 = .ok (.iload_n 1, 1) := qdJ2_putCharsAt_cd4e5_41_15.2.2.2.2.2.2.1
theorem dJ2_putCharsAt_cd4e5_57 : decode cJ2_putCharsAt_cd4e5 57 = .ok (.iload 6, 2) := qdJ2_putCharsAt_cd4e5_41_15.2.2.2.2.2.2.2.1
theorem dJ2_putCharsAt_cd4e5_59 : decode cJ2_putCharsAt_cd4e5 59 = .ok (.if_icmp .eq 11, 3) := qdJ2_putCharsAt_cd4e5_41_15.2.2.2.2.2.2.2.2.1
theorem dJ2_putCharsAt_cd4e5_62 : decode cJ2_putCharsAt_cd4e5 62 = .ok (.new 52, 3) := qdJ2_putCharsAt_cd4e5_41_15.2.2.2.2.2.2.2.2.2.1
theorem dJ2_putCharsAt_cd4e5_65 : decode cJ2_putCharsAt_cd4e5 65 = .ok (.dup, 1) := qdJ2_putCharsAt_cd4e5_41_15.2.2.2.2.2.2.2.2.2.2.1
theorem dJ2_putCharsAt_cd4e5_66 : decode cJ2_putCharsAt_cd4e5 66 = .ok (.invokespecial 66, 3) := qdJ2_putCharsAt_cd4e5_41_15.2.2.2.2.2.2.2.2.2.2.2.1
theorem dJ2_putCharsAt_cd4e5_69 : decode cJ2_putCharsAt_cd4e5 69 = .ok (.athrow, 1) := qdJ2_putCharsAt_cd4e5_41_15.2.2.2.2.2.2.2.2.2.2.2.2.1
theorem dJ2_putCharsAt_cd4e5_70 : decode cJ2_putCharsAt_cd4e5 70 = .ok (.iload 6, 2) := qdJ2_putCharsAt_cd4e5_41_15.2.2.2.2.2.2.2.2.2.2.2.2.2.1
theorem dJ2_putCharsAt_cd4e5_72 : decode cJ2_putCharsAt_cd4e5 72 = .ok (.ireturn, 1) := qdJ2_putCharsAt_cd4e5_41_15.2.2.2.2.2.2.2.2.2.2.2.2.2.2.1
set_option maxRecDepth 20000 in
theorem ggJ2_reverse_db04f_J2_checkOffset_2214a : GoodIn wsJ2_reverse_db04f wsJ2_checkOffset_2214a := goodIn_r _ [4, 5, 6, 3, 7, 8, 9, 10, 11, 12, 13, 14, 15, 16] rfl (by decide +kernel)
set_option maxRecDepth 20000 in
theorem gJ2_reverse_db04f_J2_checkOffset_2214a : GoodIn wsJ2_reverse_db04f (va_wsS RJ2 180 yJ2_checkOffset_2214a wsJ2_checkOffset_2214a) := goodIn_app (goodIn_r _ [1, 2, 3] rfl rfl) ggJ2_reverse_db04f_J2_checkOffset_2214a
set_option maxRecDepth 20000 in
theorem ggJ2_reverse_db04f_J2_getChar_3b067 : GoodIn wsJ2_reverse_db04f wsJ2_getChar_3b067 := goodIn_r _ [19, 20, 21, 22, 5, 6, 3, 7] rfl (by decide +kernel)
set_option maxRecDepth 20000 in
theorem gJ2_reverse_db04f_J2_getChar_3b067 : GoodIn wsJ2_reverse_db04f (va_wsS RJ2 71 yJ2_getChar_3b067 wsJ2_getChar_3b067) := goodIn_app (goodIn_r _ [17, 18, 3] rfl rfl) ggJ2_reverse_db04f_J2_getChar_3b067
set_option maxRecDepth 20000 in
theorem ggJ2_reverse_db04f_J2_putChar_b72d1 : GoodIn wsJ2_reverse_db04f wsJ2_putChar_b72d1 := goodIn_r _ [25, 20, 21, 22, 5, 6, 3, 7] rfl (by decide +kernel)
set_option maxRecDepth 20000 in
theorem gJ2_reverse_db04f_J2_putChar_b72d1 : GoodIn wsJ2_reverse_db04f (va_wsS RJ2 111 yJ2_putChar_b72d1 wsJ2_putChar_b72d1) := goodIn_app (goodIn_r _ [23, 24, 3] rfl rfl) ggJ2_reverse_db04f_J2_putChar_b72d1
set_option maxRecDepth 20000 in
theorem ggJ2_reverse_db04f_J11_isSurrogate_fc78d : GoodIn wsJ2_reverse_db04f wsJ11_isSurrogate_fc78d := goodIn_r _ [29, 30, 31] rfl (by decide +kernel)
set_option maxRecDepth 20000 in
theorem gJ2_reverse_db04f_J11_isSurrogate_fc78d : GoodIn wsJ2_reverse_db04f (va_wsS RJ2 212 yJ11_isSurrogate_fc78d wsJ11_isSurrogate_fc78d) := goodIn_app (goodIn_r _ [26, 27, 28] rfl rfl) ggJ2_reverse_db04f_J11_isSurrogate_fc78d
set_option maxRecDepth 20000 in
theorem ggJ2_reverse_db04f_J2_reverseAllValidSurrogatePairs_db04f : GoodIn wsJ2_reverse_db04f wsJ2_reverseAllValidSurrogatePairs_db04f := goodIn_r _ [34, 17, 18, 3, 19, 20, 21, 22, 5, 6, 7, 35, 36, 28, 37, 38, 31, 39, 40, 41, 30, 23, 24, 25] rfl (by decide +kernel)
set_option maxRecDepth 20000 in
theorem gJ2_reverse_db04f_J2_reverseAllValidSurrogatePairs_db04f : GoodIn wsJ2_reverse_db04f (va_wsS RJ2 399 yJ2_reverseAllValidSurrogatePairs_db04f wsJ2_reverseAllValidSurrogatePairs_db04f) := goodIn_app (goodIn_r _ [32, 33, 3] rfl rfl) ggJ2_reverse_db04f_J2_reverseAllValidSurrogatePairs_db04f
theorem qdJ2_reverse_db04f_0_24 : dcAll cJ2_reverse_db04f [(0, .iload_n 1, 1), (1, .aload_n 0, 1), (2, .invokestatic 180, 3), (5, .iload_n 1, 1), (6, .iconst 1, 1), (7, .isub, 1), (8, .istore_n 2, 1), (9, .iconst 0, 1), (10, .istore_n 3, 1), (11, .iload_n 2, 1), (12, .iconst 1, 1), (13, .isub, 1), (14, .iconst 1, 1), (15, .ishr, 1), (16, .istore 4, 2), (18, .iload 4, 2), (20, .ifCond .lt 65, 3), (23, .iload_n 2, 1), (24, .iload 4, 2), (26, .isub, 1), (27, .istore 5, 2), (29, .aload_n 0, 1), (30, .iload 4, 2), (32, .invokestatic 71, 3)] := dcAll_of (by decide +kernel)
theorem dJ2_reverse_db04f_0 : decode cJ2_reverse_db04f 0 = .ok (.iload_n 1, 1) := qdJ2_reverse_db04f_0_24.1
theorem dJ2_reverse_db04f_1 : decode cJ2_reverse_db04f 1 = .ok (.aload_n 0, 1) := qdJ2_reverse_db04f_0_24.2.1
theorem dJ2_reverse_db04f_2 : decode cJ2_reverse_db04f 2 = .ok (.invokestatic 180, 3) := qdJ2_reverse_db04f_0_24.2.2.1
theorem dJ2_reverse_db04f_5 : decode cJ2_reverse_db04f 5 = .ok (.iload_n 1, 1) := qdJ2_reverse_db04f_0_24.2.2.2.1
theorem dJ2_reverse_db04f_6 : decode cJ2_reverse_db04f 6 = .ok (.iconst 1, 1) := qdJ2_reverse_db04f_0_24.2.2.2.2.1
theorem dJ2_reverse_db04f_7 : decode cJ2_reverse_db04f 7 = .ok (.isub, 1) := qdJ2_reverse_db04f_0_24.2.2.2.2.2.1
theorem dJ2_reverse_db04f_8 : decode cJ2_reverse_db04f 8 = .ok (.istore_n 2, 1) := qdJ2_reverse_db04f_0_24.2.2.2.2.2.2.1
theorem dJ2_reverse_db04f_9 : decode cJ2_reverse_db04f 9 = .ok (.iconst 0, 1) := qdJ2_reverse_db04f_0_24.2.2.2.2.2.2.2.1
theorem dJ2_reverse_db04f_10 : decode cJ2_reverse_db04f 10 = .ok (.istore_n 3, 1) := qdJ2_reverse_db04f_0_24.2.2.2.2.2.2.2.2.1
theorem dJ2_reverse_db04f_11 : decode cJ2_reverse_db04f 11 = .ok (.iload_n 2, 1) := qdJ2_reverse_db04f_0_24.2.2.2.2.2.2.2.2.2.1
theorem dJ2_reverse_db04f_12 : decode cJ2_reverse_db04f 12 = .ok (.iconst 1, 1) := qdJ2_reverse_db04f_0_24.2.2.2.2.2.2.2.2.2.2.1
theorem dJ2_reverse_db04f_13 : decode cJ2_reverse_db04f 13 = .ok (.isub, 1) := qdJ2_reverse_db04f_0_24.2.2.2.2.2.2.2.2.2.2.2.1
theorem dJ2_reverse_db04f_14 : decode cJ2_reverse_db04f 14 = .ok (.iconst 1, 1) := qdJ2_reverse_db04f_0_24.2.2.2.2.2.2.2.2.2.2.2.2.1
theorem dJ2_reverse_db04f_15 : decode cJ2_reverse_db04f 15 = .ok (.ishr, 1) := qdJ2_reverse_db04f_0_24.2.2.2.2.2.2.2.2.2.2.2.2.2.1
theorem dJ2_reverse_db04f_16 : decode cJ2_reverse_db04f 16 = .ok (.istore 4, 2) := qdJ2_reverse_db04f_0_24.2.2.2.2.2.2.2.2.2.2.2.2.2.2.1
theorem dJ2_reverse_db04f_18 : decode cJ2_reverse_db04f 18 = .ok (.iload 4, 2) := qdJ2_reverse_db04f_0_24.2.2.2.2.2.2.2.2.2.2.2.2.2.2.2.1
theorem dJ2_reverse_db04f_20 : decode cJ2_reverse_db04f 20 = .ok (.ifCond .lt 65, 3) := qdJ2_reverse_db04f_0_24.2.2.2.2.2.2.2.2.2.2.2.2.2.2.2.2.1
theorem dJ2_reverse_db04f_23 : decode cJ2_reverse_db04f 23 = .ok (.iload_n 2, 1) := qdJ2_reverse_db04f_0_24.2.2.2.2.2.2.2.2.2.2.2.2.2.2.2.2.2.1
theorem dJ2_reverse_db04f_24 : decode cJ2_reverse_db04f 24 = .ok (.iload 4, 2) := qdJ2_reverse_db04f_0_24.2.2.2.2.2.2.2.2.2.2.2.2.2.2.2.2.2.2.1
theorem dJ2_reverse_db04f_26 : decode cJ2_reverse_db04f 26 = .ok (.isub, 1) := qdJ2_reverse_db04f_0_24.2.2.2.2.2.2.2.2.2.2.2.2.2.2.2.2.2.2.2.1
theorem dJ2_reverse_db04f_27 : decode cJ2_reverse_db04f 27 = .ok (.istore 5, 2) := qdJ2_reverse_db04f_0_24.2.2.2.2.2.2.2.2.2.2.2.2.2.2.2.2.2.2.2.2.1
theorem dJ2_reverse_db04f_29 : decode cJ2_reverse_db04f 29 = .ok (.aload_n 0, 1) := qdJ2_reverse_db04f_0_24.2.2.2.2.2.2.2.2.2.2.2.2.2.2.2.2.2.2.2.2.2.1
theorem dJ2_reverse_db04f_30 : decode cJ2_reverse_db04f 30 = .ok (.iload 4, 2) := qdJ2_reverse_db04f_0_24.2.2.2.2.2.2.2.2.2.2.2.2.2.2.2.2.2.2.2.2.2.2.1
theorem dJ2_reverse_db04f_32 : decode cJ2_reverse_db04f 32 = .ok (.invokestatic 71, 3) := qdJ2_reverse_db04f_0_24.2.2.2.2.2.2.2.2.2.2.2.2.2.2.2.2.2.2.2.2.2.2.2.1
theorem qdJ2_reverse_db04f_35_24 : dcAll cJ2_reverse_db04f [(35, .istore 6, 2), (37, .aload_n 0, 1), (38, .iload 5, 2), (40, .invokestatic 71, 3), (43, .istore 7, 2), (45, .aload_n 0, 1), (46, .iload 4, 2), (48, .iload 7, 2), (50, .invokestatic 111, 3), (53, .aload_n 0, 1), (54, .iload 5, 2), (56, .iload 6, 2), (58, .invokestatic 111, 3), (61, .iload 6, 2), (63, .invokestatic 212, 3), (66, .ifCond .ne 11, 3), (69, .iload 7, 2), (71, .invokestatic 212, 3), (74, .ifCond .eq 5, 3), (77, .iconst 1, 1), (78, .istore_n 3, 1), (79, .iinc 4 (-1), 3), (82, .goto (-64), 3), (85, .iload_n 3, 1)] := dcAll_of (by decide +kernel)
theorem dJ2_reverse_db04f_35 : decode cJ2_reverse_db04f 35 = .ok (.istore 6, 2) := qdJ2_reverse_db04f_35_24.1
theorem dJ2_reverse_db04f_37 : decode cJ2_reverse_db04f 37 = .ok (.aload_n 0, 1) := qdJ2_reverse_db04f_35_24.2.1
theorem dJ2_reverse_db04f_38 : decode cJ2_reverse_db04f 38 = .ok (.iload 5, 2) := qdJ2_reverse_db04f_35_24.2.2.1
theorem dJ2_reverse_db04f_40 : decode cJ2_reverse_db04f 40 = .ok (.invokestatic 71, 3) := qdJ2_reverse_db04f_35_24.2.2.2.1
theorem dJ2_reverse_db04f_43 : decode cJ2_reverse_db04f 43 = .ok (.istore 7, 2) := qdJ2_reverse_db04f_35_24.2.2.2.2.1
theorem dJ2_reverse_db04f_45 : decode cJ2_reverse_db04f 45 = .ok (.aload_n 0, 1) := qdJ2_reverse_db04f_35_24.2.2.2.2.2.1
theorem dJ2_reverse_db04f_46 : decode cJ2_reverse_db04f 46 = .ok (.iload 4, 2) := qdJ2_reverse_db04f_35_24.2.2.2.2.2.2.1
theorem dJ2_reverse_db04f_48 : decode cJ2_reverse_db04f 48 = .ok (.iload 7, 2) := qdJ2_reverse_db04f_35_24.2.2.2.2.2.2.2.1
theorem dJ2_reverse_db04f_50 : decode cJ2_reverse_db04f 50 = .ok (.invokestatic 111, 3) := qdJ2_reverse_db04f_35_24.2.2.2.2.2.2.2.2.1
theorem dJ2_reverse_db04f_53 : decode cJ2_reverse_db04f 53 = .ok (.aload_n 0, 1) := qdJ2_reverse_db04f_35_24.2.2.2.2.2.2.2.2.2.1
theorem dJ2_reverse_db04f_54 : decode cJ2_reverse_db04f 54 = .ok (.iload 5, 2) := qdJ2_reverse_db04f_35_24.2.2.2.2.2.2.2.2.2.2.1
theorem dJ2_reverse_db04f_56 : decode cJ2_reverse_db04f 56 = .ok (.iload 6, 2) := qdJ2_reverse_db04f_35_24.2.2.2.2.2.2.2.2.2.2.2.1
theorem dJ2_reverse_db04f_58 : decode cJ2_reverse_db04f 58 = .ok (.invokestatic 111, 3) := qdJ2_reverse_db04f_35_24.2.2.2.2.2.2.2.2.2.2.2.2.1
theorem dJ2_reverse_db04f_61 : decode cJ2_reverse_db04f 61 = .ok (.iload 6, 2) := qdJ2_reverse_db04f_35_24.2.2.2.2.2.2.2.2.2.2.2.2.2.1
theorem dJ2_reverse_db04f_63 : decode cJ2_reverse_db04f 63 = .ok (.invokestatic 212, 3) := qdJ2_reverse_db04f_35_24.2.2.2.2.2.2.2.2.2.2.2.2.2.2.1
theorem dJ2_reverse_db04f_66 : decode cJ2_reverse_db04f 66 = .ok (.ifCond .ne 11, 3) := qdJ2_reverse_db04f_35_24.2.2.2.2.2.2.2.2.2.2.2.2.2.2.2.1
theorem dJ2_reverse_db04f_69 : decode cJ2_reverse_db04f 69 = .ok (.iload 7, 2) := qdJ2_reverse_db04f_35_24.2.2.2.2.2.2.2.2.2.2.2.2.2.2.2.2.1
theorem dJ2_reverse_db04f_71 : decode cJ2_reverse_db04f 71 = .ok (.invokestatic 212, 3) := qdJ2_reverse_db04f_35_24.2.2.2.2.2.2.2.2.2.2.2.2.2.2.2.2.2.1
theorem dJ2_reverse_db04f_74 : decode cJ2_reverse_db04f 74 = .ok (.ifCond .eq 5, 3) := qdJ2_reverse_db04f_35_24.2.2.2.2.2.2.2.2.2.2.2.2.2.2.2.2.2.2.1
theorem dJ2_reverse_db04f_77 : decode cJ2_reverse_db04f 77 = .ok (.iconst 1, 1) := qdJ2_reverse_db04f_35_24.2.2.2.2.2.2.2.2.2.2.2.2.2.2.2.2.2.2.2.1
theorem dJ2_reverse_db04f_78 : decode cJ2_reverse_db04f 78 = .ok (.istore_n 3, 1) := qdJ2_reverse_db04f_35_24.2.2.2.2.2.2.2.2.2.2.2.2.2.2.2.2.2.2.2.2.1
theorem dJ2_reverse_db04f_79 : decode cJ2_reverse_db04f 79 = .ok (.iinc 4 (-1), 3) := qdJ2_reverse_db04f_35_24.2.2.2.2.2.2.2.2.2.2.2.2.2.2.2.2.2.2.2.2.2.1
theorem dJ2_reverse_db04f_82 : decode cJ2_reverse_db04f 82 = .ok (.goto (-64), 3) := qdJ2_reverse_db04f_35_24.2.2.2.2.2.2.2.2.2.2.2.2.2.2.2.2.2.2.2.2.2.2.1
theorem dJ2_reverse_db04f_85 : decode cJ2_reverse_db04f 85 = .ok (.iload_n 3, 1) := qdJ2_reverse_db04f_35_24.2.2.2.2.2.2.2.2.2.2.2.2.2.2.2.2.2.2.2.2.2.2.2.1
theorem qdJ2_reverse_db04f_86_5 : dcAll cJ2_reverse_db04f [(86, .ifCond .eq 8, 3), (89, .aload_n 0, 1), (90, .iload_n 1, 1), (91, .invokestatic 399, 3), (94, .return_, 1)] := dcAll_of (by decide +kernel)
theorem dJ2_reverse_db04f_86 : decode cJ2_reverse_db04f 86 = .ok (.ifCond .eq 8, 3) := qdJ2_reverse_db04f_86_5.1
theorem dJ2_reverse_db04f_89 : decode cJ2_reverse_db04f 89 = .ok (.aload_n 0, 1) := qdJ2_reverse_db04f_86_5.2.1
theorem dJ2_reverse_db04f_90 : decode cJ2_reverse_db04f 90 = .ok (.iload_n 1, 1) := qdJ2_reverse_db04f_86_5.2.2.1
theorem dJ2_reverse_db04f_91 : decode cJ2_reverse_db04f 91 = .ok (.invokestatic 399, 3) := qdJ2_reverse_db04f_86_5.2.2.2.1
theorem dJ2_reverse_db04f_94 : decode cJ2_reverse_db04f 94 = .ok (.return_, 1) := qdJ2_reverse_db04f_86_5.2.2.2.2.1
set_option maxRecDepth 20000 in
theorem ggJ2_reverseAllValidSurrogatePairs_db04f_J2_getChar_3b067 : GoodIn wsJ2_reverseAllValidSurrogatePairs_db04f wsJ2_getChar_3b067 := goodIn_r _ [4, 5, 6, 7, 8, 9, 3, 10] rfl (by decide +kernel)
set_option maxRecDepth 20000 in
theorem gJ2_reverseAllValidSurrogatePairs_db04f_J2_getChar_3b067 : GoodIn wsJ2_reverseAllValidSurrogatePairs_db04f (va_wsS RJ2 71 yJ2_getChar_3b067 wsJ2_getChar_3b067) := goodIn_app (goodIn_r _ [1, 2, 3] rfl rfl) ggJ2_reverseAllValidSurrogatePairs_db04f_J2_getChar_3b067
set_option maxRecDepth 20000 in
theorem ggJ2_reverseAllValidSurrogatePairs_db04f_J11_isLowSurrogate_fc78d : GoodIn wsJ2_reverseAllValidSurrogatePairs_db04f wsJ11_isLowSurrogate_fc78d := goodIn_r _ [14, 15, 16] rfl (by decide +kernel)
set_option maxRecDepth 20000 in
theorem gJ2_reverseAllValidSurrogatePairs_db04f_J11_isLowSurrogate_fc78d : GoodIn wsJ2_reverseAllValidSurrogatePairs_db04f (va_wsS RJ2 81 yJ11_isLowSurrogate_fc78d wsJ11_isLowSurrogate_fc78d) := goodIn_app (goodIn_r _ [11, 12, 13] rfl rfl) ggJ2_reverseAllValidSurrogatePairs_db04f_J11_isLowSurrogate_fc78d
set_option maxRecDepth 20000 in
theorem ggJ2_reverseAllValidSurrogatePairs_db04f_J11_isHighSurrogate_fc78d : GoodIn wsJ2_reverseAllValidSurrogatePairs_db04f wsJ11_isHighSurrogate_fc78d := goodIn_r _ [19, 20, 15] rfl (by decide +kernel)
set_option maxRecDepth 20000 in
theorem gJ2_reverseAllValidSurrogatePairs_db04f_J11_isHighSurrogate_fc78d : GoodIn wsJ2_reverseAllValidSurrogatePairs_db04f (va_wsS RJ2 75 yJ11_isHighSurrogate_fc78d wsJ11_isHighSurrogate_fc78d) := goodIn_app (goodIn_r _ [17, 18, 13] rfl rfl) ggJ2_reverseAllValidSurrogatePairs_db04f_J11_isHighSurrogate_fc78d
set_option maxRecDepth 20000 in
theorem ggJ2_reverseAllValidSurrogatePairs_db04f_J2_putChar_b72d1 : GoodIn wsJ2_reverseAllValidSurrogatePairs_db04f wsJ2_putChar_b72d1 := goodIn_r _ [23, 5, 6, 7, 8, 9, 3, 10] rfl (by decide +kernel)
set_option maxRecDepth 20000 in
theorem gJ2_reverseAllValidSurrogatePairs_db04f_J2_putChar_b72d1 : GoodIn wsJ2_reverseAllValidSurrogatePairs_db04f (va_wsS RJ2 111 yJ2_putChar_b72d1 wsJ2_putChar_b72d1) := goodIn_app (goodIn_r _ [21, 22, 3] rfl rfl) ggJ2_reverseAllValidSurrogatePairs_db04f_J2_putChar_b72d1
theorem qdJ2_reverseAllValidSurrogatePairs_db04f_0_24 : dcAll cJ2_reverseAllValidSurrogatePairs_db04f [(0, .iconst 0, 1), (1, .istore_n 2, 1), (2, .iload_n 2, 1), (3, .iload_n 1, 1), (4, .iconst 1, 1), (5, .isub, 1), (6, .if_icmp .ge 55, 3), (9, .aload_n 0, 1), (10, .iload_n 2, 1), (11, .invokestatic 71, 3), (14, .istore_n 3, 1), (15, .iload_n 3, 1), (16, .invokestatic 81, 3), (19, .ifCond .eq 36, 3), (22, .aload_n 0, 1), (23, .iload_n 2, 1), (24, .iconst 1, 1), (25, .iadd, 1), (26, .invokestatic 71, 3), (29, .istore 4, 2), (31, .iload 4, 2), (33, .invokestatic 75, 3), (36, .ifCond .eq 19, 3), (39, .aload_n 0, 1)] := dcAll_of (by decide +kernel)
theorem dJ2_reverseAllValidSurrogatePairs_db04f_0 : decode cJ2_reverseAllValidSurrogatePairs_db04f 0 = .ok (.iconst 0, 1) := qdJ2_reverseAllValidSurrogatePairs_db04f_0_24.1
theorem dJ2_reverseAllValidSurrogatePairs_db04f_1 : decode cJ2_reverseAllValidSurrogatePairs_db04f 1 = .ok (.istore_n 2, 1) := qdJ2_reverseAllValidSurrogatePairs_db04f_0_24.2.1
theorem dJ2_reverseAllValidSurrogatePairs_db04f_2 : decode cJ2_reverseAllValidSurrogatePairs_db04f 2 = .ok (.iload_n 2, 1) := qdJ2_reverseAllValidSurrogatePairs_db04f_0_24.2.2.1
theorem dJ2_reverseAllValidSurrogatePairs_db04f_3 : decode cJ2_reverseAllValidSurrogatePairs_db04f 3 = .ok (.iload_n 1, 1) := qdJ2_reverseAllValidSurrogatePairs_db04f_0_24.2.2.2.1
theorem dJ2_reverseAllValidSurrogatePairs_db04f_4 : decode cJ2_reverseAllValidSurrogatePairs_db04f 4 = .ok (.iconst 1, 1) := qdJ2_reverseAllValidSurrogatePairs_db04f_0_24.2.2.2.2.1
theorem dJ2_reverseAllValidSurrogatePairs_db04f_5 : decode cJ2_reverseAllValidSurrogatePairs_db04f 5 = .ok (.isub, 1) := qdJ2_reverseAllValidSurrogatePairs_db04f_0_24.2.2.2.2.2.1
theorem dJ2_reverseAllValidSurrogatePairs_db04f_6 : decode cJ2_reverseAllValidSurrogatePairs_db04f 6 = .ok (.if_icmp .ge 55, 3) := qdJ2_reverseAllValidSurrogatePairs_db04f_0_24.2.2.2.2.2.2.1
theorem dJ2_reverseAllValidSurrogatePairs_db04f_9 : decode cJ2_reverseAllValidSurrogatePairs_db04f 9 = .ok (.aload_n 0, 1) := qdJ2_reverseAllValidSurrogatePairs_db04f_0_24.2.2.2.2.2.2.2.1
theorem dJ2_reverseAllValidSurrogatePairs_db04f_10 : decode cJ2_reverseAllValidSurrogatePairs_db04f 10 = .ok (.iload_n 2, 1) := qdJ2_reverseAllValidSurrogatePairs_db04f_0_24.2.2.2.2.2.2.2.2.1
theorem dJ2_reverseAllValidSurrogatePairs_db04f_11 : decode cJ2_reverseAllValidSurrogatePairs_db04f 11 = .ok (.invokestatic 71, 3) := qdJ2_reverseAllValidSurrogatePairs_db04f_0_24.2.2.2.2.2.2.2.2.2.1
theorem dJ2_reverseAllValidSurrogatePairs_db04f_14 : decode cJ2_reverseAllValidSurrogatePairs_db04f 14 = .ok (.istore_n 3, 1) := qdJ2_reverseAllValidSurrogatePairs_db04f_0_24.2.2.2.2.2.2.2.2.2.2.1
theorem dJ2_reverseAllValidSurrogatePairs_db04f_15 : decode cJ2_reverseAllValidSurrogatePairs_db04f 15 = .ok (.iload_n 3, 1) := qdJ2_reverseAllValidSurrogatePairs_db04f_0_24.2.2.2.2.2.2.2.2.2.2.2.1
theorem dJ2_reverseAllValidSurrogatePairs_db04f_16 : decode cJ2_reverseAllValidSurrogatePairs_db04f 16 = .ok (.invokestatic 81, 3) := qdJ2_reverseAllValidSurrogatePairs_db04f_0_24.2.2.2.2.2.2.2.2.2.2.2.2.1
theorem dJ2_reverseAllValidSurrogatePairs_db04f_19 : decode cJ2_reverseAllValidSurrogatePairs_db04f 19 = .ok (.ifCond .eq 36, 3) := qdJ2_reverseAllValidSurrogatePairs_db04f_0_24.2.2.2.2.2.2.2.2.2.2.2.2.2.1
theorem dJ2_reverseAllValidSurrogatePairs_db04f_22 : decode cJ2_reverseAllValidSurrogatePairs_db04f 22 = .ok (.aload_n 0, 1) := qdJ2_reverseAllValidSurrogatePairs_db04f_0_24.2.2.2.2.2.2.2.2.2.2.2.2.2.2.1
theorem dJ2_reverseAllValidSurrogatePairs_db04f_23 : decode cJ2_reverseAllValidSurrogatePairs_db04f 23 = .ok (.iload_n 2, 1) := qdJ2_reverseAllValidSurrogatePairs_db04f_0_24.2.2.2.2.2.2.2.2.2.2.2.2.2.2.2.1
theorem dJ2_reverseAllValidSurrogatePairs_db04f_24 : decode cJ2_reverseAllValidSurrogatePairs_db04f 24 = .ok (.iconst 1, 1) := qdJ2_reverseAllValidSurrogatePairs_db04f_0_24.2.2.2.2.2.2.2.2.2.2.2.2.2.2.2.2.1
theorem dJ2_reverseAllValidSurrogatePairs_db04f_25 : decode cJ2_reverseAllValidSurrogatePairs_db04f 25 = .ok (.iadd, 1) := qdJ2_reverseAllValidSurrogatePairs_db04f_0_24.2.2.2.2.2.2.2.2.2.2.2.2.2.2.2.2.2.1
theorem dJ2_reverseAllValidSurrogatePairs_db04f_26 : decode cJ2_reverseAllValidSurrogatePairs_db04f 26 = .ok (.invokestatic 71, 3) := qdJ2_reverseAllValidSurrogatePairs_db04f_0_24.2.2.2.2.2.2.2.2.2.2.2.2.2.2.2.2.2.2.1
theorem dJ2_reverseAllValidSurrogatePairs_db04f_29 : decode cJ2_reverseAllValidSurrogatePairs_db04f 29 = .ok (.istore 4, 2) := qdJ2_reverseAllValidSurrogatePairs_db04f_0_24.2.2.2.2.2.2.2.2.2.2.2.2.2.2.2.2.2.2.2.1
theorem dJ2_reverseAllValidSurrogatePairs_db04f_31 : decode cJ2_reverseAllValidSurrogatePairs_db04f 31 = .ok (.iload 4, 2) := qdJ2_reverseAllValidSurrogatePairs_db04f_0_24.2.2.2.2.2.2.2.2.2.2.2.2.2.2.2.2.2.2.2.2.1
theorem dJ2_reverseAllValidSurrogatePairs_db04f_33 : decode cJ2_reverseAllValidSurrogatePairs_db04f 33 = .ok (.invokestatic 75, 3) := qdJ2_reverseAllValidSurrogatePairs_db04f_0_24.2.2.2.2.2.2.2.2.2.2.2.2.2.2.2.2.2.2.2.2.2.1
theorem dJ2_reverseAllValidSurrogatePairs_db04f_36 : decode cJ2_reverseAllValidSurrogatePairs_db04f 36 = .ok (.ifCond .eq 19, 3) := qdJ2_reverseAllValidSurrogatePairs_db04f_0_24.2.2.2.2.2.2.2.2.2.2.2.2.2.2.2.2.2.2.2.2.2.2.1
theorem dJ2_reverseAllValidSurrogatePairs_db04f_39 : decode cJ2_reverseAllValidSurrogatePairs_db04f 39 = .ok (.aload_n 0, 1) := qdJ2_reverseAllValidSurrogatePairs_db04f_0_24.2.2.2.2.2.2.2.2.2.2.2.2.2.2.2.2.2.2.2.2.2.2.2.1
theorem qdJ2_reverseAllValidSurrogatePairs_db04f_40_11 : dcAll cJ2_reverseAllValidSurrogatePairs_db04f [(40, .iload_n 2, 1), (41, .iinc 2 1, 3), (44, .iload 4, 2), (46, .invokestatic 111, 3), (49, .aload_n 0, 1), (50, .iload_n 2, 1), (51, .iload_n 3, 1), (52, .invokestatic 111, 3), (55, .iinc 2 1, 3), (58, .goto (-56), 3), (61, .return_, 1)] := dcAll_of (by decide +kernel)
theorem dJ2_reverseAllValidSurrogatePairs_db04f_40 : decode cJ2_reverseAllValidSurrogatePairs_db04f 40 = .ok (.iload_n 2, 1) := qdJ2_reverseAllValidSurrogatePairs_db04f_40_11.1
theorem dJ2_reverseAllValidSurrogatePairs_db04f_41 : decode cJ2_reverseAllValidSurrogatePairs_db04f 41 = .ok (.iinc 2 1, 3) := qdJ2_reverseAllValidSurrogatePairs_db04f_40_11.2.1
theorem dJ2_reverseAllValidSurrogatePairs_db04f_44 : decode cJ2_reverseAllValidSurrogatePairs_db04f 44 = .ok (.iload 4, 2) := qdJ2_reverseAllValidSurrogatePairs_db04f_40_11.2.2.1
theorem dJ2_reverseAllValidSurrogatePairs_db04f_46 : decode cJ2_reverseAllValidSurrogatePairs_db04f 46 = .ok (.invokestatic 111, 3) := qdJ2_reverseAllValidSurrogatePairs_db04f_40_11.2.2.2.1
theorem dJ2_reverseAllValidSurrogatePairs_db04f_49 : decode cJ2_reverseAllValidSurrogatePairs_db04f 49 = .ok (.aload_n 0, 1) := qdJ2_reverseAllValidSurrogatePairs_db04f_40_11.2.2.2.2.1
theorem dJ2_reverseAllValidSurrogatePairs_db04f_50 : decode cJ2_reverseAllValidSurrogatePairs_db04f 50 = .ok (.iload_n 2, 1) := qdJ2_reverseAllValidSurrogatePairs_db04f_40_11.2.2.2.2.2.1
theorem dJ2_reverseAllValidSurrogatePairs_db04f_51 : decode cJ2_reverseAllValidSurrogatePairs_db04f 51 = .ok (.iload_n 3, 1) := qdJ2_reverseAllValidSurrogatePairs_db04f_40_11.2.2.2.2.2.2.1
theorem dJ2_reverseAllValidSurrogatePairs_db04f_52 : decode cJ2_reverseAllValidSurrogatePairs_db04f 52 = .ok (.invokestatic 111, 3) := qdJ2_reverseAllValidSurrogatePairs_db04f_40_11.2.2.2.2.2.2.2.1
theorem dJ2_reverseAllValidSurrogatePairs_db04f_55 : decode cJ2_reverseAllValidSurrogatePairs_db04f 55 = .ok (.iinc 2 1, 3) := qdJ2_reverseAllValidSurrogatePairs_db04f_40_11.2.2.2.2.2.2.2.2.1
theorem dJ2_reverseAllValidSurrogatePairs_db04f_58 : decode cJ2_reverseAllValidSurrogatePairs_db04f 58 = .ok (.goto (-56), 3) := qdJ2_reverseAllValidSurrogatePairs_db04f_40_11.2.2.2.2.2.2.2.2.2.1
theorem dJ2_reverseAllValidSurrogatePairs_db04f_61 : decode cJ2_reverseAllValidSurrogatePairs_db04f 61 = .ok (.return_, 1) := qdJ2_reverseAllValidSurrogatePairs_db04f_40_11.2.2.2.2.2.2.2.2.2.2.1
set_option maxRecDepth 20000 in
theorem ggJ2_inflate_0e8fd_J2_checkBoundsOffCount_d044e : GoodIn wsJ2_inflate_0e8fd wsJ2_checkBoundsOffCount_d044e := goodIn_r _ [4, 5, 6, 3, 7, 8, 9, 10, 11, 12, 13, 14, 15, 16] rfl (by decide +kernel)
set_option maxRecDepth 20000 in
theorem gJ2_inflate_0e8fd_J2_checkBoundsOffCount_d044e : GoodIn wsJ2_inflate_0e8fd (va_wsS RJ2 173 yJ2_checkBoundsOffCount_d044e wsJ2_checkBoundsOffCount_d044e) := goodIn_app (goodIn_r _ [1, 2, 3] rfl rfl) ggJ2_inflate_0e8fd_J2_checkBoundsOffCount_d044e
set_option maxRecDepth 20000 in
theorem ggJ2_inflate_0e8fd_J2_putChar_b72d1 : GoodIn wsJ2_inflate_0e8fd wsJ2_putChar_b72d1 := goodIn_r _ [19, 20, 21, 22, 5, 6, 3, 7] rfl (by decide +kernel)
set_option maxRecDepth 20000 in
theorem gJ2_inflate_0e8fd_J2_putChar_b72d1 : GoodIn wsJ2_inflate_0e8fd (va_wsS RJ2 111 yJ2_putChar_b72d1 wsJ2_putChar_b72d1) := goodIn_app (goodIn_r _ [17, 18, 3] rfl rfl) ggJ2_inflate_0e8fd_J2_putChar_b72d1
theorem qdJ2_inflate_0e8fd_0_22 : dcAll cJ2_inflate_0e8fd [(0, .iload_n 3, 1), (1, .iload 4, 2), (3, .aload_n 2, 1), (4, .invokestatic 173, 3), (7, .iconst 0, 1), (8, .istore 5, 2), (10, .iload 5, 2), (12, .iload 4, 2), (14, .if_icmp .ge 27, 3), (17, .aload_n 2, 1), (18, .iload_n 3, 1), (19, .iinc 3 1, 3), (22, .aload_n 0, 1), (23, .iload_n 1, 1), (24, .iinc 1 1, 3), (27, .baload, 1), (28, .sipush 255, 3), (31, .iand, 1), (32, .invokestatic 111, 3), (35, .iinc 5 1, 3), (38, .goto (-28), 3), (41, .return_, 1)] := dcAll_of (by decide +kernel)
theorem dJ2_inflate_0e8fd_0 : decode cJ2_inflate_0e8fd 0 = .ok (.iload_n 3, 1) := qdJ2_inflate_0e8fd_0_22.1
theorem dJ2_inflate_0e8fd_1 : decode cJ2_inflate_0e8fd 1 = .ok (.iload 4, 2) := qdJ2_inflate_0e8fd_0_22.2.1
theorem dJ2_inflate_0e8fd_3 : decode cJ2_inflate_0e8fd 3 = .ok (.aload_n 2, 1) := qdJ2_inflate_0e8fd_0_22.2.2.1
theorem dJ2_inflate_0e8fd_4 : decode cJ2_inflate_0e8fd 4 = .ok (.invokestatic 173, 3) := qdJ2_inflate_0e8fd_0_22.2.2.2.1
theorem dJ2_inflate_0e8fd_7 : decode cJ2_inflate_0e8fd 7 = .ok (.iconst 0, 1) := qdJ2_inflate_0e8fd_0_22.2.2.2.2.1
theorem dJ2_inflate_0e8fd_8 : decode cJ2_inflate_0e8fd 8 = .ok (.istore 5, 2) := qdJ2_inflate_0e8fd_0_22.2.2.2.2.2.1
theorem dJ2_inflate_0e8fd_10 : decode cJ2_inflate_0e8fd 10 = .ok (.iload 5, 2) := qdJ2_inflate_0e8fd_0_22.2.2.2.2.2.2.1
theorem dJ2_inflate_0e8fd_12 : decode cJ2_inflate_0e8fd 12 = .ok (.iload 4, 2) := qdJ2_inflate_0e8fd_0_22.2.2.2.2.2.2.2.1
theorem dJ2_inflate_0e8fd_14 : decode cJ2_inflate_0e8fd 14 = .ok (.if_icmp .ge 27, 3) := qdJ2_inflate_0e8fd_0_22.2.2.2.2.2.2.2.2.1
theorem dJ2_inflate_0e8fd_17 : decode cJ2_inflate_0e8fd 17 = .ok (.aload_n 2, 1) := qdJ2_inflate_0e8fd_0_22.2.2.2.2.2.2.2.2.2.1
theorem dJ2_inflate_0e8fd_18 : decode cJ2_inflate_0e8fd 18 = .ok (.iload_n 3, 1) := qdJ2_inflate_0e8fd_0_22.2.2.2.2.2.2.2.2.2.2.1
theorem dJ2_inflate_0e8fd_19 : decode cJ2_inflate_0e8fd 19 = .ok (.iinc 3 1, 3) := qdJ2_inflate_0e8fd_0_22.2.2.2.2.2.2.2.2.2.2.2.1
theorem dJ2_inflate_0e8fd_22 : decode cJ2_inflate_0e8fd 22 = .ok (.aload_n 0, 1) := qdJ2_inflate_0e8fd_0_22.2.2.2.2.2.2.2.2.2.2.2.2.1
theorem dJ2_inflate_0e8fd_23 : decode cJ2_inflate_0e8fd 23 = .ok (.iload_n 1, 1) := qdJ2_inflate_0e8fd_0_22.2.2.2.2.2.2.2.2.2.2.2.2.2.1
theorem dJ2_inflate_0e8fd_24 : decode cJ2_inflate_0e8fd 24 = .ok (.iinc 1 1, 3) := qdJ2_inflate_0e8fd_0_22.2.2.2.2.2.2.2.2.2.2.2.2.2.2.1
theorem dJ2_inflate_0e8fd_27 : decode cJ2_inflate_0e8fd 27 = .ok (.baload, 1) := qdJ2_inflate_0e8fd_0_22.2.2.2.2.2.2.2.2.2.2.2.2.2.2.2.1
theorem dJ2_inflate_0e8fd_28 : decode cJ2_inflate_0e8fd 28 = .ok (.sipush 255, 3) := qdJ2_inflate_0e8fd_0_22.2.2.2.2.2.2.2.2.2.2.2.2.2.2.2.2.1
theorem dJ2_inflate_0e8fd_31 : decode cJ2_inflate_0e8fd 31 = .ok (.iand, 1) := qdJ2_inflate_0e8fd_0_22.2.2.2.2.2.2.2.2.2.2.2.2.2.2.2.2.2.1
theorem dJ2_inflate_0e8fd_32 : decode cJ2_inflate_0e8fd 32 = .ok (.invokestatic 111, 3) := qdJ2_inflate_0e8fd_0_22.2.2.2.2.2.2.2.2.2.2.2.2.2.2.2.2.2.2.1
theorem dJ2_inflate_0e8fd_35 : decode cJ2_inflate_0e8fd 35 = .ok (.iinc 5 1, 3) := qdJ2_inflate_0e8fd_0_22.2.2.2.2.2.2.2.2.2.2.2.2.2.2.2.2.2.2.2.1
theorem dJ2_inflate_0e8fd_38 : decode cJ2_inflate_0e8fd 38 = .ok (.goto (-28), 3) := qdJ2_inflate_0e8fd_0_22.2.2.2.2.2.2.2.2.2.2.2.2.2.2.2.2.2.2.2.2.1
theorem dJ2_inflate_0e8fd_41 : decode cJ2_inflate_0e8fd 41 = .ok (.return_, 1) := qdJ2_inflate_0e8fd_0_22.2.2.2.2.2.2.2.2.2.2.2.2.2.2.2.2.2.2.2.2.2.1
set_option maxRecDepth 20000 in
theorem ggJ2_getChars_ba4f3_J2_putChar_b72d1 : GoodIn wsJ2_getChars_ba4f3 wsJ2_putChar_b72d1 := goodIn_r _ [6, 7, 8, 9, 10, 11, 5, 12] rfl (by decide +kernel)
set_option maxRecDepth 20000 in
theorem gJ2_getChars_ba4f3_J2_putChar_b72d1 : GoodIn wsJ2_getChars_ba4f3 (va_wsS RJ2 111 yJ2_putChar_b72d1 wsJ2_putChar_b72d1) := goodIn_app (goodIn_r _ [3, 4, 5] rfl rfl) ggJ2_getChars_ba4f3_J2_putChar_b72d1
theorem qdJ2_getChars_ba4f3_0_24 : dcAll cJ2_getChars_ba4f3 [(0, .iload_n 1, 1), (1, .istore 5, 2), (3, .iload_n 0, 1), (4, .ifCond .ge 7, 3), (7, .iconst 1, 1), (8, .goto 4, 3), (11, .iconst 0, 1), (12, .istore 6, 2), (14, .iload 6, 2), (16, .ifCond .ne 6, 3), (19, .iload_n 0, 1), (20, .ineg, 1), (21, .istore_n 0, 1), (22, .iload_n 0, 1), (23, .bipush (-100), 2), (25, .if_icmp .gt 51, 3), (28, .iload_n 0, 1), (29, .bipush 100, 2), (31, .idiv, 1), (32, .istore_n 3, 1), (33, .iload_n 3, 1), (34, .bipush 100, 2), (36, .imul, 1), (37, .iload_n 0, 1)] := dcAll_of (by decide +kernel)
theorem dJ2_getChars_ba4f3_0 : decode cJ2_getChars_ba4f3 0 = .ok (.iload_n 1, 1) := qdJ2_getChars_ba4f3_0_24.1
theorem dJ2_getChars_ba4f3_1 : decode cJ2_getChars_ba4f3 1 = .ok (.istore 5, 2) := qdJ2_getChars_ba4f3_0_24.2.1
theorem dJ2_getChars_ba4f3_3 : decode cJ2_getChars_ba4f3 3 = .ok (.iload_n 0, 1) := qdJ2_getChars_ba4f3_0_24.2.2.1
theorem dJ2_getChars_ba4f3_4 : decode cJ2_getChars_ba4f3 4 = .ok (.ifCond .ge 7, 3) := qdJ2_getChars_ba4f3_0_24.2.2.2.1
theorem dJ2_getChars_ba4f3_7 : decode cJ2_getChars_ba4f3 7 = .ok (.iconst 1, 1) := qdJ2_getChars_ba4f3_0_24.2.2.2.2.1
theorem dJ2_getChars_ba4f3_8 : decode cJ2_getChars_ba4f3 8 = .ok (.goto 4, 3) := qdJ2_getChars_ba4f3_0_24.2.2.2.2.2.1
theorem dJ2_getChars_ba4f3_11 : decode cJ2_getChars_ba4f3 11 = .ok (.iconst 0, 1) := qdJ2_getChars_ba4f3_0_24.2.2.2.2.2.2.1
theorem dJ2_getChars_ba4f3_12 : decode cJ2_getChars_ba4f3 12 = .ok (.istore 6, 2) := qdJ2_getChars_ba4f3_0_24.2.2.2.2.2.2.2.1
theorem dJ2_getChars_ba4f3_14 : decode cJ2_getChars_ba4f3 14 = .ok (.iload 6, 2) := qdJ2_getChars_ba4f3_0_24.2.2.2.2.2.2.2.2.1
theorem dJ2_getChars_ba4f3_16 : decode cJ2_getChars_ba4f3 16 = .ok (.ifCond .ne 6, 3) := qdJ2_getChars_ba4f3_0_24.2.2.2.2.2.2.2.2.2.1
theorem dJ2_getChars_ba4f3_19 : decode cJ2_getChars_ba4f3 19 = .ok (.iload_n 0, 1) := qdJ2_getChars_ba4f3_0_24.2.2.2.2.2.2.2.2.2.2.1
theorem dJ2_getChars_ba4f3_20 : decode cJ2_getChars_ba4f3 20 = .ok (.ineg, 1) := qdJ2_getChars_ba4f3_0_24.2.2.2.2.2.2.2.2.2.2.2.1
theorem dJ2_getChars_ba4f3_21 : decode cJ2_getChars_ba4f3 21 = .ok (.istore_n 0, 1) := qdJ2_getChars_ba4f3_0_24.2.2.2.2.2.2.2.2.2.2.2.2.1
theorem dJ2_getChars_ba4f3_22 : decode cJ2_getChars_ba4f3 22 = .ok (.iload_n 0, 1) := qdJ2_getChars_ba4f3_0_24.2.2.2.2.2.2.2.2.2.2.2.2.2.1
theorem dJ2_getChars_ba4f3_23 : decode cJ2_getChars_ba4f3 23 = .ok (.bipush (-100), 2) := qdJ2_getChars_ba4f3_0_24.2.2.2.2.2.2.2.2.2.2.2.2.2.2.1
theorem dJ2_getChars_ba4f3_25 : decode cJ2_getChars_ba4f3 25 = .ok (.if_icmp .gt 51, 3) := qdJ2_getChars_ba4f3_0_24.2.2.2.2.2.2.2.2.2.2.2.2.2.2.2.1
theorem dJ2_getChars_ba4f3_28 : decode cJ2_getChars_ba4f3 28 = .ok (.iload_n 0, 1) := qdJ2_getChars_ba4f3_0_24.2.2.2.2.2.2.2.2.2.2.2.2.2.2.2.2.1
theorem dJ2_getChars_ba4f3_29 : decode cJ2_getChars_ba4f3 29 = .ok (.bipush 100, 2) := qdJ2_getChars_ba4f3_0_24.2.2.2.2.2.2.2.2.2.2.2.2.2.2.2.2.2.1
theorem dJ2_getChars_ba4f3_31 : decode cJ2_getChars_ba4f3 31 = .ok (.idiv, 1) := qdJ2_getChars_ba4f3_0_24.2.2.2.2.2.2.2.2.2.2.2.2.2.2.2.2.2.2.1
theorem dJ2_getChars_ba4f3_32 : decode cJ2_getChars_ba4f3 32 = .ok (.istore_n 3, 1) := qdJ2_getChars_ba4f3_0_24.2.2.2.2.2.2.2.2.2.2.2.2.2.2.2.2.2.2.2.1
theorem dJ2_getChars_ba4f3_33 : decode cJ2_getChars_ba4f3 33 = .ok (.iload_n 3, 1) := qdJ2_getChars_ba4f3_0_24.2.2.2.2.2.2.2.2.2.2.2.2.2.2.2.2.2.2.2.2.1
theorem dJ2_getChars_ba4f3_34 : decode cJ2_getChars_ba4f3 34 = .ok (.bipush 100, 2) := qdJ2_getChars_ba4f3_0_24.2.2.2.2.2.2.2.2.2.2.2.2.2.2.2.2.2.2.2.2.2.1
theorem dJ2_getChars_ba4f3_36 : decode cJ2_getChars_ba4f3 36 = .ok (.imul, 1) := qdJ2_getChars_ba4f3_0_24.2.2.2.2.2.2.2.2.2.2.2.2.2.2.2.2.2.2.2.2.2.2.1
theorem dJ2_getChars_ba4f3_37 : decode cJ2_getChars_ba4f3 37 = .ok (.iload_n 0, 1) := qdJ2_getChars_ba4f3_0_24.2.2.2.2.2.2.2.2.2.2.2.2.2.2.2.2.2.2.2.2.2.2.2.1
theorem qdJ2_getChars_ba4f3_38_24 : dcAll cJ2_getChars_ba4f3 [(38, .isub, 1), (39, .istore 4, 2), (41, .iload_n 3, 1), (42, .istore_n 0, 1), (43, .aload_n 2, 1), (44, .iinc 5 (-1), 3), (47, .iload 5, 2), (49, .getstatic 403, 3), (52, .iload 4, 2), (54, .baload, 1), (55, .invokestatic 111, 3), (58, .aload_n 2, 1), (59, .iinc 5 (-1), 3), (62, .iload 5, 2), (64, .getstatic 407, 3), (67, .iload 4, 2), (69, .baload, 1), (70, .invokestatic 111, 3), (73, .goto (-51), 3), (76, .aload_n 2, 1), (77, .iinc 5 (-1), 3), (80, .iload 5, 2), (82, .getstatic 403, 3), (85, .iload_n 0, 1)] := dcAll_of (by decide +kernel)
theorem dJ2_getChars_ba4f3_38 : decode cJ2_getChars_ba4f3 38 = .ok (.isub, 1) := qdJ2_getChars_ba4f3_38_24.1
theorem dJ2_getChars_ba4f3_39 : decode cJ2_getChars_ba4f3 39 = .ok (.istore 4, 2) := qdJ2_getChars_ba4f3_38_24.2.1
theorem dJ2_getChars_ba4f3_41 : decode cJ2_getChars_ba4f3 41 = .ok (.iload_n 3, 1) := qdJ2_getChars_ba4f3_38_24.2.2.1
theorem dJ2_getChars_ba4f3_42 : decode cJ2_getChars_ba4f3 42 = .ok (.istore_n 0, 1) := qdJ2_getChars_ba4f3_38_24.2.2.2.1
theorem dJ2_getChars_ba4f3_43 : decode cJ2_getChars_ba4f3 43 = .ok (.aload_n 2, 1) := qdJ2_getChars_ba4f3_38_24.2.2.2.2.1
theorem dJ2_getChars_ba4f3_44 : decode cJ2_getChars_ba4f3 44 = .ok (.iinc 5 (-1), 3) := qdJ2_getChars_ba4f3_38_24.2.2.2.2.2.1
theorem dJ2_getChars_ba4f3_47 : decode cJ2_getChars_ba4f3 47 = .ok (.iload 5, 2) := qdJ2_getChars_ba4f3_38_24.2.2.2.2.2.2.1
theorem dJ2_getChars_ba4f3_49 : decode cJ2_getChars_ba4f3 49 = .ok (.getstatic 403, 3) := qdJ2_getChars_ba4f3_38_24.2.2.2.2.2.2.2.1
theorem dJ2_getChars_ba4f3_52 : decode cJ2_getChars_ba4f3 52 = .ok (.iload 4, 2) := qdJ2_getChars_ba4f3_38_24.2.2.2.2.2.2.2.2.1
theorem dJ2_getChars_ba4f3_54 : decode cJ2_getChars_ba4f3 54 = .ok (.baload, 1) := qdJ2_getChars_ba4f3_38_24.2.2.2.2.2.2.2.2.2.1
theorem dJ2_getChars_ba4f3_55 : decode cJ2_getChars_ba4f3 55 = .ok (.invokestatic 111, 3) := qdJ2_getChars_ba4f3_38_24.2.2.2.2.2.2.2.2.2.2.1
theorem dJ2_getChars_ba4f3_58 : decode cJ2_getChars_ba4f3 58 = .ok (.aload_n 2, 1) := qdJ2_getChars_ba4f3_38_24.2.2.2.2.2.2.2.2.2.2.2.1
theorem dJ2_getChars_ba4f3_59 : decode cJ2_getChars_ba4f3 59 = .ok (.iinc 5 (-1), 3) := qdJ2_getChars_ba4f3_38_24.2.2.2.2.2.2.2.2.2.2.2.2.1
theorem dJ2_getChars_ba4f3_62 : decode cJ2_getChars_ba4f3 62 = .ok (.iload 5, 2) := qdJ2_getChars_ba4f3_38_24.2.2.2.2.2.2.2.2.2.2.2.2.2.1
theorem dJ2_getChars_ba4f3_64 : decode cJ2_getChars_ba4f3 64 = .ok (.getstatic 407, 3) := qdJ2_getChars_ba4f3_38_24.2.2.2.2.2.2.2.2.2.2.2.2.2.2.1
theorem dJ2_getChars_ba4f3_67 : decode cJ2_getChars_ba4f3 67 = .ok (.iload 4, 2) := qdJ2_getChars_ba4f3_38_24.2.2.2.2.2.2.2.2.2.2.2.2.2.2.2.1
theorem dJ2_getChars_ba4f3_69 : decode cJ2_getChars_ba4f3 69 = .ok (.baload, 1) := qdJ2_getChars_ba4f3_38_24.2.2.2.2.2.2.2.2.2.2.2.2.2.2.2.2.1
theorem dJ2_getChars_ba4f3_70 : decode cJ2_getChars_ba4f3 70 = .ok (.invokestatic 111, 3) := qdJ2_getChars_ba4f3_38_24.2.2.2.2.2.2.2.2.2.2.2.2.2.2.2.2.2.1
theorem dJ2_getChars_ba4f3_73 : decode cJ2_getChars_ba4f3 73 = .ok (.goto (-51), 3) := qdJ2_getChars_ba4f3_38_24.2.2.2.2.2.2.2.2.2.2.2.2.2.2.2.2.2.2.1
theorem dJ2_getChars_ba4f3_76 : decode cJ2_getChars_ba4f3 76 = .ok (.aload_n 2, 1) := qdJ2_getChars_ba4f3_38_24.2.2.2.2.2.2.2.2.2.2.2.2.2.2.2.2.2.2.2.1
theorem dJ2_getChars_ba4f3_77 : decode cJ2_getChars_ba4f3 77 = .ok (.iinc 5 (-1), 3) := qdJ2_getChars_ba4f3_38_24.2.2.2.2.2.2.2.2.2.2.2.2.2.2.2.2.2.2.2.2.1
theorem dJ2_getChars_ba4f3_80 : decode cJ2_getChars_ba4f3 80 = .ok (.iload 5, 2) := qdJ2_getChars_ba4f3_38_24.2.2.2.2.2.2.2.2.2.2.2.2.2.2.2.2.2.2.2.2.2.1
theorem dJ2_getChars_ba4f3_82 : decode cJ2_getChars_ba4f3 82 = .ok (.getstatic 403, 3) := qdJ2_getChars_ba4f3_38_24.2.2.2.2.2.2.2.2.2.2.2.2.2.2.2.2.2.2.2.2.2.2.1
theorem dJ2_getChars_ba4f3_85 : decode cJ2_getChars_ba4f3 85 = .ok (.iload_n 0, 1) := qdJ2_getChars_ba4f3_38_24.2.2.2.2.2.2.2.2.2.2.2.2.2.2.2.2.2.2.2.2.2.2.2.1
theorem qdJ2_getChars_ba4f3_86_23 : dcAll cJ2_getChars_ba4f3 [(86, .ineg, 1), (87, .baload, 1), (88, .invokestatic 111, 3), (91, .iload_n 0, 1), (92, .bipush (-9), 2), (94, .if_icmp .ge 18, 3), (97, .aload_n 2, 1), (98, .iinc 5 (-1), 3), (101, .iload 5, 2), (103, .getstatic 407, 3), (106, .iload_n 0, 1), (107, .ineg, 1), (108, .baload, 1), (109, .invokestatic 111, 3), (112, .iload 6, 2), (114, .ifCond .eq 14, 3), (117, .aload_n 2, 1), (118, .iinc 5 (-1), 3), (121, .iload 5, 2), (123, .bipush 45, 2), (125, .invokestatic 111, 3), (128, .iload 5, 2), (130, .ireturn, 1)] := dcAll_of (by decide +kernel)
theorem dJ2_getChars_ba4f3_86 : decode cJ2_getChars_ba4f3 86 = .ok (.ineg, 1) := qdJ2_getChars_ba4f3_86_23.1
theorem dJ2_getChars_ba4f3_87 : decode cJ2_getChars_ba4f3 87 = .ok (.baload, 1) := qdJ2_getChars_ba4f3_86_23.2.1
theorem dJ2_getChars_ba4f3_88 : decode cJ2_getChars_ba4f3 88 = .ok (.invokestatic 111, 3) := qdJ2_getChars_ba4f3_86_23.2.2.1
theorem dJ2_getChars_ba4f3_91 : decode cJ2_getChars_ba4f3 91 = .ok (.iload_n 0, 1) := qdJ2_getChars_ba4f3_86_23.2.2.2.1
theorem dJ2_getChars_ba4f3_92 : decode cJ2_getChars_ba4f3 92 = .ok (.bipush (-9), 2) := qdJ2_getChars_ba4f3_86_23.2.2.2.2.1
theorem dJ2_getChars_ba4f3_94 : decode cJ2_getChars_ba4f3 94 = .ok (.if_icmp .ge 18, 3) := qdJ2_getChars_ba4f3_86_23.2.2.2.2.2.1
theorem dJ2_getChars_ba4f3_97 : decode cJ2_getChars_ba4f3 97 = .ok (.aload_n 2, 1) := qdJ2_getChars_ba4f3_86_23.2.2.2.2.2.2.1
theorem dJ2_getChars_ba4f3_98 : decode cJ2_getChars_ba4f3 98 = .ok (.iinc 5 (-1), 3) := qdJ2_getChars_ba4f3_86_23.2.2.2.2.2.2.2.1
theorem dJ2_getChars_ba4f3_101 : decode cJ2_getChars_ba4f3 101 = .ok (.iload 5, 2) := qdJ2_getChars_ba4f3_86_23.2.2.2.2.2.2.2.2.1
theorem dJ2_getChars_ba4f3_103 : decode cJ2_getChars_ba4f3 103 = .ok (.getstatic 407, 3) := qdJ2_getChars_ba4f3_86_23.2.2.2.2.2.2.2.2.2.1
theorem dJ2_getChars_ba4f3_106 : decode cJ2_getChars_ba4f3 106 = .ok (.iload_n 0, 1) := qdJ2_getChars_ba4f3_86_23.2.2.2.2.2.2.2.2.2.2.1
theorem dJ2_getChars_ba4f3_107 : decode cJ2_getChars_ba4f3 107 = .ok (.ineg, 1) := qdJ2_getChars_ba4f3_86_23.2.2.2.2.2.2.2.2.2.2.2.1
theorem dJ2_getChars_ba4f3_108 : decode cJ2_getChars_ba4f3 108 = .ok (.baload, 1) := qdJ2_getChars_ba4f3_86_23.2.2.2.2.2.2.2.2.2.2.2.2.1
theorem dJ2_getChars_ba4f3_109 : decode cJ2_getChars_ba4f3 109 = .ok (.invokestatic 111, 3) := qdJ2_getChars_ba4f3_86_23.2.2.2.2.2.2.2.2.2.2.2.2.2.1
theorem dJ2_getChars_ba4f3_112 : decode cJ2_getChars_ba4f3 112 = .ok (.iload 6, 2) := qdJ2_getChars_ba4f3_86_23.2.2.2.2.2.2.2.2.2.2.2.2.2.2.1
theorem dJ2_getChars_ba4f3_114 : decode cJ2_getChars_ba4f3 114 = .ok (.ifCond .eq 14, 3) := qdJ2_getChars_ba4f3_86_23.2.2.2.2.2.2.2.2.2.2.2.2.2.2.2.1
theorem dJ2_getChars_ba4f3_117 : decode cJ2_getChars_ba4f3 117 = .ok (.aload_n 2, 1) := qdJ2_getChars_ba4f3_86_23.2.2.2.2.2.2.2.2.2.2.2.2.2.2.2.2.1
theorem dJ2_getChars_ba4f3_118 : decode cJ2_getChars_ba4f3 118 = .ok (.iinc 5 (-1), 3) := qdJ2_getChars_ba4f3_86_23.2.2.2.2.2.2.2.2.2.2.2.2.2.2.2.2.2.1
theorem dJ2_getChars_ba4f3_121 : decode cJ2_getChars_ba4f3 121 = .ok (.iload 5, 2) := qdJ2_getChars_ba4f3_86_23.2.2.2.2.2.2.2.2.2.2.2.2.2.2.2.2.2.2.1
theorem dJ2_getChars_ba4f3_123 : decode cJ2_getChars_ba4f3 123 = .ok (.bipush 45, 2) := qdJ2_getChars_ba4f3_86_23.2.2.2.2.2.2.2.2.2.2.2.2.2.2.2.2.2.2.2.1
theorem dJ2_getChars_ba4f3_125 : decode cJ2_getChars_ba4f3 125 = .ok (.invokestatic 111, 3) := qdJ2_getChars_ba4f3_86_23.2.2.2.2.2.2.2.2.2.2.2.2.2.2.2.2.2.2.2.2.1
theorem dJ2_getChars_ba4f3_128 : decode cJ2_getChars_ba4f3 128 = .ok (.iload 5, 2) := qdJ2_getChars_ba4f3_86_23.2.2.2.2.2.2.2.2.2.2.2.2.2.2.2.2.2.2.2.2.2.1
theorem dJ2_getChars_ba4f3_130 : decode cJ2_getChars_ba4f3 130 = .ok (.ireturn, 1) := qdJ2_getChars_ba4f3_86_23.2.2.2.2.2.2.2.2.2.2.2.2.2.2.2.2.2.2.2.2.2.2.1
set_option maxRecDepth 20000 in
theorem ggJ2_getChars_11360_J2_putChar_b72d1 : GoodIn wsJ2_getChars_11360 wsJ2_putChar_b72d1 := goodIn_r _ [8, 9, 10, 11, 12, 13, 7, 14] rfl (by decide +kernel)
set_option maxRecDepth 20000 in
theorem gJ2_getChars_11360_J2_putChar_b72d1 : GoodIn wsJ2_getChars_11360 (va_wsS RJ2 111 yJ2_putChar_b72d1 wsJ2_putChar_b72d1) := goodIn_app (goodIn_r _ [5, 6, 7] rfl rfl) ggJ2_getChars_11360_J2_putChar_b72d1
theorem qdJ2_getChars_11360_0_24 : dcAll cJ2_getChars_11360 [(0, .iload_n 2, 1), (1, .istore 7, 2), (3, .lload_n 0, 1), (4, .lconst 0, 1), (5, .lcmp, 1), (6, .ifCond .ge 7, 3), (9, .iconst 1, 1), (10, .goto 4, 3), (13, .iconst 0, 1), (14, .istore 8, 2), (16, .iload 8, 2), (18, .ifCond .ne 6, 3), (21, .lload_n 0, 1), (22, .lneg, 1), (23, .lstore_n 0, 1), (24, .lload_n 0, 1), (25, .ldc2_w 410, 3), (28, .lcmp, 1), (29, .ifCond .gt 57, 3), (32, .lload_n 0, 1), (33, .ldc2_w 412, 3), (36, .ldiv, 1), (37, .lstore 4, 2), (39, .lload 4, 2)] := dcAll_of (by decide +kernel)
theorem dJ2_getChars_11360_0 : decode cJ2_getChars_11360 0 = .ok (.iload_n 2, 1) := qdJ2_getChars_11360_0_24.1
theorem dJ2_getChars_11360_1 : decode cJ2_getChars_11360 1 = .ok (.istore 7, 2) := qdJ2_getChars_11360_0_24.2.1
theorem dJ2_getChars_11360_3 : decode cJ2_getChars_11360 3 = .ok (.lload_n 0, 1) := qdJ2_getChars_11360_0_24.2.2.1
theorem dJ2_getChars_11360_4 : decode cJ2_getChars_11360 4 = .ok (.lconst 0, 1) := qdJ2_getChars_11360_0_24.2.2.2.1
theorem dJ2_getChars_11360_5 : decode cJ2_getChars_11360 5 = .ok (.lcmp, 1) := qdJ2_getChars_11360_0_24.2.2.2.2.1
theorem dJ2_getChars_11360_6 : decode cJ2_getChars_11360 6 = .ok (.ifCond .ge 7, 3) := qdJ2_getChars_11360_0_24.2.2.2.2.2.1
theorem dJ2_getChars_11360_9 : decode cJ2_getChars_11360 9 = .ok (.iconst 1, 1) := qdJ2_getChars_11360_0_24.2.2.2.2.2.2.1
theorem dJ2_getChars_11360_10 : decode cJ2_getChars_11360 10 = .ok (.goto 4, 3) := qdJ2_getChars_11360_0_24.2.2.2.2.2.2.2.1
theorem dJ2_getChars_11360_13 : decode cJ2_getChars_11360 13 = .ok (.iconst 0, 1) := qdJ2_getChars_11360_0_24.2.2.2.2.2.2.2.2.1
theorem dJ2_getChars_11360_14 : decode cJ2_getChars_11360 14 = .ok (.istore 8, 2) := qdJ2_getChars_11360_0_24.2.2.2.2.2.2.2.2.2.1
theorem dJ2_getChars_11360_16 : decode cJ2_getChars_11360 16 = .ok (.iload 8, 2) := qdJ2_getChars_11360_0_24.2.2.2.2.2.2.2.2.2.2.1
theorem dJ2_getChars_11360_18 : decode cJ2_getChars_11360 18 = .ok (.ifCond .ne 6, 3) := qdJ2_getChars_11360_0_24.2.2.2.2.2.2.2.2.2.2.2.1
theorem dJ2_getChars_11360_21 : decode cJ2_getChars_11360 21 = .ok (.lload_n 0, 1) := qdJ2_getChars_11360_0_24.2.2.2.2.2.2.2.2.2.2.2.2.1
theorem dJ2_getChars_11360_22 : decode cJ2_getChars_11360 22 = .ok (.lneg, 1) := qdJ2_getChars_11360_0_24.2.2.2.2.2.2.2.2.2.2.2.2.2.1
theorem dJ2_getChars_11360_23 : decode cJ2_getChars_11360 23 = .ok (.lstore_n 0, 1) := qdJ2_getChars_11360_0_24.2.2.2.2.2.2.2.2.2.2.2.2.2.2.1
theorem dJ2_getChars_11360_24 : decode cJ2_getChars_11360 24 = .ok (.lload_n 0, 1) := qdJ2_getChars_11360_0_24.2.2.2.2.2.2.2.2.2.2.2.2.2.2.2.1
theorem dJ2_getChars_11360_25 : decode cJ2_getChars_11360 25 = .ok (.ldc2_w 410, 3) := qdJ2_getChars_11360_0_24.2.2.2.2.2.2.2.2.2.2.2.2.2.2.2.2.1
theorem dJ2_getChars_11360_28 : decode cJ2_getChars_11360 28 = .ok (.lcmp, 1) := qdJ2_getChars_11360_0_24.2.2.2.2.2.2.2.2.2.2.2.2.2.2.2.2.2.1
theorem dJ2_getChars_11360_29 : decode cJ2_getChars_11360 29 = .ok (.ifCond .gt 57, 3) := qdJ2_getChars_11360_0_24.2.2.2.2.2.2.2.2.2.2.2.2.2.2.2.2.2.2.1
theorem dJ2_getChars_11360_32 : decode cJ2_getChars_11360 32 = .ok (.lload_n 0, 1) := qdJ2_getChars_11360_0_24.2.2.2.2.2.2.2.2.2.2.2.2.2.2.2.2.2.2.2.1
theorem dJ2_getChars_11360_33 : decode cJ2_getChars_11360 33 = .ok (.ldc2_w 412, 3) := qdJ2_getChars_11360_0_24.2.2.2.2.2.2.2.2.2.2.2.2.2.2.2.2.2.2.2.2.1
theorem dJ2_getChars_11360_36 : decode cJ2_getChars_11360 36 = .ok (.ldiv, 1) := qdJ2_getChars_11360_0_24.2.2.2.2.2.2.2.2.2.2.2.2.2.2.2.2.2.2.2.2.2.1
theorem dJ2_getChars_11360_37 : decode cJ2_getChars_11360 37 = .ok (.lstore 4, 2) := qdJ2_getChars_11360_0_24.2.2.2.2.2.2.2.2.2.2.2.2.2.2.2.2.2.2.2.2.2.2.1
theorem dJ2_getChars_11360_39 : decode cJ2_getChars_11360 39 = .ok (.lload 4, 2) := qdJ2_getChars_11360_0_24.2.2.2.2.2.2.2.2.2.2.2.2.2.2.2.2.2.2.2.2.2.2.2.1
theorem qdJ2_getChars_11360_41_24 : dcAll cJ2_getChars_11360 [(41, .ldc2_w 412, 3), (44, .lmul, 1), (45, .lload_n 0, 1), (46, .lsub, 1), (47, .l2i, 1), (48, .istore 6, 2), (50, .lload 4, 2), (52, .lstore_n 0, 1), (53, .aload_n 3, 1), (54, .iinc 7 (-1), 3), (57, .iload 7, 2), (59, .getstatic 403, 3), (62, .iload 6, 2), (64, .baload, 1), (65, .invokestatic 111, 3), (68, .aload_n 3, 1), (69, .iinc 7 (-1), 3), (72, .iload 7, 2), (74, .getstatic 407, 3), (77, .iload 6, 2), (79, .baload, 1), (80, .invokestatic 111, 3), (83, .goto (-59), 3), (86, .lload_n 0, 1)] := dcAll_of (by decide +kernel)
theorem dJ2_getChars_11360_41 : decode cJ2_getChars_11360 41 = .ok (.ldc2_w 412, 3) := qdJ2_getChars_11360_41_24.1
theorem dJ2_getChars_11360_44 : decode cJ2_getChars_11360 44 = .ok (.lmul, 1) := qdJ2_getChars_11360_41_24.2.1
theorem dJ2_getChars_11360_45 : decode cJ2_getChars_11360 45 = .ok (.lload_n 0, 1) := qdJ2_getChars_11360_41_24.2.2.1
theorem dJ2_getChars_11360_46 : decode cJ2_getChars_11360 46 = .ok (.lsub, 1) := qdJ2_getChars_11360_41_24.2.2.2.1
theorem dJ2_getChars_11360_47 : decode cJ2_getChars_11360 47 = .ok (.l2i, 1) := qdJ2_getChars_11360_41_24.2.2.2.2.1
theorem dJ2_getChars_11360_48 : decode cJ2_getChars_11360 48 = .ok (.istore 6, 2) := qdJ2_getChars_11360_41_24.2.2.2.2.2.1
theorem dJ2_getChars_11360_50 : decode cJ2_getChars_11360 50 = .ok (.lload 4, 2) := qdJ2_getChars_11360_41_24.2.2.2.2.2.2.1
theorem dJ2_getChars_11360_52 : decode cJ2_getChars_11360 52 = .ok (.lstore_n 0, 1) := qdJ2_getChars_11360_41_24.2.2.2.2.2.2.2.1
theorem dJ2_getChars_11360_53 : decode cJ2_getChars_11360 53 = .ok (.aload_n 3, 1) := qdJ2_getChars_11360_41_24.2.2.2.2.2.2.2.2.1
theorem dJ2_getChars_11360_54 : decode cJ2_getChars_11360 54 = .ok (.iinc 7 (-1), 3) := qdJ2_getChars_11360_41_24.2.2.2.2.2.2.2.2.2.1
theorem dJ2_getChars_11360_57 : decode cJ2_getChars_11360 57 = .ok (.iload 7, 2) := qdJ2_getChars_11360_41_24.2.2.2.2.2.2.2.2.2.2.1
theorem dJ2_getChars_11360_59 : decode cJ2_getChars_11360 59 = .ok (.getstatic 403, 3) := qdJ2_getChars_11360_41_24.2.2.2.2.2.2.2.2.2.2.2.1
theorem dJ2_getChars_11360_62 : decode cJ2_getChars_11360 62 = .ok (.iload 6, 2) := qdJ2_getChars_11360_41_24.2.2.2.2.2.2.2.2.2.2.2.2.1
theorem dJ2_getChars_11360_64 : decode cJ2_getChars_11360 64 = .ok (.baload, 1) := qdJ2_getChars_11360_41_24.2.2.2.2.2.2.2.2.2.2.2.2.2.1
theorem dJ2_getChars_11360_65 : decode cJ2_getChars_11360 65 = .ok (.invokestatic 111, 3) := qdJ2_getChars_11360_41_24.2.2.2.2.2.2.2.2.2.2.2.2.2.2.1
theorem dJ2_getChars_11360_68 : decode cJ2_getChars_11360 68 = .ok (.aload_n 3, 1) := qdJ2_getChars_11360_41_24.2.2.2.2.2.2.2.2.2.2.2.2.2.2.2.1
theorem dJ2_getChars_11360_69 : decode cJ2_getChars_11360 69 = .ok (.iinc 7 (-1), 3) := qdJ2_getChars_11360_41_24.2.2.2.2.2.2.2.2.2.2.2.2.2.2.2.2.1
theorem dJ2_getChars_11360_72 : decode cJ2_getChars_11360 72 = .ok (.iload 7, 2) := qdJ2_getChars_11360_41_24.2.2.2.2.2.2.2.2.2.2.2.2.2.2.2.2.2.1
theorem dJ2_getChars_11360_74 : decode cJ2_getChars_11360 74 = .ok (.getstatic 407, 3) := qdJ2_getChars_11360_41_24.2.2.2.2.2.2.2.2.2.2.2.2.2.2.2.2.2.2.1
theorem dJ2_getChars_11360_77 : decode cJ2_getChars_11360 77 = .ok (.iload 6, 2) := qdJ2_getChars_11360_41_24.2.2.2.2.2.2.2.2.2.2.2.2.2.2.2.2.2.2.2.1
theorem dJ2_getChars_11360_79 : decode cJ2_getChars_11360 79 = .ok (.baload, 1) := qdJ2_getChars_11360_41_24.2.2.2.2.2.2.2.2.2.2.2.2.2.2.2.2.2.2.2.2.1
theorem dJ2_getChars_11360_80 : decode cJ2_getChars_11360 80 = .ok (.invokestatic 111, 3) := qdJ2_getChars_11360_41_24.2.2.2.2.2.2.2.2.2.2.2.2.2.2.2.2.2.2.2.2.2.1
theorem dJ2_getChars_11360_83 : decode cJ2_getChars_11360 83 = .ok (.goto (-59), 3) := qdJ2_getChars_11360_41_24.2.2.2.2.2.2.2.2.2.2.2.2.2.2.2.2.2.2.2.2.2.2.1
theorem dJ2_getChars_11360_86 : decode cJ2_getChars_11360 86 = .ok (.lload_n 0, 1) := qdJ2_getChars_11360_41_24.2.2.2.2.2.2.2.2.2.2.2.2.2.2.2.2.2.2.2.2.2.2.2.1
theorem qdJ2_getChars_11360_87_24 : dcAll cJ2_getChars_11360 [(87, .l2i, 1), (88, .istore 10, 2), (90, .iload 10, 2), (92, .bipush (-100), 2), (94, .if_icmp .gt 57, 3), (97, .iload 10, 2), (99, .bipush 100, 2), (101, .idiv, 1), (102, .istore 9, 2), (104, .iload 9, 2), (106, .bipush 100, 2), (108, .imul, 1), (109, .iload 10, 2), (111, .isub, 1), (112, .istore 6, 2), (114, .iload 9, 2), (116, .istore 10, 2), (118, .aload_n 3, 1), (119, .iinc 7 (-1), 3), (122, .iload 7, 2), (124, .getstatic 403, 3), (127, .iload 6, 2), (129, .baload, 1), (130, .invokestatic 111, 3)] := dcAll_of (by decide +kernel)
theorem dJ2_getChars_11360_87 : decode cJ2_getChars_11360 87 = .ok (.l2i, 1) := qdJ2_getChars_11360_87_24.1
theorem dJ2_getChars_11360_88 : decode cJ2_getChars_11360 88 = .ok (.istore 10, 2) := qdJ2_getChars_11360_87_24.2.1
theorem dJ2_getChars_11360_90 : decode cJ2_getChars_11360 90 = .ok (.iload 10, 2) := qdJ2_getChars_11360_87_24.2.2.1
theorem dJ2_getChars_11360_92 : decode cJ2_getChars_11360 92 = .ok (.bipush (-100), 2) := qdJ2_getChars_11360_87_24.2.2.2.1
theorem dJ2_getChars_11360_94 : decode cJ2_getChars_11360 94 = .ok (.if_icmp .gt 57, 3) := qdJ2_getChars_11360_87_24.2.2.2.2.1
theorem dJ2_getChars_11360_97 : decode cJ2_getChars_11360 97 = .ok (.iload 10, 2) := qdJ2_getChars_11360_87_24.2.2.2.2.2.1
theorem dJ2_getChars_11360_99 : decode cJ2_getChars_11360 99 = .ok (.bipush 100, 2) := qdJ2_getChars_11360_87_24.2.2.2.2.2.2.1
theorem dJ2_getChars_11360_101 : decode cJ2_getChars_11360 101 = .ok (.idiv, 1) := qdJ2_getChars_11360_87_24.2.2.2.2.2.2.2.1
theorem dJ2_getChars_11360_102 : decode cJ2_getChars_11360 102 = .ok (.istore 9, 2) := qdJ2_getChars_11360_87_24.2.2.2.2.2.2.2.2.1
theorem dJ2_getChars_11360_104 : decode cJ2_getChars_11360 104 = .ok (.iload 9, 2) := qdJ2_getChars_11360_87_24.2.2.2.2.2.2.2.2.2.1
theorem dJ2_getChars_11360_106 : decode cJ2_getChars_11360 106 = .ok (.bipush 100, 2) := qdJ2_getChars_11360_87_24.2.2.2.2.2.2.2.2.2.2.1
theorem dJ2_getChars_11360_108 : decode cJ2_getChars_11360 108 = .ok (.imul, 1) := qdJ2_getChars_11360_87_24.2.2.2.2.2.2.2.2.2.2.2.1
theorem dJ2_getChars_11360_109 : decode cJ2_getChars_11360 109 = .ok (.iload 10, 2) := qdJ2_getChars_11360_87_24.2.2.2.2.2.2.2.2.2.2.2.2.1
theorem dJ2_getChars_11360_111 : decode cJ2_getChars_11360 111 = .ok (.isub, 1) := qdJ2_getChars_11360_87_24.2.2.2.2.2.2.2.2.2.2.2.2.2.1
theorem dJ2_getChars_11360_112 : decode cJ2_getChars_11360 112 = .ok (.istore 6, 2) := qdJ2_getChars_11360_87_24.2.2.2.2.2.2.2.2.2.2.2.2.2.2.1
theorem dJ2_getChars_11360_114 : decode cJ2_getChars_11360 114 = .ok (.iload 9, 2) := qdJ2_getChars_11360_87_24.2.2.2.2.2.2.2.2.2.2.2.2.2.2.2.1
theorem dJ2_getChars_11360_116 : decode cJ2_getChars_11360 116 = .ok (.istore 10, 2) := qdJ2_getChars_11360_87_24.2.2.2.2.2.2.2.2.2.2.2.2.2.2.2.2.1
theorem dJ2_getChars_11360_118 : decode cJ2_getChars_11360 118 = .ok (.aload_n 3, 1) := qdJ2_getChars_11360_87_24.2.2.2.2.2.2.2.2.2.2.2.2.2.2.2.2.2.1
theorem dJ2_getChars_11360_119 : decode cJ2_getChars_11360 119 = .ok (.iinc 7 (-1), 3) := qdJ2_getChars_11360_87_24.2.2.2.2.2.2.2.2.2.2.2.2.2.2.2.2.2.2.1
theorem dJ2_getChars_11360_122 : decode cJ2_getChars_11360 122 = .ok (.iload 7, 2) := qdJ2_getChars_11360_87_24.2.2.2.2.2.2.2.2.2.2.2.2.2.2.2.2.2.2.2.1
theorem dJ2_getChars_11360_124 : decode cJ2_getChars_11360 124 = .ok (.getstatic 403, 3) := qdJ2_getChars_11360_87_24.2.2.2.2.2.2.2.2.2.2.2.2.2.2.2.2.2.2.2.2.1
theorem dJ2_getChars_11360_127 : decode cJ2_getChars_11360 127 = .ok (.iload 6, 2) := qdJ2_getChars_11360_87_24.2.2.2.2.2.2.2.2.2.2.2.2.2.2.2.2.2.2.2.2.2.1
theorem dJ2_getChars_11360_129 : decode cJ2_getChars_11360 129 = .ok (.baload, 1) := qdJ2_getChars_11360_87_24.2.2.2.2.2.2.2.2.2.2.2.2.2.2.2.2.2.2.2.2.2.2.1
theorem dJ2_getChars_11360_130 : decode cJ2_getChars_11360 130 = .ok (.invokestatic 111, 3) := qdJ2_getChars_11360_87_24.2.2.2.2.2.2.2.2.2.2.2.2.2.2.2.2.2.2.2.2.2.2.2.1
theorem qdJ2_getChars_11360_133_24 : dcAll cJ2_getChars_11360 [(133, .aload_n 3, 1), (134, .iinc 7 (-1), 3), (137, .iload 7, 2), (139, .getstatic 407, 3), (142, .iload 6, 2), (144, .baload, 1), (145, .invokestatic 111, 3), (148, .goto (-58), 3), (151, .aload_n 3, 1), (152, .iinc 7 (-1), 3), (155, .iload 7, 2), (157, .getstatic 403, 3), (160, .iload 10, 2), (162, .ineg, 1), (163, .baload, 1), (164, .invokestatic 111, 3), (167, .iload 10, 2), (169, .bipush (-9), 2), (171, .if_icmp .ge 19, 3), (174, .aload_n 3, 1), (175, .iinc 7 (-1), 3), (178, .iload 7, 2), (180, .getstatic 407, 3), (183, .iload 10, 2)] := dcAll_of (by decide +kernel)
theorem dJ2_getChars_11360_133 : decode cJ2_getChars_11360 133 = .ok (.aload_n 3, 1) := qdJ2_getChars_11360_133_24.1
theorem dJ2_getChars_11360_134 : decode cJ2_getChars_11360 134 = .ok (.iinc 7 (-1), 3) := qdJ2_getChars_11360_133_24.2.1
theorem dJ2_getChars_11360_137 : decode cJ2_getChars_11360 137 = .ok (.iload 7, 2) := qdJ2_getChars_11360_133_24.2.2.1
theorem dJ2_getChars_11360_139 : decode cJ2_getChars_11360 139 = .ok (.getstatic 407, 3) := qdJ2_getChars_11360_133_24.2.2.2.1
theorem dJ2_getChars_11360_142 : decode cJ2_getChars_11360 142 = .ok (.iload 6, 2) := qdJ2_getChars_11360_133_24.2.2.2.2.1
theorem dJ2_getChars_11360_144 : decode cJ2_getChars_11360 144 = .ok (.baload, 1) := qdJ2_getChars_11360_133_24.2.2.2.2.2.1
theorem dJ2_getChars_11360_145 : decode cJ2_getChars_11360 145 = .ok (.invokestatic 111, 3) := qdJ2_getChars_11360_133_24.2.2.2.2.2.2.1
theorem dJ2_getChars_11360_148 : decode cJ2_getChars_11360 148 = .ok (.goto (-58), 3) := qdJ2_getChars_11360_133_24.2.2.2.2.2.2.2.1
theorem dJ2_getChars_11360_151 : decode cJ2_getChars_11360 151 = .ok (.aload_n 3, 1) := qdJ2_getChars_11360_133_24.2.2.2.2.2.2.2.2.1
theorem dJ2_getChars_11360_152 : decode cJ2_getChars_11360 152 = .ok (.iinc 7 (-1), 3) := qdJ2_getChars_11360_133_24.2.2.2.2.2.2.2.2.2.1
theorem dJ2_getChars_11360_155 : decode cJ2_getChars_11360 155 = .ok (.iload 7, 2) := qdJ2_getChars_11360_133_24.2.2.2.2.2.2.2.2.2.2.1
theorem dJ2_getChars_11360_157 : decode cJ2_getChars_11360 157 = .ok (.getstatic 403, 3) := qdJ2_getChars_11360_133_24.2.2.2.2.2.2.2.2.2.2.2.1
theorem dJ2_getChars_11360_160 : decode cJ2_getChars_11360 160 = .ok (.iload 10, 2) := qdJ2_getChars_11360_133_24.2.2.2.2.2.2.2.2.2.2.2.2.1
theorem dJ2_getChars_11360_162 : decode cJ2_getChars_11360 162 = .ok (.ineg, 1) := qdJ2_getChars_11360_133_24.2.2.2.2.2.2.2.2.2.2.2.2.2.1
theorem dJ2_getChars_11360_163 : decode cJ2_getChars_11360 163 = .ok (.baload, 1) := qdJ2_getChars_11360_133_24.2.2.2.2.2.2.2.2.2.2.2.2.2.2.1
theorem dJ2_getChars_11360_164 : decode cJ2_getChars_11360 164 = .ok (.invokestatic 111, 3) := qdJ2_getChars_11360_133_24.2.2.2.2.2.2.2.2.2.2.2.2.2.2.2.1
theorem dJ2_getChars_11360_167 : decode cJ2_getChars_11360 167 = .ok (.iload 10, 2) := qdJ2_getChars_11360_133_24.2.2.2.2.2.2.2.2.2.2.2.2.2.2.2.2.1
theorem dJ2_getChars_11360_169 : decode cJ2_getChars_11360 169 = .ok (.bipush (-9), 2) := qdJ2_getChars_11360_133_24.2.2.2.2.2.2.2.2.2.2.2.2.2.2.2.2.2.1
theorem dJ2_getChars_11360_171 : decode cJ2_getChars_11360 171 = .ok (.if_icmp .ge 19, 3) := qdJ2_getChars_11360_133_24.2.2.2.2.2.2.2.2.2.2.2.2.2.2.2.2.2.2.1
theorem dJ2_getChars_11360_174 : decode cJ2_getChars_11360 174 = .ok (.aload_n 3, 1) := qdJ2_getChars_11360_133_24.2.2.2.2.2.2.2.2.2.2.2.2.2.2.2.2.2.2.2.1
theorem dJ2_getChars_11360_175 : decode cJ2_getChars_11360 175 = .ok (.iinc 7 (-1), 3) := qdJ2_getChars_11360_133_24.2.2.2.2.2.2.2.2.2.2.2.2.2.2.2.2.2.2.2.2.1
theorem dJ2_getChars_11360_178 : decode cJ2_getChars_11360 178 = .ok (.iload 7, 2) := qdJ2_getChars_11360_133_24.2.2.2.2.2.2.2.2.2.2.2.2.2.2.2.2.2.2.2.2.2.1
theorem dJ2_getChars_11360_180 : decode cJ2_getChars_11360 180 = .ok (.getstatic 407, 3) := qdJ2_getChars_11360_133_24.2.2.2.2.2.2.2.2.2.2.2.2.2.2.2.2.2.2.2.2.2.2.1
theorem dJ2_getChars_11360_183 : decode cJ2_getChars_11360 183 = .ok (.iload 10, 2) := qdJ2_getChars_11360_133_24.2.2.2.2.2.2.2.2.2.2.2.2.2.2.2.2.2.2.2.2.2.2.2.1
theorem qdJ2_getChars_11360_185_12 : dcAll cJ2_getChars_11360 [(185, .ineg, 1), (186, .baload, 1), (187, .invokestatic 111, 3), (190, .iload 8, 2), (192, .ifCond .eq 14, 3), (195, .aload_n 3, 1), (196, .iinc 7 (-1), 3), (199, .iload 7, 2), (201, .bipush 45, 2), (203, .invokestatic 111, 3), (206, .iload 7, 2), (208, .ireturn, 1)] := dcAll_of (by decide +kernel)
theorem dJ2_getChars_11360_185 : decode cJ2_getChars_11360 185 = .ok (.ineg, 1) := qdJ2_getChars_11360_185_12.1
theorem dJ2_getChars_11360_186 : decode cJ2_getChars_11360 186 = .ok (.baload, 1) := qdJ2_getChars_11360_185_12.2.1
theorem dJ2_getChars_11360_187 : decode cJ2_getChars_11360 187 = .ok (.invokestatic 111, 3) := qdJ2_getChars_11360_185_12.2.2.1
theorem dJ2_getChars_11360_190 : decode cJ2_getChars_11360 190 = .ok (.iload 8, 2) := qdJ2_getChars_11360_185_12.2.2.2.1
theorem dJ2_getChars_11360_192 : decode cJ2_getChars_11360 192 = .ok (.ifCond .eq 14, 3) := qdJ2_getChars_11360_185_12.2.2.2.2.1
theorem dJ2_getChars_11360_195 : decode cJ2_getChars_11360 195 = .ok (.aload_n 3, 1) := qdJ2_getChars_11360_185_12.2.2.2.2.2.1
theorem dJ2_getChars_11360_196 : decode cJ2_getChars_11360 196 = .ok (.iinc 7 (-1), 3) := qdJ2_getChars_11360_185_12.2.2.2.2.2.2.1
theorem dJ2_getChars_11360_199 : decode cJ2_getChars_11360 199 = .ok (.iload 7, 2) := qdJ2_getChars_11360_185_12.2.2.2.2.2.2.2.1
theorem dJ2_getChars_11360_201 : decode cJ2_getChars_11360 201 = .ok (.bipush 45, 2) := qdJ2_getChars_11360_185_12.2.2.2.2.2.2.2.2.1
theorem dJ2_getChars_11360_203 : decode cJ2_getChars_11360 203 = .ok (.invokestatic 111, 3) := qdJ2_getChars_11360_185_12.2.2.2.2.2.2.2.2.2.1
theorem dJ2_getChars_11360_206 : decode cJ2_getChars_11360 206 = .ok (.iload 7, 2) := qdJ2_getChars_11360_185_12.2.2.2.2.2.2.2.2.2.2.1
theorem dJ2_getChars_11360_208 : decode cJ2_getChars_11360 208 = .ok (.ireturn, 1) := qdJ2_getChars_11360_185_12.2.2.2.2.2.2.2.2.2.2.2.1
set_option maxRecDepth 20000 in
theorem ggJ2_checkIndex_2214a_J2_length_9d52b : GoodIn wsJ2_checkIndex_2214a wsJ2_length_9d52b := goodIn_r _ [4] rfl (by decide +kernel)
set_option maxRecDepth 20000 in
theorem gJ2_checkIndex_2214a_J2_length_9d52b : GoodIn wsJ2_checkIndex_2214a (va_wsS RJ2 48 yJ2_length_9d52b wsJ2_length_9d52b) := goodIn_app (goodIn_r _ [1, 2, 3] rfl rfl) ggJ2_checkIndex_2214a_J2_length_9d52b
set_option maxRecDepth 20000 in
theorem ggJ2_checkIndex_2214a_J0_checkIndex_df160 : GoodIn wsJ2_checkIndex_2214a wsJ0_checkIndex_df160 := goodIn_r _ [8, 9, 10, 11, 12, 13] rfl (by decide +kernel)
set_option maxRecDepth 20000 in
theorem gJ2_checkIndex_2214a_J0_checkIndex_df160 : GoodIn wsJ2_checkIndex_2214a (va_wsS RJ2 414 yJ0_checkIndex_df160 wsJ0_checkIndex_df160) := goodIn_app (goodIn_r _ [5, 6, 7] rfl rfl) ggJ2_checkIndex_2214a_J0_checkIndex_df160
theorem qdJ2_checkIndex_2214a_0_5 : dcAll cJ2_checkIndex_2214a [(0, .iload_n 0, 1), (1, .aload_n 1, 1), (2, .invokestatic 48, 3), (5, .invokestatic 414, 3), (8, .return_, 1)] := dcAll_of (by decide +kernel)
theorem dJ2_checkIndex_2214a_0 : decode cJ2_checkIndex_2214a 0 = .ok (.iload_n 0, 1) := qdJ2_checkIndex_2214a_0_5.1
theorem dJ2_checkIndex_2214a_1 : decode cJ2_checkIndex_2214a 1 = .ok (.aload_n 1, 1) := qdJ2_checkIndex_2214a_0_5.2.1
theorem dJ2_checkIndex_2214a_2 : decode cJ2_checkIndex_2214a 2 = .ok (.invokestatic 48, 3) := qdJ2_checkIndex_2214a_0_5.2.2.1
theorem dJ2_checkIndex_2214a_5 : decode cJ2_checkIndex_2214a 5 = .ok (.invokestatic 414, 3) := qdJ2_checkIndex_2214a_0_5.2.2.2.1
theorem dJ2_checkIndex_2214a_8 : decode cJ2_checkIndex_2214a 8 = .ok (.return_, 1) := qdJ2_checkIndex_2214a_0_5.2.2.2.2.1
set_option maxRecDepth 20000 in
theorem ggJ2_checkOffset_2214a_J2_length_9d52b : GoodIn wsJ2_checkOffset_2214a wsJ2_length_9d52b := goodIn_r _ [4] rfl (by decide +kernel)
set_option maxRecDepth 20000 in
theorem gJ2_checkOffset_2214a_J2_length_9d52b : GoodIn wsJ2_checkOffset_2214a (va_wsS RJ2 48 yJ2_length_9d52b wsJ2_length_9d52b) := goodIn_app (goodIn_r _ [1, 2, 3] rfl rfl) ggJ2_checkOffset_2214a_J2_length_9d52b
set_option maxRecDepth 20000 in
theorem ggJ2_checkOffset_2214a_J0_checkOffset_df160 : GoodIn wsJ2_checkOffset_2214a wsJ0_checkOffset_df160 := goodIn_r _ [8, 9, 10, 11, 12, 13] rfl (by decide +kernel)
set_option maxRecDepth 20000 in
theorem gJ2_checkOffset_2214a_J0_checkOffset_df160 : GoodIn wsJ2_checkOffset_2214a (va_wsS RJ2 417 yJ0_checkOffset_df160 wsJ0_checkOffset_df160) := goodIn_app (goodIn_r _ [5, 6, 7] rfl rfl) ggJ2_checkOffset_2214a_J0_checkOffset_df160
theorem qdJ2_checkOffset_2214a_0_5 : dcAll cJ2_checkOffset_2214a [(0, .iload_n 0, 1), (1, .aload_n 1, 1), (2, .invokestatic 48, 3), (5, .invokestatic 417, 3), (8, .return_, 1)] := dcAll_of (by decide +kernel)
theorem dJ2_checkOffset_2214a_0 : decode cJ2_checkOffset_2214a 0 = .ok (.iload_n 0, 1) := qdJ2_checkOffset_2214a_0_5.1
theorem dJ2_checkOffset_2214a_1 : decode cJ2_checkOffset_2214a 1 = .ok (.aload_n 1, 1) := qdJ2_checkOffset_2214a_0_5.2.1
theorem dJ2_checkOffset_2214a_2 : decode cJ2_checkOffset_2214a 2 = .ok (.invokestatic 48, 3) := qdJ2_checkOffset_2214a_0_5.2.2.1
theorem dJ2_checkOffset_2214a_5 : decode cJ2_checkOffset_2214a 5 = .ok (.invokestatic 417, 3) := qdJ2_checkOffset_2214a_0_5.2.2.2.1
theorem dJ2_checkOffset_2214a_8 : decode cJ2_checkOffset_2214a 8 = .ok (.return_, 1) := qdJ2_checkOffset_2214a_0_5.2.2.2.2.1
set_option maxRecDepth 20000 in
theorem ggJ2_checkBoundsBeginEnd_d044e_J2_length_9d52b : GoodIn wsJ2_checkBoundsBeginEnd_d044e wsJ2_length_9d52b := goodIn_r _ [4] rfl (by decide +kernel)
set_option maxRecDepth 20000 in
theorem gJ2_checkBoundsBeginEnd_d044e_J2_length_9d52b : GoodIn wsJ2_checkBoundsBeginEnd_d044e (va_wsS RJ2 48 yJ2_length_9d52b wsJ2_length_9d52b) := goodIn_app (goodIn_r _ [1, 2, 3] rfl rfl) ggJ2_checkBoundsBeginEnd_d044e_J2_length_9d52b
set_option maxRecDepth 20000 in
theorem ggJ2_checkBoundsBeginEnd_d044e_J0_checkBoundsBeginEnd_23922 : GoodIn wsJ2_checkBoundsBeginEnd_d044e wsJ0_checkBoundsBeginEnd_23922 := goodIn_r _ [8, 9, 10, 11, 12, 13] rfl (by decide +kernel)
set_option maxRecDepth 20000 in
theorem gJ2_checkBoundsBeginEnd_d044e_J0_checkBoundsBeginEnd_23922 : GoodIn wsJ2_checkBoundsBeginEnd_d044e (va_wsS RJ2 241 yJ0_checkBoundsBeginEnd_23922 wsJ0_checkBoundsBeginEnd_23922) := goodIn_app (goodIn_r _ [5, 6, 7] rfl rfl) ggJ2_checkBoundsBeginEnd_d044e_J0_checkBoundsBeginEnd_23922
theorem qdJ2_checkBoundsBeginEnd_d044e_0_6 : dcAll cJ2_checkBoundsBeginEnd_d044e [(0, .iload_n 0, 1), (1, .iload_n 1, 1), (2, .aload_n 2, 1), (3, .invokestatic 48, 3), (6, .invokestatic 241, 3), (9, .return_, 1)] := dcAll_of (by decide +kernel)
theorem dJ2_checkBoundsBeginEnd_d044e_0 : decode cJ2_checkBoundsBeginEnd_d044e 0 = .ok (.iload_n 0, 1) := qdJ2_checkBoundsBeginEnd_d044e_0_6.1
theorem dJ2_checkBoundsBeginEnd_d044e_1 : decode cJ2_checkBoundsBeginEnd_d044e 1 = .ok (.iload_n 1, 1) := qdJ2_checkBoundsBeginEnd_d044e_0_6.2.1
theorem dJ2_checkBoundsBeginEnd_d044e_2 : decode cJ2_checkBoundsBeginEnd_d044e 2 = .ok (.aload_n 2, 1) := qdJ2_checkBoundsBeginEnd_d044e_0_6.2.2.1
theorem dJ2_checkBoundsBeginEnd_d044e_3 : decode cJ2_checkBoundsBeginEnd_d044e 3 = .ok (.invokestatic 48, 3) := qdJ2_checkBoundsBeginEnd_d044e_0_6.2.2.2.1
theorem dJ2_checkBoundsBeginEnd_d044e_6 : decode cJ2_checkBoundsBeginEnd_d044e 6 = .ok (.invokestatic 241, 3) := qdJ2_checkBoundsBeginEnd_d044e_0_6.2.2.2.2.1
theorem dJ2_checkBoundsBeginEnd_d044e_9 : decode cJ2_checkBoundsBeginEnd_d044e 9 = .ok (.return_, 1) := qdJ2_checkBoundsBeginEnd_d044e_0_6.2.2.2.2.2.1
set_option maxRecDepth 20000 in
theorem ggJ2_checkBoundsOffCount_d044e_J2_length_9d52b : GoodIn wsJ2_checkBoundsOffCount_d044e wsJ2_length_9d52b := goodIn_r _ [4] rfl (by decide +kernel)
set_option maxRecDepth 20000 in
theorem gJ2_checkBoundsOffCount_d044e_J2_length_9d52b : GoodIn wsJ2_checkBoundsOffCount_d044e (va_wsS RJ2 48 yJ2_length_9d52b wsJ2_length_9d52b) := goodIn_app (goodIn_r _ [1, 2, 3] rfl rfl) ggJ2_checkBoundsOffCount_d044e_J2_length_9d52b
set_option maxRecDepth 20000 in
theorem ggJ2_checkBoundsOffCount_d044e_J0_checkBoundsOffCount_cabcc : GoodIn wsJ2_checkBoundsOffCount_d044e wsJ0_checkBoundsOffCount_cabcc := goodIn_r _ [8, 9, 10, 11, 12, 13] rfl (by decide +kernel)
set_option maxRecDepth 20000 in
theorem gJ2_checkBoundsOffCount_d044e_J0_checkBoundsOffCount_cabcc : GoodIn wsJ2_checkBoundsOffCount_d044e (va_wsS RJ2 419 yJ0_checkBoundsOffCount_cabcc wsJ0_checkBoundsOffCount_cabcc) := goodIn_app (goodIn_r _ [5, 6, 7] rfl rfl) ggJ2_checkBoundsOffCount_d044e_J0_checkBoundsOffCount_cabcc
theorem qdJ2_checkBoundsOffCount_d044e_0_7 : dcAll cJ2_checkBoundsOffCount_d044e [(0, .iload_n 0, 1), (1, .iload_n 1, 1), (2, .aload_n 2, 1), (3, .invokestatic 48, 3), (6, .invokestatic 419, 3), (9, .pop, 1), (10, .return_, 1)] := dcAll_of (by decide +kernel)
theorem dJ2_checkBoundsOffCount_d044e_0 : decode cJ2_checkBoundsOffCount_d044e 0 = .ok (.iload_n 0, 1) := qdJ2_checkBoundsOffCount_d044e_0_7.1
theorem dJ2_checkBoundsOffCount_d044e_1 : decode cJ2_checkBoundsOffCount_d044e 1 = .ok (.iload_n 1, 1) := qdJ2_checkBoundsOffCount_d044e_0_7.2.1
theorem dJ2_checkBoundsOffCount_d044e_2 : decode cJ2_checkBoundsOffCount_d044e 2 = .ok (.aload_n 2, 1) := qdJ2_checkBoundsOffCount_d044e_0_7.2.2.1
theorem dJ2_checkBoundsOffCount_d044e_3 : decode cJ2_checkBoundsOffCount_d044e 3 = .ok (.invokestatic 48, 3) := qdJ2_checkBoundsOffCount_d044e_0_7.2.2.2.1
theorem dJ2_checkBoundsOffCount_d044e_6 : decode cJ2_checkBoundsOffCount_d044e 6 = .ok (.invokestatic 419, 3) := qdJ2_checkBoundsOffCount_d044e_0_7.2.2.2.2.1
theorem dJ2_checkBoundsOffCount_d044e_9 : decode cJ2_checkBoundsOffCount_d044e 9 = .ok (.pop, 1) := qdJ2_checkBoundsOffCount_d044e_0_7.2.2.2.2.2.1
theorem dJ2_checkBoundsOffCount_d044e_10 : decode cJ2_checkBoundsOffCount_d044e 10 = .ok (.return_, 1) := qdJ2_checkBoundsOffCount_d044e_0_7.2.2.2.2.2.2.1
theorem qdJ7_copyOf_9075b_0_22 : dcAll cJ7_copyOf_9075b [(0, .iload_n 1, 1), (1, .aload_n 0, 1), (2, .arraylength, 1), (3, .if_icmp .ne 11, 3), (6, .aload_n 0, 1), (7, .invokevirtual 310, 3), (10, .checkcast 311, 3), (13, .areturn, 1), (14, .iload_n 1, 1), (15, .newarray .byte, 2), (17, .astore_n 2, 1), (18, .aload_n 0, 1), (19, .iconst 0, 1), (20, .aload_n 2, 1), (21, .iconst 0, 1), (22, .aload_n 0, 1), (23, .arraylength, 1), (24, .iload_n 1, 1), (25, .invokestatic 304, 3), (28, .invokestatic 150, 3), (31, .aload_n 2, 1), (32, .areturn, 1)] := dcAll_of (by decide +kernel)
theorem dJ7_copyOf_9075b_0 : decode cJ7_copyOf_9075b 0 = .ok (.iload_n 1, 1) := qdJ7_copyOf_9075b_0_22.1
theorem dJ7_copyOf_9075b_1 : decode cJ7_copyOf_9075b 1 = .ok (.aload_n 0, 1) := qdJ7_copyOf_9075b_0_22.2.1
theorem dJ7_copyOf_9075b_2 : decode cJ7_copyOf_9075b 2 = .ok (.arraylength, 1) := qdJ7_copyOf_9075b_0_22.2.2.1
theorem dJ7_copyOf_9075b_3 : decode cJ7_copyOf_9075b 3 = .ok (.if_icmp .ne 11, 3) := qdJ7_copyOf_9075b_0_22.2.2.2.1
theorem dJ7_copyOf_9075b_6 : decode cJ7_copyOf_9075b 6 = .ok (.aload_n 0, 1) := qdJ7_copyOf_9075b_0_22.2.2.2.2.1
theorem dJ7_copyOf_9075b_7 : decode cJ7_copyOf_9075b 7 = .ok (.invokevirtual 310, 3) := qdJ7_copyOf_9075b_0_22.2.2.2.2.2.1
theorem dJ7_copyOf_9075b_10 : decode cJ7_copyOf_9075b 10 = .ok (.checkcast 311, 3) := qdJ7_copyOf_9075b_0_22.2.2.2.2.2.2.1
theorem dJ7_copyOf_9075b_13 : decode cJ7_copyOf_9075b 13 = .ok (.areturn, 1) := qdJ7_copyOf_9075b_0_22.2.2.2.2.2.2.2.1
theorem dJ7_copyOf_9075b_14 : decode cJ7_copyOf_9075b 14 = .ok (.iload_n 1, 1) := qdJ7_copyOf_9075b_0_22.2.2.2.2.2.2.2.2.1
theorem dJ7_copyOf_9075b_15 : decode cJ7_copyOf_9075b 15 = .ok (.newarray .byte, 2) := qdJ7_copyOf_9075b_0_22.2.2.2.2.2.2.2.2.2.1
theorem dJ7_copyOf_9075b_17 : decode cJ7_copyOf_9075b 17 = .ok (.astore_n 2, 1) := qdJ7_copyOf_9075b_0_22.2.2.2.2.2.2.2.2.2.2.1
theorem dJ7_copyOf_9075b_18 : decode cJ7_copyOf_9075b 18 = .ok (.aload_n 0, 1) := qdJ7_copyOf_9075b_0_22.2.2.2.2.2.2.2.2.2.2.2.1
theorem dJ7_copyOf_9075b_19 : decode cJ7_copyOf_9075b 19 = .ok (.iconst 0, 1) := qdJ7_copyOf_9075b_0_22.2.2.2.2.2.2.2.2.2.2.2.2.1
theorem dJ7_copyOf_9075b_20 : decode cJ7_copyOf_9075b 20 = .ok (.aload_n 2, 1) := qdJ7_copyOf_9075b_0_22.2.2.2.2.2.2.2.2.2.2.2.2.2.1
theorem dJ7_copyOf_9075b_21 : decode cJ7_copyOf_9075b 21 = .ok (.iconst 0, 1) := qdJ7_copyOf_9075b_0_22.2.2.2.2.2.2.2.2.2.2.2.2.2.2.1
theorem dJ7_copyOf_9075b_22 : decode cJ7_copyOf_9075b 22 = .ok (.aload_n 0, 1) := qdJ7_copyOf_9075b_0_22.2.2.2.2.2.2.2.2.2.2.2.2.2.2.2.1
theorem dJ7_copyOf_9075b_23 : decode cJ7_copyOf_9075b 23 = .ok (.arraylength, 1) := qdJ7_copyOf_9075b_0_22.2.2.2.2.2.2.2.2.2.2.2.2.2.2.2.2.1
theorem dJ7_copyOf_9075b_24 : decode cJ7_copyOf_9075b 24 = .ok (.iload_n 1, 1) := qdJ7_copyOf_9075b_0_22.2.2.2.2.2.2.2.2.2.2.2.2.2.2.2.2.2.1
theorem dJ7_copyOf_9075b_25 : decode cJ7_copyOf_9075b 25 = .ok (.invokestatic 304, 3) := qdJ7_copyOf_9075b_0_22.2.2.2.2.2.2.2.2.2.2.2.2.2.2.2.2.2.2.1
theorem dJ7_copyOf_9075b_28 : decode cJ7_copyOf_9075b 28 = .ok (.invokestatic 150, 3) := qdJ7_copyOf_9075b_0_22.2.2.2.2.2.2.2.2.2.2.2.2.2.2.2.2.2.2.2.1
theorem dJ7_copyOf_9075b_31 : decode cJ7_copyOf_9075b 31 = .ok (.aload_n 2, 1) := qdJ7_copyOf_9075b_0_22.2.2.2.2.2.2.2.2.2.2.2.2.2.2.2.2.2.2.2.2.1
theorem dJ7_copyOf_9075b_32 : decode cJ7_copyOf_9075b 32 = .ok (.areturn, 1) := qdJ7_copyOf_9075b_0_22.2.2.2.2.2.2.2.2.2.2.2.2.2.2.2.2.2.2.2.2.2.1
theorem qdJ7_checkLength_df160_0_18 : dcAll cJ7_checkLength_df160 [(0, .iload_n 1, 1), (1, .iload_n 0, 1), (2, .if_icmp .ge 35, 3), (5, .new 43, 3), (8, .dup, 1), (9, .new 45, 3), (12, .dup, 1), (13, .invokespecial 47, 3), (16, .iload_n 0, 1), (17, .invokevirtual 54, 3), (20, .ldc_w 337, 3), (23, .invokevirtual 50, 3), (26, .iload_n 1, 1), (27, .invokevirtual 54, 3), (30, .invokevirtual 61, 3), (33, .invokespecial 65, 3), (36, .athrow, 1), (37, .return_, 1)] := dcAll_of (by decide +kernel)
theorem dJ7_checkLength_df160_0 : decode cJ7_checkLength_df160 0 = .ok (.iload_n 1, 1) := qdJ7_checkLength_df160_0_18.1
theorem dJ7_checkLength_df160_1 : decode cJ7_checkLength_df160 1 = .ok (.iload_n 0, 1) := qdJ7_checkLength_df160_0_18.2.1
theorem dJ7_checkLength_df160_2 : decode cJ7_checkLength_df160 2 = .ok (.if_icmp .ge 35, 3) := qdJ7_checkLength_df160_0_18.2.2.1
theorem dJ7_checkLength_df160_5 : decode cJ7_checkLength_df160 5 = .ok (.new 43, 3) := qdJ7_checkLength_df160_0_18.2.2.2.1
theorem dJ7_checkLength_df160_8 : decode cJ7_checkLength_df160 8 = .ok (.dup, 1) := qdJ7_checkLength_df160_0_18.2.2.2.2.1
theorem dJ7_checkLength_df160_9 : decode cJ7_checkLength_df160 9 = .ok (.new 45, 3) := qdJ7_checkLength_df160_0_18.2.2.2.2.2.1
theorem dJ7_checkLength_df160_12 : decode cJ7_checkLength_df160 12 = .ok (.dup, 1) := qdJ7_checkLength_df160_0_18.2.2.2.2.2.2.1
theorem dJ7_checkLength_df160_13 : decode cJ7_checkLength_df160 13 = .ok (.invokespecial 47, 3) := qdJ7_checkLength_df160_0_18.2.2.2.2.2.2.2.1
theorem dJ7_checkLength_df160_16 : decode cJ7_checkLength_df160 16 = .ok (.iload_n 0, 1) := qdJ7_checkLength_df160_0_18.2.2.2.2.2.2.2.2.1
theorem dJ7_checkLength_df160_17 : decode cJ7_checkLength_df160 17 = .ok (.invokevirtual 54, 3) := qdJ7_checkLength_df160_0_18.2.2.2.2.2.2.2.2.2.1
theorem dJ7_checkLength_df160_20 : decode cJ7_checkLength_df160 20 = .ok (.ldc_w 337, 3) := qdJ7_checkLength_df160_0_18.2.2.2.2.2.2.2.2.2.2.1
theorem dJ7_checkLength_df160_23 : decode cJ7_checkLength_df160 23 = .ok (.invokevirtual 50, 3) := qdJ7_checkLength_df160_0_18.2.2.2.2.2.2.2.2.2.2.2.1
theorem dJ7_checkLength_df160_26 : decode cJ7_checkLength_df160 26 = .ok (.iload_n 1, 1) := qdJ7_checkLength_df160_0_18.2.2.2.2.2.2.2.2.2.2.2.2.1
theorem dJ7_checkLength_df160_27 : decode cJ7_checkLength_df160 27 = .ok (.invokevirtual 54, 3) := qdJ7_checkLength_df160_0_18.2.2.2.2.2.2.2.2.2.2.2.2.2.1
theorem dJ7_checkLength_df160_30 : decode cJ7_checkLength_df160 30 = .ok (.invokevirtual 61, 3) := qdJ7_checkLength_df160_0_18.2.2.2.2.2.2.2.2.2.2.2.2.2.2.1
theorem dJ7_checkLength_df160_33 : decode cJ7_checkLength_df160 33 = .ok (.invokespecial 65, 3) := qdJ7_checkLength_df160_0_18.2.2.2.2.2.2.2.2.2.2.2.2.2.2.2.1
theorem dJ7_checkLength_df160_36 : decode cJ7_checkLength_df160 36 = .ok (.athrow, 1) := qdJ7_checkLength_df160_0_18.2.2.2.2.2.2.2.2.2.2.2.2.2.2.2.2.1
theorem dJ7_checkLength_df160_37 : decode cJ7_checkLength_df160 37 = .ok (.return_, 1) := qdJ7_checkLength_df160_0_18.2.2.2.2.2.2.2.2.2.2.2.2.2.2.2.2.2.1
set_option maxRecDepth 20000 in
theorem ggJ7_copyOfRange_39247_J7_copyOfRangeByte_39247 : GoodIn wsJ7_copyOfRange_39247 wsJ7_copyOfRangeByte_39247 := goodIn_r _ [10, 11, 12, 13, 14, 15, 16, 17, 18, 19, 20, 21, 9, 22, 23, 24, 25, 26, 27, 28, 29] rfl (by decide +kernel)
set_option maxRecDepth 20000 in
theorem gJ7_copyOfRange_39247_J7_copyOfRangeByte_39247 : GoodIn wsJ7_copyOfRange_39247 (va_wsS RJ7 339 yJ7_copyOfRangeByte_39247 wsJ7_copyOfRangeByte_39247) := goodIn_app (goodIn_r _ [7, 8, 9] rfl rfl) ggJ7_copyOfRange_39247_J7_copyOfRangeByte_39247
theorem qdJ7_copyOfRange_39247_0_15 : dcAll cJ7_copyOfRange_39247 [(0, .iload_n 1, 1), (1, .ifCond .ne 9, 3), (4, .iload_n 2, 1), (5, .aload_n 0, 1), (6, .arraylength, 1), (7, .if_icmp .eq 10, 3), (10, .aload_n 0, 1), (11, .iload_n 1, 1), (12, .iload_n 2, 1), (13, .invokestatic 339, 3), (16, .areturn, 1), (17, .aload_n 0, 1), (18, .invokevirtual 310, 3), (21, .checkcast 311, 3), (24, .areturn, 1)] := dcAll_of (by decide +kernel)
theorem dJ7_copyOfRange_39247_0 : decode cJ7_copyOfRange_39247 0 = .ok (.iload_n 1, 1) := qdJ7_copyOfRange_39247_0_15.1
theorem dJ7_copyOfRange_39247_1 : decode cJ7_copyOfRange_39247 1 = .ok (.ifCond .ne 9, 3) := qdJ7_copyOfRange_39247_0_15.2.1
theorem dJ7_copyOfRange_39247_4 : decode cJ7_copyOfRange_39247 4 = .ok (.iload_n 2, 1) := qdJ7_copyOfRange_39247_0_15.2.2.1
theorem dJ7_copyOfRange_39247_5 : decode cJ7_copyOfRange_39247 5 = .ok (.aload_n 0, 1) := qdJ7_copyOfRange_39247_0_15.2.2.2.1
theorem dJ7_copyOfRange_39247_6 : decode cJ7_copyOfRange_39247 6 = .ok (.arraylength, 1) := qdJ7_copyOfRange_39247_0_15.2.2.2.2.1
theorem dJ7_copyOfRange_39247_7 : decode cJ7_copyOfRange_39247 7 = .ok (.if_icmp .eq 10, 3) := qdJ7_copyOfRange_39247_0_15.2.2.2.2.2.1
theorem dJ7_copyOfRange_39247_10 : decode cJ7_copyOfRange_39247 10 = .ok (.aload_n 0, 1) := qdJ7_copyOfRange_39247_0_15.2.2.2.2.2.2.1
theorem dJ7_copyOfRange_39247_11 : decode cJ7_copyOfRange_39247 11 = .ok (.iload_n 1, 1) := qdJ7_copyOfRange_39247_0_15.2.2.2.2.2.2.2.1
theorem dJ7_copyOfRange_39247_12 : decode cJ7_copyOfRange_39247 12 = .ok (.iload_n 2, 1) := qdJ7_copyOfRange_39247_0_15.2.2.2.2.2.2.2.2.1
theorem dJ7_copyOfRange_39247_13 : decode cJ7_copyOfRange_39247 13 = .ok (.invokestatic 339, 3) := qdJ7_copyOfRange_39247_0_15.2.2.2.2.2.2.2.2.2.1
theorem dJ7_copyOfRange_39247_16 : decode cJ7_copyOfRange_39247 16 = .ok (.areturn, 1) := qdJ7_copyOfRange_39247_0_15.2.2.2.2.2.2.2.2.2.2.1
theorem dJ7_copyOfRange_39247_17 : decode cJ7_copyOfRange_39247 17 = .ok (.aload_n 0, 1) := qdJ7_copyOfRange_39247_0_15.2.2.2.2.2.2.2.2.2.2.2.1
theorem dJ7_copyOfRange_39247_18 : decode cJ7_copyOfRange_39247 18 = .ok (.invokevirtual 310, 3) := qdJ7_copyOfRange_39247_0_15.2.2.2.2.2.2.2.2.2.2.2.2.1
theorem dJ7_copyOfRange_39247_21 : decode cJ7_copyOfRange_39247 21 = .ok (.checkcast 311, 3) := qdJ7_copyOfRange_39247_0_15.2.2.2.2.2.2.2.2.2.2.2.2.2.1
theorem dJ7_copyOfRange_39247_24 : decode cJ7_copyOfRange_39247 24 = .ok (.areturn, 1) := qdJ7_copyOfRange_39247_0_15.2.2.2.2.2.2.2.2.2.2.2.2.2.2.1
set_option maxRecDepth 20000 in
theorem ggJ7_copyOfRangeByte_39247_J7_checkLength_df160 : GoodIn wsJ7_copyOfRangeByte_39247 wsJ7_checkLength_df160 := goodIn_r _ [13, 14, 15, 16, 17, 18, 19, 20] rfl (by decide +kernel)
set_option maxRecDepth 20000 in
theorem gJ7_copyOfRangeByte_39247_J7_checkLength_df160 : GoodIn wsJ7_copyOfRangeByte_39247 (va_wsS RJ7 343 yJ7_checkLength_df160 wsJ7_checkLength_df160) := goodIn_app (goodIn_r _ [10, 11, 12] rfl rfl) ggJ7_copyOfRangeByte_39247_J7_checkLength_df160
theorem qdJ7_copyOfRangeByte_39247_0_23 : dcAll cJ7_copyOfRangeByte_39247 [(0, .iload_n 1, 1), (1, .iload_n 2, 1), (2, .invokestatic 343, 3), (5, .iload_n 2, 1), (6, .iload_n 1, 1), (7, .isub, 1), (8, .istore_n 3, 1), (9, .iload_n 3, 1), (10, .newarray .byte, 2), (12, .astore 4, 2), (14, .aload_n 0, 1), (15, .iload_n 1, 1), (16, .aload 4, 2), (18, .iconst 0, 1), (19, .aload_n 0, 1), (20, .arraylength, 1), (21, .iload_n 1, 1), (22, .isub, 1), (23, .iload_n 3, 1), (24, .invokestatic 304, 3), (27, .invokestatic 150, 3), (30, .aload 4, 2), (32, .areturn, 1)] := dcAll_of (by decide +kernel)
theorem dJ7_copyOfRangeByte_39247_0 : decode cJ7_copyOfRangeByte_39247 0 = .ok (.iload_n 1, 1) := qdJ7_copyOfRangeByte_39247_0_23.1
theorem dJ7_copyOfRangeByte_39247_1 : decode cJ7_copyOfRangeByte_39247 1 = .ok (.iload_n 2, 1) := qdJ7_copyOfRangeByte_39247_0_23.2.1
theorem dJ7_copyOfRangeByte_39247_2 : decode cJ7_copyOfRangeByte_39247 2 = .ok (.invokestatic 343, 3) := qdJ7_copyOfRangeByte_39247_0_23.2.2.1
theorem dJ7_copyOfRangeByte_39247_5 : decode cJ7_copyOfRangeByte_39247 5 = .ok (.iload_n 2, 1) := qdJ7_copyOfRangeByte_39247_0_23.2.2.2.1
theorem dJ7_copyOfRangeByte_39247_6 : decode cJ7_copyOfRangeByte_39247 6 = .ok (.iload_n 1, 1) := qdJ7_copyOfRangeByte_39247_0_23.2.2.2.2.1
theorem dJ7_copyOfRangeByte_39247_7 : decode cJ7_copyOfRangeByte_39247 7 = .ok (.isub, 1) := qdJ7_copyOfRangeByte_39247_0_23.2.2.2.2.2.1
theorem dJ7_copyOfRangeByte_39247_8 : decode cJ7_copyOfRangeByte_39247 8 = .ok (.istore_n 3, 1) := qdJ7_copyOfRangeByte_39247_0_23.2.2.2.2.2.2.1
theorem dJ7_copyOfRangeByte_39247_9 : decode cJ7_copyOfRangeByte_39247 9 = .ok (.iload_n 3, 1) := qdJ7_copyOfRangeByte_39247_0_23.2.2.2.2.2.2.2.1
theorem dJ7_copyOfRangeByte_39247_10 : decode cJ7_copyOfRangeByte_39247 10 = .ok (.newarray .byte, 2) := qdJ7_copyOfRangeByte_39247_0_23.2.2.2.2.2.2.2.2.1
theorem dJ7_copyOfRangeByte_39247_12 : decode cJ7_copyOfRangeByte_39247 12 = .ok (.astore 4, 2) := qdJ7_copyOfRangeByte_39247_0_23.2.2.2.2.2.2.2.2.2.1
theorem dJ7_copyOfRangeByte_39247_14 : decode cJ7_copyOfRangeByte_39247 14 = .ok (.aload_n 0, 1) := qdJ7_copyOfRangeByte_39247_0_23.2.2.2.2.2.2.2.2.2.2.1
theorem dJ7_copyOfRangeByte_39247_15 : decode cJ7_copyOfRangeByte_39247 15 = .ok (.iload_n 1, 1) := qdJ7_copyOfRangeByte_39247_0_23.2.2.2.2.2.2.2.2.2.2.2.1
theorem dJ7_copyOfRangeByte_39247_16 : decode cJ7_copyOfRangeByte_39247 16 = .ok (.aload 4, 2) := qdJ7_copyOfRangeByte_39247_0_23.2.2.2.2.2.2.2.2.2.2.2.2.1
theorem dJ7_copyOfRangeByte_39247_18 : decode cJ7_copyOfRangeByte_39247 18 = .ok (.iconst 0, 1) := qdJ7_copyOfRangeByte_39247_0_23.2.2.2.2.2.2.2.2.2.2.2.2.2.1
theorem dJ7_copyOfRangeByte_39247_19 : decode cJ7_copyOfRangeByte_39247 19 = .ok (.aload_n 0, 1) := qdJ7_copyOfRangeByte_39247_0_23.2.2.2.2.2.2.2.2.2.2.2.2.2.2.1
theorem dJ7_copyOfRangeByte_39247_20 : decode cJ7_copyOfRangeByte_39247 20 = .ok (.arraylength, 1) := qdJ7_copyOfRangeByte_39247_0_23.2.2.2.2.2.2.2.2.2.2.2.2.2.2.2.1
theorem dJ7_copyOfRangeByte_39247_21 : decode cJ7_copyOfRangeByte_39247 21 = .ok (.iload_n 1, 1) := qdJ7_copyOfRangeByte_39247_0_23.2.2.2.2.2.2.2.2.2.2.2.2.2.2.2.2.1
theorem dJ7_copyOfRangeByte_39247_22 : decode cJ7_copyOfRangeByte_39247 22 = .ok (.isub, 1) := qdJ7_copyOfRangeByte_39247_0_23.2.2.2.2.2.2.2.2.2.2.2.2.2.2.2.2.2.1
theorem dJ7_copyOfRangeByte_39247_23 : decode cJ7_copyOfRangeByte_39247 23 = .ok (.iload_n 3, 1) := qdJ7_copyOfRangeByte_39247_0_23.2.2.2.2.2.2.2.2.2.2.2.2.2.2.2.2.2.2.1
theorem dJ7_copyOfRangeByte_39247_24 : decode cJ7_copyOfRangeByte_39247 24 = .ok (.invokestatic 304, 3) := qdJ7_copyOfRangeByte_39247_0_23.2.2.2.2.2.2.2.2.2.2.2.2.2.2.2.2.2.2.2.1
theorem dJ7_copyOfRangeByte_39247_27 : decode cJ7_copyOfRangeByte_39247 27 = .ok (.invokestatic 150, 3) := qdJ7_copyOfRangeByte_39247_0_23.2.2.2.2.2.2.2.2.2.2.2.2.2.2.2.2.2.2.2.2.1
theorem dJ7_copyOfRangeByte_39247_30 : decode cJ7_copyOfRangeByte_39247 30 = .ok (.aload 4, 2) := qdJ7_copyOfRangeByte_39247_0_23.2.2.2.2.2.2.2.2.2.2.2.2.2.2.2.2.2.2.2.2.2.1
theorem dJ7_copyOfRangeByte_39247_32 : decode cJ7_copyOfRangeByte_39247 32 = .ok (.areturn, 1) := qdJ7_copyOfRangeByte_39247_0_23.2.2.2.2.2.2.2.2.2.2.2.2.2.2.2.2.2.2.2.2.2.2.1
set_option maxRecDepth 20000 in
theorem ggJ8_newLength_cabcc_J8_hugeLength_7cf53 : GoodIn wsJ8_newLength_cabcc wsJ8_hugeLength_7cf53 := goodIn_r _ [9, 5] rfl (by decide +kernel)
set_option maxRecDepth 20000 in
theorem gJ8_newLength_cabcc_J8_hugeLength_7cf53 : GoodIn wsJ8_newLength_cabcc (va_wsS RJ8 201 yJ8_hugeLength_7cf53 wsJ8_hugeLength_7cf53) := goodIn_app (goodIn_r _ [6, 7, 8] rfl rfl) ggJ8_newLength_cabcc_J8_hugeLength_7cf53
theorem qdJ8_newLength_cabcc_0_18 : dcAll cJ8_newLength_cabcc [(0, .iload_n 0, 1), (1, .iload_n 1, 1), (2, .iload_n 2, 1), (3, .invokestatic 194, 3), (6, .iadd, 1), (7, .istore_n 3, 1), (8, .iconst 0, 1), (9, .iload_n 3, 1), (10, .if_icmp .ge 11, 3), (13, .iload_n 3, 1), (14, .ldc 200, 2), (16, .if_icmp .gt 5, 3), (19, .iload_n 3, 1), (20, .ireturn, 1), (21, .iload_n 0, 1), (22, .iload_n 1, 1), (23, .invokestatic 201, 3), (26, .ireturn, 1)] := dcAll_of (by decide +kernel)
theorem dJ8_newLength_cabcc_0 : decode cJ8_newLength_cabcc 0 = .ok (.iload_n 0, 1) := qdJ8_newLength_cabcc_0_18.1
theorem dJ8_newLength_cabcc_1 : decode cJ8_newLength_cabcc 1 = .ok (.iload_n 1, 1) := qdJ8_newLength_cabcc_0_18.2.1
theorem dJ8_newLength_cabcc_2 : decode cJ8_newLength_cabcc 2 = .ok (.iload_n 2, 1) := qdJ8_newLength_cabcc_0_18.2.2.1
theorem dJ8_newLength_cabcc_3 : decode cJ8_newLength_cabcc 3 = .ok (.invokestatic 194, 3) := qdJ8_newLength_cabcc_0_18.2.2.2.1
theorem dJ8_newLength_cabcc_6 : decode cJ8_newLength_cabcc 6 = .ok (.iadd, 1) := qdJ8_newLength_cabcc_0_18.2.2.2.2.1
theorem dJ8_newLength_cabcc_7 : decode cJ8_newLength_cabcc 7 = .ok (.istore_n 3, 1) := qdJ8_newLength_cabcc_0_18.2.2.2.2.2.1
theorem dJ8_newLength_cabcc_8 : decode cJ8_newLength_cabcc 8 = .ok (.iconst 0, 1) := qdJ8_newLength_cabcc_0_18.2.2.2.2.2.2.1
theorem dJ8_newLength_cabcc_9 : decode cJ8_newLength_cabcc 9 = .ok (.iload_n 3, 1) := qdJ8_newLength_cabcc_0_18.2.2.2.2.2.2.2.1
theorem dJ8_newLength_cabcc_10 : decode cJ8_newLength_cabcc 10 = .ok (.if_icmp .ge 11, 3) := qdJ8_newLength_cabcc_0_18.2.2.2.2.2.2.2.2.1
theorem dJ8_newLength_cabcc_13 : decode cJ8_newLength_cabcc 13 = .ok (.iload_n 3, 1) := qdJ8_newLength_cabcc_0_18.2.2.2.2.2.2.2.2.2.1
theorem dJ8_newLength_cabcc_14 : decode cJ8_newLength_cabcc 14 = .ok (.ldc 200, 2) := qdJ8_newLength_cabcc_0_18.2.2.2.2.2.2.2.2.2.2.1
theorem dJ8_newLength_cabcc_16 : decode cJ8_newLength_cabcc 16 = .ok (.if_icmp .gt 5, 3) := qdJ8_newLength_cabcc_0_18.2.2.2.2.2.2.2.2.2.2.2.1
theorem dJ8_newLength_cabcc_19 : decode cJ8_newLength_cabcc 19 = .ok (.iload_n 3, 1) := qdJ8_newLength_cabcc_0_18.2.2.2.2.2.2.2.2.2.2.2.2.1
theorem dJ8_newLength_cabcc_20 : decode cJ8_newLength_cabcc 20 = .ok (.ireturn, 1) := qdJ8_newLength_cabcc_0_18.2.2.2.2.2.2.2.2.2.2.2.2.2.1
theorem dJ8_newLength_cabcc_21 : decode cJ8_newLength_cabcc 21 = .ok (.iload_n 0, 1) := qdJ8_newLength_cabcc_0_18.2.2.2.2.2.2.2.2.2.2.2.2.2.2.1
theorem dJ8_newLength_cabcc_22 : decode cJ8_newLength_cabcc 22 = .ok (.iload_n 1, 1) := qdJ8_newLength_cabcc_0_18.2.2.2.2.2.2.2.2.2.2.2.2.2.2.2.1
theorem dJ8_newLength_cabcc_23 : decode cJ8_newLength_cabcc 23 = .ok (.invokestatic 201, 3) := qdJ8_newLength_cabcc_0_18.2.2.2.2.2.2.2.2.2.2.2.2.2.2.2.2.1
theorem dJ8_newLength_cabcc_26 : decode cJ8_newLength_cabcc 26 = .ok (.ireturn, 1) := qdJ8_newLength_cabcc_0_18.2.2.2.2.2.2.2.2.2.2.2.2.2.2.2.2.2.1
theorem qdJ8_hugeLength_7cf53_0_24 : dcAll cJ8_hugeLength_7cf53 [(0, .iload_n 0, 1), (1, .iload_n 1, 1), (2, .iadd, 1), (3, .istore_n 2, 1), (4, .iload_n 2, 1), (5, .ifCond .ge 44, 3), (8, .new 204, 3), (11, .dup, 1), (12, .new 89, 3), (15, .dup, 1), (16, .invokespecial 91, 3), (19, .ldc 206, 2), (21, .invokevirtual 94, 3), (24, .iload_n 0, 1), (25, .invokevirtual 98, 3), (28, .ldc 208, 2), (30, .invokevirtual 94, 3), (33, .iload_n 1, 1), (34, .invokevirtual 98, 3), (37, .ldc 210, 2), (39, .invokevirtual 94, 3), (42, .invokevirtual 101, 3), (45, .invokespecial 212, 3), (48, .athrow, 1)] := dcAll_of (by decide +kernel)
theorem dJ8_hugeLength_7cf53_0 : decode cJ8_hugeLength_7cf53 0 = .ok (.iload_n 0, 1) := qdJ8_hugeLength_7cf53_0_24.1
theorem dJ8_hugeLength_7cf53_1 : decode cJ8_hugeLength_7cf53 1 = .ok (.iload_n 1, 1) := qdJ8_hugeLength_7cf53_0_24.2.1
theorem dJ8_hugeLength_7cf53_2 : decode cJ8_hugeLength_7cf53 2 = .ok (.iadd, 1) := qdJ8_hugeLength_7cf53_0_24.2.2.1
theorem dJ8_hugeLength_7cf53_3 : decode cJ8_hugeLength_7cf53 3 = .ok (.istore_n 2, 1) := qdJ8_hugeLength_7cf53_0_24.2.2.2.1
theorem dJ8_hugeLength_7cf53_4 : decode cJ8_hugeLength_7cf53 4 = .ok (.iload_n 2, 1) := qdJ8_hugeLength_7cf53_0_24.2.2.2.2.1
theorem dJ8_hugeLength_7cf53_5 : decode cJ8_hugeLength_7cf53 5 = .ok (.ifCond .ge 44, 3) := qdJ8_hugeLength_7cf53_0_24.2.2.2.2.2.1
theorem dJ8_hugeLength_7cf53_8 : decode cJ8_hugeLength_7cf53 8 = .ok (.new 204, 3) := qdJ8_hugeLength_7cf53_0_24.2.2.2.2.2.2.1
theorem dJ8_hugeLength_7cf53_11 : decode cJ8_hugeLength_7cf53 11 = .ok (.dup, 1) := qdJ8_hugeLength_7cf53_0_24.2.2.2.2.2.2.2.1
theorem dJ8_hugeLength_7cf53_12 : decode cJ8_hugeLength_7cf53 12 = .ok (.new 89, 3) := qdJ8_hugeLength_7cf53_0_24.2.2.2.2.2.2.2.2.1
theorem dJ8_hugeLength_7cf53_15 : decode cJ8_hugeLength_7cf53 15 = .ok (.dup, 1) := qdJ8_hugeLength_7cf53_0_24.2.2.2.2.2.2.2.2.2.1
theorem dJ8_hugeLength_7cf53_16 : decode cJ8_hugeLength_7cf53 16 = .ok (.invokespecial 91, 3) := qdJ8_hugeLength_7cf53_0_24.2.2.2.2.2.2.2.2.2.2.1
theorem dJ8_hugeLength_7cf53_19 : decode cJ8_hugeLength_7cf53 19 = .ok (.ldc 206, 2) := qdJ8_hugeLength_7cf53_0_24.2.2.2.2.2.2.2.2.2.2.2.1
theorem dJ8_hugeLength_7cf53_21 : decode cJ8_hugeLength_7cf53 21 = .ok (.invokevirtual 94, 3) := qdJ8_hugeLength_7cf53_0_24.2.2.2.2.2.2.2.2.2.2.2.2.1
theorem dJ8_hugeLength_7cf53_24 : decode cJ8_hugeLength_7cf53 24 = .ok (.iload_n 0, 1) := qdJ8_hugeLength_7cf53_0_24.2.2.2.2.2.2.2.2.2.2.2.2.2.1
theorem dJ8_hugeLength_7cf53_25 : decode cJ8_hugeLength_7cf53 25 = .ok (.invokevirtual 98, 3) := qdJ8_hugeLength_7cf53_0_24.2.2.2.2.2.2.2.2.2.2.2.2.2.2.1
theorem dJ8_hugeLength_7cf53_28 : decode cJ8_hugeLength_7cf53 28 = .ok (.ldc 208, 2) := qdJ8_hugeLength_7cf53_0_24.2.2.2.2.2.2.2.2.2.2.2.2.2.2.2.1
theorem dJ8_hugeLength_7cf53_30 : decode cJ8_hugeLength_7cf53 30 = .ok (.invokevirtual 94, 3) := qdJ8_hugeLength_7cf53_0_24.2.2.2.2.2.2.2.2.2.2.2.2.2.2.2.2.1
theorem dJ8_hugeLength_7cf53_33 : decode cJ8_hugeLength_7cf53 33 = .ok (.iload_n 1, 1) := qdJ8_hugeLength_7cf53_0_24.2.2.2.2.2.2.2.2.2.2.2.2.2.2.2.2.2.1
theorem dJ8_hugeLength_7cf53_34 : decode cJ8_hugeLength_7cf53 34 = .ok (.invokevirtual 98, 3) := qdJ8_hugeLength_7cf53_0_24.2.2.2.2.2.2.2.2.2.2.2.2.2.2.2.2.2.2.1
theorem dJ8_hugeLength_7cf53_37 : decode cJ8_hugeLength_7cf53 37 = .ok (.ldc 210, 2) := qdJ8_hugeLength_7cf53_0_24.2.2.2.2.2.2.2.2.2.2.2.2.2.2.2.2.2.2.2.1
theorem dJ8_hugeLength_7cf53_39 : decode cJ8_hugeLength_7cf53 39 = .ok (.invokevirtual 94, 3) := qdJ8_hugeLength_7cf53_0_24.2.2.2.2.2.2.2.2.2.2.2.2.2.2.2.2.2.2.2.2.1
theorem dJ8_hugeLength_7cf53_42 : decode cJ8_hugeLength_7cf53 42 = .ok (.invokevirtual 101, 3) := qdJ8_hugeLength_7cf53_0_24.2.2.2.2.2.2.2.2.2.2.2.2.2.2.2.2.2.2.2.2.2.1
theorem dJ8_hugeLength_7cf53_45 : decode cJ8_hugeLength_7cf53 45 = .ok (.invokespecial 212, 3) := qdJ8_hugeLength_7cf53_0_24.2.2.2.2.2.2.2.2.2.2.2.2.2.2.2.2.2.2.2.2.2.2.1
theorem dJ8_hugeLength_7cf53_48 : decode cJ8_hugeLength_7cf53 48 = .ok (.athrow, 1) := qdJ8_hugeLength_7cf53_0_24.2.2.2.2.2.2.2.2.2.2.2.2.2.2.2.2.2.2.2.2.2.2.2.1
theorem qdJ8_hugeLength_7cf53_49_7 : dcAll cJ8_hugeLength_7cf53 [(49, .iload_n 2, 1), (50, .ldc 200, 2), (52, .if_icmp .gt 6, 3), (55, .ldc 200, 2), (57, .ireturn, 1), (58, .iload_n 2, 1), (59, .ireturn, 1)] := dcAll_of (by decide +kernel)
theorem dJ8_hugeLength_7cf53_49 : decode cJ8_hugeLength_7cf53 49 = .ok (.iload_n 2, 1) := qdJ8_hugeLength_7cf53_49_7.1
theorem dJ8_hugeLength_7cf53_50 : decode cJ8_hugeLength_7cf53 50 = .ok (.ldc 200, 2) := qdJ8_hugeLength_7cf53_49_7.2.1
theorem dJ8_hugeLength_7cf53_52 : decode cJ8_hugeLength_7cf53 52 = .ok (.if_icmp .gt 6, 3) := qdJ8_hugeLength_7cf53_49_7.2.2.1
theorem dJ8_hugeLength_7cf53_55 : decode cJ8_hugeLength_7cf53 55 = .ok (.ldc 200, 2) := qdJ8_hugeLength_7cf53_49_7.2.2.2.1
theorem dJ8_hugeLength_7cf53_57 : decode cJ8_hugeLength_7cf53 57 = .ok (.ireturn, 1) := qdJ8_hugeLength_7cf53_49_7.2.2.2.2.1
theorem dJ8_hugeLength_7cf53_58 : decode cJ8_hugeLength_7cf53 58 = .ok (.iload_n 2, 1) := qdJ8_hugeLength_7cf53_49_7.2.2.2.2.2.1
theorem dJ8_hugeLength_7cf53_59 : decode cJ8_hugeLength_7cf53 59 = .ok (.ireturn, 1) := qdJ8_hugeLength_7cf53_49_7.2.2.2.2.2.2.1
theorem qdJ3_checkIndex_8e157_0_12 : dcAll cJ3_checkIndex_8e157 [(0, .iload_n 0, 1), (1, .ifCond .lt 8, 3), (4, .iload_n 0, 1), (5, .iload_n 1, 1), (6, .if_icmp .lt 10, 3), (9, .aload_n 2, 1), (10, .iload_n 0, 1), (11, .iload_n 1, 1), (12, .invokestatic 95, 3), (15, .athrow, 1), (16, .iload_n 0, 1), (17, .ireturn, 1)] := dcAll_of (by decide +kernel)
theorem dJ3_checkIndex_8e157_0 : decode cJ3_checkIndex_8e157 0 = .ok (.iload_n 0, 1) := qdJ3_checkIndex_8e157_0_12.1
theorem dJ3_checkIndex_8e157_1 : decode cJ3_checkIndex_8e157 1 = .ok (.ifCond .lt 8, 3) := qdJ3_checkIndex_8e157_0_12.2.1
theorem dJ3_checkIndex_8e157_4 : decode cJ3_checkIndex_8e157 4 = .ok (.iload_n 0, 1) := qdJ3_checkIndex_8e157_0_12.2.2.1
theorem dJ3_checkIndex_8e157_5 : decode cJ3_checkIndex_8e157 5 = .ok (.iload_n 1, 1) := qdJ3_checkIndex_8e157_0_12.2.2.2.1
theorem dJ3_checkIndex_8e157_6 : decode cJ3_checkIndex_8e157 6 = .ok (.if_icmp .lt 10, 3) := qdJ3_checkIndex_8e157_0_12.2.2.2.2.1
theorem dJ3_checkIndex_8e157_9 : decode cJ3_checkIndex_8e157 9 = .ok (.aload_n 2, 1) := qdJ3_checkIndex_8e157_0_12.2.2.2.2.2.1
theorem dJ3_checkIndex_8e157_10 : decode cJ3_checkIndex_8e157 10 = .ok (.iload_n 0, 1) := qdJ3_checkIndex_8e157_0_12.2.2.2.2.2.2.1
theorem dJ3_checkIndex_8e157_11 : decode cJ3_checkIndex_8e157 11 = .ok (.iload_n 1, 1) := qdJ3_checkIndex_8e157_0_12.2.2.2.2.2.2.2.1
theorem dJ3_checkIndex_8e157_12 : decode cJ3_checkIndex_8e157 12 = .ok (.invokestatic 95, 3) := qdJ3_checkIndex_8e157_0_12.2.2.2.2.2.2.2.2.1
theorem dJ3_checkIndex_8e157_15 : decode cJ3_checkIndex_8e157 15 = .ok (.athrow, 1) := qdJ3_checkIndex_8e157_0_12.2.2.2.2.2.2.2.2.2.1
theorem dJ3_checkIndex_8e157_16 : decode cJ3_checkIndex_8e157 16 = .ok (.iload_n 0, 1) := qdJ3_checkIndex_8e157_0_12.2.2.2.2.2.2.2.2.2.2.1
theorem dJ3_checkIndex_8e157_17 : decode cJ3_checkIndex_8e157 17 = .ok (.ireturn, 1) := qdJ3_checkIndex_8e157_0_12.2.2.2.2.2.2.2.2.2.2.2.1
theorem qdJ3_checkFromToIndex_8c36e_0_16 : dcAll cJ3_checkFromToIndex_8c36e [(0, .iload_n 0, 1), (1, .ifCond .lt 13, 3), (4, .iload_n 0, 1), (5, .iload_n 1, 1), (6, .if_icmp .gt 8, 3), (9, .iload_n 1, 1), (10, .iload_n 2, 1), (11, .if_icmp .le 11, 3), (14, .aload_n 3, 1), (15, .iload_n 0, 1), (16, .iload_n 1, 1), (17, .iload_n 2, 1), (18, .invokestatic 99, 3), (21, .athrow, 1), (22, .iload_n 0, 1), (23, .ireturn, 1)] := dcAll_of (by decide +kernel)
theorem dJ3_checkFromToIndex_8c36e_0 : decode cJ3_checkFromToIndex_8c36e 0 = .ok (.iload_n 0, 1) := qdJ3_checkFromToIndex_8c36e_0_16.1
theorem dJ3_checkFromToIndex_8c36e_1 : decode cJ3_checkFromToIndex_8c36e 1 = .ok (.ifCond .lt 13, 3) := qdJ3_checkFromToIndex_8c36e_0_16.2.1
theorem dJ3_checkFromToIndex_8c36e_4 : decode cJ3_checkFromToIndex_8c36e 4 = .ok (.iload_n 0, 1) := qdJ3_checkFromToIndex_8c36e_0_16.2.2.1
theorem dJ3_checkFromToIndex_8c36e_5 : decode cJ3_checkFromToIndex_8c36e 5 = .ok (.iload_n 1, 1) := qdJ3_checkFromToIndex_8c36e_0_16.2.2.2.1
theorem dJ3_checkFromToIndex_8c36e_6 : decode cJ3_checkFromToIndex_8c36e 6 = .ok (.if_icmp .gt 8, 3) := qdJ3_checkFromToIndex_8c36e_0_16.2.2.2.2.1
theorem dJ3_checkFromToIndex_8c36e_9 : decode cJ3_checkFromToIndex_8c36e 9 = .ok (.iload_n 1, 1) := qdJ3_checkFromToIndex_8c36e_0_16.2.2.2.2.2.1
theorem dJ3_checkFromToIndex_8c36e_10 : decode cJ3_checkFromToIndex_8c36e 10 = .ok (.iload_n 2, 1) := qdJ3_checkFromToIndex_8c36e_0_16.2.2.2.2.2.2.1
theorem dJ3_checkFromToIndex_8c36e_11 : decode cJ3_checkFromToIndex_8c36e 11 = .ok (.if_icmp .le 11, 3) := qdJ3_checkFromToIndex_8c36e_0_16.2.2.2.2.2.2.2.1
theorem dJ3_checkFromToIndex_8c36e_14 : decode cJ3_checkFromToIndex_8c36e 14 = .ok (.aload_n 3, 1) := qdJ3_checkFromToIndex_8c36e_0_16.2.2.2.2.2.2.2.2.1
theorem dJ3_checkFromToIndex_8c36e_15 : decode cJ3_checkFromToIndex_8c36e 15 = .ok (.iload_n 0, 1) := qdJ3_checkFromToIndex_8c36e_0_16.2.2.2.2.2.2.2.2.2.1
theorem dJ3_checkFromToIndex_8c36e_16 : decode cJ3_checkFromToIndex_8c36e 16 = .ok (.iload_n 1, 1) := qdJ3_checkFromToIndex_8c36e_0_16.2.2.2.2.2.2.2.2.2.2.1
theorem dJ3_checkFromToIndex_8c36e_17 : decode cJ3_checkFromToIndex_8c36e 17 = .ok (.iload_n 2, 1) := qdJ3_checkFromToIndex_8c36e_0_16.2.2.2.2.2.2.2.2.2.2.2.1
theorem dJ3_checkFromToIndex_8c36e_18 : decode cJ3_checkFromToIndex_8c36e 18 = .ok (.invokestatic 99, 3) := qdJ3_checkFromToIndex_8c36e_0_16.2.2.2.2.2.2.2.2.2.2.2.2.1
theorem dJ3_checkFromToIndex_8c36e_21 : decode cJ3_checkFromToIndex_8c36e 21 = .ok (.athrow, 1) := qdJ3_checkFromToIndex_8c36e_0_16.2.2.2.2.2.2.2.2.2.2.2.2.2.1
theorem dJ3_checkFromToIndex_8c36e_22 : decode cJ3_checkFromToIndex_8c36e 22 = .ok (.iload_n 0, 1) := qdJ3_checkFromToIndex_8c36e_0_16.2.2.2.2.2.2.2.2.2.2.2.2.2.2.1
theorem dJ3_checkFromToIndex_8c36e_23 : decode cJ3_checkFromToIndex_8c36e 23 = .ok (.ireturn, 1) := qdJ3_checkFromToIndex_8c36e_0_16.2.2.2.2.2.2.2.2.2.2.2.2.2.2.2.1
theorem qdJ3_checkFromIndexSize_8c36e_0_19 : dcAll cJ3_checkFromIndexSize_8c36e [(0, .iload_n 2, 1), (1, .iload_n 0, 1), (2, .ior, 1), (3, .iload_n 1, 1), (4, .ior, 1), (5, .ifCond .lt 10, 3), (8, .iload_n 1, 1), (9, .iload_n 2, 1), (10, .iload_n 0, 1), (11, .isub, 1), (12, .if_icmp .le 11, 3), (15, .aload_n 3, 1), (16, .iload_n 0, 1), (17, .iload_n 1, 1), (18, .iload_n 2, 1), (19, .invokestatic 103, 3), (22, .athrow, 1), (23, .iload_n 0, 1), (24, .ireturn, 1)] := dcAll_of (by decide +kernel)
theorem dJ3_checkFromIndexSize_8c36e_0 : decode cJ3_checkFromIndexSize_8c36e 0 = .ok (.iload_n 2, 1) := qdJ3_checkFromIndexSize_8c36e_0_19.1
theorem dJ3_checkFromIndexSize_8c36e_1 : decode cJ3_checkFromIndexSize_8c36e 1 = .ok (.iload_n 0, 1) := qdJ3_checkFromIndexSize_8c36e_0_19.2.1
theorem dJ3_checkFromIndexSize_8c36e_2 : decode cJ3_checkFromIndexSize_8c36e 2 = .ok (.ior, 1) := qdJ3_checkFromIndexSize_8c36e_0_19.2.2.1
theorem dJ3_checkFromIndexSize_8c36e_3 : decode cJ3_checkFromIndexSize_8c36e 3 = .ok (.iload_n 1, 1) := qdJ3_checkFromIndexSize_8c36e_0_19.2.2.2.1
theorem dJ3_checkFromIndexSize_8c36e_4 : decode cJ3_checkFromIndexSize_8c36e 4 = .ok (.ior, 1) := qdJ3_checkFromIndexSize_8c36e_0_19.2.2.2.2.1
theorem dJ3_checkFromIndexSize_8c36e_5 : decode cJ3_checkFromIndexSize_8c36e 5 = .ok (.ifCond .lt 10, 3) := qdJ3_checkFromIndexSize_8c36e_0_19.2.2.2.2.2.1
theorem dJ3_checkFromIndexSize_8c36e_8 : decode cJ3_checkFromIndexSize_8c36e 8 = .ok (.iload_n 1, 1) := qdJ3_checkFromIndexSize_8c36e_0_19.2.2.2.2.2.2.1
theorem dJ3_checkFromIndexSize_8c36e_9 : decode cJ3_checkFromIndexSize_8c36e 9 = .ok (.iload_n 2, 1) := qdJ3_checkFromIndexSize_8c36e_0_19.2.2.2.2.2.2.2.1
theorem dJ3_checkFromIndexSize_8c36e_10 : decode cJ3_checkFromIndexSize_8c36e 10 = .ok (.iload_n 0, 1) := qdJ3_checkFromIndexSize_8c36e_0_19.2.2.2.2.2.2.2.2.1
theorem dJ3_checkFromIndexSize_8c36e_11 : decode cJ3_checkFromIndexSize_8c36e 11 = .ok (.isub, 1) := qdJ3_checkFromIndexSize_8c36e_0_19.2.2.2.2.2.2.2.2.2.1
theorem dJ3_checkFromIndexSize_8c36e_12 : decode cJ3_checkFromIndexSize_8c36e 12 = .ok (.if_icmp .le 11, 3) := qdJ3_checkFromIndexSize_8c36e_0_19.2.2.2.2.2.2.2.2.2.2.1
theorem dJ3_checkFromIndexSize_8c36e_15 : decode cJ3_checkFromIndexSize_8c36e 15 = .ok (.aload_n 3, 1) := qdJ3_checkFromIndexSize_8c36e_0_19.2.2.2.2.2.2.2.2.2.2.2.1
theorem dJ3_checkFromIndexSize_8c36e_16 : decode cJ3_checkFromIndexSize_8c36e 16 = .ok (.iload_n 0, 1) := qdJ3_checkFromIndexSize_8c36e_0_19.2.2.2.2.2.2.2.2.2.2.2.2.1
theorem dJ3_checkFromIndexSize_8c36e_17 : decode cJ3_checkFromIndexSize_8c36e 17 = .ok (.iload_n 1, 1) := qdJ3_checkFromIndexSize_8c36e_0_19.2.2.2.2.2.2.2.2.2.2.2.2.2.1
theorem dJ3_checkFromIndexSize_8c36e_18 : decode cJ3_checkFromIndexSize_8c36e 18 = .ok (.iload_n 2, 1) := qdJ3_checkFromIndexSize_8c36e_0_19.2.2.2.2.2.2.2.2.2.2.2.2.2.2.1
theorem dJ3_checkFromIndexSize_8c36e_19 : decode cJ3_checkFromIndexSize_8c36e 19 = .ok (.invokestatic 103, 3) := qdJ3_checkFromIndexSize_8c36e_0_19.2.2.2.2.2.2.2.2.2.2.2.2.2.2.2.1
theorem dJ3_checkFromIndexSize_8c36e_22 : decode cJ3_checkFromIndexSize_8c36e 22 = .ok (.athrow, 1) := qdJ3_checkFromIndexSize_8c36e_0_19.2.2.2.2.2.2.2.2.2.2.2.2.2.2.2.2.1
theorem dJ3_checkFromIndexSize_8c36e_23 : decode cJ3_checkFromIndexSize_8c36e 23 = .ok (.iload_n 0, 1) := qdJ3_checkFromIndexSize_8c36e_0_19.2.2.2.2.2.2.2.2.2.2.2.2.2.2.2.2.2.1
theorem dJ3_checkFromIndexSize_8c36e_24 : decode cJ3_checkFromIndexSize_8c36e 24 = .ok (.ireturn, 1) := qdJ3_checkFromIndexSize_8c36e_0_19.2.2.2.2.2.2.2.2.2.2.2.2.2.2.2.2.2.2.1
