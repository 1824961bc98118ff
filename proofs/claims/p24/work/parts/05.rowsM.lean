theorem qdX9_init_0_7 : dcAll cX9_init [(0, .aload_n 0, 1), (1, .invokespecial 1, 3), (4, .aload_n 0, 1), (5, .sipush 484, 3), (8, .newarray .long, 2), (10, .putfield 9, 3), (13, .return_, 1)] := dcAll_of (by decide +kernel)
theorem dX9_init_0 : decode cX9_init 0 = .ok (.aload_n 0, 1) := qdX9_init_0_7.1
theorem dX9_init_1 : decode cX9_init 1 = .ok (.invokespecial 1, 3) := qdX9_init_0_7.2.1
theorem dX9_init_4 : decode cX9_init 4 = .ok (.aload_n 0, 1) := qdX9_init_0_7.2.2.1
theorem dX9_init_5 : decode cX9_init 5 = .ok (.sipush 484, 3) := qdX9_init_0_7.2.2.2.1
theorem dX9_init_8 : decode cX9_init 8 = .ok (.newarray .long, 2) := qdX9_init_0_7.2.2.2.2.1
theorem dX9_init_10 : decode cX9_init 10 = .ok (.putfield 9, 3) := qdX9_init_0_7.2.2.2.2.2.1
theorem dX9_init_13 : decode cX9_init 13 = .ok (.return_, 1) := qdX9_init_0_7.2.2.2.2.2.2.1
theorem qdX9_thrown_0_3 : dcAll cX9_thrown [(0, .aload_n 0, 1), (1, .getfield 13, 3), (4, .ireturn, 1)] := dcAll_of (by decide +kernel)
theorem dX9_thrown_0 : decode cX9_thrown 0 = .ok (.aload_n 0, 1) := qdX9_thrown_0_3.1
theorem dX9_thrown_1 : decode cX9_thrown 1 = .ok (.getfield 13, 3) := qdX9_thrown_0_3.2.1
theorem dX9_thrown_4 : decode cX9_thrown 4 = .ok (.ireturn, 1) := qdX9_thrown_0_3.2.2.1
theorem qdX9_common_0_16 : dcAll cX9_common [(0, .iload_n 0, 1), (1, .iload_n 1, 1), (2, .invokestatic 17, 3), (5, .istore_n 2, 1), (6, .iload_n 0, 1), (7, .iload_n 2, 1), (8, .irem, 1), (9, .ifCond .ne 9, 3), (12, .iload_n 1, 1), (13, .iload_n 2, 1), (14, .irem, 1), (15, .ifCond .eq 9, 3), (18, .iinc 2 (-1), 3), (21, .goto (-15), 3), (24, .iload_n 2, 1), (25, .ireturn, 1)] := dcAll_of (by decide +kernel)
theorem dX9_common_0 : decode cX9_common 0 = .ok (.iload_n 0, 1) := qdX9_common_0_16.1
theorem dX9_common_1 : decode cX9_common 1 = .ok (.iload_n 1, 1) := qdX9_common_0_16.2.1
theorem dX9_common_2 : decode cX9_common 2 = .ok (.invokestatic 17, 3) := qdX9_common_0_16.2.2.1
theorem dX9_common_5 : decode cX9_common 5 = .ok (.istore_n 2, 1) := qdX9_common_0_16.2.2.2.1
theorem dX9_common_6 : decode cX9_common 6 = .ok (.iload_n 0, 1) := qdX9_common_0_16.2.2.2.2.1
theorem dX9_common_7 : decode cX9_common 7 = .ok (.iload_n 2, 1) := qdX9_common_0_16.2.2.2.2.2.1
theorem dX9_common_8 : decode cX9_common 8 = .ok (.irem, 1) := qdX9_common_0_16.2.2.2.2.2.2.1
theorem dX9_common_9 : decode cX9_common 9 = .ok (.ifCond .ne 9, 3) := qdX9_common_0_16.2.2.2.2.2.2.2.1
theorem dX9_common_12 : decode cX9_common 12 = .ok (.iload_n 1, 1) := qdX9_common_0_16.2.2.2.2.2.2.2.2.1
theorem dX9_common_13 : decode cX9_common 13 = .ok (.iload_n 2, 1) := qdX9_common_0_16.2.2.2.2.2.2.2.2.2.1
theorem dX9_common_14 : decode cX9_common 14 = .ok (.irem, 1) := qdX9_common_0_16.2.2.2.2.2.2.2.2.2.2.1
theorem dX9_common_15 : decode cX9_common 15 = .ok (.ifCond .eq 9, 3) := qdX9_common_0_16.2.2.2.2.2.2.2.2.2.2.2.1
theorem dX9_common_18 : decode cX9_common 18 = .ok (.iinc 2 (-1), 3) := qdX9_common_0_16.2.2.2.2.2.2.2.2.2.2.2.2.1
theorem dX9_common_21 : decode cX9_common 21 = .ok (.goto (-15), 3) := qdX9_common_0_16.2.2.2.2.2.2.2.2.2.2.2.2.2.1
theorem dX9_common_24 : decode cX9_common 24 = .ok (.iload_n 2, 1) := qdX9_common_0_16.2.2.2.2.2.2.2.2.2.2.2.2.2.2.1
theorem dX9_common_25 : decode cX9_common 25 = .ok (.ireturn, 1) := qdX9_common_0_16.2.2.2.2.2.2.2.2.2.2.2.2.2.2.2.1
theorem qdX9_least_0_10 : dcAll cX9_least [(0, .iconst 2, 1), (1, .istore_n 1, 1), (2, .iload_n 0, 1), (3, .iload_n 1, 1), (4, .irem, 1), (5, .ifCond .eq 9, 3), (8, .iinc 1 1, 3), (11, .goto (-9), 3), (14, .iload_n 1, 1), (15, .ireturn, 1)] := dcAll_of (by decide +kernel)
theorem dX9_least_0 : decode cX9_least 0 = .ok (.iconst 2, 1) := qdX9_least_0_10.1
theorem dX9_least_1 : decode cX9_least 1 = .ok (.istore_n 1, 1) := qdX9_least_0_10.2.1
theorem dX9_least_2 : decode cX9_least 2 = .ok (.iload_n 0, 1) := qdX9_least_0_10.2.2.1
theorem dX9_least_3 : decode cX9_least 3 = .ok (.iload_n 1, 1) := qdX9_least_0_10.2.2.2.1
theorem dX9_least_4 : decode cX9_least 4 = .ok (.irem, 1) := qdX9_least_0_10.2.2.2.2.1
theorem dX9_least_5 : decode cX9_least 5 = .ok (.ifCond .eq 9, 3) := qdX9_least_0_10.2.2.2.2.2.1
theorem dX9_least_8 : decode cX9_least 8 = .ok (.iinc 1 1, 3) := qdX9_least_0_10.2.2.2.2.2.2.1
theorem dX9_least_11 : decode cX9_least 11 = .ok (.goto (-9), 3) := qdX9_least_0_10.2.2.2.2.2.2.2.1
theorem dX9_least_14 : decode cX9_least 14 = .ok (.iload_n 1, 1) := qdX9_least_0_10.2.2.2.2.2.2.2.2.1
theorem dX9_least_15 : decode cX9_least 15 = .ok (.ireturn, 1) := qdX9_least_0_10.2.2.2.2.2.2.2.2.2.1
theorem qdX9_without_0_13 : dcAll cX9_without [(0, .iload_n 0, 1), (1, .istore_n 2, 1), (2, .iload_n 2, 1), (3, .iload_n 1, 1), (4, .irem, 1), (5, .ifCond .ne 10, 3), (8, .iload_n 2, 1), (9, .iload_n 1, 1), (10, .idiv, 1), (11, .istore_n 2, 1), (12, .goto (-10), 3), (15, .iload_n 2, 1), (16, .ireturn, 1)] := dcAll_of (by decide +kernel)
theorem dX9_without_0 : decode cX9_without 0 = .ok (.iload_n 0, 1) := qdX9_without_0_13.1
theorem dX9_without_1 : decode cX9_without 1 = .ok (.istore_n 2, 1) := qdX9_without_0_13.2.1
theorem dX9_without_2 : decode cX9_without 2 = .ok (.iload_n 2, 1) := qdX9_without_0_13.2.2.1
theorem dX9_without_3 : decode cX9_without 3 = .ok (.iload_n 1, 1) := qdX9_without_0_13.2.2.2.1
theorem dX9_without_4 : decode cX9_without 4 = .ok (.irem, 1) := qdX9_without_0_13.2.2.2.2.1
theorem dX9_without_5 : decode cX9_without 5 = .ok (.ifCond .ne 10, 3) := qdX9_without_0_13.2.2.2.2.2.1
theorem dX9_without_8 : decode cX9_without 8 = .ok (.iload_n 2, 1) := qdX9_without_0_13.2.2.2.2.2.2.1
theorem dX9_without_9 : decode cX9_without 9 = .ok (.iload_n 1, 1) := qdX9_without_0_13.2.2.2.2.2.2.2.1
theorem dX9_without_10 : decode cX9_without 10 = .ok (.idiv, 1) := qdX9_without_0_13.2.2.2.2.2.2.2.2.1
theorem dX9_without_11 : decode cX9_without 11 = .ok (.istore_n 2, 1) := qdX9_without_0_13.2.2.2.2.2.2.2.2.2.1
theorem dX9_without_12 : decode cX9_without 12 = .ok (.goto (-10), 3) := qdX9_without_0_13.2.2.2.2.2.2.2.2.2.2.1
theorem dX9_without_15 : decode cX9_without 15 = .ok (.iload_n 2, 1) := qdX9_without_0_13.2.2.2.2.2.2.2.2.2.2.2.1
theorem dX9_without_16 : decode cX9_without 16 = .ok (.ireturn, 1) := qdX9_without_0_13.2.2.2.2.2.2.2.2.2.2.2.2.1
theorem qdX9_squareOf_0_23 : dcAll cX9_squareOf [(0, .iconst 1, 1), (1, .istore_n 1, 1), (2, .iconst 1, 1), (3, .istore_n 2, 1), (4, .iload_n 2, 1), (5, .iload_n 2, 1), (6, .imul, 1), (7, .iload_n 0, 1), (8, .if_icmp .gt 21, 3), (11, .iload_n 0, 1), (12, .iload_n 2, 1), (13, .iload_n 2, 1), (14, .imul, 1), (15, .irem, 1), (16, .ifCond .ne 7, 3), (19, .iload_n 2, 1), (20, .iload_n 2, 1), (21, .imul, 1), (22, .istore_n 1, 1), (23, .iinc 2 1, 3), (26, .goto (-22), 3), (29, .iload_n 1, 1), (30, .ireturn, 1)] := dcAll_of (by decide +kernel)
theorem dX9_squareOf_0 : decode cX9_squareOf 0 = .ok (.iconst 1, 1) := qdX9_squareOf_0_23.1
theorem dX9_squareOf_1 : decode cX9_squareOf 1 = .ok (.istore_n 1, 1) := qdX9_squareOf_0_23.2.1
theorem dX9_squareOf_2 : decode cX9_squareOf 2 = .ok (.iconst 1, 1) := qdX9_squareOf_0_23.2.2.1
theorem dX9_squareOf_3 : decode cX9_squareOf 3 = .ok (.istore_n 2, 1) := qdX9_squareOf_0_23.2.2.2.1
theorem dX9_squareOf_4 : decode cX9_squareOf 4 = .ok (.iload_n 2, 1) := qdX9_squareOf_0_23.2.2.2.2.1
theorem dX9_squareOf_5 : decode cX9_squareOf 5 = .ok (.iload_n 2, 1) := qdX9_squareOf_0_23.2.2.2.2.2.1
theorem dX9_squareOf_6 : decode cX9_squareOf 6 = .ok (.imul, 1) := qdX9_squareOf_0_23.2.2.2.2.2.2.1
theorem dX9_squareOf_7 : decode cX9_squareOf 7 = .ok (.iload_n 0, 1) := qdX9_squareOf_0_23.2.2.2.2.2.2.2.1
theorem dX9_squareOf_8 : decode cX9_squareOf 8 = .ok (.if_icmp .gt 21, 3) := qdX9_squareOf_0_23.2.2.2.2.2.2.2.2.1
theorem dX9_squareOf_11 : decode cX9_squareOf 11 = .ok (.iload_n 0, 1) := qdX9_squareOf_0_23.2.2.2.2.2.2.2.2.2.1
theorem dX9_squareOf_12 : decode cX9_squareOf 12 = .ok (.iload_n 2, 1) := qdX9_squareOf_0_23.2.2.2.2.2.2.2.2.2.2.1
theorem dX9_squareOf_13 : decode cX9_squareOf 13 = .ok (.iload_n 2, 1) := qdX9_squareOf_0_23.2.2.2.2.2.2.2.2.2.2.2.1
theorem dX9_squareOf_14 : decode cX9_squareOf 14 = .ok (.imul, 1) := qdX9_squareOf_0_23.2.2.2.2.2.2.2.2.2.2.2.2.1
theorem dX9_squareOf_15 : decode cX9_squareOf 15 = .ok (.irem, 1) := qdX9_squareOf_0_23.2.2.2.2.2.2.2.2.2.2.2.2.2.1
theorem dX9_squareOf_16 : decode cX9_squareOf 16 = .ok (.ifCond .ne 7, 3) := qdX9_squareOf_0_23.2.2.2.2.2.2.2.2.2.2.2.2.2.2.1
theorem dX9_squareOf_19 : decode cX9_squareOf 19 = .ok (.iload_n 2, 1) := qdX9_squareOf_0_23.2.2.2.2.2.2.2.2.2.2.2.2.2.2.2.1
theorem dX9_squareOf_20 : decode cX9_squareOf 20 = .ok (.iload_n 2, 1) := qdX9_squareOf_0_23.2.2.2.2.2.2.2.2.2.2.2.2.2.2.2.2.1
theorem dX9_squareOf_21 : decode cX9_squareOf 21 = .ok (.imul, 1) := qdX9_squareOf_0_23.2.2.2.2.2.2.2.2.2.2.2.2.2.2.2.2.2.1
theorem dX9_squareOf_22 : decode cX9_squareOf 22 = .ok (.istore_n 1, 1) := qdX9_squareOf_0_23.2.2.2.2.2.2.2.2.2.2.2.2.2.2.2.2.2.2.1
theorem dX9_squareOf_23 : decode cX9_squareOf 23 = .ok (.iinc 2 1, 3) := qdX9_squareOf_0_23.2.2.2.2.2.2.2.2.2.2.2.2.2.2.2.2.2.2.2.1
theorem dX9_squareOf_26 : decode cX9_squareOf 26 = .ok (.goto (-22), 3) := qdX9_squareOf_0_23.2.2.2.2.2.2.2.2.2.2.2.2.2.2.2.2.2.2.2.2.1
theorem dX9_squareOf_29 : decode cX9_squareOf 29 = .ok (.iload_n 1, 1) := qdX9_squareOf_0_23.2.2.2.2.2.2.2.2.2.2.2.2.2.2.2.2.2.2.2.2.2.1
theorem dX9_squareOf_30 : decode cX9_squareOf 30 = .ok (.ireturn, 1) := qdX9_squareOf_0_23.2.2.2.2.2.2.2.2.2.2.2.2.2.2.2.2.2.2.2.2.2.2.1
theorem ggX9_all_X9_least : GoodIn wsX9_all wsX9_least := fun w h => ⟨List.mem_cons_of_mem _ (List.mem_append_right _ h), zq_X9_least w h⟩
set_option maxRecDepth 20000 in
theorem gX9_all_X9_least : GoodIn wsX9_all (va_wsS RX9 23 yX9_least wsX9_least) := goodIn_app (goodIn_r _ [1, 2, 3] rfl rfl) ggX9_all_X9_least
theorem qdX9_all_0_16 : dcAll cX9_all [(0, .iconst 0, 1), (1, .istore_n 1, 1), (2, .iload_n 0, 1), (3, .istore_n 2, 1), (4, .iload_n 2, 1), (5, .iconst 1, 1), (6, .if_icmp .le 16, 3), (9, .iinc 1 1, 3), (12, .iload_n 2, 1), (13, .iload_n 2, 1), (14, .invokestatic 23, 3), (17, .idiv, 1), (18, .istore_n 2, 1), (19, .goto (-15), 3), (22, .iload_n 1, 1), (23, .ireturn, 1)] := dcAll_of (by decide +kernel)
theorem dX9_all_0 : decode cX9_all 0 = .ok (.iconst 0, 1) := qdX9_all_0_16.1
theorem dX9_all_1 : decode cX9_all 1 = .ok (.istore_n 1, 1) := qdX9_all_0_16.2.1
theorem dX9_all_2 : decode cX9_all 2 = .ok (.iload_n 0, 1) := qdX9_all_0_16.2.2.1
theorem dX9_all_3 : decode cX9_all 3 = .ok (.istore_n 2, 1) := qdX9_all_0_16.2.2.2.1
theorem dX9_all_4 : decode cX9_all 4 = .ok (.iload_n 2, 1) := qdX9_all_0_16.2.2.2.2.1
theorem dX9_all_5 : decode cX9_all 5 = .ok (.iconst 1, 1) := qdX9_all_0_16.2.2.2.2.2.1
theorem dX9_all_6 : decode cX9_all 6 = .ok (.if_icmp .le 16, 3) := qdX9_all_0_16.2.2.2.2.2.2.1
theorem dX9_all_9 : decode cX9_all 9 = .ok (.iinc 1 1, 3) := qdX9_all_0_16.2.2.2.2.2.2.2.1
theorem dX9_all_12 : decode cX9_all 12 = .ok (.iload_n 2, 1) := qdX9_all_0_16.2.2.2.2.2.2.2.2.1
theorem dX9_all_13 : decode cX9_all 13 = .ok (.iload_n 2, 1) := qdX9_all_0_16.2.2.2.2.2.2.2.2.2.1
theorem dX9_all_14 : decode cX9_all 14 = .ok (.invokestatic 23, 3) := qdX9_all_0_16.2.2.2.2.2.2.2.2.2.2.1
theorem dX9_all_17 : decode cX9_all 17 = .ok (.idiv, 1) := qdX9_all_0_16.2.2.2.2.2.2.2.2.2.2.2.1
theorem dX9_all_18 : decode cX9_all 18 = .ok (.istore_n 2, 1) := qdX9_all_0_16.2.2.2.2.2.2.2.2.2.2.2.2.1
theorem dX9_all_19 : decode cX9_all 19 = .ok (.goto (-15), 3) := qdX9_all_0_16.2.2.2.2.2.2.2.2.2.2.2.2.2.1
theorem dX9_all_22 : decode cX9_all 22 = .ok (.iload_n 1, 1) := qdX9_all_0_16.2.2.2.2.2.2.2.2.2.2.2.2.2.2.1
theorem dX9_all_23 : decode cX9_all 23 = .ok (.ireturn, 1) := qdX9_all_0_16.2.2.2.2.2.2.2.2.2.2.2.2.2.2.2.1
theorem ggX9_signOf_X9_squareOf : GoodIn wsX9_signOf wsX9_squareOf := fun w h => ⟨List.mem_cons_of_mem _ (List.mem_append_left _ (List.mem_append_right _ h)), zq_X9_squareOf w h⟩
set_option maxRecDepth 20000 in
theorem gX9_signOf_X9_squareOf : GoodIn wsX9_signOf (va_wsS RX9 27 yX9_squareOf wsX9_squareOf) := goodIn_app (goodIn_r _ [1, 2, 3] rfl rfl) ggX9_signOf_X9_squareOf
theorem ggX9_signOf_X9_all : GoodIn wsX9_signOf wsX9_all := fun w h => ⟨List.mem_cons_of_mem _ (List.mem_append_right _ h), zq_X9_all w h⟩
set_option maxRecDepth 20000 in
theorem gX9_signOf_X9_all : GoodIn wsX9_signOf (va_wsS RX9 30 yX9_all wsX9_all) := goodIn_app (goodIn_r _ [4, 5, 3] rfl rfl) ggX9_signOf_X9_all
theorem qdX9_signOf_0_15 : dcAll cX9_signOf [(0, .iload_n 0, 1), (1, .invokestatic 27, 3), (4, .iconst 1, 1), (5, .if_icmp .le 7, 3), (8, .iconst 0, 1), (9, .goto 17, 3), (12, .iload_n 0, 1), (13, .invokestatic 30, 3), (16, .iconst 2, 1), (17, .irem, 1), (18, .ifCond .ne 7, 3), (21, .iconst 1, 1), (22, .goto 4, 3), (25, .iconst (-1), 1), (26, .ireturn, 1)] := dcAll_of (by decide +kernel)
theorem dX9_signOf_0 : decode cX9_signOf 0 = .ok (.iload_n 0, 1) := qdX9_signOf_0_15.1
theorem dX9_signOf_1 : decode cX9_signOf 1 = .ok (.invokestatic 27, 3) := qdX9_signOf_0_15.2.1
theorem dX9_signOf_4 : decode cX9_signOf 4 = .ok (.iconst 1, 1) := qdX9_signOf_0_15.2.2.1
theorem dX9_signOf_5 : decode cX9_signOf 5 = .ok (.if_icmp .le 7, 3) := qdX9_signOf_0_15.2.2.2.1
theorem dX9_signOf_8 : decode cX9_signOf 8 = .ok (.iconst 0, 1) := qdX9_signOf_0_15.2.2.2.2.1
theorem dX9_signOf_9 : decode cX9_signOf 9 = .ok (.goto 17, 3) := qdX9_signOf_0_15.2.2.2.2.2.1
theorem dX9_signOf_12 : decode cX9_signOf 12 = .ok (.iload_n 0, 1) := qdX9_signOf_0_15.2.2.2.2.2.2.1
theorem dX9_signOf_13 : decode cX9_signOf 13 = .ok (.invokestatic 30, 3) := qdX9_signOf_0_15.2.2.2.2.2.2.2.1
theorem dX9_signOf_16 : decode cX9_signOf 16 = .ok (.iconst 2, 1) := qdX9_signOf_0_15.2.2.2.2.2.2.2.2.1
theorem dX9_signOf_17 : decode cX9_signOf 17 = .ok (.irem, 1) := qdX9_signOf_0_15.2.2.2.2.2.2.2.2.2.1
theorem dX9_signOf_18 : decode cX9_signOf 18 = .ok (.ifCond .ne 7, 3) := qdX9_signOf_0_15.2.2.2.2.2.2.2.2.2.2.1
theorem dX9_signOf_21 : decode cX9_signOf 21 = .ok (.iconst 1, 1) := qdX9_signOf_0_15.2.2.2.2.2.2.2.2.2.2.2.1
theorem dX9_signOf_22 : decode cX9_signOf 22 = .ok (.goto 4, 3) := qdX9_signOf_0_15.2.2.2.2.2.2.2.2.2.2.2.2.1
theorem dX9_signOf_25 : decode cX9_signOf 25 = .ok (.iconst (-1), 1) := qdX9_signOf_0_15.2.2.2.2.2.2.2.2.2.2.2.2.2.1
theorem dX9_signOf_26 : decode cX9_signOf 26 = .ok (.ireturn, 1) := qdX9_signOf_0_15.2.2.2.2.2.2.2.2.2.2.2.2.2.2.1
theorem qdX9_tauOf_0_21 : dcAll cX9_tauOf [(0, .iconst 0, 1), (1, .istore_n 1, 1), (2, .iconst 1, 1), (3, .istore_n 2, 1), (4, .iload_n 2, 1), (5, .iload_n 0, 1), (6, .if_icmp .gt 23, 3), (9, .iload_n 1, 1), (10, .iload_n 0, 1), (11, .iload_n 2, 1), (12, .irem, 1), (13, .ifCond .ne 7, 3), (16, .iconst 1, 1), (17, .goto 4, 3), (20, .iconst 0, 1), (21, .iadd, 1), (22, .istore_n 1, 1), (23, .iinc 2 1, 3), (26, .goto (-22), 3), (29, .iload_n 1, 1), (30, .ireturn, 1)] := dcAll_of (by decide +kernel)
theorem dX9_tauOf_0 : decode cX9_tauOf 0 = .ok (.iconst 0, 1) := qdX9_tauOf_0_21.1
theorem dX9_tauOf_1 : decode cX9_tauOf 1 = .ok (.istore_n 1, 1) := qdX9_tauOf_0_21.2.1
theorem dX9_tauOf_2 : decode cX9_tauOf 2 = .ok (.iconst 1, 1) := qdX9_tauOf_0_21.2.2.1
theorem dX9_tauOf_3 : decode cX9_tauOf 3 = .ok (.istore_n 2, 1) := qdX9_tauOf_0_21.2.2.2.1
theorem dX9_tauOf_4 : decode cX9_tauOf 4 = .ok (.iload_n 2, 1) := qdX9_tauOf_0_21.2.2.2.2.1
theorem dX9_tauOf_5 : decode cX9_tauOf 5 = .ok (.iload_n 0, 1) := qdX9_tauOf_0_21.2.2.2.2.2.1
theorem dX9_tauOf_6 : decode cX9_tauOf 6 = .ok (.if_icmp .gt 23, 3) := qdX9_tauOf_0_21.2.2.2.2.2.2.1
theorem dX9_tauOf_9 : decode cX9_tauOf 9 = .ok (.iload_n 1, 1) := qdX9_tauOf_0_21.2.2.2.2.2.2.2.1
theorem dX9_tauOf_10 : decode cX9_tauOf 10 = .ok (.iload_n 0, 1) := qdX9_tauOf_0_21.2.2.2.2.2.2.2.2.1
theorem dX9_tauOf_11 : decode cX9_tauOf 11 = .ok (.iload_n 2, 1) := qdX9_tauOf_0_21.2.2.2.2.2.2.2.2.2.1
theorem dX9_tauOf_12 : decode cX9_tauOf 12 = .ok (.irem, 1) := qdX9_tauOf_0_21.2.2.2.2.2.2.2.2.2.2.1
theorem dX9_tauOf_13 : decode cX9_tauOf 13 = .ok (.ifCond .ne 7, 3) := qdX9_tauOf_0_21.2.2.2.2.2.2.2.2.2.2.2.1
theorem dX9_tauOf_16 : decode cX9_tauOf 16 = .ok (.iconst 1, 1) := qdX9_tauOf_0_21.2.2.2.2.2.2.2.2.2.2.2.2.1
theorem dX9_tauOf_17 : decode cX9_tauOf 17 = .ok (.goto 4, 3) := qdX9_tauOf_0_21.2.2.2.2.2.2.2.2.2.2.2.2.2.1
theorem dX9_tauOf_20 : decode cX9_tauOf 20 = .ok (.iconst 0, 1) := qdX9_tauOf_0_21.2.2.2.2.2.2.2.2.2.2.2.2.2.2.1
theorem dX9_tauOf_21 : decode cX9_tauOf 21 = .ok (.iadd, 1) := qdX9_tauOf_0_21.2.2.2.2.2.2.2.2.2.2.2.2.2.2.2.1
theorem dX9_tauOf_22 : decode cX9_tauOf 22 = .ok (.istore_n 1, 1) := qdX9_tauOf_0_21.2.2.2.2.2.2.2.2.2.2.2.2.2.2.2.2.1
theorem dX9_tauOf_23 : decode cX9_tauOf 23 = .ok (.iinc 2 1, 3) := qdX9_tauOf_0_21.2.2.2.2.2.2.2.2.2.2.2.2.2.2.2.2.2.1
theorem dX9_tauOf_26 : decode cX9_tauOf 26 = .ok (.goto (-22), 3) := qdX9_tauOf_0_21.2.2.2.2.2.2.2.2.2.2.2.2.2.2.2.2.2.2.1
theorem dX9_tauOf_29 : decode cX9_tauOf 29 = .ok (.iload_n 1, 1) := qdX9_tauOf_0_21.2.2.2.2.2.2.2.2.2.2.2.2.2.2.2.2.2.2.2.1
theorem dX9_tauOf_30 : decode cX9_tauOf 30 = .ok (.ireturn, 1) := qdX9_tauOf_0_21.2.2.2.2.2.2.2.2.2.2.2.2.2.2.2.2.2.2.2.2.1
theorem qdX9_sigmaOf_0_21 : dcAll cX9_sigmaOf [(0, .iconst 0, 1), (1, .istore_n 1, 1), (2, .iconst 1, 1), (3, .istore_n 2, 1), (4, .iload_n 2, 1), (5, .iload_n 0, 1), (6, .if_icmp .gt 23, 3), (9, .iload_n 1, 1), (10, .iload_n 0, 1), (11, .iload_n 2, 1), (12, .irem, 1), (13, .ifCond .ne 7, 3), (16, .iload_n 2, 1), (17, .goto 4, 3), (20, .iconst 0, 1), (21, .iadd, 1), (22, .istore_n 1, 1), (23, .iinc 2 1, 3), (26, .goto (-22), 3), (29, .iload_n 1, 1), (30, .ireturn, 1)] := dcAll_of (by decide +kernel)
theorem dX9_sigmaOf_0 : decode cX9_sigmaOf 0 = .ok (.iconst 0, 1) := qdX9_sigmaOf_0_21.1
theorem dX9_sigmaOf_1 : decode cX9_sigmaOf 1 = .ok (.istore_n 1, 1) := qdX9_sigmaOf_0_21.2.1
theorem dX9_sigmaOf_2 : decode cX9_sigmaOf 2 = .ok (.iconst 1, 1) := qdX9_sigmaOf_0_21.2.2.1
theorem dX9_sigmaOf_3 : decode cX9_sigmaOf 3 = .ok (.istore_n 2, 1) := qdX9_sigmaOf_0_21.2.2.2.1
theorem dX9_sigmaOf_4 : decode cX9_sigmaOf 4 = .ok (.iload_n 2, 1) := qdX9_sigmaOf_0_21.2.2.2.2.1
theorem dX9_sigmaOf_5 : decode cX9_sigmaOf 5 = .ok (.iload_n 0, 1) := qdX9_sigmaOf_0_21.2.2.2.2.2.1
theorem dX9_sigmaOf_6 : decode cX9_sigmaOf 6 = .ok (.if_icmp .gt 23, 3) := qdX9_sigmaOf_0_21.2.2.2.2.2.2.1
theorem dX9_sigmaOf_9 : decode cX9_sigmaOf 9 = .ok (.iload_n 1, 1) := qdX9_sigmaOf_0_21.2.2.2.2.2.2.2.1
theorem dX9_sigmaOf_10 : decode cX9_sigmaOf 10 = .ok (.iload_n 0, 1) := qdX9_sigmaOf_0_21.2.2.2.2.2.2.2.2.1
theorem dX9_sigmaOf_11 : decode cX9_sigmaOf 11 = .ok (.iload_n 2, 1) := qdX9_sigmaOf_0_21.2.2.2.2.2.2.2.2.2.1
theorem dX9_sigmaOf_12 : decode cX9_sigmaOf 12 = .ok (.irem, 1) := qdX9_sigmaOf_0_21.2.2.2.2.2.2.2.2.2.2.1
theorem dX9_sigmaOf_13 : decode cX9_sigmaOf 13 = .ok (.ifCond .ne 7, 3) := qdX9_sigmaOf_0_21.2.2.2.2.2.2.2.2.2.2.2.1
theorem dX9_sigmaOf_16 : decode cX9_sigmaOf 16 = .ok (.iload_n 2, 1) := qdX9_sigmaOf_0_21.2.2.2.2.2.2.2.2.2.2.2.2.1
theorem dX9_sigmaOf_17 : decode cX9_sigmaOf 17 = .ok (.goto 4, 3) := qdX9_sigmaOf_0_21.2.2.2.2.2.2.2.2.2.2.2.2.2.1
theorem dX9_sigmaOf_20 : decode cX9_sigmaOf 20 = .ok (.iconst 0, 1) := qdX9_sigmaOf_0_21.2.2.2.2.2.2.2.2.2.2.2.2.2.2.1
theorem dX9_sigmaOf_21 : decode cX9_sigmaOf 21 = .ok (.iadd, 1) := qdX9_sigmaOf_0_21.2.2.2.2.2.2.2.2.2.2.2.2.2.2.2.1
theorem dX9_sigmaOf_22 : decode cX9_sigmaOf 22 = .ok (.istore_n 1, 1) := qdX9_sigmaOf_0_21.2.2.2.2.2.2.2.2.2.2.2.2.2.2.2.2.1
theorem dX9_sigmaOf_23 : decode cX9_sigmaOf 23 = .ok (.iinc 2 1, 3) := qdX9_sigmaOf_0_21.2.2.2.2.2.2.2.2.2.2.2.2.2.2.2.2.2.1
theorem dX9_sigmaOf_26 : decode cX9_sigmaOf 26 = .ok (.goto (-22), 3) := qdX9_sigmaOf_0_21.2.2.2.2.2.2.2.2.2.2.2.2.2.2.2.2.2.2.1
theorem dX9_sigmaOf_29 : decode cX9_sigmaOf 29 = .ok (.iload_n 1, 1) := qdX9_sigmaOf_0_21.2.2.2.2.2.2.2.2.2.2.2.2.2.2.2.2.2.2.2.1
theorem dX9_sigmaOf_30 : decode cX9_sigmaOf 30 = .ok (.ireturn, 1) := qdX9_sigmaOf_0_21.2.2.2.2.2.2.2.2.2.2.2.2.2.2.2.2.2.2.2.2.1
theorem ggX9_phiOf_X9_common : GoodIn wsX9_phiOf wsX9_common := fun w h => ⟨List.mem_cons_of_mem _ (List.mem_append_right _ h), zq_X9_common w h⟩
set_option maxRecDepth 20000 in
theorem gX9_phiOf_X9_common : GoodIn wsX9_phiOf (va_wsS RX9 33 yX9_common wsX9_common) := goodIn_app (goodIn_r _ [1, 2, 3] rfl rfl) ggX9_phiOf_X9_common
theorem qdX9_phiOf_0_22 : dcAll cX9_phiOf [(0, .iconst 0, 1), (1, .istore_n 1, 1), (2, .iconst 1, 1), (3, .istore_n 2, 1), (4, .iload_n 2, 1), (5, .iload_n 0, 1), (6, .if_icmp .gt 26, 3), (9, .iload_n 1, 1), (10, .iload_n 2, 1), (11, .iload_n 0, 1), (12, .invokestatic 33, 3), (15, .iconst 1, 1), (16, .if_icmp .ne 7, 3), (19, .iconst 1, 1), (20, .goto 4, 3), (23, .iconst 0, 1), (24, .iadd, 1), (25, .istore_n 1, 1), (26, .iinc 2 1, 3), (29, .goto (-25), 3), (32, .iload_n 1, 1), (33, .ireturn, 1)] := dcAll_of (by decide +kernel)
theorem dX9_phiOf_0 : decode cX9_phiOf 0 = .ok (.iconst 0, 1) := qdX9_phiOf_0_22.1
theorem dX9_phiOf_1 : decode cX9_phiOf 1 = .ok (.istore_n 1, 1) := qdX9_phiOf_0_22.2.1
theorem dX9_phiOf_2 : decode cX9_phiOf 2 = .ok (.iconst 1, 1) := qdX9_phiOf_0_22.2.2.1
theorem dX9_phiOf_3 : decode cX9_phiOf 3 = .ok (.istore_n 2, 1) := qdX9_phiOf_0_22.2.2.2.1
theorem dX9_phiOf_4 : decode cX9_phiOf 4 = .ok (.iload_n 2, 1) := qdX9_phiOf_0_22.2.2.2.2.1
theorem dX9_phiOf_5 : decode cX9_phiOf 5 = .ok (.iload_n 0, 1) := qdX9_phiOf_0_22.2.2.2.2.2.1
theorem dX9_phiOf_6 : decode cX9_phiOf 6 = .ok (.if_icmp .gt 26, 3) := qdX9_phiOf_0_22.2.2.2.2.2.2.1
theorem dX9_phiOf_9 : decode cX9_phiOf 9 = .ok (.iload_n 1, 1) := qdX9_phiOf_0_22.2.2.2.2.2.2.2.1
theorem dX9_phiOf_10 : decode cX9_phiOf 10 = .ok (.iload_n 2, 1) := qdX9_phiOf_0_22.2.2.2.2.2.2.2.2.1
theorem dX9_phiOf_11 : decode cX9_phiOf 11 = .ok (.iload_n 0, 1) := qdX9_phiOf_0_22.2.2.2.2.2.2.2.2.2.1
theorem dX9_phiOf_12 : decode cX9_phiOf 12 = .ok (.invokestatic 33, 3) := qdX9_phiOf_0_22.2.2.2.2.2.2.2.2.2.2.1
theorem dX9_phiOf_15 : decode cX9_phiOf 15 = .ok (.iconst 1, 1) := qdX9_phiOf_0_22.2.2.2.2.2.2.2.2.2.2.2.1
theorem dX9_phiOf_16 : decode cX9_phiOf 16 = .ok (.if_icmp .ne 7, 3) := qdX9_phiOf_0_22.2.2.2.2.2.2.2.2.2.2.2.2.1
theorem dX9_phiOf_19 : decode cX9_phiOf 19 = .ok (.iconst 1, 1) := qdX9_phiOf_0_22.2.2.2.2.2.2.2.2.2.2.2.2.2.1
theorem dX9_phiOf_20 : decode cX9_phiOf 20 = .ok (.goto 4, 3) := qdX9_phiOf_0_22.2.2.2.2.2.2.2.2.2.2.2.2.2.2.1
theorem dX9_phiOf_23 : decode cX9_phiOf 23 = .ok (.iconst 0, 1) := qdX9_phiOf_0_22.2.2.2.2.2.2.2.2.2.2.2.2.2.2.2.1
theorem dX9_phiOf_24 : decode cX9_phiOf 24 = .ok (.iadd, 1) := qdX9_phiOf_0_22.2.2.2.2.2.2.2.2.2.2.2.2.2.2.2.2.1
theorem dX9_phiOf_25 : decode cX9_phiOf 25 = .ok (.istore_n 1, 1) := qdX9_phiOf_0_22.2.2.2.2.2.2.2.2.2.2.2.2.2.2.2.2.2.1
theorem dX9_phiOf_26 : decode cX9_phiOf 26 = .ok (.iinc 2 1, 3) := qdX9_phiOf_0_22.2.2.2.2.2.2.2.2.2.2.2.2.2.2.2.2.2.2.1
theorem dX9_phiOf_29 : decode cX9_phiOf 29 = .ok (.goto (-25), 3) := qdX9_phiOf_0_22.2.2.2.2.2.2.2.2.2.2.2.2.2.2.2.2.2.2.2.1
theorem dX9_phiOf_32 : decode cX9_phiOf 32 = .ok (.iload_n 1, 1) := qdX9_phiOf_0_22.2.2.2.2.2.2.2.2.2.2.2.2.2.2.2.2.2.2.2.2.1
theorem dX9_phiOf_33 : decode cX9_phiOf 33 = .ok (.ireturn, 1) := qdX9_phiOf_0_22.2.2.2.2.2.2.2.2.2.2.2.2.2.2.2.2.2.2.2.2.2.1
theorem qdX9_plus_0_24 : dcAll cX9_plus [(0, .lload_n 1, 1), (1, .lload_n 3, 1), (2, .ladd, 1), (3, .lstore 5, 2), (5, .lload_n 1, 1), (6, .lconst 0, 1), (7, .lcmp, 1), (8, .ifCond .le 16, 3), (11, .lload_n 3, 1), (12, .lconst 0, 1), (13, .lcmp, 1), (14, .ifCond .le 10, 3), (17, .lload 5, 2), (19, .lconst 0, 1), (20, .lcmp, 1), (21, .ifCond .lt 22, 3), (24, .lload_n 1, 1), (25, .lconst 0, 1), (26, .lcmp, 1), (27, .ifCond .ge 21, 3), (30, .lload_n 3, 1), (31, .lconst 0, 1), (32, .lcmp, 1), (33, .ifCond .ge 15, 3)] := dcAll_of (by decide +kernel)
theorem dX9_plus_0 : decode cX9_plus 0 = .ok (.lload_n 1, 1) := qdX9_plus_0_24.1
theorem dX9_plus_1 : decode cX9_plus 1 = .ok (.lload_n 3, 1) := qdX9_plus_0_24.2.1
theorem dX9_plus_2 : decode cX9_plus 2 = .ok (.ladd, 1) := qdX9_plus_0_24.2.2.1
theorem dX9_plus_3 : decode cX9_plus 3 = .ok (.lstore 5, 2) := qdX9_plus_0_24.2.2.2.1
theorem dX9_plus_5 : decode cX9_plus 5 = .ok (.lload_n 1, 1) := qdX9_plus_0_24.2.2.2.2.1
theorem dX9_plus_6 : decode cX9_plus 6 = .ok (.lconst 0, 1) := qdX9_plus_0_24.2.2.2.2.2.1
theorem dX9_plus_7 : decode cX9_plus 7 = .ok (.lcmp, 1) := qdX9_plus_0_24.2.2.2.2.2.2.1
theorem dX9_plus_8 : decode cX9_plus 8 = .ok (.ifCond .le 16, 3) := qdX9_plus_0_24.2.2.2.2.2.2.2.1
theorem dX9_plus_11 : decode cX9_plus 11 = .ok (.lload_n 3, 1) := qdX9_plus_0_24.2.2.2.2.2.2.2.2.1
theorem dX9_plus_12 : decode cX9_plus 12 = .ok (.lconst 0, 1) := qdX9_plus_0_24.2.2.2.2.2.2.2.2.2.1
theorem dX9_plus_13 : decode cX9_plus 13 = .ok (.lcmp, 1) := qdX9_plus_0_24.2.2.2.2.2.2.2.2.2.2.1
theorem dX9_plus_14 : decode cX9_plus 14 = .ok (.ifCond .le 10, 3) := qdX9_plus_0_24.2.2.2.2.2.2.2.2.2.2.2.1
theorem dX9_plus_17 : decode cX9_plus 17 = .ok (.lload 5, 2) := qdX9_plus_0_24.2.2.2.2.2.2.2.2.2.2.2.2.1
theorem dX9_plus_19 : decode cX9_plus 19 = .ok (.lconst 0, 1) := qdX9_plus_0_24.2.2.2.2.2.2.2.2.2.2.2.2.2.1
theorem dX9_plus_20 : decode cX9_plus 20 = .ok (.lcmp, 1) := qdX9_plus_0_24.2.2.2.2.2.2.2.2.2.2.2.2.2.2.1
theorem dX9_plus_21 : decode cX9_plus 21 = .ok (.ifCond .lt 22, 3) := qdX9_plus_0_24.2.2.2.2.2.2.2.2.2.2.2.2.2.2.2.1
theorem dX9_plus_24 : decode cX9_plus 24 = .ok (.lload_n 1, 1) := qdX9_plus_0_24.2.2.2.2.2.2.2.2.2.2.2.2.2.2.2.2.1
theorem dX9_plus_25 : decode cX9_plus 25 = .ok (.lconst 0, 1) := qdX9_plus_0_24.2.2.2.2.2.2.2.2.2.2.2.2.2.2.2.2.2.1
theorem dX9_plus_26 : decode cX9_plus 26 = .ok (.lcmp, 1) := qdX9_plus_0_24.2.2.2.2.2.2.2.2.2.2.2.2.2.2.2.2.2.2.1
theorem dX9_plus_27 : decode cX9_plus 27 = .ok (.ifCond .ge 21, 3) := qdX9_plus_0_24.2.2.2.2.2.2.2.2.2.2.2.2.2.2.2.2.2.2.2.1
theorem dX9_plus_30 : decode cX9_plus 30 = .ok (.lload_n 3, 1) := qdX9_plus_0_24.2.2.2.2.2.2.2.2.2.2.2.2.2.2.2.2.2.2.2.2.1
theorem dX9_plus_31 : decode cX9_plus 31 = .ok (.lconst 0, 1) := qdX9_plus_0_24.2.2.2.2.2.2.2.2.2.2.2.2.2.2.2.2.2.2.2.2.2.1
theorem dX9_plus_32 : decode cX9_plus 32 = .ok (.lcmp, 1) := qdX9_plus_0_24.2.2.2.2.2.2.2.2.2.2.2.2.2.2.2.2.2.2.2.2.2.2.1
theorem dX9_plus_33 : decode cX9_plus 33 = .ok (.ifCond .ge 15, 3) := qdX9_plus_0_24.2.2.2.2.2.2.2.2.2.2.2.2.2.2.2.2.2.2.2.2.2.2.2.1
theorem qdX9_plus_36_9 : dcAll cX9_plus [(36, .lload 5, 2), (38, .lconst 0, 1), (39, .lcmp, 1), (40, .ifCond .lt 8, 3), (43, .aload_n 0, 1), (44, .iconst 1, 1), (45, .putfield 36, 3), (48, .lload 5, 2), (50, .lreturn, 1)] := dcAll_of (by decide +kernel)
theorem dX9_plus_36 : decode cX9_plus 36 = .ok (.lload 5, 2) := qdX9_plus_36_9.1
theorem dX9_plus_38 : decode cX9_plus 38 = .ok (.lconst 0, 1) := qdX9_plus_36_9.2.1
theorem dX9_plus_39 : decode cX9_plus 39 = .ok (.lcmp, 1) := qdX9_plus_36_9.2.2.1
theorem dX9_plus_40 : decode cX9_plus 40 = .ok (.ifCond .lt 8, 3) := qdX9_plus_36_9.2.2.2.1
theorem dX9_plus_43 : decode cX9_plus 43 = .ok (.aload_n 0, 1) := qdX9_plus_36_9.2.2.2.2.1
theorem dX9_plus_44 : decode cX9_plus 44 = .ok (.iconst 1, 1) := qdX9_plus_36_9.2.2.2.2.2.1
theorem dX9_plus_45 : decode cX9_plus 45 = .ok (.putfield 36, 3) := qdX9_plus_36_9.2.2.2.2.2.2.1
theorem dX9_plus_48 : decode cX9_plus 48 = .ok (.lload 5, 2) := qdX9_plus_36_9.2.2.2.2.2.2.2.1
theorem dX9_plus_50 : decode cX9_plus 50 = .ok (.lreturn, 1) := qdX9_plus_36_9.2.2.2.2.2.2.2.2.1
theorem qdX9_times_0_24 : dcAll cX9_times [(0, .lload_n 1, 1), (1, .lload_n 3, 1), (2, .lmul, 1), (3, .lstore 5, 2), (5, .lload_n 1, 1), (6, .ldc2_w 40, 3), (9, .lcmp, 1), (10, .ifCond .ne 14, 3), (13, .lload_n 3, 1), (14, .ldc2_w 44, 3), (17, .lcmp, 1), (18, .ifCond .ne 26, 3), (21, .goto 18, 3), (24, .lload_n 1, 1), (25, .lconst 0, 1), (26, .lcmp, 1), (27, .ifCond .eq 17, 3), (30, .lload 5, 2), (32, .lload_n 1, 1), (33, .ldiv, 1), (34, .lload_n 3, 1), (35, .lcmp, 1), (36, .ifCond .eq 8, 3), (39, .aload_n 0, 1)] := dcAll_of (by decide +kernel)
theorem dX9_times_0 : decode cX9_times 0 = .ok (.lload_n 1, 1) := qdX9_times_0_24.1
theorem dX9_times_1 : decode cX9_times 1 = .ok (.lload_n 3, 1) := qdX9_times_0_24.2.1
theorem dX9_times_2 : decode cX9_times 2 = .ok (.lmul, 1) := qdX9_times_0_24.2.2.1
theorem dX9_times_3 : decode cX9_times 3 = .ok (.lstore 5, 2) := qdX9_times_0_24.2.2.2.1
theorem dX9_times_5 : decode cX9_times 5 = .ok (.lload_n 1, 1) := qdX9_times_0_24.2.2.2.2.1
theorem dX9_times_6 : decode cX9_times 6 = .ok (.ldc2_w 40, 3) := qdX9_times_0_24.2.2.2.2.2.1
theorem dX9_times_9 : decode cX9_times 9 = .ok (.lcmp, 1) := qdX9_times_0_24.2.2.2.2.2.2.1
theorem dX9_times_10 : decode cX9_times 10 = .ok (.ifCond .ne 14, 3) := qdX9_times_0_24.2.2.2.2.2.2.2.1
theorem dX9_times_13 : decode cX9_times 13 = .ok (.lload_n 3, 1) := qdX9_times_0_24.2.2.2.2.2.2.2.2.1
theorem dX9_times_14 : decode cX9_times 14 = .ok (.ldc2_w 44, 3) := qdX9_times_0_24.2.2.2.2.2.2.2.2.2.1
theorem dX9_times_17 : decode cX9_times 17 = .ok (.lcmp, 1) := qdX9_times_0_24.2.2.2.2.2.2.2.2.2.2.1
theorem dX9_times_18 : decode cX9_times 18 = .ok (.ifCond .ne 26, 3) := qdX9_times_0_24.2.2.2.2.2.2.2.2.2.2.2.1
theorem dX9_times_21 : decode cX9_times 21 = .ok (.goto 18, 3) := qdX9_times_0_24.2.2.2.2.2.2.2.2.2.2.2.2.1
theorem dX9_times_24 : decode cX9_times 24 = .ok (.lload_n 1, 1) := qdX9_times_0_24.2.2.2.2.2.2.2.2.2.2.2.2.2.1
theorem dX9_times_25 : decode cX9_times 25 = .ok (.lconst 0, 1) := qdX9_times_0_24.2.2.2.2.2.2.2.2.2.2.2.2.2.2.1
theorem dX9_times_26 : decode cX9_times 26 = .ok (.lcmp, 1) := qdX9_times_0_24.2.2.2.2.2.2.2.2.2.2.2.2.2.2.2.1
theorem dX9_times_27 : decode cX9_times 27 = .ok (.ifCond .eq 17, 3) := qdX9_times_0_24.2.2.2.2.2.2.2.2.2.2.2.2.2.2.2.2.1
theorem dX9_times_30 : decode cX9_times 30 = .ok (.lload 5, 2) := qdX9_times_0_24.2.2.2.2.2.2.2.2.2.2.2.2.2.2.2.2.2.1
theorem dX9_times_32 : decode cX9_times 32 = .ok (.lload_n 1, 1) := qdX9_times_0_24.2.2.2.2.2.2.2.2.2.2.2.2.2.2.2.2.2.2.1
theorem dX9_times_33 : decode cX9_times 33 = .ok (.ldiv, 1) := qdX9_times_0_24.2.2.2.2.2.2.2.2.2.2.2.2.2.2.2.2.2.2.2.1
theorem dX9_times_34 : decode cX9_times 34 = .ok (.lload_n 3, 1) := qdX9_times_0_24.2.2.2.2.2.2.2.2.2.2.2.2.2.2.2.2.2.2.2.2.1
theorem dX9_times_35 : decode cX9_times 35 = .ok (.lcmp, 1) := qdX9_times_0_24.2.2.2.2.2.2.2.2.2.2.2.2.2.2.2.2.2.2.2.2.2.1
theorem dX9_times_36 : decode cX9_times 36 = .ok (.ifCond .eq 8, 3) := qdX9_times_0_24.2.2.2.2.2.2.2.2.2.2.2.2.2.2.2.2.2.2.2.2.2.2.1
theorem dX9_times_39 : decode cX9_times 39 = .ok (.aload_n 0, 1) := qdX9_times_0_24.2.2.2.2.2.2.2.2.2.2.2.2.2.2.2.2.2.2.2.2.2.2.2.1
theorem qdX9_times_40_4 : dcAll cX9_times [(40, .iconst 1, 1), (41, .putfield 36, 3), (44, .lload 5, 2), (46, .lreturn, 1)] := dcAll_of (by decide +kernel)
theorem dX9_times_40 : decode cX9_times 40 = .ok (.iconst 1, 1) := qdX9_times_40_4.1
theorem dX9_times_41 : decode cX9_times 41 = .ok (.putfield 36, 3) := qdX9_times_40_4.2.1
theorem dX9_times_44 : decode cX9_times 44 = .ok (.lload 5, 2) := qdX9_times_40_4.2.2.1
theorem dX9_times_46 : decode cX9_times 46 = .ok (.lreturn, 1) := qdX9_times_40_4.2.2.2.1
theorem ggX9_known_X9_signOf : GoodIn wsX9_known wsX9_signOf := fun w h => ⟨List.mem_cons_of_mem _ (List.mem_append_left _ (List.mem_append_left _ (List.mem_append_left _ (List.mem_append_left _ (List.mem_append_left _ (List.mem_append_right _ h)))))), zq_X9_signOf w h⟩
set_option maxRecDepth 20000 in
theorem gX9_known_X9_signOf : GoodIn wsX9_known (va_wsS RX9 46 yX9_signOf wsX9_signOf) := goodIn_app (goodIn_r _ [2, 3, 4] rfl rfl) ggX9_known_X9_signOf
theorem ggX9_known_X9_phiOf : GoodIn wsX9_known wsX9_phiOf := fun w h => ⟨List.mem_cons_of_mem _ (List.mem_append_left _ (List.mem_append_left _ (List.mem_append_left _ (List.mem_append_left _ (List.mem_append_right _ h))))), zq_X9_phiOf w h⟩
set_option maxRecDepth 20000 in
theorem gX9_known_X9_phiOf : GoodIn wsX9_known (va_wsS RX9 49 yX9_phiOf wsX9_phiOf) := goodIn_app (goodIn_r _ [9, 10, 4] rfl rfl) ggX9_known_X9_phiOf
theorem ggX9_known_X9_tauOf : GoodIn wsX9_known wsX9_tauOf := fun w h => ⟨List.mem_cons_of_mem _ (List.mem_append_left _ (List.mem_append_left _ (List.mem_append_left _ (List.mem_append_right _ h)))), zq_X9_tauOf w h⟩
set_option maxRecDepth 20000 in
theorem gX9_known_X9_tauOf : GoodIn wsX9_known (va_wsS RX9 52 yX9_tauOf wsX9_tauOf) := goodIn_app (goodIn_r _ [12, 13, 4] rfl rfl) ggX9_known_X9_tauOf
theorem ggX9_known_X9_sigmaOf : GoodIn wsX9_known wsX9_sigmaOf := fun w h => ⟨List.mem_cons_of_mem _ (List.mem_append_left _ (List.mem_append_left _ (List.mem_append_right _ h))), zq_X9_sigmaOf w h⟩
set_option maxRecDepth 20000 in
theorem gX9_known_X9_sigmaOf : GoodIn wsX9_known (va_wsS RX9 55 yX9_sigmaOf wsX9_sigmaOf) := goodIn_app (goodIn_r _ [14, 15, 4] rfl rfl) ggX9_known_X9_sigmaOf
theorem ggX9_known_X9_squareOf : GoodIn wsX9_known wsX9_squareOf := fun w h => ⟨List.mem_cons_of_mem _ (List.mem_append_left _ (List.mem_append_right _ h)), zq_X9_squareOf w h⟩
set_option maxRecDepth 20000 in
theorem gX9_known_X9_squareOf : GoodIn wsX9_known (va_wsS RX9 27 yX9_squareOf wsX9_squareOf) := goodIn_app (goodIn_r _ [5, 6, 4] rfl rfl) ggX9_known_X9_squareOf
theorem ggX9_known_X9_all : GoodIn wsX9_known wsX9_all := fun w h => ⟨List.mem_cons_of_mem _ (List.mem_append_right _ h), zq_X9_all w h⟩
set_option maxRecDepth 20000 in
theorem gX9_known_X9_all : GoodIn wsX9_known (va_wsS RX9 30 yX9_all wsX9_all) := goodIn_app (goodIn_r _ [7, 8, 4] rfl rfl) ggX9_known_X9_all
theorem qdX9_known_0_24 : dcAll cX9_known [(0, .iload_n 0, 1), (1, .tableswitch 140 0 9 #[55, 66, 68, 71, 77, 83, 89, 95, 109, 126], 55), (56, .iload_n 1, 1), (57, .iconst 1, 1), (58, .if_icmp .ne 7, 3), (61, .lconst 1, 1), (62, .goto 4, 3), (65, .lconst 0, 1), (66, .lreturn, 1), (67, .lconst 1, 1), (68, .lreturn, 1), (69, .iload_n 1, 1), (70, .i2l, 1), (71, .lreturn, 1), (72, .iload_n 1, 1), (73, .invokestatic 46, 3), (76, .i2l, 1), (77, .lreturn, 1), (78, .iload_n 1, 1), (79, .invokestatic 49, 3), (82, .i2l, 1), (83, .lreturn, 1), (84, .iload_n 1, 1), (85, .invokestatic 52, 3)] := dcAll_of (by decide +kernel)
theorem dX9_known_0 : decode cX9_known 0 = .ok (.iload_n 0, 1) := qdX9_known_0_24.1
theorem dX9_known_1 : decode cX9_known 1 = .ok (.tableswitch 140 0 9 #[55, 66, 68, 71, 77, 83, 89, 95, 109, 126], 55) := qdX9_known_0_24.2.1
theorem dX9_known_56 : decode cX9_known 56 = .ok (.iload_n 1, 1) := qdX9_known_0_24.2.2.1
theorem dX9_known_57 : decode cX9_known 57 = .ok (.iconst 1, 1) := qdX9_known_0_24.2.2.2.1
theorem dX9_known_58 : decode cX9_known 58 = .ok (.if_icmp .ne 7, 3) := qdX9_known_0_24.2.2.2.2.1
theorem dX9_known_61 : decode cX9_known 61 = .ok (.lconst 1, 1) := qdX9_known_0_24.2.2.2.2.2.1
theorem dX9_known_62 : decode cX9_known 62 = .ok (.goto 4, 3) := qdX9_known_0_24.2.2.2.2.2.2.1
theorem dX9_known_65 : decode cX9_known 65 = .ok (.lconst 0, 1) := qdX9_known_0_24.2.2.2.2.2.2.2.1
theorem dX9_known_66 : decode cX9_known 66 = .ok (.lreturn, 1) := qdX9_known_0_24.2.2.2.2.2.2.2.2.1
theorem dX9_known_67 : decode cX9_known 67 = .ok (.lconst 1, 1) := qdX9_known_0_24.2.2.2.2.2.2.2.2.2.1
theorem dX9_known_68 : decode cX9_known 68 = .ok (.lreturn, 1) := qdX9_known_0_24.2.2.2.2.2.2.2.2.2.2.1
theorem dX9_known_69 : decode cX9_known 69 = .ok (.iload_n 1, 1) := qdX9_known_0_24.2.2.2.2.2.2.2.2.2.2.2.1
theorem dX9_known_70 : decode cX9_known 70 = .ok (.i2l, 1) := qdX9_known_0_24.2.2.2.2.2.2.2.2.2.2.2.2.1
theorem dX9_known_71 : decode cX9_known 71 = .ok (.lreturn, 1) := qdX9_known_0_24.2.2.2.2.2.2.2.2.2.2.2.2.2.1
theorem dX9_known_72 : decode cX9_known 72 = .ok (.iload_n 1, 1) := qdX9_known_0_24.2.2.2.2.2.2.2.2.2.2.2.2.2.2.1
theorem dX9_known_73 : decode cX9_known 73 = .ok (.invokestatic 46, 3) := qdX9_known_0_24.2.2.2.2.2.2.2.2.2.2.2.2.2.2.2.1
theorem dX9_known_76 : decode cX9_known 76 = .ok (.i2l, 1) := qdX9_known_0_24.2.2.2.2.2.2.2.2.2.2.2.2.2.2.2.2.1
theorem dX9_known_77 : decode cX9_known 77 = .ok (.lreturn, 1) := qdX9_known_0_24.2.2.2.2.2.2.2.2.2.2.2.2.2.2.2.2.2.1
theorem dX9_known_78 : decode cX9_known 78 = .ok (.iload_n 1, 1) := qdX9_known_0_24.2.2.2.2.2.2.2.2.2.2.2.2.2.2.2.2.2.2.1
theorem dX9_known_79 : decode cX9_known 79 = .ok (.invokestatic 49, 3) := qdX9_known_0_24.2.2.2.2.2.2.2.2.2.2.2.2.2.2.2.2.2.2.2.1
theorem dX9_known_82 : decode cX9_known 82 = .ok (.i2l, 1) := qdX9_known_0_24.2.2.2.2.2.2.2.2.2.2.2.2.2.2.2.2.2.2.2.2.1
theorem dX9_known_83 : decode cX9_known 83 = .ok (.lreturn, 1) := qdX9_known_0_24.2.2.2.2.2.2.2.2.2.2.2.2.2.2.2.2.2.2.2.2.2.1
theorem dX9_known_84 : decode cX9_known 84 = .ok (.iload_n 1, 1) := qdX9_known_0_24.2.2.2.2.2.2.2.2.2.2.2.2.2.2.2.2.2.2.2.2.2.2.1
theorem dX9_known_85 : decode cX9_known 85 = .ok (.invokestatic 52, 3) := qdX9_known_0_24.2.2.2.2.2.2.2.2.2.2.2.2.2.2.2.2.2.2.2.2.2.2.2.1
theorem qdX9_known_88_24 : dcAll cX9_known [(88, .i2l, 1), (89, .lreturn, 1), (90, .iload_n 1, 1), (91, .invokestatic 55, 3), (94, .i2l, 1), (95, .lreturn, 1), (96, .iload_n 1, 1), (97, .invokestatic 27, 3), (100, .iconst 1, 1), (101, .if_icmp .ne 7, 3), (104, .lconst 1, 1), (105, .goto 4, 3), (108, .lconst 0, 1), (109, .lreturn, 1), (110, .iload_n 1, 1), (111, .invokestatic 30, 3), (114, .iconst 2, 1), (115, .irem, 1), (116, .ifCond .ne 7, 3), (119, .lconst 1, 1), (120, .goto 6, 3), (123, .ldc2_w 40, 3), (126, .lreturn, 1), (127, .iload_n 1, 1)] := dcAll_of (by decide +kernel)
theorem dX9_known_88 : decode cX9_known 88 = .ok (.i2l, 1) := qdX9_known_88_24.1
theorem dX9_known_89 : decode cX9_known 89 = .ok (.lreturn, 1) := qdX9_known_88_24.2.1
theorem dX9_known_90 : decode cX9_known 90 = .ok (.iload_n 1, 1) := qdX9_known_88_24.2.2.1
theorem dX9_known_91 : decode cX9_known 91 = .ok (.invokestatic 55, 3) := qdX9_known_88_24.2.2.2.1
theorem dX9_known_94 : decode cX9_known 94 = .ok (.i2l, 1) := qdX9_known_88_24.2.2.2.2.1
theorem dX9_known_95 : decode cX9_known 95 = .ok (.lreturn, 1) := qdX9_known_88_24.2.2.2.2.2.1
theorem dX9_known_96 : decode cX9_known 96 = .ok (.iload_n 1, 1) := qdX9_known_88_24.2.2.2.2.2.2.1
theorem dX9_known_97 : decode cX9_known 97 = .ok (.invokestatic 27, 3) := qdX9_known_88_24.2.2.2.2.2.2.2.1
theorem dX9_known_100 : decode cX9_known 100 = .ok (.iconst 1, 1) := qdX9_known_88_24.2.2.2.2.2.2.2.2.1
theorem dX9_known_101 : decode cX9_known 101 = .ok (.if_icmp .ne 7, 3) := qdX9_known_88_24.2.2.2.2.2.2.2.2.2.1
theorem dX9_known_104 : decode cX9_known 104 = .ok (.lconst 1, 1) := qdX9_known_88_24.2.2.2.2.2.2.2.2.2.2.1
theorem dX9_known_105 : decode cX9_known 105 = .ok (.goto 4, 3) := qdX9_known_88_24.2.2.2.2.2.2.2.2.2.2.2.1
theorem dX9_known_108 : decode cX9_known 108 = .ok (.lconst 0, 1) := qdX9_known_88_24.2.2.2.2.2.2.2.2.2.2.2.2.1
theorem dX9_known_109 : decode cX9_known 109 = .ok (.lreturn, 1) := qdX9_known_88_24.2.2.2.2.2.2.2.2.2.2.2.2.2.1
theorem dX9_known_110 : decode cX9_known 110 = .ok (.iload_n 1, 1) := qdX9_known_88_24.2.2.2.2.2.2.2.2.2.2.2.2.2.2.1
theorem dX9_known_111 : decode cX9_known 111 = .ok (.invokestatic 30, 3) := qdX9_known_88_24.2.2.2.2.2.2.2.2.2.2.2.2.2.2.2.1
theorem dX9_known_114 : decode cX9_known 114 = .ok (.iconst 2, 1) := qdX9_known_88_24.2.2.2.2.2.2.2.2.2.2.2.2.2.2.2.2.1
theorem dX9_known_115 : decode cX9_known 115 = .ok (.irem, 1) := qdX9_known_88_24.2.2.2.2.2.2.2.2.2.2.2.2.2.2.2.2.2.1
theorem dX9_known_116 : decode cX9_known 116 = .ok (.ifCond .ne 7, 3) := qdX9_known_88_24.2.2.2.2.2.2.2.2.2.2.2.2.2.2.2.2.2.2.1
theorem dX9_known_119 : decode cX9_known 119 = .ok (.lconst 1, 1) := qdX9_known_88_24.2.2.2.2.2.2.2.2.2.2.2.2.2.2.2.2.2.2.2.1
theorem dX9_known_120 : decode cX9_known 120 = .ok (.goto 6, 3) := qdX9_known_88_24.2.2.2.2.2.2.2.2.2.2.2.2.2.2.2.2.2.2.2.2.1
theorem dX9_known_123 : decode cX9_known 123 = .ok (.ldc2_w 40, 3) := qdX9_known_88_24.2.2.2.2.2.2.2.2.2.2.2.2.2.2.2.2.2.2.2.2.2.1
theorem dX9_known_126 : decode cX9_known 126 = .ok (.lreturn, 1) := qdX9_known_88_24.2.2.2.2.2.2.2.2.2.2.2.2.2.2.2.2.2.2.2.2.2.2.1
theorem dX9_known_127 : decode cX9_known 127 = .ok (.iload_n 1, 1) := qdX9_known_88_24.2.2.2.2.2.2.2.2.2.2.2.2.2.2.2.2.2.2.2.2.2.2.2.1
theorem qdX9_known_128_12 : dcAll cX9_known [(128, .invokestatic 27, 3), (131, .iload_n 1, 1), (132, .if_icmp .ne 7, 3), (135, .lconst 1, 1), (136, .goto 4, 3), (139, .lconst 0, 1), (140, .lreturn, 1), (141, .iload_n 1, 1), (142, .iload_n 1, 1), (143, .imul, 1), (144, .i2l, 1), (145, .lreturn, 1)] := dcAll_of (by decide +kernel)
theorem dX9_known_128 : decode cX9_known 128 = .ok (.invokestatic 27, 3) := qdX9_known_128_12.1
theorem dX9_known_131 : decode cX9_known 131 = .ok (.iload_n 1, 1) := qdX9_known_128_12.2.1
theorem dX9_known_132 : decode cX9_known 132 = .ok (.if_icmp .ne 7, 3) := qdX9_known_128_12.2.2.1
theorem dX9_known_135 : decode cX9_known 135 = .ok (.lconst 1, 1) := qdX9_known_128_12.2.2.2.1
theorem dX9_known_136 : decode cX9_known 136 = .ok (.goto 4, 3) := qdX9_known_128_12.2.2.2.2.1
theorem dX9_known_139 : decode cX9_known 139 = .ok (.lconst 0, 1) := qdX9_known_128_12.2.2.2.2.2.1
theorem dX9_known_140 : decode cX9_known 140 = .ok (.lreturn, 1) := qdX9_known_128_12.2.2.2.2.2.2.1
theorem dX9_known_141 : decode cX9_known 141 = .ok (.iload_n 1, 1) := qdX9_known_128_12.2.2.2.2.2.2.2.1
theorem dX9_known_142 : decode cX9_known 142 = .ok (.iload_n 1, 1) := qdX9_known_128_12.2.2.2.2.2.2.2.2.1
theorem dX9_known_143 : decode cX9_known 143 = .ok (.imul, 1) := qdX9_known_128_12.2.2.2.2.2.2.2.2.2.1
theorem dX9_known_144 : decode cX9_known 144 = .ok (.i2l, 1) := qdX9_known_128_12.2.2.2.2.2.2.2.2.2.2.1
theorem dX9_known_145 : decode cX9_known 145 = .ok (.lreturn, 1) := qdX9_known_128_12.2.2.2.2.2.2.2.2.2.2.2.1
theorem ggX9_product_X9_times : GoodIn wsX9_product wsX9_times := fun w h => ⟨List.mem_cons_of_mem _ (List.mem_append_left _ (List.mem_append_right _ h)), zq_X9_times w h⟩
set_option maxRecDepth 20000 in
theorem gX9_product_X9_times : GoodIn wsX9_product (wsV RX9 58 RX9 yX9_times wsX9_times) := goodIn_app (goodIn_r _ [2, 3, 4, 5] rfl rfl) ggX9_product_X9_times
theorem ggX9_product_X9_plus : GoodIn wsX9_product wsX9_plus := fun w h => ⟨List.mem_cons_of_mem _ (List.mem_append_right _ h), zq_X9_plus w h⟩
set_option maxRecDepth 20000 in
theorem gX9_product_X9_plus : GoodIn wsX9_product (wsV RX9 62 RX9 yX9_plus wsX9_plus) := goodIn_app (goodIn_r _ [6, 7, 8, 5] rfl rfl) ggX9_product_X9_plus
theorem qdX9_product_0_24 : dcAll cX9_product [(0, .bipush 121, 2), (2, .newarray .long, 2), (4, .astore_n 3, 1), (5, .iconst 1, 1), (6, .istore 4, 2), (8, .iload 4, 2), (10, .bipush 120, 2), (12, .if_icmp .gt 60, 3), (15, .iconst 1, 1), (16, .istore 5, 2), (18, .iload 5, 2), (20, .iload 4, 2), (22, .if_icmp .gt 44, 3), (25, .iload 4, 2), (27, .iload 5, 2), (29, .irem, 1), (30, .ifCond .ne 30, 3), (33, .aload_n 3, 1), (34, .iload 4, 2), (36, .aload_n 0, 1), (37, .aload_n 3, 1), (38, .iload 4, 2), (40, .laload, 1), (41, .aload_n 0, 1)] := dcAll_of (by decide +kernel)
theorem dX9_product_0 : decode cX9_product 0 = .ok (.bipush 121, 2) := qdX9_product_0_24.1
theorem dX9_product_2 : decode cX9_product 2 = .ok (.newarray .long, 2) := qdX9_product_0_24.2.1
theorem dX9_product_4 : decode cX9_product 4 = .ok (.astore_n 3, 1) := qdX9_product_0_24.2.2.1
theorem dX9_product_5 : decode cX9_product 5 = .ok (.iconst 1, 1) := qdX9_product_0_24.2.2.2.1
theorem dX9_product_6 : decode cX9_product 6 = .ok (.istore 4, 2) := qdX9_product_0_24.2.2.2.2.1
theorem dX9_product_8 : decode cX9_product 8 = .ok (.iload 4, 2) := qdX9_product_0_24.2.2.2.2.2.1
theorem dX9_product_10 : decode cX9_product 10 = .ok (.bipush 120, 2) := qdX9_product_0_24.2.2.2.2.2.2.1
theorem dX9_product_12 : decode cX9_product 12 = .ok (.if_icmp .gt 60, 3) := qdX9_product_0_24.2.2.2.2.2.2.2.1
theorem dX9_product_15 : decode cX9_product 15 = .ok (.iconst 1, 1) := qdX9_product_0_24.2.2.2.2.2.2.2.2.1
theorem dX9_product_16 : decode cX9_product 16 = .ok (.istore 5, 2) := qdX9_product_0_24.2.2.2.2.2.2.2.2.2.1
theorem dX9_product_18 : decode cX9_product 18 = .ok (.iload 5, 2) := qdX9_product_0_24.2.2.2.2.2.2.2.2.2.2.1
theorem dX9_product_20 : decode cX9_product 20 = .ok (.iload 4, 2) := qdX9_product_0_24.2.2.2.2.2.2.2.2.2.2.2.1
theorem dX9_product_22 : decode cX9_product 22 = .ok (.if_icmp .gt 44, 3) := qdX9_product_0_24.2.2.2.2.2.2.2.2.2.2.2.2.1
theorem dX9_product_25 : decode cX9_product 25 = .ok (.iload 4, 2) := qdX9_product_0_24.2.2.2.2.2.2.2.2.2.2.2.2.2.1
theorem dX9_product_27 : decode cX9_product 27 = .ok (.iload 5, 2) := qdX9_product_0_24.2.2.2.2.2.2.2.2.2.2.2.2.2.2.1
theorem dX9_product_29 : decode cX9_product 29 = .ok (.irem, 1) := qdX9_product_0_24.2.2.2.2.2.2.2.2.2.2.2.2.2.2.2.1
theorem dX9_product_30 : decode cX9_product 30 = .ok (.ifCond .ne 30, 3) := qdX9_product_0_24.2.2.2.2.2.2.2.2.2.2.2.2.2.2.2.2.1
theorem dX9_product_33 : decode cX9_product 33 = .ok (.aload_n 3, 1) := qdX9_product_0_24.2.2.2.2.2.2.2.2.2.2.2.2.2.2.2.2.2.1
theorem dX9_product_34 : decode cX9_product 34 = .ok (.iload 4, 2) := qdX9_product_0_24.2.2.2.2.2.2.2.2.2.2.2.2.2.2.2.2.2.2.1
theorem dX9_product_36 : decode cX9_product 36 = .ok (.aload_n 0, 1) := qdX9_product_0_24.2.2.2.2.2.2.2.2.2.2.2.2.2.2.2.2.2.2.2.1
theorem dX9_product_37 : decode cX9_product 37 = .ok (.aload_n 3, 1) := qdX9_product_0_24.2.2.2.2.2.2.2.2.2.2.2.2.2.2.2.2.2.2.2.2.1
theorem dX9_product_38 : decode cX9_product 38 = .ok (.iload 4, 2) := qdX9_product_0_24.2.2.2.2.2.2.2.2.2.2.2.2.2.2.2.2.2.2.2.2.2.1
theorem dX9_product_40 : decode cX9_product 40 = .ok (.laload, 1) := qdX9_product_0_24.2.2.2.2.2.2.2.2.2.2.2.2.2.2.2.2.2.2.2.2.2.2.1
theorem dX9_product_41 : decode cX9_product 41 = .ok (.aload_n 0, 1) := qdX9_product_0_24.2.2.2.2.2.2.2.2.2.2.2.2.2.2.2.2.2.2.2.2.2.2.2.1
theorem qdX9_product_42_17 : dcAll cX9_product [(42, .aload_n 1, 1), (43, .iload 5, 2), (45, .laload, 1), (46, .aload_n 2, 1), (47, .iload 4, 2), (49, .iload 5, 2), (51, .idiv, 1), (52, .laload, 1), (53, .invokevirtual 58, 3), (56, .invokevirtual 62, 3), (59, .lastore, 1), (60, .iinc 5 1, 3), (63, .goto (-45), 3), (66, .iinc 4 1, 3), (69, .goto (-61), 3), (72, .aload_n 3, 1), (73, .areturn, 1)] := dcAll_of (by decide +kernel)
theorem dX9_product_42 : decode cX9_product 42 = .ok (.aload_n 1, 1) := qdX9_product_42_17.1
theorem dX9_product_43 : decode cX9_product 43 = .ok (.iload 5, 2) := qdX9_product_42_17.2.1
theorem dX9_product_45 : decode cX9_product 45 = .ok (.laload, 1) := qdX9_product_42_17.2.2.1
theorem dX9_product_46 : decode cX9_product 46 = .ok (.aload_n 2, 1) := qdX9_product_42_17.2.2.2.1
theorem dX9_product_47 : decode cX9_product 47 = .ok (.iload 4, 2) := qdX9_product_42_17.2.2.2.2.1
theorem dX9_product_49 : decode cX9_product 49 = .ok (.iload 5, 2) := qdX9_product_42_17.2.2.2.2.2.1
theorem dX9_product_51 : decode cX9_product 51 = .ok (.idiv, 1) := qdX9_product_42_17.2.2.2.2.2.2.1
theorem dX9_product_52 : decode cX9_product 52 = .ok (.laload, 1) := qdX9_product_42_17.2.2.2.2.2.2.2.1
theorem dX9_product_53 : decode cX9_product 53 = .ok (.invokevirtual 58, 3) := qdX9_product_42_17.2.2.2.2.2.2.2.2.1
theorem dX9_product_56 : decode cX9_product 56 = .ok (.invokevirtual 62, 3) := qdX9_product_42_17.2.2.2.2.2.2.2.2.2.1
theorem dX9_product_59 : decode cX9_product 59 = .ok (.lastore, 1) := qdX9_product_42_17.2.2.2.2.2.2.2.2.2.2.1
theorem dX9_product_60 : decode cX9_product 60 = .ok (.iinc 5 1, 3) := qdX9_product_42_17.2.2.2.2.2.2.2.2.2.2.2.1
theorem dX9_product_63 : decode cX9_product 63 = .ok (.goto (-45), 3) := qdX9_product_42_17.2.2.2.2.2.2.2.2.2.2.2.2.1
theorem dX9_product_66 : decode cX9_product 66 = .ok (.iinc 4 1, 3) := qdX9_product_42_17.2.2.2.2.2.2.2.2.2.2.2.2.2.1
theorem dX9_product_69 : decode cX9_product 69 = .ok (.goto (-61), 3) := qdX9_product_42_17.2.2.2.2.2.2.2.2.2.2.2.2.2.2.1
theorem dX9_product_72 : decode cX9_product 72 = .ok (.aload_n 3, 1) := qdX9_product_42_17.2.2.2.2.2.2.2.2.2.2.2.2.2.2.2.1
theorem dX9_product_73 : decode cX9_product 73 = .ok (.areturn, 1) := qdX9_product_42_17.2.2.2.2.2.2.2.2.2.2.2.2.2.2.2.2.1
theorem ggX9_inverse_X9_times : GoodIn wsX9_inverse wsX9_times := fun w h => ⟨List.mem_cons_of_mem _ (List.mem_append_left _ (List.mem_append_right _ h)), zq_X9_times w h⟩
set_option maxRecDepth 20000 in
theorem gX9_inverse_X9_times : GoodIn wsX9_inverse (wsV RX9 58 RX9 yX9_times wsX9_times) := goodIn_app (goodIn_r _ [2, 3, 4, 5] rfl rfl) ggX9_inverse_X9_times
theorem ggX9_inverse_X9_plus : GoodIn wsX9_inverse wsX9_plus := fun w h => ⟨List.mem_cons_of_mem _ (List.mem_append_right _ h), zq_X9_plus w h⟩
set_option maxRecDepth 20000 in
theorem gX9_inverse_X9_plus : GoodIn wsX9_inverse (wsV RX9 62 RX9 yX9_plus wsX9_plus) := goodIn_app (goodIn_r _ [6, 7, 8, 5] rfl rfl) ggX9_inverse_X9_plus
theorem qdX9_inverse_0_24 : dcAll cX9_inverse [(0, .bipush 121, 2), (2, .newarray .long, 2), (4, .astore_n 2, 1), (5, .aload_n 2, 1), (6, .iconst 1, 1), (7, .aload_n 1, 1), (8, .iconst 1, 1), (9, .laload, 1), (10, .lastore, 1), (11, .iconst 2, 1), (12, .istore_n 3, 1), (13, .iload_n 3, 1), (14, .bipush 120, 2), (16, .if_icmp .gt 69, 3), (19, .lconst 0, 1), (20, .lstore 4, 2), (22, .iconst 2, 1), (23, .istore 6, 2), (25, .iload 6, 2), (27, .iload_n 3, 1), (28, .if_icmp .gt 38, 3), (31, .iload_n 3, 1), (32, .iload 6, 2), (34, .irem, 1)] := dcAll_of (by decide +kernel)
theorem dX9_inverse_0 : decode cX9_inverse 0 = .ok (.bipush 121, 2) := qdX9_inverse_0_24.1
theorem dX9_inverse_2 : decode cX9_inverse 2 = .ok (.newarray .long, 2) := qdX9_inverse_0_24.2.1
theorem dX9_inverse_4 : decode cX9_inverse 4 = .ok (.astore_n 2, 1) := qdX9_inverse_0_24.2.2.1
theorem dX9_inverse_5 : decode cX9_inverse 5 = .ok (.aload_n 2, 1) := qdX9_inverse_0_24.2.2.2.1
theorem dX9_inverse_6 : decode cX9_inverse 6 = .ok (.iconst 1, 1) := qdX9_inverse_0_24.2.2.2.2.1
theorem dX9_inverse_7 : decode cX9_inverse 7 = .ok (.aload_n 1, 1) := qdX9_inverse_0_24.2.2.2.2.2.1
theorem dX9_inverse_8 : decode cX9_inverse 8 = .ok (.iconst 1, 1) := qdX9_inverse_0_24.2.2.2.2.2.2.1
theorem dX9_inverse_9 : decode cX9_inverse 9 = .ok (.laload, 1) := qdX9_inverse_0_24.2.2.2.2.2.2.2.1
theorem dX9_inverse_10 : decode cX9_inverse 10 = .ok (.lastore, 1) := qdX9_inverse_0_24.2.2.2.2.2.2.2.2.1
theorem dX9_inverse_11 : decode cX9_inverse 11 = .ok (.iconst 2, 1) := qdX9_inverse_0_24.2.2.2.2.2.2.2.2.2.1
theorem dX9_inverse_12 : decode cX9_inverse 12 = .ok (.istore_n 3, 1) := qdX9_inverse_0_24.2.2.2.2.2.2.2.2.2.2.1
theorem dX9_inverse_13 : decode cX9_inverse 13 = .ok (.iload_n 3, 1) := qdX9_inverse_0_24.2.2.2.2.2.2.2.2.2.2.2.1
theorem dX9_inverse_14 : decode cX9_inverse 14 = .ok (.bipush 120, 2) := qdX9_inverse_0_24.2.2.2.2.2.2.2.2.2.2.2.2.1
theorem dX9_inverse_16 : decode cX9_inverse 16 = .ok (.if_icmp .gt 69, 3) := qdX9_inverse_0_24.2.2.2.2.2.2.2.2.2.2.2.2.2.1
theorem dX9_inverse_19 : decode cX9_inverse 19 = .ok (.lconst 0, 1) := qdX9_inverse_0_24.2.2.2.2.2.2.2.2.2.2.2.2.2.2.1
theorem dX9_inverse_20 : decode cX9_inverse 20 = .ok (.lstore 4, 2) := qdX9_inverse_0_24.2.2.2.2.2.2.2.2.2.2.2.2.2.2.2.1
theorem dX9_inverse_22 : decode cX9_inverse 22 = .ok (.iconst 2, 1) := qdX9_inverse_0_24.2.2.2.2.2.2.2.2.2.2.2.2.2.2.2.2.1
theorem dX9_inverse_23 : decode cX9_inverse 23 = .ok (.istore 6, 2) := qdX9_inverse_0_24.2.2.2.2.2.2.2.2.2.2.2.2.2.2.2.2.2.1
theorem dX9_inverse_25 : decode cX9_inverse 25 = .ok (.iload 6, 2) := qdX9_inverse_0_24.2.2.2.2.2.2.2.2.2.2.2.2.2.2.2.2.2.2.1
theorem dX9_inverse_27 : decode cX9_inverse 27 = .ok (.iload_n 3, 1) := qdX9_inverse_0_24.2.2.2.2.2.2.2.2.2.2.2.2.2.2.2.2.2.2.2.1
theorem dX9_inverse_28 : decode cX9_inverse 28 = .ok (.if_icmp .gt 38, 3) := qdX9_inverse_0_24.2.2.2.2.2.2.2.2.2.2.2.2.2.2.2.2.2.2.2.2.1
theorem dX9_inverse_31 : decode cX9_inverse 31 = .ok (.iload_n 3, 1) := qdX9_inverse_0_24.2.2.2.2.2.2.2.2.2.2.2.2.2.2.2.2.2.2.2.2.2.1
theorem dX9_inverse_32 : decode cX9_inverse 32 = .ok (.iload 6, 2) := qdX9_inverse_0_24.2.2.2.2.2.2.2.2.2.2.2.2.2.2.2.2.2.2.2.2.2.2.1
theorem dX9_inverse_34 : decode cX9_inverse 34 = .ok (.irem, 1) := qdX9_inverse_0_24.2.2.2.2.2.2.2.2.2.2.2.2.2.2.2.2.2.2.2.2.2.2.2.1
theorem qdX9_inverse_35_24 : dcAll cX9_inverse [(35, .ifCond .ne 25, 3), (38, .aload_n 0, 1), (39, .lload 4, 2), (41, .aload_n 0, 1), (42, .aload_n 1, 1), (43, .iload 6, 2), (45, .laload, 1), (46, .aload_n 2, 1), (47, .iload_n 3, 1), (48, .iload 6, 2), (50, .idiv, 1), (51, .laload, 1), (52, .invokevirtual 58, 3), (55, .invokevirtual 62, 3), (58, .lstore 4, 2), (60, .iinc 6 1, 3), (63, .goto (-38), 3), (66, .aload_n 2, 1), (67, .iload_n 3, 1), (68, .aload_n 0, 1), (69, .lload 4, 2), (71, .aload_n 1, 1), (72, .iconst 1, 1), (73, .laload, 1)] := dcAll_of (by decide +kernel)
theorem dX9_inverse_35 : decode cX9_inverse 35 = .ok (.ifCond .ne 25, 3) := qdX9_inverse_35_24.1
theorem dX9_inverse_38 : decode cX9_inverse 38 = .ok (.aload_n 0, 1) := qdX9_inverse_35_24.2.1
theorem dX9_inverse_39 : decode cX9_inverse 39 = .ok (.lload 4, 2) := qdX9_inverse_35_24.2.2.1
theorem dX9_inverse_41 : decode cX9_inverse 41 = .ok (.aload_n 0, 1) := qdX9_inverse_35_24.2.2.2.1
theorem dX9_inverse_42 : decode cX9_inverse 42 = .ok (.aload_n 1, 1) := qdX9_inverse_35_24.2.2.2.2.1
theorem dX9_inverse_43 : decode cX9_inverse 43 = .ok (.iload 6, 2) := qdX9_inverse_35_24.2.2.2.2.2.1
theorem dX9_inverse_45 : decode cX9_inverse 45 = .ok (.laload, 1) := qdX9_inverse_35_24.2.2.2.2.2.2.1
theorem dX9_inverse_46 : decode cX9_inverse 46 = .ok (.aload_n 2, 1) := qdX9_inverse_35_24.2.2.2.2.2.2.2.1
theorem dX9_inverse_47 : decode cX9_inverse 47 = .ok (.iload_n 3, 1) := qdX9_inverse_35_24.2.2.2.2.2.2.2.2.1
theorem dX9_inverse_48 : decode cX9_inverse 48 = .ok (.iload 6, 2) := qdX9_inverse_35_24.2.2.2.2.2.2.2.2.2.1
theorem dX9_inverse_50 : decode cX9_inverse 50 = .ok (.idiv, 1) := qdX9_inverse_35_24.2.2.2.2.2.2.2.2.2.2.1
theorem dX9_inverse_51 : decode cX9_inverse 51 = .ok (.laload, 1) := qdX9_inverse_35_24.2.2.2.2.2.2.2.2.2.2.2.1
theorem dX9_inverse_52 : decode cX9_inverse 52 = .ok (.invokevirtual 58, 3) := qdX9_inverse_35_24.2.2.2.2.2.2.2.2.2.2.2.2.1
theorem dX9_inverse_55 : decode cX9_inverse 55 = .ok (.invokevirtual 62, 3) := qdX9_inverse_35_24.2.2.2.2.2.2.2.2.2.2.2.2.2.1
theorem dX9_inverse_58 : decode cX9_inverse 58 = .ok (.lstore 4, 2) := qdX9_inverse_35_24.2.2.2.2.2.2.2.2.2.2.2.2.2.2.1
theorem dX9_inverse_60 : decode cX9_inverse 60 = .ok (.iinc 6 1, 3) := qdX9_inverse_35_24.2.2.2.2.2.2.2.2.2.2.2.2.2.2.2.1
theorem dX9_inverse_63 : decode cX9_inverse 63 = .ok (.goto (-38), 3) := qdX9_inverse_35_24.2.2.2.2.2.2.2.2.2.2.2.2.2.2.2.2.1
theorem dX9_inverse_66 : decode cX9_inverse 66 = .ok (.aload_n 2, 1) := qdX9_inverse_35_24.2.2.2.2.2.2.2.2.2.2.2.2.2.2.2.2.2.1
theorem dX9_inverse_67 : decode cX9_inverse 67 = .ok (.iload_n 3, 1) := qdX9_inverse_35_24.2.2.2.2.2.2.2.2.2.2.2.2.2.2.2.2.2.2.1
theorem dX9_inverse_68 : decode cX9_inverse 68 = .ok (.aload_n 0, 1) := qdX9_inverse_35_24.2.2.2.2.2.2.2.2.2.2.2.2.2.2.2.2.2.2.2.1
theorem dX9_inverse_69 : decode cX9_inverse 69 = .ok (.lload 4, 2) := qdX9_inverse_35_24.2.2.2.2.2.2.2.2.2.2.2.2.2.2.2.2.2.2.2.2.1
theorem dX9_inverse_71 : decode cX9_inverse 71 = .ok (.aload_n 1, 1) := qdX9_inverse_35_24.2.2.2.2.2.2.2.2.2.2.2.2.2.2.2.2.2.2.2.2.2.1
theorem dX9_inverse_72 : decode cX9_inverse 72 = .ok (.iconst 1, 1) := qdX9_inverse_35_24.2.2.2.2.2.2.2.2.2.2.2.2.2.2.2.2.2.2.2.2.2.2.1
theorem dX9_inverse_73 : decode cX9_inverse 73 = .ok (.laload, 1) := qdX9_inverse_35_24.2.2.2.2.2.2.2.2.2.2.2.2.2.2.2.2.2.2.2.2.2.2.2.1
theorem qdX9_inverse_74_7 : dcAll cX9_inverse [(74, .lneg, 1), (75, .invokevirtual 58, 3), (78, .lastore, 1), (79, .iinc 3 1, 3), (82, .goto (-69), 3), (85, .aload_n 2, 1), (86, .areturn, 1)] := dcAll_of (by decide +kernel)
theorem dX9_inverse_74 : decode cX9_inverse 74 = .ok (.lneg, 1) := qdX9_inverse_74_7.1
theorem dX9_inverse_75 : decode cX9_inverse 75 = .ok (.invokevirtual 58, 3) := qdX9_inverse_74_7.2.1
theorem dX9_inverse_78 : decode cX9_inverse 78 = .ok (.lastore, 1) := qdX9_inverse_74_7.2.2.1
theorem dX9_inverse_79 : decode cX9_inverse 79 = .ok (.iinc 3 1, 3) := qdX9_inverse_74_7.2.2.2.1
theorem dX9_inverse_82 : decode cX9_inverse 82 = .ok (.goto (-69), 3) := qdX9_inverse_74_7.2.2.2.2.1
theorem dX9_inverse_85 : decode cX9_inverse 85 = .ok (.aload_n 2, 1) := qdX9_inverse_74_7.2.2.2.2.2.1
theorem dX9_inverse_86 : decode cX9_inverse 86 = .ok (.areturn, 1) := qdX9_inverse_74_7.2.2.2.2.2.2.1
theorem ggX9_byPrimes_X9_least : GoodIn wsX9_byPrimes wsX9_least := fun w h => ⟨List.mem_cons_of_mem _ (List.mem_append_left _ (List.mem_append_left _ (List.mem_append_right _ h))), zq_X9_least w h⟩
set_option maxRecDepth 20000 in
theorem gX9_byPrimes_X9_least : GoodIn wsX9_byPrimes (va_wsS RX9 23 yX9_least wsX9_least) := goodIn_app (goodIn_r _ [2, 3, 4] rfl rfl) ggX9_byPrimes_X9_least
theorem ggX9_byPrimes_X9_without : GoodIn wsX9_byPrimes wsX9_without := fun w h => ⟨List.mem_cons_of_mem _ (List.mem_append_left _ (List.mem_append_right _ h)), zq_X9_without w h⟩
set_option maxRecDepth 20000 in
theorem gX9_byPrimes_X9_without : GoodIn wsX9_byPrimes (va_wsS RX9 65 yX9_without wsX9_without) := goodIn_app (goodIn_r _ [5, 6, 4] rfl rfl) ggX9_byPrimes_X9_without
theorem ggX9_byPrimes_X9_times : GoodIn wsX9_byPrimes wsX9_times := fun w h => ⟨List.mem_cons_of_mem _ (List.mem_append_right _ h), zq_X9_times w h⟩
set_option maxRecDepth 20000 in
theorem gX9_byPrimes_X9_times : GoodIn wsX9_byPrimes (wsV RX9 58 RX9 yX9_times wsX9_times) := goodIn_app (goodIn_r _ [7, 8, 9, 4] rfl rfl) ggX9_byPrimes_X9_times
theorem qdX9_byPrimes_0_24 : dcAll cX9_byPrimes [(0, .bipush 121, 2), (2, .newarray .long, 2), (4, .astore_n 2, 1), (5, .iconst 1, 1), (6, .istore_n 3, 1), (7, .iload_n 3, 1), (8, .bipush 120, 2), (10, .if_icmp .gt 62, 3), (13, .aload_n 2, 1), (14, .iload_n 3, 1), (15, .lconst 1, 1), (16, .lastore, 1), (17, .iload_n 3, 1), (18, .istore 4, 2), (20, .iload 4, 2), (22, .iconst 1, 1), (23, .if_icmp .le 43, 3), (26, .aload_n 2, 1), (27, .iload_n 3, 1), (28, .aload_n 0, 1), (29, .aload_n 2, 1), (30, .iload_n 3, 1), (31, .laload, 1), (32, .aload_n 1, 1)] := dcAll_of (by decide +kernel)
theorem dX9_byPrimes_0 : decode cX9_byPrimes 0 = .ok (.bipush 121, 2) := qdX9_byPrimes_0_24.1
theorem dX9_byPrimes_2 : decode cX9_byPrimes 2 = .ok (.newarray .long, 2) := qdX9_byPrimes_0_24.2.1
theorem dX9_byPrimes_4 : decode cX9_byPrimes 4 = .ok (.astore_n 2, 1) := qdX9_byPrimes_0_24.2.2.1
theorem dX9_byPrimes_5 : decode cX9_byPrimes 5 = .ok (.iconst 1, 1) := qdX9_byPrimes_0_24.2.2.2.1
theorem dX9_byPrimes_6 : decode cX9_byPrimes 6 = .ok (.istore_n 3, 1) := qdX9_byPrimes_0_24.2.2.2.2.1
theorem dX9_byPrimes_7 : decode cX9_byPrimes 7 = .ok (.iload_n 3, 1) := qdX9_byPrimes_0_24.2.2.2.2.2.1
theorem dX9_byPrimes_8 : decode cX9_byPrimes 8 = .ok (.bipush 120, 2) := qdX9_byPrimes_0_24.2.2.2.2.2.2.1
theorem dX9_byPrimes_10 : decode cX9_byPrimes 10 = .ok (.if_icmp .gt 62, 3) := qdX9_byPrimes_0_24.2.2.2.2.2.2.2.1
theorem dX9_byPrimes_13 : decode cX9_byPrimes 13 = .ok (.aload_n 2, 1) := qdX9_byPrimes_0_24.2.2.2.2.2.2.2.2.1
theorem dX9_byPrimes_14 : decode cX9_byPrimes 14 = .ok (.iload_n 3, 1) := qdX9_byPrimes_0_24.2.2.2.2.2.2.2.2.2.1
theorem dX9_byPrimes_15 : decode cX9_byPrimes 15 = .ok (.lconst 1, 1) := qdX9_byPrimes_0_24.2.2.2.2.2.2.2.2.2.2.1
theorem dX9_byPrimes_16 : decode cX9_byPrimes 16 = .ok (.lastore, 1) := qdX9_byPrimes_0_24.2.2.2.2.2.2.2.2.2.2.2.1
theorem dX9_byPrimes_17 : decode cX9_byPrimes 17 = .ok (.iload_n 3, 1) := qdX9_byPrimes_0_24.2.2.2.2.2.2.2.2.2.2.2.2.1
theorem dX9_byPrimes_18 : decode cX9_byPrimes 18 = .ok (.istore 4, 2) := qdX9_byPrimes_0_24.2.2.2.2.2.2.2.2.2.2.2.2.2.1
theorem dX9_byPrimes_20 : decode cX9_byPrimes 20 = .ok (.iload 4, 2) := qdX9_byPrimes_0_24.2.2.2.2.2.2.2.2.2.2.2.2.2.2.1
theorem dX9_byPrimes_22 : decode cX9_byPrimes 22 = .ok (.iconst 1, 1) := qdX9_byPrimes_0_24.2.2.2.2.2.2.2.2.2.2.2.2.2.2.2.1
theorem dX9_byPrimes_23 : decode cX9_byPrimes 23 = .ok (.if_icmp .le 43, 3) := qdX9_byPrimes_0_24.2.2.2.2.2.2.2.2.2.2.2.2.2.2.2.2.1
theorem dX9_byPrimes_26 : decode cX9_byPrimes 26 = .ok (.aload_n 2, 1) := qdX9_byPrimes_0_24.2.2.2.2.2.2.2.2.2.2.2.2.2.2.2.2.2.1
theorem dX9_byPrimes_27 : decode cX9_byPrimes 27 = .ok (.iload_n 3, 1) := qdX9_byPrimes_0_24.2.2.2.2.2.2.2.2.2.2.2.2.2.2.2.2.2.2.1
theorem dX9_byPrimes_28 : decode cX9_byPrimes 28 = .ok (.aload_n 0, 1) := qdX9_byPrimes_0_24.2.2.2.2.2.2.2.2.2.2.2.2.2.2.2.2.2.2.2.1
theorem dX9_byPrimes_29 : decode cX9_byPrimes 29 = .ok (.aload_n 2, 1) := qdX9_byPrimes_0_24.2.2.2.2.2.2.2.2.2.2.2.2.2.2.2.2.2.2.2.2.1
theorem dX9_byPrimes_30 : decode cX9_byPrimes 30 = .ok (.iload_n 3, 1) := qdX9_byPrimes_0_24.2.2.2.2.2.2.2.2.2.2.2.2.2.2.2.2.2.2.2.2.2.1
theorem dX9_byPrimes_31 : decode cX9_byPrimes 31 = .ok (.laload, 1) := qdX9_byPrimes_0_24.2.2.2.2.2.2.2.2.2.2.2.2.2.2.2.2.2.2.2.2.2.2.1
theorem dX9_byPrimes_32 : decode cX9_byPrimes 32 = .ok (.aload_n 1, 1) := qdX9_byPrimes_0_24.2.2.2.2.2.2.2.2.2.2.2.2.2.2.2.2.2.2.2.2.2.2.2.1
theorem qdX9_byPrimes_33_19 : dcAll cX9_byPrimes [(33, .iload 4, 2), (35, .iload 4, 2), (37, .iload 4, 2), (39, .invokestatic 23, 3), (42, .invokestatic 65, 3), (45, .idiv, 1), (46, .laload, 1), (47, .invokevirtual 58, 3), (50, .lastore, 1), (51, .iload 4, 2), (53, .iload 4, 2), (55, .invokestatic 23, 3), (58, .invokestatic 65, 3), (61, .istore 4, 2), (63, .goto (-43), 3), (66, .iinc 3 1, 3), (69, .goto (-62), 3), (72, .aload_n 2, 1), (73, .areturn, 1)] := dcAll_of (by decide +kernel)
theorem dX9_byPrimes_33 : decode cX9_byPrimes 33 = .ok (.iload 4, 2) := qdX9_byPrimes_33_19.1
theorem dX9_byPrimes_35 : decode cX9_byPrimes 35 = .ok (.iload 4, 2) := qdX9_byPrimes_33_19.2.1
theorem dX9_byPrimes_37 : decode cX9_byPrimes 37 = .ok (.iload 4, 2) := qdX9_byPrimes_33_19.2.2.1
theorem dX9_byPrimes_39 : decode cX9_byPrimes 39 = .ok (.invokestatic 23, 3) := qdX9_byPrimes_33_19.2.2.2.1
theorem dX9_byPrimes_42 : decode cX9_byPrimes 42 = .ok (.invokestatic 65, 3) := qdX9_byPrimes_33_19.2.2.2.2.1
theorem dX9_byPrimes_45 : decode cX9_byPrimes 45 = .ok (.idiv, 1) := qdX9_byPrimes_33_19.2.2.2.2.2.1
theorem dX9_byPrimes_46 : decode cX9_byPrimes 46 = .ok (.laload, 1) := qdX9_byPrimes_33_19.2.2.2.2.2.2.1
theorem dX9_byPrimes_47 : decode cX9_byPrimes 47 = .ok (.invokevirtual 58, 3) := qdX9_byPrimes_33_19.2.2.2.2.2.2.2.1
theorem dX9_byPrimes_50 : decode cX9_byPrimes 50 = .ok (.lastore, 1) := qdX9_byPrimes_33_19.2.2.2.2.2.2.2.2.1
theorem dX9_byPrimes_51 : decode cX9_byPrimes 51 = .ok (.iload 4, 2) := qdX9_byPrimes_33_19.2.2.2.2.2.2.2.2.2.1
theorem dX9_byPrimes_53 : decode cX9_byPrimes 53 = .ok (.iload 4, 2) := qdX9_byPrimes_33_19.2.2.2.2.2.2.2.2.2.2.1
theorem dX9_byPrimes_55 : decode cX9_byPrimes 55 = .ok (.invokestatic 23, 3) := qdX9_byPrimes_33_19.2.2.2.2.2.2.2.2.2.2.2.1
theorem dX9_byPrimes_58 : decode cX9_byPrimes 58 = .ok (.invokestatic 65, 3) := qdX9_byPrimes_33_19.2.2.2.2.2.2.2.2.2.2.2.2.1
theorem dX9_byPrimes_61 : decode cX9_byPrimes 61 = .ok (.istore 4, 2) := qdX9_byPrimes_33_19.2.2.2.2.2.2.2.2.2.2.2.2.2.1
theorem dX9_byPrimes_63 : decode cX9_byPrimes 63 = .ok (.goto (-43), 3) := qdX9_byPrimes_33_19.2.2.2.2.2.2.2.2.2.2.2.2.2.2.1
theorem dX9_byPrimes_66 : decode cX9_byPrimes 66 = .ok (.iinc 3 1, 3) := qdX9_byPrimes_33_19.2.2.2.2.2.2.2.2.2.2.2.2.2.2.2.1
theorem dX9_byPrimes_69 : decode cX9_byPrimes 69 = .ok (.goto (-62), 3) := qdX9_byPrimes_33_19.2.2.2.2.2.2.2.2.2.2.2.2.2.2.2.2.1
theorem dX9_byPrimes_72 : decode cX9_byPrimes 72 = .ok (.aload_n 2, 1) := qdX9_byPrimes_33_19.2.2.2.2.2.2.2.2.2.2.2.2.2.2.2.2.2.1
theorem dX9_byPrimes_73 : decode cX9_byPrimes 73 = .ok (.areturn, 1) := qdX9_byPrimes_33_19.2.2.2.2.2.2.2.2.2.2.2.2.2.2.2.2.2.2.1
theorem ggX9_made_X9_inverse : GoodIn wsX9_made wsX9_inverse := fun w h => ⟨List.mem_cons_of_mem _ (List.mem_append_left _ (List.mem_append_left _ (List.mem_append_left _ (List.mem_append_left _ (List.mem_append_right _ h))))), zq_X9_inverse w h⟩
set_option maxRecDepth 20000 in
theorem gX9_made_X9_inverse : GoodIn wsX9_made (wsV RX9 68 RX9 yX9_inverse wsX9_inverse) := goodIn_app (goodIn_r _ [1, 2, 3, 4] rfl rfl) ggX9_made_X9_inverse
theorem ggX9_made_X9_byPrimes : GoodIn wsX9_made wsX9_byPrimes := fun w h => ⟨List.mem_cons_of_mem _ (List.mem_append_left _ (List.mem_append_left _ (List.mem_append_left _ (List.mem_append_right _ h)))), zq_X9_byPrimes w h⟩
set_option maxRecDepth 20000 in
theorem gX9_made_X9_byPrimes : GoodIn wsX9_made (wsV RX9 72 RX9 yX9_byPrimes wsX9_byPrimes) := goodIn_app (goodIn_r _ [11, 12, 13, 4] rfl rfl) ggX9_made_X9_byPrimes
theorem ggX9_made_X9_times : GoodIn wsX9_made wsX9_times := fun w h => ⟨List.mem_cons_of_mem _ (List.mem_append_left _ (List.mem_append_left _ (List.mem_append_right _ h))), zq_X9_times w h⟩
set_option maxRecDepth 20000 in
theorem gX9_made_X9_times : GoodIn wsX9_made (wsV RX9 58 RX9 yX9_times wsX9_times) := goodIn_app (goodIn_r _ [5, 6, 7, 4] rfl rfl) ggX9_made_X9_times
theorem ggX9_made_X9_signOf : GoodIn wsX9_made wsX9_signOf := fun w h => ⟨List.mem_cons_of_mem _ (List.mem_append_left _ (List.mem_append_right _ h)), zq_X9_signOf w h⟩
set_option maxRecDepth 20000 in
theorem gX9_made_X9_signOf : GoodIn wsX9_made (va_wsS RX9 46 yX9_signOf wsX9_signOf) := goodIn_app (goodIn_r _ [14, 15, 4] rfl rfl) ggX9_made_X9_signOf
theorem ggX9_made_X9_plus : GoodIn wsX9_made wsX9_plus := fun w h => ⟨List.mem_cons_of_mem _ (List.mem_append_right _ h), zq_X9_plus w h⟩
set_option maxRecDepth 20000 in
theorem gX9_made_X9_plus : GoodIn wsX9_made (wsV RX9 62 RX9 yX9_plus wsX9_plus) := goodIn_app (goodIn_r _ [8, 9, 10, 4] rfl rfl) ggX9_made_X9_plus
theorem qdX9_made_0_24 : dcAll cX9_made [(0, .iload_n 2, 1), (1, .ifCond .ne 9, 3), (4, .aload_n 0, 1), (5, .aload_n 1, 1), (6, .invokevirtual 68, 3), (9, .areturn, 1), (10, .iload_n 2, 1), (11, .iconst 3, 1), (12, .if_icmp .ne 9, 3), (15, .aload_n 0, 1), (16, .aload_n 1, 1), (17, .invokevirtual 72, 3), (20, .areturn, 1), (21, .bipush 121, 2), (23, .newarray .long, 2), (25, .astore_n 3, 1), (26, .iconst 1, 1), (27, .istore 4, 2), (29, .iload 4, 2), (31, .bipush 120, 2), (33, .if_icmp .gt 110, 3), (36, .iload_n 2, 1), (37, .iconst 3, 1), (38, .if_icmp .le 29, 3)] := dcAll_of (by decide +kernel)
theorem dX9_made_0 : decode cX9_made 0 = .ok (.iload_n 2, 1) := qdX9_made_0_24.1
theorem dX9_made_1 : decode cX9_made 1 = .ok (.ifCond .ne 9, 3) := qdX9_made_0_24.2.1
theorem dX9_made_4 : decode cX9_made 4 = .ok (.aload_n 0, 1) := qdX9_made_0_24.2.2.1
theorem dX9_made_5 : decode cX9_made 5 = .ok (.aload_n 1, 1) := qdX9_made_0_24.2.2.2.1
theorem dX9_made_6 : decode cX9_made 6 = .ok (.invokevirtual 68, 3) := qdX9_made_0_24.2.2.2.2.1
theorem dX9_made_9 : decode cX9_made 9 = .ok (.areturn, 1) := qdX9_made_0_24.2.2.2.2.2.1
theorem dX9_made_10 : decode cX9_made 10 = .ok (.iload_n 2, 1) := qdX9_made_0_24.2.2.2.2.2.2.1
theorem dX9_made_11 : decode cX9_made 11 = .ok (.iconst 3, 1) := qdX9_made_0_24.2.2.2.2.2.2.2.1
theorem dX9_made_12 : decode cX9_made 12 = .ok (.if_icmp .ne 9, 3) := qdX9_made_0_24.2.2.2.2.2.2.2.2.1
theorem dX9_made_15 : decode cX9_made 15 = .ok (.aload_n 0, 1) := qdX9_made_0_24.2.2.2.2.2.2.2.2.2.1
theorem dX9_made_16 : decode cX9_made 16 = .ok (.aload_n 1, 1) := qdX9_made_0_24.2.2.2.2.2.2.2.2.2.2.1
theorem dX9_made_17 : decode cX9_made 17 = .ok (.invokevirtual 72, 3) := qdX9_made_0_24.2.2.2.2.2.2.2.2.2.2.2.1
theorem dX9_made_20 : decode cX9_made 20 = .ok (.areturn, 1) := qdX9_made_0_24.2.2.2.2.2.2.2.2.2.2.2.2.1
theorem dX9_made_21 : decode cX9_made 21 = .ok (.bipush 121, 2) := qdX9_made_0_24.2.2.2.2.2.2.2.2.2.2.2.2.2.1
theorem dX9_made_23 : decode cX9_made 23 = .ok (.newarray .long, 2) := qdX9_made_0_24.2.2.2.2.2.2.2.2.2.2.2.2.2.2.1
theorem dX9_made_25 : decode cX9_made 25 = .ok (.astore_n 3, 1) := qdX9_made_0_24.2.2.2.2.2.2.2.2.2.2.2.2.2.2.2.1
theorem dX9_made_26 : decode cX9_made 26 = .ok (.iconst 1, 1) := qdX9_made_0_24.2.2.2.2.2.2.2.2.2.2.2.2.2.2.2.2.1
theorem dX9_made_27 : decode cX9_made 27 = .ok (.istore 4, 2) := qdX9_made_0_24.2.2.2.2.2.2.2.2.2.2.2.2.2.2.2.2.2.1
theorem dX9_made_29 : decode cX9_made 29 = .ok (.iload 4, 2) := qdX9_made_0_24.2.2.2.2.2.2.2.2.2.2.2.2.2.2.2.2.2.2.1
theorem dX9_made_31 : decode cX9_made 31 = .ok (.bipush 120, 2) := qdX9_made_0_24.2.2.2.2.2.2.2.2.2.2.2.2.2.2.2.2.2.2.2.1
theorem dX9_made_33 : decode cX9_made 33 = .ok (.if_icmp .gt 110, 3) := qdX9_made_0_24.2.2.2.2.2.2.2.2.2.2.2.2.2.2.2.2.2.2.2.2.1
theorem dX9_made_36 : decode cX9_made 36 = .ok (.iload_n 2, 1) := qdX9_made_0_24.2.2.2.2.2.2.2.2.2.2.2.2.2.2.2.2.2.2.2.2.2.1
theorem dX9_made_37 : decode cX9_made 37 = .ok (.iconst 3, 1) := qdX9_made_0_24.2.2.2.2.2.2.2.2.2.2.2.2.2.2.2.2.2.2.2.2.2.2.1
theorem dX9_made_38 : decode cX9_made 38 = .ok (.if_icmp .le 29, 3) := qdX9_made_0_24.2.2.2.2.2.2.2.2.2.2.2.2.2.2.2.2.2.2.2.2.2.2.2.1
theorem qdX9_made_41_24 : dcAll cX9_made [(41, .aload_n 3, 1), (42, .iload 4, 2), (44, .aload_n 0, 1), (45, .iload_n 2, 1), (46, .iconst 4, 1), (47, .if_icmp .ne 9, 3), (50, .ldc2_w 40, 3), (53, .goto 6, 3), (56, .iload 4, 2), (58, .i2l, 1), (59, .aload_n 1, 1), (60, .iload 4, 2), (62, .laload, 1), (63, .invokevirtual 58, 3), (66, .lastore, 1), (67, .iconst 1, 1), (68, .istore 5, 2), (70, .iload 5, 2), (72, .iload 4, 2), (74, .if_icmp .gt 63, 3), (77, .iload_n 2, 1), (78, .iconst 3, 1), (79, .if_icmp .ge 58, 3), (82, .iload 4, 2)] := dcAll_of (by decide +kernel)
theorem dX9_made_41 : decode cX9_made 41 = .ok (.aload_n 3, 1) := qdX9_made_41_24.1
theorem dX9_made_42 : decode cX9_made 42 = .ok (.iload 4, 2) := qdX9_made_41_24.2.1
theorem dX9_made_44 : decode cX9_made 44 = .ok (.aload_n 0, 1) := qdX9_made_41_24.2.2.1
theorem dX9_made_45 : decode cX9_made 45 = .ok (.iload_n 2, 1) := qdX9_made_41_24.2.2.2.1
theorem dX9_made_46 : decode cX9_made 46 = .ok (.iconst 4, 1) := qdX9_made_41_24.2.2.2.2.1
theorem dX9_made_47 : decode cX9_made 47 = .ok (.if_icmp .ne 9, 3) := qdX9_made_41_24.2.2.2.2.2.1
theorem dX9_made_50 : decode cX9_made 50 = .ok (.ldc2_w 40, 3) := qdX9_made_41_24.2.2.2.2.2.2.1
theorem dX9_made_53 : decode cX9_made 53 = .ok (.goto 6, 3) := qdX9_made_41_24.2.2.2.2.2.2.2.1
theorem dX9_made_56 : decode cX9_made 56 = .ok (.iload 4, 2) := qdX9_made_41_24.2.2.2.2.2.2.2.2.1
theorem dX9_made_58 : decode cX9_made 58 = .ok (.i2l, 1) := qdX9_made_41_24.2.2.2.2.2.2.2.2.2.1
theorem dX9_made_59 : decode cX9_made 59 = .ok (.aload_n 1, 1) := qdX9_made_41_24.2.2.2.2.2.2.2.2.2.2.1
theorem dX9_made_60 : decode cX9_made 60 = .ok (.iload 4, 2) := qdX9_made_41_24.2.2.2.2.2.2.2.2.2.2.2.1
theorem dX9_made_62 : decode cX9_made 62 = .ok (.laload, 1) := qdX9_made_41_24.2.2.2.2.2.2.2.2.2.2.2.2.1
theorem dX9_made_63 : decode cX9_made 63 = .ok (.invokevirtual 58, 3) := qdX9_made_41_24.2.2.2.2.2.2.2.2.2.2.2.2.2.1
theorem dX9_made_66 : decode cX9_made 66 = .ok (.lastore, 1) := qdX9_made_41_24.2.2.2.2.2.2.2.2.2.2.2.2.2.2.1
theorem dX9_made_67 : decode cX9_made 67 = .ok (.iconst 1, 1) := qdX9_made_41_24.2.2.2.2.2.2.2.2.2.2.2.2.2.2.2.1
theorem dX9_made_68 : decode cX9_made 68 = .ok (.istore 5, 2) := qdX9_made_41_24.2.2.2.2.2.2.2.2.2.2.2.2.2.2.2.2.1
theorem dX9_made_70 : decode cX9_made 70 = .ok (.iload 5, 2) := qdX9_made_41_24.2.2.2.2.2.2.2.2.2.2.2.2.2.2.2.2.2.1
theorem dX9_made_72 : decode cX9_made 72 = .ok (.iload 4, 2) := qdX9_made_41_24.2.2.2.2.2.2.2.2.2.2.2.2.2.2.2.2.2.2.1
theorem dX9_made_74 : decode cX9_made 74 = .ok (.if_icmp .gt 63, 3) := qdX9_made_41_24.2.2.2.2.2.2.2.2.2.2.2.2.2.2.2.2.2.2.2.1
theorem dX9_made_77 : decode cX9_made 77 = .ok (.iload_n 2, 1) := qdX9_made_41_24.2.2.2.2.2.2.2.2.2.2.2.2.2.2.2.2.2.2.2.2.1
theorem dX9_made_78 : decode cX9_made 78 = .ok (.iconst 3, 1) := qdX9_made_41_24.2.2.2.2.2.2.2.2.2.2.2.2.2.2.2.2.2.2.2.2.2.1
theorem dX9_made_79 : decode cX9_made 79 = .ok (.if_icmp .ge 58, 3) := qdX9_made_41_24.2.2.2.2.2.2.2.2.2.2.2.2.2.2.2.2.2.2.2.2.2.2.1
theorem dX9_made_82 : decode cX9_made 82 = .ok (.iload 4, 2) := qdX9_made_41_24.2.2.2.2.2.2.2.2.2.2.2.2.2.2.2.2.2.2.2.2.2.2.2.1
theorem qdX9_made_84_24 : dcAll cX9_made [(84, .iload 5, 2), (86, .irem, 1), (87, .ifCond .ne 44, 3), (90, .aload_n 3, 1), (91, .iload 4, 2), (93, .aload_n 0, 1), (94, .aload_n 3, 1), (95, .iload 4, 2), (97, .laload, 1), (98, .iload_n 2, 1), (99, .iconst 1, 1), (100, .if_icmp .ne 10, 3), (103, .aload_n 1, 1), (104, .iload 5, 2), (106, .laload, 1), (107, .goto 20, 3), (110, .aload_n 0, 1), (111, .iload 5, 2), (113, .invokestatic 46, 3), (116, .i2l, 1), (117, .aload_n 1, 1), (118, .iload 4, 2), (120, .iload 5, 2), (122, .idiv, 1)] := dcAll_of (by decide +kernel)
theorem dX9_made_84 : decode cX9_made 84 = .ok (.iload 5, 2) := qdX9_made_84_24.1
theorem dX9_made_86 : decode cX9_made 86 = .ok (.irem, 1) := qdX9_made_84_24.2.1
theorem dX9_made_87 : decode cX9_made 87 = .ok (.ifCond .ne 44, 3) := qdX9_made_84_24.2.2.1
theorem dX9_made_90 : decode cX9_made 90 = .ok (.aload_n 3, 1) := qdX9_made_84_24.2.2.2.1
theorem dX9_made_91 : decode cX9_made 91 = .ok (.iload 4, 2) := qdX9_made_84_24.2.2.2.2.1
theorem dX9_made_93 : decode cX9_made 93 = .ok (.aload_n 0, 1) := qdX9_made_84_24.2.2.2.2.2.1
theorem dX9_made_94 : decode cX9_made 94 = .ok (.aload_n 3, 1) := qdX9_made_84_24.2.2.2.2.2.2.1
theorem dX9_made_95 : decode cX9_made 95 = .ok (.iload 4, 2) := qdX9_made_84_24.2.2.2.2.2.2.2.1
theorem dX9_made_97 : decode cX9_made 97 = .ok (.laload, 1) := qdX9_made_84_24.2.2.2.2.2.2.2.2.1
theorem dX9_made_98 : decode cX9_made 98 = .ok (.iload_n 2, 1) := qdX9_made_84_24.2.2.2.2.2.2.2.2.2.1
theorem dX9_made_99 : decode cX9_made 99 = .ok (.iconst 1, 1) := qdX9_made_84_24.2.2.2.2.2.2.2.2.2.2.1
theorem dX9_made_100 : decode cX9_made 100 = .ok (.if_icmp .ne 10, 3) := qdX9_made_84_24.2.2.2.2.2.2.2.2.2.2.2.1
theorem dX9_made_103 : decode cX9_made 103 = .ok (.aload_n 1, 1) := qdX9_made_84_24.2.2.2.2.2.2.2.2.2.2.2.2.1
theorem dX9_made_104 : decode cX9_made 104 = .ok (.iload 5, 2) := qdX9_made_84_24.2.2.2.2.2.2.2.2.2.2.2.2.2.1
theorem dX9_made_106 : decode cX9_made 106 = .ok (.laload, 1) := qdX9_made_84_24.2.2.2.2.2.2.2.2.2.2.2.2.2.2.1
theorem dX9_made_107 : decode cX9_made 107 = .ok (.goto 20, 3) := qdX9_made_84_24.2.2.2.2.2.2.2.2.2.2.2.2.2.2.2.1
theorem dX9_made_110 : decode cX9_made 110 = .ok (.aload_n 0, 1) := qdX9_made_84_24.2.2.2.2.2.2.2.2.2.2.2.2.2.2.2.2.1
theorem dX9_made_111 : decode cX9_made 111 = .ok (.iload 5, 2) := qdX9_made_84_24.2.2.2.2.2.2.2.2.2.2.2.2.2.2.2.2.2.1
theorem dX9_made_113 : decode cX9_made 113 = .ok (.invokestatic 46, 3) := qdX9_made_84_24.2.2.2.2.2.2.2.2.2.2.2.2.2.2.2.2.2.2.1
theorem dX9_made_116 : decode cX9_made 116 = .ok (.i2l, 1) := qdX9_made_84_24.2.2.2.2.2.2.2.2.2.2.2.2.2.2.2.2.2.2.2.1
theorem dX9_made_117 : decode cX9_made 117 = .ok (.aload_n 1, 1) := qdX9_made_84_24.2.2.2.2.2.2.2.2.2.2.2.2.2.2.2.2.2.2.2.2.1
theorem dX9_made_118 : decode cX9_made 118 = .ok (.iload 4, 2) := qdX9_made_84_24.2.2.2.2.2.2.2.2.2.2.2.2.2.2.2.2.2.2.2.2.2.1
theorem dX9_made_120 : decode cX9_made 120 = .ok (.iload 5, 2) := qdX9_made_84_24.2.2.2.2.2.2.2.2.2.2.2.2.2.2.2.2.2.2.2.2.2.2.1
theorem dX9_made_122 : decode cX9_made 122 = .ok (.idiv, 1) := qdX9_made_84_24.2.2.2.2.2.2.2.2.2.2.2.2.2.2.2.2.2.2.2.2.2.2.2.1
theorem qdX9_made_123_10 : dcAll cX9_made [(123, .laload, 1), (124, .invokevirtual 58, 3), (127, .invokevirtual 62, 3), (130, .lastore, 1), (131, .iinc 5 1, 3), (134, .goto (-64), 3), (137, .iinc 4 1, 3), (140, .goto (-111), 3), (143, .aload_n 3, 1), (144, .areturn, 1)] := dcAll_of (by decide +kernel)
theorem dX9_made_123 : decode cX9_made 123 = .ok (.laload, 1) := qdX9_made_123_10.1
theorem dX9_made_124 : decode cX9_made 124 = .ok (.invokevirtual 58, 3) := qdX9_made_123_10.2.1
theorem dX9_made_127 : decode cX9_made 127 = .ok (.invokevirtual 62, 3) := qdX9_made_123_10.2.2.1
theorem dX9_made_130 : decode cX9_made 130 = .ok (.lastore, 1) := qdX9_made_123_10.2.2.2.1
theorem dX9_made_131 : decode cX9_made 131 = .ok (.iinc 5 1, 3) := qdX9_made_123_10.2.2.2.2.1
theorem dX9_made_134 : decode cX9_made 134 = .ok (.goto (-64), 3) := qdX9_made_123_10.2.2.2.2.2.1
theorem dX9_made_137 : decode cX9_made 137 = .ok (.iinc 4 1, 3) := qdX9_made_123_10.2.2.2.2.2.2.1
theorem dX9_made_140 : decode cX9_made 140 = .ok (.goto (-111), 3) := qdX9_made_123_10.2.2.2.2.2.2.2.1
theorem dX9_made_143 : decode cX9_made 143 = .ok (.aload_n 3, 1) := qdX9_made_123_10.2.2.2.2.2.2.2.2.1
theorem dX9_made_144 : decode cX9_made 144 = .ok (.areturn, 1) := qdX9_made_123_10.2.2.2.2.2.2.2.2.2.1
theorem qdX9_hasInverse_0_16 : dcAll cX9_hasInverse [(0, .aload_n 1, 1), (1, .iconst 1, 1), (2, .laload, 1), (3, .lconst 1, 1), (4, .lcmp, 1), (5, .ifCond .eq 13, 3), (8, .aload_n 1, 1), (9, .iconst 1, 1), (10, .laload, 1), (11, .ldc2_w 40, 3), (14, .lcmp, 1), (15, .ifCond .ne 7, 3), (18, .iconst 1, 1), (19, .goto 4, 3), (22, .iconst 0, 1), (23, .ireturn, 1)] := dcAll_of (by decide +kernel)
theorem dX9_hasInverse_0 : decode cX9_hasInverse 0 = .ok (.aload_n 1, 1) := qdX9_hasInverse_0_16.1
theorem dX9_hasInverse_1 : decode cX9_hasInverse 1 = .ok (.iconst 1, 1) := qdX9_hasInverse_0_16.2.1
theorem dX9_hasInverse_2 : decode cX9_hasInverse 2 = .ok (.laload, 1) := qdX9_hasInverse_0_16.2.2.1
theorem dX9_hasInverse_3 : decode cX9_hasInverse 3 = .ok (.lconst 1, 1) := qdX9_hasInverse_0_16.2.2.2.1
theorem dX9_hasInverse_4 : decode cX9_hasInverse 4 = .ok (.lcmp, 1) := qdX9_hasInverse_0_16.2.2.2.2.1
theorem dX9_hasInverse_5 : decode cX9_hasInverse 5 = .ok (.ifCond .eq 13, 3) := qdX9_hasInverse_0_16.2.2.2.2.2.1
theorem dX9_hasInverse_8 : decode cX9_hasInverse 8 = .ok (.aload_n 1, 1) := qdX9_hasInverse_0_16.2.2.2.2.2.2.1
theorem dX9_hasInverse_9 : decode cX9_hasInverse 9 = .ok (.iconst 1, 1) := qdX9_hasInverse_0_16.2.2.2.2.2.2.2.1
theorem dX9_hasInverse_10 : decode cX9_hasInverse 10 = .ok (.laload, 1) := qdX9_hasInverse_0_16.2.2.2.2.2.2.2.2.1
theorem dX9_hasInverse_11 : decode cX9_hasInverse 11 = .ok (.ldc2_w 40, 3) := qdX9_hasInverse_0_16.2.2.2.2.2.2.2.2.2.1
theorem dX9_hasInverse_14 : decode cX9_hasInverse 14 = .ok (.lcmp, 1) := qdX9_hasInverse_0_16.2.2.2.2.2.2.2.2.2.2.1
theorem dX9_hasInverse_15 : decode cX9_hasInverse 15 = .ok (.ifCond .ne 7, 3) := qdX9_hasInverse_0_16.2.2.2.2.2.2.2.2.2.2.2.1
theorem dX9_hasInverse_18 : decode cX9_hasInverse 18 = .ok (.iconst 1, 1) := qdX9_hasInverse_0_16.2.2.2.2.2.2.2.2.2.2.2.2.1
theorem dX9_hasInverse_19 : decode cX9_hasInverse 19 = .ok (.goto 4, 3) := qdX9_hasInverse_0_16.2.2.2.2.2.2.2.2.2.2.2.2.2.1
theorem dX9_hasInverse_22 : decode cX9_hasInverse 22 = .ok (.iconst 0, 1) := qdX9_hasInverse_0_16.2.2.2.2.2.2.2.2.2.2.2.2.2.2.1
theorem dX9_hasInverse_23 : decode cX9_hasInverse 23 = .ok (.ireturn, 1) := qdX9_hasInverse_0_16.2.2.2.2.2.2.2.2.2.2.2.2.2.2.2.1
theorem ggX9_isByPrimes_X9_common : GoodIn wsX9_isByPrimes wsX9_common := fun w h => ⟨List.mem_cons_of_mem _ (List.mem_append_left _ (List.mem_append_right _ h)), zq_X9_common w h⟩
set_option maxRecDepth 20000 in
theorem gX9_isByPrimes_X9_common : GoodIn wsX9_isByPrimes (va_wsS RX9 33 yX9_common wsX9_common) := goodIn_app (goodIn_r _ [1, 2, 3] rfl rfl) ggX9_isByPrimes_X9_common
theorem ggX9_isByPrimes_X9_times : GoodIn wsX9_isByPrimes wsX9_times := fun w h => ⟨List.mem_cons_of_mem _ (List.mem_append_right _ h), zq_X9_times w h⟩
set_option maxRecDepth 20000 in
theorem gX9_isByPrimes_X9_times : GoodIn wsX9_isByPrimes (wsV RX9 58 RX9 yX9_times wsX9_times) := goodIn_app (goodIn_r _ [5, 6, 7, 3] rfl rfl) ggX9_isByPrimes_X9_times
theorem qdX9_isByPrimes_0_24 : dcAll cX9_isByPrimes [(0, .aload_n 1, 1), (1, .iconst 1, 1), (2, .laload, 1), (3, .lconst 1, 1), (4, .lcmp, 1), (5, .ifCond .eq 5, 3), (8, .iconst 0, 1), (9, .ireturn, 1), (10, .iconst 1, 1), (11, .istore_n 3, 1), (12, .iload_n 3, 1), (13, .bipush 120, 2), (15, .if_icmp .gt 83, 3), (18, .iconst 1, 1), (19, .istore 4, 2), (21, .iload_n 3, 1), (22, .iload 4, 2), (24, .imul, 1), (25, .bipush 120, 2), (27, .if_icmp .gt 65, 3), (30, .iload_n 2, 1), (31, .ifCond .ne 16, 3), (34, .iload_n 3, 1), (35, .iload 4, 2)] := dcAll_of (by decide +kernel)
theorem dX9_isByPrimes_0 : decode cX9_isByPrimes 0 = .ok (.aload_n 1, 1) := qdX9_isByPrimes_0_24.1
theorem dX9_isByPrimes_1 : decode cX9_isByPrimes 1 = .ok (.iconst 1, 1) := qdX9_isByPrimes_0_24.2.1
theorem dX9_isByPrimes_2 : decode cX9_isByPrimes 2 = .ok (.laload, 1) := qdX9_isByPrimes_0_24.2.2.1
theorem dX9_isByPrimes_3 : decode cX9_isByPrimes 3 = .ok (.lconst 1, 1) := qdX9_isByPrimes_0_24.2.2.2.1
theorem dX9_isByPrimes_4 : decode cX9_isByPrimes 4 = .ok (.lcmp, 1) := qdX9_isByPrimes_0_24.2.2.2.2.1
theorem dX9_isByPrimes_5 : decode cX9_isByPrimes 5 = .ok (.ifCond .eq 5, 3) := qdX9_isByPrimes_0_24.2.2.2.2.2.1
theorem dX9_isByPrimes_8 : decode cX9_isByPrimes 8 = .ok (.iconst 0, 1) := qdX9_isByPrimes_0_24.2.2.2.2.2.2.1
theorem dX9_isByPrimes_9 : decode cX9_isByPrimes 9 = .ok (.ireturn, 1) := qdX9_isByPrimes_0_24.2.2.2.2.2.2.2.1
theorem dX9_isByPrimes_10 : decode cX9_isByPrimes 10 = .ok (.iconst 1, 1) := qdX9_isByPrimes_0_24.2.2.2.2.2.2.2.2.1
theorem dX9_isByPrimes_11 : decode cX9_isByPrimes 11 = .ok (.istore_n 3, 1) := qdX9_isByPrimes_0_24.2.2.2.2.2.2.2.2.2.1
theorem dX9_isByPrimes_12 : decode cX9_isByPrimes 12 = .ok (.iload_n 3, 1) := qdX9_isByPrimes_0_24.2.2.2.2.2.2.2.2.2.2.1
theorem dX9_isByPrimes_13 : decode cX9_isByPrimes 13 = .ok (.bipush 120, 2) := qdX9_isByPrimes_0_24.2.2.2.2.2.2.2.2.2.2.2.1
theorem dX9_isByPrimes_15 : decode cX9_isByPrimes 15 = .ok (.if_icmp .gt 83, 3) := qdX9_isByPrimes_0_24.2.2.2.2.2.2.2.2.2.2.2.2.1
theorem dX9_isByPrimes_18 : decode cX9_isByPrimes 18 = .ok (.iconst 1, 1) := qdX9_isByPrimes_0_24.2.2.2.2.2.2.2.2.2.2.2.2.2.1
theorem dX9_isByPrimes_19 : decode cX9_isByPrimes 19 = .ok (.istore 4, 2) := qdX9_isByPrimes_0_24.2.2.2.2.2.2.2.2.2.2.2.2.2.2.1
theorem dX9_isByPrimes_21 : decode cX9_isByPrimes 21 = .ok (.iload_n 3, 1) := qdX9_isByPrimes_0_24.2.2.2.2.2.2.2.2.2.2.2.2.2.2.2.1
theorem dX9_isByPrimes_22 : decode cX9_isByPrimes 22 = .ok (.iload 4, 2) := qdX9_isByPrimes_0_24.2.2.2.2.2.2.2.2.2.2.2.2.2.2.2.2.1
theorem dX9_isByPrimes_24 : decode cX9_isByPrimes 24 = .ok (.imul, 1) := qdX9_isByPrimes_0_24.2.2.2.2.2.2.2.2.2.2.2.2.2.2.2.2.2.1
theorem dX9_isByPrimes_25 : decode cX9_isByPrimes 25 = .ok (.bipush 120, 2) := qdX9_isByPrimes_0_24.2.2.2.2.2.2.2.2.2.2.2.2.2.2.2.2.2.2.1
theorem dX9_isByPrimes_27 : decode cX9_isByPrimes 27 = .ok (.if_icmp .gt 65, 3) := qdX9_isByPrimes_0_24.2.2.2.2.2.2.2.2.2.2.2.2.2.2.2.2.2.2.2.1
theorem dX9_isByPrimes_30 : decode cX9_isByPrimes 30 = .ok (.iload_n 2, 1) := qdX9_isByPrimes_0_24.2.2.2.2.2.2.2.2.2.2.2.2.2.2.2.2.2.2.2.2.1
theorem dX9_isByPrimes_31 : decode cX9_isByPrimes 31 = .ok (.ifCond .ne 16, 3) := qdX9_isByPrimes_0_24.2.2.2.2.2.2.2.2.2.2.2.2.2.2.2.2.2.2.2.2.2.1
theorem dX9_isByPrimes_34 : decode cX9_isByPrimes 34 = .ok (.iload_n 3, 1) := qdX9_isByPrimes_0_24.2.2.2.2.2.2.2.2.2.2.2.2.2.2.2.2.2.2.2.2.2.2.1
theorem dX9_isByPrimes_35 : decode cX9_isByPrimes 35 = .ok (.iload 4, 2) := qdX9_isByPrimes_0_24.2.2.2.2.2.2.2.2.2.2.2.2.2.2.2.2.2.2.2.2.2.2.2.1
theorem qdX9_isByPrimes_37_24 : dcAll cX9_isByPrimes [(37, .invokestatic 33, 3), (40, .iconst 1, 1), (41, .if_icmp .le 6, 3), (44, .goto 42, 3), (47, .aload_n 0, 1), (48, .iconst 0, 1), (49, .putfield 36, 3), (52, .aload_n 0, 1), (53, .aload_n 1, 1), (54, .iload_n 3, 1), (55, .laload, 1), (56, .aload_n 1, 1), (57, .iload 4, 2), (59, .laload, 1), (60, .invokevirtual 58, 3), (63, .lstore 5, 2), (65, .aload_n 0, 1), (66, .getfield 36, 3), (69, .ifCond .ne 15, 3), (72, .lload 5, 2), (74, .aload_n 1, 1), (75, .iload_n 3, 1), (76, .iload 4, 2), (78, .imul, 1)] := dcAll_of (by decide +kernel)
theorem dX9_isByPrimes_37 : decode cX9_isByPrimes 37 = .ok (.invokestatic 33, 3) := qdX9_isByPrimes_37_24.1
theorem dX9_isByPrimes_40 : decode cX9_isByPrimes 40 = .ok (.iconst 1, 1) := qdX9_isByPrimes_37_24.2.1
theorem dX9_isByPrimes_41 : decode cX9_isByPrimes 41 = .ok (.if_icmp .le 6, 3) := qdX9_isByPrimes_37_24.2.2.1
theorem dX9_isByPrimes_44 : decode cX9_isByPrimes 44 = .ok (.goto 42, 3) := qdX9_isByPrimes_37_24.2.2.2.1
theorem dX9_isByPrimes_47 : decode cX9_isByPrimes 47 = .ok (.aload_n 0, 1) := qdX9_isByPrimes_37_24.2.2.2.2.1
theorem dX9_isByPrimes_48 : decode cX9_isByPrimes 48 = .ok (.iconst 0, 1) := qdX9_isByPrimes_37_24.2.2.2.2.2.1
theorem dX9_isByPrimes_49 : decode cX9_isByPrimes 49 = .ok (.putfield 36, 3) := qdX9_isByPrimes_37_24.2.2.2.2.2.2.1
theorem dX9_isByPrimes_52 : decode cX9_isByPrimes 52 = .ok (.aload_n 0, 1) := qdX9_isByPrimes_37_24.2.2.2.2.2.2.2.1
theorem dX9_isByPrimes_53 : decode cX9_isByPrimes 53 = .ok (.aload_n 1, 1) := qdX9_isByPrimes_37_24.2.2.2.2.2.2.2.2.1
theorem dX9_isByPrimes_54 : decode cX9_isByPrimes 54 = .ok (.iload_n 3, 1) := qdX9_isByPrimes_37_24.2.2.2.2.2.2.2.2.2.1
theorem dX9_isByPrimes_55 : decode cX9_isByPrimes 55 = .ok (.laload, 1) := qdX9_isByPrimes_37_24.2.2.2.2.2.2.2.2.2.2.1
theorem dX9_isByPrimes_56 : decode cX9_isByPrimes 56 = .ok (.aload_n 1, 1) := qdX9_isByPrimes_37_24.2.2.2.2.2.2.2.2.2.2.2.1
theorem dX9_isByPrimes_57 : decode cX9_isByPrimes 57 = .ok (.iload 4, 2) := qdX9_isByPrimes_37_24.2.2.2.2.2.2.2.2.2.2.2.2.1
theorem dX9_isByPrimes_59 : decode cX9_isByPrimes 59 = .ok (.laload, 1) := qdX9_isByPrimes_37_24.2.2.2.2.2.2.2.2.2.2.2.2.2.1
theorem dX9_isByPrimes_60 : decode cX9_isByPrimes 60 = .ok (.invokevirtual 58, 3) := qdX9_isByPrimes_37_24.2.2.2.2.2.2.2.2.2.2.2.2.2.2.1
theorem dX9_isByPrimes_63 : decode cX9_isByPrimes 63 = .ok (.lstore 5, 2) := qdX9_isByPrimes_37_24.2.2.2.2.2.2.2.2.2.2.2.2.2.2.2.1
theorem dX9_isByPrimes_65 : decode cX9_isByPrimes 65 = .ok (.aload_n 0, 1) := qdX9_isByPrimes_37_24.2.2.2.2.2.2.2.2.2.2.2.2.2.2.2.2.1
theorem dX9_isByPrimes_66 : decode cX9_isByPrimes 66 = .ok (.getfield 36, 3) := qdX9_isByPrimes_37_24.2.2.2.2.2.2.2.2.2.2.2.2.2.2.2.2.2.1
theorem dX9_isByPrimes_69 : decode cX9_isByPrimes 69 = .ok (.ifCond .ne 15, 3) := qdX9_isByPrimes_37_24.2.2.2.2.2.2.2.2.2.2.2.2.2.2.2.2.2.2.1
theorem dX9_isByPrimes_72 : decode cX9_isByPrimes 72 = .ok (.lload 5, 2) := qdX9_isByPrimes_37_24.2.2.2.2.2.2.2.2.2.2.2.2.2.2.2.2.2.2.2.1
theorem dX9_isByPrimes_74 : decode cX9_isByPrimes 74 = .ok (.aload_n 1, 1) := qdX9_isByPrimes_37_24.2.2.2.2.2.2.2.2.2.2.2.2.2.2.2.2.2.2.2.2.1
theorem dX9_isByPrimes_75 : decode cX9_isByPrimes 75 = .ok (.iload_n 3, 1) := qdX9_isByPrimes_37_24.2.2.2.2.2.2.2.2.2.2.2.2.2.2.2.2.2.2.2.2.2.1
theorem dX9_isByPrimes_76 : decode cX9_isByPrimes 76 = .ok (.iload 4, 2) := qdX9_isByPrimes_37_24.2.2.2.2.2.2.2.2.2.2.2.2.2.2.2.2.2.2.2.2.2.2.1
theorem dX9_isByPrimes_78 : decode cX9_isByPrimes 78 = .ok (.imul, 1) := qdX9_isByPrimes_37_24.2.2.2.2.2.2.2.2.2.2.2.2.2.2.2.2.2.2.2.2.2.2.2.1
theorem qdX9_isByPrimes_79_11 : dcAll cX9_isByPrimes [(79, .laload, 1), (80, .lcmp, 1), (81, .ifCond .eq 5, 3), (84, .iconst 0, 1), (85, .ireturn, 1), (86, .iinc 4 1, 3), (89, .goto (-68), 3), (92, .iinc 3 1, 3), (95, .goto (-83), 3), (98, .iconst 1, 1), (99, .ireturn, 1)] := dcAll_of (by decide +kernel)
theorem dX9_isByPrimes_79 : decode cX9_isByPrimes 79 = .ok (.laload, 1) := qdX9_isByPrimes_79_11.1
theorem dX9_isByPrimes_80 : decode cX9_isByPrimes 80 = .ok (.lcmp, 1) := qdX9_isByPrimes_79_11.2.1
theorem dX9_isByPrimes_81 : decode cX9_isByPrimes 81 = .ok (.ifCond .eq 5, 3) := qdX9_isByPrimes_79_11.2.2.1
theorem dX9_isByPrimes_84 : decode cX9_isByPrimes 84 = .ok (.iconst 0, 1) := qdX9_isByPrimes_79_11.2.2.2.1
theorem dX9_isByPrimes_85 : decode cX9_isByPrimes 85 = .ok (.ireturn, 1) := qdX9_isByPrimes_79_11.2.2.2.2.1
theorem dX9_isByPrimes_86 : decode cX9_isByPrimes 86 = .ok (.iinc 4 1, 3) := qdX9_isByPrimes_79_11.2.2.2.2.2.1
theorem dX9_isByPrimes_89 : decode cX9_isByPrimes 89 = .ok (.goto (-68), 3) := qdX9_isByPrimes_79_11.2.2.2.2.2.2.1
theorem dX9_isByPrimes_92 : decode cX9_isByPrimes 92 = .ok (.iinc 3 1, 3) := qdX9_isByPrimes_79_11.2.2.2.2.2.2.2.1
theorem dX9_isByPrimes_95 : decode cX9_isByPrimes 95 = .ok (.goto (-83), 3) := qdX9_isByPrimes_79_11.2.2.2.2.2.2.2.2.1
theorem dX9_isByPrimes_98 : decode cX9_isByPrimes 98 = .ok (.iconst 1, 1) := qdX9_isByPrimes_79_11.2.2.2.2.2.2.2.2.2.1
theorem dX9_isByPrimes_99 : decode cX9_isByPrimes 99 = .ok (.ireturn, 1) := qdX9_isByPrimes_79_11.2.2.2.2.2.2.2.2.2.2.1
theorem ggX9_of_X9_at : GoodIn wsX9_of wsX9_at := fun w h => ⟨List.mem_cons_of_mem _ (List.mem_append_right _ h), zq_X9_at w h⟩
set_option maxRecDepth 20000 in
theorem gX9_of_X9_at : GoodIn wsX9_of (wsV RX9 75 RX9 yX9_at wsX9_at) := goodIn_app (goodIn_r _ [2, 3, 4, 5] rfl rfl) ggX9_of_X9_at
theorem qdX9_of_0_19 : dcAll cX9_of [(0, .bipush 121, 2), (2, .newarray .long, 2), (4, .astore_n 2, 1), (5, .iconst 1, 1), (6, .istore_n 3, 1), (7, .iload_n 3, 1), (8, .bipush 120, 2), (10, .if_icmp .gt 18, 3), (13, .aload_n 2, 1), (14, .iload_n 3, 1), (15, .aload_n 0, 1), (16, .iload_n 1, 1), (17, .iload_n 3, 1), (18, .invokevirtual 75, 3), (21, .lastore, 1), (22, .iinc 3 1, 3), (25, .goto (-18), 3), (28, .aload_n 2, 1), (29, .areturn, 1)] := dcAll_of (by decide +kernel)
theorem dX9_of_0 : decode cX9_of 0 = .ok (.bipush 121, 2) := qdX9_of_0_19.1
theorem dX9_of_2 : decode cX9_of 2 = .ok (.newarray .long, 2) := qdX9_of_0_19.2.1
theorem dX9_of_4 : decode cX9_of 4 = .ok (.astore_n 2, 1) := qdX9_of_0_19.2.2.1
theorem dX9_of_5 : decode cX9_of 5 = .ok (.iconst 1, 1) := qdX9_of_0_19.2.2.2.1
theorem dX9_of_6 : decode cX9_of 6 = .ok (.istore_n 3, 1) := qdX9_of_0_19.2.2.2.2.1
theorem dX9_of_7 : decode cX9_of 7 = .ok (.iload_n 3, 1) := qdX9_of_0_19.2.2.2.2.2.1
theorem dX9_of_8 : decode cX9_of 8 = .ok (.bipush 120, 2) := qdX9_of_0_19.2.2.2.2.2.2.1
theorem dX9_of_10 : decode cX9_of 10 = .ok (.if_icmp .gt 18, 3) := qdX9_of_0_19.2.2.2.2.2.2.2.1
theorem dX9_of_13 : decode cX9_of 13 = .ok (.aload_n 2, 1) := qdX9_of_0_19.2.2.2.2.2.2.2.2.1
theorem dX9_of_14 : decode cX9_of 14 = .ok (.iload_n 3, 1) := qdX9_of_0_19.2.2.2.2.2.2.2.2.2.1
theorem dX9_of_15 : decode cX9_of 15 = .ok (.aload_n 0, 1) := qdX9_of_0_19.2.2.2.2.2.2.2.2.2.2.1
theorem dX9_of_16 : decode cX9_of 16 = .ok (.iload_n 1, 1) := qdX9_of_0_19.2.2.2.2.2.2.2.2.2.2.2.1
theorem dX9_of_17 : decode cX9_of 17 = .ok (.iload_n 3, 1) := qdX9_of_0_19.2.2.2.2.2.2.2.2.2.2.2.2.1
theorem dX9_of_18 : decode cX9_of 18 = .ok (.invokevirtual 75, 3) := qdX9_of_0_19.2.2.2.2.2.2.2.2.2.2.2.2.2.1
theorem dX9_of_21 : decode cX9_of 21 = .ok (.lastore, 1) := qdX9_of_0_19.2.2.2.2.2.2.2.2.2.2.2.2.2.2.1
theorem dX9_of_22 : decode cX9_of 22 = .ok (.iinc 3 1, 3) := qdX9_of_0_19.2.2.2.2.2.2.2.2.2.2.2.2.2.2.2.1
theorem dX9_of_25 : decode cX9_of 25 = .ok (.goto (-18), 3) := qdX9_of_0_19.2.2.2.2.2.2.2.2.2.2.2.2.2.2.2.2.1
theorem dX9_of_28 : decode cX9_of 28 = .ok (.aload_n 2, 1) := qdX9_of_0_19.2.2.2.2.2.2.2.2.2.2.2.2.2.2.2.2.2.1
theorem dX9_of_29 : decode cX9_of 29 = .ok (.areturn, 1) := qdX9_of_0_19.2.2.2.2.2.2.2.2.2.2.2.2.2.2.2.2.2.2.1
theorem qdX9_at_0_9 : dcAll cX9_at [(0, .aload_n 0, 1), (1, .getfield 9, 3), (4, .bipush 121, 2), (6, .iload_n 1, 1), (7, .imul, 1), (8, .iload_n 2, 1), (9, .iadd, 1), (10, .laload, 1), (11, .lreturn, 1)] := dcAll_of (by decide +kernel)
theorem dX9_at_0 : decode cX9_at 0 = .ok (.aload_n 0, 1) := qdX9_at_0_9.1
theorem dX9_at_1 : decode cX9_at 1 = .ok (.getfield 9, 3) := qdX9_at_0_9.2.1
theorem dX9_at_4 : decode cX9_at 4 = .ok (.bipush 121, 2) := qdX9_at_0_9.2.2.1
theorem dX9_at_6 : decode cX9_at 6 = .ok (.iload_n 1, 1) := qdX9_at_0_9.2.2.2.1
theorem dX9_at_7 : decode cX9_at 7 = .ok (.imul, 1) := qdX9_at_0_9.2.2.2.2.1
theorem dX9_at_8 : decode cX9_at 8 = .ok (.iload_n 2, 1) := qdX9_at_0_9.2.2.2.2.2.1
theorem dX9_at_9 : decode cX9_at 9 = .ok (.iadd, 1) := qdX9_at_0_9.2.2.2.2.2.2.1
theorem dX9_at_10 : decode cX9_at 10 = .ok (.laload, 1) := qdX9_at_0_9.2.2.2.2.2.2.2.1
theorem dX9_at_11 : decode cX9_at 11 = .ok (.lreturn, 1) := qdX9_at_0_9.2.2.2.2.2.2.2.2.1
theorem ggX9_become_X9_at : GoodIn wsX9_become wsX9_at := fun w h => ⟨List.mem_cons_of_mem _ (List.mem_append_right _ h), zq_X9_at w h⟩
set_option maxRecDepth 20000 in
theorem gX9_become_X9_at : GoodIn wsX9_become (wsV RX9 75 RX9 yX9_at wsX9_at) := goodIn_app (goodIn_r _ [2, 3, 4, 5] rfl rfl) ggX9_become_X9_at
theorem qdX9_become_0_24 : dcAll cX9_become [(0, .iconst 0, 1), (1, .istore_n 3, 1), (2, .iconst 1, 1), (3, .istore 4, 2), (5, .iload 4, 2), (7, .bipush 120, 2), (9, .if_icmp .gt 48, 3), (12, .iload_n 3, 1), (13, .aload_n 0, 1), (14, .iload_n 1, 1), (15, .iload 4, 2), (17, .invokevirtual 75, 3), (20, .aload_n 2, 1), (21, .iload 4, 2), (23, .laload, 1), (24, .lcmp, 1), (25, .ifCond .eq 7, 3), (28, .iconst 1, 1), (29, .goto 4, 3), (32, .iconst 0, 1), (33, .iadd, 1), (34, .istore_n 3, 1), (35, .aload_n 0, 1), (36, .getfield 9, 3)] := dcAll_of (by decide +kernel)
theorem dX9_become_0 : decode cX9_become 0 = .ok (.iconst 0, 1) := qdX9_become_0_24.1
theorem dX9_become_1 : decode cX9_become 1 = .ok (.istore_n 3, 1) := qdX9_become_0_24.2.1
theorem dX9_become_2 : decode cX9_become 2 = .ok (.iconst 1, 1) := qdX9_become_0_24.2.2.1
theorem dX9_become_3 : decode cX9_become 3 = .ok (.istore 4, 2) := qdX9_become_0_24.2.2.2.1
theorem dX9_become_5 : decode cX9_become 5 = .ok (.iload 4, 2) := qdX9_become_0_24.2.2.2.2.1
theorem dX9_become_7 : decode cX9_become 7 = .ok (.bipush 120, 2) := qdX9_become_0_24.2.2.2.2.2.1
theorem dX9_become_9 : decode cX9_become 9 = .ok (.if_icmp .gt 48, 3) := qdX9_become_0_24.2.2.2.2.2.2.1
theorem dX9_become_12 : decode cX9_become 12 = .ok (.iload_n 3, 1) := qdX9_become_0_24.2.2.2.2.2.2.2.1
theorem dX9_become_13 : decode cX9_become 13 = .ok (.aload_n 0, 1) := qdX9_become_0_24.2.2.2.2.2.2.2.2.1
theorem dX9_become_14 : decode cX9_become 14 = .ok (.iload_n 1, 1) := qdX9_become_0_24.2.2.2.2.2.2.2.2.2.1
theorem dX9_become_15 : decode cX9_become 15 = .ok (.iload 4, 2) := qdX9_become_0_24.2.2.2.2.2.2.2.2.2.2.1
theorem dX9_become_17 : decode cX9_become 17 = .ok (.invokevirtual 75, 3) := qdX9_become_0_24.2.2.2.2.2.2.2.2.2.2.2.1
theorem dX9_become_20 : decode cX9_become 20 = .ok (.aload_n 2, 1) := qdX9_become_0_24.2.2.2.2.2.2.2.2.2.2.2.2.1
theorem dX9_become_21 : decode cX9_become 21 = .ok (.iload 4, 2) := qdX9_become_0_24.2.2.2.2.2.2.2.2.2.2.2.2.2.1
theorem dX9_become_23 : decode cX9_become 23 = .ok (.laload, 1) := qdX9_become_0_24.2.2.2.2.2.2.2.2.2.2.2.2.2.2.1
theorem dX9_become_24 : decode cX9_become 24 = .ok (.lcmp, 1) := qdX9_become_0_24.2.2.2.2.2.2.2.2.2.2.2.2.2.2.2.1
theorem dX9_become_25 : decode cX9_become 25 = .ok (.ifCond .eq 7, 3) := qdX9_become_0_24.2.2.2.2.2.2.2.2.2.2.2.2.2.2.2.2.1
theorem dX9_become_28 : decode cX9_become 28 = .ok (.iconst 1, 1) := qdX9_become_0_24.2.2.2.2.2.2.2.2.2.2.2.2.2.2.2.2.2.1
theorem dX9_become_29 : decode cX9_become 29 = .ok (.goto 4, 3) := qdX9_become_0_24.2.2.2.2.2.2.2.2.2.2.2.2.2.2.2.2.2.2.1
theorem dX9_become_32 : decode cX9_become 32 = .ok (.iconst 0, 1) := qdX9_become_0_24.2.2.2.2.2.2.2.2.2.2.2.2.2.2.2.2.2.2.2.1
theorem dX9_become_33 : decode cX9_become 33 = .ok (.iadd, 1) := qdX9_become_0_24.2.2.2.2.2.2.2.2.2.2.2.2.2.2.2.2.2.2.2.2.1
theorem dX9_become_34 : decode cX9_become 34 = .ok (.istore_n 3, 1) := qdX9_become_0_24.2.2.2.2.2.2.2.2.2.2.2.2.2.2.2.2.2.2.2.2.2.1
theorem dX9_become_35 : decode cX9_become 35 = .ok (.aload_n 0, 1) := qdX9_become_0_24.2.2.2.2.2.2.2.2.2.2.2.2.2.2.2.2.2.2.2.2.2.2.1
theorem dX9_become_36 : decode cX9_become 36 = .ok (.getfield 9, 3) := qdX9_become_0_24.2.2.2.2.2.2.2.2.2.2.2.2.2.2.2.2.2.2.2.2.2.2.2.1
theorem qdX9_become_39_19 : dcAll cX9_become [(39, .bipush 121, 2), (41, .iload_n 1, 1), (42, .imul, 1), (43, .iload 4, 2), (45, .iadd, 1), (46, .aload_n 2, 1), (47, .iload 4, 2), (49, .laload, 1), (50, .lastore, 1), (51, .iinc 4 1, 3), (54, .goto (-49), 3), (57, .aload_n 0, 1), (58, .dup, 1), (59, .getfield 79, 3), (62, .iconst 1, 1), (63, .iadd, 1), (64, .putfield 79, 3), (67, .iload_n 3, 1), (68, .ireturn, 1)] := dcAll_of (by decide +kernel)
theorem dX9_become_39 : decode cX9_become 39 = .ok (.bipush 121, 2) := qdX9_become_39_19.1
theorem dX9_become_41 : decode cX9_become 41 = .ok (.iload_n 1, 1) := qdX9_become_39_19.2.1
theorem dX9_become_42 : decode cX9_become 42 = .ok (.imul, 1) := qdX9_become_39_19.2.2.1
theorem dX9_become_43 : decode cX9_become 43 = .ok (.iload 4, 2) := qdX9_become_39_19.2.2.2.1
theorem dX9_become_45 : decode cX9_become 45 = .ok (.iadd, 1) := qdX9_become_39_19.2.2.2.2.1
theorem dX9_become_46 : decode cX9_become 46 = .ok (.aload_n 2, 1) := qdX9_become_39_19.2.2.2.2.2.1
theorem dX9_become_47 : decode cX9_become 47 = .ok (.iload 4, 2) := qdX9_become_39_19.2.2.2.2.2.2.1
theorem dX9_become_49 : decode cX9_become 49 = .ok (.laload, 1) := qdX9_become_39_19.2.2.2.2.2.2.2.1
theorem dX9_become_50 : decode cX9_become 50 = .ok (.lastore, 1) := qdX9_become_39_19.2.2.2.2.2.2.2.2.1
theorem dX9_become_51 : decode cX9_become 51 = .ok (.iinc 4 1, 3) := qdX9_become_39_19.2.2.2.2.2.2.2.2.2.1
theorem dX9_become_54 : decode cX9_become 54 = .ok (.goto (-49), 3) := qdX9_become_39_19.2.2.2.2.2.2.2.2.2.2.1
theorem dX9_become_57 : decode cX9_become 57 = .ok (.aload_n 0, 1) := qdX9_become_39_19.2.2.2.2.2.2.2.2.2.2.2.1
theorem dX9_become_58 : decode cX9_become 58 = .ok (.dup, 1) := qdX9_become_39_19.2.2.2.2.2.2.2.2.2.2.2.2.1
theorem dX9_become_59 : decode cX9_become 59 = .ok (.getfield 79, 3) := qdX9_become_39_19.2.2.2.2.2.2.2.2.2.2.2.2.2.1
theorem dX9_become_62 : decode cX9_become 62 = .ok (.iconst 1, 1) := qdX9_become_39_19.2.2.2.2.2.2.2.2.2.2.2.2.2.2.1
theorem dX9_become_63 : decode cX9_become 63 = .ok (.iadd, 1) := qdX9_become_39_19.2.2.2.2.2.2.2.2.2.2.2.2.2.2.2.1
theorem dX9_become_64 : decode cX9_become 64 = .ok (.putfield 79, 3) := qdX9_become_39_19.2.2.2.2.2.2.2.2.2.2.2.2.2.2.2.2.1
theorem dX9_become_67 : decode cX9_become 67 = .ok (.iload_n 3, 1) := qdX9_become_39_19.2.2.2.2.2.2.2.2.2.2.2.2.2.2.2.2.2.1
theorem dX9_become_68 : decode cX9_become 68 = .ok (.ireturn, 1) := qdX9_become_39_19.2.2.2.2.2.2.2.2.2.2.2.2.2.2.2.2.2.2.1
theorem ggX9_becomeOrNot_X9_become : GoodIn wsX9_becomeOrNot wsX9_become := fun w h => ⟨List.mem_cons_of_mem _ (List.mem_append_right _ h), zq_X9_become w h⟩
set_option maxRecDepth 20000 in
theorem gX9_becomeOrNot_X9_become : GoodIn wsX9_becomeOrNot (wsV RX9 82 RX9 yX9_become wsX9_become) := goodIn_app (goodIn_r _ [3, 4, 5, 6] rfl rfl) ggX9_becomeOrNot_X9_become
theorem qdX9_becomeOrNot_0_16 : dcAll cX9_becomeOrNot [(0, .aload_n 0, 1), (1, .getfield 36, 3), (4, .ifCond .ne 10, 3), (7, .aload_n 0, 1), (8, .iload_n 1, 1), (9, .aload_n 2, 1), (10, .invokevirtual 82, 3), (13, .ireturn, 1), (14, .aload_n 0, 1), (15, .dup, 1), (16, .getfield 86, 3), (19, .iconst 1, 1), (20, .iadd, 1), (21, .putfield 86, 3), (24, .bipush (-9), 2), (26, .ireturn, 1)] := dcAll_of (by decide +kernel)
theorem dX9_becomeOrNot_0 : decode cX9_becomeOrNot 0 = .ok (.aload_n 0, 1) := qdX9_becomeOrNot_0_16.1
theorem dX9_becomeOrNot_1 : decode cX9_becomeOrNot 1 = .ok (.getfield 36, 3) := qdX9_becomeOrNot_0_16.2.1
theorem dX9_becomeOrNot_4 : decode cX9_becomeOrNot 4 = .ok (.ifCond .ne 10, 3) := qdX9_becomeOrNot_0_16.2.2.1
theorem dX9_becomeOrNot_7 : decode cX9_becomeOrNot 7 = .ok (.aload_n 0, 1) := qdX9_becomeOrNot_0_16.2.2.2.1
theorem dX9_becomeOrNot_8 : decode cX9_becomeOrNot 8 = .ok (.iload_n 1, 1) := qdX9_becomeOrNot_0_16.2.2.2.2.1
theorem dX9_becomeOrNot_9 : decode cX9_becomeOrNot 9 = .ok (.aload_n 2, 1) := qdX9_becomeOrNot_0_16.2.2.2.2.2.1
theorem dX9_becomeOrNot_10 : decode cX9_becomeOrNot 10 = .ok (.invokevirtual 82, 3) := qdX9_becomeOrNot_0_16.2.2.2.2.2.2.1
theorem dX9_becomeOrNot_13 : decode cX9_becomeOrNot 13 = .ok (.ireturn, 1) := qdX9_becomeOrNot_0_16.2.2.2.2.2.2.2.1
theorem dX9_becomeOrNot_14 : decode cX9_becomeOrNot 14 = .ok (.aload_n 0, 1) := qdX9_becomeOrNot_0_16.2.2.2.2.2.2.2.2.1
theorem dX9_becomeOrNot_15 : decode cX9_becomeOrNot 15 = .ok (.dup, 1) := qdX9_becomeOrNot_0_16.2.2.2.2.2.2.2.2.2.1
theorem dX9_becomeOrNot_16 : decode cX9_becomeOrNot 16 = .ok (.getfield 86, 3) := qdX9_becomeOrNot_0_16.2.2.2.2.2.2.2.2.2.2.1
theorem dX9_becomeOrNot_19 : decode cX9_becomeOrNot 19 = .ok (.iconst 1, 1) := qdX9_becomeOrNot_0_16.2.2.2.2.2.2.2.2.2.2.2.1
theorem dX9_becomeOrNot_20 : decode cX9_becomeOrNot 20 = .ok (.iadd, 1) := qdX9_becomeOrNot_0_16.2.2.2.2.2.2.2.2.2.2.2.2.1
theorem dX9_becomeOrNot_21 : decode cX9_becomeOrNot 21 = .ok (.putfield 86, 3) := qdX9_becomeOrNot_0_16.2.2.2.2.2.2.2.2.2.2.2.2.2.1
theorem dX9_becomeOrNot_24 : decode cX9_becomeOrNot 24 = .ok (.bipush (-9), 2) := qdX9_becomeOrNot_0_16.2.2.2.2.2.2.2.2.2.2.2.2.2.2.1
theorem dX9_becomeOrNot_26 : decode cX9_becomeOrNot 26 = .ok (.ireturn, 1) := qdX9_becomeOrNot_0_16.2.2.2.2.2.2.2.2.2.2.2.2.2.2.2.1
theorem qdX9_isOne_0_9 : dcAll cX9_isOne [(0, .iload_n 0, 1), (1, .ifCond .lt 12, 3), (4, .iload_n 0, 1), (5, .iconst 4, 1), (6, .if_icmp .ge 7, 3), (9, .iconst 1, 1), (10, .goto 4, 3), (13, .iconst 0, 1), (14, .ireturn, 1)] := dcAll_of (by decide +kernel)
theorem dX9_isOne_0 : decode cX9_isOne 0 = .ok (.iload_n 0, 1) := qdX9_isOne_0_9.1
theorem dX9_isOne_1 : decode cX9_isOne 1 = .ok (.ifCond .lt 12, 3) := qdX9_isOne_0_9.2.1
theorem dX9_isOne_4 : decode cX9_isOne 4 = .ok (.iload_n 0, 1) := qdX9_isOne_0_9.2.2.1
theorem dX9_isOne_5 : decode cX9_isOne 5 = .ok (.iconst 4, 1) := qdX9_isOne_0_9.2.2.2.1
theorem dX9_isOne_6 : decode cX9_isOne 6 = .ok (.if_icmp .ge 7, 3) := qdX9_isOne_0_9.2.2.2.2.1
theorem dX9_isOne_9 : decode cX9_isOne 9 = .ok (.iconst 1, 1) := qdX9_isOne_0_9.2.2.2.2.2.1
theorem dX9_isOne_10 : decode cX9_isOne 10 = .ok (.goto 4, 3) := qdX9_isOne_0_9.2.2.2.2.2.2.1
theorem dX9_isOne_13 : decode cX9_isOne 13 = .ok (.iconst 0, 1) := qdX9_isOne_0_9.2.2.2.2.2.2.2.1
theorem dX9_isOne_14 : decode cX9_isOne 14 = .ok (.ireturn, 1) := qdX9_isOne_0_9.2.2.2.2.2.2.2.2.1
theorem qdX9_isIn_0_10 : dcAll cX9_isIn [(0, .iload_n 0, 1), (1, .iload_n 1, 1), (2, .if_icmp .lt 12, 3), (5, .iload_n 0, 1), (6, .iload_n 2, 1), (7, .if_icmp .gt 7, 3), (10, .iconst 1, 1), (11, .goto 4, 3), (14, .iconst 0, 1), (15, .ireturn, 1)] := dcAll_of (by decide +kernel)
theorem dX9_isIn_0 : decode cX9_isIn 0 = .ok (.iload_n 0, 1) := qdX9_isIn_0_10.1
theorem dX9_isIn_1 : decode cX9_isIn 1 = .ok (.iload_n 1, 1) := qdX9_isIn_0_10.2.1
theorem dX9_isIn_2 : decode cX9_isIn 2 = .ok (.if_icmp .lt 12, 3) := qdX9_isIn_0_10.2.2.1
theorem dX9_isIn_5 : decode cX9_isIn 5 = .ok (.iload_n 0, 1) := qdX9_isIn_0_10.2.2.2.1
theorem dX9_isIn_6 : decode cX9_isIn 6 = .ok (.iload_n 2, 1) := qdX9_isIn_0_10.2.2.2.2.1
theorem dX9_isIn_7 : decode cX9_isIn 7 = .ok (.if_icmp .gt 7, 3) := qdX9_isIn_0_10.2.2.2.2.2.1
theorem dX9_isIn_10 : decode cX9_isIn 10 = .ok (.iconst 1, 1) := qdX9_isIn_0_10.2.2.2.2.2.2.1
theorem dX9_isIn_11 : decode cX9_isIn 11 = .ok (.goto 4, 3) := qdX9_isIn_0_10.2.2.2.2.2.2.2.1
theorem dX9_isIn_14 : decode cX9_isIn 14 = .ok (.iconst 0, 1) := qdX9_isIn_0_10.2.2.2.2.2.2.2.2.1
theorem dX9_isIn_15 : decode cX9_isIn 15 = .ok (.ireturn, 1) := qdX9_isIn_0_10.2.2.2.2.2.2.2.2.2.1
theorem qdX9_isThrown_0_18 : dcAll cX9_isThrown [(0, .aload_n 0, 1), (1, .iload_n 1, 1), (2, .ifCond .ne 7, 3), (5, .iconst 1, 1), (6, .goto 12, 3), (9, .iload_n 2, 1), (10, .ifCond .ne 7, 3), (13, .iconst 2, 1), (14, .goto 4, 3), (17, .iconst 0, 1), (18, .putfield 13, 3), (21, .aload_n 0, 1), (22, .getfield 13, 3), (25, .ifCond .le 7, 3), (28, .iconst 1, 1), (29, .goto 4, 3), (32, .iconst 0, 1), (33, .ireturn, 1)] := dcAll_of (by decide +kernel)
theorem dX9_isThrown_0 : decode cX9_isThrown 0 = .ok (.aload_n 0, 1) := qdX9_isThrown_0_18.1
theorem dX9_isThrown_1 : decode cX9_isThrown 1 = .ok (.iload_n 1, 1) := qdX9_isThrown_0_18.2.1
theorem dX9_isThrown_2 : decode cX9_isThrown 2 = .ok (.ifCond .ne 7, 3) := qdX9_isThrown_0_18.2.2.1
theorem dX9_isThrown_5 : decode cX9_isThrown 5 = .ok (.iconst 1, 1) := qdX9_isThrown_0_18.2.2.2.1
theorem dX9_isThrown_6 : decode cX9_isThrown 6 = .ok (.goto 12, 3) := qdX9_isThrown_0_18.2.2.2.2.1
theorem dX9_isThrown_9 : decode cX9_isThrown 9 = .ok (.iload_n 2, 1) := qdX9_isThrown_0_18.2.2.2.2.2.1
theorem dX9_isThrown_10 : decode cX9_isThrown 10 = .ok (.ifCond .ne 7, 3) := qdX9_isThrown_0_18.2.2.2.2.2.2.1
theorem dX9_isThrown_13 : decode cX9_isThrown 13 = .ok (.iconst 2, 1) := qdX9_isThrown_0_18.2.2.2.2.2.2.2.1
theorem dX9_isThrown_14 : decode cX9_isThrown 14 = .ok (.goto 4, 3) := qdX9_isThrown_0_18.2.2.2.2.2.2.2.2.1
theorem dX9_isThrown_17 : decode cX9_isThrown 17 = .ok (.iconst 0, 1) := qdX9_isThrown_0_18.2.2.2.2.2.2.2.2.2.1
theorem dX9_isThrown_18 : decode cX9_isThrown 18 = .ok (.putfield 13, 3) := qdX9_isThrown_0_18.2.2.2.2.2.2.2.2.2.2.1
theorem dX9_isThrown_21 : decode cX9_isThrown 21 = .ok (.aload_n 0, 1) := qdX9_isThrown_0_18.2.2.2.2.2.2.2.2.2.2.2.1
theorem dX9_isThrown_22 : decode cX9_isThrown 22 = .ok (.getfield 13, 3) := qdX9_isThrown_0_18.2.2.2.2.2.2.2.2.2.2.2.2.1
theorem dX9_isThrown_25 : decode cX9_isThrown 25 = .ok (.ifCond .le 7, 3) := qdX9_isThrown_0_18.2.2.2.2.2.2.2.2.2.2.2.2.2.1
theorem dX9_isThrown_28 : decode cX9_isThrown 28 = .ok (.iconst 1, 1) := qdX9_isThrown_0_18.2.2.2.2.2.2.2.2.2.2.2.2.2.2.1
theorem dX9_isThrown_29 : decode cX9_isThrown 29 = .ok (.goto 4, 3) := qdX9_isThrown_0_18.2.2.2.2.2.2.2.2.2.2.2.2.2.2.2.1
theorem dX9_isThrown_32 : decode cX9_isThrown 32 = .ok (.iconst 0, 1) := qdX9_isThrown_0_18.2.2.2.2.2.2.2.2.2.2.2.2.2.2.2.2.1
theorem dX9_isThrown_33 : decode cX9_isThrown 33 = .ok (.ireturn, 1) := qdX9_isThrown_0_18.2.2.2.2.2.2.2.2.2.2.2.2.2.2.2.2.2.1
theorem qdX9_isNo_0_14 : dcAll cX9_isNo [(0, .aload_n 0, 1), (1, .iload_n 1, 1), (2, .ifCond .eq 7, 3), (5, .iconst 0, 1), (6, .goto 4, 3), (9, .iconst 1, 1), (10, .putfield 13, 3), (13, .aload_n 0, 1), (14, .getfield 13, 3), (17, .ifCond .le 7, 3), (20, .iconst 1, 1), (21, .goto 4, 3), (24, .iconst 0, 1), (25, .ireturn, 1)] := dcAll_of (by decide +kernel)
theorem dX9_isNo_0 : decode cX9_isNo 0 = .ok (.aload_n 0, 1) := qdX9_isNo_0_14.1
theorem dX9_isNo_1 : decode cX9_isNo 1 = .ok (.iload_n 1, 1) := qdX9_isNo_0_14.2.1
theorem dX9_isNo_2 : decode cX9_isNo 2 = .ok (.ifCond .eq 7, 3) := qdX9_isNo_0_14.2.2.1
theorem dX9_isNo_5 : decode cX9_isNo 5 = .ok (.iconst 0, 1) := qdX9_isNo_0_14.2.2.2.1
theorem dX9_isNo_6 : decode cX9_isNo 6 = .ok (.goto 4, 3) := qdX9_isNo_0_14.2.2.2.2.1
theorem dX9_isNo_9 : decode cX9_isNo 9 = .ok (.iconst 1, 1) := qdX9_isNo_0_14.2.2.2.2.2.1
theorem dX9_isNo_10 : decode cX9_isNo 10 = .ok (.putfield 13, 3) := qdX9_isNo_0_14.2.2.2.2.2.2.1
theorem dX9_isNo_13 : decode cX9_isNo 13 = .ok (.aload_n 0, 1) := qdX9_isNo_0_14.2.2.2.2.2.2.2.1
theorem dX9_isNo_14 : decode cX9_isNo 14 = .ok (.getfield 13, 3) := qdX9_isNo_0_14.2.2.2.2.2.2.2.2.1
theorem dX9_isNo_17 : decode cX9_isNo 17 = .ok (.ifCond .le 7, 3) := qdX9_isNo_0_14.2.2.2.2.2.2.2.2.2.1
theorem dX9_isNo_20 : decode cX9_isNo 20 = .ok (.iconst 1, 1) := qdX9_isNo_0_14.2.2.2.2.2.2.2.2.2.2.1
theorem dX9_isNo_21 : decode cX9_isNo 21 = .ok (.goto 4, 3) := qdX9_isNo_0_14.2.2.2.2.2.2.2.2.2.2.2.1
theorem dX9_isNo_24 : decode cX9_isNo 24 = .ok (.iconst 0, 1) := qdX9_isNo_0_14.2.2.2.2.2.2.2.2.2.2.2.2.1
theorem dX9_isNo_25 : decode cX9_isNo 25 = .ok (.ireturn, 1) := qdX9_isNo_0_14.2.2.2.2.2.2.2.2.2.2.2.2.2.1
theorem ggX9_know_X9_isOne : GoodIn wsX9_know wsX9_isOne := fun w h => ⟨List.mem_cons_of_mem _ (List.mem_append_left _ (List.mem_append_left _ (List.mem_append_left _ (List.mem_append_left _ (List.mem_append_right _ h))))), zq_X9_isOne w h⟩
set_option maxRecDepth 20000 in
theorem gX9_know_X9_isOne : GoodIn wsX9_know (va_wsS RX9 89 yX9_isOne wsX9_isOne) := goodIn_app (goodIn_r _ [2, 3, 4] rfl rfl) ggX9_know_X9_isOne
theorem ggX9_know_X9_isIn : GoodIn wsX9_know wsX9_isIn := fun w h => ⟨List.mem_cons_of_mem _ (List.mem_append_left _ (List.mem_append_left _ (List.mem_append_left _ (List.mem_append_right _ h)))), zq_X9_isIn w h⟩
set_option maxRecDepth 20000 in
theorem gX9_know_X9_isIn : GoodIn wsX9_know (va_wsS RX9 93 yX9_isIn wsX9_isIn) := goodIn_app (goodIn_r _ [5, 6, 4] rfl rfl) ggX9_know_X9_isIn
theorem ggX9_know_X9_isThrown : GoodIn wsX9_know wsX9_isThrown := fun w h => ⟨List.mem_cons_of_mem _ (List.mem_append_left _ (List.mem_append_left _ (List.mem_append_right _ h))), zq_X9_isThrown w h⟩
set_option maxRecDepth 20000 in
theorem gX9_know_X9_isThrown : GoodIn wsX9_know (wsV RX9 97 RX9 yX9_isThrown wsX9_isThrown) := goodIn_app (goodIn_r _ [7, 8, 9, 4] rfl rfl) ggX9_know_X9_isThrown
theorem ggX9_know_X9_known : GoodIn wsX9_know wsX9_known := fun w h => ⟨List.mem_cons_of_mem _ (List.mem_append_left _ (List.mem_append_right _ h)), zq_X9_known w h⟩
set_option maxRecDepth 20000 in
theorem gX9_know_X9_known : GoodIn wsX9_know (va_wsS RX9 101 yX9_known wsX9_known) := goodIn_app (goodIn_r _ [10, 11, 4] rfl rfl) ggX9_know_X9_known
theorem ggX9_know_X9_become : GoodIn wsX9_know wsX9_become := fun w h => ⟨List.mem_cons_of_mem _ (List.mem_append_right _ h), zq_X9_become w h⟩
set_option maxRecDepth 20000 in
theorem gX9_know_X9_become : GoodIn wsX9_know (wsV RX9 82 RX9 yX9_become wsX9_become) := goodIn_app (goodIn_r _ [13, 14, 15, 4] rfl rfl) ggX9_know_X9_become
theorem qdX9_know_0_24 : dcAll cX9_know [(0, .aload_n 0, 1), (1, .iload_n 1, 1), (2, .invokestatic 89, 3), (5, .iload_n 2, 1), (6, .iconst 0, 1), (7, .bipush 10, 2), (9, .invokestatic 93, 3), (12, .invokevirtual 97, 3), (15, .ifCond .eq 5, 3), (18, .iconst 0, 1), (19, .ireturn, 1), (20, .bipush 121, 2), (22, .newarray .long, 2), (24, .astore_n 3, 1), (25, .iconst 1, 1), (26, .istore 4, 2), (28, .iload 4, 2), (30, .bipush 120, 2), (32, .if_icmp .gt 19, 3), (35, .aload_n 3, 1), (36, .iload 4, 2), (38, .iload_n 2, 1), (39, .iload 4, 2), (41, .invokestatic 101, 3)] := dcAll_of (by decide +kernel)
theorem dX9_know_0 : decode cX9_know 0 = .ok (.aload_n 0, 1) := qdX9_know_0_24.1
theorem dX9_know_1 : decode cX9_know 1 = .ok (.iload_n 1, 1) := qdX9_know_0_24.2.1
theorem dX9_know_2 : decode cX9_know 2 = .ok (.invokestatic 89, 3) := qdX9_know_0_24.2.2.1
theorem dX9_know_5 : decode cX9_know 5 = .ok (.iload_n 2, 1) := qdX9_know_0_24.2.2.2.1
theorem dX9_know_6 : decode cX9_know 6 = .ok (.iconst 0, 1) := qdX9_know_0_24.2.2.2.2.1
theorem dX9_know_7 : decode cX9_know 7 = .ok (.bipush 10, 2) := qdX9_know_0_24.2.2.2.2.2.1
theorem dX9_know_9 : decode cX9_know 9 = .ok (.invokestatic 93, 3) := qdX9_know_0_24.2.2.2.2.2.2.1
theorem dX9_know_12 : decode cX9_know 12 = .ok (.invokevirtual 97, 3) := qdX9_know_0_24.2.2.2.2.2.2.2.1
theorem dX9_know_15 : decode cX9_know 15 = .ok (.ifCond .eq 5, 3) := qdX9_know_0_24.2.2.2.2.2.2.2.2.1
theorem dX9_know_18 : decode cX9_know 18 = .ok (.iconst 0, 1) := qdX9_know_0_24.2.2.2.2.2.2.2.2.2.1
theorem dX9_know_19 : decode cX9_know 19 = .ok (.ireturn, 1) := qdX9_know_0_24.2.2.2.2.2.2.2.2.2.2.1
theorem dX9_know_20 : decode cX9_know 20 = .ok (.bipush 121, 2) := qdX9_know_0_24.2.2.2.2.2.2.2.2.2.2.2.1
theorem dX9_know_22 : decode cX9_know 22 = .ok (.newarray .long, 2) := qdX9_know_0_24.2.2.2.2.2.2.2.2.2.2.2.2.1
theorem dX9_know_24 : decode cX9_know 24 = .ok (.astore_n 3, 1) := qdX9_know_0_24.2.2.2.2.2.2.2.2.2.2.2.2.2.1
theorem dX9_know_25 : decode cX9_know 25 = .ok (.iconst 1, 1) := qdX9_know_0_24.2.2.2.2.2.2.2.2.2.2.2.2.2.2.1
theorem dX9_know_26 : decode cX9_know 26 = .ok (.istore 4, 2) := qdX9_know_0_24.2.2.2.2.2.2.2.2.2.2.2.2.2.2.2.1
theorem dX9_know_28 : decode cX9_know 28 = .ok (.iload 4, 2) := qdX9_know_0_24.2.2.2.2.2.2.2.2.2.2.2.2.2.2.2.2.1
theorem dX9_know_30 : decode cX9_know 30 = .ok (.bipush 120, 2) := qdX9_know_0_24.2.2.2.2.2.2.2.2.2.2.2.2.2.2.2.2.2.1
theorem dX9_know_32 : decode cX9_know 32 = .ok (.if_icmp .gt 19, 3) := qdX9_know_0_24.2.2.2.2.2.2.2.2.2.2.2.2.2.2.2.2.2.2.1
theorem dX9_know_35 : decode cX9_know 35 = .ok (.aload_n 3, 1) := qdX9_know_0_24.2.2.2.2.2.2.2.2.2.2.2.2.2.2.2.2.2.2.2.1
theorem dX9_know_36 : decode cX9_know 36 = .ok (.iload 4, 2) := qdX9_know_0_24.2.2.2.2.2.2.2.2.2.2.2.2.2.2.2.2.2.2.2.2.1
theorem dX9_know_38 : decode cX9_know 38 = .ok (.iload_n 2, 1) := qdX9_know_0_24.2.2.2.2.2.2.2.2.2.2.2.2.2.2.2.2.2.2.2.2.2.1
theorem dX9_know_39 : decode cX9_know 39 = .ok (.iload 4, 2) := qdX9_know_0_24.2.2.2.2.2.2.2.2.2.2.2.2.2.2.2.2.2.2.2.2.2.2.1
theorem dX9_know_41 : decode cX9_know 41 = .ok (.invokestatic 101, 3) := qdX9_know_0_24.2.2.2.2.2.2.2.2.2.2.2.2.2.2.2.2.2.2.2.2.2.2.2.1
theorem qdX9_know_44_8 : dcAll cX9_know [(44, .lastore, 1), (45, .iinc 4 1, 3), (48, .goto (-20), 3), (51, .aload_n 0, 1), (52, .iload_n 1, 1), (53, .aload_n 3, 1), (54, .invokevirtual 82, 3), (57, .ireturn, 1)] := dcAll_of (by decide +kernel)
theorem dX9_know_44 : decode cX9_know 44 = .ok (.lastore, 1) := qdX9_know_44_8.1
theorem dX9_know_45 : decode cX9_know 45 = .ok (.iinc 4 1, 3) := qdX9_know_44_8.2.1
theorem dX9_know_48 : decode cX9_know 48 = .ok (.goto (-20), 3) := qdX9_know_44_8.2.2.1
theorem dX9_know_51 : decode cX9_know 51 = .ok (.aload_n 0, 1) := qdX9_know_44_8.2.2.2.1
theorem dX9_know_52 : decode cX9_know 52 = .ok (.iload_n 1, 1) := qdX9_know_44_8.2.2.2.2.1
theorem dX9_know_53 : decode cX9_know 53 = .ok (.aload_n 3, 1) := qdX9_know_44_8.2.2.2.2.2.1
theorem dX9_know_54 : decode cX9_know 54 = .ok (.invokevirtual 82, 3) := qdX9_know_44_8.2.2.2.2.2.2.1
theorem dX9_know_57 : decode cX9_know 57 = .ok (.ireturn, 1) := qdX9_know_44_8.2.2.2.2.2.2.2.1
theorem ggX9_putAt_X9_isOne : GoodIn wsX9_putAt wsX9_isOne := fun w h => ⟨List.mem_cons_of_mem _ (List.mem_append_left _ (List.mem_append_left _ (List.mem_append_left _ (List.mem_append_right _ h)))), zq_X9_isOne w h⟩
set_option maxRecDepth 20000 in
theorem gX9_putAt_X9_isOne : GoodIn wsX9_putAt (va_wsS RX9 89 yX9_isOne wsX9_isOne) := goodIn_app (goodIn_r _ [2, 3, 4] rfl rfl) ggX9_putAt_X9_isOne
theorem ggX9_putAt_X9_isIn : GoodIn wsX9_putAt wsX9_isIn := fun w h => ⟨List.mem_cons_of_mem _ (List.mem_append_left _ (List.mem_append_left _ (List.mem_append_right _ h))), zq_X9_isIn w h⟩
set_option maxRecDepth 20000 in
theorem gX9_putAt_X9_isIn : GoodIn wsX9_putAt (va_wsS RX9 93 yX9_isIn wsX9_isIn) := goodIn_app (goodIn_r _ [5, 6, 4] rfl rfl) ggX9_putAt_X9_isIn
theorem ggX9_putAt_X9_isThrown : GoodIn wsX9_putAt wsX9_isThrown := fun w h => ⟨List.mem_cons_of_mem _ (List.mem_append_left _ (List.mem_append_right _ h)), zq_X9_isThrown w h⟩
set_option maxRecDepth 20000 in
theorem gX9_putAt_X9_isThrown : GoodIn wsX9_putAt (wsV RX9 97 RX9 yX9_isThrown wsX9_isThrown) := goodIn_app (goodIn_r _ [7, 8, 9, 4] rfl rfl) ggX9_putAt_X9_isThrown
theorem ggX9_putAt_X9_at : GoodIn wsX9_putAt wsX9_at := fun w h => ⟨List.mem_cons_of_mem _ (List.mem_append_right _ h), zq_X9_at w h⟩
set_option maxRecDepth 20000 in
theorem gX9_putAt_X9_at : GoodIn wsX9_putAt (wsV RX9 75 RX9 yX9_at wsX9_at) := goodIn_app (goodIn_r _ [10, 11, 12, 4] rfl rfl) ggX9_putAt_X9_at
theorem qdX9_putAt_0_24 : dcAll cX9_putAt [(0, .aload_n 0, 1), (1, .iload_n 1, 1), (2, .invokestatic 89, 3), (5, .iload_n 2, 1), (6, .iconst 1, 1), (7, .bipush 120, 2), (9, .invokestatic 93, 3), (12, .invokevirtual 97, 3), (15, .ifCond .eq 5, 3), (18, .iconst 0, 1), (19, .ireturn, 1), (20, .aload_n 0, 1), (21, .iload_n 1, 1), (22, .iload_n 2, 1), (23, .invokevirtual 75, 3), (26, .lload_n 3, 1), (27, .lcmp, 1), (28, .ifCond .ne 7, 3), (31, .iconst 0, 1), (32, .goto 4, 3), (35, .iconst 1, 1), (36, .istore 5, 2), (38, .aload_n 0, 1), (39, .getfield 9, 3)] := dcAll_of (by decide +kernel)
theorem dX9_putAt_0 : decode cX9_putAt 0 = .ok (.aload_n 0, 1) := qdX9_putAt_0_24.1
theorem dX9_putAt_1 : decode cX9_putAt 1 = .ok (.iload_n 1, 1) := qdX9_putAt_0_24.2.1
theorem dX9_putAt_2 : decode cX9_putAt 2 = .ok (.invokestatic 89, 3) := qdX9_putAt_0_24.2.2.1
theorem dX9_putAt_5 : decode cX9_putAt 5 = .ok (.iload_n 2, 1) := qdX9_putAt_0_24.2.2.2.1
theorem dX9_putAt_6 : decode cX9_putAt 6 = .ok (.iconst 1, 1) := qdX9_putAt_0_24.2.2.2.2.1
theorem dX9_putAt_7 : decode cX9_putAt 7 = .ok (.bipush 120, 2) := qdX9_putAt_0_24.2.2.2.2.2.1
theorem dX9_putAt_9 : decode cX9_putAt 9 = .ok (.invokestatic 93, 3) := qdX9_putAt_0_24.2.2.2.2.2.2.1
theorem dX9_putAt_12 : decode cX9_putAt 12 = .ok (.invokevirtual 97, 3) := qdX9_putAt_0_24.2.2.2.2.2.2.2.1
theorem dX9_putAt_15 : decode cX9_putAt 15 = .ok (.ifCond .eq 5, 3) := qdX9_putAt_0_24.2.2.2.2.2.2.2.2.1
theorem dX9_putAt_18 : decode cX9_putAt 18 = .ok (.iconst 0, 1) := qdX9_putAt_0_24.2.2.2.2.2.2.2.2.2.1
theorem dX9_putAt_19 : decode cX9_putAt 19 = .ok (.ireturn, 1) := qdX9_putAt_0_24.2.2.2.2.2.2.2.2.2.2.1
theorem dX9_putAt_20 : decode cX9_putAt 20 = .ok (.aload_n 0, 1) := qdX9_putAt_0_24.2.2.2.2.2.2.2.2.2.2.2.1
theorem dX9_putAt_21 : decode cX9_putAt 21 = .ok (.iload_n 1, 1) := qdX9_putAt_0_24.2.2.2.2.2.2.2.2.2.2.2.2.1
theorem dX9_putAt_22 : decode cX9_putAt 22 = .ok (.iload_n 2, 1) := qdX9_putAt_0_24.2.2.2.2.2.2.2.2.2.2.2.2.2.1
theorem dX9_putAt_23 : decode cX9_putAt 23 = .ok (.invokevirtual 75, 3) := qdX9_putAt_0_24.2.2.2.2.2.2.2.2.2.2.2.2.2.2.1
theorem dX9_putAt_26 : decode cX9_putAt 26 = .ok (.lload_n 3, 1) := qdX9_putAt_0_24.2.2.2.2.2.2.2.2.2.2.2.2.2.2.2.1
theorem dX9_putAt_27 : decode cX9_putAt 27 = .ok (.lcmp, 1) := qdX9_putAt_0_24.2.2.2.2.2.2.2.2.2.2.2.2.2.2.2.2.1
theorem dX9_putAt_28 : decode cX9_putAt 28 = .ok (.ifCond .ne 7, 3) := qdX9_putAt_0_24.2.2.2.2.2.2.2.2.2.2.2.2.2.2.2.2.2.1
theorem dX9_putAt_31 : decode cX9_putAt 31 = .ok (.iconst 0, 1) := qdX9_putAt_0_24.2.2.2.2.2.2.2.2.2.2.2.2.2.2.2.2.2.2.1
theorem dX9_putAt_32 : decode cX9_putAt 32 = .ok (.goto 4, 3) := qdX9_putAt_0_24.2.2.2.2.2.2.2.2.2.2.2.2.2.2.2.2.2.2.2.1
theorem dX9_putAt_35 : decode cX9_putAt 35 = .ok (.iconst 1, 1) := qdX9_putAt_0_24.2.2.2.2.2.2.2.2.2.2.2.2.2.2.2.2.2.2.2.2.1
theorem dX9_putAt_36 : decode cX9_putAt 36 = .ok (.istore 5, 2) := qdX9_putAt_0_24.2.2.2.2.2.2.2.2.2.2.2.2.2.2.2.2.2.2.2.2.2.1
theorem dX9_putAt_38 : decode cX9_putAt 38 = .ok (.aload_n 0, 1) := qdX9_putAt_0_24.2.2.2.2.2.2.2.2.2.2.2.2.2.2.2.2.2.2.2.2.2.2.1
theorem dX9_putAt_39 : decode cX9_putAt 39 = .ok (.getfield 9, 3) := qdX9_putAt_0_24.2.2.2.2.2.2.2.2.2.2.2.2.2.2.2.2.2.2.2.2.2.2.2.1
theorem qdX9_putAt_42_15 : dcAll cX9_putAt [(42, .bipush 121, 2), (44, .iload_n 1, 1), (45, .imul, 1), (46, .iload_n 2, 1), (47, .iadd, 1), (48, .lload_n 3, 1), (49, .lastore, 1), (50, .aload_n 0, 1), (51, .dup, 1), (52, .getfield 79, 3), (55, .iconst 1, 1), (56, .iadd, 1), (57, .putfield 79, 3), (60, .iload 5, 2), (62, .ireturn, 1)] := dcAll_of (by decide +kernel)
theorem dX9_putAt_42 : decode cX9_putAt 42 = .ok (.bipush 121, 2) := qdX9_putAt_42_15.1
theorem dX9_putAt_44 : decode cX9_putAt 44 = .ok (.iload_n 1, 1) := qdX9_putAt_42_15.2.1
theorem dX9_putAt_45 : decode cX9_putAt 45 = .ok (.imul, 1) := qdX9_putAt_42_15.2.2.1
theorem dX9_putAt_46 : decode cX9_putAt 46 = .ok (.iload_n 2, 1) := qdX9_putAt_42_15.2.2.2.1
theorem dX9_putAt_47 : decode cX9_putAt 47 = .ok (.iadd, 1) := qdX9_putAt_42_15.2.2.2.2.1
theorem dX9_putAt_48 : decode cX9_putAt 48 = .ok (.lload_n 3, 1) := qdX9_putAt_42_15.2.2.2.2.2.1
theorem dX9_putAt_49 : decode cX9_putAt 49 = .ok (.lastore, 1) := qdX9_putAt_42_15.2.2.2.2.2.2.1
theorem dX9_putAt_50 : decode cX9_putAt 50 = .ok (.aload_n 0, 1) := qdX9_putAt_42_15.2.2.2.2.2.2.2.1
theorem dX9_putAt_51 : decode cX9_putAt 51 = .ok (.dup, 1) := qdX9_putAt_42_15.2.2.2.2.2.2.2.2.1
theorem dX9_putAt_52 : decode cX9_putAt 52 = .ok (.getfield 79, 3) := qdX9_putAt_42_15.2.2.2.2.2.2.2.2.2.1
theorem dX9_putAt_55 : decode cX9_putAt 55 = .ok (.iconst 1, 1) := qdX9_putAt_42_15.2.2.2.2.2.2.2.2.2.2.1
theorem dX9_putAt_56 : decode cX9_putAt 56 = .ok (.iadd, 1) := qdX9_putAt_42_15.2.2.2.2.2.2.2.2.2.2.2.1
theorem dX9_putAt_57 : decode cX9_putAt 57 = .ok (.putfield 79, 3) := qdX9_putAt_42_15.2.2.2.2.2.2.2.2.2.2.2.2.1
theorem dX9_putAt_60 : decode cX9_putAt 60 = .ok (.iload 5, 2) := qdX9_putAt_42_15.2.2.2.2.2.2.2.2.2.2.2.2.2.1
theorem dX9_putAt_62 : decode cX9_putAt 62 = .ok (.ireturn, 1) := qdX9_putAt_42_15.2.2.2.2.2.2.2.2.2.2.2.2.2.2.1
theorem ggX9_put_X9_putAt : GoodIn wsX9_put wsX9_putAt := fun w h => ⟨List.mem_cons_of_mem _ (List.mem_append_right _ h), zq_X9_putAt w h⟩
set_option maxRecDepth 20000 in
theorem gX9_put_X9_putAt : GoodIn wsX9_put (wsV RX9 104 RX9 yX9_putAt wsX9_putAt) := goodIn_app (goodIn_r _ [1, 2, 3, 4] rfl rfl) ggX9_put_X9_putAt
theorem qdX9_put_0_7 : dcAll cX9_put [(0, .aload_n 0, 1), (1, .iload_n 1, 1), (2, .iload_n 2, 1), (3, .iload_n 3, 1), (4, .i2l, 1), (5, .invokevirtual 104, 3), (8, .ireturn, 1)] := dcAll_of (by decide +kernel)
theorem dX9_put_0 : decode cX9_put 0 = .ok (.aload_n 0, 1) := qdX9_put_0_7.1
theorem dX9_put_1 : decode cX9_put 1 = .ok (.iload_n 1, 1) := qdX9_put_0_7.2.1
theorem dX9_put_2 : decode cX9_put 2 = .ok (.iload_n 2, 1) := qdX9_put_0_7.2.2.1
theorem dX9_put_3 : decode cX9_put 3 = .ok (.iload_n 3, 1) := qdX9_put_0_7.2.2.2.1
theorem dX9_put_4 : decode cX9_put 4 = .ok (.i2l, 1) := qdX9_put_0_7.2.2.2.2.1
theorem dX9_put_5 : decode cX9_put 5 = .ok (.invokevirtual 104, 3) := qdX9_put_0_7.2.2.2.2.2.1
theorem dX9_put_8 : decode cX9_put 8 = .ok (.ireturn, 1) := qdX9_put_0_7.2.2.2.2.2.2.1
theorem ggX9_putWide_X9_putAt : GoodIn wsX9_putWide wsX9_putAt := fun w h => ⟨List.mem_cons_of_mem _ (List.mem_append_right _ h), zq_X9_putAt w h⟩
set_option maxRecDepth 20000 in
theorem gX9_putWide_X9_putAt : GoodIn wsX9_putWide (wsV RX9 104 RX9 yX9_putAt wsX9_putAt) := goodIn_app (goodIn_r _ [3, 4, 5, 6] rfl rfl) ggX9_putWide_X9_putAt
theorem qdX9_putWide_0_14 : dcAll cX9_putWide [(0, .aload_n 0, 1), (1, .iload_n 1, 1), (2, .iload_n 2, 1), (3, .iload_n 3, 1), (4, .i2l, 1), (5, .ldc2_w 108, 3), (8, .lmul, 1), (9, .iload 4, 2), (11, .i2l, 1), (12, .ldc2_w 110, 3), (15, .land, 1), (16, .ladd, 1), (17, .invokevirtual 104, 3), (20, .ireturn, 1)] := dcAll_of (by decide +kernel)
theorem dX9_putWide_0 : decode cX9_putWide 0 = .ok (.aload_n 0, 1) := qdX9_putWide_0_14.1
theorem dX9_putWide_1 : decode cX9_putWide 1 = .ok (.iload_n 1, 1) := qdX9_putWide_0_14.2.1
theorem dX9_putWide_2 : decode cX9_putWide 2 = .ok (.iload_n 2, 1) := qdX9_putWide_0_14.2.2.1
theorem dX9_putWide_3 : decode cX9_putWide 3 = .ok (.iload_n 3, 1) := qdX9_putWide_0_14.2.2.2.1
theorem dX9_putWide_4 : decode cX9_putWide 4 = .ok (.i2l, 1) := qdX9_putWide_0_14.2.2.2.2.1
theorem dX9_putWide_5 : decode cX9_putWide 5 = .ok (.ldc2_w 108, 3) := qdX9_putWide_0_14.2.2.2.2.2.1
theorem dX9_putWide_8 : decode cX9_putWide 8 = .ok (.lmul, 1) := qdX9_putWide_0_14.2.2.2.2.2.2.1
theorem dX9_putWide_9 : decode cX9_putWide 9 = .ok (.iload 4, 2) := qdX9_putWide_0_14.2.2.2.2.2.2.2.1
theorem dX9_putWide_11 : decode cX9_putWide 11 = .ok (.i2l, 1) := qdX9_putWide_0_14.2.2.2.2.2.2.2.2.1
theorem dX9_putWide_12 : decode cX9_putWide 12 = .ok (.ldc2_w 110, 3) := qdX9_putWide_0_14.2.2.2.2.2.2.2.2.2.1
theorem dX9_putWide_15 : decode cX9_putWide 15 = .ok (.land, 1) := qdX9_putWide_0_14.2.2.2.2.2.2.2.2.2.2.1
theorem dX9_putWide_16 : decode cX9_putWide 16 = .ok (.ladd, 1) := qdX9_putWide_0_14.2.2.2.2.2.2.2.2.2.2.2.1
theorem dX9_putWide_17 : decode cX9_putWide 17 = .ok (.invokevirtual 104, 3) := qdX9_putWide_0_14.2.2.2.2.2.2.2.2.2.2.2.2.1
theorem dX9_putWide_20 : decode cX9_putWide 20 = .ok (.ireturn, 1) := qdX9_putWide_0_14.2.2.2.2.2.2.2.2.2.2.2.2.2.1
theorem ggX9_sow_X9_isOne : GoodIn wsX9_sow wsX9_isOne := fun w h => ⟨List.mem_cons_of_mem _ (List.mem_append_left _ (List.mem_append_left _ (List.mem_append_left _ (List.mem_append_right _ h)))), zq_X9_isOne w h⟩
set_option maxRecDepth 20000 in
theorem gX9_sow_X9_isOne : GoodIn wsX9_sow (va_wsS RX9 89 yX9_isOne wsX9_isOne) := goodIn_app (goodIn_r _ [4, 5, 6] rfl rfl) ggX9_sow_X9_isOne
theorem ggX9_sow_X9_isIn : GoodIn wsX9_sow wsX9_isIn := fun w h => ⟨List.mem_cons_of_mem _ (List.mem_append_left _ (List.mem_append_left _ (List.mem_append_right _ h))), zq_X9_isIn w h⟩
set_option maxRecDepth 20000 in
theorem gX9_sow_X9_isIn : GoodIn wsX9_sow (va_wsS RX9 93 yX9_isIn wsX9_isIn) := goodIn_app (goodIn_r _ [7, 8, 6] rfl rfl) ggX9_sow_X9_isIn
theorem ggX9_sow_X9_isThrown : GoodIn wsX9_sow wsX9_isThrown := fun w h => ⟨List.mem_cons_of_mem _ (List.mem_append_left _ (List.mem_append_right _ h)), zq_X9_isThrown w h⟩
set_option maxRecDepth 20000 in
theorem gX9_sow_X9_isThrown : GoodIn wsX9_sow (wsV RX9 97 RX9 yX9_isThrown wsX9_isThrown) := goodIn_app (goodIn_r _ [9, 10, 11, 6] rfl rfl) ggX9_sow_X9_isThrown
theorem ggX9_sow_X9_become : GoodIn wsX9_sow wsX9_become := fun w h => ⟨List.mem_cons_of_mem _ (List.mem_append_right _ h), zq_X9_become w h⟩
set_option maxRecDepth 20000 in
theorem gX9_sow_X9_become : GoodIn wsX9_sow (wsV RX9 82 RX9 yX9_become wsX9_become) := goodIn_app (goodIn_r _ [12, 13, 14, 6] rfl rfl) ggX9_sow_X9_become
theorem qdX9_sow_0_24 : dcAll cX9_sow [(0, .aload_n 0, 1), (1, .iload_n 1, 1), (2, .invokestatic 89, 3), (5, .iload_n 2, 1), (6, .iconst 0, 1), (7, .ldc 112, 2), (9, .invokestatic 93, 3), (12, .ifCond .eq 18, 3), (15, .iload_n 3, 1), (16, .iconst 0, 1), (17, .sipush 500, 3), (20, .invokestatic 93, 3), (23, .ifCond .eq 7, 3), (26, .iconst 1, 1), (27, .goto 4, 3), (30, .iconst 0, 1), (31, .invokevirtual 97, 3), (34, .ifCond .eq 5, 3), (37, .iconst 0, 1), (38, .ireturn, 1), (39, .bipush 121, 2), (41, .newarray .long, 2), (43, .astore 4, 2), (45, .iload_n 2, 1)] := dcAll_of (by decide +kernel)
theorem dX9_sow_0 : decode cX9_sow 0 = .ok (.aload_n 0, 1) := qdX9_sow_0_24.1
theorem dX9_sow_1 : decode cX9_sow 1 = .ok (.iload_n 1, 1) := qdX9_sow_0_24.2.1
theorem dX9_sow_2 : decode cX9_sow 2 = .ok (.invokestatic 89, 3) := qdX9_sow_0_24.2.2.1
theorem dX9_sow_5 : decode cX9_sow 5 = .ok (.iload_n 2, 1) := qdX9_sow_0_24.2.2.2.1
theorem dX9_sow_6 : decode cX9_sow 6 = .ok (.iconst 0, 1) := qdX9_sow_0_24.2.2.2.2.1
theorem dX9_sow_7 : decode cX9_sow 7 = .ok (.ldc 112, 2) := qdX9_sow_0_24.2.2.2.2.2.1
theorem dX9_sow_9 : decode cX9_sow 9 = .ok (.invokestatic 93, 3) := qdX9_sow_0_24.2.2.2.2.2.2.1
theorem dX9_sow_12 : decode cX9_sow 12 = .ok (.ifCond .eq 18, 3) := qdX9_sow_0_24.2.2.2.2.2.2.2.1
theorem dX9_sow_15 : decode cX9_sow 15 = .ok (.iload_n 3, 1) := qdX9_sow_0_24.2.2.2.2.2.2.2.2.1
theorem dX9_sow_16 : decode cX9_sow 16 = .ok (.iconst 0, 1) := qdX9_sow_0_24.2.2.2.2.2.2.2.2.2.1
theorem dX9_sow_17 : decode cX9_sow 17 = .ok (.sipush 500, 3) := qdX9_sow_0_24.2.2.2.2.2.2.2.2.2.2.1
theorem dX9_sow_20 : decode cX9_sow 20 = .ok (.invokestatic 93, 3) := qdX9_sow_0_24.2.2.2.2.2.2.2.2.2.2.2.1
theorem dX9_sow_23 : decode cX9_sow 23 = .ok (.ifCond .eq 7, 3) := qdX9_sow_0_24.2.2.2.2.2.2.2.2.2.2.2.2.1
theorem dX9_sow_26 : decode cX9_sow 26 = .ok (.iconst 1, 1) := qdX9_sow_0_24.2.2.2.2.2.2.2.2.2.2.2.2.2.1
theorem dX9_sow_27 : decode cX9_sow 27 = .ok (.goto 4, 3) := qdX9_sow_0_24.2.2.2.2.2.2.2.2.2.2.2.2.2.2.1
theorem dX9_sow_30 : decode cX9_sow 30 = .ok (.iconst 0, 1) := qdX9_sow_0_24.2.2.2.2.2.2.2.2.2.2.2.2.2.2.2.1
theorem dX9_sow_31 : decode cX9_sow 31 = .ok (.invokevirtual 97, 3) := qdX9_sow_0_24.2.2.2.2.2.2.2.2.2.2.2.2.2.2.2.2.1
theorem dX9_sow_34 : decode cX9_sow 34 = .ok (.ifCond .eq 5, 3) := qdX9_sow_0_24.2.2.2.2.2.2.2.2.2.2.2.2.2.2.2.2.2.1
theorem dX9_sow_37 : decode cX9_sow 37 = .ok (.iconst 0, 1) := qdX9_sow_0_24.2.2.2.2.2.2.2.2.2.2.2.2.2.2.2.2.2.2.1
theorem dX9_sow_38 : decode cX9_sow 38 = .ok (.ireturn, 1) := qdX9_sow_0_24.2.2.2.2.2.2.2.2.2.2.2.2.2.2.2.2.2.2.2.1
theorem dX9_sow_39 : decode cX9_sow 39 = .ok (.bipush 121, 2) := qdX9_sow_0_24.2.2.2.2.2.2.2.2.2.2.2.2.2.2.2.2.2.2.2.2.1
theorem dX9_sow_41 : decode cX9_sow 41 = .ok (.newarray .long, 2) := qdX9_sow_0_24.2.2.2.2.2.2.2.2.2.2.2.2.2.2.2.2.2.2.2.2.2.1
theorem dX9_sow_43 : decode cX9_sow 43 = .ok (.astore 4, 2) := qdX9_sow_0_24.2.2.2.2.2.2.2.2.2.2.2.2.2.2.2.2.2.2.2.2.2.2.1
theorem dX9_sow_45 : decode cX9_sow 45 = .ok (.iload_n 2, 1) := qdX9_sow_0_24.2.2.2.2.2.2.2.2.2.2.2.2.2.2.2.2.2.2.2.2.2.2.2.1
theorem qdX9_sow_46_24 : dcAll cX9_sow [(46, .istore 5, 2), (48, .iconst 0, 1), (49, .istore 6, 2), (51, .iconst 1, 1), (52, .istore 7, 2), (54, .iload 7, 2), (56, .bipush 120, 2), (58, .if_icmp .gt 63, 3), (61, .iload 5, 2), (63, .sipush 25173, 3), (66, .imul, 1), (67, .sipush 13849, 3), (70, .iadd, 1), (71, .ldc 113, 2), (73, .irem, 1), (74, .istore 5, 2), (76, .aload 4, 2), (78, .iload 7, 2), (80, .iload 5, 2), (82, .bipush 64, 2), (84, .idiv, 1), (85, .iconst 2, 1), (86, .iload_n 3, 1), (87, .imul, 1)] := dcAll_of (by decide +kernel)
theorem dX9_sow_46 : decode cX9_sow 46 = .ok (.istore 5, 2) := qdX9_sow_46_24.1
theorem dX9_sow_48 : decode cX9_sow 48 = .ok (.iconst 0, 1) := qdX9_sow_46_24.2.1
theorem dX9_sow_49 : decode cX9_sow 49 = .ok (.istore 6, 2) := qdX9_sow_46_24.2.2.1
theorem dX9_sow_51 : decode cX9_sow 51 = .ok (.iconst 1, 1) := qdX9_sow_46_24.2.2.2.1
theorem dX9_sow_52 : decode cX9_sow 52 = .ok (.istore 7, 2) := qdX9_sow_46_24.2.2.2.2.1
theorem dX9_sow_54 : decode cX9_sow 54 = .ok (.iload 7, 2) := qdX9_sow_46_24.2.2.2.2.2.1
theorem dX9_sow_56 : decode cX9_sow 56 = .ok (.bipush 120, 2) := qdX9_sow_46_24.2.2.2.2.2.2.1
theorem dX9_sow_58 : decode cX9_sow 58 = .ok (.if_icmp .gt 63, 3) := qdX9_sow_46_24.2.2.2.2.2.2.2.1
theorem dX9_sow_61 : decode cX9_sow 61 = .ok (.iload 5, 2) := qdX9_sow_46_24.2.2.2.2.2.2.2.2.1
theorem dX9_sow_63 : decode cX9_sow 63 = .ok (.sipush 25173, 3) := qdX9_sow_46_24.2.2.2.2.2.2.2.2.2.1
theorem dX9_sow_66 : decode cX9_sow 66 = .ok (.imul, 1) := qdX9_sow_46_24.2.2.2.2.2.2.2.2.2.2.1
theorem dX9_sow_67 : decode cX9_sow 67 = .ok (.sipush 13849, 3) := qdX9_sow_46_24.2.2.2.2.2.2.2.2.2.2.2.1
theorem dX9_sow_70 : decode cX9_sow 70 = .ok (.iadd, 1) := qdX9_sow_46_24.2.2.2.2.2.2.2.2.2.2.2.2.1
theorem dX9_sow_71 : decode cX9_sow 71 = .ok (.ldc 113, 2) := qdX9_sow_46_24.2.2.2.2.2.2.2.2.2.2.2.2.2.1
theorem dX9_sow_73 : decode cX9_sow 73 = .ok (.irem, 1) := qdX9_sow_46_24.2.2.2.2.2.2.2.2.2.2.2.2.2.2.1
theorem dX9_sow_74 : decode cX9_sow 74 = .ok (.istore 5, 2) := qdX9_sow_46_24.2.2.2.2.2.2.2.2.2.2.2.2.2.2.2.1
theorem dX9_sow_76 : decode cX9_sow 76 = .ok (.aload 4, 2) := qdX9_sow_46_24.2.2.2.2.2.2.2.2.2.2.2.2.2.2.2.2.1
theorem dX9_sow_78 : decode cX9_sow 78 = .ok (.iload 7, 2) := qdX9_sow_46_24.2.2.2.2.2.2.2.2.2.2.2.2.2.2.2.2.2.1
theorem dX9_sow_80 : decode cX9_sow 80 = .ok (.iload 5, 2) := qdX9_sow_46_24.2.2.2.2.2.2.2.2.2.2.2.2.2.2.2.2.2.2.1
theorem dX9_sow_82 : decode cX9_sow 82 = .ok (.bipush 64, 2) := qdX9_sow_46_24.2.2.2.2.2.2.2.2.2.2.2.2.2.2.2.2.2.2.2.1
theorem dX9_sow_84 : decode cX9_sow 84 = .ok (.idiv, 1) := qdX9_sow_46_24.2.2.2.2.2.2.2.2.2.2.2.2.2.2.2.2.2.2.2.2.1
theorem dX9_sow_85 : decode cX9_sow 85 = .ok (.iconst 2, 1) := qdX9_sow_46_24.2.2.2.2.2.2.2.2.2.2.2.2.2.2.2.2.2.2.2.2.2.1
theorem dX9_sow_86 : decode cX9_sow 86 = .ok (.iload_n 3, 1) := qdX9_sow_46_24.2.2.2.2.2.2.2.2.2.2.2.2.2.2.2.2.2.2.2.2.2.2.1
theorem dX9_sow_87 : decode cX9_sow 87 = .ok (.imul, 1) := qdX9_sow_46_24.2.2.2.2.2.2.2.2.2.2.2.2.2.2.2.2.2.2.2.2.2.2.2.1
theorem qdX9_sow_88_24 : dcAll cX9_sow [(88, .iconst 1, 1), (89, .iadd, 1), (90, .irem, 1), (91, .iload_n 3, 1), (92, .isub, 1), (93, .i2l, 1), (94, .lastore, 1), (95, .iload 6, 2), (97, .aload 4, 2), (99, .iload 7, 2), (101, .laload, 1), (102, .lconst 0, 1), (103, .lcmp, 1), (104, .ifCond .ne 7, 3), (107, .iconst 1, 1), (108, .goto 4, 3), (111, .iconst 0, 1), (112, .iadd, 1), (113, .istore 6, 2), (115, .iinc 7 1, 3), (118, .goto (-64), 3), (121, .aload_n 0, 1), (122, .iload_n 1, 1), (123, .aload 4, 2)] := dcAll_of (by decide +kernel)
theorem dX9_sow_88 : decode cX9_sow 88 = .ok (.iconst 1, 1) := qdX9_sow_88_24.1
theorem dX9_sow_89 : decode cX9_sow 89 = .ok (.iadd, 1) := qdX9_sow_88_24.2.1
theorem dX9_sow_90 : decode cX9_sow 90 = .ok (.irem, 1) := qdX9_sow_88_24.2.2.1
theorem dX9_sow_91 : decode cX9_sow 91 = .ok (.iload_n 3, 1) := qdX9_sow_88_24.2.2.2.1
theorem dX9_sow_92 : decode cX9_sow 92 = .ok (.isub, 1) := qdX9_sow_88_24.2.2.2.2.1
theorem dX9_sow_93 : decode cX9_sow 93 = .ok (.i2l, 1) := qdX9_sow_88_24.2.2.2.2.2.1
theorem dX9_sow_94 : decode cX9_sow 94 = .ok (.lastore, 1) := qdX9_sow_88_24.2.2.2.2.2.2.1
theorem dX9_sow_95 : decode cX9_sow 95 = .ok (.iload 6, 2) := qdX9_sow_88_24.2.2.2.2.2.2.2.1
theorem dX9_sow_97 : decode cX9_sow 97 = .ok (.aload 4, 2) := qdX9_sow_88_24.2.2.2.2.2.2.2.2.1
theorem dX9_sow_99 : decode cX9_sow 99 = .ok (.iload 7, 2) := qdX9_sow_88_24.2.2.2.2.2.2.2.2.2.1
theorem dX9_sow_101 : decode cX9_sow 101 = .ok (.laload, 1) := qdX9_sow_88_24.2.2.2.2.2.2.2.2.2.2.1
theorem dX9_sow_102 : decode cX9_sow 102 = .ok (.lconst 0, 1) := qdX9_sow_88_24.2.2.2.2.2.2.2.2.2.2.2.1
theorem dX9_sow_103 : decode cX9_sow 103 = .ok (.lcmp, 1) := qdX9_sow_88_24.2.2.2.2.2.2.2.2.2.2.2.2.1
theorem dX9_sow_104 : decode cX9_sow 104 = .ok (.ifCond .ne 7, 3) := qdX9_sow_88_24.2.2.2.2.2.2.2.2.2.2.2.2.2.1
theorem dX9_sow_107 : decode cX9_sow 107 = .ok (.iconst 1, 1) := qdX9_sow_88_24.2.2.2.2.2.2.2.2.2.2.2.2.2.2.1
theorem dX9_sow_108 : decode cX9_sow 108 = .ok (.goto 4, 3) := qdX9_sow_88_24.2.2.2.2.2.2.2.2.2.2.2.2.2.2.2.1
theorem dX9_sow_111 : decode cX9_sow 111 = .ok (.iconst 0, 1) := qdX9_sow_88_24.2.2.2.2.2.2.2.2.2.2.2.2.2.2.2.2.1
theorem dX9_sow_112 : decode cX9_sow 112 = .ok (.iadd, 1) := qdX9_sow_88_24.2.2.2.2.2.2.2.2.2.2.2.2.2.2.2.2.2.1
theorem dX9_sow_113 : decode cX9_sow 113 = .ok (.istore 6, 2) := qdX9_sow_88_24.2.2.2.2.2.2.2.2.2.2.2.2.2.2.2.2.2.2.1
theorem dX9_sow_115 : decode cX9_sow 115 = .ok (.iinc 7 1, 3) := qdX9_sow_88_24.2.2.2.2.2.2.2.2.2.2.2.2.2.2.2.2.2.2.2.1
theorem dX9_sow_118 : decode cX9_sow 118 = .ok (.goto (-64), 3) := qdX9_sow_88_24.2.2.2.2.2.2.2.2.2.2.2.2.2.2.2.2.2.2.2.2.1
theorem dX9_sow_121 : decode cX9_sow 121 = .ok (.aload_n 0, 1) := qdX9_sow_88_24.2.2.2.2.2.2.2.2.2.2.2.2.2.2.2.2.2.2.2.2.2.1
theorem dX9_sow_122 : decode cX9_sow 122 = .ok (.iload_n 1, 1) := qdX9_sow_88_24.2.2.2.2.2.2.2.2.2.2.2.2.2.2.2.2.2.2.2.2.2.2.1
theorem dX9_sow_123 : decode cX9_sow 123 = .ok (.aload 4, 2) := qdX9_sow_88_24.2.2.2.2.2.2.2.2.2.2.2.2.2.2.2.2.2.2.2.2.2.2.2.1
theorem qdX9_sow_125_4 : dcAll cX9_sow [(125, .invokevirtual 82, 3), (128, .pop, 1), (129, .iload 6, 2), (131, .ireturn, 1)] := dcAll_of (by decide +kernel)
theorem dX9_sow_125 : decode cX9_sow 125 = .ok (.invokevirtual 82, 3) := qdX9_sow_125_4.1
theorem dX9_sow_128 : decode cX9_sow 128 = .ok (.pop, 1) := qdX9_sow_125_4.2.1
theorem dX9_sow_129 : decode cX9_sow 129 = .ok (.iload 6, 2) := qdX9_sow_125_4.2.2.1
theorem dX9_sow_131 : decode cX9_sow 131 = .ok (.ireturn, 1) := qdX9_sow_125_4.2.2.2.1
theorem ggX9_copy_X9_isOne : GoodIn wsX9_copy wsX9_isOne := fun w h => ⟨List.mem_cons_of_mem _ (List.mem_append_left _ (List.mem_append_left _ (List.mem_append_left _ (List.mem_append_right _ h)))), zq_X9_isOne w h⟩
set_option maxRecDepth 20000 in
theorem gX9_copy_X9_isOne : GoodIn wsX9_copy (va_wsS RX9 89 yX9_isOne wsX9_isOne) := goodIn_app (goodIn_r _ [1, 2, 3] rfl rfl) ggX9_copy_X9_isOne
theorem ggX9_copy_X9_isThrown : GoodIn wsX9_copy wsX9_isThrown := fun w h => ⟨List.mem_cons_of_mem _ (List.mem_append_left _ (List.mem_append_left _ (List.mem_append_right _ h))), zq_X9_isThrown w h⟩
set_option maxRecDepth 20000 in
theorem gX9_copy_X9_isThrown : GoodIn wsX9_copy (wsV RX9 97 RX9 yX9_isThrown wsX9_isThrown) := goodIn_app (goodIn_r _ [4, 5, 6, 3] rfl rfl) ggX9_copy_X9_isThrown
theorem ggX9_copy_X9_of : GoodIn wsX9_copy wsX9_of := fun w h => ⟨List.mem_cons_of_mem _ (List.mem_append_left _ (List.mem_append_right _ h)), zq_X9_of w h⟩
set_option maxRecDepth 20000 in
theorem gX9_copy_X9_of : GoodIn wsX9_copy (wsV RX9 114 RX9 yX9_of wsX9_of) := goodIn_app (goodIn_r _ [7, 8, 9, 3] rfl rfl) ggX9_copy_X9_of
theorem ggX9_copy_X9_become : GoodIn wsX9_copy wsX9_become := fun w h => ⟨List.mem_cons_of_mem _ (List.mem_append_right _ h), zq_X9_become w h⟩
set_option maxRecDepth 20000 in
theorem gX9_copy_X9_become : GoodIn wsX9_copy (wsV RX9 82 RX9 yX9_become wsX9_become) := goodIn_app (goodIn_r _ [10, 11, 12, 3] rfl rfl) ggX9_copy_X9_become
theorem qdX9_copy_0_22 : dcAll cX9_copy [(0, .aload_n 0, 1), (1, .iload_n 1, 1), (2, .invokestatic 89, 3), (5, .ifCond .eq 14, 3), (8, .iload_n 2, 1), (9, .invokestatic 89, 3), (12, .ifCond .eq 7, 3), (15, .iconst 1, 1), (16, .goto 4, 3), (19, .iconst 0, 1), (20, .iconst 1, 1), (21, .invokevirtual 97, 3), (24, .ifCond .eq 7, 3), (27, .iconst 0, 1), (28, .goto 13, 3), (31, .aload_n 0, 1), (32, .iload_n 2, 1), (33, .aload_n 0, 1), (34, .iload_n 1, 1), (35, .invokevirtual 114, 3), (38, .invokevirtual 82, 3), (41, .ireturn, 1)] := dcAll_of (by decide +kernel)
theorem dX9_copy_0 : decode cX9_copy 0 = .ok (.aload_n 0, 1) := qdX9_copy_0_22.1
theorem dX9_copy_1 : decode cX9_copy 1 = .ok (.iload_n 1, 1) := qdX9_copy_0_22.2.1
theorem dX9_copy_2 : decode cX9_copy 2 = .ok (.invokestatic 89, 3) := qdX9_copy_0_22.2.2.1
theorem dX9_copy_5 : decode cX9_copy 5 = .ok (.ifCond .eq 14, 3) := qdX9_copy_0_22.2.2.2.1
theorem dX9_copy_8 : decode cX9_copy 8 = .ok (.iload_n 2, 1) := qdX9_copy_0_22.2.2.2.2.1
theorem dX9_copy_9 : decode cX9_copy 9 = .ok (.invokestatic 89, 3) := qdX9_copy_0_22.2.2.2.2.2.1
theorem dX9_copy_12 : decode cX9_copy 12 = .ok (.ifCond .eq 7, 3) := qdX9_copy_0_22.2.2.2.2.2.2.1
theorem dX9_copy_15 : decode cX9_copy 15 = .ok (.iconst 1, 1) := qdX9_copy_0_22.2.2.2.2.2.2.2.1
theorem dX9_copy_16 : decode cX9_copy 16 = .ok (.goto 4, 3) := qdX9_copy_0_22.2.2.2.2.2.2.2.2.1
theorem dX9_copy_19 : decode cX9_copy 19 = .ok (.iconst 0, 1) := qdX9_copy_0_22.2.2.2.2.2.2.2.2.2.1
theorem dX9_copy_20 : decode cX9_copy 20 = .ok (.iconst 1, 1) := qdX9_copy_0_22.2.2.2.2.2.2.2.2.2.2.1
theorem dX9_copy_21 : decode cX9_copy 21 = .ok (.invokevirtual 97, 3) := qdX9_copy_0_22.2.2.2.2.2.2.2.2.2.2.2.1
theorem dX9_copy_24 : decode cX9_copy 24 = .ok (.ifCond .eq 7, 3) := qdX9_copy_0_22.2.2.2.2.2.2.2.2.2.2.2.2.1
theorem dX9_copy_27 : decode cX9_copy 27 = .ok (.iconst 0, 1) := qdX9_copy_0_22.2.2.2.2.2.2.2.2.2.2.2.2.2.1
theorem dX9_copy_28 : decode cX9_copy 28 = .ok (.goto 13, 3) := qdX9_copy_0_22.2.2.2.2.2.2.2.2.2.2.2.2.2.2.1
theorem dX9_copy_31 : decode cX9_copy 31 = .ok (.aload_n 0, 1) := qdX9_copy_0_22.2.2.2.2.2.2.2.2.2.2.2.2.2.2.2.1
theorem dX9_copy_32 : decode cX9_copy 32 = .ok (.iload_n 2, 1) := qdX9_copy_0_22.2.2.2.2.2.2.2.2.2.2.2.2.2.2.2.2.1
theorem dX9_copy_33 : decode cX9_copy 33 = .ok (.aload_n 0, 1) := qdX9_copy_0_22.2.2.2.2.2.2.2.2.2.2.2.2.2.2.2.2.2.1
theorem dX9_copy_34 : decode cX9_copy 34 = .ok (.iload_n 1, 1) := qdX9_copy_0_22.2.2.2.2.2.2.2.2.2.2.2.2.2.2.2.2.2.2.1
theorem dX9_copy_35 : decode cX9_copy 35 = .ok (.invokevirtual 114, 3) := qdX9_copy_0_22.2.2.2.2.2.2.2.2.2.2.2.2.2.2.2.2.2.2.2.1
theorem dX9_copy_38 : decode cX9_copy 38 = .ok (.invokevirtual 82, 3) := qdX9_copy_0_22.2.2.2.2.2.2.2.2.2.2.2.2.2.2.2.2.2.2.2.2.1
theorem dX9_copy_41 : decode cX9_copy 41 = .ok (.ireturn, 1) := qdX9_copy_0_22.2.2.2.2.2.2.2.2.2.2.2.2.2.2.2.2.2.2.2.2.2.1
theorem ggX9_swap_X9_isOne : GoodIn wsX9_swap wsX9_isOne := fun w h => ⟨List.mem_cons_of_mem _ (List.mem_append_left _ (List.mem_append_left _ (List.mem_append_left _ (List.mem_append_right _ h)))), zq_X9_isOne w h⟩
set_option maxRecDepth 20000 in
theorem gX9_swap_X9_isOne : GoodIn wsX9_swap (va_wsS RX9 89 yX9_isOne wsX9_isOne) := goodIn_app (goodIn_r _ [1, 2, 3] rfl rfl) ggX9_swap_X9_isOne
theorem ggX9_swap_X9_isThrown : GoodIn wsX9_swap wsX9_isThrown := fun w h => ⟨List.mem_cons_of_mem _ (List.mem_append_left _ (List.mem_append_left _ (List.mem_append_right _ h))), zq_X9_isThrown w h⟩
set_option maxRecDepth 20000 in
theorem gX9_swap_X9_isThrown : GoodIn wsX9_swap (wsV RX9 97 RX9 yX9_isThrown wsX9_isThrown) := goodIn_app (goodIn_r _ [4, 5, 6, 3] rfl rfl) ggX9_swap_X9_isThrown
theorem ggX9_swap_X9_of : GoodIn wsX9_swap wsX9_of := fun w h => ⟨List.mem_cons_of_mem _ (List.mem_append_left _ (List.mem_append_right _ h)), zq_X9_of w h⟩
set_option maxRecDepth 20000 in
theorem gX9_swap_X9_of : GoodIn wsX9_swap (wsV RX9 114 RX9 yX9_of wsX9_of) := goodIn_app (goodIn_r _ [7, 8, 9, 3] rfl rfl) ggX9_swap_X9_of
theorem ggX9_swap_X9_become : GoodIn wsX9_swap wsX9_become := fun w h => ⟨List.mem_cons_of_mem _ (List.mem_append_right _ h), zq_X9_become w h⟩
set_option maxRecDepth 20000 in
theorem gX9_swap_X9_become : GoodIn wsX9_swap (wsV RX9 82 RX9 yX9_become wsX9_become) := goodIn_app (goodIn_r _ [10, 11, 12, 3] rfl rfl) ggX9_swap_X9_become
theorem qdX9_swap_0_24 : dcAll cX9_swap [(0, .aload_n 0, 1), (1, .iload_n 1, 1), (2, .invokestatic 89, 3), (5, .ifCond .eq 14, 3), (8, .iload_n 2, 1), (9, .invokestatic 89, 3), (12, .ifCond .eq 7, 3), (15, .iconst 1, 1), (16, .goto 4, 3), (19, .iconst 0, 1), (20, .iconst 1, 1), (21, .invokevirtual 97, 3), (24, .ifCond .eq 5, 3), (27, .iconst 0, 1), (28, .ireturn, 1), (29, .aload_n 0, 1), (30, .iload_n 2, 1), (31, .invokevirtual 114, 3), (34, .astore_n 3, 1), (35, .aload_n 0, 1), (36, .iload_n 2, 1), (37, .aload_n 0, 1), (38, .iload_n 1, 1), (39, .invokevirtual 114, 3)] := dcAll_of (by decide +kernel)
theorem dX9_swap_0 : decode cX9_swap 0 = .ok (.aload_n 0, 1) := qdX9_swap_0_24.1
theorem dX9_swap_1 : decode cX9_swap 1 = .ok (.iload_n 1, 1) := qdX9_swap_0_24.2.1
theorem dX9_swap_2 : decode cX9_swap 2 = .ok (.invokestatic 89, 3) := qdX9_swap_0_24.2.2.1
theorem dX9_swap_5 : decode cX9_swap 5 = .ok (.ifCond .eq 14, 3) := qdX9_swap_0_24.2.2.2.1
theorem dX9_swap_8 : decode cX9_swap 8 = .ok (.iload_n 2, 1) := qdX9_swap_0_24.2.2.2.2.1
theorem dX9_swap_9 : decode cX9_swap 9 = .ok (.invokestatic 89, 3) := qdX9_swap_0_24.2.2.2.2.2.1
theorem dX9_swap_12 : decode cX9_swap 12 = .ok (.ifCond .eq 7, 3) := qdX9_swap_0_24.2.2.2.2.2.2.1
theorem dX9_swap_15 : decode cX9_swap 15 = .ok (.iconst 1, 1) := qdX9_swap_0_24.2.2.2.2.2.2.2.1
theorem dX9_swap_16 : decode cX9_swap 16 = .ok (.goto 4, 3) := qdX9_swap_0_24.2.2.2.2.2.2.2.2.1
theorem dX9_swap_19 : decode cX9_swap 19 = .ok (.iconst 0, 1) := qdX9_swap_0_24.2.2.2.2.2.2.2.2.2.1
theorem dX9_swap_20 : decode cX9_swap 20 = .ok (.iconst 1, 1) := qdX9_swap_0_24.2.2.2.2.2.2.2.2.2.2.1
theorem dX9_swap_21 : decode cX9_swap 21 = .ok (.invokevirtual 97, 3) := qdX9_swap_0_24.2.2.2.2.2.2.2.2.2.2.2.1
theorem dX9_swap_24 : decode cX9_swap 24 = .ok (.ifCond .eq 5, 3) := qdX9_swap_0_24.2.2.2.2.2.2.2.2.2.2.2.2.1
theorem dX9_swap_27 : decode cX9_swap 27 = .ok (.iconst 0, 1) := qdX9_swap_0_24.2.2.2.2.2.2.2.2.2.2.2.2.2.1
theorem dX9_swap_28 : decode cX9_swap 28 = .ok (.ireturn, 1) := qdX9_swap_0_24.2.2.2.2.2.2.2.2.2.2.2.2.2.2.1
theorem dX9_swap_29 : decode cX9_swap 29 = .ok (.aload_n 0, 1) := qdX9_swap_0_24.2.2.2.2.2.2.2.2.2.2.2.2.2.2.2.1
theorem dX9_swap_30 : decode cX9_swap 30 = .ok (.iload_n 2, 1) := qdX9_swap_0_24.2.2.2.2.2.2.2.2.2.2.2.2.2.2.2.2.1
theorem dX9_swap_31 : decode cX9_swap 31 = .ok (.invokevirtual 114, 3) := qdX9_swap_0_24.2.2.2.2.2.2.2.2.2.2.2.2.2.2.2.2.2.1
theorem dX9_swap_34 : decode cX9_swap 34 = .ok (.astore_n 3, 1) := qdX9_swap_0_24.2.2.2.2.2.2.2.2.2.2.2.2.2.2.2.2.2.2.1
theorem dX9_swap_35 : decode cX9_swap 35 = .ok (.aload_n 0, 1) := qdX9_swap_0_24.2.2.2.2.2.2.2.2.2.2.2.2.2.2.2.2.2.2.2.1
theorem dX9_swap_36 : decode cX9_swap 36 = .ok (.iload_n 2, 1) := qdX9_swap_0_24.2.2.2.2.2.2.2.2.2.2.2.2.2.2.2.2.2.2.2.2.1
theorem dX9_swap_37 : decode cX9_swap 37 = .ok (.aload_n 0, 1) := qdX9_swap_0_24.2.2.2.2.2.2.2.2.2.2.2.2.2.2.2.2.2.2.2.2.2.1
theorem dX9_swap_38 : decode cX9_swap 38 = .ok (.iload_n 1, 1) := qdX9_swap_0_24.2.2.2.2.2.2.2.2.2.2.2.2.2.2.2.2.2.2.2.2.2.2.1
theorem dX9_swap_39 : decode cX9_swap 39 = .ok (.invokevirtual 114, 3) := qdX9_swap_0_24.2.2.2.2.2.2.2.2.2.2.2.2.2.2.2.2.2.2.2.2.2.2.2.1
theorem qdX9_swap_42_15 : dcAll cX9_swap [(42, .invokevirtual 82, 3), (45, .istore 4, 2), (47, .aload_n 0, 1), (48, .iload_n 1, 1), (49, .aload_n 3, 1), (50, .invokevirtual 82, 3), (53, .pop, 1), (54, .aload_n 0, 1), (55, .dup, 1), (56, .getfield 79, 3), (59, .iconst 1, 1), (60, .isub, 1), (61, .putfield 79, 3), (64, .iload 4, 2), (66, .ireturn, 1)] := dcAll_of (by decide +kernel)
theorem dX9_swap_42 : decode cX9_swap 42 = .ok (.invokevirtual 82, 3) := qdX9_swap_42_15.1
theorem dX9_swap_45 : decode cX9_swap 45 = .ok (.istore 4, 2) := qdX9_swap_42_15.2.1
theorem dX9_swap_47 : decode cX9_swap 47 = .ok (.aload_n 0, 1) := qdX9_swap_42_15.2.2.1
theorem dX9_swap_48 : decode cX9_swap 48 = .ok (.iload_n 1, 1) := qdX9_swap_42_15.2.2.2.1
theorem dX9_swap_49 : decode cX9_swap 49 = .ok (.aload_n 3, 1) := qdX9_swap_42_15.2.2.2.2.1
theorem dX9_swap_50 : decode cX9_swap 50 = .ok (.invokevirtual 82, 3) := qdX9_swap_42_15.2.2.2.2.2.1
theorem dX9_swap_53 : decode cX9_swap 53 = .ok (.pop, 1) := qdX9_swap_42_15.2.2.2.2.2.2.1
theorem dX9_swap_54 : decode cX9_swap 54 = .ok (.aload_n 0, 1) := qdX9_swap_42_15.2.2.2.2.2.2.2.1
theorem dX9_swap_55 : decode cX9_swap 55 = .ok (.dup, 1) := qdX9_swap_42_15.2.2.2.2.2.2.2.2.1
theorem dX9_swap_56 : decode cX9_swap 56 = .ok (.getfield 79, 3) := qdX9_swap_42_15.2.2.2.2.2.2.2.2.2.1
theorem dX9_swap_59 : decode cX9_swap 59 = .ok (.iconst 1, 1) := qdX9_swap_42_15.2.2.2.2.2.2.2.2.2.2.1
theorem dX9_swap_60 : decode cX9_swap 60 = .ok (.isub, 1) := qdX9_swap_42_15.2.2.2.2.2.2.2.2.2.2.2.1
theorem dX9_swap_61 : decode cX9_swap 61 = .ok (.putfield 79, 3) := qdX9_swap_42_15.2.2.2.2.2.2.2.2.2.2.2.2.1
theorem dX9_swap_64 : decode cX9_swap 64 = .ok (.iload 4, 2) := qdX9_swap_42_15.2.2.2.2.2.2.2.2.2.2.2.2.2.1
theorem dX9_swap_66 : decode cX9_swap 66 = .ok (.ireturn, 1) := qdX9_swap_42_15.2.2.2.2.2.2.2.2.2.2.2.2.2.2.1
theorem ggX9_meet_X9_isOne : GoodIn wsX9_meet wsX9_isOne := fun w h => ⟨List.mem_cons_of_mem _ (List.mem_append_left _ (List.mem_append_left _ (List.mem_append_left _ (List.mem_append_left _ (List.mem_append_left _ (List.mem_append_left _ (List.mem_append_right _ h))))))), zq_X9_isOne w h⟩
set_option maxRecDepth 20000 in
theorem gX9_meet_X9_isOne : GoodIn wsX9_meet (va_wsS RX9 89 yX9_isOne wsX9_isOne) := goodIn_app (goodIn_r _ [2, 3, 4] rfl rfl) ggX9_meet_X9_isOne
theorem ggX9_meet_X9_isIn : GoodIn wsX9_meet wsX9_isIn := fun w h => ⟨List.mem_cons_of_mem _ (List.mem_append_left _ (List.mem_append_left _ (List.mem_append_left _ (List.mem_append_left _ (List.mem_append_left _ (List.mem_append_right _ h)))))), zq_X9_isIn w h⟩
set_option maxRecDepth 20000 in
theorem gX9_meet_X9_isIn : GoodIn wsX9_meet (va_wsS RX9 93 yX9_isIn wsX9_isIn) := goodIn_app (goodIn_r _ [5, 6, 4] rfl rfl) ggX9_meet_X9_isIn
theorem ggX9_meet_X9_isThrown : GoodIn wsX9_meet wsX9_isThrown := fun w h => ⟨List.mem_cons_of_mem _ (List.mem_append_left _ (List.mem_append_left _ (List.mem_append_left _ (List.mem_append_left _ (List.mem_append_right _ h))))), zq_X9_isThrown w h⟩
set_option maxRecDepth 20000 in
theorem gX9_meet_X9_isThrown : GoodIn wsX9_meet (wsV RX9 97 RX9 yX9_isThrown wsX9_isThrown) := goodIn_app (goodIn_r _ [7, 8, 9, 4] rfl rfl) ggX9_meet_X9_isThrown
theorem ggX9_meet_X9_at : GoodIn wsX9_meet wsX9_at := fun w h => ⟨List.mem_cons_of_mem _ (List.mem_append_left _ (List.mem_append_left _ (List.mem_append_left _ (List.mem_append_right _ h)))), zq_X9_at w h⟩
set_option maxRecDepth 20000 in
theorem gX9_meet_X9_at : GoodIn wsX9_meet (wsV RX9 75 RX9 yX9_at wsX9_at) := goodIn_app (goodIn_r _ [10, 11, 12, 4] rfl rfl) ggX9_meet_X9_at
theorem ggX9_meet_X9_plus : GoodIn wsX9_meet wsX9_plus := fun w h => ⟨List.mem_cons_of_mem _ (List.mem_append_left _ (List.mem_append_left _ (List.mem_append_right _ h))), zq_X9_plus w h⟩
set_option maxRecDepth 20000 in
theorem gX9_meet_X9_plus : GoodIn wsX9_meet (wsV RX9 62 RX9 yX9_plus wsX9_plus) := goodIn_app (goodIn_r _ [13, 14, 15, 4] rfl rfl) ggX9_meet_X9_plus
theorem ggX9_meet_X9_times : GoodIn wsX9_meet wsX9_times := fun w h => ⟨List.mem_cons_of_mem _ (List.mem_append_left _ (List.mem_append_right _ h)), zq_X9_times w h⟩
set_option maxRecDepth 20000 in
theorem gX9_meet_X9_times : GoodIn wsX9_meet (wsV RX9 58 RX9 yX9_times wsX9_times) := goodIn_app (goodIn_r _ [16, 17, 18, 4] rfl rfl) ggX9_meet_X9_times
theorem ggX9_meet_X9_becomeOrNot : GoodIn wsX9_meet wsX9_becomeOrNot := fun w h => ⟨List.mem_cons_of_mem _ (List.mem_append_right _ h), zq_X9_becomeOrNot w h⟩
set_option maxRecDepth 20000 in
theorem gX9_meet_X9_becomeOrNot : GoodIn wsX9_meet (wsV RX9 118 RX9 yX9_becomeOrNot wsX9_becomeOrNot) := goodIn_app (goodIn_r _ [19, 20, 21, 4] rfl rfl) ggX9_meet_X9_becomeOrNot
theorem qdX9_meet_0_24 : dcAll cX9_meet [(0, .aload_n 0, 1), (1, .iload_n 1, 1), (2, .invokestatic 89, 3), (5, .ifCond .eq 22, 3), (8, .iload_n 2, 1), (9, .invokestatic 89, 3), (12, .ifCond .eq 15, 3), (15, .iload 4, 2), (17, .invokestatic 89, 3), (20, .ifCond .eq 7, 3), (23, .iconst 1, 1), (24, .goto 4, 3), (27, .iconst 0, 1), (28, .iload_n 3, 1), (29, .iconst 0, 1), (30, .iconst 2, 1), (31, .invokestatic 93, 3), (34, .invokevirtual 97, 3), (37, .ifCond .eq 5, 3), (40, .iconst 0, 1), (41, .ireturn, 1), (42, .bipush 121, 2), (44, .newarray .long, 2), (46, .astore 5, 2)] := dcAll_of (by decide +kernel)
theorem dX9_meet_0 : decode cX9_meet 0 = .ok (.aload_n 0, 1) := qdX9_meet_0_24.1
theorem dX9_meet_1 : decode cX9_meet 1 = .ok (.iload_n 1, 1) := qdX9_meet_0_24.2.1
theorem dX9_meet_2 : decode cX9_meet 2 = .ok (.invokestatic 89, 3) := qdX9_meet_0_24.2.2.1
theorem dX9_meet_5 : decode cX9_meet 5 = .ok (.ifCond .eq 22, 3) := qdX9_meet_0_24.2.2.2.1
theorem dX9_meet_8 : decode cX9_meet 8 = .ok (.iload_n 2, 1) := qdX9_meet_0_24.2.2.2.2.1
theorem dX9_meet_9 : decode cX9_meet 9 = .ok (.invokestatic 89, 3) := qdX9_meet_0_24.2.2.2.2.2.1
theorem dX9_meet_12 : decode cX9_meet 12 = .ok (.ifCond .eq 15, 3) := qdX9_meet_0_24.2.2.2.2.2.2.1
theorem dX9_meet_15 : decode cX9_meet 15 = .ok (.iload 4, 2) := qdX9_meet_0_24.2.2.2.2.2.2.2.1
theorem dX9_meet_17 : decode cX9_meet 17 = .ok (.invokestatic 89, 3) := qdX9_meet_0_24.2.2.2.2.2.2.2.2.1
theorem dX9_meet_20 : decode cX9_meet 20 = .ok (.ifCond .eq 7, 3) := qdX9_meet_0_24.2.2.2.2.2.2.2.2.2.1
theorem dX9_meet_23 : decode cX9_meet 23 = .ok (.iconst 1, 1) := qdX9_meet_0_24.2.2.2.2.2.2.2.2.2.2.1
theorem dX9_meet_24 : decode cX9_meet 24 = .ok (.goto 4, 3) := qdX9_meet_0_24.2.2.2.2.2.2.2.2.2.2.2.1
theorem dX9_meet_27 : decode cX9_meet 27 = .ok (.iconst 0, 1) := qdX9_meet_0_24.2.2.2.2.2.2.2.2.2.2.2.2.1
theorem dX9_meet_28 : decode cX9_meet 28 = .ok (.iload_n 3, 1) := qdX9_meet_0_24.2.2.2.2.2.2.2.2.2.2.2.2.2.1
theorem dX9_meet_29 : decode cX9_meet 29 = .ok (.iconst 0, 1) := qdX9_meet_0_24.2.2.2.2.2.2.2.2.2.2.2.2.2.2.1
theorem dX9_meet_30 : decode cX9_meet 30 = .ok (.iconst 2, 1) := qdX9_meet_0_24.2.2.2.2.2.2.2.2.2.2.2.2.2.2.2.1
theorem dX9_meet_31 : decode cX9_meet 31 = .ok (.invokestatic 93, 3) := qdX9_meet_0_24.2.2.2.2.2.2.2.2.2.2.2.2.2.2.2.2.1
theorem dX9_meet_34 : decode cX9_meet 34 = .ok (.invokevirtual 97, 3) := qdX9_meet_0_24.2.2.2.2.2.2.2.2.2.2.2.2.2.2.2.2.2.1
theorem dX9_meet_37 : decode cX9_meet 37 = .ok (.ifCond .eq 5, 3) := qdX9_meet_0_24.2.2.2.2.2.2.2.2.2.2.2.2.2.2.2.2.2.2.1
theorem dX9_meet_40 : decode cX9_meet 40 = .ok (.iconst 0, 1) := qdX9_meet_0_24.2.2.2.2.2.2.2.2.2.2.2.2.2.2.2.2.2.2.2.1
theorem dX9_meet_41 : decode cX9_meet 41 = .ok (.ireturn, 1) := qdX9_meet_0_24.2.2.2.2.2.2.2.2.2.2.2.2.2.2.2.2.2.2.2.2.1
theorem dX9_meet_42 : decode cX9_meet 42 = .ok (.bipush 121, 2) := qdX9_meet_0_24.2.2.2.2.2.2.2.2.2.2.2.2.2.2.2.2.2.2.2.2.2.1
theorem dX9_meet_44 : decode cX9_meet 44 = .ok (.newarray .long, 2) := qdX9_meet_0_24.2.2.2.2.2.2.2.2.2.2.2.2.2.2.2.2.2.2.2.2.2.2.1
theorem dX9_meet_46 : decode cX9_meet 46 = .ok (.astore 5, 2) := qdX9_meet_0_24.2.2.2.2.2.2.2.2.2.2.2.2.2.2.2.2.2.2.2.2.2.2.2.1
theorem qdX9_meet_48_24 : dcAll cX9_meet [(48, .aload_n 0, 1), (49, .iconst 0, 1), (50, .putfield 36, 3), (53, .iconst 1, 1), (54, .istore 6, 2), (56, .iload 6, 2), (58, .bipush 120, 2), (60, .if_icmp .gt 126, 3), (63, .aload_n 0, 1), (64, .iload_n 1, 1), (65, .iload 6, 2), (67, .invokevirtual 75, 3), (70, .lstore 7, 2), (72, .aload_n 0, 1), (73, .iload_n 2, 1), (74, .iload 6, 2), (76, .invokevirtual 75, 3), (79, .lstore 9, 2), (81, .aload 5, 2), (83, .iload 6, 2), (85, .iload_n 3, 1), (86, .ifCond .ne 14, 3), (89, .aload_n 0, 1), (90, .lload 7, 2)] := dcAll_of (by decide +kernel)
theorem dX9_meet_48 : decode cX9_meet 48 = .ok (.aload_n 0, 1) := qdX9_meet_48_24.1
theorem dX9_meet_49 : decode cX9_meet 49 = .ok (.iconst 0, 1) := qdX9_meet_48_24.2.1
theorem dX9_meet_50 : decode cX9_meet 50 = .ok (.putfield 36, 3) := qdX9_meet_48_24.2.2.1
theorem dX9_meet_53 : decode cX9_meet 53 = .ok (.iconst 1, 1) := qdX9_meet_48_24.2.2.2.1
theorem dX9_meet_54 : decode cX9_meet 54 = .ok (.istore 6, 2) := qdX9_meet_48_24.2.2.2.2.1
theorem dX9_meet_56 : decode cX9_meet 56 = .ok (.iload 6, 2) := qdX9_meet_48_24.2.2.2.2.2.1
theorem dX9_meet_58 : decode cX9_meet 58 = .ok (.bipush 120, 2) := qdX9_meet_48_24.2.2.2.2.2.2.1
theorem dX9_meet_60 : decode cX9_meet 60 = .ok (.if_icmp .gt 126, 3) := qdX9_meet_48_24.2.2.2.2.2.2.2.1
theorem dX9_meet_63 : decode cX9_meet 63 = .ok (.aload_n 0, 1) := qdX9_meet_48_24.2.2.2.2.2.2.2.2.1
theorem dX9_meet_64 : decode cX9_meet 64 = .ok (.iload_n 1, 1) := qdX9_meet_48_24.2.2.2.2.2.2.2.2.2.1
theorem dX9_meet_65 : decode cX9_meet 65 = .ok (.iload 6, 2) := qdX9_meet_48_24.2.2.2.2.2.2.2.2.2.2.1
theorem dX9_meet_67 : decode cX9_meet 67 = .ok (.invokevirtual 75, 3) := qdX9_meet_48_24.2.2.2.2.2.2.2.2.2.2.2.1
theorem dX9_meet_70 : decode cX9_meet 70 = .ok (.lstore 7, 2) := qdX9_meet_48_24.2.2.2.2.2.2.2.2.2.2.2.2.1
theorem dX9_meet_72 : decode cX9_meet 72 = .ok (.aload_n 0, 1) := qdX9_meet_48_24.2.2.2.2.2.2.2.2.2.2.2.2.2.1
theorem dX9_meet_73 : decode cX9_meet 73 = .ok (.iload_n 2, 1) := qdX9_meet_48_24.2.2.2.2.2.2.2.2.2.2.2.2.2.2.1
theorem dX9_meet_74 : decode cX9_meet 74 = .ok (.iload 6, 2) := qdX9_meet_48_24.2.2.2.2.2.2.2.2.2.2.2.2.2.2.2.1
theorem dX9_meet_76 : decode cX9_meet 76 = .ok (.invokevirtual 75, 3) := qdX9_meet_48_24.2.2.2.2.2.2.2.2.2.2.2.2.2.2.2.2.1
theorem dX9_meet_79 : decode cX9_meet 79 = .ok (.lstore 9, 2) := qdX9_meet_48_24.2.2.2.2.2.2.2.2.2.2.2.2.2.2.2.2.2.1
theorem dX9_meet_81 : decode cX9_meet 81 = .ok (.aload 5, 2) := qdX9_meet_48_24.2.2.2.2.2.2.2.2.2.2.2.2.2.2.2.2.2.2.1
theorem dX9_meet_83 : decode cX9_meet 83 = .ok (.iload 6, 2) := qdX9_meet_48_24.2.2.2.2.2.2.2.2.2.2.2.2.2.2.2.2.2.2.2.1
theorem dX9_meet_85 : decode cX9_meet 85 = .ok (.iload_n 3, 1) := qdX9_meet_48_24.2.2.2.2.2.2.2.2.2.2.2.2.2.2.2.2.2.2.2.2.1
theorem dX9_meet_86 : decode cX9_meet 86 = .ok (.ifCond .ne 14, 3) := qdX9_meet_48_24.2.2.2.2.2.2.2.2.2.2.2.2.2.2.2.2.2.2.2.2.2.1
theorem dX9_meet_89 : decode cX9_meet 89 = .ok (.aload_n 0, 1) := qdX9_meet_48_24.2.2.2.2.2.2.2.2.2.2.2.2.2.2.2.2.2.2.2.2.2.2.1
theorem dX9_meet_90 : decode cX9_meet 90 = .ok (.lload 7, 2) := qdX9_meet_48_24.2.2.2.2.2.2.2.2.2.2.2.2.2.2.2.2.2.2.2.2.2.2.2.1
theorem qdX9_meet_92_24 : dcAll cX9_meet [(92, .lload 9, 2), (94, .invokevirtual 62, 3), (97, .goto 24, 3), (100, .iload_n 3, 1), (101, .iconst 1, 1), (102, .if_icmp .ne 11, 3), (105, .lload 7, 2), (107, .lload 9, 2), (109, .lsub, 1), (110, .goto 11, 3), (113, .aload_n 0, 1), (114, .lload 7, 2), (116, .lload 9, 2), (118, .invokevirtual 58, 3), (121, .lastore, 1), (122, .iload_n 3, 1), (123, .iconst 1, 1), (124, .if_icmp .ne 56, 3), (127, .lload 7, 2), (129, .lconst 0, 1), (130, .lcmp, 1), (131, .ifCond .lt 20, 3), (134, .lload 9, 2), (136, .lconst 0, 1)] := dcAll_of (by decide +kernel)
theorem dX9_meet_92 : decode cX9_meet 92 = .ok (.lload 9, 2) := qdX9_meet_92_24.1
theorem dX9_meet_94 : decode cX9_meet 94 = .ok (.invokevirtual 62, 3) := qdX9_meet_92_24.2.1
theorem dX9_meet_97 : decode cX9_meet 97 = .ok (.goto 24, 3) := qdX9_meet_92_24.2.2.1
theorem dX9_meet_100 : decode cX9_meet 100 = .ok (.iload_n 3, 1) := qdX9_meet_92_24.2.2.2.1
theorem dX9_meet_101 : decode cX9_meet 101 = .ok (.iconst 1, 1) := qdX9_meet_92_24.2.2.2.2.1
theorem dX9_meet_102 : decode cX9_meet 102 = .ok (.if_icmp .ne 11, 3) := qdX9_meet_92_24.2.2.2.2.2.1
theorem dX9_meet_105 : decode cX9_meet 105 = .ok (.lload 7, 2) := qdX9_meet_92_24.2.2.2.2.2.2.1
theorem dX9_meet_107 : decode cX9_meet 107 = .ok (.lload 9, 2) := qdX9_meet_92_24.2.2.2.2.2.2.2.1
theorem dX9_meet_109 : decode cX9_meet 109 = .ok (.lsub, 1) := qdX9_meet_92_24.2.2.2.2.2.2.2.2.1
theorem dX9_meet_110 : decode cX9_meet 110 = .ok (.goto 11, 3) := qdX9_meet_92_24.2.2.2.2.2.2.2.2.2.1
theorem dX9_meet_113 : decode cX9_meet 113 = .ok (.aload_n 0, 1) := qdX9_meet_92_24.2.2.2.2.2.2.2.2.2.2.1
theorem dX9_meet_114 : decode cX9_meet 114 = .ok (.lload 7, 2) := qdX9_meet_92_24.2.2.2.2.2.2.2.2.2.2.2.1
theorem dX9_meet_116 : decode cX9_meet 116 = .ok (.lload 9, 2) := qdX9_meet_92_24.2.2.2.2.2.2.2.2.2.2.2.2.1
theorem dX9_meet_118 : decode cX9_meet 118 = .ok (.invokevirtual 58, 3) := qdX9_meet_92_24.2.2.2.2.2.2.2.2.2.2.2.2.2.1
theorem dX9_meet_121 : decode cX9_meet 121 = .ok (.lastore, 1) := qdX9_meet_92_24.2.2.2.2.2.2.2.2.2.2.2.2.2.2.1
theorem dX9_meet_122 : decode cX9_meet 122 = .ok (.iload_n 3, 1) := qdX9_meet_92_24.2.2.2.2.2.2.2.2.2.2.2.2.2.2.2.1
theorem dX9_meet_123 : decode cX9_meet 123 = .ok (.iconst 1, 1) := qdX9_meet_92_24.2.2.2.2.2.2.2.2.2.2.2.2.2.2.2.2.1
theorem dX9_meet_124 : decode cX9_meet 124 = .ok (.if_icmp .ne 56, 3) := qdX9_meet_92_24.2.2.2.2.2.2.2.2.2.2.2.2.2.2.2.2.2.1
theorem dX9_meet_127 : decode cX9_meet 127 = .ok (.lload 7, 2) := qdX9_meet_92_24.2.2.2.2.2.2.2.2.2.2.2.2.2.2.2.2.2.2.1
theorem dX9_meet_129 : decode cX9_meet 129 = .ok (.lconst 0, 1) := qdX9_meet_92_24.2.2.2.2.2.2.2.2.2.2.2.2.2.2.2.2.2.2.2.1
theorem dX9_meet_130 : decode cX9_meet 130 = .ok (.lcmp, 1) := qdX9_meet_92_24.2.2.2.2.2.2.2.2.2.2.2.2.2.2.2.2.2.2.2.2.1
theorem dX9_meet_131 : decode cX9_meet 131 = .ok (.ifCond .lt 20, 3) := qdX9_meet_92_24.2.2.2.2.2.2.2.2.2.2.2.2.2.2.2.2.2.2.2.2.2.1
theorem dX9_meet_134 : decode cX9_meet 134 = .ok (.lload 9, 2) := qdX9_meet_92_24.2.2.2.2.2.2.2.2.2.2.2.2.2.2.2.2.2.2.2.2.2.2.1
theorem dX9_meet_136 : decode cX9_meet 136 = .ok (.lconst 0, 1) := qdX9_meet_92_24.2.2.2.2.2.2.2.2.2.2.2.2.2.2.2.2.2.2.2.2.2.2.2.1
theorem qdX9_meet_137_24 : dcAll cX9_meet [(137, .lcmp, 1), (138, .ifCond .ge 13, 3), (141, .aload 5, 2), (143, .iload 6, 2), (145, .laload, 1), (146, .lconst 0, 1), (147, .lcmp, 1), (148, .ifCond .lt 27, 3), (151, .lload 7, 2), (153, .lconst 0, 1), (154, .lcmp, 1), (155, .ifCond .ge 25, 3), (158, .lload 9, 2), (160, .lconst 0, 1), (161, .lcmp, 1), (162, .ifCond .le 18, 3), (165, .aload 5, 2), (167, .iload 6, 2), (169, .laload, 1), (170, .lconst 0, 1), (171, .lcmp, 1), (172, .ifCond .lt 8, 3), (175, .aload_n 0, 1), (176, .iconst 1, 1)] := dcAll_of (by decide +kernel)
theorem dX9_meet_137 : decode cX9_meet 137 = .ok (.lcmp, 1) := qdX9_meet_137_24.1
theorem dX9_meet_138 : decode cX9_meet 138 = .ok (.ifCond .ge 13, 3) := qdX9_meet_137_24.2.1
theorem dX9_meet_141 : decode cX9_meet 141 = .ok (.aload 5, 2) := qdX9_meet_137_24.2.2.1
theorem dX9_meet_143 : decode cX9_meet 143 = .ok (.iload 6, 2) := qdX9_meet_137_24.2.2.2.1
theorem dX9_meet_145 : decode cX9_meet 145 = .ok (.laload, 1) := qdX9_meet_137_24.2.2.2.2.1
theorem dX9_meet_146 : decode cX9_meet 146 = .ok (.lconst 0, 1) := qdX9_meet_137_24.2.2.2.2.2.1
theorem dX9_meet_147 : decode cX9_meet 147 = .ok (.lcmp, 1) := qdX9_meet_137_24.2.2.2.2.2.2.1
theorem dX9_meet_148 : decode cX9_meet 148 = .ok (.ifCond .lt 27, 3) := qdX9_meet_137_24.2.2.2.2.2.2.2.1
theorem dX9_meet_151 : decode cX9_meet 151 = .ok (.lload 7, 2) := qdX9_meet_137_24.2.2.2.2.2.2.2.2.1
theorem dX9_meet_153 : decode cX9_meet 153 = .ok (.lconst 0, 1) := qdX9_meet_137_24.2.2.2.2.2.2.2.2.2.1
theorem dX9_meet_154 : decode cX9_meet 154 = .ok (.lcmp, 1) := qdX9_meet_137_24.2.2.2.2.2.2.2.2.2.2.1
theorem dX9_meet_155 : decode cX9_meet 155 = .ok (.ifCond .ge 25, 3) := qdX9_meet_137_24.2.2.2.2.2.2.2.2.2.2.2.1
theorem dX9_meet_158 : decode cX9_meet 158 = .ok (.lload 9, 2) := qdX9_meet_137_24.2.2.2.2.2.2.2.2.2.2.2.2.1
theorem dX9_meet_160 : decode cX9_meet 160 = .ok (.lconst 0, 1) := qdX9_meet_137_24.2.2.2.2.2.2.2.2.2.2.2.2.2.1
theorem dX9_meet_161 : decode cX9_meet 161 = .ok (.lcmp, 1) := qdX9_meet_137_24.2.2.2.2.2.2.2.2.2.2.2.2.2.2.1
theorem dX9_meet_162 : decode cX9_meet 162 = .ok (.ifCond .le 18, 3) := qdX9_meet_137_24.2.2.2.2.2.2.2.2.2.2.2.2.2.2.2.1
theorem dX9_meet_165 : decode cX9_meet 165 = .ok (.aload 5, 2) := qdX9_meet_137_24.2.2.2.2.2.2.2.2.2.2.2.2.2.2.2.2.1
theorem dX9_meet_167 : decode cX9_meet 167 = .ok (.iload 6, 2) := qdX9_meet_137_24.2.2.2.2.2.2.2.2.2.2.2.2.2.2.2.2.2.1
theorem dX9_meet_169 : decode cX9_meet 169 = .ok (.laload, 1) := qdX9_meet_137_24.2.2.2.2.2.2.2.2.2.2.2.2.2.2.2.2.2.2.1
theorem dX9_meet_170 : decode cX9_meet 170 = .ok (.lconst 0, 1) := qdX9_meet_137_24.2.2.2.2.2.2.2.2.2.2.2.2.2.2.2.2.2.2.2.1
theorem dX9_meet_171 : decode cX9_meet 171 = .ok (.lcmp, 1) := qdX9_meet_137_24.2.2.2.2.2.2.2.2.2.2.2.2.2.2.2.2.2.2.2.2.1
theorem dX9_meet_172 : decode cX9_meet 172 = .ok (.ifCond .lt 8, 3) := qdX9_meet_137_24.2.2.2.2.2.2.2.2.2.2.2.2.2.2.2.2.2.2.2.2.2.1
theorem dX9_meet_175 : decode cX9_meet 175 = .ok (.aload_n 0, 1) := qdX9_meet_137_24.2.2.2.2.2.2.2.2.2.2.2.2.2.2.2.2.2.2.2.2.2.2.1
theorem dX9_meet_176 : decode cX9_meet 176 = .ok (.iconst 1, 1) := qdX9_meet_137_24.2.2.2.2.2.2.2.2.2.2.2.2.2.2.2.2.2.2.2.2.2.2.2.1
theorem qdX9_meet_177_8 : dcAll cX9_meet [(177, .putfield 36, 3), (180, .iinc 6 1, 3), (183, .goto (-127), 3), (186, .aload_n 0, 1), (187, .iload 4, 2), (189, .aload 5, 2), (191, .invokevirtual 118, 3), (194, .ireturn, 1)] := dcAll_of (by decide +kernel)
theorem dX9_meet_177 : decode cX9_meet 177 = .ok (.putfield 36, 3) := qdX9_meet_177_8.1
theorem dX9_meet_180 : decode cX9_meet 180 = .ok (.iinc 6 1, 3) := qdX9_meet_177_8.2.1
theorem dX9_meet_183 : decode cX9_meet 183 = .ok (.goto (-127), 3) := qdX9_meet_177_8.2.2.1
theorem dX9_meet_186 : decode cX9_meet 186 = .ok (.aload_n 0, 1) := qdX9_meet_177_8.2.2.2.1
theorem dX9_meet_187 : decode cX9_meet 187 = .ok (.iload 4, 2) := qdX9_meet_177_8.2.2.2.2.1
theorem dX9_meet_189 : decode cX9_meet 189 = .ok (.aload 5, 2) := qdX9_meet_177_8.2.2.2.2.2.1
theorem dX9_meet_191 : decode cX9_meet 191 = .ok (.invokevirtual 118, 3) := qdX9_meet_177_8.2.2.2.2.2.2.1
theorem dX9_meet_194 : decode cX9_meet 194 = .ok (.ireturn, 1) := qdX9_meet_177_8.2.2.2.2.2.2.2.1
theorem ggX9_multiply_X9_isOne : GoodIn wsX9_multiply wsX9_isOne := fun w h => ⟨List.mem_cons_of_mem _ (List.mem_append_left _ (List.mem_append_left _ (List.mem_append_left _ (List.mem_append_left _ (List.mem_append_right _ h))))), zq_X9_isOne w h⟩
set_option maxRecDepth 20000 in
theorem gX9_multiply_X9_isOne : GoodIn wsX9_multiply (va_wsS RX9 89 yX9_isOne wsX9_isOne) := goodIn_app (goodIn_r _ [1, 2, 3] rfl rfl) ggX9_multiply_X9_isOne
theorem ggX9_multiply_X9_isThrown : GoodIn wsX9_multiply wsX9_isThrown := fun w h => ⟨List.mem_cons_of_mem _ (List.mem_append_left _ (List.mem_append_left _ (List.mem_append_left _ (List.mem_append_right _ h)))), zq_X9_isThrown w h⟩
set_option maxRecDepth 20000 in
theorem gX9_multiply_X9_isThrown : GoodIn wsX9_multiply (wsV RX9 97 RX9 yX9_isThrown wsX9_isThrown) := goodIn_app (goodIn_r _ [4, 5, 6, 3] rfl rfl) ggX9_multiply_X9_isThrown
theorem ggX9_multiply_X9_of : GoodIn wsX9_multiply wsX9_of := fun w h => ⟨List.mem_cons_of_mem _ (List.mem_append_left _ (List.mem_append_left _ (List.mem_append_right _ h))), zq_X9_of w h⟩
set_option maxRecDepth 20000 in
theorem gX9_multiply_X9_of : GoodIn wsX9_multiply (wsV RX9 114 RX9 yX9_of wsX9_of) := goodIn_app (goodIn_r _ [7, 8, 9, 3] rfl rfl) ggX9_multiply_X9_of
theorem ggX9_multiply_X9_product : GoodIn wsX9_multiply wsX9_product := fun w h => ⟨List.mem_cons_of_mem _ (List.mem_append_left _ (List.mem_append_right _ h)), zq_X9_product w h⟩
set_option maxRecDepth 20000 in
theorem gX9_multiply_X9_product : GoodIn wsX9_multiply (wsV RX9 121 RX9 yX9_product wsX9_product) := goodIn_app (goodIn_r _ [10, 11, 12, 3] rfl rfl) ggX9_multiply_X9_product
theorem ggX9_multiply_X9_becomeOrNot : GoodIn wsX9_multiply wsX9_becomeOrNot := fun w h => ⟨List.mem_cons_of_mem _ (List.mem_append_right _ h), zq_X9_becomeOrNot w h⟩
set_option maxRecDepth 20000 in
theorem gX9_multiply_X9_becomeOrNot : GoodIn wsX9_multiply (wsV RX9 118 RX9 yX9_becomeOrNot wsX9_becomeOrNot) := goodIn_app (goodIn_r _ [13, 14, 15, 3] rfl rfl) ggX9_multiply_X9_becomeOrNot
theorem qdX9_multiply_0_24 : dcAll cX9_multiply [(0, .aload_n 0, 1), (1, .iload_n 1, 1), (2, .invokestatic 89, 3), (5, .ifCond .eq 21, 3), (8, .iload_n 2, 1), (9, .invokestatic 89, 3), (12, .ifCond .eq 14, 3), (15, .iload_n 3, 1), (16, .invokestatic 89, 3), (19, .ifCond .eq 7, 3), (22, .iconst 1, 1), (23, .goto 4, 3), (26, .iconst 0, 1), (27, .iconst 1, 1), (28, .invokevirtual 97, 3), (31, .ifCond .eq 5, 3), (34, .iconst 0, 1), (35, .ireturn, 1), (36, .aload_n 0, 1), (37, .iconst 0, 1), (38, .putfield 36, 3), (41, .aload_n 0, 1), (42, .iload_n 3, 1), (43, .aload_n 0, 1)] := dcAll_of (by decide +kernel)
theorem dX9_multiply_0 : decode cX9_multiply 0 = .ok (.aload_n 0, 1) := qdX9_multiply_0_24.1
theorem dX9_multiply_1 : decode cX9_multiply 1 = .ok (.iload_n 1, 1) := qdX9_multiply_0_24.2.1
theorem dX9_multiply_2 : decode cX9_multiply 2 = .ok (.invokestatic 89, 3) := qdX9_multiply_0_24.2.2.1
theorem dX9_multiply_5 : decode cX9_multiply 5 = .ok (.ifCond .eq 21, 3) := qdX9_multiply_0_24.2.2.2.1
theorem dX9_multiply_8 : decode cX9_multiply 8 = .ok (.iload_n 2, 1) := qdX9_multiply_0_24.2.2.2.2.1
theorem dX9_multiply_9 : decode cX9_multiply 9 = .ok (.invokestatic 89, 3) := qdX9_multiply_0_24.2.2.2.2.2.1
theorem dX9_multiply_12 : decode cX9_multiply 12 = .ok (.ifCond .eq 14, 3) := qdX9_multiply_0_24.2.2.2.2.2.2.1
theorem dX9_multiply_15 : decode cX9_multiply 15 = .ok (.iload_n 3, 1) := qdX9_multiply_0_24.2.2.2.2.2.2.2.1
theorem dX9_multiply_16 : decode cX9_multiply 16 = .ok (.invokestatic 89, 3) := qdX9_multiply_0_24.2.2.2.2.2.2.2.2.1
theorem dX9_multiply_19 : decode cX9_multiply 19 = .ok (.ifCond .eq 7, 3) := qdX9_multiply_0_24.2.2.2.2.2.2.2.2.2.1
theorem dX9_multiply_22 : decode cX9_multiply 22 = .ok (.iconst 1, 1) := qdX9_multiply_0_24.2.2.2.2.2.2.2.2.2.2.1
theorem dX9_multiply_23 : decode cX9_multiply 23 = .ok (.goto 4, 3) := qdX9_multiply_0_24.2.2.2.2.2.2.2.2.2.2.2.1
theorem dX9_multiply_26 : decode cX9_multiply 26 = .ok (.iconst 0, 1) := qdX9_multiply_0_24.2.2.2.2.2.2.2.2.2.2.2.2.1
theorem dX9_multiply_27 : decode cX9_multiply 27 = .ok (.iconst 1, 1) := qdX9_multiply_0_24.2.2.2.2.2.2.2.2.2.2.2.2.2.1
theorem dX9_multiply_28 : decode cX9_multiply 28 = .ok (.invokevirtual 97, 3) := qdX9_multiply_0_24.2.2.2.2.2.2.2.2.2.2.2.2.2.2.1
theorem dX9_multiply_31 : decode cX9_multiply 31 = .ok (.ifCond .eq 5, 3) := qdX9_multiply_0_24.2.2.2.2.2.2.2.2.2.2.2.2.2.2.2.1
theorem dX9_multiply_34 : decode cX9_multiply 34 = .ok (.iconst 0, 1) := qdX9_multiply_0_24.2.2.2.2.2.2.2.2.2.2.2.2.2.2.2.2.1
theorem dX9_multiply_35 : decode cX9_multiply 35 = .ok (.ireturn, 1) := qdX9_multiply_0_24.2.2.2.2.2.2.2.2.2.2.2.2.2.2.2.2.2.1
theorem dX9_multiply_36 : decode cX9_multiply 36 = .ok (.aload_n 0, 1) := qdX9_multiply_0_24.2.2.2.2.2.2.2.2.2.2.2.2.2.2.2.2.2.2.1
theorem dX9_multiply_37 : decode cX9_multiply 37 = .ok (.iconst 0, 1) := qdX9_multiply_0_24.2.2.2.2.2.2.2.2.2.2.2.2.2.2.2.2.2.2.2.1
theorem dX9_multiply_38 : decode cX9_multiply 38 = .ok (.putfield 36, 3) := qdX9_multiply_0_24.2.2.2.2.2.2.2.2.2.2.2.2.2.2.2.2.2.2.2.2.1
theorem dX9_multiply_41 : decode cX9_multiply 41 = .ok (.aload_n 0, 1) := qdX9_multiply_0_24.2.2.2.2.2.2.2.2.2.2.2.2.2.2.2.2.2.2.2.2.2.1
theorem dX9_multiply_42 : decode cX9_multiply 42 = .ok (.iload_n 3, 1) := qdX9_multiply_0_24.2.2.2.2.2.2.2.2.2.2.2.2.2.2.2.2.2.2.2.2.2.2.1
theorem dX9_multiply_43 : decode cX9_multiply 43 = .ok (.aload_n 0, 1) := qdX9_multiply_0_24.2.2.2.2.2.2.2.2.2.2.2.2.2.2.2.2.2.2.2.2.2.2.2.1
theorem qdX9_multiply_44_9 : dcAll cX9_multiply [(44, .aload_n 0, 1), (45, .iload_n 1, 1), (46, .invokevirtual 114, 3), (49, .aload_n 0, 1), (50, .iload_n 2, 1), (51, .invokevirtual 114, 3), (54, .invokevirtual 121, 3), (57, .invokevirtual 118, 3), (60, .ireturn, 1)] := dcAll_of (by decide +kernel)
theorem dX9_multiply_44 : decode cX9_multiply 44 = .ok (.aload_n 0, 1) := qdX9_multiply_44_9.1
theorem dX9_multiply_45 : decode cX9_multiply 45 = .ok (.iload_n 1, 1) := qdX9_multiply_44_9.2.1
theorem dX9_multiply_46 : decode cX9_multiply 46 = .ok (.invokevirtual 114, 3) := qdX9_multiply_44_9.2.2.1
theorem dX9_multiply_49 : decode cX9_multiply 49 = .ok (.aload_n 0, 1) := qdX9_multiply_44_9.2.2.2.1
theorem dX9_multiply_50 : decode cX9_multiply 50 = .ok (.iload_n 2, 1) := qdX9_multiply_44_9.2.2.2.2.1
theorem dX9_multiply_51 : decode cX9_multiply 51 = .ok (.invokevirtual 114, 3) := qdX9_multiply_44_9.2.2.2.2.2.1
theorem dX9_multiply_54 : decode cX9_multiply 54 = .ok (.invokevirtual 121, 3) := qdX9_multiply_44_9.2.2.2.2.2.2.1
theorem dX9_multiply_57 : decode cX9_multiply 57 = .ok (.invokevirtual 118, 3) := qdX9_multiply_44_9.2.2.2.2.2.2.2.1
theorem dX9_multiply_60 : decode cX9_multiply 60 = .ok (.ireturn, 1) := qdX9_multiply_44_9.2.2.2.2.2.2.2.2.1
theorem ggX9_make_X9_isOne : GoodIn wsX9_make wsX9_isOne := fun w h => ⟨List.mem_cons_of_mem _ (List.mem_append_left _ (List.mem_append_left _ (List.mem_append_left _ (List.mem_append_left _ (List.mem_append_left _ (List.mem_append_left _ (List.mem_append_right _ h))))))), zq_X9_isOne w h⟩
set_option maxRecDepth 20000 in
theorem gX9_make_X9_isOne : GoodIn wsX9_make (va_wsS RX9 89 yX9_isOne wsX9_isOne) := goodIn_app (goodIn_r _ [1, 2, 3] rfl rfl) ggX9_make_X9_isOne
theorem ggX9_make_X9_isIn : GoodIn wsX9_make wsX9_isIn := fun w h => ⟨List.mem_cons_of_mem _ (List.mem_append_left _ (List.mem_append_left _ (List.mem_append_left _ (List.mem_append_left _ (List.mem_append_left _ (List.mem_append_right _ h)))))), zq_X9_isIn w h⟩
set_option maxRecDepth 20000 in
theorem gX9_make_X9_isIn : GoodIn wsX9_make (va_wsS RX9 93 yX9_isIn wsX9_isIn) := goodIn_app (goodIn_r _ [4, 5, 3] rfl rfl) ggX9_make_X9_isIn
theorem ggX9_make_X9_isThrown : GoodIn wsX9_make wsX9_isThrown := fun w h => ⟨List.mem_cons_of_mem _ (List.mem_append_left _ (List.mem_append_left _ (List.mem_append_left _ (List.mem_append_left _ (List.mem_append_right _ h))))), zq_X9_isThrown w h⟩
set_option maxRecDepth 20000 in
theorem gX9_make_X9_isThrown : GoodIn wsX9_make (wsV RX9 97 RX9 yX9_isThrown wsX9_isThrown) := goodIn_app (goodIn_r _ [6, 7, 8, 3] rfl rfl) ggX9_make_X9_isThrown
theorem ggX9_make_X9_of : GoodIn wsX9_make wsX9_of := fun w h => ⟨List.mem_cons_of_mem _ (List.mem_append_left _ (List.mem_append_left _ (List.mem_append_left _ (List.mem_append_right _ h)))), zq_X9_of w h⟩
set_option maxRecDepth 20000 in
theorem gX9_make_X9_of : GoodIn wsX9_make (wsV RX9 114 RX9 yX9_of wsX9_of) := goodIn_app (goodIn_r _ [9, 10, 11, 3] rfl rfl) ggX9_make_X9_of
theorem ggX9_make_X9_hasInverse : GoodIn wsX9_make wsX9_hasInverse := fun w h => ⟨List.mem_cons_of_mem _ (List.mem_append_left _ (List.mem_append_left _ (List.mem_append_right _ h))), zq_X9_hasInverse w h⟩
set_option maxRecDepth 20000 in
theorem gX9_make_X9_hasInverse : GoodIn wsX9_make (wsV RX9 125 RX9 yX9_hasInverse wsX9_hasInverse) := goodIn_app (goodIn_r _ [12, 13, 14, 3] rfl rfl) ggX9_make_X9_hasInverse
theorem ggX9_make_X9_becomeOrNot : GoodIn wsX9_make wsX9_becomeOrNot := fun w h => ⟨List.mem_cons_of_mem _ (List.mem_append_left _ (List.mem_append_right _ h)), zq_X9_becomeOrNot w h⟩
set_option maxRecDepth 20000 in
theorem gX9_make_X9_becomeOrNot : GoodIn wsX9_make (wsV RX9 118 RX9 yX9_becomeOrNot wsX9_becomeOrNot) := goodIn_app (goodIn_r _ [15, 16, 17, 3] rfl rfl) ggX9_make_X9_becomeOrNot
theorem ggX9_make_X9_made : GoodIn wsX9_make wsX9_made := fun w h => ⟨List.mem_cons_of_mem _ (List.mem_append_right _ h), zq_X9_made w h⟩
set_option maxRecDepth 20000 in
theorem gX9_make_X9_made : GoodIn wsX9_make (wsV RX9 129 RX9 yX9_made wsX9_made) := goodIn_app (goodIn_r _ [18, 19, 20, 3] rfl rfl) ggX9_make_X9_made
theorem qdX9_make_0_24 : dcAll cX9_make [(0, .aload_n 0, 1), (1, .iload_n 1, 1), (2, .invokestatic 89, 3), (5, .ifCond .eq 14, 3), (8, .iload_n 3, 1), (9, .invokestatic 89, 3), (12, .ifCond .eq 7, 3), (15, .iconst 1, 1), (16, .goto 4, 3), (19, .iconst 0, 1), (20, .iload_n 2, 1), (21, .iconst 0, 1), (22, .iconst 5, 1), (23, .invokestatic 93, 3), (26, .invokevirtual 97, 3), (29, .ifCond .eq 5, 3), (32, .iconst 0, 1), (33, .ireturn, 1), (34, .aload_n 0, 1), (35, .iload_n 2, 1), (36, .ifCond .ne 19, 3), (39, .aload_n 0, 1), (40, .aload_n 0, 1), (41, .iload_n 1, 1)] := dcAll_of (by decide +kernel)
theorem dX9_make_0 : decode cX9_make 0 = .ok (.aload_n 0, 1) := qdX9_make_0_24.1
theorem dX9_make_1 : decode cX9_make 1 = .ok (.iload_n 1, 1) := qdX9_make_0_24.2.1
theorem dX9_make_2 : decode cX9_make 2 = .ok (.invokestatic 89, 3) := qdX9_make_0_24.2.2.1
theorem dX9_make_5 : decode cX9_make 5 = .ok (.ifCond .eq 14, 3) := qdX9_make_0_24.2.2.2.1
theorem dX9_make_8 : decode cX9_make 8 = .ok (.iload_n 3, 1) := qdX9_make_0_24.2.2.2.2.1
theorem dX9_make_9 : decode cX9_make 9 = .ok (.invokestatic 89, 3) := qdX9_make_0_24.2.2.2.2.2.1
theorem dX9_make_12 : decode cX9_make 12 = .ok (.ifCond .eq 7, 3) := qdX9_make_0_24.2.2.2.2.2.2.1
theorem dX9_make_15 : decode cX9_make 15 = .ok (.iconst 1, 1) := qdX9_make_0_24.2.2.2.2.2.2.2.1
theorem dX9_make_16 : decode cX9_make 16 = .ok (.goto 4, 3) := qdX9_make_0_24.2.2.2.2.2.2.2.2.1
theorem dX9_make_19 : decode cX9_make 19 = .ok (.iconst 0, 1) := qdX9_make_0_24.2.2.2.2.2.2.2.2.2.1
theorem dX9_make_20 : decode cX9_make 20 = .ok (.iload_n 2, 1) := qdX9_make_0_24.2.2.2.2.2.2.2.2.2.2.1
theorem dX9_make_21 : decode cX9_make 21 = .ok (.iconst 0, 1) := qdX9_make_0_24.2.2.2.2.2.2.2.2.2.2.2.1
theorem dX9_make_22 : decode cX9_make 22 = .ok (.iconst 5, 1) := qdX9_make_0_24.2.2.2.2.2.2.2.2.2.2.2.2.1
theorem dX9_make_23 : decode cX9_make 23 = .ok (.invokestatic 93, 3) := qdX9_make_0_24.2.2.2.2.2.2.2.2.2.2.2.2.2.1
theorem dX9_make_26 : decode cX9_make 26 = .ok (.invokevirtual 97, 3) := qdX9_make_0_24.2.2.2.2.2.2.2.2.2.2.2.2.2.2.1
theorem dX9_make_29 : decode cX9_make 29 = .ok (.ifCond .eq 5, 3) := qdX9_make_0_24.2.2.2.2.2.2.2.2.2.2.2.2.2.2.2.1
theorem dX9_make_32 : decode cX9_make 32 = .ok (.iconst 0, 1) := qdX9_make_0_24.2.2.2.2.2.2.2.2.2.2.2.2.2.2.2.2.1
theorem dX9_make_33 : decode cX9_make 33 = .ok (.ireturn, 1) := qdX9_make_0_24.2.2.2.2.2.2.2.2.2.2.2.2.2.2.2.2.2.1
theorem dX9_make_34 : decode cX9_make 34 = .ok (.aload_n 0, 1) := qdX9_make_0_24.2.2.2.2.2.2.2.2.2.2.2.2.2.2.2.2.2.2.1
theorem dX9_make_35 : decode cX9_make 35 = .ok (.iload_n 2, 1) := qdX9_make_0_24.2.2.2.2.2.2.2.2.2.2.2.2.2.2.2.2.2.2.2.1
theorem dX9_make_36 : decode cX9_make 36 = .ok (.ifCond .ne 19, 3) := qdX9_make_0_24.2.2.2.2.2.2.2.2.2.2.2.2.2.2.2.2.2.2.2.2.1
theorem dX9_make_39 : decode cX9_make 39 = .ok (.aload_n 0, 1) := qdX9_make_0_24.2.2.2.2.2.2.2.2.2.2.2.2.2.2.2.2.2.2.2.2.2.1
theorem dX9_make_40 : decode cX9_make 40 = .ok (.aload_n 0, 1) := qdX9_make_0_24.2.2.2.2.2.2.2.2.2.2.2.2.2.2.2.2.2.2.2.2.2.2.1
theorem dX9_make_41 : decode cX9_make 41 = .ok (.iload_n 1, 1) := qdX9_make_0_24.2.2.2.2.2.2.2.2.2.2.2.2.2.2.2.2.2.2.2.2.2.2.2.1
theorem qdX9_make_42_24 : dcAll cX9_make [(42, .invokevirtual 114, 3), (45, .invokevirtual 125, 3), (48, .ifCond .ne 7, 3), (51, .iconst 1, 1), (52, .goto 4, 3), (55, .iconst 0, 1), (56, .putfield 36, 3), (59, .aload_n 0, 1), (60, .getfield 36, 3), (63, .ifCond .eq 16, 3), (66, .aload_n 0, 1), (67, .iload_n 3, 1), (68, .aload_n 0, 1), (69, .iload_n 3, 1), (70, .invokevirtual 114, 3), (73, .invokevirtual 118, 3), (76, .goto 18, 3), (79, .aload_n 0, 1), (80, .iload_n 3, 1), (81, .aload_n 0, 1), (82, .aload_n 0, 1), (83, .iload_n 1, 1), (84, .invokevirtual 114, 3), (87, .iload_n 2, 1)] := dcAll_of (by decide +kernel)
theorem dX9_make_42 : decode cX9_make 42 = .ok (.invokevirtual 114, 3) := qdX9_make_42_24.1
theorem dX9_make_45 : decode cX9_make 45 = .ok (.invokevirtual 125, 3) := qdX9_make_42_24.2.1
theorem dX9_make_48 : decode cX9_make 48 = .ok (.ifCond .ne 7, 3) := qdX9_make_42_24.2.2.1
theorem dX9_make_51 : decode cX9_make 51 = .ok (.iconst 1, 1) := qdX9_make_42_24.2.2.2.1
theorem dX9_make_52 : decode cX9_make 52 = .ok (.goto 4, 3) := qdX9_make_42_24.2.2.2.2.1
theorem dX9_make_55 : decode cX9_make 55 = .ok (.iconst 0, 1) := qdX9_make_42_24.2.2.2.2.2.1
theorem dX9_make_56 : decode cX9_make 56 = .ok (.putfield 36, 3) := qdX9_make_42_24.2.2.2.2.2.2.1
theorem dX9_make_59 : decode cX9_make 59 = .ok (.aload_n 0, 1) := qdX9_make_42_24.2.2.2.2.2.2.2.1
theorem dX9_make_60 : decode cX9_make 60 = .ok (.getfield 36, 3) := qdX9_make_42_24.2.2.2.2.2.2.2.2.1
theorem dX9_make_63 : decode cX9_make 63 = .ok (.ifCond .eq 16, 3) := qdX9_make_42_24.2.2.2.2.2.2.2.2.2.1
theorem dX9_make_66 : decode cX9_make 66 = .ok (.aload_n 0, 1) := qdX9_make_42_24.2.2.2.2.2.2.2.2.2.2.1
theorem dX9_make_67 : decode cX9_make 67 = .ok (.iload_n 3, 1) := qdX9_make_42_24.2.2.2.2.2.2.2.2.2.2.2.1
theorem dX9_make_68 : decode cX9_make 68 = .ok (.aload_n 0, 1) := qdX9_make_42_24.2.2.2.2.2.2.2.2.2.2.2.2.1
theorem dX9_make_69 : decode cX9_make 69 = .ok (.iload_n 3, 1) := qdX9_make_42_24.2.2.2.2.2.2.2.2.2.2.2.2.2.1
theorem dX9_make_70 : decode cX9_make 70 = .ok (.invokevirtual 114, 3) := qdX9_make_42_24.2.2.2.2.2.2.2.2.2.2.2.2.2.2.1
theorem dX9_make_73 : decode cX9_make 73 = .ok (.invokevirtual 118, 3) := qdX9_make_42_24.2.2.2.2.2.2.2.2.2.2.2.2.2.2.2.1
theorem dX9_make_76 : decode cX9_make 76 = .ok (.goto 18, 3) := qdX9_make_42_24.2.2.2.2.2.2.2.2.2.2.2.2.2.2.2.2.1
theorem dX9_make_79 : decode cX9_make 79 = .ok (.aload_n 0, 1) := qdX9_make_42_24.2.2.2.2.2.2.2.2.2.2.2.2.2.2.2.2.2.1
theorem dX9_make_80 : decode cX9_make 80 = .ok (.iload_n 3, 1) := qdX9_make_42_24.2.2.2.2.2.2.2.2.2.2.2.2.2.2.2.2.2.2.1
theorem dX9_make_81 : decode cX9_make 81 = .ok (.aload_n 0, 1) := qdX9_make_42_24.2.2.2.2.2.2.2.2.2.2.2.2.2.2.2.2.2.2.2.1
theorem dX9_make_82 : decode cX9_make 82 = .ok (.aload_n 0, 1) := qdX9_make_42_24.2.2.2.2.2.2.2.2.2.2.2.2.2.2.2.2.2.2.2.2.1
theorem dX9_make_83 : decode cX9_make 83 = .ok (.iload_n 1, 1) := qdX9_make_42_24.2.2.2.2.2.2.2.2.2.2.2.2.2.2.2.2.2.2.2.2.2.1
theorem dX9_make_84 : decode cX9_make 84 = .ok (.invokevirtual 114, 3) := qdX9_make_42_24.2.2.2.2.2.2.2.2.2.2.2.2.2.2.2.2.2.2.2.2.2.2.1
theorem dX9_make_87 : decode cX9_make 87 = .ok (.iload_n 2, 1) := qdX9_make_42_24.2.2.2.2.2.2.2.2.2.2.2.2.2.2.2.2.2.2.2.2.2.2.2.1
theorem qdX9_make_88_3 : dcAll cX9_make [(88, .invokevirtual 129, 3), (91, .invokevirtual 118, 3), (94, .ireturn, 1)] := dcAll_of (by decide +kernel)
theorem dX9_make_88 : decode cX9_make 88 = .ok (.invokevirtual 129, 3) := qdX9_make_88_3.1
theorem dX9_make_91 : decode cX9_make 91 = .ok (.invokevirtual 118, 3) := qdX9_make_88_3.2.1
theorem dX9_make_94 : decode cX9_make 94 = .ok (.ireturn, 1) := qdX9_make_88_3.2.2.1
theorem ggX9_value_X9_isOne : GoodIn wsX9_value wsX9_isOne := fun w h => ⟨List.mem_cons_of_mem _ (List.mem_append_left _ (List.mem_append_left _ (List.mem_append_left _ (List.mem_append_left _ (List.mem_append_left _ (List.mem_append_left _ (List.mem_append_left _ (List.mem_append_right _ h)))))))), zq_X9_isOne w h⟩
set_option maxRecDepth 20000 in
theorem gX9_value_X9_isOne : GoodIn wsX9_value (va_wsS RX9 89 yX9_isOne wsX9_isOne) := goodIn_app (goodIn_r _ [3, 4, 5] rfl rfl) ggX9_value_X9_isOne
theorem ggX9_value_X9_isIn : GoodIn wsX9_value wsX9_isIn := fun w h => ⟨List.mem_cons_of_mem _ (List.mem_append_left _ (List.mem_append_left _ (List.mem_append_left _ (List.mem_append_left _ (List.mem_append_left _ (List.mem_append_left _ (List.mem_append_right _ h))))))), zq_X9_isIn w h⟩
set_option maxRecDepth 20000 in
theorem gX9_value_X9_isIn : GoodIn wsX9_value (va_wsS RX9 93 yX9_isIn wsX9_isIn) := goodIn_app (goodIn_r _ [6, 7, 5] rfl rfl) ggX9_value_X9_isIn
theorem ggX9_value_X9_isThrown : GoodIn wsX9_value wsX9_isThrown := fun w h => ⟨List.mem_cons_of_mem _ (List.mem_append_left _ (List.mem_append_left _ (List.mem_append_left _ (List.mem_append_left _ (List.mem_append_left _ (List.mem_append_right _ h)))))), zq_X9_isThrown w h⟩
set_option maxRecDepth 20000 in
theorem gX9_value_X9_isThrown : GoodIn wsX9_value (wsV RX9 97 RX9 yX9_isThrown wsX9_isThrown) := goodIn_app (goodIn_r _ [8, 9, 10, 5] rfl rfl) ggX9_value_X9_isThrown
theorem ggX9_value_J4_init_da8c8 : GoodIn wsX9_value wsJ4_init_da8c8 := fun w h => ⟨List.mem_cons_of_mem _ (List.mem_append_left _ (List.mem_append_left _ (List.mem_append_left _ (List.mem_append_left _ (List.mem_append_right _ h))))), zq_J4_init_da8c8 w h⟩
set_option maxRecDepth 20000 in
theorem gX9_value_J4_init_da8c8 : GoodIn wsX9_value (wsJ4_init_da8c8) := ggX9_value_J4_init_da8c8
theorem ggX9_value_J4_append_15ec4 : GoodIn wsX9_value wsJ4_append_15ec4 := fun w h => ⟨List.mem_cons_of_mem _ (List.mem_append_left _ (List.mem_append_left _ (List.mem_append_left _ (List.mem_append_right _ h)))), zq_J4_append_15ec4 w h⟩
set_option maxRecDepth 20000 in
theorem gX9_value_J4_append_15ec4 : GoodIn wsX9_value (wsV RX9 138 RJ4 yJ4_append_15ec4 wsJ4_append_15ec4) := goodIn_app (goodIn_r _ [15, 16, 17, 2] rfl rfl) ggX9_value_J4_append_15ec4
theorem ggX9_value_X9_at : GoodIn wsX9_value wsX9_at := fun w h => ⟨List.mem_cons_of_mem _ (List.mem_append_left _ (List.mem_append_left _ (List.mem_append_right _ h))), zq_X9_at w h⟩
set_option maxRecDepth 20000 in
theorem gX9_value_X9_at : GoodIn wsX9_value (wsV RX9 75 RX9 yX9_at wsX9_at) := goodIn_app (goodIn_r _ [35, 36, 37, 5] rfl rfl) ggX9_value_X9_at
theorem ggX9_value_J4_append_f7089 : GoodIn wsX9_value wsJ4_append_f7089 := fun w h => ⟨List.mem_cons_of_mem _ (List.mem_append_left _ (List.mem_append_right _ h)), zq_J4_append_f7089 w h⟩
set_option maxRecDepth 20000 in
theorem gX9_value_J4_append_f7089 : GoodIn wsX9_value (wsV RX9 142 RJ4 yJ4_append_f7089 wsJ4_append_f7089) := goodIn_app (goodIn_r _ [38, 39, 40, 2] rfl rfl) ggX9_value_J4_append_f7089
theorem ggX9_value_J4_toString_0e30d : GoodIn wsX9_value wsJ4_toString_0e30d := fun w h => ⟨List.mem_cons_of_mem _ (List.mem_append_right _ h), zq_J4_toString_0e30d w h⟩
set_option maxRecDepth 20000 in
theorem gX9_value_J4_toString_0e30d : GoodIn wsX9_value (wsV RX9 145 RJ4 yJ4_toString_0e30d wsJ4_toString_0e30d) := goodIn_app (goodIn_r _ [43, 44, 45, 2] rfl rfl) ggX9_value_J4_toString_0e30d
theorem qdX9_value_0_23 : dcAll cX9_value [(0, .aload_n 0, 1), (1, .iload_n 1, 1), (2, .invokestatic 89, 3), (5, .iload_n 2, 1), (6, .iconst 1, 1), (7, .bipush 120, 2), (9, .invokestatic 93, 3), (12, .invokevirtual 97, 3), (15, .ifCond .eq 8, 3), (18, .ldc 133, 2), (20, .goto 27, 3), (23, .new 135, 3), (26, .dup, 1), (27, .invokespecial 137, 3), (30, .ldc 133, 2), (32, .invokevirtual 138, 3), (35, .aload_n 0, 1), (36, .iload_n 1, 1), (37, .iload_n 2, 1), (38, .invokevirtual 75, 3), (41, .invokevirtual 142, 3), (44, .invokevirtual 145, 3), (47, .areturn, 1)] := dcAll_of (by decide +kernel)
theorem dX9_value_0 : decode cX9_value 0 = .ok (.aload_n 0, 1) := qdX9_value_0_23.1
theorem dX9_value_1 : decode cX9_value 1 = .ok (.iload_n 1, 1) := qdX9_value_0_23.2.1
theorem dX9_value_2 : decode cX9_value 2 = .ok (.invokestatic 89, 3) := qdX9_value_0_23.2.2.1
theorem dX9_value_5 : decode cX9_value 5 = .ok (.iload_n 2, 1) := qdX9_value_0_23.2.2.2.1
theorem dX9_value_6 : decode cX9_value 6 = .ok (.iconst 1, 1) := qdX9_value_0_23.2.2.2.2.1
theorem dX9_value_7 : decode cX9_value 7 = .ok (.bipush 120, 2) := qdX9_value_0_23.2.2.2.2.2.1
theorem dX9_value_9 : decode cX9_value 9 = .ok (.invokestatic 93, 3) := qdX9_value_0_23.2.2.2.2.2.2.1
theorem dX9_value_12 : decode cX9_value 12 = .ok (.invokevirtual 97, 3) := qdX9_value_0_23.2.2.2.2.2.2.2.1
theorem dX9_value_15 : decode cX9_value 15 = .ok (.ifCond .eq 8, 3) := qdX9_value_0_23.2.2.2.2.2.2.2.2.1
theorem dX9_value_18 : decode cX9_value 18 = .ok (.ldc 133, 2) := qdX9_value_0_23.2.2.2.2.2.2.2.2.2.1
theorem dX9_value_20 : decode cX9_value 20 = .ok (.goto 27, 3) := qdX9_value_0_23.2.2.2.2.2.2.2.2.2.2.1
theorem dX9_value_23 : decode cX9_value 23 = .ok (.new 135, 3) := qdX9_value_0_23.2.2.2.2.2.2.2.2.2.2.2.1
theorem dX9_value_26 : decode cX9_value 26 = .ok (.dup, 1) := qdX9_value_0_23.2.2.2.2.2.2.2.2.2.2.2.2.1
theorem dX9_value_27 : decode cX9_value 27 = .ok (.invokespecial 137, 3) := qdX9_value_0_23.2.2.2.2.2.2.2.2.2.2.2.2.2.1
theorem dX9_value_30 : decode cX9_value 30 = .ok (.ldc 133, 2) := qdX9_value_0_23.2.2.2.2.2.2.2.2.2.2.2.2.2.2.1
theorem dX9_value_32 : decode cX9_value 32 = .ok (.invokevirtual 138, 3) := qdX9_value_0_23.2.2.2.2.2.2.2.2.2.2.2.2.2.2.2.1
theorem dX9_value_35 : decode cX9_value 35 = .ok (.aload_n 0, 1) := qdX9_value_0_23.2.2.2.2.2.2.2.2.2.2.2.2.2.2.2.2.1
theorem dX9_value_36 : decode cX9_value 36 = .ok (.iload_n 1, 1) := qdX9_value_0_23.2.2.2.2.2.2.2.2.2.2.2.2.2.2.2.2.2.1
theorem dX9_value_37 : decode cX9_value 37 = .ok (.iload_n 2, 1) := qdX9_value_0_23.2.2.2.2.2.2.2.2.2.2.2.2.2.2.2.2.2.2.1
theorem dX9_value_38 : decode cX9_value 38 = .ok (.invokevirtual 75, 3) := qdX9_value_0_23.2.2.2.2.2.2.2.2.2.2.2.2.2.2.2.2.2.2.2.1
theorem dX9_value_41 : decode cX9_value 41 = .ok (.invokevirtual 142, 3) := qdX9_value_0_23.2.2.2.2.2.2.2.2.2.2.2.2.2.2.2.2.2.2.2.2.1
theorem dX9_value_44 : decode cX9_value 44 = .ok (.invokevirtual 145, 3) := qdX9_value_0_23.2.2.2.2.2.2.2.2.2.2.2.2.2.2.2.2.2.2.2.2.2.1
theorem dX9_value_47 : decode cX9_value 47 = .ok (.areturn, 1) := qdX9_value_0_23.2.2.2.2.2.2.2.2.2.2.2.2.2.2.2.2.2.2.2.2.2.2.1
theorem ggX9_half_X9_isOne : GoodIn wsX9_half wsX9_isOne := fun w h => ⟨List.mem_cons_of_mem _ (List.mem_append_left _ (List.mem_append_left _ (List.mem_append_left _ (List.mem_append_right _ h)))), zq_X9_isOne w h⟩
set_option maxRecDepth 20000 in
theorem gX9_half_X9_isOne : GoodIn wsX9_half (va_wsS RX9 89 yX9_isOne wsX9_isOne) := goodIn_app (goodIn_r _ [1, 2, 3] rfl rfl) ggX9_half_X9_isOne
theorem ggX9_half_X9_isIn : GoodIn wsX9_half wsX9_isIn := fun w h => ⟨List.mem_cons_of_mem _ (List.mem_append_left _ (List.mem_append_left _ (List.mem_append_right _ h))), zq_X9_isIn w h⟩
set_option maxRecDepth 20000 in
theorem gX9_half_X9_isIn : GoodIn wsX9_half (va_wsS RX9 93 yX9_isIn wsX9_isIn) := goodIn_app (goodIn_r _ [4, 5, 3] rfl rfl) ggX9_half_X9_isIn
theorem ggX9_half_X9_isThrown : GoodIn wsX9_half wsX9_isThrown := fun w h => ⟨List.mem_cons_of_mem _ (List.mem_append_left _ (List.mem_append_right _ h)), zq_X9_isThrown w h⟩
set_option maxRecDepth 20000 in
theorem gX9_half_X9_isThrown : GoodIn wsX9_half (wsV RX9 97 RX9 yX9_isThrown wsX9_isThrown) := goodIn_app (goodIn_r _ [6, 7, 8, 3] rfl rfl) ggX9_half_X9_isThrown
theorem ggX9_half_X9_at : GoodIn wsX9_half wsX9_at := fun w h => ⟨List.mem_cons_of_mem _ (List.mem_append_right _ h), zq_X9_at w h⟩
set_option maxRecDepth 20000 in
theorem gX9_half_X9_at : GoodIn wsX9_half (wsV RX9 75 RX9 yX9_at wsX9_at) := goodIn_app (goodIn_r _ [9, 10, 11, 3] rfl rfl) ggX9_half_X9_at
theorem qdX9_half_0_23 : dcAll cX9_half [(0, .aload_n 0, 1), (1, .iload_n 1, 1), (2, .invokestatic 89, 3), (5, .iload_n 2, 1), (6, .iconst 1, 1), (7, .bipush 120, 2), (9, .invokestatic 93, 3), (12, .invokevirtual 97, 3), (15, .ifCond .eq 7, 3), (18, .iconst 0, 1), (19, .goto 21, 3), (22, .aload_n 0, 1), (23, .iload_n 1, 1), (24, .iload_n 2, 1), (25, .invokevirtual 75, 3), (28, .iload_n 3, 1), (29, .ifCond .eq 8, 3), (32, .bipush 32, 2), (34, .goto 4, 3), (37, .iconst 0, 1), (38, .lshr, 1), (39, .l2i, 1), (40, .ireturn, 1)] := dcAll_of (by decide +kernel)
theorem dX9_half_0 : decode cX9_half 0 = .ok (.aload_n 0, 1) := qdX9_half_0_23.1
theorem dX9_half_1 : decode cX9_half 1 = .ok (.iload_n 1, 1) := qdX9_half_0_23.2.1
theorem dX9_half_2 : decode cX9_half 2 = .ok (.invokestatic 89, 3) := qdX9_half_0_23.2.2.1
theorem dX9_half_5 : decode cX9_half 5 = .ok (.iload_n 2, 1) := qdX9_half_0_23.2.2.2.1
theorem dX9_half_6 : decode cX9_half 6 = .ok (.iconst 1, 1) := qdX9_half_0_23.2.2.2.2.1
theorem dX9_half_7 : decode cX9_half 7 = .ok (.bipush 120, 2) := qdX9_half_0_23.2.2.2.2.2.1
theorem dX9_half_9 : decode cX9_half 9 = .ok (.invokestatic 93, 3) := qdX9_half_0_23.2.2.2.2.2.2.1
theorem dX9_half_12 : decode cX9_half 12 = .ok (.invokevirtual 97, 3) := qdX9_half_0_23.2.2.2.2.2.2.2.1
theorem dX9_half_15 : decode cX9_half 15 = .ok (.ifCond .eq 7, 3) := qdX9_half_0_23.2.2.2.2.2.2.2.2.1
theorem dX9_half_18 : decode cX9_half 18 = .ok (.iconst 0, 1) := qdX9_half_0_23.2.2.2.2.2.2.2.2.2.1
theorem dX9_half_19 : decode cX9_half 19 = .ok (.goto 21, 3) := qdX9_half_0_23.2.2.2.2.2.2.2.2.2.2.1
theorem dX9_half_22 : decode cX9_half 22 = .ok (.aload_n 0, 1) := qdX9_half_0_23.2.2.2.2.2.2.2.2.2.2.2.1
theorem dX9_half_23 : decode cX9_half 23 = .ok (.iload_n 1, 1) := qdX9_half_0_23.2.2.2.2.2.2.2.2.2.2.2.2.1
theorem dX9_half_24 : decode cX9_half 24 = .ok (.iload_n 2, 1) := qdX9_half_0_23.2.2.2.2.2.2.2.2.2.2.2.2.2.1
theorem dX9_half_25 : decode cX9_half 25 = .ok (.invokevirtual 75, 3) := qdX9_half_0_23.2.2.2.2.2.2.2.2.2.2.2.2.2.2.1
theorem dX9_half_28 : decode cX9_half 28 = .ok (.iload_n 3, 1) := qdX9_half_0_23.2.2.2.2.2.2.2.2.2.2.2.2.2.2.2.1
theorem dX9_half_29 : decode cX9_half 29 = .ok (.ifCond .eq 8, 3) := qdX9_half_0_23.2.2.2.2.2.2.2.2.2.2.2.2.2.2.2.2.1
theorem dX9_half_32 : decode cX9_half 32 = .ok (.bipush 32, 2) := qdX9_half_0_23.2.2.2.2.2.2.2.2.2.2.2.2.2.2.2.2.2.1
theorem dX9_half_34 : decode cX9_half 34 = .ok (.goto 4, 3) := qdX9_half_0_23.2.2.2.2.2.2.2.2.2.2.2.2.2.2.2.2.2.2.1
theorem dX9_half_37 : decode cX9_half 37 = .ok (.iconst 0, 1) := qdX9_half_0_23.2.2.2.2.2.2.2.2.2.2.2.2.2.2.2.2.2.2.2.1
theorem dX9_half_38 : decode cX9_half 38 = .ok (.lshr, 1) := qdX9_half_0_23.2.2.2.2.2.2.2.2.2.2.2.2.2.2.2.2.2.2.2.2.1
theorem dX9_half_39 : decode cX9_half 39 = .ok (.l2i, 1) := qdX9_half_0_23.2.2.2.2.2.2.2.2.2.2.2.2.2.2.2.2.2.2.2.2.2.1
theorem dX9_half_40 : decode cX9_half 40 = .ok (.ireturn, 1) := qdX9_half_0_23.2.2.2.2.2.2.2.2.2.2.2.2.2.2.2.2.2.2.2.2.2.2.1
theorem ggX9_differ_X9_isOne : GoodIn wsX9_differ wsX9_isOne := fun w h => ⟨List.mem_cons_of_mem _ (List.mem_append_left _ (List.mem_append_left _ (List.mem_append_right _ h))), zq_X9_isOne w h⟩
set_option maxRecDepth 20000 in
theorem gX9_differ_X9_isOne : GoodIn wsX9_differ (va_wsS RX9 89 yX9_isOne wsX9_isOne) := goodIn_app (goodIn_r _ [1, 2, 3] rfl rfl) ggX9_differ_X9_isOne
theorem ggX9_differ_X9_isThrown : GoodIn wsX9_differ wsX9_isThrown := fun w h => ⟨List.mem_cons_of_mem _ (List.mem_append_left _ (List.mem_append_right _ h)), zq_X9_isThrown w h⟩
set_option maxRecDepth 20000 in
theorem gX9_differ_X9_isThrown : GoodIn wsX9_differ (wsV RX9 97 RX9 yX9_isThrown wsX9_isThrown) := goodIn_app (goodIn_r _ [4, 5, 6, 3] rfl rfl) ggX9_differ_X9_isThrown
theorem ggX9_differ_X9_at : GoodIn wsX9_differ wsX9_at := fun w h => ⟨List.mem_cons_of_mem _ (List.mem_append_right _ h), zq_X9_at w h⟩
set_option maxRecDepth 20000 in
theorem gX9_differ_X9_at : GoodIn wsX9_differ (wsV RX9 75 RX9 yX9_at wsX9_at) := goodIn_app (goodIn_r _ [7, 8, 9, 3] rfl rfl) ggX9_differ_X9_at
theorem qdX9_differ_0_24 : dcAll cX9_differ [(0, .aload_n 0, 1), (1, .iload_n 1, 1), (2, .invokestatic 89, 3), (5, .ifCond .eq 14, 3), (8, .iload_n 2, 1), (9, .invokestatic 89, 3), (12, .ifCond .eq 7, 3), (15, .iconst 1, 1), (16, .goto 4, 3), (19, .iconst 0, 1), (20, .iconst 1, 1), (21, .invokevirtual 97, 3), (24, .ifCond .eq 5, 3), (27, .iconst 0, 1), (28, .ireturn, 1), (29, .iconst 1, 1), (30, .istore_n 3, 1), (31, .iload_n 3, 1), (32, .bipush 120, 2), (34, .if_icmp .gt 27, 3), (37, .aload_n 0, 1), (38, .iload_n 1, 1), (39, .iload_n 3, 1), (40, .invokevirtual 75, 3)] := dcAll_of (by decide +kernel)
theorem dX9_differ_0 : decode cX9_differ 0 = .ok (.aload_n 0, 1) := qdX9_differ_0_24.1
theorem dX9_differ_1 : decode cX9_differ 1 = .ok (.iload_n 1, 1) := qdX9_differ_0_24.2.1
theorem dX9_differ_2 : decode cX9_differ 2 = .ok (.invokestatic 89, 3) := qdX9_differ_0_24.2.2.1
theorem dX9_differ_5 : decode cX9_differ 5 = .ok (.ifCond .eq 14, 3) := qdX9_differ_0_24.2.2.2.1
theorem dX9_differ_8 : decode cX9_differ 8 = .ok (.iload_n 2, 1) := qdX9_differ_0_24.2.2.2.2.1
theorem dX9_differ_9 : decode cX9_differ 9 = .ok (.invokestatic 89, 3) := qdX9_differ_0_24.2.2.2.2.2.1
theorem dX9_differ_12 : decode cX9_differ 12 = .ok (.ifCond .eq 7, 3) := qdX9_differ_0_24.2.2.2.2.2.2.1
theorem dX9_differ_15 : decode cX9_differ 15 = .ok (.iconst 1, 1) := qdX9_differ_0_24.2.2.2.2.2.2.2.1
theorem dX9_differ_16 : decode cX9_differ 16 = .ok (.goto 4, 3) := qdX9_differ_0_24.2.2.2.2.2.2.2.2.1
theorem dX9_differ_19 : decode cX9_differ 19 = .ok (.iconst 0, 1) := qdX9_differ_0_24.2.2.2.2.2.2.2.2.2.1
theorem dX9_differ_20 : decode cX9_differ 20 = .ok (.iconst 1, 1) := qdX9_differ_0_24.2.2.2.2.2.2.2.2.2.2.1
theorem dX9_differ_21 : decode cX9_differ 21 = .ok (.invokevirtual 97, 3) := qdX9_differ_0_24.2.2.2.2.2.2.2.2.2.2.2.1
theorem dX9_differ_24 : decode cX9_differ 24 = .ok (.ifCond .eq 5, 3) := qdX9_differ_0_24.2.2.2.2.2.2.2.2.2.2.2.2.1
theorem dX9_differ_27 : decode cX9_differ 27 = .ok (.iconst 0, 1) := qdX9_differ_0_24.2.2.2.2.2.2.2.2.2.2.2.2.2.1
theorem dX9_differ_28 : decode cX9_differ 28 = .ok (.ireturn, 1) := qdX9_differ_0_24.2.2.2.2.2.2.2.2.2.2.2.2.2.2.1
theorem dX9_differ_29 : decode cX9_differ 29 = .ok (.iconst 1, 1) := qdX9_differ_0_24.2.2.2.2.2.2.2.2.2.2.2.2.2.2.2.1
theorem dX9_differ_30 : decode cX9_differ 30 = .ok (.istore_n 3, 1) := qdX9_differ_0_24.2.2.2.2.2.2.2.2.2.2.2.2.2.2.2.2.1
theorem dX9_differ_31 : decode cX9_differ 31 = .ok (.iload_n 3, 1) := qdX9_differ_0_24.2.2.2.2.2.2.2.2.2.2.2.2.2.2.2.2.2.1
theorem dX9_differ_32 : decode cX9_differ 32 = .ok (.bipush 120, 2) := qdX9_differ_0_24.2.2.2.2.2.2.2.2.2.2.2.2.2.2.2.2.2.2.1
theorem dX9_differ_34 : decode cX9_differ 34 = .ok (.if_icmp .gt 27, 3) := qdX9_differ_0_24.2.2.2.2.2.2.2.2.2.2.2.2.2.2.2.2.2.2.2.1
theorem dX9_differ_37 : decode cX9_differ 37 = .ok (.aload_n 0, 1) := qdX9_differ_0_24.2.2.2.2.2.2.2.2.2.2.2.2.2.2.2.2.2.2.2.2.1
theorem dX9_differ_38 : decode cX9_differ 38 = .ok (.iload_n 1, 1) := qdX9_differ_0_24.2.2.2.2.2.2.2.2.2.2.2.2.2.2.2.2.2.2.2.2.2.1
theorem dX9_differ_39 : decode cX9_differ 39 = .ok (.iload_n 3, 1) := qdX9_differ_0_24.2.2.2.2.2.2.2.2.2.2.2.2.2.2.2.2.2.2.2.2.2.2.1
theorem dX9_differ_40 : decode cX9_differ 40 = .ok (.invokevirtual 75, 3) := qdX9_differ_0_24.2.2.2.2.2.2.2.2.2.2.2.2.2.2.2.2.2.2.2.2.2.2.2.1
theorem qdX9_differ_43_12 : dcAll cX9_differ [(43, .aload_n 0, 1), (44, .iload_n 2, 1), (45, .iload_n 3, 1), (46, .invokevirtual 75, 3), (49, .lcmp, 1), (50, .ifCond .eq 5, 3), (53, .iload_n 3, 1), (54, .ireturn, 1), (55, .iinc 3 1, 3), (58, .goto (-27), 3), (61, .iconst (-1), 1), (62, .ireturn, 1)] := dcAll_of (by decide +kernel)
theorem dX9_differ_43 : decode cX9_differ 43 = .ok (.aload_n 0, 1) := qdX9_differ_43_12.1
theorem dX9_differ_44 : decode cX9_differ 44 = .ok (.iload_n 2, 1) := qdX9_differ_43_12.2.1
theorem dX9_differ_45 : decode cX9_differ 45 = .ok (.iload_n 3, 1) := qdX9_differ_43_12.2.2.1
theorem dX9_differ_46 : decode cX9_differ 46 = .ok (.invokevirtual 75, 3) := qdX9_differ_43_12.2.2.2.1
theorem dX9_differ_49 : decode cX9_differ 49 = .ok (.lcmp, 1) := qdX9_differ_43_12.2.2.2.2.1
theorem dX9_differ_50 : decode cX9_differ 50 = .ok (.ifCond .eq 5, 3) := qdX9_differ_43_12.2.2.2.2.2.1
theorem dX9_differ_53 : decode cX9_differ 53 = .ok (.iload_n 3, 1) := qdX9_differ_43_12.2.2.2.2.2.2.1
theorem dX9_differ_54 : decode cX9_differ 54 = .ok (.ireturn, 1) := qdX9_differ_43_12.2.2.2.2.2.2.2.1
theorem dX9_differ_55 : decode cX9_differ 55 = .ok (.iinc 3 1, 3) := qdX9_differ_43_12.2.2.2.2.2.2.2.2.1
theorem dX9_differ_58 : decode cX9_differ 58 = .ok (.goto (-27), 3) := qdX9_differ_43_12.2.2.2.2.2.2.2.2.2.1
theorem dX9_differ_61 : decode cX9_differ 61 = .ok (.iconst (-1), 1) := qdX9_differ_43_12.2.2.2.2.2.2.2.2.2.2.1
theorem dX9_differ_62 : decode cX9_differ 62 = .ok (.ireturn, 1) := qdX9_differ_43_12.2.2.2.2.2.2.2.2.2.2.2.1
theorem ggX9_is_X9_isOne : GoodIn wsX9_is wsX9_isOne := fun w h => ⟨List.mem_cons_of_mem _ (List.mem_append_left _ (List.mem_append_left _ (List.mem_append_left _ (List.mem_append_left _ (List.mem_append_left _ (List.mem_append_left _ (List.mem_append_right _ h))))))), zq_X9_isOne w h⟩
set_option maxRecDepth 20000 in
theorem gX9_is_X9_isOne : GoodIn wsX9_is (va_wsS RX9 89 yX9_isOne wsX9_isOne) := goodIn_app (goodIn_r _ [1, 2, 3] rfl rfl) ggX9_is_X9_isOne
theorem ggX9_is_X9_isIn : GoodIn wsX9_is wsX9_isIn := fun w h => ⟨List.mem_cons_of_mem _ (List.mem_append_left _ (List.mem_append_left _ (List.mem_append_left _ (List.mem_append_left _ (List.mem_append_left _ (List.mem_append_right _ h)))))), zq_X9_isIn w h⟩
set_option maxRecDepth 20000 in
theorem gX9_is_X9_isIn : GoodIn wsX9_is (va_wsS RX9 93 yX9_isIn wsX9_isIn) := goodIn_app (goodIn_r _ [4, 5, 3] rfl rfl) ggX9_is_X9_isIn
theorem ggX9_is_X9_isThrown : GoodIn wsX9_is wsX9_isThrown := fun w h => ⟨List.mem_cons_of_mem _ (List.mem_append_left _ (List.mem_append_left _ (List.mem_append_left _ (List.mem_append_left _ (List.mem_append_right _ h))))), zq_X9_isThrown w h⟩
set_option maxRecDepth 20000 in
theorem gX9_is_X9_isThrown : GoodIn wsX9_is (wsV RX9 97 RX9 yX9_isThrown wsX9_isThrown) := goodIn_app (goodIn_r _ [6, 7, 8, 3] rfl rfl) ggX9_is_X9_isThrown
theorem ggX9_is_X9_of : GoodIn wsX9_is wsX9_of := fun w h => ⟨List.mem_cons_of_mem _ (List.mem_append_left _ (List.mem_append_left _ (List.mem_append_left _ (List.mem_append_right _ h)))), zq_X9_of w h⟩
set_option maxRecDepth 20000 in
theorem gX9_is_X9_of : GoodIn wsX9_is (wsV RX9 114 RX9 yX9_of wsX9_of) := goodIn_app (goodIn_r _ [9, 10, 11, 3] rfl rfl) ggX9_is_X9_of
theorem ggX9_is_X9_isByPrimes : GoodIn wsX9_is wsX9_isByPrimes := fun w h => ⟨List.mem_cons_of_mem _ (List.mem_append_left _ (List.mem_append_left _ (List.mem_append_right _ h))), zq_X9_isByPrimes w h⟩
set_option maxRecDepth 20000 in
theorem gX9_is_X9_isByPrimes : GoodIn wsX9_is (wsV RX9 149 RX9 yX9_isByPrimes wsX9_isByPrimes) := goodIn_app (goodIn_r _ [12, 13, 14, 3] rfl rfl) ggX9_is_X9_isByPrimes
theorem ggX9_is_X9_hasInverse : GoodIn wsX9_is wsX9_hasInverse := fun w h => ⟨List.mem_cons_of_mem _ (List.mem_append_left _ (List.mem_append_right _ h)), zq_X9_hasInverse w h⟩
set_option maxRecDepth 20000 in
theorem gX9_is_X9_hasInverse : GoodIn wsX9_is (wsV RX9 125 RX9 yX9_hasInverse wsX9_hasInverse) := goodIn_app (goodIn_r _ [16, 17, 18, 3] rfl rfl) ggX9_is_X9_hasInverse
theorem ggX9_is_X9_inverse : GoodIn wsX9_is wsX9_inverse := fun w h => ⟨List.mem_cons_of_mem _ (List.mem_append_right _ h), zq_X9_inverse w h⟩
set_option maxRecDepth 20000 in
theorem gX9_is_X9_inverse : GoodIn wsX9_is (wsV RX9 68 RX9 yX9_inverse wsX9_inverse) := goodIn_app (goodIn_r _ [19, 20, 21, 3] rfl rfl) ggX9_is_X9_inverse
theorem qdX9_is_0_24 : dcAll cX9_is [(0, .aload_n 0, 1), (1, .iload_n 1, 1), (2, .invokestatic 89, 3), (5, .iload_n 2, 1), (6, .iconst 0, 1), (7, .iconst 3, 1), (8, .invokestatic 93, 3), (11, .invokevirtual 97, 3), (14, .ifCond .eq 5, 3), (17, .iconst 0, 1), (18, .ireturn, 1), (19, .aload_n 0, 1), (20, .iload_n 1, 1), (21, .invokevirtual 114, 3), (24, .astore_n 3, 1), (25, .iload_n 2, 1), (26, .iconst 2, 1), (27, .if_icmp .ge 19, 3), (30, .aload_n 0, 1), (31, .aload_n 3, 1), (32, .iload_n 2, 1), (33, .iconst 1, 1), (34, .if_icmp .ne 7, 3), (37, .iconst 1, 1)] := dcAll_of (by decide +kernel)
theorem dX9_is_0 : decode cX9_is 0 = .ok (.aload_n 0, 1) := qdX9_is_0_24.1
theorem dX9_is_1 : decode cX9_is 1 = .ok (.iload_n 1, 1) := qdX9_is_0_24.2.1
theorem dX9_is_2 : decode cX9_is 2 = .ok (.invokestatic 89, 3) := qdX9_is_0_24.2.2.1
theorem dX9_is_5 : decode cX9_is 5 = .ok (.iload_n 2, 1) := qdX9_is_0_24.2.2.2.1
theorem dX9_is_6 : decode cX9_is 6 = .ok (.iconst 0, 1) := qdX9_is_0_24.2.2.2.2.1
theorem dX9_is_7 : decode cX9_is 7 = .ok (.iconst 3, 1) := qdX9_is_0_24.2.2.2.2.2.1
theorem dX9_is_8 : decode cX9_is 8 = .ok (.invokestatic 93, 3) := qdX9_is_0_24.2.2.2.2.2.2.1
theorem dX9_is_11 : decode cX9_is 11 = .ok (.invokevirtual 97, 3) := qdX9_is_0_24.2.2.2.2.2.2.2.1
theorem dX9_is_14 : decode cX9_is 14 = .ok (.ifCond .eq 5, 3) := qdX9_is_0_24.2.2.2.2.2.2.2.2.1
theorem dX9_is_17 : decode cX9_is 17 = .ok (.iconst 0, 1) := qdX9_is_0_24.2.2.2.2.2.2.2.2.2.1
theorem dX9_is_18 : decode cX9_is 18 = .ok (.ireturn, 1) := qdX9_is_0_24.2.2.2.2.2.2.2.2.2.2.1
theorem dX9_is_19 : decode cX9_is 19 = .ok (.aload_n 0, 1) := qdX9_is_0_24.2.2.2.2.2.2.2.2.2.2.2.1
theorem dX9_is_20 : decode cX9_is 20 = .ok (.iload_n 1, 1) := qdX9_is_0_24.2.2.2.2.2.2.2.2.2.2.2.2.1
theorem dX9_is_21 : decode cX9_is 21 = .ok (.invokevirtual 114, 3) := qdX9_is_0_24.2.2.2.2.2.2.2.2.2.2.2.2.2.1
theorem dX9_is_24 : decode cX9_is 24 = .ok (.astore_n 3, 1) := qdX9_is_0_24.2.2.2.2.2.2.2.2.2.2.2.2.2.2.1
theorem dX9_is_25 : decode cX9_is 25 = .ok (.iload_n 2, 1) := qdX9_is_0_24.2.2.2.2.2.2.2.2.2.2.2.2.2.2.2.1
theorem dX9_is_26 : decode cX9_is 26 = .ok (.iconst 2, 1) := qdX9_is_0_24.2.2.2.2.2.2.2.2.2.2.2.2.2.2.2.2.1
theorem dX9_is_27 : decode cX9_is 27 = .ok (.if_icmp .ge 19, 3) := qdX9_is_0_24.2.2.2.2.2.2.2.2.2.2.2.2.2.2.2.2.2.1
theorem dX9_is_30 : decode cX9_is 30 = .ok (.aload_n 0, 1) := qdX9_is_0_24.2.2.2.2.2.2.2.2.2.2.2.2.2.2.2.2.2.2.1
theorem dX9_is_31 : decode cX9_is 31 = .ok (.aload_n 3, 1) := qdX9_is_0_24.2.2.2.2.2.2.2.2.2.2.2.2.2.2.2.2.2.2.2.1
theorem dX9_is_32 : decode cX9_is 32 = .ok (.iload_n 2, 1) := qdX9_is_0_24.2.2.2.2.2.2.2.2.2.2.2.2.2.2.2.2.2.2.2.2.1
theorem dX9_is_33 : decode cX9_is 33 = .ok (.iconst 1, 1) := qdX9_is_0_24.2.2.2.2.2.2.2.2.2.2.2.2.2.2.2.2.2.2.2.2.2.1
theorem dX9_is_34 : decode cX9_is 34 = .ok (.if_icmp .ne 7, 3) := qdX9_is_0_24.2.2.2.2.2.2.2.2.2.2.2.2.2.2.2.2.2.2.2.2.2.2.1
theorem dX9_is_37 : decode cX9_is 37 = .ok (.iconst 1, 1) := qdX9_is_0_24.2.2.2.2.2.2.2.2.2.2.2.2.2.2.2.2.2.2.2.2.2.2.2.1
theorem qdX9_is_38_24 : dcAll cX9_is [(38, .goto 4, 3), (41, .iconst 0, 1), (42, .invokevirtual 149, 3), (45, .ireturn, 1), (46, .aload_n 0, 1), (47, .aload_n 0, 1), (48, .aload_n 3, 1), (49, .invokevirtual 125, 3), (52, .ifCond .ne 7, 3), (55, .iconst 1, 1), (56, .goto 4, 3), (59, .iconst 0, 1), (60, .putfield 36, 3), (63, .iload_n 2, 1), (64, .iconst 3, 1), (65, .if_icmp .ne 16, 3), (68, .aload_n 0, 1), (69, .getfield 36, 3), (72, .ifCond .ne 9, 3), (75, .aload_n 0, 1), (76, .aload_n 3, 1), (77, .invokevirtual 68, 3), (80, .pop, 1), (81, .aload_n 0, 1)] := dcAll_of (by decide +kernel)
theorem dX9_is_38 : decode cX9_is 38 = .ok (.goto 4, 3) := qdX9_is_38_24.1
theorem dX9_is_41 : decode cX9_is 41 = .ok (.iconst 0, 1) := qdX9_is_38_24.2.1
theorem dX9_is_42 : decode cX9_is 42 = .ok (.invokevirtual 149, 3) := qdX9_is_38_24.2.2.1
theorem dX9_is_45 : decode cX9_is 45 = .ok (.ireturn, 1) := qdX9_is_38_24.2.2.2.1
theorem dX9_is_46 : decode cX9_is 46 = .ok (.aload_n 0, 1) := qdX9_is_38_24.2.2.2.2.1
theorem dX9_is_47 : decode cX9_is 47 = .ok (.aload_n 0, 1) := qdX9_is_38_24.2.2.2.2.2.1
theorem dX9_is_48 : decode cX9_is 48 = .ok (.aload_n 3, 1) := qdX9_is_38_24.2.2.2.2.2.2.1
theorem dX9_is_49 : decode cX9_is 49 = .ok (.invokevirtual 125, 3) := qdX9_is_38_24.2.2.2.2.2.2.2.1
theorem dX9_is_52 : decode cX9_is 52 = .ok (.ifCond .ne 7, 3) := qdX9_is_38_24.2.2.2.2.2.2.2.2.1
theorem dX9_is_55 : decode cX9_is 55 = .ok (.iconst 1, 1) := qdX9_is_38_24.2.2.2.2.2.2.2.2.2.1
theorem dX9_is_56 : decode cX9_is 56 = .ok (.goto 4, 3) := qdX9_is_38_24.2.2.2.2.2.2.2.2.2.2.1
theorem dX9_is_59 : decode cX9_is 59 = .ok (.iconst 0, 1) := qdX9_is_38_24.2.2.2.2.2.2.2.2.2.2.2.1
theorem dX9_is_60 : decode cX9_is 60 = .ok (.putfield 36, 3) := qdX9_is_38_24.2.2.2.2.2.2.2.2.2.2.2.2.1
theorem dX9_is_63 : decode cX9_is 63 = .ok (.iload_n 2, 1) := qdX9_is_38_24.2.2.2.2.2.2.2.2.2.2.2.2.2.1
theorem dX9_is_64 : decode cX9_is 64 = .ok (.iconst 3, 1) := qdX9_is_38_24.2.2.2.2.2.2.2.2.2.2.2.2.2.2.1
theorem dX9_is_65 : decode cX9_is 65 = .ok (.if_icmp .ne 16, 3) := qdX9_is_38_24.2.2.2.2.2.2.2.2.2.2.2.2.2.2.2.1
theorem dX9_is_68 : decode cX9_is 68 = .ok (.aload_n 0, 1) := qdX9_is_38_24.2.2.2.2.2.2.2.2.2.2.2.2.2.2.2.2.1
theorem dX9_is_69 : decode cX9_is 69 = .ok (.getfield 36, 3) := qdX9_is_38_24.2.2.2.2.2.2.2.2.2.2.2.2.2.2.2.2.2.1
theorem dX9_is_72 : decode cX9_is 72 = .ok (.ifCond .ne 9, 3) := qdX9_is_38_24.2.2.2.2.2.2.2.2.2.2.2.2.2.2.2.2.2.2.1
theorem dX9_is_75 : decode cX9_is 75 = .ok (.aload_n 0, 1) := qdX9_is_38_24.2.2.2.2.2.2.2.2.2.2.2.2.2.2.2.2.2.2.2.1
theorem dX9_is_76 : decode cX9_is 76 = .ok (.aload_n 3, 1) := qdX9_is_38_24.2.2.2.2.2.2.2.2.2.2.2.2.2.2.2.2.2.2.2.2.1
theorem dX9_is_77 : decode cX9_is 77 = .ok (.invokevirtual 68, 3) := qdX9_is_38_24.2.2.2.2.2.2.2.2.2.2.2.2.2.2.2.2.2.2.2.2.2.1
theorem dX9_is_80 : decode cX9_is 80 = .ok (.pop, 1) := qdX9_is_38_24.2.2.2.2.2.2.2.2.2.2.2.2.2.2.2.2.2.2.2.2.2.2.1
theorem dX9_is_81 : decode cX9_is 81 = .ok (.aload_n 0, 1) := qdX9_is_38_24.2.2.2.2.2.2.2.2.2.2.2.2.2.2.2.2.2.2.2.2.2.2.2.1
theorem qdX9_is_82_6 : dcAll cX9_is [(82, .getfield 36, 3), (85, .ifCond .ne 7, 3), (88, .iconst 1, 1), (89, .goto 4, 3), (92, .iconst 0, 1), (93, .ireturn, 1)] := dcAll_of (by decide +kernel)
theorem dX9_is_82 : decode cX9_is 82 = .ok (.getfield 36, 3) := qdX9_is_82_6.1
theorem dX9_is_85 : decode cX9_is 85 = .ok (.ifCond .ne 7, 3) := qdX9_is_82_6.2.1
theorem dX9_is_88 : decode cX9_is 88 = .ok (.iconst 1, 1) := qdX9_is_82_6.2.2.1
theorem dX9_is_89 : decode cX9_is 89 = .ok (.goto 4, 3) := qdX9_is_82_6.2.2.2.1
theorem dX9_is_92 : decode cX9_is 92 = .ok (.iconst 0, 1) := qdX9_is_82_6.2.2.2.2.1
theorem dX9_is_93 : decode cX9_is 93 = .ok (.ireturn, 1) := qdX9_is_82_6.2.2.2.2.2.1
theorem ggX9_totalOf_X9_plus : GoodIn wsX9_totalOf wsX9_plus := fun w h => ⟨List.mem_cons_of_mem _ (List.mem_append_right _ h), zq_X9_plus w h⟩
set_option maxRecDepth 20000 in
theorem gX9_totalOf_X9_plus : GoodIn wsX9_totalOf (wsV RX9 62 RX9 yX9_plus wsX9_plus) := goodIn_app (goodIn_r _ [1, 2, 3, 4] rfl rfl) ggX9_totalOf_X9_plus
theorem qdX9_totalOf_0_18 : dcAll cX9_totalOf [(0, .lconst 0, 1), (1, .lstore_n 3, 1), (2, .iconst 1, 1), (3, .istore 5, 2), (5, .iload 5, 2), (7, .iload_n 2, 1), (8, .if_icmp .gt 19, 3), (11, .aload_n 0, 1), (12, .lload_n 3, 1), (13, .aload_n 1, 1), (14, .iload 5, 2), (16, .laload, 1), (17, .invokevirtual 62, 3), (20, .lstore_n 3, 1), (21, .iinc 5 1, 3), (24, .goto (-19), 3), (27, .lload_n 3, 1), (28, .lreturn, 1)] := dcAll_of (by decide +kernel)
theorem dX9_totalOf_0 : decode cX9_totalOf 0 = .ok (.lconst 0, 1) := qdX9_totalOf_0_18.1
theorem dX9_totalOf_1 : decode cX9_totalOf 1 = .ok (.lstore_n 3, 1) := qdX9_totalOf_0_18.2.1
theorem dX9_totalOf_2 : decode cX9_totalOf 2 = .ok (.iconst 1, 1) := qdX9_totalOf_0_18.2.2.1
theorem dX9_totalOf_3 : decode cX9_totalOf 3 = .ok (.istore 5, 2) := qdX9_totalOf_0_18.2.2.2.1
theorem dX9_totalOf_5 : decode cX9_totalOf 5 = .ok (.iload 5, 2) := qdX9_totalOf_0_18.2.2.2.2.1
theorem dX9_totalOf_7 : decode cX9_totalOf 7 = .ok (.iload_n 2, 1) := qdX9_totalOf_0_18.2.2.2.2.2.1
theorem dX9_totalOf_8 : decode cX9_totalOf 8 = .ok (.if_icmp .gt 19, 3) := qdX9_totalOf_0_18.2.2.2.2.2.2.1
theorem dX9_totalOf_11 : decode cX9_totalOf 11 = .ok (.aload_n 0, 1) := qdX9_totalOf_0_18.2.2.2.2.2.2.2.1
theorem dX9_totalOf_12 : decode cX9_totalOf 12 = .ok (.lload_n 3, 1) := qdX9_totalOf_0_18.2.2.2.2.2.2.2.2.1
theorem dX9_totalOf_13 : decode cX9_totalOf 13 = .ok (.aload_n 1, 1) := qdX9_totalOf_0_18.2.2.2.2.2.2.2.2.2.1
theorem dX9_totalOf_14 : decode cX9_totalOf 14 = .ok (.iload 5, 2) := qdX9_totalOf_0_18.2.2.2.2.2.2.2.2.2.2.1
theorem dX9_totalOf_16 : decode cX9_totalOf 16 = .ok (.laload, 1) := qdX9_totalOf_0_18.2.2.2.2.2.2.2.2.2.2.2.1
theorem dX9_totalOf_17 : decode cX9_totalOf 17 = .ok (.invokevirtual 62, 3) := qdX9_totalOf_0_18.2.2.2.2.2.2.2.2.2.2.2.2.1
theorem dX9_totalOf_20 : decode cX9_totalOf 20 = .ok (.lstore_n 3, 1) := qdX9_totalOf_0_18.2.2.2.2.2.2.2.2.2.2.2.2.2.1
theorem dX9_totalOf_21 : decode cX9_totalOf 21 = .ok (.iinc 5 1, 3) := qdX9_totalOf_0_18.2.2.2.2.2.2.2.2.2.2.2.2.2.2.1
theorem dX9_totalOf_24 : decode cX9_totalOf 24 = .ok (.goto (-19), 3) := qdX9_totalOf_0_18.2.2.2.2.2.2.2.2.2.2.2.2.2.2.2.1
theorem dX9_totalOf_27 : decode cX9_totalOf 27 = .ok (.lload_n 3, 1) := qdX9_totalOf_0_18.2.2.2.2.2.2.2.2.2.2.2.2.2.2.2.2.1
theorem dX9_totalOf_28 : decode cX9_totalOf 28 = .ok (.lreturn, 1) := qdX9_totalOf_0_18.2.2.2.2.2.2.2.2.2.2.2.2.2.2.2.2.2.1
theorem ggX9_total_X9_isOne : GoodIn wsX9_total wsX9_isOne := fun w h => ⟨List.mem_cons_of_mem _ (List.mem_append_left _ (List.mem_append_left _ (List.mem_append_left _ (List.mem_append_left _ (List.mem_append_left _ (List.mem_append_left _ (List.mem_append_left _ (List.mem_append_left _ (List.mem_append_right _ h))))))))), zq_X9_isOne w h⟩
set_option maxRecDepth 20000 in
theorem gX9_total_X9_isOne : GoodIn wsX9_total (va_wsS RX9 89 yX9_isOne wsX9_isOne) := goodIn_app (goodIn_r _ [3, 4, 5] rfl rfl) ggX9_total_X9_isOne
theorem ggX9_total_X9_isIn : GoodIn wsX9_total wsX9_isIn := fun w h => ⟨List.mem_cons_of_mem _ (List.mem_append_left _ (List.mem_append_left _ (List.mem_append_left _ (List.mem_append_left _ (List.mem_append_left _ (List.mem_append_left _ (List.mem_append_left _ (List.mem_append_right _ h)))))))), zq_X9_isIn w h⟩
set_option maxRecDepth 20000 in
theorem gX9_total_X9_isIn : GoodIn wsX9_total (va_wsS RX9 93 yX9_isIn wsX9_isIn) := goodIn_app (goodIn_r _ [6, 7, 5] rfl rfl) ggX9_total_X9_isIn
theorem ggX9_total_X9_isThrown : GoodIn wsX9_total wsX9_isThrown := fun w h => ⟨List.mem_cons_of_mem _ (List.mem_append_left _ (List.mem_append_left _ (List.mem_append_left _ (List.mem_append_left _ (List.mem_append_left _ (List.mem_append_left _ (List.mem_append_right _ h))))))), zq_X9_isThrown w h⟩
set_option maxRecDepth 20000 in
theorem gX9_total_X9_isThrown : GoodIn wsX9_total (wsV RX9 97 RX9 yX9_isThrown wsX9_isThrown) := goodIn_app (goodIn_r _ [8, 9, 10, 5] rfl rfl) ggX9_total_X9_isThrown
theorem ggX9_total_X9_of : GoodIn wsX9_total wsX9_of := fun w h => ⟨List.mem_cons_of_mem _ (List.mem_append_left _ (List.mem_append_left _ (List.mem_append_left _ (List.mem_append_left _ (List.mem_append_left _ (List.mem_append_right _ h)))))), zq_X9_of w h⟩
set_option maxRecDepth 20000 in
theorem gX9_total_X9_of : GoodIn wsX9_total (wsV RX9 114 RX9 yX9_of wsX9_of) := goodIn_app (goodIn_r _ [11, 12, 13, 5] rfl rfl) ggX9_total_X9_of
theorem ggX9_total_X9_totalOf : GoodIn wsX9_total wsX9_totalOf := fun w h => ⟨List.mem_cons_of_mem _ (List.mem_append_left _ (List.mem_append_left _ (List.mem_append_left _ (List.mem_append_left _ (List.mem_append_right _ h))))), zq_X9_totalOf w h⟩
set_option maxRecDepth 20000 in
theorem gX9_total_X9_totalOf : GoodIn wsX9_total (wsV RX9 153 RX9 yX9_totalOf wsX9_totalOf) := goodIn_app (goodIn_r _ [14, 15, 16, 5] rfl rfl) ggX9_total_X9_totalOf
theorem ggX9_total_J4_init_da8c8 : GoodIn wsX9_total wsJ4_init_da8c8 := fun w h => ⟨List.mem_cons_of_mem _ (List.mem_append_left _ (List.mem_append_left _ (List.mem_append_left _ (List.mem_append_right _ h)))), zq_J4_init_da8c8 w h⟩
set_option maxRecDepth 20000 in
theorem gX9_total_J4_init_da8c8 : GoodIn wsX9_total (wsJ4_init_da8c8) := ggX9_total_J4_init_da8c8
theorem ggX9_total_J4_append_15ec4 : GoodIn wsX9_total wsJ4_append_15ec4 := fun w h => ⟨List.mem_cons_of_mem _ (List.mem_append_left _ (List.mem_append_left _ (List.mem_append_right _ h))), zq_J4_append_15ec4 w h⟩
set_option maxRecDepth 20000 in
theorem gX9_total_J4_append_15ec4 : GoodIn wsX9_total (wsV RX9 138 RJ4 yJ4_append_15ec4 wsJ4_append_15ec4) := goodIn_app (goodIn_r _ [21, 22, 23, 2] rfl rfl) ggX9_total_J4_append_15ec4
theorem ggX9_total_J4_append_f7089 : GoodIn wsX9_total wsJ4_append_f7089 := fun w h => ⟨List.mem_cons_of_mem _ (List.mem_append_left _ (List.mem_append_right _ h)), zq_J4_append_f7089 w h⟩
set_option maxRecDepth 20000 in
theorem gX9_total_J4_append_f7089 : GoodIn wsX9_total (wsV RX9 142 RJ4 yJ4_append_f7089 wsJ4_append_f7089) := goodIn_app (goodIn_r _ [41, 42, 43, 2] rfl rfl) ggX9_total_J4_append_f7089
theorem ggX9_total_J4_toString_0e30d : GoodIn wsX9_total wsJ4_toString_0e30d := fun w h => ⟨List.mem_cons_of_mem _ (List.mem_append_right _ h), zq_J4_toString_0e30d w h⟩
set_option maxRecDepth 20000 in
theorem gX9_total_J4_toString_0e30d : GoodIn wsX9_total (wsV RX9 145 RJ4 yJ4_toString_0e30d wsJ4_toString_0e30d) := goodIn_app (goodIn_r _ [46, 47, 48, 2] rfl rfl) ggX9_total_J4_toString_0e30d
theorem qdX9_total_0_24 : dcAll cX9_total [(0, .aload_n 0, 1), (1, .iload_n 1, 1), (2, .invokestatic 89, 3), (5, .iload_n 2, 1), (6, .iconst 0, 1), (7, .bipush 120, 2), (9, .invokestatic 93, 3), (12, .invokevirtual 97, 3), (15, .ifCond .eq 6, 3), (18, .ldc 133, 2), (20, .areturn, 1), (21, .aload_n 0, 1), (22, .iconst 0, 1), (23, .putfield 36, 3), (26, .aload_n 0, 1), (27, .aload_n 0, 1), (28, .iload_n 1, 1), (29, .invokevirtual 114, 3), (32, .iload_n 2, 1), (33, .invokevirtual 153, 3), (36, .lstore_n 3, 1), (37, .aload_n 0, 1), (38, .aload_n 0, 1), (39, .getfield 36, 3)] := dcAll_of (by decide +kernel)
theorem dX9_total_0 : decode cX9_total 0 = .ok (.aload_n 0, 1) := qdX9_total_0_24.1
theorem dX9_total_1 : decode cX9_total 1 = .ok (.iload_n 1, 1) := qdX9_total_0_24.2.1
theorem dX9_total_2 : decode cX9_total 2 = .ok (.invokestatic 89, 3) := qdX9_total_0_24.2.2.1
theorem dX9_total_5 : decode cX9_total 5 = .ok (.iload_n 2, 1) := qdX9_total_0_24.2.2.2.1
theorem dX9_total_6 : decode cX9_total 6 = .ok (.iconst 0, 1) := qdX9_total_0_24.2.2.2.2.1
theorem dX9_total_7 : decode cX9_total 7 = .ok (.bipush 120, 2) := qdX9_total_0_24.2.2.2.2.2.1
theorem dX9_total_9 : decode cX9_total 9 = .ok (.invokestatic 93, 3) := qdX9_total_0_24.2.2.2.2.2.2.1
theorem dX9_total_12 : decode cX9_total 12 = .ok (.invokevirtual 97, 3) := qdX9_total_0_24.2.2.2.2.2.2.2.1
theorem dX9_total_15 : decode cX9_total 15 = .ok (.ifCond .eq 6, 3) := qdX9_total_0_24.2.2.2.2.2.2.2.2.1
theorem dX9_total_18 : decode cX9_total 18 = .ok (.ldc 133, 2) := qdX9_total_0_24.2.2.2.2.2.2.2.2.2.1
theorem dX9_total_20 : decode cX9_total 20 = .ok (.areturn, 1) := qdX9_total_0_24.2.2.2.2.2.2.2.2.2.2.1
theorem dX9_total_21 : decode cX9_total 21 = .ok (.aload_n 0, 1) := qdX9_total_0_24.2.2.2.2.2.2.2.2.2.2.2.1
theorem dX9_total_22 : decode cX9_total 22 = .ok (.iconst 0, 1) := qdX9_total_0_24.2.2.2.2.2.2.2.2.2.2.2.2.1
theorem dX9_total_23 : decode cX9_total 23 = .ok (.putfield 36, 3) := qdX9_total_0_24.2.2.2.2.2.2.2.2.2.2.2.2.2.1
theorem dX9_total_26 : decode cX9_total 26 = .ok (.aload_n 0, 1) := qdX9_total_0_24.2.2.2.2.2.2.2.2.2.2.2.2.2.2.1
theorem dX9_total_27 : decode cX9_total 27 = .ok (.aload_n 0, 1) := qdX9_total_0_24.2.2.2.2.2.2.2.2.2.2.2.2.2.2.2.1
theorem dX9_total_28 : decode cX9_total 28 = .ok (.iload_n 1, 1) := qdX9_total_0_24.2.2.2.2.2.2.2.2.2.2.2.2.2.2.2.2.1
theorem dX9_total_29 : decode cX9_total 29 = .ok (.invokevirtual 114, 3) := qdX9_total_0_24.2.2.2.2.2.2.2.2.2.2.2.2.2.2.2.2.2.1
theorem dX9_total_32 : decode cX9_total 32 = .ok (.iload_n 2, 1) := qdX9_total_0_24.2.2.2.2.2.2.2.2.2.2.2.2.2.2.2.2.2.2.1
theorem dX9_total_33 : decode cX9_total 33 = .ok (.invokevirtual 153, 3) := qdX9_total_0_24.2.2.2.2.2.2.2.2.2.2.2.2.2.2.2.2.2.2.2.1
theorem dX9_total_36 : decode cX9_total 36 = .ok (.lstore_n 3, 1) := qdX9_total_0_24.2.2.2.2.2.2.2.2.2.2.2.2.2.2.2.2.2.2.2.2.1
theorem dX9_total_37 : decode cX9_total 37 = .ok (.aload_n 0, 1) := qdX9_total_0_24.2.2.2.2.2.2.2.2.2.2.2.2.2.2.2.2.2.2.2.2.2.1
theorem dX9_total_38 : decode cX9_total 38 = .ok (.aload_n 0, 1) := qdX9_total_0_24.2.2.2.2.2.2.2.2.2.2.2.2.2.2.2.2.2.2.2.2.2.2.1
theorem dX9_total_39 : decode cX9_total 39 = .ok (.getfield 36, 3) := qdX9_total_0_24.2.2.2.2.2.2.2.2.2.2.2.2.2.2.2.2.2.2.2.2.2.2.2.1
theorem qdX9_total_42_19 : dcAll cX9_total [(42, .ifCond .eq 7, 3), (45, .iconst 3, 1), (46, .goto 4, 3), (49, .iconst 0, 1), (50, .putfield 13, 3), (53, .aload_n 0, 1), (54, .getfield 36, 3), (57, .ifCond .eq 8, 3), (60, .ldc 133, 2), (62, .goto 22, 3), (65, .new 135, 3), (68, .dup, 1), (69, .invokespecial 137, 3), (72, .ldc 133, 2), (74, .invokevirtual 138, 3), (77, .lload_n 3, 1), (78, .invokevirtual 142, 3), (81, .invokevirtual 145, 3), (84, .areturn, 1)] := dcAll_of (by decide +kernel)
theorem dX9_total_42 : decode cX9_total 42 = .ok (.ifCond .eq 7, 3) := qdX9_total_42_19.1
theorem dX9_total_45 : decode cX9_total 45 = .ok (.iconst 3, 1) := qdX9_total_42_19.2.1
theorem dX9_total_46 : decode cX9_total 46 = .ok (.goto 4, 3) := qdX9_total_42_19.2.2.1
theorem dX9_total_49 : decode cX9_total 49 = .ok (.iconst 0, 1) := qdX9_total_42_19.2.2.2.1
theorem dX9_total_50 : decode cX9_total 50 = .ok (.putfield 13, 3) := qdX9_total_42_19.2.2.2.2.1
theorem dX9_total_53 : decode cX9_total 53 = .ok (.aload_n 0, 1) := qdX9_total_42_19.2.2.2.2.2.1
theorem dX9_total_54 : decode cX9_total 54 = .ok (.getfield 36, 3) := qdX9_total_42_19.2.2.2.2.2.2.1
theorem dX9_total_57 : decode cX9_total 57 = .ok (.ifCond .eq 8, 3) := qdX9_total_42_19.2.2.2.2.2.2.2.1
theorem dX9_total_60 : decode cX9_total 60 = .ok (.ldc 133, 2) := qdX9_total_42_19.2.2.2.2.2.2.2.2.1
theorem dX9_total_62 : decode cX9_total 62 = .ok (.goto 22, 3) := qdX9_total_42_19.2.2.2.2.2.2.2.2.2.1
theorem dX9_total_65 : decode cX9_total 65 = .ok (.new 135, 3) := qdX9_total_42_19.2.2.2.2.2.2.2.2.2.2.1
theorem dX9_total_68 : decode cX9_total 68 = .ok (.dup, 1) := qdX9_total_42_19.2.2.2.2.2.2.2.2.2.2.2.1
theorem dX9_total_69 : decode cX9_total 69 = .ok (.invokespecial 137, 3) := qdX9_total_42_19.2.2.2.2.2.2.2.2.2.2.2.2.1
theorem dX9_total_72 : decode cX9_total 72 = .ok (.ldc 133, 2) := qdX9_total_42_19.2.2.2.2.2.2.2.2.2.2.2.2.2.1
theorem dX9_total_74 : decode cX9_total 74 = .ok (.invokevirtual 138, 3) := qdX9_total_42_19.2.2.2.2.2.2.2.2.2.2.2.2.2.2.1
theorem dX9_total_77 : decode cX9_total 77 = .ok (.lload_n 3, 1) := qdX9_total_42_19.2.2.2.2.2.2.2.2.2.2.2.2.2.2.2.1
theorem dX9_total_78 : decode cX9_total 78 = .ok (.invokevirtual 142, 3) := qdX9_total_42_19.2.2.2.2.2.2.2.2.2.2.2.2.2.2.2.2.1
theorem dX9_total_81 : decode cX9_total 81 = .ok (.invokevirtual 145, 3) := qdX9_total_42_19.2.2.2.2.2.2.2.2.2.2.2.2.2.2.2.2.2.1
theorem dX9_total_84 : decode cX9_total 84 = .ok (.areturn, 1) := qdX9_total_42_19.2.2.2.2.2.2.2.2.2.2.2.2.2.2.2.2.2.2.1
theorem qdX9_isGreat_0_24 : dcAll cX9_isGreat [(0, .iconst 1, 1), (1, .istore_n 3, 1), (2, .iload_n 3, 1), (3, .iload_n 1, 1), (4, .if_icmp .gt 30, 3), (7, .aload_n 0, 1), (8, .iload_n 3, 1), (9, .laload, 1), (10, .iload_n 2, 1), (11, .i2l, 1), (12, .lcmp, 1), (13, .ifCond .gt 13, 3), (16, .aload_n 0, 1), (17, .iload_n 3, 1), (18, .laload, 1), (19, .iload_n 2, 1), (20, .ineg, 1), (21, .i2l, 1), (22, .lcmp, 1), (23, .ifCond .ge 5, 3), (26, .iconst 1, 1), (27, .ireturn, 1), (28, .iinc 3 1, 3), (31, .goto (-29), 3)] := dcAll_of (by decide +kernel)
theorem dX9_isGreat_0 : decode cX9_isGreat 0 = .ok (.iconst 1, 1) := qdX9_isGreat_0_24.1
theorem dX9_isGreat_1 : decode cX9_isGreat 1 = .ok (.istore_n 3, 1) := qdX9_isGreat_0_24.2.1
theorem dX9_isGreat_2 : decode cX9_isGreat 2 = .ok (.iload_n 3, 1) := qdX9_isGreat_0_24.2.2.1
theorem dX9_isGreat_3 : decode cX9_isGreat 3 = .ok (.iload_n 1, 1) := qdX9_isGreat_0_24.2.2.2.1
theorem dX9_isGreat_4 : decode cX9_isGreat 4 = .ok (.if_icmp .gt 30, 3) := qdX9_isGreat_0_24.2.2.2.2.1
theorem dX9_isGreat_7 : decode cX9_isGreat 7 = .ok (.aload_n 0, 1) := qdX9_isGreat_0_24.2.2.2.2.2.1
theorem dX9_isGreat_8 : decode cX9_isGreat 8 = .ok (.iload_n 3, 1) := qdX9_isGreat_0_24.2.2.2.2.2.2.1
theorem dX9_isGreat_9 : decode cX9_isGreat 9 = .ok (.laload, 1) := qdX9_isGreat_0_24.2.2.2.2.2.2.2.1
theorem dX9_isGreat_10 : decode cX9_isGreat 10 = .ok (.iload_n 2, 1) := qdX9_isGreat_0_24.2.2.2.2.2.2.2.2.1
theorem dX9_isGreat_11 : decode cX9_isGreat 11 = .ok (.i2l, 1) := qdX9_isGreat_0_24.2.2.2.2.2.2.2.2.2.1
theorem dX9_isGreat_12 : decode cX9_isGreat 12 = .ok (.lcmp, 1) := qdX9_isGreat_0_24.2.2.2.2.2.2.2.2.2.2.1
theorem dX9_isGreat_13 : decode cX9_isGreat 13 = .ok (.ifCond .gt 13, 3) := qdX9_isGreat_0_24.2.2.2.2.2.2.2.2.2.2.2.1
theorem dX9_isGreat_16 : decode cX9_isGreat 16 = .ok (.aload_n 0, 1) := qdX9_isGreat_0_24.2.2.2.2.2.2.2.2.2.2.2.2.1
theorem dX9_isGreat_17 : decode cX9_isGreat 17 = .ok (.iload_n 3, 1) := qdX9_isGreat_0_24.2.2.2.2.2.2.2.2.2.2.2.2.2.1
theorem dX9_isGreat_18 : decode cX9_isGreat 18 = .ok (.laload, 1) := qdX9_isGreat_0_24.2.2.2.2.2.2.2.2.2.2.2.2.2.2.1
theorem dX9_isGreat_19 : decode cX9_isGreat 19 = .ok (.iload_n 2, 1) := qdX9_isGreat_0_24.2.2.2.2.2.2.2.2.2.2.2.2.2.2.2.1
theorem dX9_isGreat_20 : decode cX9_isGreat 20 = .ok (.ineg, 1) := qdX9_isGreat_0_24.2.2.2.2.2.2.2.2.2.2.2.2.2.2.2.2.1
theorem dX9_isGreat_21 : decode cX9_isGreat 21 = .ok (.i2l, 1) := qdX9_isGreat_0_24.2.2.2.2.2.2.2.2.2.2.2.2.2.2.2.2.2.1
theorem dX9_isGreat_22 : decode cX9_isGreat 22 = .ok (.lcmp, 1) := qdX9_isGreat_0_24.2.2.2.2.2.2.2.2.2.2.2.2.2.2.2.2.2.2.1
theorem dX9_isGreat_23 : decode cX9_isGreat 23 = .ok (.ifCond .ge 5, 3) := qdX9_isGreat_0_24.2.2.2.2.2.2.2.2.2.2.2.2.2.2.2.2.2.2.2.1
theorem dX9_isGreat_26 : decode cX9_isGreat 26 = .ok (.iconst 1, 1) := qdX9_isGreat_0_24.2.2.2.2.2.2.2.2.2.2.2.2.2.2.2.2.2.2.2.2.1
theorem dX9_isGreat_27 : decode cX9_isGreat 27 = .ok (.ireturn, 1) := qdX9_isGreat_0_24.2.2.2.2.2.2.2.2.2.2.2.2.2.2.2.2.2.2.2.2.2.1
theorem dX9_isGreat_28 : decode cX9_isGreat 28 = .ok (.iinc 3 1, 3) := qdX9_isGreat_0_24.2.2.2.2.2.2.2.2.2.2.2.2.2.2.2.2.2.2.2.2.2.2.1
theorem dX9_isGreat_31 : decode cX9_isGreat 31 = .ok (.goto (-29), 3) := qdX9_isGreat_0_24.2.2.2.2.2.2.2.2.2.2.2.2.2.2.2.2.2.2.2.2.2.2.2.1
theorem qdX9_isGreat_34_2 : dcAll cX9_isGreat [(34, .iconst 0, 1), (35, .ireturn, 1)] := dcAll_of (by decide +kernel)
theorem dX9_isGreat_34 : decode cX9_isGreat 34 = .ok (.iconst 0, 1) := qdX9_isGreat_34_2.1
theorem dX9_isGreat_35 : decode cX9_isGreat 35 = .ok (.ireturn, 1) := qdX9_isGreat_34_2.2.1
theorem ggX9_totalOfProduct_X9_isOne : GoodIn wsX9_totalOfProduct wsX9_isOne := fun w h => ⟨List.mem_cons_of_mem _ (List.mem_append_left _ (List.mem_append_left _ (List.mem_append_left _ (List.mem_append_left _ (List.mem_append_left _ (List.mem_append_left _ (List.mem_append_left _ (List.mem_append_left _ (List.mem_append_left _ (List.mem_append_left _ (List.mem_append_right _ h))))))))))), zq_X9_isOne w h⟩
set_option maxRecDepth 20000 in
theorem gX9_totalOfProduct_X9_isOne : GoodIn wsX9_totalOfProduct (va_wsS RX9 89 yX9_isOne wsX9_isOne) := goodIn_app (goodIn_r _ [4, 5, 6] rfl rfl) ggX9_totalOfProduct_X9_isOne
theorem ggX9_totalOfProduct_X9_isIn : GoodIn wsX9_totalOfProduct wsX9_isIn := fun w h => ⟨List.mem_cons_of_mem _ (List.mem_append_left _ (List.mem_append_left _ (List.mem_append_left _ (List.mem_append_left _ (List.mem_append_left _ (List.mem_append_left _ (List.mem_append_left _ (List.mem_append_left _ (List.mem_append_left _ (List.mem_append_right _ h)))))))))), zq_X9_isIn w h⟩
set_option maxRecDepth 20000 in
theorem gX9_totalOfProduct_X9_isIn : GoodIn wsX9_totalOfProduct (va_wsS RX9 93 yX9_isIn wsX9_isIn) := goodIn_app (goodIn_r _ [7, 8, 6] rfl rfl) ggX9_totalOfProduct_X9_isIn
theorem ggX9_totalOfProduct_X9_isThrown : GoodIn wsX9_totalOfProduct wsX9_isThrown := fun w h => ⟨List.mem_cons_of_mem _ (List.mem_append_left _ (List.mem_append_left _ (List.mem_append_left _ (List.mem_append_left _ (List.mem_append_left _ (List.mem_append_left _ (List.mem_append_left _ (List.mem_append_left _ (List.mem_append_right _ h))))))))), zq_X9_isThrown w h⟩
set_option maxRecDepth 20000 in
theorem gX9_totalOfProduct_X9_isThrown : GoodIn wsX9_totalOfProduct (wsV RX9 97 RX9 yX9_isThrown wsX9_isThrown) := goodIn_app (goodIn_r _ [9, 10, 11, 6] rfl rfl) ggX9_totalOfProduct_X9_isThrown
theorem ggX9_totalOfProduct_X9_of : GoodIn wsX9_totalOfProduct wsX9_of := fun w h => ⟨List.mem_cons_of_mem _ (List.mem_append_left _ (List.mem_append_left _ (List.mem_append_left _ (List.mem_append_left _ (List.mem_append_left _ (List.mem_append_left _ (List.mem_append_left _ (List.mem_append_right _ h)))))))), zq_X9_of w h⟩
set_option maxRecDepth 20000 in
theorem gX9_totalOfProduct_X9_of : GoodIn wsX9_totalOfProduct (wsV RX9 114 RX9 yX9_of wsX9_of) := goodIn_app (goodIn_r _ [12, 13, 14, 6] rfl rfl) ggX9_totalOfProduct_X9_of
theorem ggX9_totalOfProduct_X9_isGreat : GoodIn wsX9_totalOfProduct wsX9_isGreat := fun w h => ⟨List.mem_cons_of_mem _ (List.mem_append_left _ (List.mem_append_left _ (List.mem_append_left _ (List.mem_append_left _ (List.mem_append_left _ (List.mem_append_left _ (List.mem_append_right _ h))))))), zq_X9_isGreat w h⟩
set_option maxRecDepth 20000 in
theorem gX9_totalOfProduct_X9_isGreat : GoodIn wsX9_totalOfProduct (va_wsS RX9 158 yX9_isGreat wsX9_isGreat) := goodIn_app (goodIn_r _ [15, 16, 6] rfl rfl) ggX9_totalOfProduct_X9_isGreat
theorem ggX9_totalOfProduct_J4_init_da8c8 : GoodIn wsX9_totalOfProduct wsJ4_init_da8c8 := fun w h => ⟨List.mem_cons_of_mem _ (List.mem_append_left _ (List.mem_append_left _ (List.mem_append_left _ (List.mem_append_left _ (List.mem_append_left _ (List.mem_append_right _ h)))))), zq_J4_init_da8c8 w h⟩
set_option maxRecDepth 20000 in
theorem gX9_totalOfProduct_J4_init_da8c8 : GoodIn wsX9_totalOfProduct (wsJ4_init_da8c8) := ggX9_totalOfProduct_J4_init_da8c8
theorem ggX9_totalOfProduct_J4_append_15ec4 : GoodIn wsX9_totalOfProduct wsJ4_append_15ec4 := fun w h => ⟨List.mem_cons_of_mem _ (List.mem_append_left _ (List.mem_append_left _ (List.mem_append_left _ (List.mem_append_left _ (List.mem_append_right _ h))))), zq_J4_append_15ec4 w h⟩
set_option maxRecDepth 20000 in
theorem gX9_totalOfProduct_J4_append_15ec4 : GoodIn wsX9_totalOfProduct (wsV RX9 138 RJ4 yJ4_append_15ec4 wsJ4_append_15ec4) := goodIn_app (goodIn_r _ [21, 22, 23, 3] rfl rfl) ggX9_totalOfProduct_J4_append_15ec4
theorem ggX9_totalOfProduct_X9_product : GoodIn wsX9_totalOfProduct wsX9_product := fun w h => ⟨List.mem_cons_of_mem _ (List.mem_append_left _ (List.mem_append_left _ (List.mem_append_left _ (List.mem_append_right _ h)))), zq_X9_product w h⟩
set_option maxRecDepth 20000 in
theorem gX9_totalOfProduct_X9_product : GoodIn wsX9_totalOfProduct (wsV RX9 121 RX9 yX9_product wsX9_product) := goodIn_app (goodIn_r _ [41, 42, 43, 6] rfl rfl) ggX9_totalOfProduct_X9_product
theorem ggX9_totalOfProduct_X9_totalOf : GoodIn wsX9_totalOfProduct wsX9_totalOf := fun w h => ⟨List.mem_cons_of_mem _ (List.mem_append_left _ (List.mem_append_left _ (List.mem_append_right _ h))), zq_X9_totalOf w h⟩
set_option maxRecDepth 20000 in
theorem gX9_totalOfProduct_X9_totalOf : GoodIn wsX9_totalOfProduct (wsV RX9 153 RX9 yX9_totalOf wsX9_totalOf) := goodIn_app (goodIn_r _ [44, 45, 46, 6] rfl rfl) ggX9_totalOfProduct_X9_totalOf
theorem ggX9_totalOfProduct_J4_append_f7089 : GoodIn wsX9_totalOfProduct wsJ4_append_f7089 := fun w h => ⟨List.mem_cons_of_mem _ (List.mem_append_left _ (List.mem_append_right _ h)), zq_J4_append_f7089 w h⟩
set_option maxRecDepth 20000 in
theorem gX9_totalOfProduct_J4_append_f7089 : GoodIn wsX9_totalOfProduct (wsV RX9 142 RJ4 yJ4_append_f7089 wsJ4_append_f7089) := goodIn_app (goodIn_r _ [47, 48, 49, 3] rfl rfl) ggX9_totalOfProduct_J4_append_f7089
theorem ggX9_totalOfProduct_J4_toString_0e30d : GoodIn wsX9_totalOfProduct wsJ4_toString_0e30d := fun w h => ⟨List.mem_cons_of_mem _ (List.mem_append_right _ h), zq_J4_toString_0e30d w h⟩
set_option maxRecDepth 20000 in
theorem gX9_totalOfProduct_J4_toString_0e30d : GoodIn wsX9_totalOfProduct (wsV RX9 145 RJ4 yJ4_toString_0e30d wsJ4_toString_0e30d) := goodIn_app (goodIn_r _ [52, 53, 54, 3] rfl rfl) ggX9_totalOfProduct_J4_toString_0e30d
theorem qdX9_totalOfProduct_0_24 : dcAll cX9_totalOfProduct [(0, .aload_n 0, 1), (1, .iload_n 1, 1), (2, .invokestatic 89, 3), (5, .ifCond .eq 14, 3), (8, .iload_n 2, 1), (9, .invokestatic 89, 3), (12, .ifCond .eq 7, 3), (15, .iconst 1, 1), (16, .goto 4, 3), (19, .iconst 0, 1), (20, .iload_n 3, 1), (21, .iconst 1, 1), (22, .bipush 120, 2), (24, .invokestatic 93, 3), (27, .ifCond .eq 17, 3), (30, .iload 4, 2), (32, .iconst 0, 1), (33, .iconst 2, 1), (34, .invokestatic 93, 3), (37, .ifCond .eq 7, 3), (40, .iconst 1, 1), (41, .goto 4, 3), (44, .iconst 0, 1), (45, .invokevirtual 97, 3)] := dcAll_of (by decide +kernel)
theorem dX9_totalOfProduct_0 : decode cX9_totalOfProduct 0 = .ok (.aload_n 0, 1) := qdX9_totalOfProduct_0_24.1
theorem dX9_totalOfProduct_1 : decode cX9_totalOfProduct 1 = .ok (.iload_n 1, 1) := qdX9_totalOfProduct_0_24.2.1
theorem dX9_totalOfProduct_2 : decode cX9_totalOfProduct 2 = .ok (.invokestatic 89, 3) := qdX9_totalOfProduct_0_24.2.2.1
theorem dX9_totalOfProduct_5 : decode cX9_totalOfProduct 5 = .ok (.ifCond .eq 14, 3) := qdX9_totalOfProduct_0_24.2.2.2.1
theorem dX9_totalOfProduct_8 : decode cX9_totalOfProduct 8 = .ok (.iload_n 2, 1) := qdX9_totalOfProduct_0_24.2.2.2.2.1
theorem dX9_totalOfProduct_9 : decode cX9_totalOfProduct 9 = .ok (.invokestatic 89, 3) := qdX9_totalOfProduct_0_24.2.2.2.2.2.1
theorem dX9_totalOfProduct_12 : decode cX9_totalOfProduct 12 = .ok (.ifCond .eq 7, 3) := qdX9_totalOfProduct_0_24.2.2.2.2.2.2.1
theorem dX9_totalOfProduct_15 : decode cX9_totalOfProduct 15 = .ok (.iconst 1, 1) := qdX9_totalOfProduct_0_24.2.2.2.2.2.2.2.1
theorem dX9_totalOfProduct_16 : decode cX9_totalOfProduct 16 = .ok (.goto 4, 3) := qdX9_totalOfProduct_0_24.2.2.2.2.2.2.2.2.1
theorem dX9_totalOfProduct_19 : decode cX9_totalOfProduct 19 = .ok (.iconst 0, 1) := qdX9_totalOfProduct_0_24.2.2.2.2.2.2.2.2.2.1
theorem dX9_totalOfProduct_20 : decode cX9_totalOfProduct 20 = .ok (.iload_n 3, 1) := qdX9_totalOfProduct_0_24.2.2.2.2.2.2.2.2.2.2.1
theorem dX9_totalOfProduct_21 : decode cX9_totalOfProduct 21 = .ok (.iconst 1, 1) := qdX9_totalOfProduct_0_24.2.2.2.2.2.2.2.2.2.2.2.1
theorem dX9_totalOfProduct_22 : decode cX9_totalOfProduct 22 = .ok (.bipush 120, 2) := qdX9_totalOfProduct_0_24.2.2.2.2.2.2.2.2.2.2.2.2.1
theorem dX9_totalOfProduct_24 : decode cX9_totalOfProduct 24 = .ok (.invokestatic 93, 3) := qdX9_totalOfProduct_0_24.2.2.2.2.2.2.2.2.2.2.2.2.2.1
theorem dX9_totalOfProduct_27 : decode cX9_totalOfProduct 27 = .ok (.ifCond .eq 17, 3) := qdX9_totalOfProduct_0_24.2.2.2.2.2.2.2.2.2.2.2.2.2.2.1
theorem dX9_totalOfProduct_30 : decode cX9_totalOfProduct 30 = .ok (.iload 4, 2) := qdX9_totalOfProduct_0_24.2.2.2.2.2.2.2.2.2.2.2.2.2.2.2.1
theorem dX9_totalOfProduct_32 : decode cX9_totalOfProduct 32 = .ok (.iconst 0, 1) := qdX9_totalOfProduct_0_24.2.2.2.2.2.2.2.2.2.2.2.2.2.2.2.2.1
theorem dX9_totalOfProduct_33 : decode cX9_totalOfProduct 33 = .ok (.iconst 2, 1) := qdX9_totalOfProduct_0_24.2.2.2.2.2.2.2.2.2.2.2.2.2.2.2.2.2.1
theorem dX9_totalOfProduct_34 : decode cX9_totalOfProduct 34 = .ok (.invokestatic 93, 3) := qdX9_totalOfProduct_0_24.2.2.2.2.2.2.2.2.2.2.2.2.2.2.2.2.2.2.1
theorem dX9_totalOfProduct_37 : decode cX9_totalOfProduct 37 = .ok (.ifCond .eq 7, 3) := qdX9_totalOfProduct_0_24.2.2.2.2.2.2.2.2.2.2.2.2.2.2.2.2.2.2.2.1
theorem dX9_totalOfProduct_40 : decode cX9_totalOfProduct 40 = .ok (.iconst 1, 1) := qdX9_totalOfProduct_0_24.2.2.2.2.2.2.2.2.2.2.2.2.2.2.2.2.2.2.2.2.1
theorem dX9_totalOfProduct_41 : decode cX9_totalOfProduct 41 = .ok (.goto 4, 3) := qdX9_totalOfProduct_0_24.2.2.2.2.2.2.2.2.2.2.2.2.2.2.2.2.2.2.2.2.2.1
theorem dX9_totalOfProduct_44 : decode cX9_totalOfProduct 44 = .ok (.iconst 0, 1) := qdX9_totalOfProduct_0_24.2.2.2.2.2.2.2.2.2.2.2.2.2.2.2.2.2.2.2.2.2.2.1
theorem dX9_totalOfProduct_45 : decode cX9_totalOfProduct 45 = .ok (.invokevirtual 97, 3) := qdX9_totalOfProduct_0_24.2.2.2.2.2.2.2.2.2.2.2.2.2.2.2.2.2.2.2.2.2.2.2.1
theorem qdX9_totalOfProduct_48_24 : dcAll cX9_totalOfProduct [(48, .ifCond .eq 6, 3), (51, .ldc 133, 2), (53, .areturn, 1), (54, .aload_n 0, 1), (55, .iload_n 1, 1), (56, .invokevirtual 114, 3), (59, .iload_n 3, 1), (60, .ldc 157, 2), (62, .invokestatic 158, 3), (65, .ifCond .ne 17, 3), (68, .aload_n 0, 1), (69, .iload_n 2, 1), (70, .invokevirtual 114, 3), (73, .iload_n 3, 1), (74, .ldc 157, 2), (76, .invokestatic 158, 3), (79, .ifCond .eq 11, 3), (82, .aload_n 0, 1), (83, .iconst 3, 1), (84, .putfield 13, 3), (87, .ldc 133, 2), (89, .areturn, 1), (90, .new 135, 3), (93, .dup, 1)] := dcAll_of (by decide +kernel)
theorem dX9_totalOfProduct_48 : decode cX9_totalOfProduct 48 = .ok (.ifCond .eq 6, 3) := qdX9_totalOfProduct_48_24.1
theorem dX9_totalOfProduct_51 : decode cX9_totalOfProduct 51 = .ok (.ldc 133, 2) := qdX9_totalOfProduct_48_24.2.1
theorem dX9_totalOfProduct_53 : decode cX9_totalOfProduct 53 = .ok (.areturn, 1) := qdX9_totalOfProduct_48_24.2.2.1
theorem dX9_totalOfProduct_54 : decode cX9_totalOfProduct 54 = .ok (.aload_n 0, 1) := qdX9_totalOfProduct_48_24.2.2.2.1
theorem dX9_totalOfProduct_55 : decode cX9_totalOfProduct 55 = .ok (.iload_n 1, 1) := qdX9_totalOfProduct_48_24.2.2.2.2.1
theorem dX9_totalOfProduct_56 : decode cX9_totalOfProduct 56 = .ok (.invokevirtual 114, 3) := qdX9_totalOfProduct_48_24.2.2.2.2.2.1
theorem dX9_totalOfProduct_59 : decode cX9_totalOfProduct 59 = .ok (.iload_n 3, 1) := qdX9_totalOfProduct_48_24.2.2.2.2.2.2.1
theorem dX9_totalOfProduct_60 : decode cX9_totalOfProduct 60 = .ok (.ldc 157, 2) := qdX9_totalOfProduct_48_24.2.2.2.2.2.2.2.1
theorem dX9_totalOfProduct_62 : decode cX9_totalOfProduct 62 = .ok (.invokestatic 158, 3) := qdX9_totalOfProduct_48_24.2.2.2.2.2.2.2.2.1
theorem dX9_totalOfProduct_65 : decode cX9_totalOfProduct 65 = .ok (.ifCond .ne 17, 3) := qdX9_totalOfProduct_48_24.2.2.2.2.2.2.2.2.2.1
theorem dX9_totalOfProduct_68 : decode cX9_totalOfProduct 68 = .ok (.aload_n 0, 1) := qdX9_totalOfProduct_48_24.2.2.2.2.2.2.2.2.2.2.1
theorem dX9_totalOfProduct_69 : decode cX9_totalOfProduct 69 = .ok (.iload_n 2, 1) := qdX9_totalOfProduct_48_24.2.2.2.2.2.2.2.2.2.2.2.1
theorem dX9_totalOfProduct_70 : decode cX9_totalOfProduct 70 = .ok (.invokevirtual 114, 3) := qdX9_totalOfProduct_48_24.2.2.2.2.2.2.2.2.2.2.2.2.1
theorem dX9_totalOfProduct_73 : decode cX9_totalOfProduct 73 = .ok (.iload_n 3, 1) := qdX9_totalOfProduct_48_24.2.2.2.2.2.2.2.2.2.2.2.2.2.1
theorem dX9_totalOfProduct_74 : decode cX9_totalOfProduct 74 = .ok (.ldc 157, 2) := qdX9_totalOfProduct_48_24.2.2.2.2.2.2.2.2.2.2.2.2.2.2.1
theorem dX9_totalOfProduct_76 : decode cX9_totalOfProduct 76 = .ok (.invokestatic 158, 3) := qdX9_totalOfProduct_48_24.2.2.2.2.2.2.2.2.2.2.2.2.2.2.2.1
theorem dX9_totalOfProduct_79 : decode cX9_totalOfProduct 79 = .ok (.ifCond .eq 11, 3) := qdX9_totalOfProduct_48_24.2.2.2.2.2.2.2.2.2.2.2.2.2.2.2.2.1
theorem dX9_totalOfProduct_82 : decode cX9_totalOfProduct 82 = .ok (.aload_n 0, 1) := qdX9_totalOfProduct_48_24.2.2.2.2.2.2.2.2.2.2.2.2.2.2.2.2.2.1
theorem dX9_totalOfProduct_83 : decode cX9_totalOfProduct 83 = .ok (.iconst 3, 1) := qdX9_totalOfProduct_48_24.2.2.2.2.2.2.2.2.2.2.2.2.2.2.2.2.2.2.1
theorem dX9_totalOfProduct_84 : decode cX9_totalOfProduct 84 = .ok (.putfield 13, 3) := qdX9_totalOfProduct_48_24.2.2.2.2.2.2.2.2.2.2.2.2.2.2.2.2.2.2.2.1
theorem dX9_totalOfProduct_87 : decode cX9_totalOfProduct 87 = .ok (.ldc 133, 2) := qdX9_totalOfProduct_48_24.2.2.2.2.2.2.2.2.2.2.2.2.2.2.2.2.2.2.2.2.1
theorem dX9_totalOfProduct_89 : decode cX9_totalOfProduct 89 = .ok (.areturn, 1) := qdX9_totalOfProduct_48_24.2.2.2.2.2.2.2.2.2.2.2.2.2.2.2.2.2.2.2.2.2.1
theorem dX9_totalOfProduct_90 : decode cX9_totalOfProduct 90 = .ok (.new 135, 3) := qdX9_totalOfProduct_48_24.2.2.2.2.2.2.2.2.2.2.2.2.2.2.2.2.2.2.2.2.2.2.1
theorem dX9_totalOfProduct_93 : decode cX9_totalOfProduct 93 = .ok (.dup, 1) := qdX9_totalOfProduct_48_24.2.2.2.2.2.2.2.2.2.2.2.2.2.2.2.2.2.2.2.2.2.2.2.1
theorem qdX9_totalOfProduct_94_17 : dcAll cX9_totalOfProduct [(94, .invokespecial 137, 3), (97, .ldc 133, 2), (99, .invokevirtual 138, 3), (102, .aload_n 0, 1), (103, .aload_n 0, 1), (104, .aload_n 0, 1), (105, .iload_n 1, 1), (106, .invokevirtual 114, 3), (109, .aload_n 0, 1), (110, .iload_n 2, 1), (111, .invokevirtual 114, 3), (114, .invokevirtual 121, 3), (117, .iload_n 3, 1), (118, .invokevirtual 153, 3), (121, .invokevirtual 142, 3), (124, .invokevirtual 145, 3), (127, .areturn, 1)] := dcAll_of (by decide +kernel)
theorem dX9_totalOfProduct_94 : decode cX9_totalOfProduct 94 = .ok (.invokespecial 137, 3) := qdX9_totalOfProduct_94_17.1
theorem dX9_totalOfProduct_97 : decode cX9_totalOfProduct 97 = .ok (.ldc 133, 2) := qdX9_totalOfProduct_94_17.2.1
theorem dX9_totalOfProduct_99 : decode cX9_totalOfProduct 99 = .ok (.invokevirtual 138, 3) := qdX9_totalOfProduct_94_17.2.2.1
theorem dX9_totalOfProduct_102 : decode cX9_totalOfProduct 102 = .ok (.aload_n 0, 1) := qdX9_totalOfProduct_94_17.2.2.2.1
theorem dX9_totalOfProduct_103 : decode cX9_totalOfProduct 103 = .ok (.aload_n 0, 1) := qdX9_totalOfProduct_94_17.2.2.2.2.1
theorem dX9_totalOfProduct_104 : decode cX9_totalOfProduct 104 = .ok (.aload_n 0, 1) := qdX9_totalOfProduct_94_17.2.2.2.2.2.1
theorem dX9_totalOfProduct_105 : decode cX9_totalOfProduct 105 = .ok (.iload_n 1, 1) := qdX9_totalOfProduct_94_17.2.2.2.2.2.2.1
theorem dX9_totalOfProduct_106 : decode cX9_totalOfProduct 106 = .ok (.invokevirtual 114, 3) := qdX9_totalOfProduct_94_17.2.2.2.2.2.2.2.1
theorem dX9_totalOfProduct_109 : decode cX9_totalOfProduct 109 = .ok (.aload_n 0, 1) := qdX9_totalOfProduct_94_17.2.2.2.2.2.2.2.2.1
theorem dX9_totalOfProduct_110 : decode cX9_totalOfProduct 110 = .ok (.iload_n 2, 1) := qdX9_totalOfProduct_94_17.2.2.2.2.2.2.2.2.2.1
theorem dX9_totalOfProduct_111 : decode cX9_totalOfProduct 111 = .ok (.invokevirtual 114, 3) := qdX9_totalOfProduct_94_17.2.2.2.2.2.2.2.2.2.2.1
theorem dX9_totalOfProduct_114 : decode cX9_totalOfProduct 114 = .ok (.invokevirtual 121, 3) := qdX9_totalOfProduct_94_17.2.2.2.2.2.2.2.2.2.2.2.1
theorem dX9_totalOfProduct_117 : decode cX9_totalOfProduct 117 = .ok (.iload_n 3, 1) := qdX9_totalOfProduct_94_17.2.2.2.2.2.2.2.2.2.2.2.2.1
theorem dX9_totalOfProduct_118 : decode cX9_totalOfProduct 118 = .ok (.invokevirtual 153, 3) := qdX9_totalOfProduct_94_17.2.2.2.2.2.2.2.2.2.2.2.2.2.1
theorem dX9_totalOfProduct_121 : decode cX9_totalOfProduct 121 = .ok (.invokevirtual 142, 3) := qdX9_totalOfProduct_94_17.2.2.2.2.2.2.2.2.2.2.2.2.2.2.1
theorem dX9_totalOfProduct_124 : decode cX9_totalOfProduct 124 = .ok (.invokevirtual 145, 3) := qdX9_totalOfProduct_94_17.2.2.2.2.2.2.2.2.2.2.2.2.2.2.2.1
theorem dX9_totalOfProduct_127 : decode cX9_totalOfProduct 127 = .ok (.areturn, 1) := qdX9_totalOfProduct_94_17.2.2.2.2.2.2.2.2.2.2.2.2.2.2.2.2.1
theorem ggX9_determinantOf_X9_common : GoodIn wsX9_determinantOf wsX9_common := fun w h => ⟨List.mem_cons_of_mem _ (List.mem_append_right _ h), zq_X9_common w h⟩
set_option maxRecDepth 20000 in
theorem gX9_determinantOf_X9_common : GoodIn wsX9_determinantOf (va_wsS RX9 33 yX9_common wsX9_common) := goodIn_app (goodIn_r _ [1, 2, 3] rfl rfl) ggX9_determinantOf_X9_common
theorem ggX9_determinantOf_X9_determinantOf : GoodIn wsX9_determinantOf wsX9_determinantOf := fun w h => ⟨h, zq_X9_determinantOf w h⟩
set_option maxRecDepth 20000 in
theorem gX9_determinantOf_X9_determinantOf : GoodIn wsX9_determinantOf (va_wsS RX9 162 yX9_determinantOf wsX9_determinantOf) := goodIn_app (goodIn_r _ [5, 6, 3] rfl rfl) ggX9_determinantOf_X9_determinantOf
theorem qdX9_determinantOf_0_24 : dcAll cX9_determinantOf [(0, .iload_n 2, 1), (1, .iload_n 1, 1), (2, .if_icmp .le 5, 3), (5, .lconst 1, 1), (6, .lreturn, 1), (7, .lconst 0, 1), (8, .lstore 4, 2), (10, .iconst 1, 1), (11, .istore 6, 2), (13, .iconst 1, 1), (14, .istore 7, 2), (16, .iload 7, 2), (18, .iload_n 1, 1), (19, .if_icmp .gt 58, 3), (22, .iload_n 3, 1), (23, .iload 7, 2), (25, .ishr, 1), (26, .iconst 1, 1), (27, .iand, 1), (28, .iconst 1, 1), (29, .if_icmp .ne 42, 3), (32, .lload 4, 2), (34, .iload 6, 2), (36, .i2l, 1)] := dcAll_of (by decide +kernel)
theorem dX9_determinantOf_0 : decode cX9_determinantOf 0 = .ok (.iload_n 2, 1) := qdX9_determinantOf_0_24.1
theorem dX9_determinantOf_1 : decode cX9_determinantOf 1 = .ok (.iload_n 1, 1) := qdX9_determinantOf_0_24.2.1
theorem dX9_determinantOf_2 : decode cX9_determinantOf 2 = .ok (.if_icmp .le 5, 3) := qdX9_determinantOf_0_24.2.2.1
theorem dX9_determinantOf_5 : decode cX9_determinantOf 5 = .ok (.lconst 1, 1) := qdX9_determinantOf_0_24.2.2.2.1
theorem dX9_determinantOf_6 : decode cX9_determinantOf 6 = .ok (.lreturn, 1) := qdX9_determinantOf_0_24.2.2.2.2.1
theorem dX9_determinantOf_7 : decode cX9_determinantOf 7 = .ok (.lconst 0, 1) := qdX9_determinantOf_0_24.2.2.2.2.2.1
theorem dX9_determinantOf_8 : decode cX9_determinantOf 8 = .ok (.lstore 4, 2) := qdX9_determinantOf_0_24.2.2.2.2.2.2.1
theorem dX9_determinantOf_10 : decode cX9_determinantOf 10 = .ok (.iconst 1, 1) := qdX9_determinantOf_0_24.2.2.2.2.2.2.2.1
theorem dX9_determinantOf_11 : decode cX9_determinantOf 11 = .ok (.istore 6, 2) := qdX9_determinantOf_0_24.2.2.2.2.2.2.2.2.1
theorem dX9_determinantOf_13 : decode cX9_determinantOf 13 = .ok (.iconst 1, 1) := qdX9_determinantOf_0_24.2.2.2.2.2.2.2.2.2.1
theorem dX9_determinantOf_14 : decode cX9_determinantOf 14 = .ok (.istore 7, 2) := qdX9_determinantOf_0_24.2.2.2.2.2.2.2.2.2.2.1
theorem dX9_determinantOf_16 : decode cX9_determinantOf 16 = .ok (.iload 7, 2) := qdX9_determinantOf_0_24.2.2.2.2.2.2.2.2.2.2.2.1
theorem dX9_determinantOf_18 : decode cX9_determinantOf 18 = .ok (.iload_n 1, 1) := qdX9_determinantOf_0_24.2.2.2.2.2.2.2.2.2.2.2.2.1
theorem dX9_determinantOf_19 : decode cX9_determinantOf 19 = .ok (.if_icmp .gt 58, 3) := qdX9_determinantOf_0_24.2.2.2.2.2.2.2.2.2.2.2.2.2.1
theorem dX9_determinantOf_22 : decode cX9_determinantOf 22 = .ok (.iload_n 3, 1) := qdX9_determinantOf_0_24.2.2.2.2.2.2.2.2.2.2.2.2.2.2.1
theorem dX9_determinantOf_23 : decode cX9_determinantOf 23 = .ok (.iload 7, 2) := qdX9_determinantOf_0_24.2.2.2.2.2.2.2.2.2.2.2.2.2.2.2.1
theorem dX9_determinantOf_25 : decode cX9_determinantOf 25 = .ok (.ishr, 1) := qdX9_determinantOf_0_24.2.2.2.2.2.2.2.2.2.2.2.2.2.2.2.2.1
theorem dX9_determinantOf_26 : decode cX9_determinantOf 26 = .ok (.iconst 1, 1) := qdX9_determinantOf_0_24.2.2.2.2.2.2.2.2.2.2.2.2.2.2.2.2.2.1
theorem dX9_determinantOf_27 : decode cX9_determinantOf 27 = .ok (.iand, 1) := qdX9_determinantOf_0_24.2.2.2.2.2.2.2.2.2.2.2.2.2.2.2.2.2.2.1
theorem dX9_determinantOf_28 : decode cX9_determinantOf 28 = .ok (.iconst 1, 1) := qdX9_determinantOf_0_24.2.2.2.2.2.2.2.2.2.2.2.2.2.2.2.2.2.2.2.1
theorem dX9_determinantOf_29 : decode cX9_determinantOf 29 = .ok (.if_icmp .ne 42, 3) := qdX9_determinantOf_0_24.2.2.2.2.2.2.2.2.2.2.2.2.2.2.2.2.2.2.2.2.1
theorem dX9_determinantOf_32 : decode cX9_determinantOf 32 = .ok (.lload 4, 2) := qdX9_determinantOf_0_24.2.2.2.2.2.2.2.2.2.2.2.2.2.2.2.2.2.2.2.2.2.1
theorem dX9_determinantOf_34 : decode cX9_determinantOf 34 = .ok (.iload 6, 2) := qdX9_determinantOf_0_24.2.2.2.2.2.2.2.2.2.2.2.2.2.2.2.2.2.2.2.2.2.2.1
theorem dX9_determinantOf_36 : decode cX9_determinantOf 36 = .ok (.i2l, 1) := qdX9_determinantOf_0_24.2.2.2.2.2.2.2.2.2.2.2.2.2.2.2.2.2.2.2.2.2.2.2.1
theorem qdX9_determinantOf_37_24 : dcAll cX9_determinantOf [(37, .aload_n 0, 1), (38, .iload_n 2, 1), (39, .iload 7, 2), (41, .invokestatic 33, 3), (44, .laload, 1), (45, .lmul, 1), (46, .aload_n 0, 1), (47, .iload_n 1, 1), (48, .iload_n 2, 1), (49, .iconst 1, 1), (50, .iadd, 1), (51, .iload_n 3, 1), (52, .iconst 1, 1), (53, .iload 7, 2), (55, .ishl, 1), (56, .iconst (-1), 1), (57, .ixor, 1), (58, .iand, 1), (59, .invokestatic 162, 3), (62, .lmul, 1), (63, .ladd, 1), (64, .lstore 4, 2), (66, .iload 6, 2), (68, .ineg, 1)] := dcAll_of (by decide +kernel)
theorem dX9_determinantOf_37 : decode cX9_determinantOf 37 = .ok (.aload_n 0, 1) := qdX9_determinantOf_37_24.1
theorem dX9_determinantOf_38 : decode cX9_determinantOf 38 = .ok (.iload_n 2, 1) := qdX9_determinantOf_37_24.2.1
theorem dX9_determinantOf_39 : decode cX9_determinantOf 39 = .ok (.iload 7, 2) := qdX9_determinantOf_37_24.2.2.1
theorem dX9_determinantOf_41 : decode cX9_determinantOf 41 = .ok (.invokestatic 33, 3) := qdX9_determinantOf_37_24.2.2.2.1
theorem dX9_determinantOf_44 : decode cX9_determinantOf 44 = .ok (.laload, 1) := qdX9_determinantOf_37_24.2.2.2.2.1
theorem dX9_determinantOf_45 : decode cX9_determinantOf 45 = .ok (.lmul, 1) := qdX9_determinantOf_37_24.2.2.2.2.2.1
theorem dX9_determinantOf_46 : decode cX9_determinantOf 46 = .ok (.aload_n 0, 1) := qdX9_determinantOf_37_24.2.2.2.2.2.2.1
theorem dX9_determinantOf_47 : decode cX9_determinantOf 47 = .ok (.iload_n 1, 1) := qdX9_determinantOf_37_24.2.2.2.2.2.2.2.1
theorem dX9_determinantOf_48 : decode cX9_determinantOf 48 = .ok (.iload_n 2, 1) := qdX9_determinantOf_37_24.2.2.2.2.2.2.2.2.1
theorem dX9_determinantOf_49 : decode cX9_determinantOf 49 = .ok (.iconst 1, 1) := qdX9_determinantOf_37_24.2.2.2.2.2.2.2.2.2.1
theorem dX9_determinantOf_50 : decode cX9_determinantOf 50 = .ok (.iadd, 1) := qdX9_determinantOf_37_24.2.2.2.2.2.2.2.2.2.2.1
theorem dX9_determinantOf_51 : decode cX9_determinantOf 51 = .ok (.iload_n 3, 1) := qdX9_determinantOf_37_24.2.2.2.2.2.2.2.2.2.2.2.1
theorem dX9_determinantOf_52 : decode cX9_determinantOf 52 = .ok (.iconst 1, 1) := qdX9_determinantOf_37_24.2.2.2.2.2.2.2.2.2.2.2.2.1
theorem dX9_determinantOf_53 : decode cX9_determinantOf 53 = .ok (.iload 7, 2) := qdX9_determinantOf_37_24.2.2.2.2.2.2.2.2.2.2.2.2.2.1
theorem dX9_determinantOf_55 : decode cX9_determinantOf 55 = .ok (.ishl, 1) := qdX9_determinantOf_37_24.2.2.2.2.2.2.2.2.2.2.2.2.2.2.1
theorem dX9_determinantOf_56 : decode cX9_determinantOf 56 = .ok (.iconst (-1), 1) := qdX9_determinantOf_37_24.2.2.2.2.2.2.2.2.2.2.2.2.2.2.2.1
theorem dX9_determinantOf_57 : decode cX9_determinantOf 57 = .ok (.ixor, 1) := qdX9_determinantOf_37_24.2.2.2.2.2.2.2.2.2.2.2.2.2.2.2.2.1
theorem dX9_determinantOf_58 : decode cX9_determinantOf 58 = .ok (.iand, 1) := qdX9_determinantOf_37_24.2.2.2.2.2.2.2.2.2.2.2.2.2.2.2.2.2.1
theorem dX9_determinantOf_59 : decode cX9_determinantOf 59 = .ok (.invokestatic 162, 3) := qdX9_determinantOf_37_24.2.2.2.2.2.2.2.2.2.2.2.2.2.2.2.2.2.2.1
theorem dX9_determinantOf_62 : decode cX9_determinantOf 62 = .ok (.lmul, 1) := qdX9_determinantOf_37_24.2.2.2.2.2.2.2.2.2.2.2.2.2.2.2.2.2.2.2.1
theorem dX9_determinantOf_63 : decode cX9_determinantOf 63 = .ok (.ladd, 1) := qdX9_determinantOf_37_24.2.2.2.2.2.2.2.2.2.2.2.2.2.2.2.2.2.2.2.2.1
theorem dX9_determinantOf_64 : decode cX9_determinantOf 64 = .ok (.lstore 4, 2) := qdX9_determinantOf_37_24.2.2.2.2.2.2.2.2.2.2.2.2.2.2.2.2.2.2.2.2.2.1
theorem dX9_determinantOf_66 : decode cX9_determinantOf 66 = .ok (.iload 6, 2) := qdX9_determinantOf_37_24.2.2.2.2.2.2.2.2.2.2.2.2.2.2.2.2.2.2.2.2.2.2.1
theorem dX9_determinantOf_68 : decode cX9_determinantOf 68 = .ok (.ineg, 1) := qdX9_determinantOf_37_24.2.2.2.2.2.2.2.2.2.2.2.2.2.2.2.2.2.2.2.2.2.2.2.1
theorem qdX9_determinantOf_69_5 : dcAll cX9_determinantOf [(69, .istore 6, 2), (71, .iinc 7 1, 3), (74, .goto (-58), 3), (77, .lload 4, 2), (79, .lreturn, 1)] := dcAll_of (by decide +kernel)
theorem dX9_determinantOf_69 : decode cX9_determinantOf 69 = .ok (.istore 6, 2) := qdX9_determinantOf_69_5.1
theorem dX9_determinantOf_71 : decode cX9_determinantOf 71 = .ok (.iinc 7 1, 3) := qdX9_determinantOf_69_5.2.1
theorem dX9_determinantOf_74 : decode cX9_determinantOf 74 = .ok (.goto (-58), 3) := qdX9_determinantOf_69_5.2.2.1
theorem dX9_determinantOf_77 : decode cX9_determinantOf 77 = .ok (.lload 4, 2) := qdX9_determinantOf_69_5.2.2.2.1
theorem dX9_determinantOf_79 : decode cX9_determinantOf 79 = .ok (.lreturn, 1) := qdX9_determinantOf_69_5.2.2.2.2.1
theorem ggX9_determinant_X9_isOne : GoodIn wsX9_determinant wsX9_isOne := fun w h => ⟨List.mem_cons_of_mem _ (List.mem_append_left _ (List.mem_append_left _ (List.mem_append_left _ (List.mem_append_left _ (List.mem_append_left _ (List.mem_append_left _ (List.mem_append_left _ (List.mem_append_left _ (List.mem_append_left _ (List.mem_append_right _ h)))))))))), zq_X9_isOne w h⟩
set_option maxRecDepth 20000 in
theorem gX9_determinant_X9_isOne : GoodIn wsX9_determinant (va_wsS RX9 89 yX9_isOne wsX9_isOne) := goodIn_app (goodIn_r _ [3, 4, 5] rfl rfl) ggX9_determinant_X9_isOne
theorem ggX9_determinant_X9_isIn : GoodIn wsX9_determinant wsX9_isIn := fun w h => ⟨List.mem_cons_of_mem _ (List.mem_append_left _ (List.mem_append_left _ (List.mem_append_left _ (List.mem_append_left _ (List.mem_append_left _ (List.mem_append_left _ (List.mem_append_left _ (List.mem_append_left _ (List.mem_append_right _ h))))))))), zq_X9_isIn w h⟩
set_option maxRecDepth 20000 in
theorem gX9_determinant_X9_isIn : GoodIn wsX9_determinant (va_wsS RX9 93 yX9_isIn wsX9_isIn) := goodIn_app (goodIn_r _ [6, 7, 5] rfl rfl) ggX9_determinant_X9_isIn
theorem ggX9_determinant_X9_isThrown : GoodIn wsX9_determinant wsX9_isThrown := fun w h => ⟨List.mem_cons_of_mem _ (List.mem_append_left _ (List.mem_append_left _ (List.mem_append_left _ (List.mem_append_left _ (List.mem_append_left _ (List.mem_append_left _ (List.mem_append_left _ (List.mem_append_right _ h)))))))), zq_X9_isThrown w h⟩
set_option maxRecDepth 20000 in
theorem gX9_determinant_X9_isThrown : GoodIn wsX9_determinant (wsV RX9 97 RX9 yX9_isThrown wsX9_isThrown) := goodIn_app (goodIn_r _ [8, 9, 10, 5] rfl rfl) ggX9_determinant_X9_isThrown
theorem ggX9_determinant_X9_of : GoodIn wsX9_determinant wsX9_of := fun w h => ⟨List.mem_cons_of_mem _ (List.mem_append_left _ (List.mem_append_left _ (List.mem_append_left _ (List.mem_append_left _ (List.mem_append_left _ (List.mem_append_left _ (List.mem_append_right _ h))))))), zq_X9_of w h⟩
set_option maxRecDepth 20000 in
theorem gX9_determinant_X9_of : GoodIn wsX9_determinant (wsV RX9 114 RX9 yX9_of wsX9_of) := goodIn_app (goodIn_r _ [11, 12, 13, 5] rfl rfl) ggX9_determinant_X9_of
theorem ggX9_determinant_X9_isGreat : GoodIn wsX9_determinant wsX9_isGreat := fun w h => ⟨List.mem_cons_of_mem _ (List.mem_append_left _ (List.mem_append_left _ (List.mem_append_left _ (List.mem_append_left _ (List.mem_append_left _ (List.mem_append_right _ h)))))), zq_X9_isGreat w h⟩
set_option maxRecDepth 20000 in
theorem gX9_determinant_X9_isGreat : GoodIn wsX9_determinant (va_wsS RX9 158 yX9_isGreat wsX9_isGreat) := goodIn_app (goodIn_r _ [14, 15, 5] rfl rfl) ggX9_determinant_X9_isGreat
theorem ggX9_determinant_J4_init_da8c8 : GoodIn wsX9_determinant wsJ4_init_da8c8 := fun w h => ⟨List.mem_cons_of_mem _ (List.mem_append_left _ (List.mem_append_left _ (List.mem_append_left _ (List.mem_append_left _ (List.mem_append_right _ h))))), zq_J4_init_da8c8 w h⟩
set_option maxRecDepth 20000 in
theorem gX9_determinant_J4_init_da8c8 : GoodIn wsX9_determinant (wsJ4_init_da8c8) := ggX9_determinant_J4_init_da8c8
theorem ggX9_determinant_J4_append_15ec4 : GoodIn wsX9_determinant wsJ4_append_15ec4 := fun w h => ⟨List.mem_cons_of_mem _ (List.mem_append_left _ (List.mem_append_left _ (List.mem_append_left _ (List.mem_append_right _ h)))), zq_J4_append_15ec4 w h⟩
set_option maxRecDepth 20000 in
theorem gX9_determinant_J4_append_15ec4 : GoodIn wsX9_determinant (wsV RX9 138 RJ4 yJ4_append_15ec4 wsJ4_append_15ec4) := goodIn_app (goodIn_r _ [20, 21, 22, 2] rfl rfl) ggX9_determinant_J4_append_15ec4
theorem ggX9_determinant_X9_determinantOf : GoodIn wsX9_determinant wsX9_determinantOf := fun w h => ⟨List.mem_cons_of_mem _ (List.mem_append_left _ (List.mem_append_left _ (List.mem_append_right _ h))), zq_X9_determinantOf w h⟩
set_option maxRecDepth 20000 in
theorem gX9_determinant_X9_determinantOf : GoodIn wsX9_determinant (va_wsS RX9 162 yX9_determinantOf wsX9_determinantOf) := goodIn_app (goodIn_r _ [40, 41, 5] rfl rfl) ggX9_determinant_X9_determinantOf
theorem ggX9_determinant_J4_append_f7089 : GoodIn wsX9_determinant wsJ4_append_f7089 := fun w h => ⟨List.mem_cons_of_mem _ (List.mem_append_left _ (List.mem_append_right _ h)), zq_J4_append_f7089 w h⟩
set_option maxRecDepth 20000 in
theorem gX9_determinant_J4_append_f7089 : GoodIn wsX9_determinant (wsV RX9 142 RJ4 yJ4_append_f7089 wsJ4_append_f7089) := goodIn_app (goodIn_r _ [42, 43, 44, 2] rfl rfl) ggX9_determinant_J4_append_f7089
theorem ggX9_determinant_J4_toString_0e30d : GoodIn wsX9_determinant wsJ4_toString_0e30d := fun w h => ⟨List.mem_cons_of_mem _ (List.mem_append_right _ h), zq_J4_toString_0e30d w h⟩
set_option maxRecDepth 20000 in
theorem gX9_determinant_J4_toString_0e30d : GoodIn wsX9_determinant (wsV RX9 145 RJ4 yJ4_toString_0e30d wsJ4_toString_0e30d) := goodIn_app (goodIn_r _ [47, 48, 49, 2] rfl rfl) ggX9_determinant_J4_toString_0e30d
theorem qdX9_determinant_0_24 : dcAll cX9_determinant [(0, .aload_n 0, 1), (1, .iload_n 1, 1), (2, .invokestatic 89, 3), (5, .iload_n 2, 1), (6, .iconst 1, 1), (7, .bipush 6, 2), (9, .invokestatic 93, 3), (12, .ifCond .eq 16, 3), (15, .iload_n 3, 1), (16, .iconst 0, 1), (17, .iconst 1, 1), (18, .invokestatic 93, 3), (21, .ifCond .eq 7, 3), (24, .iconst 1, 1), (25, .goto 4, 3), (28, .iconst 0, 1), (29, .invokevirtual 97, 3), (32, .ifCond .eq 6, 3), (35, .ldc 133, 2), (37, .areturn, 1), (38, .aload_n 0, 1), (39, .iload_n 1, 1), (40, .invokevirtual 114, 3), (43, .iload_n 2, 1)] := dcAll_of (by decide +kernel)
theorem dX9_determinant_0 : decode cX9_determinant 0 = .ok (.aload_n 0, 1) := qdX9_determinant_0_24.1
theorem dX9_determinant_1 : decode cX9_determinant 1 = .ok (.iload_n 1, 1) := qdX9_determinant_0_24.2.1
theorem dX9_determinant_2 : decode cX9_determinant 2 = .ok (.invokestatic 89, 3) := qdX9_determinant_0_24.2.2.1
theorem dX9_determinant_5 : decode cX9_determinant 5 = .ok (.iload_n 2, 1) := qdX9_determinant_0_24.2.2.2.1
theorem dX9_determinant_6 : decode cX9_determinant 6 = .ok (.iconst 1, 1) := qdX9_determinant_0_24.2.2.2.2.1
theorem dX9_determinant_7 : decode cX9_determinant 7 = .ok (.bipush 6, 2) := qdX9_determinant_0_24.2.2.2.2.2.1
theorem dX9_determinant_9 : decode cX9_determinant 9 = .ok (.invokestatic 93, 3) := qdX9_determinant_0_24.2.2.2.2.2.2.1
theorem dX9_determinant_12 : decode cX9_determinant 12 = .ok (.ifCond .eq 16, 3) := qdX9_determinant_0_24.2.2.2.2.2.2.2.1
theorem dX9_determinant_15 : decode cX9_determinant 15 = .ok (.iload_n 3, 1) := qdX9_determinant_0_24.2.2.2.2.2.2.2.2.1
theorem dX9_determinant_16 : decode cX9_determinant 16 = .ok (.iconst 0, 1) := qdX9_determinant_0_24.2.2.2.2.2.2.2.2.2.1
theorem dX9_determinant_17 : decode cX9_determinant 17 = .ok (.iconst 1, 1) := qdX9_determinant_0_24.2.2.2.2.2.2.2.2.2.2.1
theorem dX9_determinant_18 : decode cX9_determinant 18 = .ok (.invokestatic 93, 3) := qdX9_determinant_0_24.2.2.2.2.2.2.2.2.2.2.2.1
theorem dX9_determinant_21 : decode cX9_determinant 21 = .ok (.ifCond .eq 7, 3) := qdX9_determinant_0_24.2.2.2.2.2.2.2.2.2.2.2.2.1
theorem dX9_determinant_24 : decode cX9_determinant 24 = .ok (.iconst 1, 1) := qdX9_determinant_0_24.2.2.2.2.2.2.2.2.2.2.2.2.2.1
theorem dX9_determinant_25 : decode cX9_determinant 25 = .ok (.goto 4, 3) := qdX9_determinant_0_24.2.2.2.2.2.2.2.2.2.2.2.2.2.2.1
theorem dX9_determinant_28 : decode cX9_determinant 28 = .ok (.iconst 0, 1) := qdX9_determinant_0_24.2.2.2.2.2.2.2.2.2.2.2.2.2.2.2.1
theorem dX9_determinant_29 : decode cX9_determinant 29 = .ok (.invokevirtual 97, 3) := qdX9_determinant_0_24.2.2.2.2.2.2.2.2.2.2.2.2.2.2.2.2.1
theorem dX9_determinant_32 : decode cX9_determinant 32 = .ok (.ifCond .eq 6, 3) := qdX9_determinant_0_24.2.2.2.2.2.2.2.2.2.2.2.2.2.2.2.2.2.1
theorem dX9_determinant_35 : decode cX9_determinant 35 = .ok (.ldc 133, 2) := qdX9_determinant_0_24.2.2.2.2.2.2.2.2.2.2.2.2.2.2.2.2.2.2.1
theorem dX9_determinant_37 : decode cX9_determinant 37 = .ok (.areturn, 1) := qdX9_determinant_0_24.2.2.2.2.2.2.2.2.2.2.2.2.2.2.2.2.2.2.2.1
theorem dX9_determinant_38 : decode cX9_determinant 38 = .ok (.aload_n 0, 1) := qdX9_determinant_0_24.2.2.2.2.2.2.2.2.2.2.2.2.2.2.2.2.2.2.2.2.1
theorem dX9_determinant_39 : decode cX9_determinant 39 = .ok (.iload_n 1, 1) := qdX9_determinant_0_24.2.2.2.2.2.2.2.2.2.2.2.2.2.2.2.2.2.2.2.2.2.1
theorem dX9_determinant_40 : decode cX9_determinant 40 = .ok (.invokevirtual 114, 3) := qdX9_determinant_0_24.2.2.2.2.2.2.2.2.2.2.2.2.2.2.2.2.2.2.2.2.2.2.1
theorem dX9_determinant_43 : decode cX9_determinant 43 = .ok (.iload_n 2, 1) := qdX9_determinant_0_24.2.2.2.2.2.2.2.2.2.2.2.2.2.2.2.2.2.2.2.2.2.2.2.1
theorem qdX9_determinant_44_23 : dcAll cX9_determinant [(44, .bipush 100, 2), (46, .invokestatic 158, 3), (49, .ifCond .eq 11, 3), (52, .aload_n 0, 1), (53, .iconst 3, 1), (54, .putfield 13, 3), (57, .ldc 133, 2), (59, .areturn, 1), (60, .new 135, 3), (63, .dup, 1), (64, .invokespecial 137, 3), (67, .ldc 133, 2), (69, .invokevirtual 138, 3), (72, .aload_n 0, 1), (73, .iload_n 1, 1), (74, .invokevirtual 114, 3), (77, .iload_n 2, 1), (78, .iconst 1, 1), (79, .sipush 254, 3), (82, .invokestatic 162, 3), (85, .invokevirtual 142, 3), (88, .invokevirtual 145, 3), (91, .areturn, 1)] := dcAll_of (by decide +kernel)
theorem dX9_determinant_44 : decode cX9_determinant 44 = .ok (.bipush 100, 2) := qdX9_determinant_44_23.1
theorem dX9_determinant_46 : decode cX9_determinant 46 = .ok (.invokestatic 158, 3) := qdX9_determinant_44_23.2.1
theorem dX9_determinant_49 : decode cX9_determinant 49 = .ok (.ifCond .eq 11, 3) := qdX9_determinant_44_23.2.2.1
theorem dX9_determinant_52 : decode cX9_determinant 52 = .ok (.aload_n 0, 1) := qdX9_determinant_44_23.2.2.2.1
theorem dX9_determinant_53 : decode cX9_determinant 53 = .ok (.iconst 3, 1) := qdX9_determinant_44_23.2.2.2.2.1
theorem dX9_determinant_54 : decode cX9_determinant 54 = .ok (.putfield 13, 3) := qdX9_determinant_44_23.2.2.2.2.2.1
theorem dX9_determinant_57 : decode cX9_determinant 57 = .ok (.ldc 133, 2) := qdX9_determinant_44_23.2.2.2.2.2.2.1
theorem dX9_determinant_59 : decode cX9_determinant 59 = .ok (.areturn, 1) := qdX9_determinant_44_23.2.2.2.2.2.2.2.1
theorem dX9_determinant_60 : decode cX9_determinant 60 = .ok (.new 135, 3) := qdX9_determinant_44_23.2.2.2.2.2.2.2.2.1
theorem dX9_determinant_63 : decode cX9_determinant 63 = .ok (.dup, 1) := qdX9_determinant_44_23.2.2.2.2.2.2.2.2.2.1
theorem dX9_determinant_64 : decode cX9_determinant 64 = .ok (.invokespecial 137, 3) := qdX9_determinant_44_23.2.2.2.2.2.2.2.2.2.2.1
theorem dX9_determinant_67 : decode cX9_determinant 67 = .ok (.ldc 133, 2) := qdX9_determinant_44_23.2.2.2.2.2.2.2.2.2.2.2.1
theorem dX9_determinant_69 : decode cX9_determinant 69 = .ok (.invokevirtual 138, 3) := qdX9_determinant_44_23.2.2.2.2.2.2.2.2.2.2.2.2.1
theorem dX9_determinant_72 : decode cX9_determinant 72 = .ok (.aload_n 0, 1) := qdX9_determinant_44_23.2.2.2.2.2.2.2.2.2.2.2.2.2.1
theorem dX9_determinant_73 : decode cX9_determinant 73 = .ok (.iload_n 1, 1) := qdX9_determinant_44_23.2.2.2.2.2.2.2.2.2.2.2.2.2.2.1
theorem dX9_determinant_74 : decode cX9_determinant 74 = .ok (.invokevirtual 114, 3) := qdX9_determinant_44_23.2.2.2.2.2.2.2.2.2.2.2.2.2.2.2.1
theorem dX9_determinant_77 : decode cX9_determinant 77 = .ok (.iload_n 2, 1) := qdX9_determinant_44_23.2.2.2.2.2.2.2.2.2.2.2.2.2.2.2.2.1
theorem dX9_determinant_78 : decode cX9_determinant 78 = .ok (.iconst 1, 1) := qdX9_determinant_44_23.2.2.2.2.2.2.2.2.2.2.2.2.2.2.2.2.2.1
theorem dX9_determinant_79 : decode cX9_determinant 79 = .ok (.sipush 254, 3) := qdX9_determinant_44_23.2.2.2.2.2.2.2.2.2.2.2.2.2.2.2.2.2.2.1
theorem dX9_determinant_82 : decode cX9_determinant 82 = .ok (.invokestatic 162, 3) := qdX9_determinant_44_23.2.2.2.2.2.2.2.2.2.2.2.2.2.2.2.2.2.2.2.1
theorem dX9_determinant_85 : decode cX9_determinant 85 = .ok (.invokevirtual 142, 3) := qdX9_determinant_44_23.2.2.2.2.2.2.2.2.2.2.2.2.2.2.2.2.2.2.2.2.1
theorem dX9_determinant_88 : decode cX9_determinant 88 = .ok (.invokevirtual 145, 3) := qdX9_determinant_44_23.2.2.2.2.2.2.2.2.2.2.2.2.2.2.2.2.2.2.2.2.2.1
theorem dX9_determinant_91 : decode cX9_determinant 91 = .ok (.areturn, 1) := qdX9_determinant_44_23.2.2.2.2.2.2.2.2.2.2.2.2.2.2.2.2.2.2.2.2.2.2.1
theorem ggX9_tau_X9_isIn : GoodIn wsX9_tau wsX9_isIn := fun w h => ⟨List.mem_cons_of_mem _ (List.mem_append_left _ (List.mem_append_left _ (List.mem_append_right _ h))), zq_X9_isIn w h⟩
set_option maxRecDepth 20000 in
theorem gX9_tau_X9_isIn : GoodIn wsX9_tau (va_wsS RX9 93 yX9_isIn wsX9_isIn) := goodIn_app (goodIn_r _ [1, 2, 3] rfl rfl) ggX9_tau_X9_isIn
theorem ggX9_tau_X9_isNo : GoodIn wsX9_tau wsX9_isNo := fun w h => ⟨List.mem_cons_of_mem _ (List.mem_append_left _ (List.mem_append_right _ h)), zq_X9_isNo w h⟩
set_option maxRecDepth 20000 in
theorem gX9_tau_X9_isNo : GoodIn wsX9_tau (wsV RX9 166 RX9 yX9_isNo wsX9_isNo) := goodIn_app (goodIn_r _ [4, 5, 6, 3] rfl rfl) ggX9_tau_X9_isNo
theorem ggX9_tau_X9_tauOf : GoodIn wsX9_tau wsX9_tauOf := fun w h => ⟨List.mem_cons_of_mem _ (List.mem_append_right _ h), zq_X9_tauOf w h⟩
set_option maxRecDepth 20000 in
theorem gX9_tau_X9_tauOf : GoodIn wsX9_tau (va_wsS RX9 52 yX9_tauOf wsX9_tauOf) := goodIn_app (goodIn_r _ [7, 8, 3] rfl rfl) ggX9_tau_X9_tauOf
theorem qdX9_tau_0_21 : dcAll cX9_tau [(0, .aload_n 0, 1), (1, .iload_n 1, 1), (2, .iconst 1, 1), (3, .sipush 999, 3), (6, .invokestatic 93, 3), (9, .ifCond .eq 16, 3), (12, .iload_n 2, 1), (13, .iconst 0, 1), (14, .iconst 2, 1), (15, .invokestatic 93, 3), (18, .ifCond .eq 7, 3), (21, .iconst 1, 1), (22, .goto 4, 3), (25, .iconst 0, 1), (26, .invokevirtual 166, 3), (29, .ifCond .eq 7, 3), (32, .iconst 0, 1), (33, .goto 7, 3), (36, .iload_n 1, 1), (37, .invokestatic 52, 3), (40, .ireturn, 1)] := dcAll_of (by decide +kernel)
theorem dX9_tau_0 : decode cX9_tau 0 = .ok (.aload_n 0, 1) := qdX9_tau_0_21.1
theorem dX9_tau_1 : decode cX9_tau 1 = .ok (.iload_n 1, 1) := qdX9_tau_0_21.2.1
theorem dX9_tau_2 : decode cX9_tau 2 = .ok (.iconst 1, 1) := qdX9_tau_0_21.2.2.1
theorem dX9_tau_3 : decode cX9_tau 3 = .ok (.sipush 999, 3) := qdX9_tau_0_21.2.2.2.1
theorem dX9_tau_6 : decode cX9_tau 6 = .ok (.invokestatic 93, 3) := qdX9_tau_0_21.2.2.2.2.1
theorem dX9_tau_9 : decode cX9_tau 9 = .ok (.ifCond .eq 16, 3) := qdX9_tau_0_21.2.2.2.2.2.1
theorem dX9_tau_12 : decode cX9_tau 12 = .ok (.iload_n 2, 1) := qdX9_tau_0_21.2.2.2.2.2.2.1
theorem dX9_tau_13 : decode cX9_tau 13 = .ok (.iconst 0, 1) := qdX9_tau_0_21.2.2.2.2.2.2.2.1
theorem dX9_tau_14 : decode cX9_tau 14 = .ok (.iconst 2, 1) := qdX9_tau_0_21.2.2.2.2.2.2.2.2.1
theorem dX9_tau_15 : decode cX9_tau 15 = .ok (.invokestatic 93, 3) := qdX9_tau_0_21.2.2.2.2.2.2.2.2.2.1
theorem dX9_tau_18 : decode cX9_tau 18 = .ok (.ifCond .eq 7, 3) := qdX9_tau_0_21.2.2.2.2.2.2.2.2.2.2.1
theorem dX9_tau_21 : decode cX9_tau 21 = .ok (.iconst 1, 1) := qdX9_tau_0_21.2.2.2.2.2.2.2.2.2.2.2.1
theorem dX9_tau_22 : decode cX9_tau 22 = .ok (.goto 4, 3) := qdX9_tau_0_21.2.2.2.2.2.2.2.2.2.2.2.2.1
theorem dX9_tau_25 : decode cX9_tau 25 = .ok (.iconst 0, 1) := qdX9_tau_0_21.2.2.2.2.2.2.2.2.2.2.2.2.2.1
theorem dX9_tau_26 : decode cX9_tau 26 = .ok (.invokevirtual 166, 3) := qdX9_tau_0_21.2.2.2.2.2.2.2.2.2.2.2.2.2.2.1
theorem dX9_tau_29 : decode cX9_tau 29 = .ok (.ifCond .eq 7, 3) := qdX9_tau_0_21.2.2.2.2.2.2.2.2.2.2.2.2.2.2.2.1
theorem dX9_tau_32 : decode cX9_tau 32 = .ok (.iconst 0, 1) := qdX9_tau_0_21.2.2.2.2.2.2.2.2.2.2.2.2.2.2.2.2.1
theorem dX9_tau_33 : decode cX9_tau 33 = .ok (.goto 7, 3) := qdX9_tau_0_21.2.2.2.2.2.2.2.2.2.2.2.2.2.2.2.2.2.1
theorem dX9_tau_36 : decode cX9_tau 36 = .ok (.iload_n 1, 1) := qdX9_tau_0_21.2.2.2.2.2.2.2.2.2.2.2.2.2.2.2.2.2.2.1
theorem dX9_tau_37 : decode cX9_tau 37 = .ok (.invokestatic 52, 3) := qdX9_tau_0_21.2.2.2.2.2.2.2.2.2.2.2.2.2.2.2.2.2.2.2.1
theorem dX9_tau_40 : decode cX9_tau 40 = .ok (.ireturn, 1) := qdX9_tau_0_21.2.2.2.2.2.2.2.2.2.2.2.2.2.2.2.2.2.2.2.2.1
theorem ggX9_sigma_X9_isIn : GoodIn wsX9_sigma wsX9_isIn := fun w h => ⟨List.mem_cons_of_mem _ (List.mem_append_left _ (List.mem_append_left _ (List.mem_append_right _ h))), zq_X9_isIn w h⟩
set_option maxRecDepth 20000 in
theorem gX9_sigma_X9_isIn : GoodIn wsX9_sigma (va_wsS RX9 93 yX9_isIn wsX9_isIn) := goodIn_app (goodIn_r _ [1, 2, 3] rfl rfl) ggX9_sigma_X9_isIn
theorem ggX9_sigma_X9_isNo : GoodIn wsX9_sigma wsX9_isNo := fun w h => ⟨List.mem_cons_of_mem _ (List.mem_append_left _ (List.mem_append_right _ h)), zq_X9_isNo w h⟩
set_option maxRecDepth 20000 in
theorem gX9_sigma_X9_isNo : GoodIn wsX9_sigma (wsV RX9 166 RX9 yX9_isNo wsX9_isNo) := goodIn_app (goodIn_r _ [4, 5, 6, 3] rfl rfl) ggX9_sigma_X9_isNo
theorem ggX9_sigma_X9_sigmaOf : GoodIn wsX9_sigma wsX9_sigmaOf := fun w h => ⟨List.mem_cons_of_mem _ (List.mem_append_right _ h), zq_X9_sigmaOf w h⟩
set_option maxRecDepth 20000 in
theorem gX9_sigma_X9_sigmaOf : GoodIn wsX9_sigma (va_wsS RX9 55 yX9_sigmaOf wsX9_sigmaOf) := goodIn_app (goodIn_r _ [7, 8, 3] rfl rfl) ggX9_sigma_X9_sigmaOf
theorem qdX9_sigma_0_21 : dcAll cX9_sigma [(0, .aload_n 0, 1), (1, .iload_n 1, 1), (2, .iconst 1, 1), (3, .sipush 999, 3), (6, .invokestatic 93, 3), (9, .ifCond .eq 16, 3), (12, .iload_n 2, 1), (13, .iconst 0, 1), (14, .iconst 1, 1), (15, .invokestatic 93, 3), (18, .ifCond .eq 7, 3), (21, .iconst 1, 1), (22, .goto 4, 3), (25, .iconst 0, 1), (26, .invokevirtual 166, 3), (29, .ifCond .eq 7, 3), (32, .iconst 0, 1), (33, .goto 7, 3), (36, .iload_n 1, 1), (37, .invokestatic 55, 3), (40, .ireturn, 1)] := dcAll_of (by decide +kernel)
theorem dX9_sigma_0 : decode cX9_sigma 0 = .ok (.aload_n 0, 1) := qdX9_sigma_0_21.1
theorem dX9_sigma_1 : decode cX9_sigma 1 = .ok (.iload_n 1, 1) := qdX9_sigma_0_21.2.1
theorem dX9_sigma_2 : decode cX9_sigma 2 = .ok (.iconst 1, 1) := qdX9_sigma_0_21.2.2.1
theorem dX9_sigma_3 : decode cX9_sigma 3 = .ok (.sipush 999, 3) := qdX9_sigma_0_21.2.2.2.1
theorem dX9_sigma_6 : decode cX9_sigma 6 = .ok (.invokestatic 93, 3) := qdX9_sigma_0_21.2.2.2.2.1
theorem dX9_sigma_9 : decode cX9_sigma 9 = .ok (.ifCond .eq 16, 3) := qdX9_sigma_0_21.2.2.2.2.2.1
theorem dX9_sigma_12 : decode cX9_sigma 12 = .ok (.iload_n 2, 1) := qdX9_sigma_0_21.2.2.2.2.2.2.1
theorem dX9_sigma_13 : decode cX9_sigma 13 = .ok (.iconst 0, 1) := qdX9_sigma_0_21.2.2.2.2.2.2.2.1
theorem dX9_sigma_14 : decode cX9_sigma 14 = .ok (.iconst 1, 1) := qdX9_sigma_0_21.2.2.2.2.2.2.2.2.1
theorem dX9_sigma_15 : decode cX9_sigma 15 = .ok (.invokestatic 93, 3) := qdX9_sigma_0_21.2.2.2.2.2.2.2.2.2.1
theorem dX9_sigma_18 : decode cX9_sigma 18 = .ok (.ifCond .eq 7, 3) := qdX9_sigma_0_21.2.2.2.2.2.2.2.2.2.2.1
theorem dX9_sigma_21 : decode cX9_sigma 21 = .ok (.iconst 1, 1) := qdX9_sigma_0_21.2.2.2.2.2.2.2.2.2.2.2.1
theorem dX9_sigma_22 : decode cX9_sigma 22 = .ok (.goto 4, 3) := qdX9_sigma_0_21.2.2.2.2.2.2.2.2.2.2.2.2.1
theorem dX9_sigma_25 : decode cX9_sigma 25 = .ok (.iconst 0, 1) := qdX9_sigma_0_21.2.2.2.2.2.2.2.2.2.2.2.2.2.1
theorem dX9_sigma_26 : decode cX9_sigma 26 = .ok (.invokevirtual 166, 3) := qdX9_sigma_0_21.2.2.2.2.2.2.2.2.2.2.2.2.2.2.1
theorem dX9_sigma_29 : decode cX9_sigma 29 = .ok (.ifCond .eq 7, 3) := qdX9_sigma_0_21.2.2.2.2.2.2.2.2.2.2.2.2.2.2.2.1
theorem dX9_sigma_32 : decode cX9_sigma 32 = .ok (.iconst 0, 1) := qdX9_sigma_0_21.2.2.2.2.2.2.2.2.2.2.2.2.2.2.2.2.1
theorem dX9_sigma_33 : decode cX9_sigma 33 = .ok (.goto 7, 3) := qdX9_sigma_0_21.2.2.2.2.2.2.2.2.2.2.2.2.2.2.2.2.2.1
theorem dX9_sigma_36 : decode cX9_sigma 36 = .ok (.iload_n 1, 1) := qdX9_sigma_0_21.2.2.2.2.2.2.2.2.2.2.2.2.2.2.2.2.2.2.1
theorem dX9_sigma_37 : decode cX9_sigma 37 = .ok (.invokestatic 55, 3) := qdX9_sigma_0_21.2.2.2.2.2.2.2.2.2.2.2.2.2.2.2.2.2.2.2.1
theorem dX9_sigma_40 : decode cX9_sigma 40 = .ok (.ireturn, 1) := qdX9_sigma_0_21.2.2.2.2.2.2.2.2.2.2.2.2.2.2.2.2.2.2.2.2.1
theorem ggX9_phi_X9_isIn : GoodIn wsX9_phi wsX9_isIn := fun w h => ⟨List.mem_cons_of_mem _ (List.mem_append_left _ (List.mem_append_left _ (List.mem_append_right _ h))), zq_X9_isIn w h⟩
set_option maxRecDepth 20000 in
theorem gX9_phi_X9_isIn : GoodIn wsX9_phi (va_wsS RX9 93 yX9_isIn wsX9_isIn) := goodIn_app (goodIn_r _ [1, 2, 3] rfl rfl) ggX9_phi_X9_isIn
theorem ggX9_phi_X9_isNo : GoodIn wsX9_phi wsX9_isNo := fun w h => ⟨List.mem_cons_of_mem _ (List.mem_append_left _ (List.mem_append_right _ h)), zq_X9_isNo w h⟩
set_option maxRecDepth 20000 in
theorem gX9_phi_X9_isNo : GoodIn wsX9_phi (wsV RX9 166 RX9 yX9_isNo wsX9_isNo) := goodIn_app (goodIn_r _ [4, 5, 6, 3] rfl rfl) ggX9_phi_X9_isNo
theorem ggX9_phi_X9_phiOf : GoodIn wsX9_phi wsX9_phiOf := fun w h => ⟨List.mem_cons_of_mem _ (List.mem_append_right _ h), zq_X9_phiOf w h⟩
set_option maxRecDepth 20000 in
theorem gX9_phi_X9_phiOf : GoodIn wsX9_phi (va_wsS RX9 49 yX9_phiOf wsX9_phiOf) := goodIn_app (goodIn_r _ [7, 8, 3] rfl rfl) ggX9_phi_X9_phiOf
theorem qdX9_phi_0_21 : dcAll cX9_phi [(0, .aload_n 0, 1), (1, .iload_n 1, 1), (2, .iconst 1, 1), (3, .sipush 999, 3), (6, .invokestatic 93, 3), (9, .ifCond .eq 16, 3), (12, .iload_n 2, 1), (13, .iconst 0, 1), (14, .iconst 2, 1), (15, .invokestatic 93, 3), (18, .ifCond .eq 7, 3), (21, .iconst 1, 1), (22, .goto 4, 3), (25, .iconst 0, 1), (26, .invokevirtual 166, 3), (29, .ifCond .eq 7, 3), (32, .iconst 0, 1), (33, .goto 7, 3), (36, .iload_n 1, 1), (37, .invokestatic 49, 3), (40, .ireturn, 1)] := dcAll_of (by decide +kernel)
theorem dX9_phi_0 : decode cX9_phi 0 = .ok (.aload_n 0, 1) := qdX9_phi_0_21.1
theorem dX9_phi_1 : decode cX9_phi 1 = .ok (.iload_n 1, 1) := qdX9_phi_0_21.2.1
theorem dX9_phi_2 : decode cX9_phi 2 = .ok (.iconst 1, 1) := qdX9_phi_0_21.2.2.1
theorem dX9_phi_3 : decode cX9_phi 3 = .ok (.sipush 999, 3) := qdX9_phi_0_21.2.2.2.1
theorem dX9_phi_6 : decode cX9_phi 6 = .ok (.invokestatic 93, 3) := qdX9_phi_0_21.2.2.2.2.1
theorem dX9_phi_9 : decode cX9_phi 9 = .ok (.ifCond .eq 16, 3) := qdX9_phi_0_21.2.2.2.2.2.1
theorem dX9_phi_12 : decode cX9_phi 12 = .ok (.iload_n 2, 1) := qdX9_phi_0_21.2.2.2.2.2.2.1
theorem dX9_phi_13 : decode cX9_phi 13 = .ok (.iconst 0, 1) := qdX9_phi_0_21.2.2.2.2.2.2.2.1
theorem dX9_phi_14 : decode cX9_phi 14 = .ok (.iconst 2, 1) := qdX9_phi_0_21.2.2.2.2.2.2.2.2.1
theorem dX9_phi_15 : decode cX9_phi 15 = .ok (.invokestatic 93, 3) := qdX9_phi_0_21.2.2.2.2.2.2.2.2.2.1
theorem dX9_phi_18 : decode cX9_phi 18 = .ok (.ifCond .eq 7, 3) := qdX9_phi_0_21.2.2.2.2.2.2.2.2.2.2.1
theorem dX9_phi_21 : decode cX9_phi 21 = .ok (.iconst 1, 1) := qdX9_phi_0_21.2.2.2.2.2.2.2.2.2.2.2.1
theorem dX9_phi_22 : decode cX9_phi 22 = .ok (.goto 4, 3) := qdX9_phi_0_21.2.2.2.2.2.2.2.2.2.2.2.2.1
theorem dX9_phi_25 : decode cX9_phi 25 = .ok (.iconst 0, 1) := qdX9_phi_0_21.2.2.2.2.2.2.2.2.2.2.2.2.2.1
theorem dX9_phi_26 : decode cX9_phi 26 = .ok (.invokevirtual 166, 3) := qdX9_phi_0_21.2.2.2.2.2.2.2.2.2.2.2.2.2.2.1
theorem dX9_phi_29 : decode cX9_phi 29 = .ok (.ifCond .eq 7, 3) := qdX9_phi_0_21.2.2.2.2.2.2.2.2.2.2.2.2.2.2.2.1
theorem dX9_phi_32 : decode cX9_phi 32 = .ok (.iconst 0, 1) := qdX9_phi_0_21.2.2.2.2.2.2.2.2.2.2.2.2.2.2.2.2.1
theorem dX9_phi_33 : decode cX9_phi 33 = .ok (.goto 7, 3) := qdX9_phi_0_21.2.2.2.2.2.2.2.2.2.2.2.2.2.2.2.2.2.1
theorem dX9_phi_36 : decode cX9_phi 36 = .ok (.iload_n 1, 1) := qdX9_phi_0_21.2.2.2.2.2.2.2.2.2.2.2.2.2.2.2.2.2.2.1
theorem dX9_phi_37 : decode cX9_phi 37 = .ok (.invokestatic 49, 3) := qdX9_phi_0_21.2.2.2.2.2.2.2.2.2.2.2.2.2.2.2.2.2.2.2.1
theorem dX9_phi_40 : decode cX9_phi 40 = .ok (.ireturn, 1) := qdX9_phi_0_21.2.2.2.2.2.2.2.2.2.2.2.2.2.2.2.2.2.2.2.2.1
theorem ggX9_sign_X9_isIn : GoodIn wsX9_sign wsX9_isIn := fun w h => ⟨List.mem_cons_of_mem _ (List.mem_append_left _ (List.mem_append_left _ (List.mem_append_right _ h))), zq_X9_isIn w h⟩
set_option maxRecDepth 20000 in
theorem gX9_sign_X9_isIn : GoodIn wsX9_sign (va_wsS RX9 93 yX9_isIn wsX9_isIn) := goodIn_app (goodIn_r _ [1, 2, 3] rfl rfl) ggX9_sign_X9_isIn
theorem ggX9_sign_X9_isNo : GoodIn wsX9_sign wsX9_isNo := fun w h => ⟨List.mem_cons_of_mem _ (List.mem_append_left _ (List.mem_append_right _ h)), zq_X9_isNo w h⟩
set_option maxRecDepth 20000 in
theorem gX9_sign_X9_isNo : GoodIn wsX9_sign (wsV RX9 166 RX9 yX9_isNo wsX9_isNo) := goodIn_app (goodIn_r _ [4, 5, 6, 3] rfl rfl) ggX9_sign_X9_isNo
theorem ggX9_sign_X9_signOf : GoodIn wsX9_sign wsX9_signOf := fun w h => ⟨List.mem_cons_of_mem _ (List.mem_append_right _ h), zq_X9_signOf w h⟩
set_option maxRecDepth 20000 in
theorem gX9_sign_X9_signOf : GoodIn wsX9_sign (va_wsS RX9 46 yX9_signOf wsX9_signOf) := goodIn_app (goodIn_r _ [7, 8, 3] rfl rfl) ggX9_sign_X9_signOf
theorem qdX9_sign_0_21 : dcAll cX9_sign [(0, .aload_n 0, 1), (1, .iload_n 1, 1), (2, .iconst 1, 1), (3, .sipush 999, 3), (6, .invokestatic 93, 3), (9, .ifCond .eq 16, 3), (12, .iload_n 2, 1), (13, .iconst 0, 1), (14, .iconst 1, 1), (15, .invokestatic 93, 3), (18, .ifCond .eq 7, 3), (21, .iconst 1, 1), (22, .goto 4, 3), (25, .iconst 0, 1), (26, .invokevirtual 166, 3), (29, .ifCond .eq 7, 3), (32, .iconst 0, 1), (33, .goto 7, 3), (36, .iload_n 1, 1), (37, .invokestatic 46, 3), (40, .ireturn, 1)] := dcAll_of (by decide +kernel)
theorem dX9_sign_0 : decode cX9_sign 0 = .ok (.aload_n 0, 1) := qdX9_sign_0_21.1
theorem dX9_sign_1 : decode cX9_sign 1 = .ok (.iload_n 1, 1) := qdX9_sign_0_21.2.1
theorem dX9_sign_2 : decode cX9_sign 2 = .ok (.iconst 1, 1) := qdX9_sign_0_21.2.2.1
theorem dX9_sign_3 : decode cX9_sign 3 = .ok (.sipush 999, 3) := qdX9_sign_0_21.2.2.2.1
theorem dX9_sign_6 : decode cX9_sign 6 = .ok (.invokestatic 93, 3) := qdX9_sign_0_21.2.2.2.2.1
theorem dX9_sign_9 : decode cX9_sign 9 = .ok (.ifCond .eq 16, 3) := qdX9_sign_0_21.2.2.2.2.2.1
theorem dX9_sign_12 : decode cX9_sign 12 = .ok (.iload_n 2, 1) := qdX9_sign_0_21.2.2.2.2.2.2.1
theorem dX9_sign_13 : decode cX9_sign 13 = .ok (.iconst 0, 1) := qdX9_sign_0_21.2.2.2.2.2.2.2.1
theorem dX9_sign_14 : decode cX9_sign 14 = .ok (.iconst 1, 1) := qdX9_sign_0_21.2.2.2.2.2.2.2.2.1
theorem dX9_sign_15 : decode cX9_sign 15 = .ok (.invokestatic 93, 3) := qdX9_sign_0_21.2.2.2.2.2.2.2.2.2.1
theorem dX9_sign_18 : decode cX9_sign 18 = .ok (.ifCond .eq 7, 3) := qdX9_sign_0_21.2.2.2.2.2.2.2.2.2.2.1
theorem dX9_sign_21 : decode cX9_sign 21 = .ok (.iconst 1, 1) := qdX9_sign_0_21.2.2.2.2.2.2.2.2.2.2.2.1
theorem dX9_sign_22 : decode cX9_sign 22 = .ok (.goto 4, 3) := qdX9_sign_0_21.2.2.2.2.2.2.2.2.2.2.2.2.1
theorem dX9_sign_25 : decode cX9_sign 25 = .ok (.iconst 0, 1) := qdX9_sign_0_21.2.2.2.2.2.2.2.2.2.2.2.2.2.1
theorem dX9_sign_26 : decode cX9_sign 26 = .ok (.invokevirtual 166, 3) := qdX9_sign_0_21.2.2.2.2.2.2.2.2.2.2.2.2.2.2.1
theorem dX9_sign_29 : decode cX9_sign 29 = .ok (.ifCond .eq 7, 3) := qdX9_sign_0_21.2.2.2.2.2.2.2.2.2.2.2.2.2.2.2.1
theorem dX9_sign_32 : decode cX9_sign 32 = .ok (.iconst 0, 1) := qdX9_sign_0_21.2.2.2.2.2.2.2.2.2.2.2.2.2.2.2.2.1
theorem dX9_sign_33 : decode cX9_sign 33 = .ok (.goto 7, 3) := qdX9_sign_0_21.2.2.2.2.2.2.2.2.2.2.2.2.2.2.2.2.2.1
theorem dX9_sign_36 : decode cX9_sign 36 = .ok (.iload_n 1, 1) := qdX9_sign_0_21.2.2.2.2.2.2.2.2.2.2.2.2.2.2.2.2.2.2.1
theorem dX9_sign_37 : decode cX9_sign 37 = .ok (.invokestatic 46, 3) := qdX9_sign_0_21.2.2.2.2.2.2.2.2.2.2.2.2.2.2.2.2.2.2.2.1
theorem dX9_sign_40 : decode cX9_sign 40 = .ok (.ireturn, 1) := qdX9_sign_0_21.2.2.2.2.2.2.2.2.2.2.2.2.2.2.2.2.2.2.2.2.1
theorem ggX9_square_X9_isIn : GoodIn wsX9_square wsX9_isIn := fun w h => ⟨List.mem_cons_of_mem _ (List.mem_append_left _ (List.mem_append_left _ (List.mem_append_right _ h))), zq_X9_isIn w h⟩
set_option maxRecDepth 20000 in
theorem gX9_square_X9_isIn : GoodIn wsX9_square (va_wsS RX9 93 yX9_isIn wsX9_isIn) := goodIn_app (goodIn_r _ [1, 2, 3] rfl rfl) ggX9_square_X9_isIn
theorem ggX9_square_X9_isNo : GoodIn wsX9_square wsX9_isNo := fun w h => ⟨List.mem_cons_of_mem _ (List.mem_append_left _ (List.mem_append_right _ h)), zq_X9_isNo w h⟩
set_option maxRecDepth 20000 in
theorem gX9_square_X9_isNo : GoodIn wsX9_square (wsV RX9 166 RX9 yX9_isNo wsX9_isNo) := goodIn_app (goodIn_r _ [4, 5, 6, 3] rfl rfl) ggX9_square_X9_isNo
theorem ggX9_square_X9_squareOf : GoodIn wsX9_square wsX9_squareOf := fun w h => ⟨List.mem_cons_of_mem _ (List.mem_append_right _ h), zq_X9_squareOf w h⟩
set_option maxRecDepth 20000 in
theorem gX9_square_X9_squareOf : GoodIn wsX9_square (va_wsS RX9 27 yX9_squareOf wsX9_squareOf) := goodIn_app (goodIn_r _ [7, 8, 3] rfl rfl) ggX9_square_X9_squareOf
theorem qdX9_square_0_21 : dcAll cX9_square [(0, .aload_n 0, 1), (1, .iload_n 1, 1), (2, .iconst 1, 1), (3, .sipush 999, 3), (6, .invokestatic 93, 3), (9, .ifCond .eq 16, 3), (12, .iload_n 2, 1), (13, .iconst 0, 1), (14, .iconst 1, 1), (15, .invokestatic 93, 3), (18, .ifCond .eq 7, 3), (21, .iconst 1, 1), (22, .goto 4, 3), (25, .iconst 0, 1), (26, .invokevirtual 166, 3), (29, .ifCond .eq 7, 3), (32, .iconst 0, 1), (33, .goto 7, 3), (36, .iload_n 1, 1), (37, .invokestatic 27, 3), (40, .ireturn, 1)] := dcAll_of (by decide +kernel)
theorem dX9_square_0 : decode cX9_square 0 = .ok (.aload_n 0, 1) := qdX9_square_0_21.1
theorem dX9_square_1 : decode cX9_square 1 = .ok (.iload_n 1, 1) := qdX9_square_0_21.2.1
theorem dX9_square_2 : decode cX9_square 2 = .ok (.iconst 1, 1) := qdX9_square_0_21.2.2.1
theorem dX9_square_3 : decode cX9_square 3 = .ok (.sipush 999, 3) := qdX9_square_0_21.2.2.2.1
theorem dX9_square_6 : decode cX9_square 6 = .ok (.invokestatic 93, 3) := qdX9_square_0_21.2.2.2.2.1
theorem dX9_square_9 : decode cX9_square 9 = .ok (.ifCond .eq 16, 3) := qdX9_square_0_21.2.2.2.2.2.1
theorem dX9_square_12 : decode cX9_square 12 = .ok (.iload_n 2, 1) := qdX9_square_0_21.2.2.2.2.2.2.1
theorem dX9_square_13 : decode cX9_square 13 = .ok (.iconst 0, 1) := qdX9_square_0_21.2.2.2.2.2.2.2.1
theorem dX9_square_14 : decode cX9_square 14 = .ok (.iconst 1, 1) := qdX9_square_0_21.2.2.2.2.2.2.2.2.1
theorem dX9_square_15 : decode cX9_square 15 = .ok (.invokestatic 93, 3) := qdX9_square_0_21.2.2.2.2.2.2.2.2.2.1
theorem dX9_square_18 : decode cX9_square 18 = .ok (.ifCond .eq 7, 3) := qdX9_square_0_21.2.2.2.2.2.2.2.2.2.2.1
theorem dX9_square_21 : decode cX9_square 21 = .ok (.iconst 1, 1) := qdX9_square_0_21.2.2.2.2.2.2.2.2.2.2.2.1
theorem dX9_square_22 : decode cX9_square 22 = .ok (.goto 4, 3) := qdX9_square_0_21.2.2.2.2.2.2.2.2.2.2.2.2.1
theorem dX9_square_25 : decode cX9_square 25 = .ok (.iconst 0, 1) := qdX9_square_0_21.2.2.2.2.2.2.2.2.2.2.2.2.2.1
theorem dX9_square_26 : decode cX9_square 26 = .ok (.invokevirtual 166, 3) := qdX9_square_0_21.2.2.2.2.2.2.2.2.2.2.2.2.2.2.1
theorem dX9_square_29 : decode cX9_square 29 = .ok (.ifCond .eq 7, 3) := qdX9_square_0_21.2.2.2.2.2.2.2.2.2.2.2.2.2.2.2.1
theorem dX9_square_32 : decode cX9_square 32 = .ok (.iconst 0, 1) := qdX9_square_0_21.2.2.2.2.2.2.2.2.2.2.2.2.2.2.2.2.1
theorem dX9_square_33 : decode cX9_square 33 = .ok (.goto 7, 3) := qdX9_square_0_21.2.2.2.2.2.2.2.2.2.2.2.2.2.2.2.2.2.1
theorem dX9_square_36 : decode cX9_square 36 = .ok (.iload_n 1, 1) := qdX9_square_0_21.2.2.2.2.2.2.2.2.2.2.2.2.2.2.2.2.2.2.1
theorem dX9_square_37 : decode cX9_square 37 = .ok (.invokestatic 27, 3) := qdX9_square_0_21.2.2.2.2.2.2.2.2.2.2.2.2.2.2.2.2.2.2.2.1
theorem dX9_square_40 : decode cX9_square 40 = .ok (.ireturn, 1) := qdX9_square_0_21.2.2.2.2.2.2.2.2.2.2.2.2.2.2.2.2.2.2.2.2.1
theorem ggX9_squareless_X9_isIn : GoodIn wsX9_squareless wsX9_isIn := fun w h => ⟨List.mem_cons_of_mem _ (List.mem_append_left _ (List.mem_append_left _ (List.mem_append_right _ h))), zq_X9_isIn w h⟩
set_option maxRecDepth 20000 in
theorem gX9_squareless_X9_isIn : GoodIn wsX9_squareless (va_wsS RX9 93 yX9_isIn wsX9_isIn) := goodIn_app (goodIn_r _ [1, 2, 3] rfl rfl) ggX9_squareless_X9_isIn
theorem ggX9_squareless_X9_isNo : GoodIn wsX9_squareless wsX9_isNo := fun w h => ⟨List.mem_cons_of_mem _ (List.mem_append_left _ (List.mem_append_right _ h)), zq_X9_isNo w h⟩
set_option maxRecDepth 20000 in
theorem gX9_squareless_X9_isNo : GoodIn wsX9_squareless (wsV RX9 166 RX9 yX9_isNo wsX9_isNo) := goodIn_app (goodIn_r _ [4, 5, 6, 3] rfl rfl) ggX9_squareless_X9_isNo
theorem ggX9_squareless_X9_squareOf : GoodIn wsX9_squareless wsX9_squareOf := fun w h => ⟨List.mem_cons_of_mem _ (List.mem_append_right _ h), zq_X9_squareOf w h⟩
set_option maxRecDepth 20000 in
theorem gX9_squareless_X9_squareOf : GoodIn wsX9_squareless (va_wsS RX9 27 yX9_squareOf wsX9_squareOf) := goodIn_app (goodIn_r _ [7, 8, 3] rfl rfl) ggX9_squareless_X9_squareOf
theorem qdX9_squareless_0_24 : dcAll cX9_squareless [(0, .aload_n 0, 1), (1, .iload_n 1, 1), (2, .iconst 1, 1), (3, .sipush 999, 3), (6, .invokestatic 93, 3), (9, .ifCond .eq 16, 3), (12, .iload_n 2, 1), (13, .iconst 0, 1), (14, .iconst 1, 1), (15, .invokestatic 93, 3), (18, .ifCond .eq 7, 3), (21, .iconst 1, 1), (22, .goto 4, 3), (25, .iconst 0, 1), (26, .invokevirtual 166, 3), (29, .ifCond .eq 5, 3), (32, .iconst 0, 1), (33, .ireturn, 1), (34, .iconst 0, 1), (35, .istore_n 3, 1), (36, .iconst 1, 1), (37, .istore 4, 2), (39, .iload 4, 2), (41, .iload_n 1, 1)] := dcAll_of (by decide +kernel)
theorem dX9_squareless_0 : decode cX9_squareless 0 = .ok (.aload_n 0, 1) := qdX9_squareless_0_24.1
theorem dX9_squareless_1 : decode cX9_squareless 1 = .ok (.iload_n 1, 1) := qdX9_squareless_0_24.2.1
theorem dX9_squareless_2 : decode cX9_squareless 2 = .ok (.iconst 1, 1) := qdX9_squareless_0_24.2.2.1
theorem dX9_squareless_3 : decode cX9_squareless 3 = .ok (.sipush 999, 3) := qdX9_squareless_0_24.2.2.2.1
theorem dX9_squareless_6 : decode cX9_squareless 6 = .ok (.invokestatic 93, 3) := qdX9_squareless_0_24.2.2.2.2.1
theorem dX9_squareless_9 : decode cX9_squareless 9 = .ok (.ifCond .eq 16, 3) := qdX9_squareless_0_24.2.2.2.2.2.1
theorem dX9_squareless_12 : decode cX9_squareless 12 = .ok (.iload_n 2, 1) := qdX9_squareless_0_24.2.2.2.2.2.2.1
theorem dX9_squareless_13 : decode cX9_squareless 13 = .ok (.iconst 0, 1) := qdX9_squareless_0_24.2.2.2.2.2.2.2.1
theorem dX9_squareless_14 : decode cX9_squareless 14 = .ok (.iconst 1, 1) := qdX9_squareless_0_24.2.2.2.2.2.2.2.2.1
theorem dX9_squareless_15 : decode cX9_squareless 15 = .ok (.invokestatic 93, 3) := qdX9_squareless_0_24.2.2.2.2.2.2.2.2.2.1
theorem dX9_squareless_18 : decode cX9_squareless 18 = .ok (.ifCond .eq 7, 3) := qdX9_squareless_0_24.2.2.2.2.2.2.2.2.2.2.1
theorem dX9_squareless_21 : decode cX9_squareless 21 = .ok (.iconst 1, 1) := qdX9_squareless_0_24.2.2.2.2.2.2.2.2.2.2.2.1
theorem dX9_squareless_22 : decode cX9_squareless 22 = .ok (.goto 4, 3) := qdX9_squareless_0_24.2.2.2.2.2.2.2.2.2.2.2.2.1
theorem dX9_squareless_25 : decode cX9_squareless 25 = .ok (.iconst 0, 1) := qdX9_squareless_0_24.2.2.2.2.2.2.2.2.2.2.2.2.2.1
theorem dX9_squareless_26 : decode cX9_squareless 26 = .ok (.invokevirtual 166, 3) := qdX9_squareless_0_24.2.2.2.2.2.2.2.2.2.2.2.2.2.2.1
theorem dX9_squareless_29 : decode cX9_squareless 29 = .ok (.ifCond .eq 5, 3) := qdX9_squareless_0_24.2.2.2.2.2.2.2.2.2.2.2.2.2.2.2.1
theorem dX9_squareless_32 : decode cX9_squareless 32 = .ok (.iconst 0, 1) := qdX9_squareless_0_24.2.2.2.2.2.2.2.2.2.2.2.2.2.2.2.2.1
theorem dX9_squareless_33 : decode cX9_squareless 33 = .ok (.ireturn, 1) := qdX9_squareless_0_24.2.2.2.2.2.2.2.2.2.2.2.2.2.2.2.2.2.1
theorem dX9_squareless_34 : decode cX9_squareless 34 = .ok (.iconst 0, 1) := qdX9_squareless_0_24.2.2.2.2.2.2.2.2.2.2.2.2.2.2.2.2.2.2.1
theorem dX9_squareless_35 : decode cX9_squareless 35 = .ok (.istore_n 3, 1) := qdX9_squareless_0_24.2.2.2.2.2.2.2.2.2.2.2.2.2.2.2.2.2.2.2.1
theorem dX9_squareless_36 : decode cX9_squareless 36 = .ok (.iconst 1, 1) := qdX9_squareless_0_24.2.2.2.2.2.2.2.2.2.2.2.2.2.2.2.2.2.2.2.2.1
theorem dX9_squareless_37 : decode cX9_squareless 37 = .ok (.istore 4, 2) := qdX9_squareless_0_24.2.2.2.2.2.2.2.2.2.2.2.2.2.2.2.2.2.2.2.2.2.1
theorem dX9_squareless_39 : decode cX9_squareless 39 = .ok (.iload 4, 2) := qdX9_squareless_0_24.2.2.2.2.2.2.2.2.2.2.2.2.2.2.2.2.2.2.2.2.2.2.1
theorem dX9_squareless_41 : decode cX9_squareless 41 = .ok (.iload_n 1, 1) := qdX9_squareless_0_24.2.2.2.2.2.2.2.2.2.2.2.2.2.2.2.2.2.2.2.2.2.2.2.1
theorem qdX9_squareless_42_15 : dcAll cX9_squareless [(42, .if_icmp .gt 26, 3), (45, .iload_n 3, 1), (46, .iload 4, 2), (48, .invokestatic 27, 3), (51, .iconst 1, 1), (52, .if_icmp .ne 7, 3), (55, .iconst 1, 1), (56, .goto 4, 3), (59, .iconst 0, 1), (60, .iadd, 1), (61, .istore_n 3, 1), (62, .iinc 4 1, 3), (65, .goto (-26), 3), (68, .iload_n 3, 1), (69, .ireturn, 1)] := dcAll_of (by decide +kernel)
theorem dX9_squareless_42 : decode cX9_squareless 42 = .ok (.if_icmp .gt 26, 3) := qdX9_squareless_42_15.1
theorem dX9_squareless_45 : decode cX9_squareless 45 = .ok (.iload_n 3, 1) := qdX9_squareless_42_15.2.1
theorem dX9_squareless_46 : decode cX9_squareless 46 = .ok (.iload 4, 2) := qdX9_squareless_42_15.2.2.1
theorem dX9_squareless_48 : decode cX9_squareless 48 = .ok (.invokestatic 27, 3) := qdX9_squareless_42_15.2.2.2.1
theorem dX9_squareless_51 : decode cX9_squareless 51 = .ok (.iconst 1, 1) := qdX9_squareless_42_15.2.2.2.2.1
theorem dX9_squareless_52 : decode cX9_squareless 52 = .ok (.if_icmp .ne 7, 3) := qdX9_squareless_42_15.2.2.2.2.2.1
theorem dX9_squareless_55 : decode cX9_squareless 55 = .ok (.iconst 1, 1) := qdX9_squareless_42_15.2.2.2.2.2.2.1
theorem dX9_squareless_56 : decode cX9_squareless 56 = .ok (.goto 4, 3) := qdX9_squareless_42_15.2.2.2.2.2.2.2.1
theorem dX9_squareless_59 : decode cX9_squareless 59 = .ok (.iconst 0, 1) := qdX9_squareless_42_15.2.2.2.2.2.2.2.2.1
theorem dX9_squareless_60 : decode cX9_squareless 60 = .ok (.iadd, 1) := qdX9_squareless_42_15.2.2.2.2.2.2.2.2.2.1
theorem dX9_squareless_61 : decode cX9_squareless 61 = .ok (.istore_n 3, 1) := qdX9_squareless_42_15.2.2.2.2.2.2.2.2.2.2.1
theorem dX9_squareless_62 : decode cX9_squareless 62 = .ok (.iinc 4 1, 3) := qdX9_squareless_42_15.2.2.2.2.2.2.2.2.2.2.2.1
theorem dX9_squareless_65 : decode cX9_squareless 65 = .ok (.goto (-26), 3) := qdX9_squareless_42_15.2.2.2.2.2.2.2.2.2.2.2.2.1
theorem dX9_squareless_68 : decode cX9_squareless 68 = .ok (.iload_n 3, 1) := qdX9_squareless_42_15.2.2.2.2.2.2.2.2.2.2.2.2.2.1
theorem dX9_squareless_69 : decode cX9_squareless 69 = .ok (.ireturn, 1) := qdX9_squareless_42_15.2.2.2.2.2.2.2.2.2.2.2.2.2.2.1
theorem ggX9_apart_X9_isIn : GoodIn wsX9_apart wsX9_isIn := fun w h => ⟨List.mem_cons_of_mem _ (List.mem_append_left _ (List.mem_append_left _ (List.mem_append_right _ h))), zq_X9_isIn w h⟩
set_option maxRecDepth 20000 in
theorem gX9_apart_X9_isIn : GoodIn wsX9_apart (va_wsS RX9 93 yX9_isIn wsX9_isIn) := goodIn_app (goodIn_r _ [1, 2, 3] rfl rfl) ggX9_apart_X9_isIn
theorem ggX9_apart_X9_isNo : GoodIn wsX9_apart wsX9_isNo := fun w h => ⟨List.mem_cons_of_mem _ (List.mem_append_left _ (List.mem_append_right _ h)), zq_X9_isNo w h⟩
set_option maxRecDepth 20000 in
theorem gX9_apart_X9_isNo : GoodIn wsX9_apart (wsV RX9 166 RX9 yX9_isNo wsX9_isNo) := goodIn_app (goodIn_r _ [4, 5, 6, 3] rfl rfl) ggX9_apart_X9_isNo
theorem ggX9_apart_X9_common : GoodIn wsX9_apart wsX9_common := fun w h => ⟨List.mem_cons_of_mem _ (List.mem_append_right _ h), zq_X9_common w h⟩
set_option maxRecDepth 20000 in
theorem gX9_apart_X9_common : GoodIn wsX9_apart (va_wsS RX9 33 yX9_common wsX9_common) := goodIn_app (goodIn_r _ [7, 8, 3] rfl rfl) ggX9_apart_X9_common
theorem qdX9_apart_0_24 : dcAll cX9_apart [(0, .aload_n 0, 1), (1, .iload_n 1, 1), (2, .iconst 1, 1), (3, .bipush 120, 2), (5, .invokestatic 93, 3), (8, .ifCond .eq 16, 3), (11, .iload_n 2, 1), (12, .iconst 0, 1), (13, .iconst 2, 1), (14, .invokestatic 93, 3), (17, .ifCond .eq 7, 3), (20, .iconst 1, 1), (21, .goto 4, 3), (24, .iconst 0, 1), (25, .invokevirtual 166, 3), (28, .ifCond .eq 5, 3), (31, .iconst 0, 1), (32, .ireturn, 1), (33, .iconst 0, 1), (34, .istore_n 3, 1), (35, .iconst 1, 1), (36, .istore 4, 2), (38, .iload 4, 2), (40, .iload_n 1, 1)] := dcAll_of (by decide +kernel)
theorem dX9_apart_0 : decode cX9_apart 0 = .ok (.aload_n 0, 1) := qdX9_apart_0_24.1
theorem dX9_apart_1 : decode cX9_apart 1 = .ok (.iload_n 1, 1) := qdX9_apart_0_24.2.1
theorem dX9_apart_2 : decode cX9_apart 2 = .ok (.iconst 1, 1) := qdX9_apart_0_24.2.2.1
theorem dX9_apart_3 : decode cX9_apart 3 = .ok (.bipush 120, 2) := qdX9_apart_0_24.2.2.2.1
theorem dX9_apart_5 : decode cX9_apart 5 = .ok (.invokestatic 93, 3) := qdX9_apart_0_24.2.2.2.2.1
theorem dX9_apart_8 : decode cX9_apart 8 = .ok (.ifCond .eq 16, 3) := qdX9_apart_0_24.2.2.2.2.2.1
theorem dX9_apart_11 : decode cX9_apart 11 = .ok (.iload_n 2, 1) := qdX9_apart_0_24.2.2.2.2.2.2.1
theorem dX9_apart_12 : decode cX9_apart 12 = .ok (.iconst 0, 1) := qdX9_apart_0_24.2.2.2.2.2.2.2.1
theorem dX9_apart_13 : decode cX9_apart 13 = .ok (.iconst 2, 1) := qdX9_apart_0_24.2.2.2.2.2.2.2.2.1
theorem dX9_apart_14 : decode cX9_apart 14 = .ok (.invokestatic 93, 3) := qdX9_apart_0_24.2.2.2.2.2.2.2.2.2.1
theorem dX9_apart_17 : decode cX9_apart 17 = .ok (.ifCond .eq 7, 3) := qdX9_apart_0_24.2.2.2.2.2.2.2.2.2.2.1
theorem dX9_apart_20 : decode cX9_apart 20 = .ok (.iconst 1, 1) := qdX9_apart_0_24.2.2.2.2.2.2.2.2.2.2.2.1
theorem dX9_apart_21 : decode cX9_apart 21 = .ok (.goto 4, 3) := qdX9_apart_0_24.2.2.2.2.2.2.2.2.2.2.2.2.1
theorem dX9_apart_24 : decode cX9_apart 24 = .ok (.iconst 0, 1) := qdX9_apart_0_24.2.2.2.2.2.2.2.2.2.2.2.2.2.1
theorem dX9_apart_25 : decode cX9_apart 25 = .ok (.invokevirtual 166, 3) := qdX9_apart_0_24.2.2.2.2.2.2.2.2.2.2.2.2.2.2.1
theorem dX9_apart_28 : decode cX9_apart 28 = .ok (.ifCond .eq 5, 3) := qdX9_apart_0_24.2.2.2.2.2.2.2.2.2.2.2.2.2.2.2.1
theorem dX9_apart_31 : decode cX9_apart 31 = .ok (.iconst 0, 1) := qdX9_apart_0_24.2.2.2.2.2.2.2.2.2.2.2.2.2.2.2.2.1
theorem dX9_apart_32 : decode cX9_apart 32 = .ok (.ireturn, 1) := qdX9_apart_0_24.2.2.2.2.2.2.2.2.2.2.2.2.2.2.2.2.2.1
theorem dX9_apart_33 : decode cX9_apart 33 = .ok (.iconst 0, 1) := qdX9_apart_0_24.2.2.2.2.2.2.2.2.2.2.2.2.2.2.2.2.2.2.1
theorem dX9_apart_34 : decode cX9_apart 34 = .ok (.istore_n 3, 1) := qdX9_apart_0_24.2.2.2.2.2.2.2.2.2.2.2.2.2.2.2.2.2.2.2.1
theorem dX9_apart_35 : decode cX9_apart 35 = .ok (.iconst 1, 1) := qdX9_apart_0_24.2.2.2.2.2.2.2.2.2.2.2.2.2.2.2.2.2.2.2.2.1
theorem dX9_apart_36 : decode cX9_apart 36 = .ok (.istore 4, 2) := qdX9_apart_0_24.2.2.2.2.2.2.2.2.2.2.2.2.2.2.2.2.2.2.2.2.2.1
theorem dX9_apart_38 : decode cX9_apart 38 = .ok (.iload 4, 2) := qdX9_apart_0_24.2.2.2.2.2.2.2.2.2.2.2.2.2.2.2.2.2.2.2.2.2.2.1
theorem dX9_apart_40 : decode cX9_apart 40 = .ok (.iload_n 1, 1) := qdX9_apart_0_24.2.2.2.2.2.2.2.2.2.2.2.2.2.2.2.2.2.2.2.2.2.2.2.1
theorem qdX9_apart_41_23 : dcAll cX9_apart [(41, .if_icmp .gt 43, 3), (44, .iconst 1, 1), (45, .istore 5, 2), (47, .iload 5, 2), (49, .iload_n 1, 1), (50, .if_icmp .gt 28, 3), (53, .iload_n 3, 1), (54, .iload 4, 2), (56, .iload 5, 2), (58, .invokestatic 33, 3), (61, .iconst 1, 1), (62, .if_icmp .ne 7, 3), (65, .iconst 1, 1), (66, .goto 4, 3), (69, .iconst 0, 1), (70, .iadd, 1), (71, .istore_n 3, 1), (72, .iinc 5 1, 3), (75, .goto (-28), 3), (78, .iinc 4 1, 3), (81, .goto (-43), 3), (84, .iload_n 3, 1), (85, .ireturn, 1)] := dcAll_of (by decide +kernel)
theorem dX9_apart_41 : decode cX9_apart 41 = .ok (.if_icmp .gt 43, 3) := qdX9_apart_41_23.1
theorem dX9_apart_44 : decode cX9_apart 44 = .ok (.iconst 1, 1) := qdX9_apart_41_23.2.1
theorem dX9_apart_45 : decode cX9_apart 45 = .ok (.istore 5, 2) := qdX9_apart_41_23.2.2.1
theorem dX9_apart_47 : decode cX9_apart 47 = .ok (.iload 5, 2) := qdX9_apart_41_23.2.2.2.1
theorem dX9_apart_49 : decode cX9_apart 49 = .ok (.iload_n 1, 1) := qdX9_apart_41_23.2.2.2.2.1
theorem dX9_apart_50 : decode cX9_apart 50 = .ok (.if_icmp .gt 28, 3) := qdX9_apart_41_23.2.2.2.2.2.1
theorem dX9_apart_53 : decode cX9_apart 53 = .ok (.iload_n 3, 1) := qdX9_apart_41_23.2.2.2.2.2.2.1
theorem dX9_apart_54 : decode cX9_apart 54 = .ok (.iload 4, 2) := qdX9_apart_41_23.2.2.2.2.2.2.2.1
theorem dX9_apart_56 : decode cX9_apart 56 = .ok (.iload 5, 2) := qdX9_apart_41_23.2.2.2.2.2.2.2.2.1
theorem dX9_apart_58 : decode cX9_apart 58 = .ok (.invokestatic 33, 3) := qdX9_apart_41_23.2.2.2.2.2.2.2.2.2.1
theorem dX9_apart_61 : decode cX9_apart 61 = .ok (.iconst 1, 1) := qdX9_apart_41_23.2.2.2.2.2.2.2.2.2.2.1
theorem dX9_apart_62 : decode cX9_apart 62 = .ok (.if_icmp .ne 7, 3) := qdX9_apart_41_23.2.2.2.2.2.2.2.2.2.2.2.1
theorem dX9_apart_65 : decode cX9_apart 65 = .ok (.iconst 1, 1) := qdX9_apart_41_23.2.2.2.2.2.2.2.2.2.2.2.2.1
theorem dX9_apart_66 : decode cX9_apart 66 = .ok (.goto 4, 3) := qdX9_apart_41_23.2.2.2.2.2.2.2.2.2.2.2.2.2.1
theorem dX9_apart_69 : decode cX9_apart 69 = .ok (.iconst 0, 1) := qdX9_apart_41_23.2.2.2.2.2.2.2.2.2.2.2.2.2.2.1
theorem dX9_apart_70 : decode cX9_apart 70 = .ok (.iadd, 1) := qdX9_apart_41_23.2.2.2.2.2.2.2.2.2.2.2.2.2.2.2.1
theorem dX9_apart_71 : decode cX9_apart 71 = .ok (.istore_n 3, 1) := qdX9_apart_41_23.2.2.2.2.2.2.2.2.2.2.2.2.2.2.2.2.1
theorem dX9_apart_72 : decode cX9_apart 72 = .ok (.iinc 5 1, 3) := qdX9_apart_41_23.2.2.2.2.2.2.2.2.2.2.2.2.2.2.2.2.2.1
theorem dX9_apart_75 : decode cX9_apart 75 = .ok (.goto (-28), 3) := qdX9_apart_41_23.2.2.2.2.2.2.2.2.2.2.2.2.2.2.2.2.2.2.1
theorem dX9_apart_78 : decode cX9_apart 78 = .ok (.iinc 4 1, 3) := qdX9_apart_41_23.2.2.2.2.2.2.2.2.2.2.2.2.2.2.2.2.2.2.2.1
theorem dX9_apart_81 : decode cX9_apart 81 = .ok (.goto (-43), 3) := qdX9_apart_41_23.2.2.2.2.2.2.2.2.2.2.2.2.2.2.2.2.2.2.2.2.1
theorem dX9_apart_84 : decode cX9_apart 84 = .ok (.iload_n 3, 1) := qdX9_apart_41_23.2.2.2.2.2.2.2.2.2.2.2.2.2.2.2.2.2.2.2.2.2.1
theorem dX9_apart_85 : decode cX9_apart 85 = .ok (.ireturn, 1) := qdX9_apart_41_23.2.2.2.2.2.2.2.2.2.2.2.2.2.2.2.2.2.2.2.2.2.2.1
theorem ggX9_shared_X9_isIn : GoodIn wsX9_shared wsX9_isIn := fun w h => ⟨List.mem_cons_of_mem _ (List.mem_append_left _ (List.mem_append_left _ (List.mem_append_right _ h))), zq_X9_isIn w h⟩
set_option maxRecDepth 20000 in
theorem gX9_shared_X9_isIn : GoodIn wsX9_shared (va_wsS RX9 93 yX9_isIn wsX9_isIn) := goodIn_app (goodIn_r _ [1, 2, 3] rfl rfl) ggX9_shared_X9_isIn
theorem ggX9_shared_X9_isNo : GoodIn wsX9_shared wsX9_isNo := fun w h => ⟨List.mem_cons_of_mem _ (List.mem_append_left _ (List.mem_append_right _ h)), zq_X9_isNo w h⟩
set_option maxRecDepth 20000 in
theorem gX9_shared_X9_isNo : GoodIn wsX9_shared (wsV RX9 166 RX9 yX9_isNo wsX9_isNo) := goodIn_app (goodIn_r _ [4, 5, 6, 3] rfl rfl) ggX9_shared_X9_isNo
theorem ggX9_shared_X9_common : GoodIn wsX9_shared wsX9_common := fun w h => ⟨List.mem_cons_of_mem _ (List.mem_append_right _ h), zq_X9_common w h⟩
set_option maxRecDepth 20000 in
theorem gX9_shared_X9_common : GoodIn wsX9_shared (va_wsS RX9 33 yX9_common wsX9_common) := goodIn_app (goodIn_r _ [7, 8, 3] rfl rfl) ggX9_shared_X9_common
theorem qdX9_shared_0_24 : dcAll cX9_shared [(0, .aload_n 0, 1), (1, .iload_n 1, 1), (2, .iconst 1, 1), (3, .sipush 999, 3), (6, .invokestatic 93, 3), (9, .ifCond .eq 18, 3), (12, .iload_n 2, 1), (13, .iconst 1, 1), (14, .sipush 999, 3), (17, .invokestatic 93, 3), (20, .ifCond .eq 7, 3), (23, .iconst 1, 1), (24, .goto 4, 3), (27, .iconst 0, 1), (28, .invokevirtual 166, 3), (31, .ifCond .eq 5, 3), (34, .iconst 0, 1), (35, .ireturn, 1), (36, .iload_n 3, 1), (37, .ifCond .eq 15, 3), (40, .iload_n 1, 1), (41, .iload_n 1, 1), (42, .iload_n 2, 1), (43, .invokestatic 33, 3)] := dcAll_of (by decide +kernel)
theorem dX9_shared_0 : decode cX9_shared 0 = .ok (.aload_n 0, 1) := qdX9_shared_0_24.1
theorem dX9_shared_1 : decode cX9_shared 1 = .ok (.iload_n 1, 1) := qdX9_shared_0_24.2.1
theorem dX9_shared_2 : decode cX9_shared 2 = .ok (.iconst 1, 1) := qdX9_shared_0_24.2.2.1
theorem dX9_shared_3 : decode cX9_shared 3 = .ok (.sipush 999, 3) := qdX9_shared_0_24.2.2.2.1
theorem dX9_shared_6 : decode cX9_shared 6 = .ok (.invokestatic 93, 3) := qdX9_shared_0_24.2.2.2.2.1
theorem dX9_shared_9 : decode cX9_shared 9 = .ok (.ifCond .eq 18, 3) := qdX9_shared_0_24.2.2.2.2.2.1
theorem dX9_shared_12 : decode cX9_shared 12 = .ok (.iload_n 2, 1) := qdX9_shared_0_24.2.2.2.2.2.2.1
theorem dX9_shared_13 : decode cX9_shared 13 = .ok (.iconst 1, 1) := qdX9_shared_0_24.2.2.2.2.2.2.2.1
theorem dX9_shared_14 : decode cX9_shared 14 = .ok (.sipush 999, 3) := qdX9_shared_0_24.2.2.2.2.2.2.2.2.1
theorem dX9_shared_17 : decode cX9_shared 17 = .ok (.invokestatic 93, 3) := qdX9_shared_0_24.2.2.2.2.2.2.2.2.2.1
theorem dX9_shared_20 : decode cX9_shared 20 = .ok (.ifCond .eq 7, 3) := qdX9_shared_0_24.2.2.2.2.2.2.2.2.2.2.1
theorem dX9_shared_23 : decode cX9_shared 23 = .ok (.iconst 1, 1) := qdX9_shared_0_24.2.2.2.2.2.2.2.2.2.2.2.1
theorem dX9_shared_24 : decode cX9_shared 24 = .ok (.goto 4, 3) := qdX9_shared_0_24.2.2.2.2.2.2.2.2.2.2.2.2.1
theorem dX9_shared_27 : decode cX9_shared 27 = .ok (.iconst 0, 1) := qdX9_shared_0_24.2.2.2.2.2.2.2.2.2.2.2.2.2.1
theorem dX9_shared_28 : decode cX9_shared 28 = .ok (.invokevirtual 166, 3) := qdX9_shared_0_24.2.2.2.2.2.2.2.2.2.2.2.2.2.2.1
theorem dX9_shared_31 : decode cX9_shared 31 = .ok (.ifCond .eq 5, 3) := qdX9_shared_0_24.2.2.2.2.2.2.2.2.2.2.2.2.2.2.2.1
theorem dX9_shared_34 : decode cX9_shared 34 = .ok (.iconst 0, 1) := qdX9_shared_0_24.2.2.2.2.2.2.2.2.2.2.2.2.2.2.2.2.1
theorem dX9_shared_35 : decode cX9_shared 35 = .ok (.ireturn, 1) := qdX9_shared_0_24.2.2.2.2.2.2.2.2.2.2.2.2.2.2.2.2.2.1
theorem dX9_shared_36 : decode cX9_shared 36 = .ok (.iload_n 3, 1) := qdX9_shared_0_24.2.2.2.2.2.2.2.2.2.2.2.2.2.2.2.2.2.2.1
theorem dX9_shared_37 : decode cX9_shared 37 = .ok (.ifCond .eq 15, 3) := qdX9_shared_0_24.2.2.2.2.2.2.2.2.2.2.2.2.2.2.2.2.2.2.2.1
theorem dX9_shared_40 : decode cX9_shared 40 = .ok (.iload_n 1, 1) := qdX9_shared_0_24.2.2.2.2.2.2.2.2.2.2.2.2.2.2.2.2.2.2.2.2.1
theorem dX9_shared_41 : decode cX9_shared 41 = .ok (.iload_n 1, 1) := qdX9_shared_0_24.2.2.2.2.2.2.2.2.2.2.2.2.2.2.2.2.2.2.2.2.2.1
theorem dX9_shared_42 : decode cX9_shared 42 = .ok (.iload_n 2, 1) := qdX9_shared_0_24.2.2.2.2.2.2.2.2.2.2.2.2.2.2.2.2.2.2.2.2.2.2.1
theorem dX9_shared_43 : decode cX9_shared 43 = .ok (.invokestatic 33, 3) := qdX9_shared_0_24.2.2.2.2.2.2.2.2.2.2.2.2.2.2.2.2.2.2.2.2.2.2.2.1
theorem qdX9_shared_46_8 : dcAll cX9_shared [(46, .idiv, 1), (47, .iload_n 2, 1), (48, .imul, 1), (49, .goto 8, 3), (52, .iload_n 1, 1), (53, .iload_n 2, 1), (54, .invokestatic 33, 3), (57, .ireturn, 1)] := dcAll_of (by decide +kernel)
theorem dX9_shared_46 : decode cX9_shared 46 = .ok (.idiv, 1) := qdX9_shared_46_8.1
theorem dX9_shared_47 : decode cX9_shared 47 = .ok (.iload_n 2, 1) := qdX9_shared_46_8.2.1
theorem dX9_shared_48 : decode cX9_shared 48 = .ok (.imul, 1) := qdX9_shared_46_8.2.2.1
theorem dX9_shared_49 : decode cX9_shared 49 = .ok (.goto 8, 3) := qdX9_shared_46_8.2.2.2.1
theorem dX9_shared_52 : decode cX9_shared 52 = .ok (.iload_n 1, 1) := qdX9_shared_46_8.2.2.2.2.1
theorem dX9_shared_53 : decode cX9_shared 53 = .ok (.iload_n 2, 1) := qdX9_shared_46_8.2.2.2.2.2.1
theorem dX9_shared_54 : decode cX9_shared 54 = .ok (.invokestatic 33, 3) := qdX9_shared_46_8.2.2.2.2.2.2.1
theorem dX9_shared_57 : decode cX9_shared 57 = .ok (.ireturn, 1) := qdX9_shared_46_8.2.2.2.2.2.2.2.1
theorem ggX9_divisor_X9_isIn : GoodIn wsX9_divisor wsX9_isIn := fun w h => ⟨List.mem_cons_of_mem _ (List.mem_append_left _ (List.mem_append_right _ h)), zq_X9_isIn w h⟩
set_option maxRecDepth 20000 in
theorem gX9_divisor_X9_isIn : GoodIn wsX9_divisor (va_wsS RX9 93 yX9_isIn wsX9_isIn) := goodIn_app (goodIn_r _ [1, 2, 3] rfl rfl) ggX9_divisor_X9_isIn
theorem ggX9_divisor_X9_isNo : GoodIn wsX9_divisor wsX9_isNo := fun w h => ⟨List.mem_cons_of_mem _ (List.mem_append_right _ h), zq_X9_isNo w h⟩
set_option maxRecDepth 20000 in
theorem gX9_divisor_X9_isNo : GoodIn wsX9_divisor (wsV RX9 166 RX9 yX9_isNo wsX9_isNo) := goodIn_app (goodIn_r _ [4, 5, 6, 3] rfl rfl) ggX9_divisor_X9_isNo
theorem qdX9_divisor_0_24 : dcAll cX9_divisor [(0, .aload_n 0, 1), (1, .iload_n 1, 1), (2, .iconst 1, 1), (3, .sipush 999, 3), (6, .invokestatic 93, 3), (9, .ifCond .eq 11, 3), (12, .iload_n 2, 1), (13, .ifCond .lt 7, 3), (16, .iconst 1, 1), (17, .goto 4, 3), (20, .iconst 0, 1), (21, .invokevirtual 166, 3), (24, .ifCond .eq 5, 3), (27, .iconst 0, 1), (28, .ireturn, 1), (29, .iload_n 2, 1), (30, .istore_n 3, 1), (31, .iconst 1, 1), (32, .istore 4, 2), (34, .iload 4, 2), (36, .iload_n 1, 1), (37, .if_icmp .gt 29, 3), (40, .iload_n 1, 1), (41, .iload 4, 2)] := dcAll_of (by decide +kernel)
theorem dX9_divisor_0 : decode cX9_divisor 0 = .ok (.aload_n 0, 1) := qdX9_divisor_0_24.1
theorem dX9_divisor_1 : decode cX9_divisor 1 = .ok (.iload_n 1, 1) := qdX9_divisor_0_24.2.1
theorem dX9_divisor_2 : decode cX9_divisor 2 = .ok (.iconst 1, 1) := qdX9_divisor_0_24.2.2.1
theorem dX9_divisor_3 : decode cX9_divisor 3 = .ok (.sipush 999, 3) := qdX9_divisor_0_24.2.2.2.1
theorem dX9_divisor_6 : decode cX9_divisor 6 = .ok (.invokestatic 93, 3) := qdX9_divisor_0_24.2.2.2.2.1
theorem dX9_divisor_9 : decode cX9_divisor 9 = .ok (.ifCond .eq 11, 3) := qdX9_divisor_0_24.2.2.2.2.2.1
theorem dX9_divisor_12 : decode cX9_divisor 12 = .ok (.iload_n 2, 1) := qdX9_divisor_0_24.2.2.2.2.2.2.1
theorem dX9_divisor_13 : decode cX9_divisor 13 = .ok (.ifCond .lt 7, 3) := qdX9_divisor_0_24.2.2.2.2.2.2.2.1
theorem dX9_divisor_16 : decode cX9_divisor 16 = .ok (.iconst 1, 1) := qdX9_divisor_0_24.2.2.2.2.2.2.2.2.1
theorem dX9_divisor_17 : decode cX9_divisor 17 = .ok (.goto 4, 3) := qdX9_divisor_0_24.2.2.2.2.2.2.2.2.2.1
theorem dX9_divisor_20 : decode cX9_divisor 20 = .ok (.iconst 0, 1) := qdX9_divisor_0_24.2.2.2.2.2.2.2.2.2.2.1
theorem dX9_divisor_21 : decode cX9_divisor 21 = .ok (.invokevirtual 166, 3) := qdX9_divisor_0_24.2.2.2.2.2.2.2.2.2.2.2.1
theorem dX9_divisor_24 : decode cX9_divisor 24 = .ok (.ifCond .eq 5, 3) := qdX9_divisor_0_24.2.2.2.2.2.2.2.2.2.2.2.2.1
theorem dX9_divisor_27 : decode cX9_divisor 27 = .ok (.iconst 0, 1) := qdX9_divisor_0_24.2.2.2.2.2.2.2.2.2.2.2.2.2.1
theorem dX9_divisor_28 : decode cX9_divisor 28 = .ok (.ireturn, 1) := qdX9_divisor_0_24.2.2.2.2.2.2.2.2.2.2.2.2.2.2.1
theorem dX9_divisor_29 : decode cX9_divisor 29 = .ok (.iload_n 2, 1) := qdX9_divisor_0_24.2.2.2.2.2.2.2.2.2.2.2.2.2.2.2.1
theorem dX9_divisor_30 : decode cX9_divisor 30 = .ok (.istore_n 3, 1) := qdX9_divisor_0_24.2.2.2.2.2.2.2.2.2.2.2.2.2.2.2.2.1
theorem dX9_divisor_31 : decode cX9_divisor 31 = .ok (.iconst 1, 1) := qdX9_divisor_0_24.2.2.2.2.2.2.2.2.2.2.2.2.2.2.2.2.2.1
theorem dX9_divisor_32 : decode cX9_divisor 32 = .ok (.istore 4, 2) := qdX9_divisor_0_24.2.2.2.2.2.2.2.2.2.2.2.2.2.2.2.2.2.2.1
theorem dX9_divisor_34 : decode cX9_divisor 34 = .ok (.iload 4, 2) := qdX9_divisor_0_24.2.2.2.2.2.2.2.2.2.2.2.2.2.2.2.2.2.2.2.1
theorem dX9_divisor_36 : decode cX9_divisor 36 = .ok (.iload_n 1, 1) := qdX9_divisor_0_24.2.2.2.2.2.2.2.2.2.2.2.2.2.2.2.2.2.2.2.2.1
theorem dX9_divisor_37 : decode cX9_divisor 37 = .ok (.if_icmp .gt 29, 3) := qdX9_divisor_0_24.2.2.2.2.2.2.2.2.2.2.2.2.2.2.2.2.2.2.2.2.2.1
theorem dX9_divisor_40 : decode cX9_divisor 40 = .ok (.iload_n 1, 1) := qdX9_divisor_0_24.2.2.2.2.2.2.2.2.2.2.2.2.2.2.2.2.2.2.2.2.2.2.1
theorem dX9_divisor_41 : decode cX9_divisor 41 = .ok (.iload 4, 2) := qdX9_divisor_0_24.2.2.2.2.2.2.2.2.2.2.2.2.2.2.2.2.2.2.2.2.2.2.2.1
theorem qdX9_divisor_43_12 : dcAll cX9_divisor [(43, .irem, 1), (44, .ifCond .eq 6, 3), (47, .goto 13, 3), (50, .iload_n 3, 1), (51, .ifCond .ne 6, 3), (54, .iload 4, 2), (56, .ireturn, 1), (57, .iinc 3 (-1), 3), (60, .iinc 4 1, 3), (63, .goto (-29), 3), (66, .iconst (-1), 1), (67, .ireturn, 1)] := dcAll_of (by decide +kernel)
theorem dX9_divisor_43 : decode cX9_divisor 43 = .ok (.irem, 1) := qdX9_divisor_43_12.1
theorem dX9_divisor_44 : decode cX9_divisor 44 = .ok (.ifCond .eq 6, 3) := qdX9_divisor_43_12.2.1
theorem dX9_divisor_47 : decode cX9_divisor 47 = .ok (.goto 13, 3) := qdX9_divisor_43_12.2.2.1
theorem dX9_divisor_50 : decode cX9_divisor 50 = .ok (.iload_n 3, 1) := qdX9_divisor_43_12.2.2.2.1
theorem dX9_divisor_51 : decode cX9_divisor 51 = .ok (.ifCond .ne 6, 3) := qdX9_divisor_43_12.2.2.2.2.1
theorem dX9_divisor_54 : decode cX9_divisor 54 = .ok (.iload 4, 2) := qdX9_divisor_43_12.2.2.2.2.2.1
theorem dX9_divisor_56 : decode cX9_divisor 56 = .ok (.ireturn, 1) := qdX9_divisor_43_12.2.2.2.2.2.2.1
theorem dX9_divisor_57 : decode cX9_divisor 57 = .ok (.iinc 3 (-1), 3) := qdX9_divisor_43_12.2.2.2.2.2.2.2.1
theorem dX9_divisor_60 : decode cX9_divisor 60 = .ok (.iinc 4 1, 3) := qdX9_divisor_43_12.2.2.2.2.2.2.2.2.1
theorem dX9_divisor_63 : decode cX9_divisor 63 = .ok (.goto (-29), 3) := qdX9_divisor_43_12.2.2.2.2.2.2.2.2.2.1
theorem dX9_divisor_66 : decode cX9_divisor 66 = .ok (.iconst (-1), 1) := qdX9_divisor_43_12.2.2.2.2.2.2.2.2.2.2.1
theorem dX9_divisor_67 : decode cX9_divisor 67 = .ok (.ireturn, 1) := qdX9_divisor_43_12.2.2.2.2.2.2.2.2.2.2.2.1
theorem ggX9_powers_X9_isIn : GoodIn wsX9_powers wsX9_isIn := fun w h => ⟨List.mem_cons_of_mem _ (List.mem_append_left _ (List.mem_append_left _ (List.mem_append_left _ (List.mem_append_left _ (List.mem_append_left _ (List.mem_append_left _ (List.mem_append_left _ (List.mem_append_left _ (List.mem_append_left _ (List.mem_append_right _ h)))))))))), zq_X9_isIn w h⟩
set_option maxRecDepth 20000 in
theorem gX9_powers_X9_isIn : GoodIn wsX9_powers (va_wsS RX9 93 yX9_isIn wsX9_isIn) := goodIn_app (goodIn_r _ [3, 4, 5] rfl rfl) ggX9_powers_X9_isIn
theorem ggX9_powers_X9_isNo : GoodIn wsX9_powers wsX9_isNo := fun w h => ⟨List.mem_cons_of_mem _ (List.mem_append_left _ (List.mem_append_left _ (List.mem_append_left _ (List.mem_append_left _ (List.mem_append_left _ (List.mem_append_left _ (List.mem_append_left _ (List.mem_append_left _ (List.mem_append_right _ h))))))))), zq_X9_isNo w h⟩
set_option maxRecDepth 20000 in
theorem gX9_powers_X9_isNo : GoodIn wsX9_powers (wsV RX9 166 RX9 yX9_isNo wsX9_isNo) := goodIn_app (goodIn_r _ [6, 7, 8, 5] rfl rfl) ggX9_powers_X9_isNo
theorem ggX9_powers_X9_least : GoodIn wsX9_powers wsX9_least := fun w h => ⟨List.mem_cons_of_mem _ (List.mem_append_left _ (List.mem_append_left _ (List.mem_append_left _ (List.mem_append_left _ (List.mem_append_left _ (List.mem_append_left _ (List.mem_append_left _ (List.mem_append_right _ h)))))))), zq_X9_least w h⟩
set_option maxRecDepth 20000 in
theorem gX9_powers_X9_least : GoodIn wsX9_powers (va_wsS RX9 23 yX9_least wsX9_least) := goodIn_app (goodIn_r _ [9, 10, 5] rfl rfl) ggX9_powers_X9_least
theorem ggX9_powers_J4_init_da8c8 : GoodIn wsX9_powers wsJ4_init_da8c8 := fun w h => ⟨List.mem_cons_of_mem _ (List.mem_append_left _ (List.mem_append_left _ (List.mem_append_left _ (List.mem_append_left _ (List.mem_append_left _ (List.mem_append_left _ (List.mem_append_right _ h))))))), zq_J4_init_da8c8 w h⟩
set_option maxRecDepth 20000 in
theorem gX9_powers_J4_init_da8c8 : GoodIn wsX9_powers (wsJ4_init_da8c8) := ggX9_powers_J4_init_da8c8
theorem ggX9_powers_J4_append_15ec4 : GoodIn wsX9_powers wsJ4_append_15ec4 := fun w h => ⟨List.mem_cons_of_mem _ (List.mem_append_left _ (List.mem_append_left _ (List.mem_append_left _ (List.mem_append_left _ (List.mem_append_left _ (List.mem_append_right _ h)))))), zq_J4_append_15ec4 w h⟩
set_option maxRecDepth 20000 in
theorem gX9_powers_J4_append_15ec4 : GoodIn wsX9_powers (wsV RX9 138 RJ4 yJ4_append_15ec4 wsJ4_append_15ec4) := goodIn_app (goodIn_r _ [15, 16, 17, 2] rfl rfl) ggX9_powers_J4_append_15ec4
theorem ggX9_powers_J0_isEmpty_aae02 : GoodIn wsX9_powers wsJ0_isEmpty_aae02 := fun w h => ⟨List.mem_cons_of_mem _ (List.mem_append_left _ (List.mem_append_left _ (List.mem_append_left _ (List.mem_append_left _ (List.mem_append_right _ h))))), zq_J0_isEmpty_aae02 w h⟩
set_option maxRecDepth 20000 in
theorem gX9_powers_J0_isEmpty_aae02 : GoodIn wsX9_powers (wsV RX9 170 RJ0 yJ0_isEmpty_aae02 wsJ0_isEmpty_aae02) := goodIn_app (goodIn_r _ [35, 36, 37, 29] rfl rfl) ggX9_powers_J0_isEmpty_aae02
theorem ggX9_powers_J4_append_bf812 : GoodIn wsX9_powers wsJ4_append_bf812 := fun w h => ⟨List.mem_cons_of_mem _ (List.mem_append_left _ (List.mem_append_left _ (List.mem_append_left _ (List.mem_append_right _ h)))), zq_J4_append_bf812 w h⟩
set_option maxRecDepth 20000 in
theorem gX9_powers_J4_append_bf812 : GoodIn wsX9_powers (wsV RX9 178 RJ4 yJ4_append_bf812 wsJ4_append_bf812) := goodIn_app (goodIn_r _ [38, 39, 40, 2] rfl rfl) ggX9_powers_J4_append_bf812
theorem ggX9_powers_X9_without : GoodIn wsX9_powers wsX9_without := fun w h => ⟨List.mem_cons_of_mem _ (List.mem_append_left _ (List.mem_append_left _ (List.mem_append_right _ h))), zq_X9_without w h⟩
set_option maxRecDepth 20000 in
theorem gX9_powers_X9_without : GoodIn wsX9_powers (va_wsS RX9 65 yX9_without wsX9_without) := goodIn_app (goodIn_r _ [43, 44, 5] rfl rfl) ggX9_powers_X9_without
theorem ggX9_powers_X9_all : GoodIn wsX9_powers wsX9_all := fun w h => ⟨List.mem_cons_of_mem _ (List.mem_append_left _ (List.mem_append_right _ h)), zq_X9_all w h⟩
set_option maxRecDepth 20000 in
theorem gX9_powers_X9_all : GoodIn wsX9_powers (va_wsS RX9 30 yX9_all wsX9_all) := goodIn_app (goodIn_r _ [45, 46, 5] rfl rfl) ggX9_powers_X9_all
theorem ggX9_powers_J4_toString_0e30d : GoodIn wsX9_powers wsJ4_toString_0e30d := fun w h => ⟨List.mem_cons_of_mem _ (List.mem_append_right _ h), zq_J4_toString_0e30d w h⟩
set_option maxRecDepth 20000 in
theorem gX9_powers_J4_toString_0e30d : GoodIn wsX9_powers (wsV RX9 145 RJ4 yJ4_toString_0e30d wsJ4_toString_0e30d) := goodIn_app (goodIn_r _ [47, 48, 49, 2] rfl rfl) ggX9_powers_J4_toString_0e30d
theorem qdX9_powers_0_24 : dcAll cX9_powers [(0, .aload_n 0, 1), (1, .iload_n 1, 1), (2, .iconst 1, 1), (3, .sipush 999, 3), (6, .invokestatic 93, 3), (9, .invokevirtual 166, 3), (12, .ifCond .eq 6, 3), (15, .ldc 133, 2), (17, .areturn, 1), (18, .ldc 133, 2), (20, .astore_n 2, 1), (21, .iload_n 1, 1), (22, .istore_n 3, 1), (23, .iload_n 3, 1), (24, .iconst 1, 1), (25, .if_icmp .le 77, 3), (28, .iload_n 3, 1), (29, .invokestatic 23, 3), (32, .istore 4, 2), (34, .new 135, 3), (37, .dup, 1), (38, .invokespecial 137, 3), (41, .aload_n 2, 1), (42, .invokevirtual 138, 3)] := dcAll_of (by decide +kernel)
theorem dX9_powers_0 : decode cX9_powers 0 = .ok (.aload_n 0, 1) := qdX9_powers_0_24.1
theorem dX9_powers_1 : decode cX9_powers 1 = .ok (.iload_n 1, 1) := qdX9_powers_0_24.2.1
theorem dX9_powers_2 : decode cX9_powers 2 = .ok (.iconst 1, 1) := qdX9_powers_0_24.2.2.1
theorem dX9_powers_3 : decode cX9_powers 3 = .ok (.sipush 999, 3) := qdX9_powers_0_24.2.2.2.1
theorem dX9_powers_6 : decode cX9_powers 6 = .ok (.invokestatic 93, 3) := qdX9_powers_0_24.2.2.2.2.1
theorem dX9_powers_9 : decode cX9_powers 9 = .ok (.invokevirtual 166, 3) := qdX9_powers_0_24.2.2.2.2.2.1
theorem dX9_powers_12 : decode cX9_powers 12 = .ok (.ifCond .eq 6, 3) := qdX9_powers_0_24.2.2.2.2.2.2.1
theorem dX9_powers_15 : decode cX9_powers 15 = .ok (.ldc 133, 2) := qdX9_powers_0_24.2.2.2.2.2.2.2.1
theorem dX9_powers_17 : decode cX9_powers 17 = .ok (.areturn, 1) := qdX9_powers_0_24.2.2.2.2.2.2.2.2.1
theorem dX9_powers_18 : decode cX9_powers 18 = .ok (.ldc 133, 2) := qdX9_powers_0_24.2.2.2.2.2.2.2.2.2.1
theorem dX9_powers_20 : decode cX9_powers 20 = .ok (.astore_n 2, 1) := qdX9_powers_0_24.2.2.2.2.2.2.2.2.2.2.1
theorem dX9_powers_21 : decode cX9_powers 21 = .ok (.iload_n 1, 1) := qdX9_powers_0_24.2.2.2.2.2.2.2.2.2.2.2.1
theorem dX9_powers_22 : decode cX9_powers 22 = .ok (.istore_n 3, 1) := qdX9_powers_0_24.2.2.2.2.2.2.2.2.2.2.2.2.1
theorem dX9_powers_23 : decode cX9_powers 23 = .ok (.iload_n 3, 1) := qdX9_powers_0_24.2.2.2.2.2.2.2.2.2.2.2.2.2.1
theorem dX9_powers_24 : decode cX9_powers 24 = .ok (.iconst 1, 1) := qdX9_powers_0_24.2.2.2.2.2.2.2.2.2.2.2.2.2.2.1
theorem dX9_powers_25 : decode cX9_powers 25 = .ok (.if_icmp .le 77, 3) := qdX9_powers_0_24.2.2.2.2.2.2.2.2.2.2.2.2.2.2.2.1
theorem dX9_powers_28 : decode cX9_powers 28 = .ok (.iload_n 3, 1) := qdX9_powers_0_24.2.2.2.2.2.2.2.2.2.2.2.2.2.2.2.2.1
theorem dX9_powers_29 : decode cX9_powers 29 = .ok (.invokestatic 23, 3) := qdX9_powers_0_24.2.2.2.2.2.2.2.2.2.2.2.2.2.2.2.2.2.1
theorem dX9_powers_32 : decode cX9_powers 32 = .ok (.istore 4, 2) := qdX9_powers_0_24.2.2.2.2.2.2.2.2.2.2.2.2.2.2.2.2.2.2.1
theorem dX9_powers_34 : decode cX9_powers 34 = .ok (.new 135, 3) := qdX9_powers_0_24.2.2.2.2.2.2.2.2.2.2.2.2.2.2.2.2.2.2.2.1
theorem dX9_powers_37 : decode cX9_powers 37 = .ok (.dup, 1) := qdX9_powers_0_24.2.2.2.2.2.2.2.2.2.2.2.2.2.2.2.2.2.2.2.2.1
theorem dX9_powers_38 : decode cX9_powers 38 = .ok (.invokespecial 137, 3) := qdX9_powers_0_24.2.2.2.2.2.2.2.2.2.2.2.2.2.2.2.2.2.2.2.2.2.1
theorem dX9_powers_41 : decode cX9_powers 41 = .ok (.aload_n 2, 1) := qdX9_powers_0_24.2.2.2.2.2.2.2.2.2.2.2.2.2.2.2.2.2.2.2.2.2.2.1
theorem dX9_powers_42 : decode cX9_powers 42 = .ok (.invokevirtual 138, 3) := qdX9_powers_0_24.2.2.2.2.2.2.2.2.2.2.2.2.2.2.2.2.2.2.2.2.2.2.2.1
theorem qdX9_powers_45_24 : dcAll cX9_powers [(45, .aload_n 2, 1), (46, .invokevirtual 170, 3), (49, .ifCond .eq 8, 3), (52, .ldc 133, 2), (54, .goto 5, 3), (57, .ldc 176, 2), (59, .invokevirtual 138, 3), (62, .iload 4, 2), (64, .invokevirtual 178, 3), (67, .ldc 181, 2), (69, .invokevirtual 138, 3), (72, .iload_n 3, 1), (73, .iload_n 3, 1), (74, .iload 4, 2), (76, .invokestatic 65, 3), (79, .idiv, 1), (80, .invokestatic 30, 3), (83, .invokevirtual 178, 3), (86, .invokevirtual 145, 3), (89, .astore_n 2, 1), (90, .iload_n 3, 1), (91, .iload_n 3, 1), (92, .invokestatic 23, 3), (95, .invokestatic 65, 3)] := dcAll_of (by decide +kernel)
theorem dX9_powers_45 : decode cX9_powers 45 = .ok (.aload_n 2, 1) := qdX9_powers_45_24.1
theorem dX9_powers_46 : decode cX9_powers 46 = .ok (.invokevirtual 170, 3) := qdX9_powers_45_24.2.1
theorem dX9_powers_49 : decode cX9_powers 49 = .ok (.ifCond .eq 8, 3) := qdX9_powers_45_24.2.2.1
theorem dX9_powers_52 : decode cX9_powers 52 = .ok (.ldc 133, 2) := qdX9_powers_45_24.2.2.2.1
theorem dX9_powers_54 : decode cX9_powers 54 = .ok (.goto 5, 3) := qdX9_powers_45_24.2.2.2.2.1
theorem dX9_powers_57 : decode cX9_powers 57 = .ok (.ldc 176, 2) := qdX9_powers_45_24.2.2.2.2.2.1
theorem dX9_powers_59 : decode cX9_powers 59 = .ok (.invokevirtual 138, 3) := qdX9_powers_45_24.2.2.2.2.2.2.1
theorem dX9_powers_62 : decode cX9_powers 62 = .ok (.iload 4, 2) := qdX9_powers_45_24.2.2.2.2.2.2.2.1
theorem dX9_powers_64 : decode cX9_powers 64 = .ok (.invokevirtual 178, 3) := qdX9_powers_45_24.2.2.2.2.2.2.2.2.1
theorem dX9_powers_67 : decode cX9_powers 67 = .ok (.ldc 181, 2) := qdX9_powers_45_24.2.2.2.2.2.2.2.2.2.1
theorem dX9_powers_69 : decode cX9_powers 69 = .ok (.invokevirtual 138, 3) := qdX9_powers_45_24.2.2.2.2.2.2.2.2.2.2.1
theorem dX9_powers_72 : decode cX9_powers 72 = .ok (.iload_n 3, 1) := qdX9_powers_45_24.2.2.2.2.2.2.2.2.2.2.2.1
theorem dX9_powers_73 : decode cX9_powers 73 = .ok (.iload_n 3, 1) := qdX9_powers_45_24.2.2.2.2.2.2.2.2.2.2.2.2.1
theorem dX9_powers_74 : decode cX9_powers 74 = .ok (.iload 4, 2) := qdX9_powers_45_24.2.2.2.2.2.2.2.2.2.2.2.2.2.1
theorem dX9_powers_76 : decode cX9_powers 76 = .ok (.invokestatic 65, 3) := qdX9_powers_45_24.2.2.2.2.2.2.2.2.2.2.2.2.2.2.1
theorem dX9_powers_79 : decode cX9_powers 79 = .ok (.idiv, 1) := qdX9_powers_45_24.2.2.2.2.2.2.2.2.2.2.2.2.2.2.2.1
theorem dX9_powers_80 : decode cX9_powers 80 = .ok (.invokestatic 30, 3) := qdX9_powers_45_24.2.2.2.2.2.2.2.2.2.2.2.2.2.2.2.2.1
theorem dX9_powers_83 : decode cX9_powers 83 = .ok (.invokevirtual 178, 3) := qdX9_powers_45_24.2.2.2.2.2.2.2.2.2.2.2.2.2.2.2.2.2.1
theorem dX9_powers_86 : decode cX9_powers 86 = .ok (.invokevirtual 145, 3) := qdX9_powers_45_24.2.2.2.2.2.2.2.2.2.2.2.2.2.2.2.2.2.2.1
theorem dX9_powers_89 : decode cX9_powers 89 = .ok (.astore_n 2, 1) := qdX9_powers_45_24.2.2.2.2.2.2.2.2.2.2.2.2.2.2.2.2.2.2.2.1
theorem dX9_powers_90 : decode cX9_powers 90 = .ok (.iload_n 3, 1) := qdX9_powers_45_24.2.2.2.2.2.2.2.2.2.2.2.2.2.2.2.2.2.2.2.2.1
theorem dX9_powers_91 : decode cX9_powers 91 = .ok (.iload_n 3, 1) := qdX9_powers_45_24.2.2.2.2.2.2.2.2.2.2.2.2.2.2.2.2.2.2.2.2.2.1
theorem dX9_powers_92 : decode cX9_powers 92 = .ok (.invokestatic 23, 3) := qdX9_powers_45_24.2.2.2.2.2.2.2.2.2.2.2.2.2.2.2.2.2.2.2.2.2.2.1
theorem dX9_powers_95 : decode cX9_powers 95 = .ok (.invokestatic 65, 3) := qdX9_powers_45_24.2.2.2.2.2.2.2.2.2.2.2.2.2.2.2.2.2.2.2.2.2.2.2.1
theorem qdX9_powers_98_4 : dcAll cX9_powers [(98, .istore_n 3, 1), (99, .goto (-76), 3), (102, .aload_n 2, 1), (103, .areturn, 1)] := dcAll_of (by decide +kernel)
theorem dX9_powers_98 : decode cX9_powers 98 = .ok (.istore_n 3, 1) := qdX9_powers_98_4.1
theorem dX9_powers_99 : decode cX9_powers 99 = .ok (.goto (-76), 3) := qdX9_powers_98_4.2.1
theorem dX9_powers_102 : decode cX9_powers 102 = .ok (.aload_n 2, 1) := qdX9_powers_98_4.2.2.1
theorem dX9_powers_103 : decode cX9_powers 103 = .ok (.areturn, 1) := qdX9_powers_98_4.2.2.2.1
theorem ggX9_house_X9_isIn : GoodIn wsX9_house wsX9_isIn := fun w h => ⟨List.mem_cons_of_mem _ (List.mem_append_left _ (List.mem_append_right _ h)), zq_X9_isIn w h⟩
set_option maxRecDepth 20000 in
theorem gX9_house_X9_isIn : GoodIn wsX9_house (va_wsS RX9 93 yX9_isIn wsX9_isIn) := goodIn_app (goodIn_r _ [4, 5, 6] rfl rfl) ggX9_house_X9_isIn
theorem ggX9_house_X9_isNo : GoodIn wsX9_house wsX9_isNo := fun w h => ⟨List.mem_cons_of_mem _ (List.mem_append_right _ h), zq_X9_isNo w h⟩
set_option maxRecDepth 20000 in
theorem gX9_house_X9_isNo : GoodIn wsX9_house (wsV RX9 166 RX9 yX9_isNo wsX9_isNo) := goodIn_app (goodIn_r _ [7, 8, 9, 6] rfl rfl) ggX9_house_X9_isNo
theorem qdX9_house_0_23 : dcAll cX9_house [(0, .aload_n 0, 1), (1, .iload_n 1, 1), (2, .iconst 0, 1), (3, .iconst 2, 1), (4, .invokestatic 93, 3), (7, .invokevirtual 166, 3), (10, .ifCond .eq 5, 3), (13, .iconst 0, 1), (14, .ireturn, 1), (15, .iload_n 1, 1), (16, .ifCond .ne 10, 3), (19, .aload_n 0, 1), (20, .getfield 79, 3), (23, .goto 19, 3), (26, .iload_n 1, 1), (27, .iconst 1, 1), (28, .if_icmp .ne 10, 3), (31, .aload_n 0, 1), (32, .getfield 86, 3), (35, .goto 7, 3), (38, .aload_n 0, 1), (39, .getfield 183, 3), (42, .ireturn, 1)] := dcAll_of (by decide +kernel)
theorem dX9_house_0 : decode cX9_house 0 = .ok (.aload_n 0, 1) := qdX9_house_0_23.1
theorem dX9_house_1 : decode cX9_house 1 = .ok (.iload_n 1, 1) := qdX9_house_0_23.2.1
theorem dX9_house_2 : decode cX9_house 2 = .ok (.iconst 0, 1) := qdX9_house_0_23.2.2.1
theorem dX9_house_3 : decode cX9_house 3 = .ok (.iconst 2, 1) := qdX9_house_0_23.2.2.2.1
theorem dX9_house_4 : decode cX9_house 4 = .ok (.invokestatic 93, 3) := qdX9_house_0_23.2.2.2.2.1
theorem dX9_house_7 : decode cX9_house 7 = .ok (.invokevirtual 166, 3) := qdX9_house_0_23.2.2.2.2.2.1
theorem dX9_house_10 : decode cX9_house 10 = .ok (.ifCond .eq 5, 3) := qdX9_house_0_23.2.2.2.2.2.2.1
theorem dX9_house_13 : decode cX9_house 13 = .ok (.iconst 0, 1) := qdX9_house_0_23.2.2.2.2.2.2.2.1
theorem dX9_house_14 : decode cX9_house 14 = .ok (.ireturn, 1) := qdX9_house_0_23.2.2.2.2.2.2.2.2.1
theorem dX9_house_15 : decode cX9_house 15 = .ok (.iload_n 1, 1) := qdX9_house_0_23.2.2.2.2.2.2.2.2.2.1
theorem dX9_house_16 : decode cX9_house 16 = .ok (.ifCond .ne 10, 3) := qdX9_house_0_23.2.2.2.2.2.2.2.2.2.2.1
theorem dX9_house_19 : decode cX9_house 19 = .ok (.aload_n 0, 1) := qdX9_house_0_23.2.2.2.2.2.2.2.2.2.2.2.1
theorem dX9_house_20 : decode cX9_house 20 = .ok (.getfield 79, 3) := qdX9_house_0_23.2.2.2.2.2.2.2.2.2.2.2.2.1
theorem dX9_house_23 : decode cX9_house 23 = .ok (.goto 19, 3) := qdX9_house_0_23.2.2.2.2.2.2.2.2.2.2.2.2.2.1
theorem dX9_house_26 : decode cX9_house 26 = .ok (.iload_n 1, 1) := qdX9_house_0_23.2.2.2.2.2.2.2.2.2.2.2.2.2.2.1
theorem dX9_house_27 : decode cX9_house 27 = .ok (.iconst 1, 1) := qdX9_house_0_23.2.2.2.2.2.2.2.2.2.2.2.2.2.2.2.1
theorem dX9_house_28 : decode cX9_house 28 = .ok (.if_icmp .ne 10, 3) := qdX9_house_0_23.2.2.2.2.2.2.2.2.2.2.2.2.2.2.2.2.1
theorem dX9_house_31 : decode cX9_house 31 = .ok (.aload_n 0, 1) := qdX9_house_0_23.2.2.2.2.2.2.2.2.2.2.2.2.2.2.2.2.2.1
theorem dX9_house_32 : decode cX9_house 32 = .ok (.getfield 86, 3) := qdX9_house_0_23.2.2.2.2.2.2.2.2.2.2.2.2.2.2.2.2.2.2.1
theorem dX9_house_35 : decode cX9_house 35 = .ok (.goto 7, 3) := qdX9_house_0_23.2.2.2.2.2.2.2.2.2.2.2.2.2.2.2.2.2.2.2.1
theorem dX9_house_38 : decode cX9_house 38 = .ok (.aload_n 0, 1) := qdX9_house_0_23.2.2.2.2.2.2.2.2.2.2.2.2.2.2.2.2.2.2.2.2.1
theorem dX9_house_39 : decode cX9_house 39 = .ok (.getfield 183, 3) := qdX9_house_0_23.2.2.2.2.2.2.2.2.2.2.2.2.2.2.2.2.2.2.2.2.2.1
theorem dX9_house_42 : decode cX9_house 42 = .ok (.ireturn, 1) := qdX9_house_0_23.2.2.2.2.2.2.2.2.2.2.2.2.2.2.2.2.2.2.2.2.2.2.1
theorem qdX9_knock_0_12 : dcAll cX9_knock [(0, .aload_n 0, 1), (1, .iconst 0, 1), (2, .putfield 13, 3), (5, .aload_n 0, 1), (6, .dup, 1), (7, .getfield 183, 3), (10, .iconst 1, 1), (11, .iadd, 1), (12, .putfield 183, 3), (15, .aload_n 0, 1), (16, .getfield 183, 3), (19, .ireturn, 1)] := dcAll_of (by decide +kernel)
theorem dX9_knock_0 : decode cX9_knock 0 = .ok (.aload_n 0, 1) := qdX9_knock_0_12.1
theorem dX9_knock_1 : decode cX9_knock 1 = .ok (.iconst 0, 1) := qdX9_knock_0_12.2.1
theorem dX9_knock_2 : decode cX9_knock 2 = .ok (.putfield 13, 3) := qdX9_knock_0_12.2.2.1
theorem dX9_knock_5 : decode cX9_knock 5 = .ok (.aload_n 0, 1) := qdX9_knock_0_12.2.2.2.1
theorem dX9_knock_6 : decode cX9_knock 6 = .ok (.dup, 1) := qdX9_knock_0_12.2.2.2.2.1
theorem dX9_knock_7 : decode cX9_knock 7 = .ok (.getfield 183, 3) := qdX9_knock_0_12.2.2.2.2.2.1
theorem dX9_knock_10 : decode cX9_knock 10 = .ok (.iconst 1, 1) := qdX9_knock_0_12.2.2.2.2.2.2.1
theorem dX9_knock_11 : decode cX9_knock 11 = .ok (.iadd, 1) := qdX9_knock_0_12.2.2.2.2.2.2.2.1
theorem dX9_knock_12 : decode cX9_knock 12 = .ok (.putfield 183, 3) := qdX9_knock_0_12.2.2.2.2.2.2.2.2.1
theorem dX9_knock_15 : decode cX9_knock 15 = .ok (.aload_n 0, 1) := qdX9_knock_0_12.2.2.2.2.2.2.2.2.2.1
theorem dX9_knock_16 : decode cX9_knock 16 = .ok (.getfield 183, 3) := qdX9_knock_0_12.2.2.2.2.2.2.2.2.2.2.1
theorem dX9_knock_19 : decode cX9_knock 19 = .ok (.ireturn, 1) := qdX9_knock_0_12.2.2.2.2.2.2.2.2.2.2.2.1
theorem qdX9_isSound_0_5 : dcAll cX9_isSound [(0, .aload_n 0, 1), (1, .iconst 0, 1), (2, .putfield 13, 3), (5, .iconst 1, 1), (6, .ireturn, 1)] := dcAll_of (by decide +kernel)
theorem dX9_isSound_0 : decode cX9_isSound 0 = .ok (.aload_n 0, 1) := qdX9_isSound_0_5.1
theorem dX9_isSound_1 : decode cX9_isSound 1 = .ok (.iconst 0, 1) := qdX9_isSound_0_5.2.1
theorem dX9_isSound_2 : decode cX9_isSound 2 = .ok (.putfield 13, 3) := qdX9_isSound_0_5.2.2.1
theorem dX9_isSound_5 : decode cX9_isSound 5 = .ok (.iconst 1, 1) := qdX9_isSound_0_5.2.2.2.1
theorem dX9_isSound_6 : decode cX9_isSound 6 = .ok (.ireturn, 1) := qdX9_isSound_0_5.2.2.2.2.1
theorem ggX9_digest_X9_at : GoodIn wsX9_digest wsX9_at := fun w h => ⟨List.mem_cons_of_mem _ (List.mem_append_right _ h), zq_X9_at w h⟩
set_option maxRecDepth 20000 in
theorem gX9_digest_X9_at : GoodIn wsX9_digest (wsV RX9 75 RX9 yX9_at wsX9_at) := goodIn_app (goodIn_r _ [7, 8, 9, 10] rfl rfl) ggX9_digest_X9_at
theorem qdX9_digest_0_24 : dcAll cX9_digest [(0, .aload_n 0, 1), (1, .iconst 0, 1), (2, .putfield 13, 3), (5, .ldc2_w 186, 3), (8, .lstore_n 1, 1), (9, .iconst 0, 1), (10, .istore_n 3, 1), (11, .iload_n 3, 1), (12, .iconst 4, 1), (13, .if_icmp .ge 39, 3), (16, .iconst 1, 1), (17, .istore 4, 2), (19, .iload 4, 2), (21, .bipush 120, 2), (23, .if_icmp .gt 23, 3), (26, .lload_n 1, 1), (27, .ldc2_w 188, 3), (30, .lmul, 1), (31, .aload_n 0, 1), (32, .iload_n 3, 1), (33, .iload 4, 2), (35, .invokevirtual 75, 3), (38, .ladd, 1), (39, .lstore_n 1, 1)] := dcAll_of (by decide +kernel)
theorem dX9_digest_0 : decode cX9_digest 0 = .ok (.aload_n 0, 1) := qdX9_digest_0_24.1
theorem dX9_digest_1 : decode cX9_digest 1 = .ok (.iconst 0, 1) := qdX9_digest_0_24.2.1
theorem dX9_digest_2 : decode cX9_digest 2 = .ok (.putfield 13, 3) := qdX9_digest_0_24.2.2.1
theorem dX9_digest_5 : decode cX9_digest 5 = .ok (.ldc2_w 186, 3) := qdX9_digest_0_24.2.2.2.1
theorem dX9_digest_8 : decode cX9_digest 8 = .ok (.lstore_n 1, 1) := qdX9_digest_0_24.2.2.2.2.1
theorem dX9_digest_9 : decode cX9_digest 9 = .ok (.iconst 0, 1) := qdX9_digest_0_24.2.2.2.2.2.1
theorem dX9_digest_10 : decode cX9_digest 10 = .ok (.istore_n 3, 1) := qdX9_digest_0_24.2.2.2.2.2.2.1
theorem dX9_digest_11 : decode cX9_digest 11 = .ok (.iload_n 3, 1) := qdX9_digest_0_24.2.2.2.2.2.2.2.1
theorem dX9_digest_12 : decode cX9_digest 12 = .ok (.iconst 4, 1) := qdX9_digest_0_24.2.2.2.2.2.2.2.2.1
theorem dX9_digest_13 : decode cX9_digest 13 = .ok (.if_icmp .ge 39, 3) := qdX9_digest_0_24.2.2.2.2.2.2.2.2.2.1
theorem dX9_digest_16 : decode cX9_digest 16 = .ok (.iconst 1, 1) := qdX9_digest_0_24.2.2.2.2.2.2.2.2.2.2.1
theorem dX9_digest_17 : decode cX9_digest 17 = .ok (.istore 4, 2) := qdX9_digest_0_24.2.2.2.2.2.2.2.2.2.2.2.1
theorem dX9_digest_19 : decode cX9_digest 19 = .ok (.iload 4, 2) := qdX9_digest_0_24.2.2.2.2.2.2.2.2.2.2.2.2.1
theorem dX9_digest_21 : decode cX9_digest 21 = .ok (.bipush 120, 2) := qdX9_digest_0_24.2.2.2.2.2.2.2.2.2.2.2.2.2.1
theorem dX9_digest_23 : decode cX9_digest 23 = .ok (.if_icmp .gt 23, 3) := qdX9_digest_0_24.2.2.2.2.2.2.2.2.2.2.2.2.2.2.1
theorem dX9_digest_26 : decode cX9_digest 26 = .ok (.lload_n 1, 1) := qdX9_digest_0_24.2.2.2.2.2.2.2.2.2.2.2.2.2.2.2.1
theorem dX9_digest_27 : decode cX9_digest 27 = .ok (.ldc2_w 188, 3) := qdX9_digest_0_24.2.2.2.2.2.2.2.2.2.2.2.2.2.2.2.2.1
theorem dX9_digest_30 : decode cX9_digest 30 = .ok (.lmul, 1) := qdX9_digest_0_24.2.2.2.2.2.2.2.2.2.2.2.2.2.2.2.2.2.1
theorem dX9_digest_31 : decode cX9_digest 31 = .ok (.aload_n 0, 1) := qdX9_digest_0_24.2.2.2.2.2.2.2.2.2.2.2.2.2.2.2.2.2.2.1
theorem dX9_digest_32 : decode cX9_digest 32 = .ok (.iload_n 3, 1) := qdX9_digest_0_24.2.2.2.2.2.2.2.2.2.2.2.2.2.2.2.2.2.2.2.1
theorem dX9_digest_33 : decode cX9_digest 33 = .ok (.iload 4, 2) := qdX9_digest_0_24.2.2.2.2.2.2.2.2.2.2.2.2.2.2.2.2.2.2.2.2.1
theorem dX9_digest_35 : decode cX9_digest 35 = .ok (.invokevirtual 75, 3) := qdX9_digest_0_24.2.2.2.2.2.2.2.2.2.2.2.2.2.2.2.2.2.2.2.2.2.1
theorem dX9_digest_38 : decode cX9_digest 38 = .ok (.ladd, 1) := qdX9_digest_0_24.2.2.2.2.2.2.2.2.2.2.2.2.2.2.2.2.2.2.2.2.2.2.1
theorem dX9_digest_39 : decode cX9_digest 39 = .ok (.lstore_n 1, 1) := qdX9_digest_0_24.2.2.2.2.2.2.2.2.2.2.2.2.2.2.2.2.2.2.2.2.2.2.2.1
theorem qdX9_digest_40_24 : dcAll cX9_digest [(40, .iinc 4 1, 3), (43, .goto (-24), 3), (46, .iinc 3 1, 3), (49, .goto (-38), 3), (52, .lload_n 1, 1), (53, .ldc2_w 188, 3), (56, .lmul, 1), (57, .aload_n 0, 1), (58, .getfield 79, 3), (61, .i2l, 1), (62, .ladd, 1), (63, .ldc2_w 188, 3), (66, .lmul, 1), (67, .aload_n 0, 1), (68, .getfield 86, 3), (71, .i2l, 1), (72, .ladd, 1), (73, .ldc2_w 188, 3), (76, .lmul, 1), (77, .aload_n 0, 1), (78, .getfield 183, 3), (81, .i2l, 1), (82, .ladd, 1), (83, .lstore_n 1, 1)] := dcAll_of (by decide +kernel)
theorem dX9_digest_40 : decode cX9_digest 40 = .ok (.iinc 4 1, 3) := qdX9_digest_40_24.1
theorem dX9_digest_43 : decode cX9_digest 43 = .ok (.goto (-24), 3) := qdX9_digest_40_24.2.1
theorem dX9_digest_46 : decode cX9_digest 46 = .ok (.iinc 3 1, 3) := qdX9_digest_40_24.2.2.1
theorem dX9_digest_49 : decode cX9_digest 49 = .ok (.goto (-38), 3) := qdX9_digest_40_24.2.2.2.1
theorem dX9_digest_52 : decode cX9_digest 52 = .ok (.lload_n 1, 1) := qdX9_digest_40_24.2.2.2.2.1
theorem dX9_digest_53 : decode cX9_digest 53 = .ok (.ldc2_w 188, 3) := qdX9_digest_40_24.2.2.2.2.2.1
theorem dX9_digest_56 : decode cX9_digest 56 = .ok (.lmul, 1) := qdX9_digest_40_24.2.2.2.2.2.2.1
theorem dX9_digest_57 : decode cX9_digest 57 = .ok (.aload_n 0, 1) := qdX9_digest_40_24.2.2.2.2.2.2.2.1
theorem dX9_digest_58 : decode cX9_digest 58 = .ok (.getfield 79, 3) := qdX9_digest_40_24.2.2.2.2.2.2.2.2.1
theorem dX9_digest_61 : decode cX9_digest 61 = .ok (.i2l, 1) := qdX9_digest_40_24.2.2.2.2.2.2.2.2.2.1
theorem dX9_digest_62 : decode cX9_digest 62 = .ok (.ladd, 1) := qdX9_digest_40_24.2.2.2.2.2.2.2.2.2.2.1
theorem dX9_digest_63 : decode cX9_digest 63 = .ok (.ldc2_w 188, 3) := qdX9_digest_40_24.2.2.2.2.2.2.2.2.2.2.2.1
theorem dX9_digest_66 : decode cX9_digest 66 = .ok (.lmul, 1) := qdX9_digest_40_24.2.2.2.2.2.2.2.2.2.2.2.2.1
theorem dX9_digest_67 : decode cX9_digest 67 = .ok (.aload_n 0, 1) := qdX9_digest_40_24.2.2.2.2.2.2.2.2.2.2.2.2.2.1
theorem dX9_digest_68 : decode cX9_digest 68 = .ok (.getfield 86, 3) := qdX9_digest_40_24.2.2.2.2.2.2.2.2.2.2.2.2.2.2.1
theorem dX9_digest_71 : decode cX9_digest 71 = .ok (.i2l, 1) := qdX9_digest_40_24.2.2.2.2.2.2.2.2.2.2.2.2.2.2.2.1
theorem dX9_digest_72 : decode cX9_digest 72 = .ok (.ladd, 1) := qdX9_digest_40_24.2.2.2.2.2.2.2.2.2.2.2.2.2.2.2.2.1
theorem dX9_digest_73 : decode cX9_digest 73 = .ok (.ldc2_w 188, 3) := qdX9_digest_40_24.2.2.2.2.2.2.2.2.2.2.2.2.2.2.2.2.2.1
theorem dX9_digest_76 : decode cX9_digest 76 = .ok (.lmul, 1) := qdX9_digest_40_24.2.2.2.2.2.2.2.2.2.2.2.2.2.2.2.2.2.2.1
theorem dX9_digest_77 : decode cX9_digest 77 = .ok (.aload_n 0, 1) := qdX9_digest_40_24.2.2.2.2.2.2.2.2.2.2.2.2.2.2.2.2.2.2.2.1
theorem dX9_digest_78 : decode cX9_digest 78 = .ok (.getfield 183, 3) := qdX9_digest_40_24.2.2.2.2.2.2.2.2.2.2.2.2.2.2.2.2.2.2.2.2.1
theorem dX9_digest_81 : decode cX9_digest 81 = .ok (.i2l, 1) := qdX9_digest_40_24.2.2.2.2.2.2.2.2.2.2.2.2.2.2.2.2.2.2.2.2.2.1
theorem dX9_digest_82 : decode cX9_digest 82 = .ok (.ladd, 1) := qdX9_digest_40_24.2.2.2.2.2.2.2.2.2.2.2.2.2.2.2.2.2.2.2.2.2.2.1
theorem dX9_digest_83 : decode cX9_digest 83 = .ok (.lstore_n 1, 1) := qdX9_digest_40_24.2.2.2.2.2.2.2.2.2.2.2.2.2.2.2.2.2.2.2.2.2.2.2.1
theorem qdX9_digest_84_6 : dcAll cX9_digest [(84, .lload_n 1, 1), (85, .ldc2_w 188, 3), (88, .lmul, 1), (89, .lconst 1, 1), (90, .ladd, 1), (91, .lreturn, 1)] := dcAll_of (by decide +kernel)
theorem dX9_digest_84 : decode cX9_digest 84 = .ok (.lload_n 1, 1) := qdX9_digest_84_6.1
theorem dX9_digest_85 : decode cX9_digest 85 = .ok (.ldc2_w 188, 3) := qdX9_digest_84_6.2.1
theorem dX9_digest_88 : decode cX9_digest 88 = .ok (.lmul, 1) := qdX9_digest_84_6.2.2.1
theorem dX9_digest_89 : decode cX9_digest 89 = .ok (.lconst 1, 1) := qdX9_digest_84_6.2.2.2.1
theorem dX9_digest_90 : decode cX9_digest 90 = .ok (.ladd, 1) := qdX9_digest_84_6.2.2.2.2.1
theorem dX9_digest_91 : decode cX9_digest 91 = .ok (.lreturn, 1) := qdX9_digest_84_6.2.2.2.2.2.1
