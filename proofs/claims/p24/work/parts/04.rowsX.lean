theorem qdX0_init_0_9 : dcAll cX0_init [(0, .aload_n 0, 1), (1, .invokespecial 3, 3), (4, .aload_n 0, 1), (5, .aload_n 1, 1), (6, .putfield 9, 3), (9, .aload_n 0, 1), (10, .aload_n 2, 1), (11, .putfield 15, 3), (14, .return_, 1)] := dcAll_of (by decide +kernel)
theorem dX0_init_0 : decode cX0_init 0 = .ok (.aload_n 0, 1) := qdX0_init_0_9.1
theorem dX0_init_1 : decode cX0_init 1 = .ok (.invokespecial 3, 3) := qdX0_init_0_9.2.1
theorem dX0_init_4 : decode cX0_init 4 = .ok (.aload_n 0, 1) := qdX0_init_0_9.2.2.1
theorem dX0_init_5 : decode cX0_init 5 = .ok (.aload_n 1, 1) := qdX0_init_0_9.2.2.2.1
theorem dX0_init_6 : decode cX0_init 6 = .ok (.putfield 9, 3) := qdX0_init_0_9.2.2.2.2.1
theorem dX0_init_9 : decode cX0_init 9 = .ok (.aload_n 0, 1) := qdX0_init_0_9.2.2.2.2.2.1
theorem dX0_init_10 : decode cX0_init 10 = .ok (.aload_n 2, 1) := qdX0_init_0_9.2.2.2.2.2.2.1
theorem dX0_init_11 : decode cX0_init 11 = .ok (.putfield 15, 3) := qdX0_init_0_9.2.2.2.2.2.2.2.1
theorem dX0_init_14 : decode cX0_init 14 = .ok (.return_, 1) := qdX0_init_0_9.2.2.2.2.2.2.2.2.1
theorem ggX0_layMet_X3_begin : GoodIn wsX0_layMet wsX3_begin := fun w h => ⟨List.mem_cons_of_mem _ (List.mem_append_left _ (List.mem_append_left _ (List.mem_append_left _ (List.mem_append_left _ (List.mem_append_left _ (List.mem_append_left _ (List.mem_append_right _ h))))))), zq_X3_begin w h⟩
set_option maxRecDepth 20000 in
theorem gX0_layMet_X3_begin : GoodIn wsX0_layMet (wsV RX0 19 RX3 yX3_begin wsX3_begin) := goodIn_app (goodIn_r _ [2, 3, 4, 5] rfl rfl) ggX0_layMet_X3_begin
theorem ggX0_layMet_X4_at : GoodIn wsX0_layMet wsX4_at := fun w h => ⟨List.mem_cons_of_mem _ (List.mem_append_left _ (List.mem_append_left _ (List.mem_append_left _ (List.mem_append_left _ (List.mem_append_left _ (List.mem_append_right _ h)))))), zq_X4_at w h⟩
set_option maxRecDepth 20000 in
theorem gX0_layMet_X4_at : GoodIn wsX0_layMet (wsV RX0 24 RX4 yX4_at wsX4_at) := goodIn_app (goodIn_r _ [6, 7, 8, 9] rfl rfl) ggX0_layMet_X4_at
theorem ggX0_layMet_X3_plus : GoodIn wsX0_layMet wsX3_plus := fun w h => ⟨List.mem_cons_of_mem _ (List.mem_append_left _ (List.mem_append_left _ (List.mem_append_left _ (List.mem_append_left _ (List.mem_append_right _ h))))), zq_X3_plus w h⟩
set_option maxRecDepth 20000 in
theorem gX0_layMet_X3_plus : GoodIn wsX0_layMet (wsV RX0 30 RX3 yX3_plus wsX3_plus) := goodIn_app (goodIn_r _ [10, 11, 12, 5] rfl rfl) ggX0_layMet_X3_plus
theorem ggX0_layMet_X4_lay : GoodIn wsX0_layMet wsX4_lay := fun w h => ⟨List.mem_cons_of_mem _ (List.mem_append_left _ (List.mem_append_left _ (List.mem_append_left _ (List.mem_append_right _ h)))), zq_X4_lay w h⟩
set_option maxRecDepth 20000 in
theorem gX0_layMet_X4_lay : GoodIn wsX0_layMet (wsV RX0 34 RX4 yX4_lay wsX4_lay) := goodIn_app (goodIn_r _ [13, 14, 15, 9] rfl rfl) ggX0_layMet_X4_lay
theorem ggX0_layMet_X3_minus : GoodIn wsX0_layMet wsX3_minus := fun w h => ⟨List.mem_cons_of_mem _ (List.mem_append_left _ (List.mem_append_left _ (List.mem_append_right _ h))), zq_X3_minus w h⟩
set_option maxRecDepth 20000 in
theorem gX0_layMet_X3_minus : GoodIn wsX0_layMet (wsV RX0 38 RX3 yX3_minus wsX3_minus) := goodIn_app (goodIn_r _ [16, 17, 18, 5] rfl rfl) ggX0_layMet_X3_minus
theorem ggX0_layMet_X3_times : GoodIn wsX0_layMet wsX3_times := fun w h => ⟨List.mem_cons_of_mem _ (List.mem_append_left _ (List.mem_append_right _ h)), zq_X3_times w h⟩
set_option maxRecDepth 20000 in
theorem gX0_layMet_X3_times : GoodIn wsX0_layMet (wsV RX0 41 RX3 yX3_times wsX3_times) := goodIn_app (goodIn_r _ [19, 20, 21, 5] rfl rfl) ggX0_layMet_X3_times
theorem ggX0_layMet_X3_isBeyond : GoodIn wsX0_layMet wsX3_isBeyond := fun w h => ⟨List.mem_cons_of_mem _ (List.mem_append_right _ h), zq_X3_isBeyond w h⟩
set_option maxRecDepth 20000 in
theorem gX0_layMet_X3_isBeyond : GoodIn wsX0_layMet (wsV RX0 44 RX3 yX3_isBeyond wsX3_isBeyond) := goodIn_app (goodIn_r _ [22, 23, 24, 5] rfl rfl) ggX0_layMet_X3_isBeyond
theorem qdX0_layMet_0_24 : dcAll cX0_layMet [(0, .aload_n 0, 1), (1, .getfield 9, 3), (4, .invokevirtual 19, 3), (7, .iconst 1, 1), (8, .istore 5, 2), (10, .iload 5, 2), (12, .bipush 120, 2), (14, .if_icmp .gt 102, 3), (17, .iload_n 1, 1), (18, .ifCond .ne 32, 3), (21, .aload 4, 2), (23, .iload 5, 2), (25, .aload_n 0, 1), (26, .getfield 9, 3), (29, .aload_n 2, 1), (30, .iload 5, 2), (32, .invokevirtual 24, 3), (35, .aload_n 3, 1), (36, .iload 5, 2), (38, .invokevirtual 24, 3), (41, .invokevirtual 30, 3), (44, .invokevirtual 34, 3), (47, .goto 63, 3), (50, .iload_n 1, 1)] := dcAll_of (by decide +kernel)
theorem dX0_layMet_0 : decode cX0_layMet 0 = .ok (.aload_n 0, 1) := qdX0_layMet_0_24.1
theorem dX0_layMet_1 : decode cX0_layMet 1 = .ok (.getfield 9, 3) := qdX0_layMet_0_24.2.1
theorem dX0_layMet_4 : decode cX0_layMet 4 = .ok (.invokevirtual 19, 3) := qdX0_layMet_0_24.2.2.1
theorem dX0_layMet_7 : decode cX0_layMet 7 = .ok (.iconst 1, 1) := qdX0_layMet_0_24.2.2.2.1
theorem dX0_layMet_8 : decode cX0_layMet 8 = .ok (.istore 5, 2) := qdX0_layMet_0_24.2.2.2.2.1
theorem dX0_layMet_10 : decode cX0_layMet 10 = .ok (.iload 5, 2) := qdX0_layMet_0_24.2.2.2.2.2.1
theorem dX0_layMet_12 : decode cX0_layMet 12 = .ok (.bipush 120, 2) := qdX0_layMet_0_24.2.2.2.2.2.2.1
theorem dX0_layMet_14 : decode cX0_layMet 14 = .ok (.if_icmp .gt 102, 3) := qdX0_layMet_0_24.2.2.2.2.2.2.2.1
theorem dX0_layMet_17 : decode cX0_layMet 17 = .ok (.iload_n 1, 1) := qdX0_layMet_0_24.2.2.2.2.2.2.2.2.1
theorem dX0_layMet_18 : decode cX0_layMet 18 = .ok (.ifCond .ne 32, 3) := qdX0_layMet_0_24.2.2.2.2.2.2.2.2.2.1
theorem dX0_layMet_21 : decode cX0_layMet 21 = .ok (.aload 4, 2) := qdX0_layMet_0_24.2.2.2.2.2.2.2.2.2.2.1
theorem dX0_layMet_23 : decode cX0_layMet 23 = .ok (.iload 5, 2) := qdX0_layMet_0_24.2.2.2.2.2.2.2.2.2.2.2.1
theorem dX0_layMet_25 : decode cX0_layMet 25 = .ok (.aload_n 0, 1) := qdX0_layMet_0_24.2.2.2.2.2.2.2.2.2.2.2.2.1
theorem dX0_layMet_26 : decode cX0_layMet 26 = .ok (.getfield 9, 3) := qdX0_layMet_0_24.2.2.2.2.2.2.2.2.2.2.2.2.2.1
theorem dX0_layMet_29 : decode cX0_layMet 29 = .ok (.aload_n 2, 1) := qdX0_layMet_0_24.2.2.2.2.2.2.2.2.2.2.2.2.2.2.1
theorem dX0_layMet_30 : decode cX0_layMet 30 = .ok (.iload 5, 2) := qdX0_layMet_0_24.2.2.2.2.2.2.2.2.2.2.2.2.2.2.2.1
theorem dX0_layMet_32 : decode cX0_layMet 32 = .ok (.invokevirtual 24, 3) := qdX0_layMet_0_24.2.2.2.2.2.2.2.2.2.2.2.2.2.2.2.2.1
theorem dX0_layMet_35 : decode cX0_layMet 35 = .ok (.aload_n 3, 1) := qdX0_layMet_0_24.2.2.2.2.2.2.2.2.2.2.2.2.2.2.2.2.2.1
theorem dX0_layMet_36 : decode cX0_layMet 36 = .ok (.iload 5, 2) := qdX0_layMet_0_24.2.2.2.2.2.2.2.2.2.2.2.2.2.2.2.2.2.2.1
theorem dX0_layMet_38 : decode cX0_layMet 38 = .ok (.invokevirtual 24, 3) := qdX0_layMet_0_24.2.2.2.2.2.2.2.2.2.2.2.2.2.2.2.2.2.2.2.1
theorem dX0_layMet_41 : decode cX0_layMet 41 = .ok (.invokevirtual 30, 3) := qdX0_layMet_0_24.2.2.2.2.2.2.2.2.2.2.2.2.2.2.2.2.2.2.2.2.1
theorem dX0_layMet_44 : decode cX0_layMet 44 = .ok (.invokevirtual 34, 3) := qdX0_layMet_0_24.2.2.2.2.2.2.2.2.2.2.2.2.2.2.2.2.2.2.2.2.2.1
theorem dX0_layMet_47 : decode cX0_layMet 47 = .ok (.goto 63, 3) := qdX0_layMet_0_24.2.2.2.2.2.2.2.2.2.2.2.2.2.2.2.2.2.2.2.2.2.2.1
theorem dX0_layMet_50 : decode cX0_layMet 50 = .ok (.iload_n 1, 1) := qdX0_layMet_0_24.2.2.2.2.2.2.2.2.2.2.2.2.2.2.2.2.2.2.2.2.2.2.2.1
theorem qdX0_layMet_51_24 : dcAll cX0_layMet [(51, .iconst 1, 1), (52, .if_icmp .ne 32, 3), (55, .aload 4, 2), (57, .iload 5, 2), (59, .aload_n 0, 1), (60, .getfield 9, 3), (63, .aload_n 2, 1), (64, .iload 5, 2), (66, .invokevirtual 24, 3), (69, .aload_n 3, 1), (70, .iload 5, 2), (72, .invokevirtual 24, 3), (75, .invokevirtual 38, 3), (78, .invokevirtual 34, 3), (81, .goto 29, 3), (84, .aload 4, 2), (86, .iload 5, 2), (88, .aload_n 0, 1), (89, .getfield 9, 3), (92, .aload_n 2, 1), (93, .iload 5, 2), (95, .invokevirtual 24, 3), (98, .aload_n 3, 1), (99, .iload 5, 2)] := dcAll_of (by decide +kernel)
theorem dX0_layMet_51 : decode cX0_layMet 51 = .ok (.iconst 1, 1) := qdX0_layMet_51_24.1
theorem dX0_layMet_52 : decode cX0_layMet 52 = .ok (.if_icmp .ne 32, 3) := qdX0_layMet_51_24.2.1
theorem dX0_layMet_55 : decode cX0_layMet 55 = .ok (.aload 4, 2) := qdX0_layMet_51_24.2.2.1
theorem dX0_layMet_57 : decode cX0_layMet 57 = .ok (.iload 5, 2) := qdX0_layMet_51_24.2.2.2.1
theorem dX0_layMet_59 : decode cX0_layMet 59 = .ok (.aload_n 0, 1) := qdX0_layMet_51_24.2.2.2.2.1
theorem dX0_layMet_60 : decode cX0_layMet 60 = .ok (.getfield 9, 3) := qdX0_layMet_51_24.2.2.2.2.2.1
theorem dX0_layMet_63 : decode cX0_layMet 63 = .ok (.aload_n 2, 1) := qdX0_layMet_51_24.2.2.2.2.2.2.1
theorem dX0_layMet_64 : decode cX0_layMet 64 = .ok (.iload 5, 2) := qdX0_layMet_51_24.2.2.2.2.2.2.2.1
theorem dX0_layMet_66 : decode cX0_layMet 66 = .ok (.invokevirtual 24, 3) := qdX0_layMet_51_24.2.2.2.2.2.2.2.2.1
theorem dX0_layMet_69 : decode cX0_layMet 69 = .ok (.aload_n 3, 1) := qdX0_layMet_51_24.2.2.2.2.2.2.2.2.2.1
theorem dX0_layMet_70 : decode cX0_layMet 70 = .ok (.iload 5, 2) := qdX0_layMet_51_24.2.2.2.2.2.2.2.2.2.2.1
theorem dX0_layMet_72 : decode cX0_layMet 72 = .ok (.invokevirtual 24, 3) := qdX0_layMet_51_24.2.2.2.2.2.2.2.2.2.2.2.1
theorem dX0_layMet_75 : decode cX0_layMet 75 = .ok (.invokevirtual 38, 3) := qdX0_layMet_51_24.2.2.2.2.2.2.2.2.2.2.2.2.1
theorem dX0_layMet_78 : decode cX0_layMet 78 = .ok (.invokevirtual 34, 3) := qdX0_layMet_51_24.2.2.2.2.2.2.2.2.2.2.2.2.2.1
theorem dX0_layMet_81 : decode cX0_layMet 81 = .ok (.goto 29, 3) := qdX0_layMet_51_24.2.2.2.2.2.2.2.2.2.2.2.2.2.2.1
theorem dX0_layMet_84 : decode cX0_layMet 84 = .ok (.aload 4, 2) := qdX0_layMet_51_24.2.2.2.2.2.2.2.2.2.2.2.2.2.2.2.1
theorem dX0_layMet_86 : decode cX0_layMet 86 = .ok (.iload 5, 2) := qdX0_layMet_51_24.2.2.2.2.2.2.2.2.2.2.2.2.2.2.2.2.1
theorem dX0_layMet_88 : decode cX0_layMet 88 = .ok (.aload_n 0, 1) := qdX0_layMet_51_24.2.2.2.2.2.2.2.2.2.2.2.2.2.2.2.2.2.1
theorem dX0_layMet_89 : decode cX0_layMet 89 = .ok (.getfield 9, 3) := qdX0_layMet_51_24.2.2.2.2.2.2.2.2.2.2.2.2.2.2.2.2.2.2.1
theorem dX0_layMet_92 : decode cX0_layMet 92 = .ok (.aload_n 2, 1) := qdX0_layMet_51_24.2.2.2.2.2.2.2.2.2.2.2.2.2.2.2.2.2.2.2.1
theorem dX0_layMet_93 : decode cX0_layMet 93 = .ok (.iload 5, 2) := qdX0_layMet_51_24.2.2.2.2.2.2.2.2.2.2.2.2.2.2.2.2.2.2.2.2.1
theorem dX0_layMet_95 : decode cX0_layMet 95 = .ok (.invokevirtual 24, 3) := qdX0_layMet_51_24.2.2.2.2.2.2.2.2.2.2.2.2.2.2.2.2.2.2.2.2.2.1
theorem dX0_layMet_98 : decode cX0_layMet 98 = .ok (.aload_n 3, 1) := qdX0_layMet_51_24.2.2.2.2.2.2.2.2.2.2.2.2.2.2.2.2.2.2.2.2.2.2.1
theorem dX0_layMet_99 : decode cX0_layMet 99 = .ok (.iload 5, 2) := qdX0_layMet_51_24.2.2.2.2.2.2.2.2.2.2.2.2.2.2.2.2.2.2.2.2.2.2.2.1
theorem qdX0_layMet_101_13 : dcAll cX0_layMet [(101, .invokevirtual 24, 3), (104, .invokevirtual 41, 3), (107, .invokevirtual 34, 3), (110, .iinc 5 1, 3), (113, .goto (-103), 3), (116, .aload_n 0, 1), (117, .getfield 9, 3), (120, .invokevirtual 44, 3), (123, .ifCond .ne 7, 3), (126, .iconst 1, 1), (127, .goto 4, 3), (130, .iconst 0, 1), (131, .ireturn, 1)] := dcAll_of (by decide +kernel)
theorem dX0_layMet_101 : decode cX0_layMet 101 = .ok (.invokevirtual 24, 3) := qdX0_layMet_101_13.1
theorem dX0_layMet_104 : decode cX0_layMet 104 = .ok (.invokevirtual 41, 3) := qdX0_layMet_101_13.2.1
theorem dX0_layMet_107 : decode cX0_layMet 107 = .ok (.invokevirtual 34, 3) := qdX0_layMet_101_13.2.2.1
theorem dX0_layMet_110 : decode cX0_layMet 110 = .ok (.iinc 5 1, 3) := qdX0_layMet_101_13.2.2.2.1
theorem dX0_layMet_113 : decode cX0_layMet 113 = .ok (.goto (-103), 3) := qdX0_layMet_101_13.2.2.2.2.1
theorem dX0_layMet_116 : decode cX0_layMet 116 = .ok (.aload_n 0, 1) := qdX0_layMet_101_13.2.2.2.2.2.1
theorem dX0_layMet_117 : decode cX0_layMet 117 = .ok (.getfield 9, 3) := qdX0_layMet_101_13.2.2.2.2.2.2.1
theorem dX0_layMet_120 : decode cX0_layMet 120 = .ok (.invokevirtual 44, 3) := qdX0_layMet_101_13.2.2.2.2.2.2.2.1
theorem dX0_layMet_123 : decode cX0_layMet 123 = .ok (.ifCond .ne 7, 3) := qdX0_layMet_101_13.2.2.2.2.2.2.2.2.1
theorem dX0_layMet_126 : decode cX0_layMet 126 = .ok (.iconst 1, 1) := qdX0_layMet_101_13.2.2.2.2.2.2.2.2.2.1
theorem dX0_layMet_127 : decode cX0_layMet 127 = .ok (.goto 4, 3) := qdX0_layMet_101_13.2.2.2.2.2.2.2.2.2.2.1
theorem dX0_layMet_130 : decode cX0_layMet 130 = .ok (.iconst 0, 1) := qdX0_layMet_101_13.2.2.2.2.2.2.2.2.2.2.2.1
theorem dX0_layMet_131 : decode cX0_layMet 131 = .ok (.ireturn, 1) := qdX0_layMet_101_13.2.2.2.2.2.2.2.2.2.2.2.2.1
theorem ggX0_layMade_X0_layInverse : GoodIn wsX0_layMade wsX0_layInverse := fun w h => ⟨List.mem_cons_of_mem _ (List.mem_append_left _ (List.mem_append_left _ (List.mem_append_left _ (List.mem_append_left _ (List.mem_append_left _ (List.mem_append_right _ h)))))), zq_X0_layInverse w h⟩
set_option maxRecDepth 20000 in
theorem gX0_layMade_X0_layInverse : GoodIn wsX0_layMade (wsV RX0 48 RX0 yX0_layInverse wsX0_layInverse) := goodIn_app (goodIn_r _ [1, 2, 3, 4] rfl rfl) ggX0_layMade_X0_layInverse
theorem ggX0_layMade_X0_laySummed : GoodIn wsX0_layMade wsX0_laySummed := fun w h => ⟨List.mem_cons_of_mem _ (List.mem_append_left _ (List.mem_append_left _ (List.mem_append_left _ (List.mem_append_left _ (List.mem_append_right _ h))))), zq_X0_laySummed w h⟩
set_option maxRecDepth 20000 in
theorem gX0_layMade_X0_laySummed : GoodIn wsX0_layMade (wsV RX0 52 RX0 yX0_laySummed wsX0_laySummed) := goodIn_app (goodIn_r _ [7, 8, 9, 4] rfl rfl) ggX0_layMade_X0_laySummed
theorem ggX0_layMade_X0_laySigned : GoodIn wsX0_layMade wsX0_laySigned := fun w h => ⟨List.mem_cons_of_mem _ (List.mem_append_left _ (List.mem_append_left _ (List.mem_append_left _ (List.mem_append_right _ h)))), zq_X0_laySigned w h⟩
set_option maxRecDepth 20000 in
theorem gX0_layMade_X0_laySigned : GoodIn wsX0_layMade (wsV RX0 55 RX0 yX0_laySigned wsX0_laySigned) := goodIn_app (goodIn_r _ [10, 11, 12, 4] rfl rfl) ggX0_layMade_X0_laySigned
theorem ggX0_layMade_X0_layByPrimes : GoodIn wsX0_layMade wsX0_layByPrimes := fun w h => ⟨List.mem_cons_of_mem _ (List.mem_append_left _ (List.mem_append_left _ (List.mem_append_right _ h))), zq_X0_layByPrimes w h⟩
set_option maxRecDepth 20000 in
theorem gX0_layMade_X0_layByPrimes : GoodIn wsX0_layMade (wsV RX0 58 RX0 yX0_layByPrimes wsX0_layByPrimes) := goodIn_app (goodIn_r _ [15, 16, 17, 4] rfl rfl) ggX0_layMade_X0_layByPrimes
theorem ggX0_layMade_X0_layTurned : GoodIn wsX0_layMade wsX0_layTurned := fun w h => ⟨List.mem_cons_of_mem _ (List.mem_append_left _ (List.mem_append_right _ h)), zq_X0_layTurned w h⟩
set_option maxRecDepth 20000 in
theorem gX0_layMade_X0_layTurned : GoodIn wsX0_layMade (wsV RX0 61 RX0 yX0_layTurned wsX0_layTurned) := goodIn_app (goodIn_r _ [18, 19, 20, 4] rfl rfl) ggX0_layMade_X0_layTurned
theorem ggX0_layMade_X0_layByPlace : GoodIn wsX0_layMade wsX0_layByPlace := fun w h => ⟨List.mem_cons_of_mem _ (List.mem_append_right _ h), zq_X0_layByPlace w h⟩
set_option maxRecDepth 20000 in
theorem gX0_layMade_X0_layByPlace : GoodIn wsX0_layMade (wsV RX0 64 RX0 yX0_layByPlace wsX0_layByPlace) := goodIn_app (goodIn_r _ [21, 22, 23, 4] rfl rfl) ggX0_layMade_X0_layByPlace
theorem qdX0_layMade_0_24 : dcAll cX0_layMade [(0, .iload_n 1, 1), (1, .tableswitch 70 0 4 #[35, 42, 49, 56, 63], 35), (36, .aload_n 0, 1), (37, .aload_n 2, 1), (38, .aload_n 3, 1), (39, .invokevirtual 48, 3), (42, .ireturn, 1), (43, .aload_n 0, 1), (44, .aload_n 2, 1), (45, .aload_n 3, 1), (46, .invokevirtual 52, 3), (49, .ireturn, 1), (50, .aload_n 0, 1), (51, .aload_n 2, 1), (52, .aload_n 3, 1), (53, .invokevirtual 55, 3), (56, .ireturn, 1), (57, .aload_n 0, 1), (58, .aload_n 2, 1), (59, .aload_n 3, 1), (60, .invokevirtual 58, 3), (63, .ireturn, 1), (64, .aload_n 0, 1), (65, .aload_n 2, 1)] := dcAll_of (by decide +kernel)
theorem dX0_layMade_0 : decode cX0_layMade 0 = .ok (.iload_n 1, 1) := qdX0_layMade_0_24.1
theorem dX0_layMade_1 : decode cX0_layMade 1 = .ok (.tableswitch 70 0 4 #[35, 42, 49, 56, 63], 35) := qdX0_layMade_0_24.2.1
theorem dX0_layMade_36 : decode cX0_layMade 36 = .ok (.aload_n 0, 1) := qdX0_layMade_0_24.2.2.1
theorem dX0_layMade_37 : decode cX0_layMade 37 = .ok (.aload_n 2, 1) := qdX0_layMade_0_24.2.2.2.1
theorem dX0_layMade_38 : decode cX0_layMade 38 = .ok (.aload_n 3, 1) := qdX0_layMade_0_24.2.2.2.2.1
theorem dX0_layMade_39 : decode cX0_layMade 39 = .ok (.invokevirtual 48, 3) := qdX0_layMade_0_24.2.2.2.2.2.1
theorem dX0_layMade_42 : decode cX0_layMade 42 = .ok (.ireturn, 1) := qdX0_layMade_0_24.2.2.2.2.2.2.1
theorem dX0_layMade_43 : decode cX0_layMade 43 = .ok (.aload_n 0, 1) := qdX0_layMade_0_24.2.2.2.2.2.2.2.1
theorem dX0_layMade_44 : decode cX0_layMade 44 = .ok (.aload_n 2, 1) := qdX0_layMade_0_24.2.2.2.2.2.2.2.2.1
theorem dX0_layMade_45 : decode cX0_layMade 45 = .ok (.aload_n 3, 1) := qdX0_layMade_0_24.2.2.2.2.2.2.2.2.2.1
theorem dX0_layMade_46 : decode cX0_layMade 46 = .ok (.invokevirtual 52, 3) := qdX0_layMade_0_24.2.2.2.2.2.2.2.2.2.2.1
theorem dX0_layMade_49 : decode cX0_layMade 49 = .ok (.ireturn, 1) := qdX0_layMade_0_24.2.2.2.2.2.2.2.2.2.2.2.1
theorem dX0_layMade_50 : decode cX0_layMade 50 = .ok (.aload_n 0, 1) := qdX0_layMade_0_24.2.2.2.2.2.2.2.2.2.2.2.2.1
theorem dX0_layMade_51 : decode cX0_layMade 51 = .ok (.aload_n 2, 1) := qdX0_layMade_0_24.2.2.2.2.2.2.2.2.2.2.2.2.2.1
theorem dX0_layMade_52 : decode cX0_layMade 52 = .ok (.aload_n 3, 1) := qdX0_layMade_0_24.2.2.2.2.2.2.2.2.2.2.2.2.2.2.1
theorem dX0_layMade_53 : decode cX0_layMade 53 = .ok (.invokevirtual 55, 3) := qdX0_layMade_0_24.2.2.2.2.2.2.2.2.2.2.2.2.2.2.2.1
theorem dX0_layMade_56 : decode cX0_layMade 56 = .ok (.ireturn, 1) := qdX0_layMade_0_24.2.2.2.2.2.2.2.2.2.2.2.2.2.2.2.2.1
theorem dX0_layMade_57 : decode cX0_layMade 57 = .ok (.aload_n 0, 1) := qdX0_layMade_0_24.2.2.2.2.2.2.2.2.2.2.2.2.2.2.2.2.2.1
theorem dX0_layMade_58 : decode cX0_layMade 58 = .ok (.aload_n 2, 1) := qdX0_layMade_0_24.2.2.2.2.2.2.2.2.2.2.2.2.2.2.2.2.2.2.1
theorem dX0_layMade_59 : decode cX0_layMade 59 = .ok (.aload_n 3, 1) := qdX0_layMade_0_24.2.2.2.2.2.2.2.2.2.2.2.2.2.2.2.2.2.2.2.1
theorem dX0_layMade_60 : decode cX0_layMade 60 = .ok (.invokevirtual 58, 3) := qdX0_layMade_0_24.2.2.2.2.2.2.2.2.2.2.2.2.2.2.2.2.2.2.2.2.1
theorem dX0_layMade_63 : decode cX0_layMade 63 = .ok (.ireturn, 1) := qdX0_layMade_0_24.2.2.2.2.2.2.2.2.2.2.2.2.2.2.2.2.2.2.2.2.2.1
theorem dX0_layMade_64 : decode cX0_layMade 64 = .ok (.aload_n 0, 1) := qdX0_layMade_0_24.2.2.2.2.2.2.2.2.2.2.2.2.2.2.2.2.2.2.2.2.2.2.1
theorem dX0_layMade_65 : decode cX0_layMade 65 = .ok (.aload_n 2, 1) := qdX0_layMade_0_24.2.2.2.2.2.2.2.2.2.2.2.2.2.2.2.2.2.2.2.2.2.2.2.1
theorem qdX0_layMade_66_8 : dcAll cX0_layMade [(66, .aload_n 3, 1), (67, .invokevirtual 61, 3), (70, .ireturn, 1), (71, .aload_n 0, 1), (72, .aload_n 2, 1), (73, .aload_n 3, 1), (74, .invokevirtual 64, 3), (77, .ireturn, 1)] := dcAll_of (by decide +kernel)
theorem dX0_layMade_66 : decode cX0_layMade 66 = .ok (.aload_n 3, 1) := qdX0_layMade_66_8.1
theorem dX0_layMade_67 : decode cX0_layMade 67 = .ok (.invokevirtual 61, 3) := qdX0_layMade_66_8.2.1
theorem dX0_layMade_70 : decode cX0_layMade 70 = .ok (.ireturn, 1) := qdX0_layMade_66_8.2.2.1
theorem dX0_layMade_71 : decode cX0_layMade 71 = .ok (.aload_n 0, 1) := qdX0_layMade_66_8.2.2.2.1
theorem dX0_layMade_72 : decode cX0_layMade 72 = .ok (.aload_n 2, 1) := qdX0_layMade_66_8.2.2.2.2.1
theorem dX0_layMade_73 : decode cX0_layMade 73 = .ok (.aload_n 3, 1) := qdX0_layMade_66_8.2.2.2.2.2.1
theorem dX0_layMade_74 : decode cX0_layMade 74 = .ok (.invokevirtual 64, 3) := qdX0_layMade_66_8.2.2.2.2.2.2.1
theorem dX0_layMade_77 : decode cX0_layMade 77 = .ok (.ireturn, 1) := qdX0_layMade_66_8.2.2.2.2.2.2.2.1
theorem ggX0_layProduct_X3_begin : GoodIn wsX0_layProduct wsX3_begin := fun w h => ⟨List.mem_cons_of_mem _ (List.mem_append_left _ (List.mem_append_left _ (List.mem_append_left _ (List.mem_append_left _ (List.mem_append_left _ (List.mem_append_right _ h)))))), zq_X3_begin w h⟩
set_option maxRecDepth 20000 in
theorem gX0_layProduct_X3_begin : GoodIn wsX0_layProduct (wsV RX0 19 RX3 yX3_begin wsX3_begin) := goodIn_app (goodIn_r _ [2, 3, 4, 5] rfl rfl) ggX0_layProduct_X3_begin
theorem ggX0_layProduct_X4_at : GoodIn wsX0_layProduct wsX4_at := fun w h => ⟨List.mem_cons_of_mem _ (List.mem_append_left _ (List.mem_append_left _ (List.mem_append_left _ (List.mem_append_left _ (List.mem_append_right _ h))))), zq_X4_at w h⟩
set_option maxRecDepth 20000 in
theorem gX0_layProduct_X4_at : GoodIn wsX0_layProduct (wsV RX0 24 RX4 yX4_at wsX4_at) := goodIn_app (goodIn_r _ [6, 7, 8, 9] rfl rfl) ggX0_layProduct_X4_at
theorem ggX0_layProduct_X3_times : GoodIn wsX0_layProduct wsX3_times := fun w h => ⟨List.mem_cons_of_mem _ (List.mem_append_left _ (List.mem_append_left _ (List.mem_append_left _ (List.mem_append_right _ h)))), zq_X3_times w h⟩
set_option maxRecDepth 20000 in
theorem gX0_layProduct_X3_times : GoodIn wsX0_layProduct (wsV RX0 41 RX3 yX3_times wsX3_times) := goodIn_app (goodIn_r _ [10, 11, 12, 5] rfl rfl) ggX0_layProduct_X3_times
theorem ggX0_layProduct_X3_plus : GoodIn wsX0_layProduct wsX3_plus := fun w h => ⟨List.mem_cons_of_mem _ (List.mem_append_left _ (List.mem_append_left _ (List.mem_append_right _ h))), zq_X3_plus w h⟩
set_option maxRecDepth 20000 in
theorem gX0_layProduct_X3_plus : GoodIn wsX0_layProduct (wsV RX0 30 RX3 yX3_plus wsX3_plus) := goodIn_app (goodIn_r _ [13, 14, 15, 5] rfl rfl) ggX0_layProduct_X3_plus
theorem ggX0_layProduct_X4_lay : GoodIn wsX0_layProduct wsX4_lay := fun w h => ⟨List.mem_cons_of_mem _ (List.mem_append_left _ (List.mem_append_right _ h)), zq_X4_lay w h⟩
set_option maxRecDepth 20000 in
theorem gX0_layProduct_X4_lay : GoodIn wsX0_layProduct (wsV RX0 34 RX4 yX4_lay wsX4_lay) := goodIn_app (goodIn_r _ [16, 17, 18, 9] rfl rfl) ggX0_layProduct_X4_lay
theorem ggX0_layProduct_X3_isBeyond : GoodIn wsX0_layProduct wsX3_isBeyond := fun w h => ⟨List.mem_cons_of_mem _ (List.mem_append_right _ h), zq_X3_isBeyond w h⟩
set_option maxRecDepth 20000 in
theorem gX0_layProduct_X3_isBeyond : GoodIn wsX0_layProduct (wsV RX0 44 RX3 yX3_isBeyond wsX3_isBeyond) := goodIn_app (goodIn_r _ [19, 20, 21, 5] rfl rfl) ggX0_layProduct_X3_isBeyond
theorem qdX0_layProduct_0_24 : dcAll cX0_layProduct [(0, .aload_n 0, 1), (1, .getfield 9, 3), (4, .invokevirtual 19, 3), (7, .iconst 1, 1), (8, .istore 4, 2), (10, .iload 4, 2), (12, .bipush 120, 2), (14, .if_icmp .gt 77, 3), (17, .lconst 0, 1), (18, .lstore 5, 2), (20, .iconst 1, 1), (21, .istore 7, 2), (23, .iload 7, 2), (25, .iload 4, 2), (27, .if_icmp .gt 50, 3), (30, .iload 4, 2), (32, .iload 7, 2), (34, .irem, 1), (35, .ifCond .ne 36, 3), (38, .aload_n 0, 1), (39, .getfield 9, 3), (42, .lload 5, 2), (44, .aload_n 0, 1), (45, .getfield 9, 3)] := dcAll_of (by decide +kernel)
theorem dX0_layProduct_0 : decode cX0_layProduct 0 = .ok (.aload_n 0, 1) := qdX0_layProduct_0_24.1
theorem dX0_layProduct_1 : decode cX0_layProduct 1 = .ok (.getfield 9, 3) := qdX0_layProduct_0_24.2.1
theorem dX0_layProduct_4 : decode cX0_layProduct 4 = .ok (.invokevirtual 19, 3) := qdX0_layProduct_0_24.2.2.1
theorem dX0_layProduct_7 : decode cX0_layProduct 7 = .ok (.iconst 1, 1) := qdX0_layProduct_0_24.2.2.2.1
theorem dX0_layProduct_8 : decode cX0_layProduct 8 = .ok (.istore 4, 2) := qdX0_layProduct_0_24.2.2.2.2.1
theorem dX0_layProduct_10 : decode cX0_layProduct 10 = .ok (.iload 4, 2) := qdX0_layProduct_0_24.2.2.2.2.2.1
theorem dX0_layProduct_12 : decode cX0_layProduct 12 = .ok (.bipush 120, 2) := qdX0_layProduct_0_24.2.2.2.2.2.2.1
theorem dX0_layProduct_14 : decode cX0_layProduct 14 = .ok (.if_icmp .gt 77, 3) := qdX0_layProduct_0_24.2.2.2.2.2.2.2.1
theorem dX0_layProduct_17 : decode cX0_layProduct 17 = .ok (.lconst 0, 1) := qdX0_layProduct_0_24.2.2.2.2.2.2.2.2.1
theorem dX0_layProduct_18 : decode cX0_layProduct 18 = .ok (.lstore 5, 2) := qdX0_layProduct_0_24.2.2.2.2.2.2.2.2.2.1
theorem dX0_layProduct_20 : decode cX0_layProduct 20 = .ok (.iconst 1, 1) := qdX0_layProduct_0_24.2.2.2.2.2.2.2.2.2.2.1
theorem dX0_layProduct_21 : decode cX0_layProduct 21 = .ok (.istore 7, 2) := qdX0_layProduct_0_24.2.2.2.2.2.2.2.2.2.2.2.1
theorem dX0_layProduct_23 : decode cX0_layProduct 23 = .ok (.iload 7, 2) := qdX0_layProduct_0_24.2.2.2.2.2.2.2.2.2.2.2.2.1
theorem dX0_layProduct_25 : decode cX0_layProduct 25 = .ok (.iload 4, 2) := qdX0_layProduct_0_24.2.2.2.2.2.2.2.2.2.2.2.2.2.1
theorem dX0_layProduct_27 : decode cX0_layProduct 27 = .ok (.if_icmp .gt 50, 3) := qdX0_layProduct_0_24.2.2.2.2.2.2.2.2.2.2.2.2.2.2.1
theorem dX0_layProduct_30 : decode cX0_layProduct 30 = .ok (.iload 4, 2) := qdX0_layProduct_0_24.2.2.2.2.2.2.2.2.2.2.2.2.2.2.2.1
theorem dX0_layProduct_32 : decode cX0_layProduct 32 = .ok (.iload 7, 2) := qdX0_layProduct_0_24.2.2.2.2.2.2.2.2.2.2.2.2.2.2.2.2.1
theorem dX0_layProduct_34 : decode cX0_layProduct 34 = .ok (.irem, 1) := qdX0_layProduct_0_24.2.2.2.2.2.2.2.2.2.2.2.2.2.2.2.2.2.1
theorem dX0_layProduct_35 : decode cX0_layProduct 35 = .ok (.ifCond .ne 36, 3) := qdX0_layProduct_0_24.2.2.2.2.2.2.2.2.2.2.2.2.2.2.2.2.2.2.1
theorem dX0_layProduct_38 : decode cX0_layProduct 38 = .ok (.aload_n 0, 1) := qdX0_layProduct_0_24.2.2.2.2.2.2.2.2.2.2.2.2.2.2.2.2.2.2.2.1
theorem dX0_layProduct_39 : decode cX0_layProduct 39 = .ok (.getfield 9, 3) := qdX0_layProduct_0_24.2.2.2.2.2.2.2.2.2.2.2.2.2.2.2.2.2.2.2.2.1
theorem dX0_layProduct_42 : decode cX0_layProduct 42 = .ok (.lload 5, 2) := qdX0_layProduct_0_24.2.2.2.2.2.2.2.2.2.2.2.2.2.2.2.2.2.2.2.2.2.1
theorem dX0_layProduct_44 : decode cX0_layProduct 44 = .ok (.aload_n 0, 1) := qdX0_layProduct_0_24.2.2.2.2.2.2.2.2.2.2.2.2.2.2.2.2.2.2.2.2.2.2.1
theorem dX0_layProduct_45 : decode cX0_layProduct 45 = .ok (.getfield 9, 3) := qdX0_layProduct_0_24.2.2.2.2.2.2.2.2.2.2.2.2.2.2.2.2.2.2.2.2.2.2.2.1
theorem qdX0_layProduct_48_24 : dcAll cX0_layProduct [(48, .aload_n 1, 1), (49, .iload 7, 2), (51, .invokevirtual 24, 3), (54, .aload_n 2, 1), (55, .iload 4, 2), (57, .iload 7, 2), (59, .idiv, 1), (60, .invokevirtual 24, 3), (63, .invokevirtual 41, 3), (66, .invokevirtual 30, 3), (69, .lstore 5, 2), (71, .iinc 7 1, 3), (74, .goto (-51), 3), (77, .aload_n 3, 1), (78, .iload 4, 2), (80, .lload 5, 2), (82, .invokevirtual 34, 3), (85, .iinc 4 1, 3), (88, .goto (-78), 3), (91, .aload_n 0, 1), (92, .getfield 9, 3), (95, .invokevirtual 44, 3), (98, .ifCond .ne 7, 3), (101, .iconst 1, 1)] := dcAll_of (by decide +kernel)
theorem dX0_layProduct_48 : decode cX0_layProduct 48 = .ok (.aload_n 1, 1) := qdX0_layProduct_48_24.1
theorem dX0_layProduct_49 : decode cX0_layProduct 49 = .ok (.iload 7, 2) := qdX0_layProduct_48_24.2.1
theorem dX0_layProduct_51 : decode cX0_layProduct 51 = .ok (.invokevirtual 24, 3) := qdX0_layProduct_48_24.2.2.1
theorem dX0_layProduct_54 : decode cX0_layProduct 54 = .ok (.aload_n 2, 1) := qdX0_layProduct_48_24.2.2.2.1
theorem dX0_layProduct_55 : decode cX0_layProduct 55 = .ok (.iload 4, 2) := qdX0_layProduct_48_24.2.2.2.2.1
theorem dX0_layProduct_57 : decode cX0_layProduct 57 = .ok (.iload 7, 2) := qdX0_layProduct_48_24.2.2.2.2.2.1
theorem dX0_layProduct_59 : decode cX0_layProduct 59 = .ok (.idiv, 1) := qdX0_layProduct_48_24.2.2.2.2.2.2.1
theorem dX0_layProduct_60 : decode cX0_layProduct 60 = .ok (.invokevirtual 24, 3) := qdX0_layProduct_48_24.2.2.2.2.2.2.2.1
theorem dX0_layProduct_63 : decode cX0_layProduct 63 = .ok (.invokevirtual 41, 3) := qdX0_layProduct_48_24.2.2.2.2.2.2.2.2.1
theorem dX0_layProduct_66 : decode cX0_layProduct 66 = .ok (.invokevirtual 30, 3) := qdX0_layProduct_48_24.2.2.2.2.2.2.2.2.2.1
theorem dX0_layProduct_69 : decode cX0_layProduct 69 = .ok (.lstore 5, 2) := qdX0_layProduct_48_24.2.2.2.2.2.2.2.2.2.2.1
theorem dX0_layProduct_71 : decode cX0_layProduct 71 = .ok (.iinc 7 1, 3) := qdX0_layProduct_48_24.2.2.2.2.2.2.2.2.2.2.2.1
theorem dX0_layProduct_74 : decode cX0_layProduct 74 = .ok (.goto (-51), 3) := qdX0_layProduct_48_24.2.2.2.2.2.2.2.2.2.2.2.2.1
theorem dX0_layProduct_77 : decode cX0_layProduct 77 = .ok (.aload_n 3, 1) := qdX0_layProduct_48_24.2.2.2.2.2.2.2.2.2.2.2.2.2.1
theorem dX0_layProduct_78 : decode cX0_layProduct 78 = .ok (.iload 4, 2) := qdX0_layProduct_48_24.2.2.2.2.2.2.2.2.2.2.2.2.2.2.1
theorem dX0_layProduct_80 : decode cX0_layProduct 80 = .ok (.lload 5, 2) := qdX0_layProduct_48_24.2.2.2.2.2.2.2.2.2.2.2.2.2.2.2.1
theorem dX0_layProduct_82 : decode cX0_layProduct 82 = .ok (.invokevirtual 34, 3) := qdX0_layProduct_48_24.2.2.2.2.2.2.2.2.2.2.2.2.2.2.2.2.1
theorem dX0_layProduct_85 : decode cX0_layProduct 85 = .ok (.iinc 4 1, 3) := qdX0_layProduct_48_24.2.2.2.2.2.2.2.2.2.2.2.2.2.2.2.2.2.1
theorem dX0_layProduct_88 : decode cX0_layProduct 88 = .ok (.goto (-78), 3) := qdX0_layProduct_48_24.2.2.2.2.2.2.2.2.2.2.2.2.2.2.2.2.2.2.1
theorem dX0_layProduct_91 : decode cX0_layProduct 91 = .ok (.aload_n 0, 1) := qdX0_layProduct_48_24.2.2.2.2.2.2.2.2.2.2.2.2.2.2.2.2.2.2.2.1
theorem dX0_layProduct_92 : decode cX0_layProduct 92 = .ok (.getfield 9, 3) := qdX0_layProduct_48_24.2.2.2.2.2.2.2.2.2.2.2.2.2.2.2.2.2.2.2.2.1
theorem dX0_layProduct_95 : decode cX0_layProduct 95 = .ok (.invokevirtual 44, 3) := qdX0_layProduct_48_24.2.2.2.2.2.2.2.2.2.2.2.2.2.2.2.2.2.2.2.2.2.1
theorem dX0_layProduct_98 : decode cX0_layProduct 98 = .ok (.ifCond .ne 7, 3) := qdX0_layProduct_48_24.2.2.2.2.2.2.2.2.2.2.2.2.2.2.2.2.2.2.2.2.2.2.1
theorem dX0_layProduct_101 : decode cX0_layProduct 101 = .ok (.iconst 1, 1) := qdX0_layProduct_48_24.2.2.2.2.2.2.2.2.2.2.2.2.2.2.2.2.2.2.2.2.2.2.2.1
theorem qdX0_layProduct_102_3 : dcAll cX0_layProduct [(102, .goto 4, 3), (105, .iconst 0, 1), (106, .ireturn, 1)] := dcAll_of (by decide +kernel)
theorem dX0_layProduct_102 : decode cX0_layProduct 102 = .ok (.goto 4, 3) := qdX0_layProduct_102_3.1
theorem dX0_layProduct_105 : decode cX0_layProduct 105 = .ok (.iconst 0, 1) := qdX0_layProduct_102_3.2.1
theorem dX0_layProduct_106 : decode cX0_layProduct 106 = .ok (.ireturn, 1) := qdX0_layProduct_102_3.2.2.1
theorem ggX0_hasInverse_X4_at : GoodIn wsX0_hasInverse wsX4_at := fun w h => ⟨List.mem_cons_of_mem _ (List.mem_append_right _ h), zq_X4_at w h⟩
set_option maxRecDepth 20000 in
theorem gX0_hasInverse_X4_at : GoodIn wsX0_hasInverse (wsV RX0 24 RX4 yX4_at wsX4_at) := goodIn_app (goodIn_r _ [2, 3, 4, 5] rfl rfl) ggX0_hasInverse_X4_at
theorem qdX0_hasInverse_0_16 : dcAll cX0_hasInverse [(0, .aload_n 1, 1), (1, .iconst 1, 1), (2, .invokevirtual 24, 3), (5, .lconst 1, 1), (6, .lcmp, 1), (7, .ifCond .eq 15, 3), (10, .aload_n 1, 1), (11, .iconst 1, 1), (12, .invokevirtual 24, 3), (15, .ldc2_w 67, 3), (18, .lcmp, 1), (19, .ifCond .ne 7, 3), (22, .iconst 1, 1), (23, .goto 4, 3), (26, .iconst 0, 1), (27, .ireturn, 1)] := dcAll_of (by decide +kernel)
theorem dX0_hasInverse_0 : decode cX0_hasInverse 0 = .ok (.aload_n 1, 1) := qdX0_hasInverse_0_16.1
theorem dX0_hasInverse_1 : decode cX0_hasInverse 1 = .ok (.iconst 1, 1) := qdX0_hasInverse_0_16.2.1
theorem dX0_hasInverse_2 : decode cX0_hasInverse 2 = .ok (.invokevirtual 24, 3) := qdX0_hasInverse_0_16.2.2.1
theorem dX0_hasInverse_5 : decode cX0_hasInverse 5 = .ok (.lconst 1, 1) := qdX0_hasInverse_0_16.2.2.2.1
theorem dX0_hasInverse_6 : decode cX0_hasInverse 6 = .ok (.lcmp, 1) := qdX0_hasInverse_0_16.2.2.2.2.1
theorem dX0_hasInverse_7 : decode cX0_hasInverse 7 = .ok (.ifCond .eq 15, 3) := qdX0_hasInverse_0_16.2.2.2.2.2.1
theorem dX0_hasInverse_10 : decode cX0_hasInverse 10 = .ok (.aload_n 1, 1) := qdX0_hasInverse_0_16.2.2.2.2.2.2.1
theorem dX0_hasInverse_11 : decode cX0_hasInverse 11 = .ok (.iconst 1, 1) := qdX0_hasInverse_0_16.2.2.2.2.2.2.2.1
theorem dX0_hasInverse_12 : decode cX0_hasInverse 12 = .ok (.invokevirtual 24, 3) := qdX0_hasInverse_0_16.2.2.2.2.2.2.2.2.1
theorem dX0_hasInverse_15 : decode cX0_hasInverse 15 = .ok (.ldc2_w 67, 3) := qdX0_hasInverse_0_16.2.2.2.2.2.2.2.2.2.1
theorem dX0_hasInverse_18 : decode cX0_hasInverse 18 = .ok (.lcmp, 1) := qdX0_hasInverse_0_16.2.2.2.2.2.2.2.2.2.2.1
theorem dX0_hasInverse_19 : decode cX0_hasInverse 19 = .ok (.ifCond .ne 7, 3) := qdX0_hasInverse_0_16.2.2.2.2.2.2.2.2.2.2.2.1
theorem dX0_hasInverse_22 : decode cX0_hasInverse 22 = .ok (.iconst 1, 1) := qdX0_hasInverse_0_16.2.2.2.2.2.2.2.2.2.2.2.2.1
theorem dX0_hasInverse_23 : decode cX0_hasInverse 23 = .ok (.goto 4, 3) := qdX0_hasInverse_0_16.2.2.2.2.2.2.2.2.2.2.2.2.2.1
theorem dX0_hasInverse_26 : decode cX0_hasInverse 26 = .ok (.iconst 0, 1) := qdX0_hasInverse_0_16.2.2.2.2.2.2.2.2.2.2.2.2.2.2.1
theorem dX0_hasInverse_27 : decode cX0_hasInverse 27 = .ok (.ireturn, 1) := qdX0_hasInverse_0_16.2.2.2.2.2.2.2.2.2.2.2.2.2.2.2.1
theorem ggX0_layInverse_X0_hasInverse : GoodIn wsX0_layInverse wsX0_hasInverse := fun w h => ⟨List.mem_cons_of_mem _ (List.mem_append_left _ (List.mem_append_left _ (List.mem_append_left _ (List.mem_append_left _ (List.mem_append_left _ (List.mem_append_left _ (List.mem_append_right _ h))))))), zq_X0_hasInverse w h⟩
set_option maxRecDepth 20000 in
theorem gX0_layInverse_X0_hasInverse : GoodIn wsX0_layInverse (wsV RX0 69 RX0 yX0_hasInverse wsX0_hasInverse) := goodIn_app (goodIn_r _ [2, 3, 4, 5] rfl rfl) ggX0_layInverse_X0_hasInverse
theorem ggX0_layInverse_X3_begin : GoodIn wsX0_layInverse wsX3_begin := fun w h => ⟨List.mem_cons_of_mem _ (List.mem_append_left _ (List.mem_append_left _ (List.mem_append_left _ (List.mem_append_left _ (List.mem_append_left _ (List.mem_append_right _ h)))))), zq_X3_begin w h⟩
set_option maxRecDepth 20000 in
theorem gX0_layInverse_X3_begin : GoodIn wsX0_layInverse (wsV RX0 19 RX3 yX3_begin wsX3_begin) := goodIn_app (goodIn_r _ [10, 11, 12, 13] rfl rfl) ggX0_layInverse_X3_begin
theorem ggX0_layInverse_X4_at : GoodIn wsX0_layInverse wsX4_at := fun w h => ⟨List.mem_cons_of_mem _ (List.mem_append_left _ (List.mem_append_left _ (List.mem_append_left _ (List.mem_append_left _ (List.mem_append_right _ h))))), zq_X4_at w h⟩
set_option maxRecDepth 20000 in
theorem gX0_layInverse_X4_at : GoodIn wsX0_layInverse (wsV RX0 24 RX4 yX4_at wsX4_at) := goodIn_app (goodIn_r _ [6, 7, 8, 9] rfl rfl) ggX0_layInverse_X4_at
theorem ggX0_layInverse_X4_lay : GoodIn wsX0_layInverse wsX4_lay := fun w h => ⟨List.mem_cons_of_mem _ (List.mem_append_left _ (List.mem_append_left _ (List.mem_append_left _ (List.mem_append_right _ h)))), zq_X4_lay w h⟩
set_option maxRecDepth 20000 in
theorem gX0_layInverse_X4_lay : GoodIn wsX0_layInverse (wsV RX0 34 RX4 yX4_lay wsX4_lay) := goodIn_app (goodIn_r _ [14, 15, 16, 9] rfl rfl) ggX0_layInverse_X4_lay
theorem ggX0_layInverse_X3_times : GoodIn wsX0_layInverse wsX3_times := fun w h => ⟨List.mem_cons_of_mem _ (List.mem_append_left _ (List.mem_append_left _ (List.mem_append_right _ h))), zq_X3_times w h⟩
set_option maxRecDepth 20000 in
theorem gX0_layInverse_X3_times : GoodIn wsX0_layInverse (wsV RX0 41 RX3 yX3_times wsX3_times) := goodIn_app (goodIn_r _ [17, 18, 19, 13] rfl rfl) ggX0_layInverse_X3_times
theorem ggX0_layInverse_X3_plus : GoodIn wsX0_layInverse wsX3_plus := fun w h => ⟨List.mem_cons_of_mem _ (List.mem_append_left _ (List.mem_append_right _ h)), zq_X3_plus w h⟩
set_option maxRecDepth 20000 in
theorem gX0_layInverse_X3_plus : GoodIn wsX0_layInverse (wsV RX0 30 RX3 yX3_plus wsX3_plus) := goodIn_app (goodIn_r _ [20, 21, 22, 13] rfl rfl) ggX0_layInverse_X3_plus
theorem ggX0_layInverse_X3_isBeyond : GoodIn wsX0_layInverse wsX3_isBeyond := fun w h => ⟨List.mem_cons_of_mem _ (List.mem_append_right _ h), zq_X3_isBeyond w h⟩
set_option maxRecDepth 20000 in
theorem gX0_layInverse_X3_isBeyond : GoodIn wsX0_layInverse (wsV RX0 44 RX3 yX3_isBeyond wsX3_isBeyond) := goodIn_app (goodIn_r _ [23, 24, 25, 13] rfl rfl) ggX0_layInverse_X3_isBeyond
theorem qdX0_layInverse_0_24 : dcAll cX0_layInverse [(0, .aload_n 0, 1), (1, .aload_n 1, 1), (2, .invokevirtual 69, 3), (5, .ifCond .ne 5, 3), (8, .iconst 0, 1), (9, .ireturn, 1), (10, .aload_n 0, 1), (11, .getfield 9, 3), (14, .invokevirtual 19, 3), (17, .aload_n 2, 1), (18, .iconst 1, 1), (19, .aload_n 1, 1), (20, .iconst 1, 1), (21, .invokevirtual 24, 3), (24, .invokevirtual 34, 3), (27, .iconst 2, 1), (28, .istore_n 3, 1), (29, .iload_n 3, 1), (30, .bipush 120, 2), (32, .if_icmp .gt 86, 3), (35, .lconst 0, 1), (36, .lstore 4, 2), (38, .iconst 2, 1), (39, .istore 6, 2)] := dcAll_of (by decide +kernel)
theorem dX0_layInverse_0 : decode cX0_layInverse 0 = .ok (.aload_n 0, 1) := qdX0_layInverse_0_24.1
theorem dX0_layInverse_1 : decode cX0_layInverse 1 = .ok (.aload_n 1, 1) := qdX0_layInverse_0_24.2.1
theorem dX0_layInverse_2 : decode cX0_layInverse 2 = .ok (.invokevirtual 69, 3) := qdX0_layInverse_0_24.2.2.1
theorem dX0_layInverse_5 : decode cX0_layInverse 5 = .ok (.ifCond .ne 5, 3) := qdX0_layInverse_0_24.2.2.2.1
theorem dX0_layInverse_8 : decode cX0_layInverse 8 = .ok (.iconst 0, 1) := qdX0_layInverse_0_24.2.2.2.2.1
theorem dX0_layInverse_9 : decode cX0_layInverse 9 = .ok (.ireturn, 1) := qdX0_layInverse_0_24.2.2.2.2.2.1
theorem dX0_layInverse_10 : decode cX0_layInverse 10 = .ok (.aload_n 0, 1) := qdX0_layInverse_0_24.2.2.2.2.2.2.1
theorem dX0_layInverse_11 : decode cX0_layInverse 11 = .ok (.getfield 9, 3) := qdX0_layInverse_0_24.2.2.2.2.2.2.2.1
theorem dX0_layInverse_14 : decode cX0_layInverse 14 = .ok (.invokevirtual 19, 3) := qdX0_layInverse_0_24.2.2.2.2.2.2.2.2.1
theorem dX0_layInverse_17 : decode cX0_layInverse 17 = .ok (.aload_n 2, 1) := qdX0_layInverse_0_24.2.2.2.2.2.2.2.2.2.1
theorem dX0_layInverse_18 : decode cX0_layInverse 18 = .ok (.iconst 1, 1) := qdX0_layInverse_0_24.2.2.2.2.2.2.2.2.2.2.1
theorem dX0_layInverse_19 : decode cX0_layInverse 19 = .ok (.aload_n 1, 1) := qdX0_layInverse_0_24.2.2.2.2.2.2.2.2.2.2.2.1
theorem dX0_layInverse_20 : decode cX0_layInverse 20 = .ok (.iconst 1, 1) := qdX0_layInverse_0_24.2.2.2.2.2.2.2.2.2.2.2.2.1
theorem dX0_layInverse_21 : decode cX0_layInverse 21 = .ok (.invokevirtual 24, 3) := qdX0_layInverse_0_24.2.2.2.2.2.2.2.2.2.2.2.2.2.1
theorem dX0_layInverse_24 : decode cX0_layInverse 24 = .ok (.invokevirtual 34, 3) := qdX0_layInverse_0_24.2.2.2.2.2.2.2.2.2.2.2.2.2.2.1
theorem dX0_layInverse_27 : decode cX0_layInverse 27 = .ok (.iconst 2, 1) := qdX0_layInverse_0_24.2.2.2.2.2.2.2.2.2.2.2.2.2.2.2.1
theorem dX0_layInverse_28 : decode cX0_layInverse 28 = .ok (.istore_n 3, 1) := qdX0_layInverse_0_24.2.2.2.2.2.2.2.2.2.2.2.2.2.2.2.2.1
theorem dX0_layInverse_29 : decode cX0_layInverse 29 = .ok (.iload_n 3, 1) := qdX0_layInverse_0_24.2.2.2.2.2.2.2.2.2.2.2.2.2.2.2.2.2.1
theorem dX0_layInverse_30 : decode cX0_layInverse 30 = .ok (.bipush 120, 2) := qdX0_layInverse_0_24.2.2.2.2.2.2.2.2.2.2.2.2.2.2.2.2.2.2.1
theorem dX0_layInverse_32 : decode cX0_layInverse 32 = .ok (.if_icmp .gt 86, 3) := qdX0_layInverse_0_24.2.2.2.2.2.2.2.2.2.2.2.2.2.2.2.2.2.2.2.1
theorem dX0_layInverse_35 : decode cX0_layInverse 35 = .ok (.lconst 0, 1) := qdX0_layInverse_0_24.2.2.2.2.2.2.2.2.2.2.2.2.2.2.2.2.2.2.2.2.1
theorem dX0_layInverse_36 : decode cX0_layInverse 36 = .ok (.lstore 4, 2) := qdX0_layInverse_0_24.2.2.2.2.2.2.2.2.2.2.2.2.2.2.2.2.2.2.2.2.2.1
theorem dX0_layInverse_38 : decode cX0_layInverse 38 = .ok (.iconst 2, 1) := qdX0_layInverse_0_24.2.2.2.2.2.2.2.2.2.2.2.2.2.2.2.2.2.2.2.2.2.2.1
theorem dX0_layInverse_39 : decode cX0_layInverse 39 = .ok (.istore 6, 2) := qdX0_layInverse_0_24.2.2.2.2.2.2.2.2.2.2.2.2.2.2.2.2.2.2.2.2.2.2.2.1
theorem qdX0_layInverse_41_24 : dcAll cX0_layInverse [(41, .iload 6, 2), (43, .iload_n 3, 1), (44, .if_icmp .gt 48, 3), (47, .iload_n 3, 1), (48, .iload 6, 2), (50, .irem, 1), (51, .ifCond .ne 35, 3), (54, .aload_n 0, 1), (55, .getfield 9, 3), (58, .lload 4, 2), (60, .aload_n 0, 1), (61, .getfield 9, 3), (64, .aload_n 1, 1), (65, .iload 6, 2), (67, .invokevirtual 24, 3), (70, .aload_n 2, 1), (71, .iload_n 3, 1), (72, .iload 6, 2), (74, .idiv, 1), (75, .invokevirtual 24, 3), (78, .invokevirtual 41, 3), (81, .invokevirtual 30, 3), (84, .lstore 4, 2), (86, .iinc 6 1, 3)] := dcAll_of (by decide +kernel)
theorem dX0_layInverse_41 : decode cX0_layInverse 41 = .ok (.iload 6, 2) := qdX0_layInverse_41_24.1
theorem dX0_layInverse_43 : decode cX0_layInverse 43 = .ok (.iload_n 3, 1) := qdX0_layInverse_41_24.2.1
theorem dX0_layInverse_44 : decode cX0_layInverse 44 = .ok (.if_icmp .gt 48, 3) := qdX0_layInverse_41_24.2.2.1
theorem dX0_layInverse_47 : decode cX0_layInverse 47 = .ok (.iload_n 3, 1) := qdX0_layInverse_41_24.2.2.2.1
theorem dX0_layInverse_48 : decode cX0_layInverse 48 = .ok (.iload 6, 2) := qdX0_layInverse_41_24.2.2.2.2.1
theorem dX0_layInverse_50 : decode cX0_layInverse 50 = .ok (.irem, 1) := qdX0_layInverse_41_24.2.2.2.2.2.1
theorem dX0_layInverse_51 : decode cX0_layInverse 51 = .ok (.ifCond .ne 35, 3) := qdX0_layInverse_41_24.2.2.2.2.2.2.1
theorem dX0_layInverse_54 : decode cX0_layInverse 54 = .ok (.aload_n 0, 1) := qdX0_layInverse_41_24.2.2.2.2.2.2.2.1
theorem dX0_layInverse_55 : decode cX0_layInverse 55 = .ok (.getfield 9, 3) := qdX0_layInverse_41_24.2.2.2.2.2.2.2.2.1
theorem dX0_layInverse_58 : decode cX0_layInverse 58 = .ok (.lload 4, 2) := qdX0_layInverse_41_24.2.2.2.2.2.2.2.2.2.1
theorem dX0_layInverse_60 : decode cX0_layInverse 60 = .ok (.aload_n 0, 1) := qdX0_layInverse_41_24.2.2.2.2.2.2.2.2.2.2.1
theorem dX0_layInverse_61 : decode cX0_layInverse 61 = .ok (.getfield 9, 3) := qdX0_layInverse_41_24.2.2.2.2.2.2.2.2.2.2.2.1
theorem dX0_layInverse_64 : decode cX0_layInverse 64 = .ok (.aload_n 1, 1) := qdX0_layInverse_41_24.2.2.2.2.2.2.2.2.2.2.2.2.1
theorem dX0_layInverse_65 : decode cX0_layInverse 65 = .ok (.iload 6, 2) := qdX0_layInverse_41_24.2.2.2.2.2.2.2.2.2.2.2.2.2.1
theorem dX0_layInverse_67 : decode cX0_layInverse 67 = .ok (.invokevirtual 24, 3) := qdX0_layInverse_41_24.2.2.2.2.2.2.2.2.2.2.2.2.2.2.1
theorem dX0_layInverse_70 : decode cX0_layInverse 70 = .ok (.aload_n 2, 1) := qdX0_layInverse_41_24.2.2.2.2.2.2.2.2.2.2.2.2.2.2.2.1
theorem dX0_layInverse_71 : decode cX0_layInverse 71 = .ok (.iload_n 3, 1) := qdX0_layInverse_41_24.2.2.2.2.2.2.2.2.2.2.2.2.2.2.2.2.1
theorem dX0_layInverse_72 : decode cX0_layInverse 72 = .ok (.iload 6, 2) := qdX0_layInverse_41_24.2.2.2.2.2.2.2.2.2.2.2.2.2.2.2.2.2.1
theorem dX0_layInverse_74 : decode cX0_layInverse 74 = .ok (.idiv, 1) := qdX0_layInverse_41_24.2.2.2.2.2.2.2.2.2.2.2.2.2.2.2.2.2.2.1
theorem dX0_layInverse_75 : decode cX0_layInverse 75 = .ok (.invokevirtual 24, 3) := qdX0_layInverse_41_24.2.2.2.2.2.2.2.2.2.2.2.2.2.2.2.2.2.2.2.1
theorem dX0_layInverse_78 : decode cX0_layInverse 78 = .ok (.invokevirtual 41, 3) := qdX0_layInverse_41_24.2.2.2.2.2.2.2.2.2.2.2.2.2.2.2.2.2.2.2.2.1
theorem dX0_layInverse_81 : decode cX0_layInverse 81 = .ok (.invokevirtual 30, 3) := qdX0_layInverse_41_24.2.2.2.2.2.2.2.2.2.2.2.2.2.2.2.2.2.2.2.2.2.1
theorem dX0_layInverse_84 : decode cX0_layInverse 84 = .ok (.lstore 4, 2) := qdX0_layInverse_41_24.2.2.2.2.2.2.2.2.2.2.2.2.2.2.2.2.2.2.2.2.2.2.1
theorem dX0_layInverse_86 : decode cX0_layInverse 86 = .ok (.iinc 6 1, 3) := qdX0_layInverse_41_24.2.2.2.2.2.2.2.2.2.2.2.2.2.2.2.2.2.2.2.2.2.2.2.1
theorem qdX0_layInverse_89_22 : dcAll cX0_layInverse [(89, .goto (-48), 3), (92, .aload_n 2, 1), (93, .iload_n 3, 1), (94, .aload_n 0, 1), (95, .getfield 9, 3), (98, .lload 4, 2), (100, .aload_n 1, 1), (101, .iconst 1, 1), (102, .invokevirtual 24, 3), (105, .lneg, 1), (106, .invokevirtual 41, 3), (109, .invokevirtual 34, 3), (112, .iinc 3 1, 3), (115, .goto (-86), 3), (118, .aload_n 0, 1), (119, .getfield 9, 3), (122, .invokevirtual 44, 3), (125, .ifCond .ne 7, 3), (128, .iconst 1, 1), (129, .goto 4, 3), (132, .iconst 0, 1), (133, .ireturn, 1)] := dcAll_of (by decide +kernel)
theorem dX0_layInverse_89 : decode cX0_layInverse 89 = .ok (.goto (-48), 3) := qdX0_layInverse_89_22.1
theorem dX0_layInverse_92 : decode cX0_layInverse 92 = .ok (.aload_n 2, 1) := qdX0_layInverse_89_22.2.1
theorem dX0_layInverse_93 : decode cX0_layInverse 93 = .ok (.iload_n 3, 1) := qdX0_layInverse_89_22.2.2.1
theorem dX0_layInverse_94 : decode cX0_layInverse 94 = .ok (.aload_n 0, 1) := qdX0_layInverse_89_22.2.2.2.1
theorem dX0_layInverse_95 : decode cX0_layInverse 95 = .ok (.getfield 9, 3) := qdX0_layInverse_89_22.2.2.2.2.1
theorem dX0_layInverse_98 : decode cX0_layInverse 98 = .ok (.lload 4, 2) := qdX0_layInverse_89_22.2.2.2.2.2.1
theorem dX0_layInverse_100 : decode cX0_layInverse 100 = .ok (.aload_n 1, 1) := qdX0_layInverse_89_22.2.2.2.2.2.2.1
theorem dX0_layInverse_101 : decode cX0_layInverse 101 = .ok (.iconst 1, 1) := qdX0_layInverse_89_22.2.2.2.2.2.2.2.1
theorem dX0_layInverse_102 : decode cX0_layInverse 102 = .ok (.invokevirtual 24, 3) := qdX0_layInverse_89_22.2.2.2.2.2.2.2.2.1
theorem dX0_layInverse_105 : decode cX0_layInverse 105 = .ok (.lneg, 1) := qdX0_layInverse_89_22.2.2.2.2.2.2.2.2.2.1
theorem dX0_layInverse_106 : decode cX0_layInverse 106 = .ok (.invokevirtual 41, 3) := qdX0_layInverse_89_22.2.2.2.2.2.2.2.2.2.2.1
theorem dX0_layInverse_109 : decode cX0_layInverse 109 = .ok (.invokevirtual 34, 3) := qdX0_layInverse_89_22.2.2.2.2.2.2.2.2.2.2.2.1
theorem dX0_layInverse_112 : decode cX0_layInverse 112 = .ok (.iinc 3 1, 3) := qdX0_layInverse_89_22.2.2.2.2.2.2.2.2.2.2.2.2.1
theorem dX0_layInverse_115 : decode cX0_layInverse 115 = .ok (.goto (-86), 3) := qdX0_layInverse_89_22.2.2.2.2.2.2.2.2.2.2.2.2.2.1
theorem dX0_layInverse_118 : decode cX0_layInverse 118 = .ok (.aload_n 0, 1) := qdX0_layInverse_89_22.2.2.2.2.2.2.2.2.2.2.2.2.2.2.1
theorem dX0_layInverse_119 : decode cX0_layInverse 119 = .ok (.getfield 9, 3) := qdX0_layInverse_89_22.2.2.2.2.2.2.2.2.2.2.2.2.2.2.2.1
theorem dX0_layInverse_122 : decode cX0_layInverse 122 = .ok (.invokevirtual 44, 3) := qdX0_layInverse_89_22.2.2.2.2.2.2.2.2.2.2.2.2.2.2.2.2.1
theorem dX0_layInverse_125 : decode cX0_layInverse 125 = .ok (.ifCond .ne 7, 3) := qdX0_layInverse_89_22.2.2.2.2.2.2.2.2.2.2.2.2.2.2.2.2.2.1
theorem dX0_layInverse_128 : decode cX0_layInverse 128 = .ok (.iconst 1, 1) := qdX0_layInverse_89_22.2.2.2.2.2.2.2.2.2.2.2.2.2.2.2.2.2.2.1
theorem dX0_layInverse_129 : decode cX0_layInverse 129 = .ok (.goto 4, 3) := qdX0_layInverse_89_22.2.2.2.2.2.2.2.2.2.2.2.2.2.2.2.2.2.2.2.1
theorem dX0_layInverse_132 : decode cX0_layInverse 132 = .ok (.iconst 0, 1) := qdX0_layInverse_89_22.2.2.2.2.2.2.2.2.2.2.2.2.2.2.2.2.2.2.2.2.1
theorem dX0_layInverse_133 : decode cX0_layInverse 133 = .ok (.ireturn, 1) := qdX0_layInverse_89_22.2.2.2.2.2.2.2.2.2.2.2.2.2.2.2.2.2.2.2.2.2.1
theorem ggX0_laySummed_X3_begin : GoodIn wsX0_laySummed wsX3_begin := fun w h => ⟨List.mem_cons_of_mem _ (List.mem_append_left _ (List.mem_append_left _ (List.mem_append_left _ (List.mem_append_left _ (List.mem_append_right _ h))))), zq_X3_begin w h⟩
set_option maxRecDepth 20000 in
theorem gX0_laySummed_X3_begin : GoodIn wsX0_laySummed (wsV RX0 19 RX3 yX3_begin wsX3_begin) := goodIn_app (goodIn_r _ [2, 3, 4, 5] rfl rfl) ggX0_laySummed_X3_begin
theorem ggX0_laySummed_X4_at : GoodIn wsX0_laySummed wsX4_at := fun w h => ⟨List.mem_cons_of_mem _ (List.mem_append_left _ (List.mem_append_left _ (List.mem_append_left _ (List.mem_append_right _ h)))), zq_X4_at w h⟩
set_option maxRecDepth 20000 in
theorem gX0_laySummed_X4_at : GoodIn wsX0_laySummed (wsV RX0 24 RX4 yX4_at wsX4_at) := goodIn_app (goodIn_r _ [6, 7, 8, 9] rfl rfl) ggX0_laySummed_X4_at
theorem ggX0_laySummed_X3_plus : GoodIn wsX0_laySummed wsX3_plus := fun w h => ⟨List.mem_cons_of_mem _ (List.mem_append_left _ (List.mem_append_left _ (List.mem_append_right _ h))), zq_X3_plus w h⟩
set_option maxRecDepth 20000 in
theorem gX0_laySummed_X3_plus : GoodIn wsX0_laySummed (wsV RX0 30 RX3 yX3_plus wsX3_plus) := goodIn_app (goodIn_r _ [10, 11, 12, 5] rfl rfl) ggX0_laySummed_X3_plus
theorem ggX0_laySummed_X4_lay : GoodIn wsX0_laySummed wsX4_lay := fun w h => ⟨List.mem_cons_of_mem _ (List.mem_append_left _ (List.mem_append_right _ h)), zq_X4_lay w h⟩
set_option maxRecDepth 20000 in
theorem gX0_laySummed_X4_lay : GoodIn wsX0_laySummed (wsV RX0 34 RX4 yX4_lay wsX4_lay) := goodIn_app (goodIn_r _ [13, 14, 15, 9] rfl rfl) ggX0_laySummed_X4_lay
theorem ggX0_laySummed_X3_isBeyond : GoodIn wsX0_laySummed wsX3_isBeyond := fun w h => ⟨List.mem_cons_of_mem _ (List.mem_append_right _ h), zq_X3_isBeyond w h⟩
set_option maxRecDepth 20000 in
theorem gX0_laySummed_X3_isBeyond : GoodIn wsX0_laySummed (wsV RX0 44 RX3 yX3_isBeyond wsX3_isBeyond) := goodIn_app (goodIn_r _ [16, 17, 18, 5] rfl rfl) ggX0_laySummed_X3_isBeyond
theorem qdX0_laySummed_0_24 : dcAll cX0_laySummed [(0, .aload_n 0, 1), (1, .getfield 9, 3), (4, .invokevirtual 19, 3), (7, .iconst 1, 1), (8, .istore_n 3, 1), (9, .iload_n 3, 1), (10, .bipush 120, 2), (12, .if_icmp .gt 58, 3), (15, .lconst 0, 1), (16, .lstore 4, 2), (18, .iconst 1, 1), (19, .istore 6, 2), (21, .iload 6, 2), (23, .iload_n 3, 1), (24, .if_icmp .gt 33, 3), (27, .iload_n 3, 1), (28, .iload 6, 2), (30, .irem, 1), (31, .ifCond .ne 20, 3), (34, .aload_n 0, 1), (35, .getfield 9, 3), (38, .lload 4, 2), (40, .aload_n 1, 1), (41, .iload 6, 2)] := dcAll_of (by decide +kernel)
theorem dX0_laySummed_0 : decode cX0_laySummed 0 = .ok (.aload_n 0, 1) := qdX0_laySummed_0_24.1
theorem dX0_laySummed_1 : decode cX0_laySummed 1 = .ok (.getfield 9, 3) := qdX0_laySummed_0_24.2.1
theorem dX0_laySummed_4 : decode cX0_laySummed 4 = .ok (.invokevirtual 19, 3) := qdX0_laySummed_0_24.2.2.1
theorem dX0_laySummed_7 : decode cX0_laySummed 7 = .ok (.iconst 1, 1) := qdX0_laySummed_0_24.2.2.2.1
theorem dX0_laySummed_8 : decode cX0_laySummed 8 = .ok (.istore_n 3, 1) := qdX0_laySummed_0_24.2.2.2.2.1
theorem dX0_laySummed_9 : decode cX0_laySummed 9 = .ok (.iload_n 3, 1) := qdX0_laySummed_0_24.2.2.2.2.2.1
theorem dX0_laySummed_10 : decode cX0_laySummed 10 = .ok (.bipush 120, 2) := qdX0_laySummed_0_24.2.2.2.2.2.2.1
theorem dX0_laySummed_12 : decode cX0_laySummed 12 = .ok (.if_icmp .gt 58, 3) := qdX0_laySummed_0_24.2.2.2.2.2.2.2.1
theorem dX0_laySummed_15 : decode cX0_laySummed 15 = .ok (.lconst 0, 1) := qdX0_laySummed_0_24.2.2.2.2.2.2.2.2.1
theorem dX0_laySummed_16 : decode cX0_laySummed 16 = .ok (.lstore 4, 2) := qdX0_laySummed_0_24.2.2.2.2.2.2.2.2.2.1
theorem dX0_laySummed_18 : decode cX0_laySummed 18 = .ok (.iconst 1, 1) := qdX0_laySummed_0_24.2.2.2.2.2.2.2.2.2.2.1
theorem dX0_laySummed_19 : decode cX0_laySummed 19 = .ok (.istore 6, 2) := qdX0_laySummed_0_24.2.2.2.2.2.2.2.2.2.2.2.1
theorem dX0_laySummed_21 : decode cX0_laySummed 21 = .ok (.iload 6, 2) := qdX0_laySummed_0_24.2.2.2.2.2.2.2.2.2.2.2.2.1
theorem dX0_laySummed_23 : decode cX0_laySummed 23 = .ok (.iload_n 3, 1) := qdX0_laySummed_0_24.2.2.2.2.2.2.2.2.2.2.2.2.2.1
theorem dX0_laySummed_24 : decode cX0_laySummed 24 = .ok (.if_icmp .gt 33, 3) := qdX0_laySummed_0_24.2.2.2.2.2.2.2.2.2.2.2.2.2.2.1
theorem dX0_laySummed_27 : decode cX0_laySummed 27 = .ok (.iload_n 3, 1) := qdX0_laySummed_0_24.2.2.2.2.2.2.2.2.2.2.2.2.2.2.2.1
theorem dX0_laySummed_28 : decode cX0_laySummed 28 = .ok (.iload 6, 2) := qdX0_laySummed_0_24.2.2.2.2.2.2.2.2.2.2.2.2.2.2.2.2.1
theorem dX0_laySummed_30 : decode cX0_laySummed 30 = .ok (.irem, 1) := qdX0_laySummed_0_24.2.2.2.2.2.2.2.2.2.2.2.2.2.2.2.2.2.1
theorem dX0_laySummed_31 : decode cX0_laySummed 31 = .ok (.ifCond .ne 20, 3) := qdX0_laySummed_0_24.2.2.2.2.2.2.2.2.2.2.2.2.2.2.2.2.2.2.1
theorem dX0_laySummed_34 : decode cX0_laySummed 34 = .ok (.aload_n 0, 1) := qdX0_laySummed_0_24.2.2.2.2.2.2.2.2.2.2.2.2.2.2.2.2.2.2.2.1
theorem dX0_laySummed_35 : decode cX0_laySummed 35 = .ok (.getfield 9, 3) := qdX0_laySummed_0_24.2.2.2.2.2.2.2.2.2.2.2.2.2.2.2.2.2.2.2.2.1
theorem dX0_laySummed_38 : decode cX0_laySummed 38 = .ok (.lload 4, 2) := qdX0_laySummed_0_24.2.2.2.2.2.2.2.2.2.2.2.2.2.2.2.2.2.2.2.2.2.1
theorem dX0_laySummed_40 : decode cX0_laySummed 40 = .ok (.aload_n 1, 1) := qdX0_laySummed_0_24.2.2.2.2.2.2.2.2.2.2.2.2.2.2.2.2.2.2.2.2.2.2.1
theorem dX0_laySummed_41 : decode cX0_laySummed 41 = .ok (.iload 6, 2) := qdX0_laySummed_0_24.2.2.2.2.2.2.2.2.2.2.2.2.2.2.2.2.2.2.2.2.2.2.2.1
theorem qdX0_laySummed_43_19 : dcAll cX0_laySummed [(43, .invokevirtual 24, 3), (46, .invokevirtual 30, 3), (49, .lstore 4, 2), (51, .iinc 6 1, 3), (54, .goto (-33), 3), (57, .aload_n 2, 1), (58, .iload_n 3, 1), (59, .lload 4, 2), (61, .invokevirtual 34, 3), (64, .iinc 3 1, 3), (67, .goto (-58), 3), (70, .aload_n 0, 1), (71, .getfield 9, 3), (74, .invokevirtual 44, 3), (77, .ifCond .ne 7, 3), (80, .iconst 1, 1), (81, .goto 4, 3), (84, .iconst 0, 1), (85, .ireturn, 1)] := dcAll_of (by decide +kernel)
theorem dX0_laySummed_43 : decode cX0_laySummed 43 = .ok (.invokevirtual 24, 3) := qdX0_laySummed_43_19.1
theorem dX0_laySummed_46 : decode cX0_laySummed 46 = .ok (.invokevirtual 30, 3) := qdX0_laySummed_43_19.2.1
theorem dX0_laySummed_49 : decode cX0_laySummed 49 = .ok (.lstore 4, 2) := qdX0_laySummed_43_19.2.2.1
theorem dX0_laySummed_51 : decode cX0_laySummed 51 = .ok (.iinc 6 1, 3) := qdX0_laySummed_43_19.2.2.2.1
theorem dX0_laySummed_54 : decode cX0_laySummed 54 = .ok (.goto (-33), 3) := qdX0_laySummed_43_19.2.2.2.2.1
theorem dX0_laySummed_57 : decode cX0_laySummed 57 = .ok (.aload_n 2, 1) := qdX0_laySummed_43_19.2.2.2.2.2.1
theorem dX0_laySummed_58 : decode cX0_laySummed 58 = .ok (.iload_n 3, 1) := qdX0_laySummed_43_19.2.2.2.2.2.2.1
theorem dX0_laySummed_59 : decode cX0_laySummed 59 = .ok (.lload 4, 2) := qdX0_laySummed_43_19.2.2.2.2.2.2.2.1
theorem dX0_laySummed_61 : decode cX0_laySummed 61 = .ok (.invokevirtual 34, 3) := qdX0_laySummed_43_19.2.2.2.2.2.2.2.2.1
theorem dX0_laySummed_64 : decode cX0_laySummed 64 = .ok (.iinc 3 1, 3) := qdX0_laySummed_43_19.2.2.2.2.2.2.2.2.2.1
theorem dX0_laySummed_67 : decode cX0_laySummed 67 = .ok (.goto (-58), 3) := qdX0_laySummed_43_19.2.2.2.2.2.2.2.2.2.2.1
theorem dX0_laySummed_70 : decode cX0_laySummed 70 = .ok (.aload_n 0, 1) := qdX0_laySummed_43_19.2.2.2.2.2.2.2.2.2.2.2.1
theorem dX0_laySummed_71 : decode cX0_laySummed 71 = .ok (.getfield 9, 3) := qdX0_laySummed_43_19.2.2.2.2.2.2.2.2.2.2.2.2.1
theorem dX0_laySummed_74 : decode cX0_laySummed 74 = .ok (.invokevirtual 44, 3) := qdX0_laySummed_43_19.2.2.2.2.2.2.2.2.2.2.2.2.2.1
theorem dX0_laySummed_77 : decode cX0_laySummed 77 = .ok (.ifCond .ne 7, 3) := qdX0_laySummed_43_19.2.2.2.2.2.2.2.2.2.2.2.2.2.2.1
theorem dX0_laySummed_80 : decode cX0_laySummed 80 = .ok (.iconst 1, 1) := qdX0_laySummed_43_19.2.2.2.2.2.2.2.2.2.2.2.2.2.2.2.1
theorem dX0_laySummed_81 : decode cX0_laySummed 81 = .ok (.goto 4, 3) := qdX0_laySummed_43_19.2.2.2.2.2.2.2.2.2.2.2.2.2.2.2.2.1
theorem dX0_laySummed_84 : decode cX0_laySummed 84 = .ok (.iconst 0, 1) := qdX0_laySummed_43_19.2.2.2.2.2.2.2.2.2.2.2.2.2.2.2.2.2.1
theorem dX0_laySummed_85 : decode cX0_laySummed 85 = .ok (.ireturn, 1) := qdX0_laySummed_43_19.2.2.2.2.2.2.2.2.2.2.2.2.2.2.2.2.2.2.1
theorem ggX0_laySigned_X3_begin : GoodIn wsX0_laySigned wsX3_begin := fun w h => ⟨List.mem_cons_of_mem _ (List.mem_append_left _ (List.mem_append_left _ (List.mem_append_left _ (List.mem_append_right _ h)))), zq_X3_begin w h⟩
set_option maxRecDepth 20000 in
theorem gX0_laySigned_X3_begin : GoodIn wsX0_laySigned (wsV RX0 19 RX3 yX3_begin wsX3_begin) := goodIn_app (goodIn_r _ [1, 2, 3, 4] rfl rfl) ggX0_laySigned_X3_begin
theorem ggX0_laySigned_X0_signedAt : GoodIn wsX0_laySigned wsX0_signedAt := fun w h => ⟨List.mem_cons_of_mem _ (List.mem_append_left _ (List.mem_append_left _ (List.mem_append_right _ h))), zq_X0_signedAt w h⟩
set_option maxRecDepth 20000 in
theorem gX0_laySigned_X0_signedAt : GoodIn wsX0_laySigned (wsV RX0 73 RX0 yX0_signedAt wsX0_signedAt) := goodIn_app (goodIn_r _ [5, 6, 7, 8] rfl rfl) ggX0_laySigned_X0_signedAt
theorem ggX0_laySigned_X4_lay : GoodIn wsX0_laySigned wsX4_lay := fun w h => ⟨List.mem_cons_of_mem _ (List.mem_append_left _ (List.mem_append_right _ h)), zq_X4_lay w h⟩
set_option maxRecDepth 20000 in
theorem gX0_laySigned_X4_lay : GoodIn wsX0_laySigned (wsV RX0 34 RX4 yX4_lay wsX4_lay) := goodIn_app (goodIn_r _ [12, 13, 14, 11] rfl rfl) ggX0_laySigned_X4_lay
theorem ggX0_laySigned_X3_isBeyond : GoodIn wsX0_laySigned wsX3_isBeyond := fun w h => ⟨List.mem_cons_of_mem _ (List.mem_append_right _ h), zq_X3_isBeyond w h⟩
set_option maxRecDepth 20000 in
theorem gX0_laySigned_X3_isBeyond : GoodIn wsX0_laySigned (wsV RX0 44 RX3 yX3_isBeyond wsX3_isBeyond) := goodIn_app (goodIn_r _ [15, 16, 17, 4] rfl rfl) ggX0_laySigned_X3_isBeyond
theorem qdX0_laySigned_0_24 : dcAll cX0_laySigned [(0, .aload_n 0, 1), (1, .getfield 9, 3), (4, .invokevirtual 19, 3), (7, .iconst 1, 1), (8, .istore_n 3, 1), (9, .iload_n 3, 1), (10, .bipush 120, 2), (12, .if_icmp .gt 20, 3), (15, .aload_n 2, 1), (16, .iload_n 3, 1), (17, .aload_n 0, 1), (18, .aload_n 1, 1), (19, .iload_n 3, 1), (20, .invokevirtual 73, 3), (23, .invokevirtual 34, 3), (26, .iinc 3 1, 3), (29, .goto (-20), 3), (32, .aload_n 0, 1), (33, .getfield 9, 3), (36, .invokevirtual 44, 3), (39, .ifCond .ne 7, 3), (42, .iconst 1, 1), (43, .goto 4, 3), (46, .iconst 0, 1)] := dcAll_of (by decide +kernel)
theorem dX0_laySigned_0 : decode cX0_laySigned 0 = .ok (.aload_n 0, 1) := qdX0_laySigned_0_24.1
theorem dX0_laySigned_1 : decode cX0_laySigned 1 = .ok (.getfield 9, 3) := qdX0_laySigned_0_24.2.1
theorem dX0_laySigned_4 : decode cX0_laySigned 4 = .ok (.invokevirtual 19, 3) := qdX0_laySigned_0_24.2.2.1
theorem dX0_laySigned_7 : decode cX0_laySigned 7 = .ok (.iconst 1, 1) := qdX0_laySigned_0_24.2.2.2.1
theorem dX0_laySigned_8 : decode cX0_laySigned 8 = .ok (.istore_n 3, 1) := qdX0_laySigned_0_24.2.2.2.2.1
theorem dX0_laySigned_9 : decode cX0_laySigned 9 = .ok (.iload_n 3, 1) := qdX0_laySigned_0_24.2.2.2.2.2.1
theorem dX0_laySigned_10 : decode cX0_laySigned 10 = .ok (.bipush 120, 2) := qdX0_laySigned_0_24.2.2.2.2.2.2.1
theorem dX0_laySigned_12 : decode cX0_laySigned 12 = .ok (.if_icmp .gt 20, 3) := qdX0_laySigned_0_24.2.2.2.2.2.2.2.1
theorem dX0_laySigned_15 : decode cX0_laySigned 15 = .ok (.aload_n 2, 1) := qdX0_laySigned_0_24.2.2.2.2.2.2.2.2.1
theorem dX0_laySigned_16 : decode cX0_laySigned 16 = .ok (.iload_n 3, 1) := qdX0_laySigned_0_24.2.2.2.2.2.2.2.2.2.1
theorem dX0_laySigned_17 : decode cX0_laySigned 17 = .ok (.aload_n 0, 1) := qdX0_laySigned_0_24.2.2.2.2.2.2.2.2.2.2.1
theorem dX0_laySigned_18 : decode cX0_laySigned 18 = .ok (.aload_n 1, 1) := qdX0_laySigned_0_24.2.2.2.2.2.2.2.2.2.2.2.1
theorem dX0_laySigned_19 : decode cX0_laySigned 19 = .ok (.iload_n 3, 1) := qdX0_laySigned_0_24.2.2.2.2.2.2.2.2.2.2.2.2.1
theorem dX0_laySigned_20 : decode cX0_laySigned 20 = .ok (.invokevirtual 73, 3) := qdX0_laySigned_0_24.2.2.2.2.2.2.2.2.2.2.2.2.2.1
theorem dX0_laySigned_23 : decode cX0_laySigned 23 = .ok (.invokevirtual 34, 3) := qdX0_laySigned_0_24.2.2.2.2.2.2.2.2.2.2.2.2.2.2.1
theorem dX0_laySigned_26 : decode cX0_laySigned 26 = .ok (.iinc 3 1, 3) := qdX0_laySigned_0_24.2.2.2.2.2.2.2.2.2.2.2.2.2.2.2.1
theorem dX0_laySigned_29 : decode cX0_laySigned 29 = .ok (.goto (-20), 3) := qdX0_laySigned_0_24.2.2.2.2.2.2.2.2.2.2.2.2.2.2.2.2.1
theorem dX0_laySigned_32 : decode cX0_laySigned 32 = .ok (.aload_n 0, 1) := qdX0_laySigned_0_24.2.2.2.2.2.2.2.2.2.2.2.2.2.2.2.2.2.1
theorem dX0_laySigned_33 : decode cX0_laySigned 33 = .ok (.getfield 9, 3) := qdX0_laySigned_0_24.2.2.2.2.2.2.2.2.2.2.2.2.2.2.2.2.2.2.1
theorem dX0_laySigned_36 : decode cX0_laySigned 36 = .ok (.invokevirtual 44, 3) := qdX0_laySigned_0_24.2.2.2.2.2.2.2.2.2.2.2.2.2.2.2.2.2.2.2.1
theorem dX0_laySigned_39 : decode cX0_laySigned 39 = .ok (.ifCond .ne 7, 3) := qdX0_laySigned_0_24.2.2.2.2.2.2.2.2.2.2.2.2.2.2.2.2.2.2.2.2.1
theorem dX0_laySigned_42 : decode cX0_laySigned 42 = .ok (.iconst 1, 1) := qdX0_laySigned_0_24.2.2.2.2.2.2.2.2.2.2.2.2.2.2.2.2.2.2.2.2.2.1
theorem dX0_laySigned_43 : decode cX0_laySigned 43 = .ok (.goto 4, 3) := qdX0_laySigned_0_24.2.2.2.2.2.2.2.2.2.2.2.2.2.2.2.2.2.2.2.2.2.2.1
theorem dX0_laySigned_46 : decode cX0_laySigned 46 = .ok (.iconst 0, 1) := qdX0_laySigned_0_24.2.2.2.2.2.2.2.2.2.2.2.2.2.2.2.2.2.2.2.2.2.2.2.1
theorem dX0_laySigned_47 : decode cX0_laySigned 47 = .ok (.ireturn, 1) := by decide +kernel
theorem ggX0_signedAt_X1_signByPowers : GoodIn wsX0_signedAt wsX1_signByPowers := fun w h => ⟨List.mem_cons_of_mem _ (List.mem_append_left _ (List.mem_append_left _ (List.mem_append_left _ (List.mem_append_right _ h)))), zq_X1_signByPowers w h⟩
set_option maxRecDepth 20000 in
theorem gX0_signedAt_X1_signByPowers : GoodIn wsX0_signedAt (wsV RX0 77 RX1 yX1_signByPowers wsX1_signByPowers) := goodIn_app (goodIn_r _ [3, 4, 5, 6] rfl rfl) ggX0_signedAt_X1_signByPowers
theorem ggX0_signedAt_X4_at : GoodIn wsX0_signedAt wsX4_at := fun w h => ⟨List.mem_cons_of_mem _ (List.mem_append_left _ (List.mem_append_left _ (List.mem_append_right _ h))), zq_X4_at w h⟩
set_option maxRecDepth 20000 in
theorem gX0_signedAt_X4_at : GoodIn wsX0_signedAt (wsV RX0 24 RX4 yX4_at wsX4_at) := goodIn_app (goodIn_r _ [8, 9, 10, 11] rfl rfl) ggX0_signedAt_X4_at
theorem ggX0_signedAt_X3_times : GoodIn wsX0_signedAt wsX3_times := fun w h => ⟨List.mem_cons_of_mem _ (List.mem_append_left _ (List.mem_append_right _ h)), zq_X3_times w h⟩
set_option maxRecDepth 20000 in
theorem gX0_signedAt_X3_times : GoodIn wsX0_signedAt (wsV RX0 41 RX3 yX3_times wsX3_times) := goodIn_app (goodIn_r _ [12, 13, 14, 15] rfl rfl) ggX0_signedAt_X3_times
theorem ggX0_signedAt_X3_plus : GoodIn wsX0_signedAt wsX3_plus := fun w h => ⟨List.mem_cons_of_mem _ (List.mem_append_right _ h), zq_X3_plus w h⟩
set_option maxRecDepth 20000 in
theorem gX0_signedAt_X3_plus : GoodIn wsX0_signedAt (wsV RX0 30 RX3 yX3_plus wsX3_plus) := goodIn_app (goodIn_r _ [16, 17, 18, 15] rfl rfl) ggX0_signedAt_X3_plus
theorem qdX0_signedAt_0_24 : dcAll cX0_signedAt [(0, .lconst 0, 1), (1, .lstore_n 3, 1), (2, .iconst 1, 1), (3, .istore 5, 2), (5, .iload 5, 2), (7, .iload_n 2, 1), (8, .if_icmp .gt 50, 3), (11, .iload_n 2, 1), (12, .iload 5, 2), (14, .irem, 1), (15, .ifCond .ne 37, 3), (18, .aload_n 0, 1), (19, .getfield 9, 3), (22, .lload_n 3, 1), (23, .aload_n 0, 1), (24, .getfield 9, 3), (27, .aload_n 0, 1), (28, .getfield 15, 3), (31, .iload 5, 2), (33, .invokevirtual 77, 3), (36, .i2l, 1), (37, .aload_n 1, 1), (38, .iload_n 2, 1), (39, .iload 5, 2)] := dcAll_of (by decide +kernel)
theorem dX0_signedAt_0 : decode cX0_signedAt 0 = .ok (.lconst 0, 1) := qdX0_signedAt_0_24.1
theorem dX0_signedAt_1 : decode cX0_signedAt 1 = .ok (.lstore_n 3, 1) := qdX0_signedAt_0_24.2.1
theorem dX0_signedAt_2 : decode cX0_signedAt 2 = .ok (.iconst 1, 1) := qdX0_signedAt_0_24.2.2.1
theorem dX0_signedAt_3 : decode cX0_signedAt 3 = .ok (.istore 5, 2) := qdX0_signedAt_0_24.2.2.2.1
theorem dX0_signedAt_5 : decode cX0_signedAt 5 = .ok (.iload 5, 2) := qdX0_signedAt_0_24.2.2.2.2.1
theorem dX0_signedAt_7 : decode cX0_signedAt 7 = .ok (.iload_n 2, 1) := qdX0_signedAt_0_24.2.2.2.2.2.1
theorem dX0_signedAt_8 : decode cX0_signedAt 8 = .ok (.if_icmp .gt 50, 3) := qdX0_signedAt_0_24.2.2.2.2.2.2.1
theorem dX0_signedAt_11 : decode cX0_signedAt 11 = .ok (.iload_n 2, 1) := qdX0_signedAt_0_24.2.2.2.2.2.2.2.1
theorem dX0_signedAt_12 : decode cX0_signedAt 12 = .ok (.iload 5, 2) := qdX0_signedAt_0_24.2.2.2.2.2.2.2.2.1
theorem dX0_signedAt_14 : decode cX0_signedAt 14 = .ok (.irem, 1) := qdX0_signedAt_0_24.2.2.2.2.2.2.2.2.2.1
theorem dX0_signedAt_15 : decode cX0_signedAt 15 = .ok (.ifCond .ne 37, 3) := qdX0_signedAt_0_24.2.2.2.2.2.2.2.2.2.2.1
theorem dX0_signedAt_18 : decode cX0_signedAt 18 = .ok (.aload_n 0, 1) := qdX0_signedAt_0_24.2.2.2.2.2.2.2.2.2.2.2.1
theorem dX0_signedAt_19 : decode cX0_signedAt 19 = .ok (.getfield 9, 3) := qdX0_signedAt_0_24.2.2.2.2.2.2.2.2.2.2.2.2.1
theorem dX0_signedAt_22 : decode cX0_signedAt 22 = .ok (.lload_n 3, 1) := qdX0_signedAt_0_24.2.2.2.2.2.2.2.2.2.2.2.2.2.1
theorem dX0_signedAt_23 : decode cX0_signedAt 23 = .ok (.aload_n 0, 1) := qdX0_signedAt_0_24.2.2.2.2.2.2.2.2.2.2.2.2.2.2.1
theorem dX0_signedAt_24 : decode cX0_signedAt 24 = .ok (.getfield 9, 3) := qdX0_signedAt_0_24.2.2.2.2.2.2.2.2.2.2.2.2.2.2.2.1
theorem dX0_signedAt_27 : decode cX0_signedAt 27 = .ok (.aload_n 0, 1) := qdX0_signedAt_0_24.2.2.2.2.2.2.2.2.2.2.2.2.2.2.2.2.1
theorem dX0_signedAt_28 : decode cX0_signedAt 28 = .ok (.getfield 15, 3) := qdX0_signedAt_0_24.2.2.2.2.2.2.2.2.2.2.2.2.2.2.2.2.2.1
theorem dX0_signedAt_31 : decode cX0_signedAt 31 = .ok (.iload 5, 2) := qdX0_signedAt_0_24.2.2.2.2.2.2.2.2.2.2.2.2.2.2.2.2.2.2.1
theorem dX0_signedAt_33 : decode cX0_signedAt 33 = .ok (.invokevirtual 77, 3) := qdX0_signedAt_0_24.2.2.2.2.2.2.2.2.2.2.2.2.2.2.2.2.2.2.2.1
theorem dX0_signedAt_36 : decode cX0_signedAt 36 = .ok (.i2l, 1) := qdX0_signedAt_0_24.2.2.2.2.2.2.2.2.2.2.2.2.2.2.2.2.2.2.2.2.1
theorem dX0_signedAt_37 : decode cX0_signedAt 37 = .ok (.aload_n 1, 1) := qdX0_signedAt_0_24.2.2.2.2.2.2.2.2.2.2.2.2.2.2.2.2.2.2.2.2.2.1
theorem dX0_signedAt_38 : decode cX0_signedAt 38 = .ok (.iload_n 2, 1) := qdX0_signedAt_0_24.2.2.2.2.2.2.2.2.2.2.2.2.2.2.2.2.2.2.2.2.2.2.1
theorem dX0_signedAt_39 : decode cX0_signedAt 39 = .ok (.iload 5, 2) := qdX0_signedAt_0_24.2.2.2.2.2.2.2.2.2.2.2.2.2.2.2.2.2.2.2.2.2.2.2.1
theorem qdX0_signedAt_41_9 : dcAll cX0_signedAt [(41, .idiv, 1), (42, .invokevirtual 24, 3), (45, .invokevirtual 41, 3), (48, .invokevirtual 30, 3), (51, .lstore_n 3, 1), (52, .iinc 5 1, 3), (55, .goto (-50), 3), (58, .lload_n 3, 1), (59, .lreturn, 1)] := dcAll_of (by decide +kernel)
theorem dX0_signedAt_41 : decode cX0_signedAt 41 = .ok (.idiv, 1) := qdX0_signedAt_41_9.1
theorem dX0_signedAt_42 : decode cX0_signedAt 42 = .ok (.invokevirtual 24, 3) := qdX0_signedAt_41_9.2.1
theorem dX0_signedAt_45 : decode cX0_signedAt 45 = .ok (.invokevirtual 41, 3) := qdX0_signedAt_41_9.2.2.1
theorem dX0_signedAt_48 : decode cX0_signedAt 48 = .ok (.invokevirtual 30, 3) := qdX0_signedAt_41_9.2.2.2.1
theorem dX0_signedAt_51 : decode cX0_signedAt 51 = .ok (.lstore_n 3, 1) := qdX0_signedAt_41_9.2.2.2.2.1
theorem dX0_signedAt_52 : decode cX0_signedAt 52 = .ok (.iinc 5 1, 3) := qdX0_signedAt_41_9.2.2.2.2.2.1
theorem dX0_signedAt_55 : decode cX0_signedAt 55 = .ok (.goto (-50), 3) := qdX0_signedAt_41_9.2.2.2.2.2.2.1
theorem dX0_signedAt_58 : decode cX0_signedAt 58 = .ok (.lload_n 3, 1) := qdX0_signedAt_41_9.2.2.2.2.2.2.2.1
theorem dX0_signedAt_59 : decode cX0_signedAt 59 = .ok (.lreturn, 1) := qdX0_signedAt_41_9.2.2.2.2.2.2.2.2.1
theorem ggX0_layByPrimes_X3_begin : GoodIn wsX0_layByPrimes wsX3_begin := fun w h => ⟨List.mem_cons_of_mem _ (List.mem_append_left _ (List.mem_append_left _ (List.mem_append_left _ (List.mem_append_left _ (List.mem_append_left _ (List.mem_append_left _ (List.mem_append_left _ (List.mem_append_right _ h)))))))), zq_X3_begin w h⟩
set_option maxRecDepth 20000 in
theorem gX0_layByPrimes_X3_begin : GoodIn wsX0_layByPrimes (wsV RX0 19 RX3 yX3_begin wsX3_begin) := goodIn_app (goodIn_r _ [3, 4, 5, 6] rfl rfl) ggX0_layByPrimes_X3_begin
theorem ggX0_layByPrimes_X1_powersOf : GoodIn wsX0_layByPrimes wsX1_powersOf := fun w h => ⟨List.mem_cons_of_mem _ (List.mem_append_left _ (List.mem_append_left _ (List.mem_append_left _ (List.mem_append_left _ (List.mem_append_left _ (List.mem_append_left _ (List.mem_append_right _ h))))))), zq_X1_powersOf w h⟩
set_option maxRecDepth 20000 in
theorem gX0_layByPrimes_X1_powersOf : GoodIn wsX0_layByPrimes (wsV RX0 83 RX1 yX1_powersOf wsX1_powersOf) := goodIn_app (goodIn_r _ [7, 8, 9, 10] rfl rfl) ggX0_layByPrimes_X1_powersOf
theorem ggX0_layByPrimes_X2_count : GoodIn wsX0_layByPrimes wsX2_count := fun w h => ⟨List.mem_cons_of_mem _ (List.mem_append_left _ (List.mem_append_left _ (List.mem_append_left _ (List.mem_append_left _ (List.mem_append_left _ (List.mem_append_right _ h)))))), zq_X2_count w h⟩
set_option maxRecDepth 20000 in
theorem gX0_layByPrimes_X2_count : GoodIn wsX0_layByPrimes (wsV RX0 87 RX2 yX2_count wsX2_count) := goodIn_app (goodIn_r _ [12, 13, 14, 11] rfl rfl) ggX0_layByPrimes_X2_count
theorem ggX0_layByPrimes_X2_powerAt : GoodIn wsX0_layByPrimes wsX2_powerAt := fun w h => ⟨List.mem_cons_of_mem _ (List.mem_append_left _ (List.mem_append_left _ (List.mem_append_left _ (List.mem_append_left _ (List.mem_append_right _ h))))), zq_X2_powerAt w h⟩
set_option maxRecDepth 20000 in
theorem gX0_layByPrimes_X2_powerAt : GoodIn wsX0_layByPrimes (wsV RX0 93 RX2 yX2_powerAt wsX2_powerAt) := goodIn_app (goodIn_r _ [15, 16, 17, 11] rfl rfl) ggX0_layByPrimes_X2_powerAt
theorem ggX0_layByPrimes_X4_at : GoodIn wsX0_layByPrimes wsX4_at := fun w h => ⟨List.mem_cons_of_mem _ (List.mem_append_left _ (List.mem_append_left _ (List.mem_append_left _ (List.mem_append_right _ h)))), zq_X4_at w h⟩
set_option maxRecDepth 20000 in
theorem gX0_layByPrimes_X4_at : GoodIn wsX0_layByPrimes (wsV RX0 24 RX4 yX4_at wsX4_at) := goodIn_app (goodIn_r _ [18, 19, 20, 21] rfl rfl) ggX0_layByPrimes_X4_at
theorem ggX0_layByPrimes_X3_times : GoodIn wsX0_layByPrimes wsX3_times := fun w h => ⟨List.mem_cons_of_mem _ (List.mem_append_left _ (List.mem_append_left _ (List.mem_append_right _ h))), zq_X3_times w h⟩
set_option maxRecDepth 20000 in
theorem gX0_layByPrimes_X3_times : GoodIn wsX0_layByPrimes (wsV RX0 41 RX3 yX3_times wsX3_times) := goodIn_app (goodIn_r _ [22, 23, 24, 6] rfl rfl) ggX0_layByPrimes_X3_times
theorem ggX0_layByPrimes_X4_lay : GoodIn wsX0_layByPrimes wsX4_lay := fun w h => ⟨List.mem_cons_of_mem _ (List.mem_append_left _ (List.mem_append_right _ h)), zq_X4_lay w h⟩
set_option maxRecDepth 20000 in
theorem gX0_layByPrimes_X4_lay : GoodIn wsX0_layByPrimes (wsV RX0 34 RX4 yX4_lay wsX4_lay) := goodIn_app (goodIn_r _ [25, 26, 27, 21] rfl rfl) ggX0_layByPrimes_X4_lay
theorem ggX0_layByPrimes_X3_isBeyond : GoodIn wsX0_layByPrimes wsX3_isBeyond := fun w h => ⟨List.mem_cons_of_mem _ (List.mem_append_right _ h), zq_X3_isBeyond w h⟩
set_option maxRecDepth 20000 in
theorem gX0_layByPrimes_X3_isBeyond : GoodIn wsX0_layByPrimes (wsV RX0 44 RX3 yX3_isBeyond wsX3_isBeyond) := goodIn_app (goodIn_r _ [28, 29, 30, 6] rfl rfl) ggX0_layByPrimes_X3_isBeyond
theorem qdX0_layByPrimes_0_24 : dcAll cX0_layByPrimes [(0, .aload_n 0, 1), (1, .getfield 9, 3), (4, .invokevirtual 19, 3), (7, .iconst 1, 1), (8, .istore_n 3, 1), (9, .iload_n 3, 1), (10, .bipush 120, 2), (12, .if_icmp .gt 70, 3), (15, .aload_n 0, 1), (16, .getfield 15, 3), (19, .iload_n 3, 1), (20, .invokevirtual 83, 3), (23, .astore 4, 2), (25, .lconst 1, 1), (26, .lstore 5, 2), (28, .iconst 0, 1), (29, .istore 7, 2), (31, .iload 7, 2), (33, .aload 4, 2), (35, .invokevirtual 87, 3), (38, .if_icmp .ge 31, 3), (41, .aload_n 0, 1), (42, .getfield 9, 3), (45, .lload 5, 2)] := dcAll_of (by decide +kernel)
theorem dX0_layByPrimes_0 : decode cX0_layByPrimes 0 = .ok (.aload_n 0, 1) := qdX0_layByPrimes_0_24.1
theorem dX0_layByPrimes_1 : decode cX0_layByPrimes 1 = .ok (.getfield 9, 3) := qdX0_layByPrimes_0_24.2.1
theorem dX0_layByPrimes_4 : decode cX0_layByPrimes 4 = .ok (.invokevirtual 19, 3) := qdX0_layByPrimes_0_24.2.2.1
theorem dX0_layByPrimes_7 : decode cX0_layByPrimes 7 = .ok (.iconst 1, 1) := qdX0_layByPrimes_0_24.2.2.2.1
theorem dX0_layByPrimes_8 : decode cX0_layByPrimes 8 = .ok (.istore_n 3, 1) := qdX0_layByPrimes_0_24.2.2.2.2.1
theorem dX0_layByPrimes_9 : decode cX0_layByPrimes 9 = .ok (.iload_n 3, 1) := qdX0_layByPrimes_0_24.2.2.2.2.2.1
theorem dX0_layByPrimes_10 : decode cX0_layByPrimes 10 = .ok (.bipush 120, 2) := qdX0_layByPrimes_0_24.2.2.2.2.2.2.1
theorem dX0_layByPrimes_12 : decode cX0_layByPrimes 12 = .ok (.if_icmp .gt 70, 3) := qdX0_layByPrimes_0_24.2.2.2.2.2.2.2.1
theorem dX0_layByPrimes_15 : decode cX0_layByPrimes 15 = .ok (.aload_n 0, 1) := qdX0_layByPrimes_0_24.2.2.2.2.2.2.2.2.1
theorem dX0_layByPrimes_16 : decode cX0_layByPrimes 16 = .ok (.getfield 15, 3) := qdX0_layByPrimes_0_24.2.2.2.2.2.2.2.2.2.1
theorem dX0_layByPrimes_19 : decode cX0_layByPrimes 19 = .ok (.iload_n 3, 1) := qdX0_layByPrimes_0_24.2.2.2.2.2.2.2.2.2.2.1
theorem dX0_layByPrimes_20 : decode cX0_layByPrimes 20 = .ok (.invokevirtual 83, 3) := qdX0_layByPrimes_0_24.2.2.2.2.2.2.2.2.2.2.2.1
theorem dX0_layByPrimes_23 : decode cX0_layByPrimes 23 = .ok (.astore 4, 2) := qdX0_layByPrimes_0_24.2.2.2.2.2.2.2.2.2.2.2.2.1
theorem dX0_layByPrimes_25 : decode cX0_layByPrimes 25 = .ok (.lconst 1, 1) := qdX0_layByPrimes_0_24.2.2.2.2.2.2.2.2.2.2.2.2.2.1
theorem dX0_layByPrimes_26 : decode cX0_layByPrimes 26 = .ok (.lstore 5, 2) := qdX0_layByPrimes_0_24.2.2.2.2.2.2.2.2.2.2.2.2.2.2.1
theorem dX0_layByPrimes_28 : decode cX0_layByPrimes 28 = .ok (.iconst 0, 1) := qdX0_layByPrimes_0_24.2.2.2.2.2.2.2.2.2.2.2.2.2.2.2.1
theorem dX0_layByPrimes_29 : decode cX0_layByPrimes 29 = .ok (.istore 7, 2) := qdX0_layByPrimes_0_24.2.2.2.2.2.2.2.2.2.2.2.2.2.2.2.2.1
theorem dX0_layByPrimes_31 : decode cX0_layByPrimes 31 = .ok (.iload 7, 2) := qdX0_layByPrimes_0_24.2.2.2.2.2.2.2.2.2.2.2.2.2.2.2.2.2.1
theorem dX0_layByPrimes_33 : decode cX0_layByPrimes 33 = .ok (.aload 4, 2) := qdX0_layByPrimes_0_24.2.2.2.2.2.2.2.2.2.2.2.2.2.2.2.2.2.2.1
theorem dX0_layByPrimes_35 : decode cX0_layByPrimes 35 = .ok (.invokevirtual 87, 3) := qdX0_layByPrimes_0_24.2.2.2.2.2.2.2.2.2.2.2.2.2.2.2.2.2.2.2.1
theorem dX0_layByPrimes_38 : decode cX0_layByPrimes 38 = .ok (.if_icmp .ge 31, 3) := qdX0_layByPrimes_0_24.2.2.2.2.2.2.2.2.2.2.2.2.2.2.2.2.2.2.2.2.1
theorem dX0_layByPrimes_41 : decode cX0_layByPrimes 41 = .ok (.aload_n 0, 1) := qdX0_layByPrimes_0_24.2.2.2.2.2.2.2.2.2.2.2.2.2.2.2.2.2.2.2.2.2.1
theorem dX0_layByPrimes_42 : decode cX0_layByPrimes 42 = .ok (.getfield 9, 3) := qdX0_layByPrimes_0_24.2.2.2.2.2.2.2.2.2.2.2.2.2.2.2.2.2.2.2.2.2.2.1
theorem dX0_layByPrimes_45 : decode cX0_layByPrimes 45 = .ok (.lload 5, 2) := qdX0_layByPrimes_0_24.2.2.2.2.2.2.2.2.2.2.2.2.2.2.2.2.2.2.2.2.2.2.2.1
theorem qdX0_layByPrimes_47_23 : dcAll cX0_layByPrimes [(47, .aload_n 1, 1), (48, .aload 4, 2), (50, .iload 7, 2), (52, .invokevirtual 93, 3), (55, .invokevirtual 24, 3), (58, .invokevirtual 41, 3), (61, .lstore 5, 2), (63, .iinc 7 1, 3), (66, .goto (-35), 3), (69, .aload_n 2, 1), (70, .iload_n 3, 1), (71, .lload 5, 2), (73, .invokevirtual 34, 3), (76, .iinc 3 1, 3), (79, .goto (-70), 3), (82, .aload_n 0, 1), (83, .getfield 9, 3), (86, .invokevirtual 44, 3), (89, .ifCond .ne 7, 3), (92, .iconst 1, 1), (93, .goto 4, 3), (96, .iconst 0, 1), (97, .ireturn, 1)] := dcAll_of (by decide +kernel)
theorem dX0_layByPrimes_47 : decode cX0_layByPrimes 47 = .ok (.aload_n 1, 1) := qdX0_layByPrimes_47_23.1
theorem dX0_layByPrimes_48 : decode cX0_layByPrimes 48 = .ok (.aload 4, 2) := qdX0_layByPrimes_47_23.2.1
theorem dX0_layByPrimes_50 : decode cX0_layByPrimes 50 = .ok (.iload 7, 2) := qdX0_layByPrimes_47_23.2.2.1
theorem dX0_layByPrimes_52 : decode cX0_layByPrimes 52 = .ok (.invokevirtual 93, 3) := qdX0_layByPrimes_47_23.2.2.2.1
theorem dX0_layByPrimes_55 : decode cX0_layByPrimes 55 = .ok (.invokevirtual 24, 3) := qdX0_layByPrimes_47_23.2.2.2.2.1
theorem dX0_layByPrimes_58 : decode cX0_layByPrimes 58 = .ok (.invokevirtual 41, 3) := qdX0_layByPrimes_47_23.2.2.2.2.2.1
theorem dX0_layByPrimes_61 : decode cX0_layByPrimes 61 = .ok (.lstore 5, 2) := qdX0_layByPrimes_47_23.2.2.2.2.2.2.1
theorem dX0_layByPrimes_63 : decode cX0_layByPrimes 63 = .ok (.iinc 7 1, 3) := qdX0_layByPrimes_47_23.2.2.2.2.2.2.2.1
theorem dX0_layByPrimes_66 : decode cX0_layByPrimes 66 = .ok (.goto (-35), 3) := qdX0_layByPrimes_47_23.2.2.2.2.2.2.2.2.1
theorem dX0_layByPrimes_69 : decode cX0_layByPrimes 69 = .ok (.aload_n 2, 1) := qdX0_layByPrimes_47_23.2.2.2.2.2.2.2.2.2.1
theorem dX0_layByPrimes_70 : decode cX0_layByPrimes 70 = .ok (.iload_n 3, 1) := qdX0_layByPrimes_47_23.2.2.2.2.2.2.2.2.2.2.1
theorem dX0_layByPrimes_71 : decode cX0_layByPrimes 71 = .ok (.lload 5, 2) := qdX0_layByPrimes_47_23.2.2.2.2.2.2.2.2.2.2.2.1
theorem dX0_layByPrimes_73 : decode cX0_layByPrimes 73 = .ok (.invokevirtual 34, 3) := qdX0_layByPrimes_47_23.2.2.2.2.2.2.2.2.2.2.2.2.1
theorem dX0_layByPrimes_76 : decode cX0_layByPrimes 76 = .ok (.iinc 3 1, 3) := qdX0_layByPrimes_47_23.2.2.2.2.2.2.2.2.2.2.2.2.2.1
theorem dX0_layByPrimes_79 : decode cX0_layByPrimes 79 = .ok (.goto (-70), 3) := qdX0_layByPrimes_47_23.2.2.2.2.2.2.2.2.2.2.2.2.2.2.1
theorem dX0_layByPrimes_82 : decode cX0_layByPrimes 82 = .ok (.aload_n 0, 1) := qdX0_layByPrimes_47_23.2.2.2.2.2.2.2.2.2.2.2.2.2.2.2.1
theorem dX0_layByPrimes_83 : decode cX0_layByPrimes 83 = .ok (.getfield 9, 3) := qdX0_layByPrimes_47_23.2.2.2.2.2.2.2.2.2.2.2.2.2.2.2.2.1
theorem dX0_layByPrimes_86 : decode cX0_layByPrimes 86 = .ok (.invokevirtual 44, 3) := qdX0_layByPrimes_47_23.2.2.2.2.2.2.2.2.2.2.2.2.2.2.2.2.2.1
theorem dX0_layByPrimes_89 : decode cX0_layByPrimes 89 = .ok (.ifCond .ne 7, 3) := qdX0_layByPrimes_47_23.2.2.2.2.2.2.2.2.2.2.2.2.2.2.2.2.2.2.1
theorem dX0_layByPrimes_92 : decode cX0_layByPrimes 92 = .ok (.iconst 1, 1) := qdX0_layByPrimes_47_23.2.2.2.2.2.2.2.2.2.2.2.2.2.2.2.2.2.2.2.1
theorem dX0_layByPrimes_93 : decode cX0_layByPrimes 93 = .ok (.goto 4, 3) := qdX0_layByPrimes_47_23.2.2.2.2.2.2.2.2.2.2.2.2.2.2.2.2.2.2.2.2.1
theorem dX0_layByPrimes_96 : decode cX0_layByPrimes 96 = .ok (.iconst 0, 1) := qdX0_layByPrimes_47_23.2.2.2.2.2.2.2.2.2.2.2.2.2.2.2.2.2.2.2.2.2.1
theorem dX0_layByPrimes_97 : decode cX0_layByPrimes 97 = .ok (.ireturn, 1) := qdX0_layByPrimes_47_23.2.2.2.2.2.2.2.2.2.2.2.2.2.2.2.2.2.2.2.2.2.2.1
theorem ggX0_layTurned_X3_begin : GoodIn wsX0_layTurned wsX3_begin := fun w h => ⟨List.mem_cons_of_mem _ (List.mem_append_left _ (List.mem_append_left _ (List.mem_append_left _ (List.mem_append_left _ (List.mem_append_right _ h))))), zq_X3_begin w h⟩
set_option maxRecDepth 20000 in
theorem gX0_layTurned_X3_begin : GoodIn wsX0_layTurned (wsV RX0 19 RX3 yX3_begin wsX3_begin) := goodIn_app (goodIn_r _ [2, 3, 4, 5] rfl rfl) ggX0_layTurned_X3_begin
theorem ggX0_layTurned_X4_at : GoodIn wsX0_layTurned wsX4_at := fun w h => ⟨List.mem_cons_of_mem _ (List.mem_append_left _ (List.mem_append_left _ (List.mem_append_left _ (List.mem_append_right _ h)))), zq_X4_at w h⟩
set_option maxRecDepth 20000 in
theorem gX0_layTurned_X4_at : GoodIn wsX0_layTurned (wsV RX0 24 RX4 yX4_at wsX4_at) := goodIn_app (goodIn_r _ [6, 7, 8, 9] rfl rfl) ggX0_layTurned_X4_at
theorem ggX0_layTurned_X3_minus : GoodIn wsX0_layTurned wsX3_minus := fun w h => ⟨List.mem_cons_of_mem _ (List.mem_append_left _ (List.mem_append_left _ (List.mem_append_right _ h))), zq_X3_minus w h⟩
set_option maxRecDepth 20000 in
theorem gX0_layTurned_X3_minus : GoodIn wsX0_layTurned (wsV RX0 38 RX3 yX3_minus wsX3_minus) := goodIn_app (goodIn_r _ [10, 11, 12, 5] rfl rfl) ggX0_layTurned_X3_minus
theorem ggX0_layTurned_X4_lay : GoodIn wsX0_layTurned wsX4_lay := fun w h => ⟨List.mem_cons_of_mem _ (List.mem_append_left _ (List.mem_append_right _ h)), zq_X4_lay w h⟩
set_option maxRecDepth 20000 in
theorem gX0_layTurned_X4_lay : GoodIn wsX0_layTurned (wsV RX0 34 RX4 yX4_lay wsX4_lay) := goodIn_app (goodIn_r _ [13, 14, 15, 9] rfl rfl) ggX0_layTurned_X4_lay
theorem ggX0_layTurned_X3_isBeyond : GoodIn wsX0_layTurned wsX3_isBeyond := fun w h => ⟨List.mem_cons_of_mem _ (List.mem_append_right _ h), zq_X3_isBeyond w h⟩
set_option maxRecDepth 20000 in
theorem gX0_layTurned_X3_isBeyond : GoodIn wsX0_layTurned (wsV RX0 44 RX3 yX3_isBeyond wsX3_isBeyond) := goodIn_app (goodIn_r _ [16, 17, 18, 5] rfl rfl) ggX0_layTurned_X3_isBeyond
theorem qdX0_layTurned_0_24 : dcAll cX0_layTurned [(0, .aload_n 0, 1), (1, .getfield 9, 3), (4, .invokevirtual 19, 3), (7, .iconst 1, 1), (8, .istore_n 3, 1), (9, .iload_n 3, 1), (10, .bipush 120, 2), (12, .if_icmp .gt 27, 3), (15, .aload_n 2, 1), (16, .iload_n 3, 1), (17, .aload_n 0, 1), (18, .getfield 9, 3), (21, .lconst 0, 1), (22, .aload_n 1, 1), (23, .iload_n 3, 1), (24, .invokevirtual 24, 3), (27, .invokevirtual 38, 3), (30, .invokevirtual 34, 3), (33, .iinc 3 1, 3), (36, .goto (-27), 3), (39, .aload_n 0, 1), (40, .getfield 9, 3), (43, .invokevirtual 44, 3), (46, .ifCond .ne 7, 3)] := dcAll_of (by decide +kernel)
theorem dX0_layTurned_0 : decode cX0_layTurned 0 = .ok (.aload_n 0, 1) := qdX0_layTurned_0_24.1
theorem dX0_layTurned_1 : decode cX0_layTurned 1 = .ok (.getfield 9, 3) := qdX0_layTurned_0_24.2.1
theorem dX0_layTurned_4 : decode cX0_layTurned 4 = .ok (.invokevirtual 19, 3) := qdX0_layTurned_0_24.2.2.1
theorem dX0_layTurned_7 : decode cX0_layTurned 7 = .ok (.iconst 1, 1) := qdX0_layTurned_0_24.2.2.2.1
theorem dX0_layTurned_8 : decode cX0_layTurned 8 = .ok (.istore_n 3, 1) := qdX0_layTurned_0_24.2.2.2.2.1
theorem dX0_layTurned_9 : decode cX0_layTurned 9 = .ok (.iload_n 3, 1) := qdX0_layTurned_0_24.2.2.2.2.2.1
theorem dX0_layTurned_10 : decode cX0_layTurned 10 = .ok (.bipush 120, 2) := qdX0_layTurned_0_24.2.2.2.2.2.2.1
theorem dX0_layTurned_12 : decode cX0_layTurned 12 = .ok (.if_icmp .gt 27, 3) := qdX0_layTurned_0_24.2.2.2.2.2.2.2.1
theorem dX0_layTurned_15 : decode cX0_layTurned 15 = .ok (.aload_n 2, 1) := qdX0_layTurned_0_24.2.2.2.2.2.2.2.2.1
theorem dX0_layTurned_16 : decode cX0_layTurned 16 = .ok (.iload_n 3, 1) := qdX0_layTurned_0_24.2.2.2.2.2.2.2.2.2.1
theorem dX0_layTurned_17 : decode cX0_layTurned 17 = .ok (.aload_n 0, 1) := qdX0_layTurned_0_24.2.2.2.2.2.2.2.2.2.2.1
theorem dX0_layTurned_18 : decode cX0_layTurned 18 = .ok (.getfield 9, 3) := qdX0_layTurned_0_24.2.2.2.2.2.2.2.2.2.2.2.1
theorem dX0_layTurned_21 : decode cX0_layTurned 21 = .ok (.lconst 0, 1) := qdX0_layTurned_0_24.2.2.2.2.2.2.2.2.2.2.2.2.1
theorem dX0_layTurned_22 : decode cX0_layTurned 22 = .ok (.aload_n 1, 1) := qdX0_layTurned_0_24.2.2.2.2.2.2.2.2.2.2.2.2.2.1
theorem dX0_layTurned_23 : decode cX0_layTurned 23 = .ok (.iload_n 3, 1) := qdX0_layTurned_0_24.2.2.2.2.2.2.2.2.2.2.2.2.2.2.1
theorem dX0_layTurned_24 : decode cX0_layTurned 24 = .ok (.invokevirtual 24, 3) := qdX0_layTurned_0_24.2.2.2.2.2.2.2.2.2.2.2.2.2.2.2.1
theorem dX0_layTurned_27 : decode cX0_layTurned 27 = .ok (.invokevirtual 38, 3) := qdX0_layTurned_0_24.2.2.2.2.2.2.2.2.2.2.2.2.2.2.2.2.1
theorem dX0_layTurned_30 : decode cX0_layTurned 30 = .ok (.invokevirtual 34, 3) := qdX0_layTurned_0_24.2.2.2.2.2.2.2.2.2.2.2.2.2.2.2.2.2.1
theorem dX0_layTurned_33 : decode cX0_layTurned 33 = .ok (.iinc 3 1, 3) := qdX0_layTurned_0_24.2.2.2.2.2.2.2.2.2.2.2.2.2.2.2.2.2.2.1
theorem dX0_layTurned_36 : decode cX0_layTurned 36 = .ok (.goto (-27), 3) := qdX0_layTurned_0_24.2.2.2.2.2.2.2.2.2.2.2.2.2.2.2.2.2.2.2.1
theorem dX0_layTurned_39 : decode cX0_layTurned 39 = .ok (.aload_n 0, 1) := qdX0_layTurned_0_24.2.2.2.2.2.2.2.2.2.2.2.2.2.2.2.2.2.2.2.2.1
theorem dX0_layTurned_40 : decode cX0_layTurned 40 = .ok (.getfield 9, 3) := qdX0_layTurned_0_24.2.2.2.2.2.2.2.2.2.2.2.2.2.2.2.2.2.2.2.2.2.1
theorem dX0_layTurned_43 : decode cX0_layTurned 43 = .ok (.invokevirtual 44, 3) := qdX0_layTurned_0_24.2.2.2.2.2.2.2.2.2.2.2.2.2.2.2.2.2.2.2.2.2.2.1
theorem dX0_layTurned_46 : decode cX0_layTurned 46 = .ok (.ifCond .ne 7, 3) := qdX0_layTurned_0_24.2.2.2.2.2.2.2.2.2.2.2.2.2.2.2.2.2.2.2.2.2.2.2.1
theorem qdX0_layTurned_49_4 : dcAll cX0_layTurned [(49, .iconst 1, 1), (50, .goto 4, 3), (53, .iconst 0, 1), (54, .ireturn, 1)] := dcAll_of (by decide +kernel)
theorem dX0_layTurned_49 : decode cX0_layTurned 49 = .ok (.iconst 1, 1) := qdX0_layTurned_49_4.1
theorem dX0_layTurned_50 : decode cX0_layTurned 50 = .ok (.goto 4, 3) := qdX0_layTurned_49_4.2.1
theorem dX0_layTurned_53 : decode cX0_layTurned 53 = .ok (.iconst 0, 1) := qdX0_layTurned_49_4.2.2.1
theorem dX0_layTurned_54 : decode cX0_layTurned 54 = .ok (.ireturn, 1) := qdX0_layTurned_49_4.2.2.2.1
theorem ggX0_layByPlace_X3_begin : GoodIn wsX0_layByPlace wsX3_begin := fun w h => ⟨List.mem_cons_of_mem _ (List.mem_append_left _ (List.mem_append_left _ (List.mem_append_left _ (List.mem_append_left _ (List.mem_append_right _ h))))), zq_X3_begin w h⟩
set_option maxRecDepth 20000 in
theorem gX0_layByPlace_X3_begin : GoodIn wsX0_layByPlace (wsV RX0 19 RX3 yX3_begin wsX3_begin) := goodIn_app (goodIn_r _ [2, 3, 4, 5] rfl rfl) ggX0_layByPlace_X3_begin
theorem ggX0_layByPlace_X4_at : GoodIn wsX0_layByPlace wsX4_at := fun w h => ⟨List.mem_cons_of_mem _ (List.mem_append_left _ (List.mem_append_left _ (List.mem_append_left _ (List.mem_append_right _ h)))), zq_X4_at w h⟩
set_option maxRecDepth 20000 in
theorem gX0_layByPlace_X4_at : GoodIn wsX0_layByPlace (wsV RX0 24 RX4 yX4_at wsX4_at) := goodIn_app (goodIn_r _ [6, 7, 8, 9] rfl rfl) ggX0_layByPlace_X4_at
theorem ggX0_layByPlace_X3_times : GoodIn wsX0_layByPlace wsX3_times := fun w h => ⟨List.mem_cons_of_mem _ (List.mem_append_left _ (List.mem_append_left _ (List.mem_append_right _ h))), zq_X3_times w h⟩
set_option maxRecDepth 20000 in
theorem gX0_layByPlace_X3_times : GoodIn wsX0_layByPlace (wsV RX0 41 RX3 yX3_times wsX3_times) := goodIn_app (goodIn_r _ [10, 11, 12, 5] rfl rfl) ggX0_layByPlace_X3_times
theorem ggX0_layByPlace_X4_lay : GoodIn wsX0_layByPlace wsX4_lay := fun w h => ⟨List.mem_cons_of_mem _ (List.mem_append_left _ (List.mem_append_right _ h)), zq_X4_lay w h⟩
set_option maxRecDepth 20000 in
theorem gX0_layByPlace_X4_lay : GoodIn wsX0_layByPlace (wsV RX0 34 RX4 yX4_lay wsX4_lay) := goodIn_app (goodIn_r _ [13, 14, 15, 9] rfl rfl) ggX0_layByPlace_X4_lay
theorem ggX0_layByPlace_X3_isBeyond : GoodIn wsX0_layByPlace wsX3_isBeyond := fun w h => ⟨List.mem_cons_of_mem _ (List.mem_append_right _ h), zq_X3_isBeyond w h⟩
set_option maxRecDepth 20000 in
theorem gX0_layByPlace_X3_isBeyond : GoodIn wsX0_layByPlace (wsV RX0 44 RX3 yX3_isBeyond wsX3_isBeyond) := goodIn_app (goodIn_r _ [16, 17, 18, 5] rfl rfl) ggX0_layByPlace_X3_isBeyond
theorem qdX0_layByPlace_0_24 : dcAll cX0_layByPlace [(0, .aload_n 0, 1), (1, .getfield 9, 3), (4, .invokevirtual 19, 3), (7, .iconst 1, 1), (8, .istore_n 3, 1), (9, .iload_n 3, 1), (10, .bipush 120, 2), (12, .if_icmp .gt 28, 3), (15, .aload_n 2, 1), (16, .iload_n 3, 1), (17, .aload_n 0, 1), (18, .getfield 9, 3), (21, .aload_n 1, 1), (22, .iload_n 3, 1), (23, .invokevirtual 24, 3), (26, .iload_n 3, 1), (27, .i2l, 1), (28, .invokevirtual 41, 3), (31, .invokevirtual 34, 3), (34, .iinc 3 1, 3), (37, .goto (-28), 3), (40, .aload_n 0, 1), (41, .getfield 9, 3), (44, .invokevirtual 44, 3)] := dcAll_of (by decide +kernel)
theorem dX0_layByPlace_0 : decode cX0_layByPlace 0 = .ok (.aload_n 0, 1) := qdX0_layByPlace_0_24.1
theorem dX0_layByPlace_1 : decode cX0_layByPlace 1 = .ok (.getfield 9, 3) := qdX0_layByPlace_0_24.2.1
theorem dX0_layByPlace_4 : decode cX0_layByPlace 4 = .ok (.invokevirtual 19, 3) := qdX0_layByPlace_0_24.2.2.1
theorem dX0_layByPlace_7 : decode cX0_layByPlace 7 = .ok (.iconst 1, 1) := qdX0_layByPlace_0_24.2.2.2.1
theorem dX0_layByPlace_8 : decode cX0_layByPlace 8 = .ok (.istore_n 3, 1) := qdX0_layByPlace_0_24.2.2.2.2.1
theorem dX0_layByPlace_9 : decode cX0_layByPlace 9 = .ok (.iload_n 3, 1) := qdX0_layByPlace_0_24.2.2.2.2.2.1
theorem dX0_layByPlace_10 : decode cX0_layByPlace 10 = .ok (.bipush 120, 2) := qdX0_layByPlace_0_24.2.2.2.2.2.2.1
theorem dX0_layByPlace_12 : decode cX0_layByPlace 12 = .ok (.if_icmp .gt 28, 3) := qdX0_layByPlace_0_24.2.2.2.2.2.2.2.1
theorem dX0_layByPlace_15 : decode cX0_layByPlace 15 = .ok (.aload_n 2, 1) := qdX0_layByPlace_0_24.2.2.2.2.2.2.2.2.1
theorem dX0_layByPlace_16 : decode cX0_layByPlace 16 = .ok (.iload_n 3, 1) := qdX0_layByPlace_0_24.2.2.2.2.2.2.2.2.2.1
theorem dX0_layByPlace_17 : decode cX0_layByPlace 17 = .ok (.aload_n 0, 1) := qdX0_layByPlace_0_24.2.2.2.2.2.2.2.2.2.2.1
theorem dX0_layByPlace_18 : decode cX0_layByPlace 18 = .ok (.getfield 9, 3) := qdX0_layByPlace_0_24.2.2.2.2.2.2.2.2.2.2.2.1
theorem dX0_layByPlace_21 : decode cX0_layByPlace 21 = .ok (.aload_n 1, 1) := qdX0_layByPlace_0_24.2.2.2.2.2.2.2.2.2.2.2.2.1
theorem dX0_layByPlace_22 : decode cX0_layByPlace 22 = .ok (.iload_n 3, 1) := qdX0_layByPlace_0_24.2.2.2.2.2.2.2.2.2.2.2.2.2.1
theorem dX0_layByPlace_23 : decode cX0_layByPlace 23 = .ok (.invokevirtual 24, 3) := qdX0_layByPlace_0_24.2.2.2.2.2.2.2.2.2.2.2.2.2.2.1
theorem dX0_layByPlace_26 : decode cX0_layByPlace 26 = .ok (.iload_n 3, 1) := qdX0_layByPlace_0_24.2.2.2.2.2.2.2.2.2.2.2.2.2.2.2.1
theorem dX0_layByPlace_27 : decode cX0_layByPlace 27 = .ok (.i2l, 1) := qdX0_layByPlace_0_24.2.2.2.2.2.2.2.2.2.2.2.2.2.2.2.2.1
theorem dX0_layByPlace_28 : decode cX0_layByPlace 28 = .ok (.invokevirtual 41, 3) := qdX0_layByPlace_0_24.2.2.2.2.2.2.2.2.2.2.2.2.2.2.2.2.2.1
theorem dX0_layByPlace_31 : decode cX0_layByPlace 31 = .ok (.invokevirtual 34, 3) := qdX0_layByPlace_0_24.2.2.2.2.2.2.2.2.2.2.2.2.2.2.2.2.2.2.1
theorem dX0_layByPlace_34 : decode cX0_layByPlace 34 = .ok (.iinc 3 1, 3) := qdX0_layByPlace_0_24.2.2.2.2.2.2.2.2.2.2.2.2.2.2.2.2.2.2.2.1
theorem dX0_layByPlace_37 : decode cX0_layByPlace 37 = .ok (.goto (-28), 3) := qdX0_layByPlace_0_24.2.2.2.2.2.2.2.2.2.2.2.2.2.2.2.2.2.2.2.2.1
theorem dX0_layByPlace_40 : decode cX0_layByPlace 40 = .ok (.aload_n 0, 1) := qdX0_layByPlace_0_24.2.2.2.2.2.2.2.2.2.2.2.2.2.2.2.2.2.2.2.2.2.1
theorem dX0_layByPlace_41 : decode cX0_layByPlace 41 = .ok (.getfield 9, 3) := qdX0_layByPlace_0_24.2.2.2.2.2.2.2.2.2.2.2.2.2.2.2.2.2.2.2.2.2.2.1
theorem dX0_layByPlace_44 : decode cX0_layByPlace 44 = .ok (.invokevirtual 44, 3) := qdX0_layByPlace_0_24.2.2.2.2.2.2.2.2.2.2.2.2.2.2.2.2.2.2.2.2.2.2.2.1
theorem qdX0_layByPlace_47_5 : dcAll cX0_layByPlace [(47, .ifCond .ne 7, 3), (50, .iconst 1, 1), (51, .goto 4, 3), (54, .iconst 0, 1), (55, .ireturn, 1)] := dcAll_of (by decide +kernel)
theorem dX0_layByPlace_47 : decode cX0_layByPlace 47 = .ok (.ifCond .ne 7, 3) := qdX0_layByPlace_47_5.1
theorem dX0_layByPlace_50 : decode cX0_layByPlace 50 = .ok (.iconst 1, 1) := qdX0_layByPlace_47_5.2.1
theorem dX0_layByPlace_51 : decode cX0_layByPlace 51 = .ok (.goto 4, 3) := qdX0_layByPlace_47_5.2.2.1
theorem dX0_layByPlace_54 : decode cX0_layByPlace 54 = .ok (.iconst 0, 1) := qdX0_layByPlace_47_5.2.2.2.1
theorem dX0_layByPlace_55 : decode cX0_layByPlace 55 = .ok (.ireturn, 1) := qdX0_layByPlace_47_5.2.2.2.2.1
theorem ggX0_isByPrimes_X4_at : GoodIn wsX0_isByPrimes wsX4_at := fun w h => ⟨List.mem_cons_of_mem _ (List.mem_append_left _ (List.mem_append_left _ (List.mem_append_right _ h))), zq_X4_at w h⟩
set_option maxRecDepth 20000 in
theorem gX0_isByPrimes_X4_at : GoodIn wsX0_isByPrimes (wsV RX0 24 RX4 yX4_at wsX4_at) := goodIn_app (goodIn_r _ [1, 2, 3, 4] rfl rfl) ggX0_isByPrimes_X4_at
theorem ggX0_isByPrimes_X1_commonOf : GoodIn wsX0_isByPrimes wsX1_commonOf := fun w h => ⟨List.mem_cons_of_mem _ (List.mem_append_left _ (List.mem_append_right _ h)), zq_X1_commonOf w h⟩
set_option maxRecDepth 20000 in
theorem gX0_isByPrimes_X1_commonOf : GoodIn wsX0_isByPrimes (va_wsS RX0 96 yX1_commonOf wsX1_commonOf) := goodIn_app (goodIn_r _ [5, 6, 7] rfl rfl) ggX0_isByPrimes_X1_commonOf
theorem ggX0_isByPrimes_X0_isProduct : GoodIn wsX0_isByPrimes wsX0_isProduct := fun w h => ⟨List.mem_cons_of_mem _ (List.mem_append_right _ h), zq_X0_isProduct w h⟩
set_option maxRecDepth 20000 in
theorem gX0_isByPrimes_X0_isProduct : GoodIn wsX0_isByPrimes (va_wsS RX0 100 yX0_isProduct wsX0_isProduct) := goodIn_app (goodIn_r _ [8, 9, 10] rfl rfl) ggX0_isByPrimes_X0_isProduct
theorem qdX0_isByPrimes_0_24 : dcAll cX0_isByPrimes [(0, .aload_n 1, 1), (1, .iconst 1, 1), (2, .invokevirtual 24, 3), (5, .lconst 1, 1), (6, .lcmp, 1), (7, .ifCond .eq 5, 3), (10, .iconst 0, 1), (11, .ireturn, 1), (12, .iconst 1, 1), (13, .istore_n 3, 1), (14, .iload_n 3, 1), (15, .bipush 120, 2), (17, .if_icmp .gt 68, 3), (20, .iload_n 3, 1), (21, .istore 4, 2), (23, .iload_n 3, 1), (24, .iload 4, 2), (26, .imul, 1), (27, .bipush 120, 2), (29, .if_icmp .gt 50, 3), (32, .iload_n 2, 1), (33, .ifCond .ne 13, 3), (36, .iload_n 3, 1), (37, .iload 4, 2)] := dcAll_of (by decide +kernel)
theorem dX0_isByPrimes_0 : decode cX0_isByPrimes 0 = .ok (.aload_n 1, 1) := qdX0_isByPrimes_0_24.1
theorem dX0_isByPrimes_1 : decode cX0_isByPrimes 1 = .ok (.iconst 1, 1) := qdX0_isByPrimes_0_24.2.1
theorem dX0_isByPrimes_2 : decode cX0_isByPrimes 2 = .ok (.invokevirtual 24, 3) := qdX0_isByPrimes_0_24.2.2.1
theorem dX0_isByPrimes_5 : decode cX0_isByPrimes 5 = .ok (.lconst 1, 1) := qdX0_isByPrimes_0_24.2.2.2.1
theorem dX0_isByPrimes_6 : decode cX0_isByPrimes 6 = .ok (.lcmp, 1) := qdX0_isByPrimes_0_24.2.2.2.2.1
theorem dX0_isByPrimes_7 : decode cX0_isByPrimes 7 = .ok (.ifCond .eq 5, 3) := qdX0_isByPrimes_0_24.2.2.2.2.2.1
theorem dX0_isByPrimes_10 : decode cX0_isByPrimes 10 = .ok (.iconst 0, 1) := qdX0_isByPrimes_0_24.2.2.2.2.2.2.1
theorem dX0_isByPrimes_11 : decode cX0_isByPrimes 11 = .ok (.ireturn, 1) := qdX0_isByPrimes_0_24.2.2.2.2.2.2.2.1
theorem dX0_isByPrimes_12 : decode cX0_isByPrimes 12 = .ok (.iconst 1, 1) := qdX0_isByPrimes_0_24.2.2.2.2.2.2.2.2.1
theorem dX0_isByPrimes_13 : decode cX0_isByPrimes 13 = .ok (.istore_n 3, 1) := qdX0_isByPrimes_0_24.2.2.2.2.2.2.2.2.2.1
theorem dX0_isByPrimes_14 : decode cX0_isByPrimes 14 = .ok (.iload_n 3, 1) := qdX0_isByPrimes_0_24.2.2.2.2.2.2.2.2.2.2.1
theorem dX0_isByPrimes_15 : decode cX0_isByPrimes 15 = .ok (.bipush 120, 2) := qdX0_isByPrimes_0_24.2.2.2.2.2.2.2.2.2.2.2.1
theorem dX0_isByPrimes_17 : decode cX0_isByPrimes 17 = .ok (.if_icmp .gt 68, 3) := qdX0_isByPrimes_0_24.2.2.2.2.2.2.2.2.2.2.2.2.1
theorem dX0_isByPrimes_20 : decode cX0_isByPrimes 20 = .ok (.iload_n 3, 1) := qdX0_isByPrimes_0_24.2.2.2.2.2.2.2.2.2.2.2.2.2.1
theorem dX0_isByPrimes_21 : decode cX0_isByPrimes 21 = .ok (.istore 4, 2) := qdX0_isByPrimes_0_24.2.2.2.2.2.2.2.2.2.2.2.2.2.2.1
theorem dX0_isByPrimes_23 : decode cX0_isByPrimes 23 = .ok (.iload_n 3, 1) := qdX0_isByPrimes_0_24.2.2.2.2.2.2.2.2.2.2.2.2.2.2.2.1
theorem dX0_isByPrimes_24 : decode cX0_isByPrimes 24 = .ok (.iload 4, 2) := qdX0_isByPrimes_0_24.2.2.2.2.2.2.2.2.2.2.2.2.2.2.2.2.1
theorem dX0_isByPrimes_26 : decode cX0_isByPrimes 26 = .ok (.imul, 1) := qdX0_isByPrimes_0_24.2.2.2.2.2.2.2.2.2.2.2.2.2.2.2.2.2.1
theorem dX0_isByPrimes_27 : decode cX0_isByPrimes 27 = .ok (.bipush 120, 2) := qdX0_isByPrimes_0_24.2.2.2.2.2.2.2.2.2.2.2.2.2.2.2.2.2.2.1
theorem dX0_isByPrimes_29 : decode cX0_isByPrimes 29 = .ok (.if_icmp .gt 50, 3) := qdX0_isByPrimes_0_24.2.2.2.2.2.2.2.2.2.2.2.2.2.2.2.2.2.2.2.1
theorem dX0_isByPrimes_32 : decode cX0_isByPrimes 32 = .ok (.iload_n 2, 1) := qdX0_isByPrimes_0_24.2.2.2.2.2.2.2.2.2.2.2.2.2.2.2.2.2.2.2.2.1
theorem dX0_isByPrimes_33 : decode cX0_isByPrimes 33 = .ok (.ifCond .ne 13, 3) := qdX0_isByPrimes_0_24.2.2.2.2.2.2.2.2.2.2.2.2.2.2.2.2.2.2.2.2.2.1
theorem dX0_isByPrimes_36 : decode cX0_isByPrimes 36 = .ok (.iload_n 3, 1) := qdX0_isByPrimes_0_24.2.2.2.2.2.2.2.2.2.2.2.2.2.2.2.2.2.2.2.2.2.2.1
theorem dX0_isByPrimes_37 : decode cX0_isByPrimes 37 = .ok (.iload 4, 2) := qdX0_isByPrimes_0_24.2.2.2.2.2.2.2.2.2.2.2.2.2.2.2.2.2.2.2.2.2.2.2.1
theorem qdX0_isByPrimes_39_24 : dcAll cX0_isByPrimes [(39, .invokestatic 96, 3), (42, .iconst 1, 1), (43, .if_icmp .ne 30, 3), (46, .aload_n 1, 1), (47, .iload_n 3, 1), (48, .invokevirtual 24, 3), (51, .aload_n 1, 1), (52, .iload 4, 2), (54, .invokevirtual 24, 3), (57, .aload_n 1, 1), (58, .iload_n 3, 1), (59, .iload 4, 2), (61, .imul, 1), (62, .invokevirtual 24, 3), (65, .invokestatic 100, 3), (68, .ifCond .ne 5, 3), (71, .iconst 0, 1), (72, .ireturn, 1), (73, .iinc 4 1, 3), (76, .goto (-53), 3), (79, .iinc 3 1, 3), (82, .goto (-68), 3), (85, .iconst 1, 1), (86, .ireturn, 1)] := dcAll_of (by decide +kernel)
theorem dX0_isByPrimes_39 : decode cX0_isByPrimes 39 = .ok (.invokestatic 96, 3) := qdX0_isByPrimes_39_24.1
theorem dX0_isByPrimes_42 : decode cX0_isByPrimes 42 = .ok (.iconst 1, 1) := qdX0_isByPrimes_39_24.2.1
theorem dX0_isByPrimes_43 : decode cX0_isByPrimes 43 = .ok (.if_icmp .ne 30, 3) := qdX0_isByPrimes_39_24.2.2.1
theorem dX0_isByPrimes_46 : decode cX0_isByPrimes 46 = .ok (.aload_n 1, 1) := qdX0_isByPrimes_39_24.2.2.2.1
theorem dX0_isByPrimes_47 : decode cX0_isByPrimes 47 = .ok (.iload_n 3, 1) := qdX0_isByPrimes_39_24.2.2.2.2.1
theorem dX0_isByPrimes_48 : decode cX0_isByPrimes 48 = .ok (.invokevirtual 24, 3) := qdX0_isByPrimes_39_24.2.2.2.2.2.1
theorem dX0_isByPrimes_51 : decode cX0_isByPrimes 51 = .ok (.aload_n 1, 1) := qdX0_isByPrimes_39_24.2.2.2.2.2.2.1
theorem dX0_isByPrimes_52 : decode cX0_isByPrimes 52 = .ok (.iload 4, 2) := qdX0_isByPrimes_39_24.2.2.2.2.2.2.2.1
theorem dX0_isByPrimes_54 : decode cX0_isByPrimes 54 = .ok (.invokevirtual 24, 3) := qdX0_isByPrimes_39_24.2.2.2.2.2.2.2.2.1
theorem dX0_isByPrimes_57 : decode cX0_isByPrimes 57 = .ok (.aload_n 1, 1) := qdX0_isByPrimes_39_24.2.2.2.2.2.2.2.2.2.1
theorem dX0_isByPrimes_58 : decode cX0_isByPrimes 58 = .ok (.iload_n 3, 1) := qdX0_isByPrimes_39_24.2.2.2.2.2.2.2.2.2.2.1
theorem dX0_isByPrimes_59 : decode cX0_isByPrimes 59 = .ok (.iload 4, 2) := qdX0_isByPrimes_39_24.2.2.2.2.2.2.2.2.2.2.2.1
theorem dX0_isByPrimes_61 : decode cX0_isByPrimes 61 = .ok (.imul, 1) := qdX0_isByPrimes_39_24.2.2.2.2.2.2.2.2.2.2.2.2.1
theorem dX0_isByPrimes_62 : decode cX0_isByPrimes 62 = .ok (.invokevirtual 24, 3) := qdX0_isByPrimes_39_24.2.2.2.2.2.2.2.2.2.2.2.2.2.1
theorem dX0_isByPrimes_65 : decode cX0_isByPrimes 65 = .ok (.invokestatic 100, 3) := qdX0_isByPrimes_39_24.2.2.2.2.2.2.2.2.2.2.2.2.2.2.1
theorem dX0_isByPrimes_68 : decode cX0_isByPrimes 68 = .ok (.ifCond .ne 5, 3) := qdX0_isByPrimes_39_24.2.2.2.2.2.2.2.2.2.2.2.2.2.2.2.1
theorem dX0_isByPrimes_71 : decode cX0_isByPrimes 71 = .ok (.iconst 0, 1) := qdX0_isByPrimes_39_24.2.2.2.2.2.2.2.2.2.2.2.2.2.2.2.2.1
theorem dX0_isByPrimes_72 : decode cX0_isByPrimes 72 = .ok (.ireturn, 1) := qdX0_isByPrimes_39_24.2.2.2.2.2.2.2.2.2.2.2.2.2.2.2.2.2.1
theorem dX0_isByPrimes_73 : decode cX0_isByPrimes 73 = .ok (.iinc 4 1, 3) := qdX0_isByPrimes_39_24.2.2.2.2.2.2.2.2.2.2.2.2.2.2.2.2.2.2.1
theorem dX0_isByPrimes_76 : decode cX0_isByPrimes 76 = .ok (.goto (-53), 3) := qdX0_isByPrimes_39_24.2.2.2.2.2.2.2.2.2.2.2.2.2.2.2.2.2.2.2.1
theorem dX0_isByPrimes_79 : decode cX0_isByPrimes 79 = .ok (.iinc 3 1, 3) := qdX0_isByPrimes_39_24.2.2.2.2.2.2.2.2.2.2.2.2.2.2.2.2.2.2.2.2.1
theorem dX0_isByPrimes_82 : decode cX0_isByPrimes 82 = .ok (.goto (-68), 3) := qdX0_isByPrimes_39_24.2.2.2.2.2.2.2.2.2.2.2.2.2.2.2.2.2.2.2.2.2.1
theorem dX0_isByPrimes_85 : decode cX0_isByPrimes 85 = .ok (.iconst 1, 1) := qdX0_isByPrimes_39_24.2.2.2.2.2.2.2.2.2.2.2.2.2.2.2.2.2.2.2.2.2.2.1
theorem dX0_isByPrimes_86 : decode cX0_isByPrimes 86 = .ok (.ireturn, 1) := qdX0_isByPrimes_39_24.2.2.2.2.2.2.2.2.2.2.2.2.2.2.2.2.2.2.2.2.2.2.2.1
theorem ggX0_isProduct_X3_isLetProduct : GoodIn wsX0_isProduct wsX3_isLetProduct := fun w h => ⟨List.mem_cons_of_mem _ (List.mem_append_right _ h), zq_X3_isLetProduct w h⟩
set_option maxRecDepth 20000 in
theorem gX0_isProduct_X3_isLetProduct : GoodIn wsX0_isProduct (va_wsS RX0 104 yX3_isLetProduct wsX3_isLetProduct) := goodIn_app (goodIn_r _ [1, 2, 3] rfl rfl) ggX0_isProduct_X3_isLetProduct
theorem qdX0_isProduct_0_14 : dcAll cX0_isProduct [(0, .lload_n 0, 1), (1, .lload_n 2, 1), (2, .lmul, 1), (3, .lload 4, 2), (5, .lcmp, 1), (6, .ifCond .ne 15, 3), (9, .lload_n 0, 1), (10, .lload_n 2, 1), (11, .invokestatic 104, 3), (14, .ifCond .eq 7, 3), (17, .iconst 1, 1), (18, .goto 4, 3), (21, .iconst 0, 1), (22, .ireturn, 1)] := dcAll_of (by decide +kernel)
theorem dX0_isProduct_0 : decode cX0_isProduct 0 = .ok (.lload_n 0, 1) := qdX0_isProduct_0_14.1
theorem dX0_isProduct_1 : decode cX0_isProduct 1 = .ok (.lload_n 2, 1) := qdX0_isProduct_0_14.2.1
theorem dX0_isProduct_2 : decode cX0_isProduct 2 = .ok (.lmul, 1) := qdX0_isProduct_0_14.2.2.1
theorem dX0_isProduct_3 : decode cX0_isProduct 3 = .ok (.lload 4, 2) := qdX0_isProduct_0_14.2.2.2.1
theorem dX0_isProduct_5 : decode cX0_isProduct 5 = .ok (.lcmp, 1) := qdX0_isProduct_0_14.2.2.2.2.1
theorem dX0_isProduct_6 : decode cX0_isProduct 6 = .ok (.ifCond .ne 15, 3) := qdX0_isProduct_0_14.2.2.2.2.2.1
theorem dX0_isProduct_9 : decode cX0_isProduct 9 = .ok (.lload_n 0, 1) := qdX0_isProduct_0_14.2.2.2.2.2.2.1
theorem dX0_isProduct_10 : decode cX0_isProduct 10 = .ok (.lload_n 2, 1) := qdX0_isProduct_0_14.2.2.2.2.2.2.2.1
theorem dX0_isProduct_11 : decode cX0_isProduct 11 = .ok (.invokestatic 104, 3) := qdX0_isProduct_0_14.2.2.2.2.2.2.2.2.1
theorem dX0_isProduct_14 : decode cX0_isProduct 14 = .ok (.ifCond .eq 7, 3) := qdX0_isProduct_0_14.2.2.2.2.2.2.2.2.2.1
theorem dX0_isProduct_17 : decode cX0_isProduct 17 = .ok (.iconst 1, 1) := qdX0_isProduct_0_14.2.2.2.2.2.2.2.2.2.2.1
theorem dX0_isProduct_18 : decode cX0_isProduct 18 = .ok (.goto 4, 3) := qdX0_isProduct_0_14.2.2.2.2.2.2.2.2.2.2.2.1
theorem dX0_isProduct_21 : decode cX0_isProduct 21 = .ok (.iconst 0, 1) := qdX0_isProduct_0_14.2.2.2.2.2.2.2.2.2.2.2.2.1
theorem dX0_isProduct_22 : decode cX0_isProduct 22 = .ok (.ireturn, 1) := qdX0_isProduct_0_14.2.2.2.2.2.2.2.2.2.2.2.2.2.1
theorem ggX1_init_X2_init : GoodIn wsX1_init wsX2_init := fun w h => ⟨List.mem_cons_of_mem _ (List.mem_append_right _ h), zq_X2_init w h⟩
set_option maxRecDepth 20000 in
theorem gX1_init_X2_init_n11 : GoodIn wsX1_init (wsX2_init) := ggX1_init_X2_init
theorem qdX1_init_0_12 : dcAll cX1_init [(0, .aload_n 0, 1), (1, .invokespecial 3, 3), (4, .aload_n 0, 1), (5, .new 9, 3), (8, .dup, 1), (9, .invokespecial 11, 3), (12, .putfield 12, 3), (15, .aload_n 0, 1), (16, .sipush 1000, 3), (19, .newarray .int, 2), (21, .putfield 18, 3), (24, .return_, 1)] := dcAll_of (by decide +kernel)
theorem dX1_init_0 : decode cX1_init 0 = .ok (.aload_n 0, 1) := qdX1_init_0_12.1
theorem dX1_init_1 : decode cX1_init 1 = .ok (.invokespecial 3, 3) := qdX1_init_0_12.2.1
theorem dX1_init_4 : decode cX1_init 4 = .ok (.aload_n 0, 1) := qdX1_init_0_12.2.2.1
theorem dX1_init_5 : decode cX1_init 5 = .ok (.new 9, 3) := qdX1_init_0_12.2.2.2.1
theorem dX1_init_8 : decode cX1_init 8 = .ok (.dup, 1) := qdX1_init_0_12.2.2.2.2.1
theorem dX1_init_9 : decode cX1_init 9 = .ok (.invokespecial 11, 3) := qdX1_init_0_12.2.2.2.2.2.1
theorem dX1_init_12 : decode cX1_init 12 = .ok (.putfield 12, 3) := qdX1_init_0_12.2.2.2.2.2.2.1
theorem dX1_init_15 : decode cX1_init 15 = .ok (.aload_n 0, 1) := qdX1_init_0_12.2.2.2.2.2.2.2.1
theorem dX1_init_16 : decode cX1_init 16 = .ok (.sipush 1000, 3) := qdX1_init_0_12.2.2.2.2.2.2.2.2.1
theorem dX1_init_19 : decode cX1_init 19 = .ok (.newarray .int, 2) := qdX1_init_0_12.2.2.2.2.2.2.2.2.2.1
theorem dX1_init_21 : decode cX1_init 21 = .ok (.putfield 18, 3) := qdX1_init_0_12.2.2.2.2.2.2.2.2.2.2.1
theorem dX1_init_24 : decode cX1_init 24 = .ok (.return_, 1) := qdX1_init_0_12.2.2.2.2.2.2.2.2.2.2.2.1
theorem ggX1_powersOf_X2_lay : GoodIn wsX1_powersOf wsX2_lay := fun w h => ⟨List.mem_cons_of_mem _ (List.mem_append_right _ h), zq_X2_lay w h⟩
set_option maxRecDepth 20000 in
theorem gX1_powersOf_X2_lay : GoodIn wsX1_powersOf (wsV RX1 22 RX2 yX2_lay wsX2_lay) := goodIn_app (goodIn_r _ [2, 3, 4, 5] rfl rfl) ggX1_powersOf_X2_lay
theorem qdX1_powersOf_0_7 : dcAll cX1_powersOf [(0, .aload_n 0, 1), (1, .getfield 12, 3), (4, .iload_n 1, 1), (5, .invokevirtual 22, 3), (8, .aload_n 0, 1), (9, .getfield 12, 3), (12, .areturn, 1)] := dcAll_of (by decide +kernel)
theorem dX1_powersOf_0 : decode cX1_powersOf 0 = .ok (.aload_n 0, 1) := qdX1_powersOf_0_7.1
theorem dX1_powersOf_1 : decode cX1_powersOf 1 = .ok (.getfield 12, 3) := qdX1_powersOf_0_7.2.1
theorem dX1_powersOf_4 : decode cX1_powersOf 4 = .ok (.iload_n 1, 1) := qdX1_powersOf_0_7.2.2.1
theorem dX1_powersOf_5 : decode cX1_powersOf 5 = .ok (.invokevirtual 22, 3) := qdX1_powersOf_0_7.2.2.2.1
theorem dX1_powersOf_8 : decode cX1_powersOf 8 = .ok (.aload_n 0, 1) := qdX1_powersOf_0_7.2.2.2.2.1
theorem dX1_powersOf_9 : decode cX1_powersOf 9 = .ok (.getfield 12, 3) := qdX1_powersOf_0_7.2.2.2.2.2.1
theorem dX1_powersOf_12 : decode cX1_powersOf 12 = .ok (.areturn, 1) := qdX1_powersOf_0_7.2.2.2.2.2.2.1
theorem ggX1_known_X1_signByPowers : GoodIn wsX1_known wsX1_signByPowers := fun w h => ⟨List.mem_cons_of_mem _ (List.mem_append_left _ (List.mem_append_left _ (List.mem_append_left _ (List.mem_append_left _ (List.mem_append_left _ (List.mem_append_right _ h)))))), zq_X1_signByPowers w h⟩
set_option maxRecDepth 20000 in
theorem gX1_known_X1_signByPowers : GoodIn wsX1_known (wsV RX1 26 RX1 yX1_signByPowers wsX1_signByPowers) := goodIn_app (goodIn_r _ [1, 2, 3, 4] rfl rfl) ggX1_known_X1_signByPowers
theorem ggX1_known_X1_phiByPowers : GoodIn wsX1_known wsX1_phiByPowers := fun w h => ⟨List.mem_cons_of_mem _ (List.mem_append_left _ (List.mem_append_left _ (List.mem_append_left _ (List.mem_append_left _ (List.mem_append_right _ h))))), zq_X1_phiByPowers w h⟩
set_option maxRecDepth 20000 in
theorem gX1_known_X1_phiByPowers : GoodIn wsX1_known (wsV RX1 30 RX1 yX1_phiByPowers wsX1_phiByPowers) := goodIn_app (goodIn_r _ [6, 7, 8, 4] rfl rfl) ggX1_known_X1_phiByPowers
theorem ggX1_known_X1_tauByPowers : GoodIn wsX1_known wsX1_tauByPowers := fun w h => ⟨List.mem_cons_of_mem _ (List.mem_append_left _ (List.mem_append_left _ (List.mem_append_left _ (List.mem_append_right _ h)))), zq_X1_tauByPowers w h⟩
set_option maxRecDepth 20000 in
theorem gX1_known_X1_tauByPowers : GoodIn wsX1_known (wsV RX1 33 RX1 yX1_tauByPowers wsX1_tauByPowers) := goodIn_app (goodIn_r _ [9, 10, 11, 4] rfl rfl) ggX1_known_X1_tauByPowers
theorem ggX1_known_X1_sigmaByPowers : GoodIn wsX1_known wsX1_sigmaByPowers := fun w h => ⟨List.mem_cons_of_mem _ (List.mem_append_left _ (List.mem_append_left _ (List.mem_append_right _ h))), zq_X1_sigmaByPowers w h⟩
set_option maxRecDepth 20000 in
theorem gX1_known_X1_sigmaByPowers : GoodIn wsX1_known (wsV RX1 36 RX1 yX1_sigmaByPowers wsX1_sigmaByPowers) := goodIn_app (goodIn_r _ [12, 13, 14, 4] rfl rfl) ggX1_known_X1_sigmaByPowers
theorem ggX1_known_X1_squareOneByOne : GoodIn wsX1_known wsX1_squareOneByOne := fun w h => ⟨List.mem_cons_of_mem _ (List.mem_append_left _ (List.mem_append_right _ h)), zq_X1_squareOneByOne w h⟩
set_option maxRecDepth 20000 in
theorem gX1_known_X1_squareOneByOne : GoodIn wsX1_known (wsV RX1 39 RX1 yX1_squareOneByOne wsX1_squareOneByOne) := goodIn_app (goodIn_r _ [15, 16, 17, 4] rfl rfl) ggX1_known_X1_squareOneByOne
theorem ggX1_known_X1_turnByPowers : GoodIn wsX1_known wsX1_turnByPowers := fun w h => ⟨List.mem_cons_of_mem _ (List.mem_append_right _ h), zq_X1_turnByPowers w h⟩
set_option maxRecDepth 20000 in
theorem gX1_known_X1_turnByPowers : GoodIn wsX1_known (wsV RX1 42 RX1 yX1_turnByPowers wsX1_turnByPowers) := goodIn_app (goodIn_r _ [18, 19, 20, 4] rfl rfl) ggX1_known_X1_turnByPowers
theorem qdX1_known_0_24 : dcAll cX1_known [(0, .iload_n 1, 1), (1, .tableswitch 136 0 9 #[55, 66, 68, 71, 78, 85, 92, 99, 114, 121], 55), (56, .iload_n 2, 1), (57, .iconst 1, 1), (58, .if_icmp .ne 7, 3), (61, .lconst 1, 1), (62, .goto 4, 3), (65, .lconst 0, 1), (66, .lreturn, 1), (67, .lconst 1, 1), (68, .lreturn, 1), (69, .iload_n 2, 1), (70, .i2l, 1), (71, .lreturn, 1), (72, .aload_n 0, 1), (73, .iload_n 2, 1), (74, .invokevirtual 26, 3), (77, .i2l, 1), (78, .lreturn, 1), (79, .aload_n 0, 1), (80, .iload_n 2, 1), (81, .invokevirtual 30, 3), (84, .i2l, 1), (85, .lreturn, 1)] := dcAll_of (by decide +kernel)
theorem dX1_known_0 : decode cX1_known 0 = .ok (.iload_n 1, 1) := qdX1_known_0_24.1
theorem dX1_known_1 : decode cX1_known 1 = .ok (.tableswitch 136 0 9 #[55, 66, 68, 71, 78, 85, 92, 99, 114, 121], 55) := qdX1_known_0_24.2.1
theorem dX1_known_56 : decode cX1_known 56 = .ok (.iload_n 2, 1) := qdX1_known_0_24.2.2.1
theorem dX1_known_57 : decode cX1_known 57 = .ok (.iconst 1, 1) := qdX1_known_0_24.2.2.2.1
theorem dX1_known_58 : decode cX1_known 58 = .ok (.if_icmp .ne 7, 3) := qdX1_known_0_24.2.2.2.2.1
theorem dX1_known_61 : decode cX1_known 61 = .ok (.lconst 1, 1) := qdX1_known_0_24.2.2.2.2.2.1
theorem dX1_known_62 : decode cX1_known 62 = .ok (.goto 4, 3) := qdX1_known_0_24.2.2.2.2.2.2.1
theorem dX1_known_65 : decode cX1_known 65 = .ok (.lconst 0, 1) := qdX1_known_0_24.2.2.2.2.2.2.2.1
theorem dX1_known_66 : decode cX1_known 66 = .ok (.lreturn, 1) := qdX1_known_0_24.2.2.2.2.2.2.2.2.1
theorem dX1_known_67 : decode cX1_known 67 = .ok (.lconst 1, 1) := qdX1_known_0_24.2.2.2.2.2.2.2.2.2.1
theorem dX1_known_68 : decode cX1_known 68 = .ok (.lreturn, 1) := qdX1_known_0_24.2.2.2.2.2.2.2.2.2.2.1
theorem dX1_known_69 : decode cX1_known 69 = .ok (.iload_n 2, 1) := qdX1_known_0_24.2.2.2.2.2.2.2.2.2.2.2.1
theorem dX1_known_70 : decode cX1_known 70 = .ok (.i2l, 1) := qdX1_known_0_24.2.2.2.2.2.2.2.2.2.2.2.2.1
theorem dX1_known_71 : decode cX1_known 71 = .ok (.lreturn, 1) := qdX1_known_0_24.2.2.2.2.2.2.2.2.2.2.2.2.2.1
theorem dX1_known_72 : decode cX1_known 72 = .ok (.aload_n 0, 1) := qdX1_known_0_24.2.2.2.2.2.2.2.2.2.2.2.2.2.2.1
theorem dX1_known_73 : decode cX1_known 73 = .ok (.iload_n 2, 1) := qdX1_known_0_24.2.2.2.2.2.2.2.2.2.2.2.2.2.2.2.1
theorem dX1_known_74 : decode cX1_known 74 = .ok (.invokevirtual 26, 3) := qdX1_known_0_24.2.2.2.2.2.2.2.2.2.2.2.2.2.2.2.2.1
theorem dX1_known_77 : decode cX1_known 77 = .ok (.i2l, 1) := qdX1_known_0_24.2.2.2.2.2.2.2.2.2.2.2.2.2.2.2.2.2.1
theorem dX1_known_78 : decode cX1_known 78 = .ok (.lreturn, 1) := qdX1_known_0_24.2.2.2.2.2.2.2.2.2.2.2.2.2.2.2.2.2.2.1
theorem dX1_known_79 : decode cX1_known 79 = .ok (.aload_n 0, 1) := qdX1_known_0_24.2.2.2.2.2.2.2.2.2.2.2.2.2.2.2.2.2.2.2.1
theorem dX1_known_80 : decode cX1_known 80 = .ok (.iload_n 2, 1) := qdX1_known_0_24.2.2.2.2.2.2.2.2.2.2.2.2.2.2.2.2.2.2.2.2.1
theorem dX1_known_81 : decode cX1_known 81 = .ok (.invokevirtual 30, 3) := qdX1_known_0_24.2.2.2.2.2.2.2.2.2.2.2.2.2.2.2.2.2.2.2.2.2.1
theorem dX1_known_84 : decode cX1_known 84 = .ok (.i2l, 1) := qdX1_known_0_24.2.2.2.2.2.2.2.2.2.2.2.2.2.2.2.2.2.2.2.2.2.2.1
theorem dX1_known_85 : decode cX1_known 85 = .ok (.lreturn, 1) := qdX1_known_0_24.2.2.2.2.2.2.2.2.2.2.2.2.2.2.2.2.2.2.2.2.2.2.2.1
theorem qdX1_known_86_24 : dcAll cX1_known [(86, .aload_n 0, 1), (87, .iload_n 2, 1), (88, .invokevirtual 33, 3), (91, .i2l, 1), (92, .lreturn, 1), (93, .aload_n 0, 1), (94, .iload_n 2, 1), (95, .invokevirtual 36, 3), (98, .i2l, 1), (99, .lreturn, 1), (100, .aload_n 0, 1), (101, .iload_n 2, 1), (102, .invokevirtual 39, 3), (105, .iconst 1, 1), (106, .if_icmp .ne 7, 3), (109, .lconst 1, 1), (110, .goto 4, 3), (113, .lconst 0, 1), (114, .lreturn, 1), (115, .aload_n 0, 1), (116, .iload_n 2, 1), (117, .invokevirtual 42, 3), (120, .i2l, 1), (121, .lreturn, 1)] := dcAll_of (by decide +kernel)
theorem dX1_known_86 : decode cX1_known 86 = .ok (.aload_n 0, 1) := qdX1_known_86_24.1
theorem dX1_known_87 : decode cX1_known 87 = .ok (.iload_n 2, 1) := qdX1_known_86_24.2.1
theorem dX1_known_88 : decode cX1_known 88 = .ok (.invokevirtual 33, 3) := qdX1_known_86_24.2.2.1
theorem dX1_known_91 : decode cX1_known 91 = .ok (.i2l, 1) := qdX1_known_86_24.2.2.2.1
theorem dX1_known_92 : decode cX1_known 92 = .ok (.lreturn, 1) := qdX1_known_86_24.2.2.2.2.1
theorem dX1_known_93 : decode cX1_known 93 = .ok (.aload_n 0, 1) := qdX1_known_86_24.2.2.2.2.2.1
theorem dX1_known_94 : decode cX1_known 94 = .ok (.iload_n 2, 1) := qdX1_known_86_24.2.2.2.2.2.2.1
theorem dX1_known_95 : decode cX1_known 95 = .ok (.invokevirtual 36, 3) := qdX1_known_86_24.2.2.2.2.2.2.2.1
theorem dX1_known_98 : decode cX1_known 98 = .ok (.i2l, 1) := qdX1_known_86_24.2.2.2.2.2.2.2.2.1
theorem dX1_known_99 : decode cX1_known 99 = .ok (.lreturn, 1) := qdX1_known_86_24.2.2.2.2.2.2.2.2.2.1
theorem dX1_known_100 : decode cX1_known 100 = .ok (.aload_n 0, 1) := qdX1_known_86_24.2.2.2.2.2.2.2.2.2.2.1
theorem dX1_known_101 : decode cX1_known 101 = .ok (.iload_n 2, 1) := qdX1_known_86_24.2.2.2.2.2.2.2.2.2.2.2.1
theorem dX1_known_102 : decode cX1_known 102 = .ok (.invokevirtual 39, 3) := qdX1_known_86_24.2.2.2.2.2.2.2.2.2.2.2.2.1
theorem dX1_known_105 : decode cX1_known 105 = .ok (.iconst 1, 1) := qdX1_known_86_24.2.2.2.2.2.2.2.2.2.2.2.2.2.1
theorem dX1_known_106 : decode cX1_known 106 = .ok (.if_icmp .ne 7, 3) := qdX1_known_86_24.2.2.2.2.2.2.2.2.2.2.2.2.2.2.1
theorem dX1_known_109 : decode cX1_known 109 = .ok (.lconst 1, 1) := qdX1_known_86_24.2.2.2.2.2.2.2.2.2.2.2.2.2.2.2.1
theorem dX1_known_110 : decode cX1_known 110 = .ok (.goto 4, 3) := qdX1_known_86_24.2.2.2.2.2.2.2.2.2.2.2.2.2.2.2.2.1
theorem dX1_known_113 : decode cX1_known 113 = .ok (.lconst 0, 1) := qdX1_known_86_24.2.2.2.2.2.2.2.2.2.2.2.2.2.2.2.2.2.1
theorem dX1_known_114 : decode cX1_known 114 = .ok (.lreturn, 1) := qdX1_known_86_24.2.2.2.2.2.2.2.2.2.2.2.2.2.2.2.2.2.2.1
theorem dX1_known_115 : decode cX1_known 115 = .ok (.aload_n 0, 1) := qdX1_known_86_24.2.2.2.2.2.2.2.2.2.2.2.2.2.2.2.2.2.2.2.1
theorem dX1_known_116 : decode cX1_known 116 = .ok (.iload_n 2, 1) := qdX1_known_86_24.2.2.2.2.2.2.2.2.2.2.2.2.2.2.2.2.2.2.2.2.1
theorem dX1_known_117 : decode cX1_known 117 = .ok (.invokevirtual 42, 3) := qdX1_known_86_24.2.2.2.2.2.2.2.2.2.2.2.2.2.2.2.2.2.2.2.2.2.1
theorem dX1_known_120 : decode cX1_known 120 = .ok (.i2l, 1) := qdX1_known_86_24.2.2.2.2.2.2.2.2.2.2.2.2.2.2.2.2.2.2.2.2.2.2.1
theorem dX1_known_121 : decode cX1_known 121 = .ok (.lreturn, 1) := qdX1_known_86_24.2.2.2.2.2.2.2.2.2.2.2.2.2.2.2.2.2.2.2.2.2.2.2.1
theorem qdX1_known_122_15 : dcAll cX1_known [(122, .aload_n 0, 1), (123, .iload_n 2, 1), (124, .invokevirtual 39, 3), (127, .iload_n 2, 1), (128, .if_icmp .ne 7, 3), (131, .lconst 1, 1), (132, .goto 4, 3), (135, .lconst 0, 1), (136, .lreturn, 1), (137, .iload_n 2, 1), (138, .i2l, 1), (139, .iload_n 2, 1), (140, .i2l, 1), (141, .lmul, 1), (142, .lreturn, 1)] := dcAll_of (by decide +kernel)
theorem dX1_known_122 : decode cX1_known 122 = .ok (.aload_n 0, 1) := qdX1_known_122_15.1
theorem dX1_known_123 : decode cX1_known 123 = .ok (.iload_n 2, 1) := qdX1_known_122_15.2.1
theorem dX1_known_124 : decode cX1_known 124 = .ok (.invokevirtual 39, 3) := qdX1_known_122_15.2.2.1
theorem dX1_known_127 : decode cX1_known 127 = .ok (.iload_n 2, 1) := qdX1_known_122_15.2.2.2.1
theorem dX1_known_128 : decode cX1_known 128 = .ok (.if_icmp .ne 7, 3) := qdX1_known_122_15.2.2.2.2.1
theorem dX1_known_131 : decode cX1_known 131 = .ok (.lconst 1, 1) := qdX1_known_122_15.2.2.2.2.2.1
theorem dX1_known_132 : decode cX1_known 132 = .ok (.goto 4, 3) := qdX1_known_122_15.2.2.2.2.2.2.1
theorem dX1_known_135 : decode cX1_known 135 = .ok (.lconst 0, 1) := qdX1_known_122_15.2.2.2.2.2.2.2.1
theorem dX1_known_136 : decode cX1_known 136 = .ok (.lreturn, 1) := qdX1_known_122_15.2.2.2.2.2.2.2.2.1
theorem dX1_known_137 : decode cX1_known 137 = .ok (.iload_n 2, 1) := qdX1_known_122_15.2.2.2.2.2.2.2.2.2.1
theorem dX1_known_138 : decode cX1_known 138 = .ok (.i2l, 1) := qdX1_known_122_15.2.2.2.2.2.2.2.2.2.2.1
theorem dX1_known_139 : decode cX1_known 139 = .ok (.iload_n 2, 1) := qdX1_known_122_15.2.2.2.2.2.2.2.2.2.2.2.1
theorem dX1_known_140 : decode cX1_known 140 = .ok (.i2l, 1) := qdX1_known_122_15.2.2.2.2.2.2.2.2.2.2.2.2.1
theorem dX1_known_141 : decode cX1_known 141 = .ok (.lmul, 1) := qdX1_known_122_15.2.2.2.2.2.2.2.2.2.2.2.2.2.1
theorem dX1_known_142 : decode cX1_known 142 = .ok (.lreturn, 1) := qdX1_known_122_15.2.2.2.2.2.2.2.2.2.2.2.2.2.2.1
theorem qdX1_tauOneByOne_0_21 : dcAll cX1_tauOneByOne [(0, .iconst 0, 1), (1, .istore_n 2, 1), (2, .iconst 1, 1), (3, .istore_n 3, 1), (4, .iload_n 3, 1), (5, .iload_n 1, 1), (6, .if_icmp .gt 23, 3), (9, .iload_n 2, 1), (10, .iload_n 1, 1), (11, .iload_n 3, 1), (12, .irem, 1), (13, .ifCond .ne 7, 3), (16, .iconst 1, 1), (17, .goto 4, 3), (20, .iconst 0, 1), (21, .iadd, 1), (22, .istore_n 2, 1), (23, .iinc 3 1, 3), (26, .goto (-22), 3), (29, .iload_n 2, 1), (30, .ireturn, 1)] := dcAll_of (by decide +kernel)
theorem dX1_tauOneByOne_0 : decode cX1_tauOneByOne 0 = .ok (.iconst 0, 1) := qdX1_tauOneByOne_0_21.1
theorem dX1_tauOneByOne_1 : decode cX1_tauOneByOne 1 = .ok (.istore_n 2, 1) := qdX1_tauOneByOne_0_21.2.1
theorem dX1_tauOneByOne_2 : decode cX1_tauOneByOne 2 = .ok (.iconst 1, 1) := qdX1_tauOneByOne_0_21.2.2.1
theorem dX1_tauOneByOne_3 : decode cX1_tauOneByOne 3 = .ok (.istore_n 3, 1) := qdX1_tauOneByOne_0_21.2.2.2.1
theorem dX1_tauOneByOne_4 : decode cX1_tauOneByOne 4 = .ok (.iload_n 3, 1) := qdX1_tauOneByOne_0_21.2.2.2.2.1
theorem dX1_tauOneByOne_5 : decode cX1_tauOneByOne 5 = .ok (.iload_n 1, 1) := qdX1_tauOneByOne_0_21.2.2.2.2.2.1
theorem dX1_tauOneByOne_6 : decode cX1_tauOneByOne 6 = .ok (.if_icmp .gt 23, 3) := qdX1_tauOneByOne_0_21.2.2.2.2.2.2.1
theorem dX1_tauOneByOne_9 : decode cX1_tauOneByOne 9 = .ok (.iload_n 2, 1) := qdX1_tauOneByOne_0_21.2.2.2.2.2.2.2.1
theorem dX1_tauOneByOne_10 : decode cX1_tauOneByOne 10 = .ok (.iload_n 1, 1) := qdX1_tauOneByOne_0_21.2.2.2.2.2.2.2.2.1
theorem dX1_tauOneByOne_11 : decode cX1_tauOneByOne 11 = .ok (.iload_n 3, 1) := qdX1_tauOneByOne_0_21.2.2.2.2.2.2.2.2.2.1
theorem dX1_tauOneByOne_12 : decode cX1_tauOneByOne 12 = .ok (.irem, 1) := qdX1_tauOneByOne_0_21.2.2.2.2.2.2.2.2.2.2.1
theorem dX1_tauOneByOne_13 : decode cX1_tauOneByOne 13 = .ok (.ifCond .ne 7, 3) := qdX1_tauOneByOne_0_21.2.2.2.2.2.2.2.2.2.2.2.1
theorem dX1_tauOneByOne_16 : decode cX1_tauOneByOne 16 = .ok (.iconst 1, 1) := qdX1_tauOneByOne_0_21.2.2.2.2.2.2.2.2.2.2.2.2.1
theorem dX1_tauOneByOne_17 : decode cX1_tauOneByOne 17 = .ok (.goto 4, 3) := qdX1_tauOneByOne_0_21.2.2.2.2.2.2.2.2.2.2.2.2.2.1
theorem dX1_tauOneByOne_20 : decode cX1_tauOneByOne 20 = .ok (.iconst 0, 1) := qdX1_tauOneByOne_0_21.2.2.2.2.2.2.2.2.2.2.2.2.2.2.1
theorem dX1_tauOneByOne_21 : decode cX1_tauOneByOne 21 = .ok (.iadd, 1) := qdX1_tauOneByOne_0_21.2.2.2.2.2.2.2.2.2.2.2.2.2.2.2.1
theorem dX1_tauOneByOne_22 : decode cX1_tauOneByOne 22 = .ok (.istore_n 2, 1) := qdX1_tauOneByOne_0_21.2.2.2.2.2.2.2.2.2.2.2.2.2.2.2.2.1
theorem dX1_tauOneByOne_23 : decode cX1_tauOneByOne 23 = .ok (.iinc 3 1, 3) := qdX1_tauOneByOne_0_21.2.2.2.2.2.2.2.2.2.2.2.2.2.2.2.2.2.1
theorem dX1_tauOneByOne_26 : decode cX1_tauOneByOne 26 = .ok (.goto (-22), 3) := qdX1_tauOneByOne_0_21.2.2.2.2.2.2.2.2.2.2.2.2.2.2.2.2.2.2.1
theorem dX1_tauOneByOne_29 : decode cX1_tauOneByOne 29 = .ok (.iload_n 2, 1) := qdX1_tauOneByOne_0_21.2.2.2.2.2.2.2.2.2.2.2.2.2.2.2.2.2.2.2.1
theorem dX1_tauOneByOne_30 : decode cX1_tauOneByOne 30 = .ok (.ireturn, 1) := qdX1_tauOneByOne_0_21.2.2.2.2.2.2.2.2.2.2.2.2.2.2.2.2.2.2.2.2.1
theorem ggX1_tauByPowers_X2_lay : GoodIn wsX1_tauByPowers wsX2_lay := fun w h => ⟨List.mem_cons_of_mem _ (List.mem_append_left _ (List.mem_append_left _ (List.mem_append_right _ h))), zq_X2_lay w h⟩
set_option maxRecDepth 20000 in
theorem gX1_tauByPowers_X2_lay : GoodIn wsX1_tauByPowers (wsV RX1 22 RX2 yX2_lay wsX2_lay) := goodIn_app (goodIn_r _ [2, 3, 4, 5] rfl rfl) ggX1_tauByPowers_X2_lay
theorem ggX1_tauByPowers_X2_count : GoodIn wsX1_tauByPowers wsX2_count := fun w h => ⟨List.mem_cons_of_mem _ (List.mem_append_left _ (List.mem_append_right _ h)), zq_X2_count w h⟩
set_option maxRecDepth 20000 in
theorem gX1_tauByPowers_X2_count : GoodIn wsX1_tauByPowers (wsV RX1 45 RX2 yX2_count wsX2_count) := goodIn_app (goodIn_r _ [6, 7, 8, 5] rfl rfl) ggX1_tauByPowers_X2_count
theorem ggX1_tauByPowers_X2_timesAt : GoodIn wsX1_tauByPowers wsX2_timesAt := fun w h => ⟨List.mem_cons_of_mem _ (List.mem_append_right _ h), zq_X2_timesAt w h⟩
set_option maxRecDepth 20000 in
theorem gX1_tauByPowers_X2_timesAt : GoodIn wsX1_tauByPowers (wsV RX1 49 RX2 yX2_timesAt wsX2_timesAt) := goodIn_app (goodIn_r _ [9, 10, 11, 5] rfl rfl) ggX1_tauByPowers_X2_timesAt
theorem qdX1_tauByPowers_0_24 : dcAll cX1_tauByPowers [(0, .aload_n 0, 1), (1, .getfield 12, 3), (4, .iload_n 1, 1), (5, .invokevirtual 22, 3), (8, .iconst 1, 1), (9, .istore_n 2, 1), (10, .iconst 0, 1), (11, .istore_n 3, 1), (12, .iload_n 3, 1), (13, .aload_n 0, 1), (14, .getfield 12, 3), (17, .invokevirtual 45, 3), (20, .if_icmp .ge 22, 3), (23, .iload_n 2, 1), (24, .aload_n 0, 1), (25, .getfield 12, 3), (28, .iload_n 3, 1), (29, .invokevirtual 49, 3), (32, .iconst 1, 1), (33, .iadd, 1), (34, .imul, 1), (35, .istore_n 2, 1), (36, .iinc 3 1, 3), (39, .goto (-27), 3)] := dcAll_of (by decide +kernel)
theorem dX1_tauByPowers_0 : decode cX1_tauByPowers 0 = .ok (.aload_n 0, 1) := qdX1_tauByPowers_0_24.1
theorem dX1_tauByPowers_1 : decode cX1_tauByPowers 1 = .ok (.getfield 12, 3) := qdX1_tauByPowers_0_24.2.1
theorem dX1_tauByPowers_4 : decode cX1_tauByPowers 4 = .ok (.iload_n 1, 1) := qdX1_tauByPowers_0_24.2.2.1
theorem dX1_tauByPowers_5 : decode cX1_tauByPowers 5 = .ok (.invokevirtual 22, 3) := qdX1_tauByPowers_0_24.2.2.2.1
theorem dX1_tauByPowers_8 : decode cX1_tauByPowers 8 = .ok (.iconst 1, 1) := qdX1_tauByPowers_0_24.2.2.2.2.1
theorem dX1_tauByPowers_9 : decode cX1_tauByPowers 9 = .ok (.istore_n 2, 1) := qdX1_tauByPowers_0_24.2.2.2.2.2.1
theorem dX1_tauByPowers_10 : decode cX1_tauByPowers 10 = .ok (.iconst 0, 1) := qdX1_tauByPowers_0_24.2.2.2.2.2.2.1
theorem dX1_tauByPowers_11 : decode cX1_tauByPowers 11 = .ok (.istore_n 3, 1) := qdX1_tauByPowers_0_24.2.2.2.2.2.2.2.1
theorem dX1_tauByPowers_12 : decode cX1_tauByPowers 12 = .ok (.iload_n 3, 1) := qdX1_tauByPowers_0_24.2.2.2.2.2.2.2.2.1
theorem dX1_tauByPowers_13 : decode cX1_tauByPowers 13 = .ok (.aload_n 0, 1) := qdX1_tauByPowers_0_24.2.2.2.2.2.2.2.2.2.1
theorem dX1_tauByPowers_14 : decode cX1_tauByPowers 14 = .ok (.getfield 12, 3) := qdX1_tauByPowers_0_24.2.2.2.2.2.2.2.2.2.2.1
theorem dX1_tauByPowers_17 : decode cX1_tauByPowers 17 = .ok (.invokevirtual 45, 3) := qdX1_tauByPowers_0_24.2.2.2.2.2.2.2.2.2.2.2.1
theorem dX1_tauByPowers_20 : decode cX1_tauByPowers 20 = .ok (.if_icmp .ge 22, 3) := qdX1_tauByPowers_0_24.2.2.2.2.2.2.2.2.2.2.2.2.1
theorem dX1_tauByPowers_23 : decode cX1_tauByPowers 23 = .ok (.iload_n 2, 1) := qdX1_tauByPowers_0_24.2.2.2.2.2.2.2.2.2.2.2.2.2.1
theorem dX1_tauByPowers_24 : decode cX1_tauByPowers 24 = .ok (.aload_n 0, 1) := qdX1_tauByPowers_0_24.2.2.2.2.2.2.2.2.2.2.2.2.2.2.1
theorem dX1_tauByPowers_25 : decode cX1_tauByPowers 25 = .ok (.getfield 12, 3) := qdX1_tauByPowers_0_24.2.2.2.2.2.2.2.2.2.2.2.2.2.2.2.1
theorem dX1_tauByPowers_28 : decode cX1_tauByPowers 28 = .ok (.iload_n 3, 1) := qdX1_tauByPowers_0_24.2.2.2.2.2.2.2.2.2.2.2.2.2.2.2.2.1
theorem dX1_tauByPowers_29 : decode cX1_tauByPowers 29 = .ok (.invokevirtual 49, 3) := qdX1_tauByPowers_0_24.2.2.2.2.2.2.2.2.2.2.2.2.2.2.2.2.2.1
theorem dX1_tauByPowers_32 : decode cX1_tauByPowers 32 = .ok (.iconst 1, 1) := qdX1_tauByPowers_0_24.2.2.2.2.2.2.2.2.2.2.2.2.2.2.2.2.2.2.1
theorem dX1_tauByPowers_33 : decode cX1_tauByPowers 33 = .ok (.iadd, 1) := qdX1_tauByPowers_0_24.2.2.2.2.2.2.2.2.2.2.2.2.2.2.2.2.2.2.2.1
theorem dX1_tauByPowers_34 : decode cX1_tauByPowers 34 = .ok (.imul, 1) := qdX1_tauByPowers_0_24.2.2.2.2.2.2.2.2.2.2.2.2.2.2.2.2.2.2.2.2.1
theorem dX1_tauByPowers_35 : decode cX1_tauByPowers 35 = .ok (.istore_n 2, 1) := qdX1_tauByPowers_0_24.2.2.2.2.2.2.2.2.2.2.2.2.2.2.2.2.2.2.2.2.2.1
theorem dX1_tauByPowers_36 : decode cX1_tauByPowers 36 = .ok (.iinc 3 1, 3) := qdX1_tauByPowers_0_24.2.2.2.2.2.2.2.2.2.2.2.2.2.2.2.2.2.2.2.2.2.2.1
theorem dX1_tauByPowers_39 : decode cX1_tauByPowers 39 = .ok (.goto (-27), 3) := qdX1_tauByPowers_0_24.2.2.2.2.2.2.2.2.2.2.2.2.2.2.2.2.2.2.2.2.2.2.2.1
theorem qdX1_tauByPowers_42_2 : dcAll cX1_tauByPowers [(42, .iload_n 2, 1), (43, .ireturn, 1)] := dcAll_of (by decide +kernel)
theorem dX1_tauByPowers_42 : decode cX1_tauByPowers 42 = .ok (.iload_n 2, 1) := qdX1_tauByPowers_42_2.1
theorem dX1_tauByPowers_43 : decode cX1_tauByPowers 43 = .ok (.ireturn, 1) := qdX1_tauByPowers_42_2.2.1
theorem qdX1_tauByPairs_0_24 : dcAll cX1_tauByPairs [(0, .iconst 0, 1), (1, .istore_n 2, 1), (2, .iconst 1, 1), (3, .istore_n 3, 1), (4, .iload_n 3, 1), (5, .bipush 31, 2), (7, .if_icmp .gt 37, 3), (10, .iload_n 3, 1), (11, .iload_n 3, 1), (12, .imul, 1), (13, .iload_n 1, 1), (14, .if_icmp .gt 30, 3), (17, .iload_n 1, 1), (18, .iload_n 3, 1), (19, .irem, 1), (20, .ifCond .ne 18, 3), (23, .iload_n 2, 1), (24, .iload_n 3, 1), (25, .iload_n 3, 1), (26, .imul, 1), (27, .iload_n 1, 1), (28, .if_icmp .ge 7, 3), (31, .iconst 2, 1), (32, .goto 4, 3)] := dcAll_of (by decide +kernel)
theorem dX1_tauByPairs_0 : decode cX1_tauByPairs 0 = .ok (.iconst 0, 1) := qdX1_tauByPairs_0_24.1
theorem dX1_tauByPairs_1 : decode cX1_tauByPairs 1 = .ok (.istore_n 2, 1) := qdX1_tauByPairs_0_24.2.1
theorem dX1_tauByPairs_2 : decode cX1_tauByPairs 2 = .ok (.iconst 1, 1) := qdX1_tauByPairs_0_24.2.2.1
theorem dX1_tauByPairs_3 : decode cX1_tauByPairs 3 = .ok (.istore_n 3, 1) := qdX1_tauByPairs_0_24.2.2.2.1
theorem dX1_tauByPairs_4 : decode cX1_tauByPairs 4 = .ok (.iload_n 3, 1) := qdX1_tauByPairs_0_24.2.2.2.2.1
theorem dX1_tauByPairs_5 : decode cX1_tauByPairs 5 = .ok (.bipush 31, 2) := qdX1_tauByPairs_0_24.2.2.2.2.2.1
theorem dX1_tauByPairs_7 : decode cX1_tauByPairs 7 = .ok (.if_icmp .gt 37, 3) := qdX1_tauByPairs_0_24.2.2.2.2.2.2.1
theorem dX1_tauByPairs_10 : decode cX1_tauByPairs 10 = .ok (.iload_n 3, 1) := qdX1_tauByPairs_0_24.2.2.2.2.2.2.2.1
theorem dX1_tauByPairs_11 : decode cX1_tauByPairs 11 = .ok (.iload_n 3, 1) := qdX1_tauByPairs_0_24.2.2.2.2.2.2.2.2.1
theorem dX1_tauByPairs_12 : decode cX1_tauByPairs 12 = .ok (.imul, 1) := qdX1_tauByPairs_0_24.2.2.2.2.2.2.2.2.2.1
theorem dX1_tauByPairs_13 : decode cX1_tauByPairs 13 = .ok (.iload_n 1, 1) := qdX1_tauByPairs_0_24.2.2.2.2.2.2.2.2.2.2.1
theorem dX1_tauByPairs_14 : decode cX1_tauByPairs 14 = .ok (.if_icmp .gt 30, 3) := qdX1_tauByPairs_0_24.2.2.2.2.2.2.2.2.2.2.2.1
theorem dX1_tauByPairs_17 : decode cX1_tauByPairs 17 = .ok (.iload_n 1, 1) := qdX1_tauByPairs_0_24.2.2.2.2.2.2.2.2.2.2.2.2.1
theorem dX1_tauByPairs_18 : decode cX1_tauByPairs 18 = .ok (.iload_n 3, 1) := qdX1_tauByPairs_0_24.2.2.2.2.2.2.2.2.2.2.2.2.2.1
theorem dX1_tauByPairs_19 : decode cX1_tauByPairs 19 = .ok (.irem, 1) := qdX1_tauByPairs_0_24.2.2.2.2.2.2.2.2.2.2.2.2.2.2.1
theorem dX1_tauByPairs_20 : decode cX1_tauByPairs 20 = .ok (.ifCond .ne 18, 3) := qdX1_tauByPairs_0_24.2.2.2.2.2.2.2.2.2.2.2.2.2.2.2.1
theorem dX1_tauByPairs_23 : decode cX1_tauByPairs 23 = .ok (.iload_n 2, 1) := qdX1_tauByPairs_0_24.2.2.2.2.2.2.2.2.2.2.2.2.2.2.2.2.1
theorem dX1_tauByPairs_24 : decode cX1_tauByPairs 24 = .ok (.iload_n 3, 1) := qdX1_tauByPairs_0_24.2.2.2.2.2.2.2.2.2.2.2.2.2.2.2.2.2.1
theorem dX1_tauByPairs_25 : decode cX1_tauByPairs 25 = .ok (.iload_n 3, 1) := qdX1_tauByPairs_0_24.2.2.2.2.2.2.2.2.2.2.2.2.2.2.2.2.2.2.1
theorem dX1_tauByPairs_26 : decode cX1_tauByPairs 26 = .ok (.imul, 1) := qdX1_tauByPairs_0_24.2.2.2.2.2.2.2.2.2.2.2.2.2.2.2.2.2.2.2.1
theorem dX1_tauByPairs_27 : decode cX1_tauByPairs 27 = .ok (.iload_n 1, 1) := qdX1_tauByPairs_0_24.2.2.2.2.2.2.2.2.2.2.2.2.2.2.2.2.2.2.2.2.1
theorem dX1_tauByPairs_28 : decode cX1_tauByPairs 28 = .ok (.if_icmp .ge 7, 3) := qdX1_tauByPairs_0_24.2.2.2.2.2.2.2.2.2.2.2.2.2.2.2.2.2.2.2.2.2.1
theorem dX1_tauByPairs_31 : decode cX1_tauByPairs 31 = .ok (.iconst 2, 1) := qdX1_tauByPairs_0_24.2.2.2.2.2.2.2.2.2.2.2.2.2.2.2.2.2.2.2.2.2.2.1
theorem dX1_tauByPairs_32 : decode cX1_tauByPairs 32 = .ok (.goto 4, 3) := qdX1_tauByPairs_0_24.2.2.2.2.2.2.2.2.2.2.2.2.2.2.2.2.2.2.2.2.2.2.2.1
theorem qdX1_tauByPairs_35_7 : dcAll cX1_tauByPairs [(35, .iconst 1, 1), (36, .iadd, 1), (37, .istore_n 2, 1), (38, .iinc 3 1, 3), (41, .goto (-37), 3), (44, .iload_n 2, 1), (45, .ireturn, 1)] := dcAll_of (by decide +kernel)
theorem dX1_tauByPairs_35 : decode cX1_tauByPairs 35 = .ok (.iconst 1, 1) := qdX1_tauByPairs_35_7.1
theorem dX1_tauByPairs_36 : decode cX1_tauByPairs 36 = .ok (.iadd, 1) := qdX1_tauByPairs_35_7.2.1
theorem dX1_tauByPairs_37 : decode cX1_tauByPairs 37 = .ok (.istore_n 2, 1) := qdX1_tauByPairs_35_7.2.2.1
theorem dX1_tauByPairs_38 : decode cX1_tauByPairs 38 = .ok (.iinc 3 1, 3) := qdX1_tauByPairs_35_7.2.2.2.1
theorem dX1_tauByPairs_41 : decode cX1_tauByPairs 41 = .ok (.goto (-37), 3) := qdX1_tauByPairs_35_7.2.2.2.2.1
theorem dX1_tauByPairs_44 : decode cX1_tauByPairs 44 = .ok (.iload_n 2, 1) := qdX1_tauByPairs_35_7.2.2.2.2.2.1
theorem dX1_tauByPairs_45 : decode cX1_tauByPairs 45 = .ok (.ireturn, 1) := qdX1_tauByPairs_35_7.2.2.2.2.2.2.1
theorem qdX1_sigmaOneByOne_0_21 : dcAll cX1_sigmaOneByOne [(0, .iconst 0, 1), (1, .istore_n 2, 1), (2, .iconst 1, 1), (3, .istore_n 3, 1), (4, .iload_n 3, 1), (5, .iload_n 1, 1), (6, .if_icmp .gt 23, 3), (9, .iload_n 2, 1), (10, .iload_n 1, 1), (11, .iload_n 3, 1), (12, .irem, 1), (13, .ifCond .ne 7, 3), (16, .iload_n 3, 1), (17, .goto 4, 3), (20, .iconst 0, 1), (21, .iadd, 1), (22, .istore_n 2, 1), (23, .iinc 3 1, 3), (26, .goto (-22), 3), (29, .iload_n 2, 1), (30, .ireturn, 1)] := dcAll_of (by decide +kernel)
theorem dX1_sigmaOneByOne_0 : decode cX1_sigmaOneByOne 0 = .ok (.iconst 0, 1) := qdX1_sigmaOneByOne_0_21.1
theorem dX1_sigmaOneByOne_1 : decode cX1_sigmaOneByOne 1 = .ok (.istore_n 2, 1) := qdX1_sigmaOneByOne_0_21.2.1
theorem dX1_sigmaOneByOne_2 : decode cX1_sigmaOneByOne 2 = .ok (.iconst 1, 1) := qdX1_sigmaOneByOne_0_21.2.2.1
theorem dX1_sigmaOneByOne_3 : decode cX1_sigmaOneByOne 3 = .ok (.istore_n 3, 1) := qdX1_sigmaOneByOne_0_21.2.2.2.1
theorem dX1_sigmaOneByOne_4 : decode cX1_sigmaOneByOne 4 = .ok (.iload_n 3, 1) := qdX1_sigmaOneByOne_0_21.2.2.2.2.1
theorem dX1_sigmaOneByOne_5 : decode cX1_sigmaOneByOne 5 = .ok (.iload_n 1, 1) := qdX1_sigmaOneByOne_0_21.2.2.2.2.2.1
theorem dX1_sigmaOneByOne_6 : decode cX1_sigmaOneByOne 6 = .ok (.if_icmp .gt 23, 3) := qdX1_sigmaOneByOne_0_21.2.2.2.2.2.2.1
theorem dX1_sigmaOneByOne_9 : decode cX1_sigmaOneByOne 9 = .ok (.iload_n 2, 1) := qdX1_sigmaOneByOne_0_21.2.2.2.2.2.2.2.1
theorem dX1_sigmaOneByOne_10 : decode cX1_sigmaOneByOne 10 = .ok (.iload_n 1, 1) := qdX1_sigmaOneByOne_0_21.2.2.2.2.2.2.2.2.1
theorem dX1_sigmaOneByOne_11 : decode cX1_sigmaOneByOne 11 = .ok (.iload_n 3, 1) := qdX1_sigmaOneByOne_0_21.2.2.2.2.2.2.2.2.2.1
theorem dX1_sigmaOneByOne_12 : decode cX1_sigmaOneByOne 12 = .ok (.irem, 1) := qdX1_sigmaOneByOne_0_21.2.2.2.2.2.2.2.2.2.2.1
theorem dX1_sigmaOneByOne_13 : decode cX1_sigmaOneByOne 13 = .ok (.ifCond .ne 7, 3) := qdX1_sigmaOneByOne_0_21.2.2.2.2.2.2.2.2.2.2.2.1
theorem dX1_sigmaOneByOne_16 : decode cX1_sigmaOneByOne 16 = .ok (.iload_n 3, 1) := qdX1_sigmaOneByOne_0_21.2.2.2.2.2.2.2.2.2.2.2.2.1
theorem dX1_sigmaOneByOne_17 : decode cX1_sigmaOneByOne 17 = .ok (.goto 4, 3) := qdX1_sigmaOneByOne_0_21.2.2.2.2.2.2.2.2.2.2.2.2.2.1
theorem dX1_sigmaOneByOne_20 : decode cX1_sigmaOneByOne 20 = .ok (.iconst 0, 1) := qdX1_sigmaOneByOne_0_21.2.2.2.2.2.2.2.2.2.2.2.2.2.2.1
theorem dX1_sigmaOneByOne_21 : decode cX1_sigmaOneByOne 21 = .ok (.iadd, 1) := qdX1_sigmaOneByOne_0_21.2.2.2.2.2.2.2.2.2.2.2.2.2.2.2.1
theorem dX1_sigmaOneByOne_22 : decode cX1_sigmaOneByOne 22 = .ok (.istore_n 2, 1) := qdX1_sigmaOneByOne_0_21.2.2.2.2.2.2.2.2.2.2.2.2.2.2.2.2.1
theorem dX1_sigmaOneByOne_23 : decode cX1_sigmaOneByOne 23 = .ok (.iinc 3 1, 3) := qdX1_sigmaOneByOne_0_21.2.2.2.2.2.2.2.2.2.2.2.2.2.2.2.2.2.1
theorem dX1_sigmaOneByOne_26 : decode cX1_sigmaOneByOne 26 = .ok (.goto (-22), 3) := qdX1_sigmaOneByOne_0_21.2.2.2.2.2.2.2.2.2.2.2.2.2.2.2.2.2.2.1
theorem dX1_sigmaOneByOne_29 : decode cX1_sigmaOneByOne 29 = .ok (.iload_n 2, 1) := qdX1_sigmaOneByOne_0_21.2.2.2.2.2.2.2.2.2.2.2.2.2.2.2.2.2.2.2.1
theorem dX1_sigmaOneByOne_30 : decode cX1_sigmaOneByOne 30 = .ok (.ireturn, 1) := qdX1_sigmaOneByOne_0_21.2.2.2.2.2.2.2.2.2.2.2.2.2.2.2.2.2.2.2.2.1
theorem ggX1_sigmaByPowers_X2_lay : GoodIn wsX1_sigmaByPowers wsX2_lay := fun w h => ⟨List.mem_cons_of_mem _ (List.mem_append_left _ (List.mem_append_left _ (List.mem_append_left _ (List.mem_append_right _ h)))), zq_X2_lay w h⟩
set_option maxRecDepth 20000 in
theorem gX1_sigmaByPowers_X2_lay : GoodIn wsX1_sigmaByPowers (wsV RX1 22 RX2 yX2_lay wsX2_lay) := goodIn_app (goodIn_r _ [2, 3, 4, 5] rfl rfl) ggX1_sigmaByPowers_X2_lay
theorem ggX1_sigmaByPowers_X2_count : GoodIn wsX1_sigmaByPowers wsX2_count := fun w h => ⟨List.mem_cons_of_mem _ (List.mem_append_left _ (List.mem_append_left _ (List.mem_append_right _ h))), zq_X2_count w h⟩
set_option maxRecDepth 20000 in
theorem gX1_sigmaByPowers_X2_count : GoodIn wsX1_sigmaByPowers (wsV RX1 45 RX2 yX2_count wsX2_count) := goodIn_app (goodIn_r _ [6, 7, 8, 5] rfl rfl) ggX1_sigmaByPowers_X2_count
theorem ggX1_sigmaByPowers_X2_timesAt : GoodIn wsX1_sigmaByPowers wsX2_timesAt := fun w h => ⟨List.mem_cons_of_mem _ (List.mem_append_left _ (List.mem_append_right _ h)), zq_X2_timesAt w h⟩
set_option maxRecDepth 20000 in
theorem gX1_sigmaByPowers_X2_timesAt : GoodIn wsX1_sigmaByPowers (wsV RX1 49 RX2 yX2_timesAt wsX2_timesAt) := goodIn_app (goodIn_r _ [9, 10, 11, 5] rfl rfl) ggX1_sigmaByPowers_X2_timesAt
theorem ggX1_sigmaByPowers_X2_primeAt : GoodIn wsX1_sigmaByPowers wsX2_primeAt := fun w h => ⟨List.mem_cons_of_mem _ (List.mem_append_right _ h), zq_X2_primeAt w h⟩
set_option maxRecDepth 20000 in
theorem gX1_sigmaByPowers_X2_primeAt : GoodIn wsX1_sigmaByPowers (wsV RX1 52 RX2 yX2_primeAt wsX2_primeAt) := goodIn_app (goodIn_r _ [12, 13, 14, 5] rfl rfl) ggX1_sigmaByPowers_X2_primeAt
theorem qdX1_sigmaByPowers_0_24 : dcAll cX1_sigmaByPowers [(0, .aload_n 0, 1), (1, .getfield 12, 3), (4, .iload_n 1, 1), (5, .invokevirtual 22, 3), (8, .iconst 1, 1), (9, .istore_n 2, 1), (10, .iconst 0, 1), (11, .istore_n 3, 1), (12, .iload_n 3, 1), (13, .aload_n 0, 1), (14, .getfield 12, 3), (17, .invokevirtual 45, 3), (20, .if_icmp .ge 62, 3), (23, .iconst 1, 1), (24, .istore 4, 2), (26, .iconst 1, 1), (27, .istore 5, 2), (29, .iconst 0, 1), (30, .istore 6, 2), (32, .iload 6, 2), (34, .aload_n 0, 1), (35, .getfield 12, 3), (38, .iload_n 3, 1), (39, .invokevirtual 49, 3)] := dcAll_of (by decide +kernel)
theorem dX1_sigmaByPowers_0 : decode cX1_sigmaByPowers 0 = .ok (.aload_n 0, 1) := qdX1_sigmaByPowers_0_24.1
theorem dX1_sigmaByPowers_1 : decode cX1_sigmaByPowers 1 = .ok (.getfield 12, 3) := qdX1_sigmaByPowers_0_24.2.1
theorem dX1_sigmaByPowers_4 : decode cX1_sigmaByPowers 4 = .ok (.iload_n 1, 1) := qdX1_sigmaByPowers_0_24.2.2.1
theorem dX1_sigmaByPowers_5 : decode cX1_sigmaByPowers 5 = .ok (.invokevirtual 22, 3) := qdX1_sigmaByPowers_0_24.2.2.2.1
theorem dX1_sigmaByPowers_8 : decode cX1_sigmaByPowers 8 = .ok (.iconst 1, 1) := qdX1_sigmaByPowers_0_24.2.2.2.2.1
theorem dX1_sigmaByPowers_9 : decode cX1_sigmaByPowers 9 = .ok (.istore_n 2, 1) := qdX1_sigmaByPowers_0_24.2.2.2.2.2.1
theorem dX1_sigmaByPowers_10 : decode cX1_sigmaByPowers 10 = .ok (.iconst 0, 1) := qdX1_sigmaByPowers_0_24.2.2.2.2.2.2.1
theorem dX1_sigmaByPowers_11 : decode cX1_sigmaByPowers 11 = .ok (.istore_n 3, 1) := qdX1_sigmaByPowers_0_24.2.2.2.2.2.2.2.1
theorem dX1_sigmaByPowers_12 : decode cX1_sigmaByPowers 12 = .ok (.iload_n 3, 1) := qdX1_sigmaByPowers_0_24.2.2.2.2.2.2.2.2.1
theorem dX1_sigmaByPowers_13 : decode cX1_sigmaByPowers 13 = .ok (.aload_n 0, 1) := qdX1_sigmaByPowers_0_24.2.2.2.2.2.2.2.2.2.1
theorem dX1_sigmaByPowers_14 : decode cX1_sigmaByPowers 14 = .ok (.getfield 12, 3) := qdX1_sigmaByPowers_0_24.2.2.2.2.2.2.2.2.2.2.1
theorem dX1_sigmaByPowers_17 : decode cX1_sigmaByPowers 17 = .ok (.invokevirtual 45, 3) := qdX1_sigmaByPowers_0_24.2.2.2.2.2.2.2.2.2.2.2.1
theorem dX1_sigmaByPowers_20 : decode cX1_sigmaByPowers 20 = .ok (.if_icmp .ge 62, 3) := qdX1_sigmaByPowers_0_24.2.2.2.2.2.2.2.2.2.2.2.2.1
theorem dX1_sigmaByPowers_23 : decode cX1_sigmaByPowers 23 = .ok (.iconst 1, 1) := qdX1_sigmaByPowers_0_24.2.2.2.2.2.2.2.2.2.2.2.2.2.1
theorem dX1_sigmaByPowers_24 : decode cX1_sigmaByPowers 24 = .ok (.istore 4, 2) := qdX1_sigmaByPowers_0_24.2.2.2.2.2.2.2.2.2.2.2.2.2.2.1
theorem dX1_sigmaByPowers_26 : decode cX1_sigmaByPowers 26 = .ok (.iconst 1, 1) := qdX1_sigmaByPowers_0_24.2.2.2.2.2.2.2.2.2.2.2.2.2.2.2.1
theorem dX1_sigmaByPowers_27 : decode cX1_sigmaByPowers 27 = .ok (.istore 5, 2) := qdX1_sigmaByPowers_0_24.2.2.2.2.2.2.2.2.2.2.2.2.2.2.2.2.1
theorem dX1_sigmaByPowers_29 : decode cX1_sigmaByPowers 29 = .ok (.iconst 0, 1) := qdX1_sigmaByPowers_0_24.2.2.2.2.2.2.2.2.2.2.2.2.2.2.2.2.2.1
theorem dX1_sigmaByPowers_30 : decode cX1_sigmaByPowers 30 = .ok (.istore 6, 2) := qdX1_sigmaByPowers_0_24.2.2.2.2.2.2.2.2.2.2.2.2.2.2.2.2.2.2.1
theorem dX1_sigmaByPowers_32 : decode cX1_sigmaByPowers 32 = .ok (.iload 6, 2) := qdX1_sigmaByPowers_0_24.2.2.2.2.2.2.2.2.2.2.2.2.2.2.2.2.2.2.2.1
theorem dX1_sigmaByPowers_34 : decode cX1_sigmaByPowers 34 = .ok (.aload_n 0, 1) := qdX1_sigmaByPowers_0_24.2.2.2.2.2.2.2.2.2.2.2.2.2.2.2.2.2.2.2.2.1
theorem dX1_sigmaByPowers_35 : decode cX1_sigmaByPowers 35 = .ok (.getfield 12, 3) := qdX1_sigmaByPowers_0_24.2.2.2.2.2.2.2.2.2.2.2.2.2.2.2.2.2.2.2.2.2.1
theorem dX1_sigmaByPowers_38 : decode cX1_sigmaByPowers 38 = .ok (.iload_n 3, 1) := qdX1_sigmaByPowers_0_24.2.2.2.2.2.2.2.2.2.2.2.2.2.2.2.2.2.2.2.2.2.2.1
theorem dX1_sigmaByPowers_39 : decode cX1_sigmaByPowers 39 = .ok (.invokevirtual 49, 3) := qdX1_sigmaByPowers_0_24.2.2.2.2.2.2.2.2.2.2.2.2.2.2.2.2.2.2.2.2.2.2.2.1
theorem qdX1_sigmaByPowers_42_22 : dcAll cX1_sigmaByPowers [(42, .if_icmp .ge 29, 3), (45, .iload 4, 2), (47, .aload_n 0, 1), (48, .getfield 12, 3), (51, .iload_n 3, 1), (52, .invokevirtual 52, 3), (55, .imul, 1), (56, .istore 4, 2), (58, .iload 5, 2), (60, .iload 4, 2), (62, .iadd, 1), (63, .istore 5, 2), (65, .iinc 6 1, 3), (68, .goto (-36), 3), (71, .iload_n 2, 1), (72, .iload 5, 2), (74, .imul, 1), (75, .istore_n 2, 1), (76, .iinc 3 1, 3), (79, .goto (-67), 3), (82, .iload_n 2, 1), (83, .ireturn, 1)] := dcAll_of (by decide +kernel)
theorem dX1_sigmaByPowers_42 : decode cX1_sigmaByPowers 42 = .ok (.if_icmp .ge 29, 3) := qdX1_sigmaByPowers_42_22.1
theorem dX1_sigmaByPowers_45 : decode cX1_sigmaByPowers 45 = .ok (.iload 4, 2) := qdX1_sigmaByPowers_42_22.2.1
theorem dX1_sigmaByPowers_47 : decode cX1_sigmaByPowers 47 = .ok (.aload_n 0, 1) := qdX1_sigmaByPowers_42_22.2.2.1
theorem dX1_sigmaByPowers_48 : decode cX1_sigmaByPowers 48 = .ok (.getfield 12, 3) := qdX1_sigmaByPowers_42_22.2.2.2.1
theorem dX1_sigmaByPowers_51 : decode cX1_sigmaByPowers 51 = .ok (.iload_n 3, 1) := qdX1_sigmaByPowers_42_22.2.2.2.2.1
theorem dX1_sigmaByPowers_52 : decode cX1_sigmaByPowers 52 = .ok (.invokevirtual 52, 3) := qdX1_sigmaByPowers_42_22.2.2.2.2.2.1
theorem dX1_sigmaByPowers_55 : decode cX1_sigmaByPowers 55 = .ok (.imul, 1) := qdX1_sigmaByPowers_42_22.2.2.2.2.2.2.1
theorem dX1_sigmaByPowers_56 : decode cX1_sigmaByPowers 56 = .ok (.istore 4, 2) := qdX1_sigmaByPowers_42_22.2.2.2.2.2.2.2.1
theorem dX1_sigmaByPowers_58 : decode cX1_sigmaByPowers 58 = .ok (.iload 5, 2) := qdX1_sigmaByPowers_42_22.2.2.2.2.2.2.2.2.1
theorem dX1_sigmaByPowers_60 : decode cX1_sigmaByPowers 60 = .ok (.iload 4, 2) := qdX1_sigmaByPowers_42_22.2.2.2.2.2.2.2.2.2.1
theorem dX1_sigmaByPowers_62 : decode cX1_sigmaByPowers 62 = .ok (.iadd, 1) := qdX1_sigmaByPowers_42_22.2.2.2.2.2.2.2.2.2.2.1
theorem dX1_sigmaByPowers_63 : decode cX1_sigmaByPowers 63 = .ok (.istore 5, 2) := qdX1_sigmaByPowers_42_22.2.2.2.2.2.2.2.2.2.2.2.1
theorem dX1_sigmaByPowers_65 : decode cX1_sigmaByPowers 65 = .ok (.iinc 6 1, 3) := qdX1_sigmaByPowers_42_22.2.2.2.2.2.2.2.2.2.2.2.2.1
theorem dX1_sigmaByPowers_68 : decode cX1_sigmaByPowers 68 = .ok (.goto (-36), 3) := qdX1_sigmaByPowers_42_22.2.2.2.2.2.2.2.2.2.2.2.2.2.1
theorem dX1_sigmaByPowers_71 : decode cX1_sigmaByPowers 71 = .ok (.iload_n 2, 1) := qdX1_sigmaByPowers_42_22.2.2.2.2.2.2.2.2.2.2.2.2.2.2.1
theorem dX1_sigmaByPowers_72 : decode cX1_sigmaByPowers 72 = .ok (.iload 5, 2) := qdX1_sigmaByPowers_42_22.2.2.2.2.2.2.2.2.2.2.2.2.2.2.2.1
theorem dX1_sigmaByPowers_74 : decode cX1_sigmaByPowers 74 = .ok (.imul, 1) := qdX1_sigmaByPowers_42_22.2.2.2.2.2.2.2.2.2.2.2.2.2.2.2.2.1
theorem dX1_sigmaByPowers_75 : decode cX1_sigmaByPowers 75 = .ok (.istore_n 2, 1) := qdX1_sigmaByPowers_42_22.2.2.2.2.2.2.2.2.2.2.2.2.2.2.2.2.2.1
theorem dX1_sigmaByPowers_76 : decode cX1_sigmaByPowers 76 = .ok (.iinc 3 1, 3) := qdX1_sigmaByPowers_42_22.2.2.2.2.2.2.2.2.2.2.2.2.2.2.2.2.2.2.1
theorem dX1_sigmaByPowers_79 : decode cX1_sigmaByPowers 79 = .ok (.goto (-67), 3) := qdX1_sigmaByPowers_42_22.2.2.2.2.2.2.2.2.2.2.2.2.2.2.2.2.2.2.2.1
theorem dX1_sigmaByPowers_82 : decode cX1_sigmaByPowers 82 = .ok (.iload_n 2, 1) := qdX1_sigmaByPowers_42_22.2.2.2.2.2.2.2.2.2.2.2.2.2.2.2.2.2.2.2.2.1
theorem dX1_sigmaByPowers_83 : decode cX1_sigmaByPowers 83 = .ok (.ireturn, 1) := qdX1_sigmaByPowers_42_22.2.2.2.2.2.2.2.2.2.2.2.2.2.2.2.2.2.2.2.2.2.1
theorem ggX1_phiOneByOne_X1_commonOf : GoodIn wsX1_phiOneByOne wsX1_commonOf := fun w h => ⟨List.mem_cons_of_mem _ (List.mem_append_right _ h), zq_X1_commonOf w h⟩
set_option maxRecDepth 20000 in
theorem gX1_phiOneByOne_X1_commonOf : GoodIn wsX1_phiOneByOne (va_wsS RX1 55 yX1_commonOf wsX1_commonOf) := goodIn_app (goodIn_r _ [1, 2, 3] rfl rfl) ggX1_phiOneByOne_X1_commonOf
theorem qdX1_phiOneByOne_0_22 : dcAll cX1_phiOneByOne [(0, .iconst 0, 1), (1, .istore_n 2, 1), (2, .iconst 1, 1), (3, .istore_n 3, 1), (4, .iload_n 3, 1), (5, .iload_n 1, 1), (6, .if_icmp .gt 26, 3), (9, .iload_n 2, 1), (10, .iload_n 3, 1), (11, .iload_n 1, 1), (12, .invokestatic 55, 3), (15, .iconst 1, 1), (16, .if_icmp .ne 7, 3), (19, .iconst 1, 1), (20, .goto 4, 3), (23, .iconst 0, 1), (24, .iadd, 1), (25, .istore_n 2, 1), (26, .iinc 3 1, 3), (29, .goto (-25), 3), (32, .iload_n 2, 1), (33, .ireturn, 1)] := dcAll_of (by decide +kernel)
theorem dX1_phiOneByOne_0 : decode cX1_phiOneByOne 0 = .ok (.iconst 0, 1) := qdX1_phiOneByOne_0_22.1
theorem dX1_phiOneByOne_1 : decode cX1_phiOneByOne 1 = .ok (.istore_n 2, 1) := qdX1_phiOneByOne_0_22.2.1
theorem dX1_phiOneByOne_2 : decode cX1_phiOneByOne 2 = .ok (.iconst 1, 1) := qdX1_phiOneByOne_0_22.2.2.1
theorem dX1_phiOneByOne_3 : decode cX1_phiOneByOne 3 = .ok (.istore_n 3, 1) := qdX1_phiOneByOne_0_22.2.2.2.1
theorem dX1_phiOneByOne_4 : decode cX1_phiOneByOne 4 = .ok (.iload_n 3, 1) := qdX1_phiOneByOne_0_22.2.2.2.2.1
theorem dX1_phiOneByOne_5 : decode cX1_phiOneByOne 5 = .ok (.iload_n 1, 1) := qdX1_phiOneByOne_0_22.2.2.2.2.2.1
theorem dX1_phiOneByOne_6 : decode cX1_phiOneByOne 6 = .ok (.if_icmp .gt 26, 3) := qdX1_phiOneByOne_0_22.2.2.2.2.2.2.1
theorem dX1_phiOneByOne_9 : decode cX1_phiOneByOne 9 = .ok (.iload_n 2, 1) := qdX1_phiOneByOne_0_22.2.2.2.2.2.2.2.1
theorem dX1_phiOneByOne_10 : decode cX1_phiOneByOne 10 = .ok (.iload_n 3, 1) := qdX1_phiOneByOne_0_22.2.2.2.2.2.2.2.2.1
theorem dX1_phiOneByOne_11 : decode cX1_phiOneByOne 11 = .ok (.iload_n 1, 1) := qdX1_phiOneByOne_0_22.2.2.2.2.2.2.2.2.2.1
theorem dX1_phiOneByOne_12 : decode cX1_phiOneByOne 12 = .ok (.invokestatic 55, 3) := qdX1_phiOneByOne_0_22.2.2.2.2.2.2.2.2.2.2.1
theorem dX1_phiOneByOne_15 : decode cX1_phiOneByOne 15 = .ok (.iconst 1, 1) := qdX1_phiOneByOne_0_22.2.2.2.2.2.2.2.2.2.2.2.1
theorem dX1_phiOneByOne_16 : decode cX1_phiOneByOne 16 = .ok (.if_icmp .ne 7, 3) := qdX1_phiOneByOne_0_22.2.2.2.2.2.2.2.2.2.2.2.2.1
theorem dX1_phiOneByOne_19 : decode cX1_phiOneByOne 19 = .ok (.iconst 1, 1) := qdX1_phiOneByOne_0_22.2.2.2.2.2.2.2.2.2.2.2.2.2.1
theorem dX1_phiOneByOne_20 : decode cX1_phiOneByOne 20 = .ok (.goto 4, 3) := qdX1_phiOneByOne_0_22.2.2.2.2.2.2.2.2.2.2.2.2.2.2.1
theorem dX1_phiOneByOne_23 : decode cX1_phiOneByOne 23 = .ok (.iconst 0, 1) := qdX1_phiOneByOne_0_22.2.2.2.2.2.2.2.2.2.2.2.2.2.2.2.1
theorem dX1_phiOneByOne_24 : decode cX1_phiOneByOne 24 = .ok (.iadd, 1) := qdX1_phiOneByOne_0_22.2.2.2.2.2.2.2.2.2.2.2.2.2.2.2.2.1
theorem dX1_phiOneByOne_25 : decode cX1_phiOneByOne 25 = .ok (.istore_n 2, 1) := qdX1_phiOneByOne_0_22.2.2.2.2.2.2.2.2.2.2.2.2.2.2.2.2.2.1
theorem dX1_phiOneByOne_26 : decode cX1_phiOneByOne 26 = .ok (.iinc 3 1, 3) := qdX1_phiOneByOne_0_22.2.2.2.2.2.2.2.2.2.2.2.2.2.2.2.2.2.2.1
theorem dX1_phiOneByOne_29 : decode cX1_phiOneByOne 29 = .ok (.goto (-25), 3) := qdX1_phiOneByOne_0_22.2.2.2.2.2.2.2.2.2.2.2.2.2.2.2.2.2.2.2.1
theorem dX1_phiOneByOne_32 : decode cX1_phiOneByOne 32 = .ok (.iload_n 2, 1) := qdX1_phiOneByOne_0_22.2.2.2.2.2.2.2.2.2.2.2.2.2.2.2.2.2.2.2.2.1
theorem dX1_phiOneByOne_33 : decode cX1_phiOneByOne 33 = .ok (.ireturn, 1) := qdX1_phiOneByOne_0_22.2.2.2.2.2.2.2.2.2.2.2.2.2.2.2.2.2.2.2.2.2.1
theorem ggX1_phiByPowers_X2_lay : GoodIn wsX1_phiByPowers wsX2_lay := fun w h => ⟨List.mem_cons_of_mem _ (List.mem_append_left _ (List.mem_append_left _ (List.mem_append_left _ (List.mem_append_right _ h)))), zq_X2_lay w h⟩
set_option maxRecDepth 20000 in
theorem gX1_phiByPowers_X2_lay : GoodIn wsX1_phiByPowers (wsV RX1 22 RX2 yX2_lay wsX2_lay) := goodIn_app (goodIn_r _ [2, 3, 4, 5] rfl rfl) ggX1_phiByPowers_X2_lay
theorem ggX1_phiByPowers_X2_count : GoodIn wsX1_phiByPowers wsX2_count := fun w h => ⟨List.mem_cons_of_mem _ (List.mem_append_left _ (List.mem_append_left _ (List.mem_append_right _ h))), zq_X2_count w h⟩
set_option maxRecDepth 20000 in
theorem gX1_phiByPowers_X2_count : GoodIn wsX1_phiByPowers (wsV RX1 45 RX2 yX2_count wsX2_count) := goodIn_app (goodIn_r _ [6, 7, 8, 5] rfl rfl) ggX1_phiByPowers_X2_count
theorem ggX1_phiByPowers_X2_timesAt : GoodIn wsX1_phiByPowers wsX2_timesAt := fun w h => ⟨List.mem_cons_of_mem _ (List.mem_append_left _ (List.mem_append_right _ h)), zq_X2_timesAt w h⟩
set_option maxRecDepth 20000 in
theorem gX1_phiByPowers_X2_timesAt : GoodIn wsX1_phiByPowers (wsV RX1 49 RX2 yX2_timesAt wsX2_timesAt) := goodIn_app (goodIn_r _ [9, 10, 11, 5] rfl rfl) ggX1_phiByPowers_X2_timesAt
theorem ggX1_phiByPowers_X2_primeAt : GoodIn wsX1_phiByPowers wsX2_primeAt := fun w h => ⟨List.mem_cons_of_mem _ (List.mem_append_right _ h), zq_X2_primeAt w h⟩
set_option maxRecDepth 20000 in
theorem gX1_phiByPowers_X2_primeAt : GoodIn wsX1_phiByPowers (wsV RX1 52 RX2 yX2_primeAt wsX2_primeAt) := goodIn_app (goodIn_r _ [12, 13, 14, 5] rfl rfl) ggX1_phiByPowers_X2_primeAt
theorem qdX1_phiByPowers_0_24 : dcAll cX1_phiByPowers [(0, .aload_n 0, 1), (1, .getfield 12, 3), (4, .iload_n 1, 1), (5, .invokevirtual 22, 3), (8, .iconst 1, 1), (9, .istore_n 2, 1), (10, .iconst 0, 1), (11, .istore_n 3, 1), (12, .iload_n 3, 1), (13, .aload_n 0, 1), (14, .getfield 12, 3), (17, .invokevirtual 45, 3), (20, .if_icmp .ge 64, 3), (23, .iconst 1, 1), (24, .istore 4, 2), (26, .iconst 1, 1), (27, .istore 5, 2), (29, .iload 5, 2), (31, .aload_n 0, 1), (32, .getfield 12, 3), (35, .iload_n 3, 1), (36, .invokevirtual 49, 3), (39, .if_icmp .ge 22, 3), (42, .iload 4, 2)] := dcAll_of (by decide +kernel)
theorem dX1_phiByPowers_0 : decode cX1_phiByPowers 0 = .ok (.aload_n 0, 1) := qdX1_phiByPowers_0_24.1
theorem dX1_phiByPowers_1 : decode cX1_phiByPowers 1 = .ok (.getfield 12, 3) := qdX1_phiByPowers_0_24.2.1
theorem dX1_phiByPowers_4 : decode cX1_phiByPowers 4 = .ok (.iload_n 1, 1) := qdX1_phiByPowers_0_24.2.2.1
theorem dX1_phiByPowers_5 : decode cX1_phiByPowers 5 = .ok (.invokevirtual 22, 3) := qdX1_phiByPowers_0_24.2.2.2.1
theorem dX1_phiByPowers_8 : decode cX1_phiByPowers 8 = .ok (.iconst 1, 1) := qdX1_phiByPowers_0_24.2.2.2.2.1
theorem dX1_phiByPowers_9 : decode cX1_phiByPowers 9 = .ok (.istore_n 2, 1) := qdX1_phiByPowers_0_24.2.2.2.2.2.1
theorem dX1_phiByPowers_10 : decode cX1_phiByPowers 10 = .ok (.iconst 0, 1) := qdX1_phiByPowers_0_24.2.2.2.2.2.2.1
theorem dX1_phiByPowers_11 : decode cX1_phiByPowers 11 = .ok (.istore_n 3, 1) := qdX1_phiByPowers_0_24.2.2.2.2.2.2.2.1
theorem dX1_phiByPowers_12 : decode cX1_phiByPowers 12 = .ok (.iload_n 3, 1) := qdX1_phiByPowers_0_24.2.2.2.2.2.2.2.2.1
theorem dX1_phiByPowers_13 : decode cX1_phiByPowers 13 = .ok (.aload_n 0, 1) := qdX1_phiByPowers_0_24.2.2.2.2.2.2.2.2.2.1
theorem dX1_phiByPowers_14 : decode cX1_phiByPowers 14 = .ok (.getfield 12, 3) := qdX1_phiByPowers_0_24.2.2.2.2.2.2.2.2.2.2.1
theorem dX1_phiByPowers_17 : decode cX1_phiByPowers 17 = .ok (.invokevirtual 45, 3) := qdX1_phiByPowers_0_24.2.2.2.2.2.2.2.2.2.2.2.1
theorem dX1_phiByPowers_20 : decode cX1_phiByPowers 20 = .ok (.if_icmp .ge 64, 3) := qdX1_phiByPowers_0_24.2.2.2.2.2.2.2.2.2.2.2.2.1
theorem dX1_phiByPowers_23 : decode cX1_phiByPowers 23 = .ok (.iconst 1, 1) := qdX1_phiByPowers_0_24.2.2.2.2.2.2.2.2.2.2.2.2.2.1
theorem dX1_phiByPowers_24 : decode cX1_phiByPowers 24 = .ok (.istore 4, 2) := qdX1_phiByPowers_0_24.2.2.2.2.2.2.2.2.2.2.2.2.2.2.1
theorem dX1_phiByPowers_26 : decode cX1_phiByPowers 26 = .ok (.iconst 1, 1) := qdX1_phiByPowers_0_24.2.2.2.2.2.2.2.2.2.2.2.2.2.2.2.1
theorem dX1_phiByPowers_27 : decode cX1_phiByPowers 27 = .ok (.istore 5, 2) := qdX1_phiByPowers_0_24.2.2.2.2.2.2.2.2.2.2.2.2.2.2.2.2.1
theorem dX1_phiByPowers_29 : decode cX1_phiByPowers 29 = .ok (.iload 5, 2) := qdX1_phiByPowers_0_24.2.2.2.2.2.2.2.2.2.2.2.2.2.2.2.2.2.1
theorem dX1_phiByPowers_31 : decode cX1_phiByPowers 31 = .ok (.aload_n 0, 1) := qdX1_phiByPowers_0_24.2.2.2.2.2.2.2.2.2.2.2.2.2.2.2.2.2.2.1
theorem dX1_phiByPowers_32 : decode cX1_phiByPowers 32 = .ok (.getfield 12, 3) := qdX1_phiByPowers_0_24.2.2.2.2.2.2.2.2.2.2.2.2.2.2.2.2.2.2.2.1
theorem dX1_phiByPowers_35 : decode cX1_phiByPowers 35 = .ok (.iload_n 3, 1) := qdX1_phiByPowers_0_24.2.2.2.2.2.2.2.2.2.2.2.2.2.2.2.2.2.2.2.2.1
theorem dX1_phiByPowers_36 : decode cX1_phiByPowers 36 = .ok (.invokevirtual 49, 3) := qdX1_phiByPowers_0_24.2.2.2.2.2.2.2.2.2.2.2.2.2.2.2.2.2.2.2.2.2.1
theorem dX1_phiByPowers_39 : decode cX1_phiByPowers 39 = .ok (.if_icmp .ge 22, 3) := qdX1_phiByPowers_0_24.2.2.2.2.2.2.2.2.2.2.2.2.2.2.2.2.2.2.2.2.2.2.1
theorem dX1_phiByPowers_42 : decode cX1_phiByPowers 42 = .ok (.iload 4, 2) := qdX1_phiByPowers_0_24.2.2.2.2.2.2.2.2.2.2.2.2.2.2.2.2.2.2.2.2.2.2.2.1
theorem qdX1_phiByPowers_44_23 : dcAll cX1_phiByPowers [(44, .aload_n 0, 1), (45, .getfield 12, 3), (48, .iload_n 3, 1), (49, .invokevirtual 52, 3), (52, .imul, 1), (53, .istore 4, 2), (55, .iinc 5 1, 3), (58, .goto (-29), 3), (61, .iload_n 2, 1), (62, .iload 4, 2), (64, .aload_n 0, 1), (65, .getfield 12, 3), (68, .iload_n 3, 1), (69, .invokevirtual 52, 3), (72, .imul, 1), (73, .iload 4, 2), (75, .isub, 1), (76, .imul, 1), (77, .istore_n 2, 1), (78, .iinc 3 1, 3), (81, .goto (-69), 3), (84, .iload_n 2, 1), (85, .ireturn, 1)] := dcAll_of (by decide +kernel)
theorem dX1_phiByPowers_44 : decode cX1_phiByPowers 44 = .ok (.aload_n 0, 1) := qdX1_phiByPowers_44_23.1
theorem dX1_phiByPowers_45 : decode cX1_phiByPowers 45 = .ok (.getfield 12, 3) := qdX1_phiByPowers_44_23.2.1
theorem dX1_phiByPowers_48 : decode cX1_phiByPowers 48 = .ok (.iload_n 3, 1) := qdX1_phiByPowers_44_23.2.2.1
theorem dX1_phiByPowers_49 : decode cX1_phiByPowers 49 = .ok (.invokevirtual 52, 3) := qdX1_phiByPowers_44_23.2.2.2.1
theorem dX1_phiByPowers_52 : decode cX1_phiByPowers 52 = .ok (.imul, 1) := qdX1_phiByPowers_44_23.2.2.2.2.1
theorem dX1_phiByPowers_53 : decode cX1_phiByPowers 53 = .ok (.istore 4, 2) := qdX1_phiByPowers_44_23.2.2.2.2.2.1
theorem dX1_phiByPowers_55 : decode cX1_phiByPowers 55 = .ok (.iinc 5 1, 3) := qdX1_phiByPowers_44_23.2.2.2.2.2.2.1
theorem dX1_phiByPowers_58 : decode cX1_phiByPowers 58 = .ok (.goto (-29), 3) := qdX1_phiByPowers_44_23.2.2.2.2.2.2.2.1
theorem dX1_phiByPowers_61 : decode cX1_phiByPowers 61 = .ok (.iload_n 2, 1) := qdX1_phiByPowers_44_23.2.2.2.2.2.2.2.2.1
theorem dX1_phiByPowers_62 : decode cX1_phiByPowers 62 = .ok (.iload 4, 2) := qdX1_phiByPowers_44_23.2.2.2.2.2.2.2.2.2.1
theorem dX1_phiByPowers_64 : decode cX1_phiByPowers 64 = .ok (.aload_n 0, 1) := qdX1_phiByPowers_44_23.2.2.2.2.2.2.2.2.2.2.1
theorem dX1_phiByPowers_65 : decode cX1_phiByPowers 65 = .ok (.getfield 12, 3) := qdX1_phiByPowers_44_23.2.2.2.2.2.2.2.2.2.2.2.1
theorem dX1_phiByPowers_68 : decode cX1_phiByPowers 68 = .ok (.iload_n 3, 1) := qdX1_phiByPowers_44_23.2.2.2.2.2.2.2.2.2.2.2.2.1
theorem dX1_phiByPowers_69 : decode cX1_phiByPowers 69 = .ok (.invokevirtual 52, 3) := qdX1_phiByPowers_44_23.2.2.2.2.2.2.2.2.2.2.2.2.2.1
theorem dX1_phiByPowers_72 : decode cX1_phiByPowers 72 = .ok (.imul, 1) := qdX1_phiByPowers_44_23.2.2.2.2.2.2.2.2.2.2.2.2.2.2.1
theorem dX1_phiByPowers_73 : decode cX1_phiByPowers 73 = .ok (.iload 4, 2) := qdX1_phiByPowers_44_23.2.2.2.2.2.2.2.2.2.2.2.2.2.2.2.1
theorem dX1_phiByPowers_75 : decode cX1_phiByPowers 75 = .ok (.isub, 1) := qdX1_phiByPowers_44_23.2.2.2.2.2.2.2.2.2.2.2.2.2.2.2.2.1
theorem dX1_phiByPowers_76 : decode cX1_phiByPowers 76 = .ok (.imul, 1) := qdX1_phiByPowers_44_23.2.2.2.2.2.2.2.2.2.2.2.2.2.2.2.2.2.1
theorem dX1_phiByPowers_77 : decode cX1_phiByPowers 77 = .ok (.istore_n 2, 1) := qdX1_phiByPowers_44_23.2.2.2.2.2.2.2.2.2.2.2.2.2.2.2.2.2.2.1
theorem dX1_phiByPowers_78 : decode cX1_phiByPowers 78 = .ok (.iinc 3 1, 3) := qdX1_phiByPowers_44_23.2.2.2.2.2.2.2.2.2.2.2.2.2.2.2.2.2.2.2.1
theorem dX1_phiByPowers_81 : decode cX1_phiByPowers 81 = .ok (.goto (-69), 3) := qdX1_phiByPowers_44_23.2.2.2.2.2.2.2.2.2.2.2.2.2.2.2.2.2.2.2.2.1
theorem dX1_phiByPowers_84 : decode cX1_phiByPowers 84 = .ok (.iload_n 2, 1) := qdX1_phiByPowers_44_23.2.2.2.2.2.2.2.2.2.2.2.2.2.2.2.2.2.2.2.2.2.1
theorem dX1_phiByPowers_85 : decode cX1_phiByPowers 85 = .ok (.ireturn, 1) := qdX1_phiByPowers_44_23.2.2.2.2.2.2.2.2.2.2.2.2.2.2.2.2.2.2.2.2.2.2.1
theorem ggX1_phiBySigns_X1_signByPowers : GoodIn wsX1_phiBySigns wsX1_signByPowers := fun w h => ⟨List.mem_cons_of_mem _ (List.mem_append_right _ h), zq_X1_signByPowers w h⟩
set_option maxRecDepth 20000 in
theorem gX1_phiBySigns_X1_signByPowers : GoodIn wsX1_phiBySigns (wsV RX1 26 RX1 yX1_signByPowers wsX1_signByPowers) := goodIn_app (goodIn_r _ [1, 2, 3, 4] rfl rfl) ggX1_phiBySigns_X1_signByPowers
theorem qdX1_phiBySigns_0_24 : dcAll cX1_phiBySigns [(0, .iconst 0, 1), (1, .istore_n 2, 1), (2, .iconst 1, 1), (3, .istore_n 3, 1), (4, .iload_n 3, 1), (5, .iload_n 1, 1), (6, .if_icmp .gt 27, 3), (9, .iload_n 1, 1), (10, .iload_n 3, 1), (11, .irem, 1), (12, .ifCond .ne 15, 3), (15, .iload_n 2, 1), (16, .aload_n 0, 1), (17, .iload_n 3, 1), (18, .invokevirtual 26, 3), (21, .iload_n 1, 1), (22, .iload_n 3, 1), (23, .idiv, 1), (24, .imul, 1), (25, .iadd, 1), (26, .istore_n 2, 1), (27, .iinc 3 1, 3), (30, .goto (-26), 3), (33, .iload_n 2, 1)] := dcAll_of (by decide +kernel)
theorem dX1_phiBySigns_0 : decode cX1_phiBySigns 0 = .ok (.iconst 0, 1) := qdX1_phiBySigns_0_24.1
theorem dX1_phiBySigns_1 : decode cX1_phiBySigns 1 = .ok (.istore_n 2, 1) := qdX1_phiBySigns_0_24.2.1
theorem dX1_phiBySigns_2 : decode cX1_phiBySigns 2 = .ok (.iconst 1, 1) := qdX1_phiBySigns_0_24.2.2.1
theorem dX1_phiBySigns_3 : decode cX1_phiBySigns 3 = .ok (.istore_n 3, 1) := qdX1_phiBySigns_0_24.2.2.2.1
theorem dX1_phiBySigns_4 : decode cX1_phiBySigns 4 = .ok (.iload_n 3, 1) := qdX1_phiBySigns_0_24.2.2.2.2.1
theorem dX1_phiBySigns_5 : decode cX1_phiBySigns 5 = .ok (.iload_n 1, 1) := qdX1_phiBySigns_0_24.2.2.2.2.2.1
theorem dX1_phiBySigns_6 : decode cX1_phiBySigns 6 = .ok (.if_icmp .gt 27, 3) := qdX1_phiBySigns_0_24.2.2.2.2.2.2.1
theorem dX1_phiBySigns_9 : decode cX1_phiBySigns 9 = .ok (.iload_n 1, 1) := qdX1_phiBySigns_0_24.2.2.2.2.2.2.2.1
theorem dX1_phiBySigns_10 : decode cX1_phiBySigns 10 = .ok (.iload_n 3, 1) := qdX1_phiBySigns_0_24.2.2.2.2.2.2.2.2.1
theorem dX1_phiBySigns_11 : decode cX1_phiBySigns 11 = .ok (.irem, 1) := qdX1_phiBySigns_0_24.2.2.2.2.2.2.2.2.2.1
theorem dX1_phiBySigns_12 : decode cX1_phiBySigns 12 = .ok (.ifCond .ne 15, 3) := qdX1_phiBySigns_0_24.2.2.2.2.2.2.2.2.2.2.1
theorem dX1_phiBySigns_15 : decode cX1_phiBySigns 15 = .ok (.iload_n 2, 1) := qdX1_phiBySigns_0_24.2.2.2.2.2.2.2.2.2.2.2.1
theorem dX1_phiBySigns_16 : decode cX1_phiBySigns 16 = .ok (.aload_n 0, 1) := qdX1_phiBySigns_0_24.2.2.2.2.2.2.2.2.2.2.2.2.1
theorem dX1_phiBySigns_17 : decode cX1_phiBySigns 17 = .ok (.iload_n 3, 1) := qdX1_phiBySigns_0_24.2.2.2.2.2.2.2.2.2.2.2.2.2.1
theorem dX1_phiBySigns_18 : decode cX1_phiBySigns 18 = .ok (.invokevirtual 26, 3) := qdX1_phiBySigns_0_24.2.2.2.2.2.2.2.2.2.2.2.2.2.2.1
theorem dX1_phiBySigns_21 : decode cX1_phiBySigns 21 = .ok (.iload_n 1, 1) := qdX1_phiBySigns_0_24.2.2.2.2.2.2.2.2.2.2.2.2.2.2.2.1
theorem dX1_phiBySigns_22 : decode cX1_phiBySigns 22 = .ok (.iload_n 3, 1) := qdX1_phiBySigns_0_24.2.2.2.2.2.2.2.2.2.2.2.2.2.2.2.2.1
theorem dX1_phiBySigns_23 : decode cX1_phiBySigns 23 = .ok (.idiv, 1) := qdX1_phiBySigns_0_24.2.2.2.2.2.2.2.2.2.2.2.2.2.2.2.2.2.1
theorem dX1_phiBySigns_24 : decode cX1_phiBySigns 24 = .ok (.imul, 1) := qdX1_phiBySigns_0_24.2.2.2.2.2.2.2.2.2.2.2.2.2.2.2.2.2.2.1
theorem dX1_phiBySigns_25 : decode cX1_phiBySigns 25 = .ok (.iadd, 1) := qdX1_phiBySigns_0_24.2.2.2.2.2.2.2.2.2.2.2.2.2.2.2.2.2.2.2.1
theorem dX1_phiBySigns_26 : decode cX1_phiBySigns 26 = .ok (.istore_n 2, 1) := qdX1_phiBySigns_0_24.2.2.2.2.2.2.2.2.2.2.2.2.2.2.2.2.2.2.2.2.1
theorem dX1_phiBySigns_27 : decode cX1_phiBySigns 27 = .ok (.iinc 3 1, 3) := qdX1_phiBySigns_0_24.2.2.2.2.2.2.2.2.2.2.2.2.2.2.2.2.2.2.2.2.2.1
theorem dX1_phiBySigns_30 : decode cX1_phiBySigns 30 = .ok (.goto (-26), 3) := qdX1_phiBySigns_0_24.2.2.2.2.2.2.2.2.2.2.2.2.2.2.2.2.2.2.2.2.2.2.1
theorem dX1_phiBySigns_33 : decode cX1_phiBySigns 33 = .ok (.iload_n 2, 1) := qdX1_phiBySigns_0_24.2.2.2.2.2.2.2.2.2.2.2.2.2.2.2.2.2.2.2.2.2.2.2.1
theorem dX1_phiBySigns_34 : decode cX1_phiBySigns 34 = .ok (.ireturn, 1) := by decide +kernel
theorem ggX1_signByPowers_X2_lay : GoodIn wsX1_signByPowers wsX2_lay := fun w h => ⟨List.mem_cons_of_mem _ (List.mem_append_left _ (List.mem_append_left _ (List.mem_append_right _ h))), zq_X2_lay w h⟩
set_option maxRecDepth 20000 in
theorem gX1_signByPowers_X2_lay : GoodIn wsX1_signByPowers (wsV RX1 22 RX2 yX2_lay wsX2_lay) := goodIn_app (goodIn_r _ [2, 3, 4, 5] rfl rfl) ggX1_signByPowers_X2_lay
theorem ggX1_signByPowers_X2_count : GoodIn wsX1_signByPowers wsX2_count := fun w h => ⟨List.mem_cons_of_mem _ (List.mem_append_left _ (List.mem_append_right _ h)), zq_X2_count w h⟩
set_option maxRecDepth 20000 in
theorem gX1_signByPowers_X2_count : GoodIn wsX1_signByPowers (wsV RX1 45 RX2 yX2_count wsX2_count) := goodIn_app (goodIn_r _ [6, 7, 8, 5] rfl rfl) ggX1_signByPowers_X2_count
theorem ggX1_signByPowers_X2_timesAt : GoodIn wsX1_signByPowers wsX2_timesAt := fun w h => ⟨List.mem_cons_of_mem _ (List.mem_append_right _ h), zq_X2_timesAt w h⟩
set_option maxRecDepth 20000 in
theorem gX1_signByPowers_X2_timesAt : GoodIn wsX1_signByPowers (wsV RX1 49 RX2 yX2_timesAt wsX2_timesAt) := goodIn_app (goodIn_r _ [9, 10, 11, 5] rfl rfl) ggX1_signByPowers_X2_timesAt
theorem qdX1_signByPowers_0_24 : dcAll cX1_signByPowers [(0, .aload_n 0, 1), (1, .getfield 12, 3), (4, .iload_n 1, 1), (5, .invokevirtual 22, 3), (8, .iconst 1, 1), (9, .istore_n 2, 1), (10, .iconst 0, 1), (11, .istore_n 3, 1), (12, .iload_n 3, 1), (13, .aload_n 0, 1), (14, .getfield 12, 3), (17, .invokevirtual 45, 3), (20, .if_icmp .ge 28, 3), (23, .aload_n 0, 1), (24, .getfield 12, 3), (27, .iload_n 3, 1), (28, .invokevirtual 49, 3), (31, .iconst 2, 1), (32, .if_icmp .lt 7, 3), (35, .iconst 0, 1), (36, .goto 5, 3), (39, .iload_n 2, 1), (40, .ineg, 1), (41, .istore_n 2, 1)] := dcAll_of (by decide +kernel)
theorem dX1_signByPowers_0 : decode cX1_signByPowers 0 = .ok (.aload_n 0, 1) := qdX1_signByPowers_0_24.1
theorem dX1_signByPowers_1 : decode cX1_signByPowers 1 = .ok (.getfield 12, 3) := qdX1_signByPowers_0_24.2.1
theorem dX1_signByPowers_4 : decode cX1_signByPowers 4 = .ok (.iload_n 1, 1) := qdX1_signByPowers_0_24.2.2.1
theorem dX1_signByPowers_5 : decode cX1_signByPowers 5 = .ok (.invokevirtual 22, 3) := qdX1_signByPowers_0_24.2.2.2.1
theorem dX1_signByPowers_8 : decode cX1_signByPowers 8 = .ok (.iconst 1, 1) := qdX1_signByPowers_0_24.2.2.2.2.1
theorem dX1_signByPowers_9 : decode cX1_signByPowers 9 = .ok (.istore_n 2, 1) := qdX1_signByPowers_0_24.2.2.2.2.2.1
theorem dX1_signByPowers_10 : decode cX1_signByPowers 10 = .ok (.iconst 0, 1) := qdX1_signByPowers_0_24.2.2.2.2.2.2.1
theorem dX1_signByPowers_11 : decode cX1_signByPowers 11 = .ok (.istore_n 3, 1) := qdX1_signByPowers_0_24.2.2.2.2.2.2.2.1
theorem dX1_signByPowers_12 : decode cX1_signByPowers 12 = .ok (.iload_n 3, 1) := qdX1_signByPowers_0_24.2.2.2.2.2.2.2.2.1
theorem dX1_signByPowers_13 : decode cX1_signByPowers 13 = .ok (.aload_n 0, 1) := qdX1_signByPowers_0_24.2.2.2.2.2.2.2.2.2.1
theorem dX1_signByPowers_14 : decode cX1_signByPowers 14 = .ok (.getfield 12, 3) := qdX1_signByPowers_0_24.2.2.2.2.2.2.2.2.2.2.1
theorem dX1_signByPowers_17 : decode cX1_signByPowers 17 = .ok (.invokevirtual 45, 3) := qdX1_signByPowers_0_24.2.2.2.2.2.2.2.2.2.2.2.1
theorem dX1_signByPowers_20 : decode cX1_signByPowers 20 = .ok (.if_icmp .ge 28, 3) := qdX1_signByPowers_0_24.2.2.2.2.2.2.2.2.2.2.2.2.1
theorem dX1_signByPowers_23 : decode cX1_signByPowers 23 = .ok (.aload_n 0, 1) := qdX1_signByPowers_0_24.2.2.2.2.2.2.2.2.2.2.2.2.2.1
theorem dX1_signByPowers_24 : decode cX1_signByPowers 24 = .ok (.getfield 12, 3) := qdX1_signByPowers_0_24.2.2.2.2.2.2.2.2.2.2.2.2.2.2.1
theorem dX1_signByPowers_27 : decode cX1_signByPowers 27 = .ok (.iload_n 3, 1) := qdX1_signByPowers_0_24.2.2.2.2.2.2.2.2.2.2.2.2.2.2.2.1
theorem dX1_signByPowers_28 : decode cX1_signByPowers 28 = .ok (.invokevirtual 49, 3) := qdX1_signByPowers_0_24.2.2.2.2.2.2.2.2.2.2.2.2.2.2.2.2.1
theorem dX1_signByPowers_31 : decode cX1_signByPowers 31 = .ok (.iconst 2, 1) := qdX1_signByPowers_0_24.2.2.2.2.2.2.2.2.2.2.2.2.2.2.2.2.2.1
theorem dX1_signByPowers_32 : decode cX1_signByPowers 32 = .ok (.if_icmp .lt 7, 3) := qdX1_signByPowers_0_24.2.2.2.2.2.2.2.2.2.2.2.2.2.2.2.2.2.2.1
theorem dX1_signByPowers_35 : decode cX1_signByPowers 35 = .ok (.iconst 0, 1) := qdX1_signByPowers_0_24.2.2.2.2.2.2.2.2.2.2.2.2.2.2.2.2.2.2.2.1
theorem dX1_signByPowers_36 : decode cX1_signByPowers 36 = .ok (.goto 5, 3) := qdX1_signByPowers_0_24.2.2.2.2.2.2.2.2.2.2.2.2.2.2.2.2.2.2.2.2.1
theorem dX1_signByPowers_39 : decode cX1_signByPowers 39 = .ok (.iload_n 2, 1) := qdX1_signByPowers_0_24.2.2.2.2.2.2.2.2.2.2.2.2.2.2.2.2.2.2.2.2.2.1
theorem dX1_signByPowers_40 : decode cX1_signByPowers 40 = .ok (.ineg, 1) := qdX1_signByPowers_0_24.2.2.2.2.2.2.2.2.2.2.2.2.2.2.2.2.2.2.2.2.2.2.1
theorem dX1_signByPowers_41 : decode cX1_signByPowers 41 = .ok (.istore_n 2, 1) := qdX1_signByPowers_0_24.2.2.2.2.2.2.2.2.2.2.2.2.2.2.2.2.2.2.2.2.2.2.2.1
theorem qdX1_signByPowers_42_4 : dcAll cX1_signByPowers [(42, .iinc 3 1, 3), (45, .goto (-33), 3), (48, .iload_n 2, 1), (49, .ireturn, 1)] := dcAll_of (by decide +kernel)
theorem dX1_signByPowers_42 : decode cX1_signByPowers 42 = .ok (.iinc 3 1, 3) := qdX1_signByPowers_42_4.1
theorem dX1_signByPowers_45 : decode cX1_signByPowers 45 = .ok (.goto (-33), 3) := qdX1_signByPowers_42_4.2.1
theorem dX1_signByPowers_48 : decode cX1_signByPowers 48 = .ok (.iload_n 2, 1) := qdX1_signByPowers_42_4.2.2.1
theorem dX1_signByPowers_49 : decode cX1_signByPowers 49 = .ok (.ireturn, 1) := qdX1_signByPowers_42_4.2.2.2.1
theorem ggX1_signBySums_X1_sumOfSmallerDivisors : GoodIn wsX1_signBySums wsX1_sumOfSmallerDivisors := fun w h => ⟨List.mem_cons_of_mem _ (List.mem_append_right _ h), zq_X1_sumOfSmallerDivisors w h⟩
set_option maxRecDepth 20000 in
theorem gX1_signBySums_X1_sumOfSmallerDivisors : GoodIn wsX1_signBySums (wsV RX1 59 RX1 yX1_sumOfSmallerDivisors wsX1_sumOfSmallerDivisors) := goodIn_app (goodIn_r _ [1, 2, 3, 4] rfl rfl) ggX1_signBySums_X1_sumOfSmallerDivisors
theorem qdX1_signBySums_0_24 : dcAll cX1_signBySums [(0, .iconst 1, 1), (1, .istore_n 2, 1), (2, .iload_n 2, 1), (3, .iload_n 1, 1), (4, .if_icmp .gt 43, 3), (7, .iload_n 2, 1), (8, .sipush 999, 3), (11, .if_icmp .gt 36, 3), (14, .iload_n 1, 1), (15, .iload_n 2, 1), (16, .irem, 1), (17, .ifCond .ne 24, 3), (20, .aload_n 0, 1), (21, .getfield 18, 3), (24, .iload_n 2, 1), (25, .iload_n 2, 1), (26, .iconst 1, 1), (27, .if_icmp .ne 7, 3), (30, .iconst 1, 1), (31, .goto 9, 3), (34, .aload_n 0, 1), (35, .iload_n 2, 1), (36, .invokevirtual 59, 3), (39, .ineg, 1)] := dcAll_of (by decide +kernel)
theorem dX1_signBySums_0 : decode cX1_signBySums 0 = .ok (.iconst 1, 1) := qdX1_signBySums_0_24.1
theorem dX1_signBySums_1 : decode cX1_signBySums 1 = .ok (.istore_n 2, 1) := qdX1_signBySums_0_24.2.1
theorem dX1_signBySums_2 : decode cX1_signBySums 2 = .ok (.iload_n 2, 1) := qdX1_signBySums_0_24.2.2.1
theorem dX1_signBySums_3 : decode cX1_signBySums 3 = .ok (.iload_n 1, 1) := qdX1_signBySums_0_24.2.2.2.1
theorem dX1_signBySums_4 : decode cX1_signBySums 4 = .ok (.if_icmp .gt 43, 3) := qdX1_signBySums_0_24.2.2.2.2.1
theorem dX1_signBySums_7 : decode cX1_signBySums 7 = .ok (.iload_n 2, 1) := qdX1_signBySums_0_24.2.2.2.2.2.1
theorem dX1_signBySums_8 : decode cX1_signBySums 8 = .ok (.sipush 999, 3) := qdX1_signBySums_0_24.2.2.2.2.2.2.1
theorem dX1_signBySums_11 : decode cX1_signBySums 11 = .ok (.if_icmp .gt 36, 3) := qdX1_signBySums_0_24.2.2.2.2.2.2.2.1
theorem dX1_signBySums_14 : decode cX1_signBySums 14 = .ok (.iload_n 1, 1) := qdX1_signBySums_0_24.2.2.2.2.2.2.2.2.1
theorem dX1_signBySums_15 : decode cX1_signBySums 15 = .ok (.iload_n 2, 1) := qdX1_signBySums_0_24.2.2.2.2.2.2.2.2.2.1
theorem dX1_signBySums_16 : decode cX1_signBySums 16 = .ok (.irem, 1) := qdX1_signBySums_0_24.2.2.2.2.2.2.2.2.2.2.1
theorem dX1_signBySums_17 : decode cX1_signBySums 17 = .ok (.ifCond .ne 24, 3) := qdX1_signBySums_0_24.2.2.2.2.2.2.2.2.2.2.2.1
theorem dX1_signBySums_20 : decode cX1_signBySums 20 = .ok (.aload_n 0, 1) := qdX1_signBySums_0_24.2.2.2.2.2.2.2.2.2.2.2.2.1
theorem dX1_signBySums_21 : decode cX1_signBySums 21 = .ok (.getfield 18, 3) := qdX1_signBySums_0_24.2.2.2.2.2.2.2.2.2.2.2.2.2.1
theorem dX1_signBySums_24 : decode cX1_signBySums 24 = .ok (.iload_n 2, 1) := qdX1_signBySums_0_24.2.2.2.2.2.2.2.2.2.2.2.2.2.2.1
theorem dX1_signBySums_25 : decode cX1_signBySums 25 = .ok (.iload_n 2, 1) := qdX1_signBySums_0_24.2.2.2.2.2.2.2.2.2.2.2.2.2.2.2.1
theorem dX1_signBySums_26 : decode cX1_signBySums 26 = .ok (.iconst 1, 1) := qdX1_signBySums_0_24.2.2.2.2.2.2.2.2.2.2.2.2.2.2.2.2.1
theorem dX1_signBySums_27 : decode cX1_signBySums 27 = .ok (.if_icmp .ne 7, 3) := qdX1_signBySums_0_24.2.2.2.2.2.2.2.2.2.2.2.2.2.2.2.2.2.1
theorem dX1_signBySums_30 : decode cX1_signBySums 30 = .ok (.iconst 1, 1) := qdX1_signBySums_0_24.2.2.2.2.2.2.2.2.2.2.2.2.2.2.2.2.2.2.1
theorem dX1_signBySums_31 : decode cX1_signBySums 31 = .ok (.goto 9, 3) := qdX1_signBySums_0_24.2.2.2.2.2.2.2.2.2.2.2.2.2.2.2.2.2.2.2.1
theorem dX1_signBySums_34 : decode cX1_signBySums 34 = .ok (.aload_n 0, 1) := qdX1_signBySums_0_24.2.2.2.2.2.2.2.2.2.2.2.2.2.2.2.2.2.2.2.2.1
theorem dX1_signBySums_35 : decode cX1_signBySums 35 = .ok (.iload_n 2, 1) := qdX1_signBySums_0_24.2.2.2.2.2.2.2.2.2.2.2.2.2.2.2.2.2.2.2.2.2.1
theorem dX1_signBySums_36 : decode cX1_signBySums 36 = .ok (.invokevirtual 59, 3) := qdX1_signBySums_0_24.2.2.2.2.2.2.2.2.2.2.2.2.2.2.2.2.2.2.2.2.2.2.1
theorem dX1_signBySums_39 : decode cX1_signBySums 39 = .ok (.ineg, 1) := qdX1_signBySums_0_24.2.2.2.2.2.2.2.2.2.2.2.2.2.2.2.2.2.2.2.2.2.2.2.1
theorem qdX1_signBySums_40_16 : dcAll cX1_signBySums [(40, .iastore, 1), (41, .iinc 2 1, 3), (44, .goto (-42), 3), (47, .iload_n 1, 1), (48, .iconst 1, 1), (49, .if_icmp .lt 19, 3), (52, .iload_n 1, 1), (53, .sipush 999, 3), (56, .if_icmp .gt 12, 3), (59, .aload_n 0, 1), (60, .getfield 18, 3), (63, .iload_n 1, 1), (64, .iaload, 1), (65, .goto 4, 3), (68, .iconst 0, 1), (69, .ireturn, 1)] := dcAll_of (by decide +kernel)
theorem dX1_signBySums_40 : decode cX1_signBySums 40 = .ok (.iastore, 1) := qdX1_signBySums_40_16.1
theorem dX1_signBySums_41 : decode cX1_signBySums 41 = .ok (.iinc 2 1, 3) := qdX1_signBySums_40_16.2.1
theorem dX1_signBySums_44 : decode cX1_signBySums 44 = .ok (.goto (-42), 3) := qdX1_signBySums_40_16.2.2.1
theorem dX1_signBySums_47 : decode cX1_signBySums 47 = .ok (.iload_n 1, 1) := qdX1_signBySums_40_16.2.2.2.1
theorem dX1_signBySums_48 : decode cX1_signBySums 48 = .ok (.iconst 1, 1) := qdX1_signBySums_40_16.2.2.2.2.1
theorem dX1_signBySums_49 : decode cX1_signBySums 49 = .ok (.if_icmp .lt 19, 3) := qdX1_signBySums_40_16.2.2.2.2.2.1
theorem dX1_signBySums_52 : decode cX1_signBySums 52 = .ok (.iload_n 1, 1) := qdX1_signBySums_40_16.2.2.2.2.2.2.1
theorem dX1_signBySums_53 : decode cX1_signBySums 53 = .ok (.sipush 999, 3) := qdX1_signBySums_40_16.2.2.2.2.2.2.2.1
theorem dX1_signBySums_56 : decode cX1_signBySums 56 = .ok (.if_icmp .gt 12, 3) := qdX1_signBySums_40_16.2.2.2.2.2.2.2.2.1
theorem dX1_signBySums_59 : decode cX1_signBySums 59 = .ok (.aload_n 0, 1) := qdX1_signBySums_40_16.2.2.2.2.2.2.2.2.2.1
theorem dX1_signBySums_60 : decode cX1_signBySums 60 = .ok (.getfield 18, 3) := qdX1_signBySums_40_16.2.2.2.2.2.2.2.2.2.2.1
theorem dX1_signBySums_63 : decode cX1_signBySums 63 = .ok (.iload_n 1, 1) := qdX1_signBySums_40_16.2.2.2.2.2.2.2.2.2.2.2.1
theorem dX1_signBySums_64 : decode cX1_signBySums 64 = .ok (.iaload, 1) := qdX1_signBySums_40_16.2.2.2.2.2.2.2.2.2.2.2.2.1
theorem dX1_signBySums_65 : decode cX1_signBySums 65 = .ok (.goto 4, 3) := qdX1_signBySums_40_16.2.2.2.2.2.2.2.2.2.2.2.2.2.1
theorem dX1_signBySums_68 : decode cX1_signBySums 68 = .ok (.iconst 0, 1) := qdX1_signBySums_40_16.2.2.2.2.2.2.2.2.2.2.2.2.2.2.1
theorem dX1_signBySums_69 : decode cX1_signBySums 69 = .ok (.ireturn, 1) := qdX1_signBySums_40_16.2.2.2.2.2.2.2.2.2.2.2.2.2.2.2.1
theorem qdX1_sumOfSmallerDivisors_0_24 : dcAll cX1_sumOfSmallerDivisors [(0, .iconst 0, 1), (1, .istore_n 2, 1), (2, .iconst 1, 1), (3, .istore_n 3, 1), (4, .iload_n 3, 1), (5, .iload_n 1, 1), (6, .if_icmp .ge 35, 3), (9, .iload_n 3, 1), (10, .sipush 999, 3), (13, .if_icmp .gt 28, 3), (16, .iload_n 2, 1), (17, .iload_n 1, 1), (18, .iload_n 3, 1), (19, .irem, 1), (20, .ifCond .ne 12, 3), (23, .aload_n 0, 1), (24, .getfield 18, 3), (27, .iload_n 3, 1), (28, .iaload, 1), (29, .goto 4, 3), (32, .iconst 0, 1), (33, .iadd, 1), (34, .istore_n 2, 1), (35, .iinc 3 1, 3)] := dcAll_of (by decide +kernel)
theorem dX1_sumOfSmallerDivisors_0 : decode cX1_sumOfSmallerDivisors 0 = .ok (.iconst 0, 1) := qdX1_sumOfSmallerDivisors_0_24.1
theorem dX1_sumOfSmallerDivisors_1 : decode cX1_sumOfSmallerDivisors 1 = .ok (.istore_n 2, 1) := qdX1_sumOfSmallerDivisors_0_24.2.1
theorem dX1_sumOfSmallerDivisors_2 : decode cX1_sumOfSmallerDivisors 2 = .ok (.iconst 1, 1) := qdX1_sumOfSmallerDivisors_0_24.2.2.1
theorem dX1_sumOfSmallerDivisors_3 : decode cX1_sumOfSmallerDivisors 3 = .ok (.istore_n 3, 1) := qdX1_sumOfSmallerDivisors_0_24.2.2.2.1
theorem dX1_sumOfSmallerDivisors_4 : decode cX1_sumOfSmallerDivisors 4 = .ok (.iload_n 3, 1) := qdX1_sumOfSmallerDivisors_0_24.2.2.2.2.1
theorem dX1_sumOfSmallerDivisors_5 : decode cX1_sumOfSmallerDivisors 5 = .ok (.iload_n 1, 1) := qdX1_sumOfSmallerDivisors_0_24.2.2.2.2.2.1
theorem dX1_sumOfSmallerDivisors_6 : decode cX1_sumOfSmallerDivisors 6 = .ok (.if_icmp .ge 35, 3) := qdX1_sumOfSmallerDivisors_0_24.2.2.2.2.2.2.1
theorem dX1_sumOfSmallerDivisors_9 : decode cX1_sumOfSmallerDivisors 9 = .ok (.iload_n 3, 1) := qdX1_sumOfSmallerDivisors_0_24.2.2.2.2.2.2.2.1
theorem dX1_sumOfSmallerDivisors_10 : decode cX1_sumOfSmallerDivisors 10 = .ok (.sipush 999, 3) := qdX1_sumOfSmallerDivisors_0_24.2.2.2.2.2.2.2.2.1
theorem dX1_sumOfSmallerDivisors_13 : decode cX1_sumOfSmallerDivisors 13 = .ok (.if_icmp .gt 28, 3) := qdX1_sumOfSmallerDivisors_0_24.2.2.2.2.2.2.2.2.2.1
theorem dX1_sumOfSmallerDivisors_16 : decode cX1_sumOfSmallerDivisors 16 = .ok (.iload_n 2, 1) := qdX1_sumOfSmallerDivisors_0_24.2.2.2.2.2.2.2.2.2.2.1
theorem dX1_sumOfSmallerDivisors_17 : decode cX1_sumOfSmallerDivisors 17 = .ok (.iload_n 1, 1) := qdX1_sumOfSmallerDivisors_0_24.2.2.2.2.2.2.2.2.2.2.2.1
theorem dX1_sumOfSmallerDivisors_18 : decode cX1_sumOfSmallerDivisors 18 = .ok (.iload_n 3, 1) := qdX1_sumOfSmallerDivisors_0_24.2.2.2.2.2.2.2.2.2.2.2.2.1
theorem dX1_sumOfSmallerDivisors_19 : decode cX1_sumOfSmallerDivisors 19 = .ok (.irem, 1) := qdX1_sumOfSmallerDivisors_0_24.2.2.2.2.2.2.2.2.2.2.2.2.2.1
theorem dX1_sumOfSmallerDivisors_20 : decode cX1_sumOfSmallerDivisors 20 = .ok (.ifCond .ne 12, 3) := qdX1_sumOfSmallerDivisors_0_24.2.2.2.2.2.2.2.2.2.2.2.2.2.2.1
theorem dX1_sumOfSmallerDivisors_23 : decode cX1_sumOfSmallerDivisors 23 = .ok (.aload_n 0, 1) := qdX1_sumOfSmallerDivisors_0_24.2.2.2.2.2.2.2.2.2.2.2.2.2.2.2.1
theorem dX1_sumOfSmallerDivisors_24 : decode cX1_sumOfSmallerDivisors 24 = .ok (.getfield 18, 3) := qdX1_sumOfSmallerDivisors_0_24.2.2.2.2.2.2.2.2.2.2.2.2.2.2.2.2.1
theorem dX1_sumOfSmallerDivisors_27 : decode cX1_sumOfSmallerDivisors 27 = .ok (.iload_n 3, 1) := qdX1_sumOfSmallerDivisors_0_24.2.2.2.2.2.2.2.2.2.2.2.2.2.2.2.2.2.1
theorem dX1_sumOfSmallerDivisors_28 : decode cX1_sumOfSmallerDivisors 28 = .ok (.iaload, 1) := qdX1_sumOfSmallerDivisors_0_24.2.2.2.2.2.2.2.2.2.2.2.2.2.2.2.2.2.2.1
theorem dX1_sumOfSmallerDivisors_29 : decode cX1_sumOfSmallerDivisors 29 = .ok (.goto 4, 3) := qdX1_sumOfSmallerDivisors_0_24.2.2.2.2.2.2.2.2.2.2.2.2.2.2.2.2.2.2.2.1
theorem dX1_sumOfSmallerDivisors_32 : decode cX1_sumOfSmallerDivisors 32 = .ok (.iconst 0, 1) := qdX1_sumOfSmallerDivisors_0_24.2.2.2.2.2.2.2.2.2.2.2.2.2.2.2.2.2.2.2.2.1
theorem dX1_sumOfSmallerDivisors_33 : decode cX1_sumOfSmallerDivisors 33 = .ok (.iadd, 1) := qdX1_sumOfSmallerDivisors_0_24.2.2.2.2.2.2.2.2.2.2.2.2.2.2.2.2.2.2.2.2.2.1
theorem dX1_sumOfSmallerDivisors_34 : decode cX1_sumOfSmallerDivisors 34 = .ok (.istore_n 2, 1) := qdX1_sumOfSmallerDivisors_0_24.2.2.2.2.2.2.2.2.2.2.2.2.2.2.2.2.2.2.2.2.2.2.1
theorem dX1_sumOfSmallerDivisors_35 : decode cX1_sumOfSmallerDivisors 35 = .ok (.iinc 3 1, 3) := qdX1_sumOfSmallerDivisors_0_24.2.2.2.2.2.2.2.2.2.2.2.2.2.2.2.2.2.2.2.2.2.2.2.1
theorem qdX1_sumOfSmallerDivisors_38_3 : dcAll cX1_sumOfSmallerDivisors [(38, .goto (-34), 3), (41, .iload_n 2, 1), (42, .ireturn, 1)] := dcAll_of (by decide +kernel)
theorem dX1_sumOfSmallerDivisors_38 : decode cX1_sumOfSmallerDivisors 38 = .ok (.goto (-34), 3) := qdX1_sumOfSmallerDivisors_38_3.1
theorem dX1_sumOfSmallerDivisors_41 : decode cX1_sumOfSmallerDivisors 41 = .ok (.iload_n 2, 1) := qdX1_sumOfSmallerDivisors_38_3.2.1
theorem dX1_sumOfSmallerDivisors_42 : decode cX1_sumOfSmallerDivisors 42 = .ok (.ireturn, 1) := qdX1_sumOfSmallerDivisors_38_3.2.2.1
theorem ggX1_turnByPowers_X2_lay : GoodIn wsX1_turnByPowers wsX2_lay := fun w h => ⟨List.mem_cons_of_mem _ (List.mem_append_left _ (List.mem_append_left _ (List.mem_append_right _ h))), zq_X2_lay w h⟩
set_option maxRecDepth 20000 in
theorem gX1_turnByPowers_X2_lay : GoodIn wsX1_turnByPowers (wsV RX1 22 RX2 yX2_lay wsX2_lay) := goodIn_app (goodIn_r _ [2, 3, 4, 5] rfl rfl) ggX1_turnByPowers_X2_lay
theorem ggX1_turnByPowers_X2_count : GoodIn wsX1_turnByPowers wsX2_count := fun w h => ⟨List.mem_cons_of_mem _ (List.mem_append_left _ (List.mem_append_right _ h)), zq_X2_count w h⟩
set_option maxRecDepth 20000 in
theorem gX1_turnByPowers_X2_count : GoodIn wsX1_turnByPowers (wsV RX1 45 RX2 yX2_count wsX2_count) := goodIn_app (goodIn_r _ [6, 7, 8, 5] rfl rfl) ggX1_turnByPowers_X2_count
theorem ggX1_turnByPowers_X2_timesAt : GoodIn wsX1_turnByPowers wsX2_timesAt := fun w h => ⟨List.mem_cons_of_mem _ (List.mem_append_right _ h), zq_X2_timesAt w h⟩
set_option maxRecDepth 20000 in
theorem gX1_turnByPowers_X2_timesAt : GoodIn wsX1_turnByPowers (wsV RX1 49 RX2 yX2_timesAt wsX2_timesAt) := goodIn_app (goodIn_r _ [9, 10, 11, 5] rfl rfl) ggX1_turnByPowers_X2_timesAt
theorem qdX1_turnByPowers_0_24 : dcAll cX1_turnByPowers [(0, .aload_n 0, 1), (1, .getfield 12, 3), (4, .iload_n 1, 1), (5, .invokevirtual 22, 3), (8, .iconst 0, 1), (9, .istore_n 2, 1), (10, .iconst 0, 1), (11, .istore_n 3, 1), (12, .iload_n 3, 1), (13, .aload_n 0, 1), (14, .getfield 12, 3), (17, .invokevirtual 45, 3), (20, .if_icmp .ge 20, 3), (23, .iload_n 2, 1), (24, .aload_n 0, 1), (25, .getfield 12, 3), (28, .iload_n 3, 1), (29, .invokevirtual 49, 3), (32, .iadd, 1), (33, .istore_n 2, 1), (34, .iinc 3 1, 3), (37, .goto (-25), 3), (40, .iload_n 2, 1), (41, .iconst 2, 1)] := dcAll_of (by decide +kernel)
theorem dX1_turnByPowers_0 : decode cX1_turnByPowers 0 = .ok (.aload_n 0, 1) := qdX1_turnByPowers_0_24.1
theorem dX1_turnByPowers_1 : decode cX1_turnByPowers 1 = .ok (.getfield 12, 3) := qdX1_turnByPowers_0_24.2.1
theorem dX1_turnByPowers_4 : decode cX1_turnByPowers 4 = .ok (.iload_n 1, 1) := qdX1_turnByPowers_0_24.2.2.1
theorem dX1_turnByPowers_5 : decode cX1_turnByPowers 5 = .ok (.invokevirtual 22, 3) := qdX1_turnByPowers_0_24.2.2.2.1
theorem dX1_turnByPowers_8 : decode cX1_turnByPowers 8 = .ok (.iconst 0, 1) := qdX1_turnByPowers_0_24.2.2.2.2.1
theorem dX1_turnByPowers_9 : decode cX1_turnByPowers 9 = .ok (.istore_n 2, 1) := qdX1_turnByPowers_0_24.2.2.2.2.2.1
theorem dX1_turnByPowers_10 : decode cX1_turnByPowers 10 = .ok (.iconst 0, 1) := qdX1_turnByPowers_0_24.2.2.2.2.2.2.1
theorem dX1_turnByPowers_11 : decode cX1_turnByPowers 11 = .ok (.istore_n 3, 1) := qdX1_turnByPowers_0_24.2.2.2.2.2.2.2.1
theorem dX1_turnByPowers_12 : decode cX1_turnByPowers 12 = .ok (.iload_n 3, 1) := qdX1_turnByPowers_0_24.2.2.2.2.2.2.2.2.1
theorem dX1_turnByPowers_13 : decode cX1_turnByPowers 13 = .ok (.aload_n 0, 1) := qdX1_turnByPowers_0_24.2.2.2.2.2.2.2.2.2.1
theorem dX1_turnByPowers_14 : decode cX1_turnByPowers 14 = .ok (.getfield 12, 3) := qdX1_turnByPowers_0_24.2.2.2.2.2.2.2.2.2.2.1
theorem dX1_turnByPowers_17 : decode cX1_turnByPowers 17 = .ok (.invokevirtual 45, 3) := qdX1_turnByPowers_0_24.2.2.2.2.2.2.2.2.2.2.2.1
theorem dX1_turnByPowers_20 : decode cX1_turnByPowers 20 = .ok (.if_icmp .ge 20, 3) := qdX1_turnByPowers_0_24.2.2.2.2.2.2.2.2.2.2.2.2.1
theorem dX1_turnByPowers_23 : decode cX1_turnByPowers 23 = .ok (.iload_n 2, 1) := qdX1_turnByPowers_0_24.2.2.2.2.2.2.2.2.2.2.2.2.2.1
theorem dX1_turnByPowers_24 : decode cX1_turnByPowers 24 = .ok (.aload_n 0, 1) := qdX1_turnByPowers_0_24.2.2.2.2.2.2.2.2.2.2.2.2.2.2.1
theorem dX1_turnByPowers_25 : decode cX1_turnByPowers 25 = .ok (.getfield 12, 3) := qdX1_turnByPowers_0_24.2.2.2.2.2.2.2.2.2.2.2.2.2.2.2.1
theorem dX1_turnByPowers_28 : decode cX1_turnByPowers 28 = .ok (.iload_n 3, 1) := qdX1_turnByPowers_0_24.2.2.2.2.2.2.2.2.2.2.2.2.2.2.2.2.1
theorem dX1_turnByPowers_29 : decode cX1_turnByPowers 29 = .ok (.invokevirtual 49, 3) := qdX1_turnByPowers_0_24.2.2.2.2.2.2.2.2.2.2.2.2.2.2.2.2.2.1
theorem dX1_turnByPowers_32 : decode cX1_turnByPowers 32 = .ok (.iadd, 1) := qdX1_turnByPowers_0_24.2.2.2.2.2.2.2.2.2.2.2.2.2.2.2.2.2.2.1
theorem dX1_turnByPowers_33 : decode cX1_turnByPowers 33 = .ok (.istore_n 2, 1) := qdX1_turnByPowers_0_24.2.2.2.2.2.2.2.2.2.2.2.2.2.2.2.2.2.2.2.1
theorem dX1_turnByPowers_34 : decode cX1_turnByPowers 34 = .ok (.iinc 3 1, 3) := qdX1_turnByPowers_0_24.2.2.2.2.2.2.2.2.2.2.2.2.2.2.2.2.2.2.2.2.1
theorem dX1_turnByPowers_37 : decode cX1_turnByPowers 37 = .ok (.goto (-25), 3) := qdX1_turnByPowers_0_24.2.2.2.2.2.2.2.2.2.2.2.2.2.2.2.2.2.2.2.2.2.1
theorem dX1_turnByPowers_40 : decode cX1_turnByPowers 40 = .ok (.iload_n 2, 1) := qdX1_turnByPowers_0_24.2.2.2.2.2.2.2.2.2.2.2.2.2.2.2.2.2.2.2.2.2.2.1
theorem dX1_turnByPowers_41 : decode cX1_turnByPowers 41 = .ok (.iconst 2, 1) := qdX1_turnByPowers_0_24.2.2.2.2.2.2.2.2.2.2.2.2.2.2.2.2.2.2.2.2.2.2.2.1
theorem qdX1_turnByPowers_42_6 : dcAll cX1_turnByPowers [(42, .irem, 1), (43, .ifCond .ne 7, 3), (46, .iconst 1, 1), (47, .goto 4, 3), (50, .iconst (-1), 1), (51, .ireturn, 1)] := dcAll_of (by decide +kernel)
theorem dX1_turnByPowers_42 : decode cX1_turnByPowers 42 = .ok (.irem, 1) := qdX1_turnByPowers_42_6.1
theorem dX1_turnByPowers_43 : decode cX1_turnByPowers 43 = .ok (.ifCond .ne 7, 3) := qdX1_turnByPowers_42_6.2.1
theorem dX1_turnByPowers_46 : decode cX1_turnByPowers 46 = .ok (.iconst 1, 1) := qdX1_turnByPowers_42_6.2.2.1
theorem dX1_turnByPowers_47 : decode cX1_turnByPowers 47 = .ok (.goto 4, 3) := qdX1_turnByPowers_42_6.2.2.2.1
theorem dX1_turnByPowers_50 : decode cX1_turnByPowers 50 = .ok (.iconst (-1), 1) := qdX1_turnByPowers_42_6.2.2.2.2.1
theorem dX1_turnByPowers_51 : decode cX1_turnByPowers 51 = .ok (.ireturn, 1) := qdX1_turnByPowers_42_6.2.2.2.2.2.1
theorem qdX1_squareOneByOne_0_24 : dcAll cX1_squareOneByOne [(0, .iconst 1, 1), (1, .istore_n 2, 1), (2, .iconst 1, 1), (3, .istore_n 3, 1), (4, .iload_n 3, 1), (5, .bipush 31, 2), (7, .if_icmp .gt 28, 3), (10, .iload_n 3, 1), (11, .iload_n 3, 1), (12, .imul, 1), (13, .iload_n 1, 1), (14, .if_icmp .gt 21, 3), (17, .iload_n 1, 1), (18, .iload_n 3, 1), (19, .iload_n 3, 1), (20, .imul, 1), (21, .irem, 1), (22, .ifCond .ne 7, 3), (25, .iload_n 3, 1), (26, .iload_n 3, 1), (27, .imul, 1), (28, .istore_n 2, 1), (29, .iinc 3 1, 3), (32, .goto (-28), 3)] := dcAll_of (by decide +kernel)
theorem dX1_squareOneByOne_0 : decode cX1_squareOneByOne 0 = .ok (.iconst 1, 1) := qdX1_squareOneByOne_0_24.1
theorem dX1_squareOneByOne_1 : decode cX1_squareOneByOne 1 = .ok (.istore_n 2, 1) := qdX1_squareOneByOne_0_24.2.1
theorem dX1_squareOneByOne_2 : decode cX1_squareOneByOne 2 = .ok (.iconst 1, 1) := qdX1_squareOneByOne_0_24.2.2.1
theorem dX1_squareOneByOne_3 : decode cX1_squareOneByOne 3 = .ok (.istore_n 3, 1) := qdX1_squareOneByOne_0_24.2.2.2.1
theorem dX1_squareOneByOne_4 : decode cX1_squareOneByOne 4 = .ok (.iload_n 3, 1) := qdX1_squareOneByOne_0_24.2.2.2.2.1
theorem dX1_squareOneByOne_5 : decode cX1_squareOneByOne 5 = .ok (.bipush 31, 2) := qdX1_squareOneByOne_0_24.2.2.2.2.2.1
theorem dX1_squareOneByOne_7 : decode cX1_squareOneByOne 7 = .ok (.if_icmp .gt 28, 3) := qdX1_squareOneByOne_0_24.2.2.2.2.2.2.1
theorem dX1_squareOneByOne_10 : decode cX1_squareOneByOne 10 = .ok (.iload_n 3, 1) := qdX1_squareOneByOne_0_24.2.2.2.2.2.2.2.1
theorem dX1_squareOneByOne_11 : decode cX1_squareOneByOne 11 = .ok (.iload_n 3, 1) := qdX1_squareOneByOne_0_24.2.2.2.2.2.2.2.2.1
theorem dX1_squareOneByOne_12 : decode cX1_squareOneByOne 12 = .ok (.imul, 1) := qdX1_squareOneByOne_0_24.2.2.2.2.2.2.2.2.2.1
theorem dX1_squareOneByOne_13 : decode cX1_squareOneByOne 13 = .ok (.iload_n 1, 1) := qdX1_squareOneByOne_0_24.2.2.2.2.2.2.2.2.2.2.1
theorem dX1_squareOneByOne_14 : decode cX1_squareOneByOne 14 = .ok (.if_icmp .gt 21, 3) := qdX1_squareOneByOne_0_24.2.2.2.2.2.2.2.2.2.2.2.1
theorem dX1_squareOneByOne_17 : decode cX1_squareOneByOne 17 = .ok (.iload_n 1, 1) := qdX1_squareOneByOne_0_24.2.2.2.2.2.2.2.2.2.2.2.2.1
theorem dX1_squareOneByOne_18 : decode cX1_squareOneByOne 18 = .ok (.iload_n 3, 1) := qdX1_squareOneByOne_0_24.2.2.2.2.2.2.2.2.2.2.2.2.2.1
theorem dX1_squareOneByOne_19 : decode cX1_squareOneByOne 19 = .ok (.iload_n 3, 1) := qdX1_squareOneByOne_0_24.2.2.2.2.2.2.2.2.2.2.2.2.2.2.1
theorem dX1_squareOneByOne_20 : decode cX1_squareOneByOne 20 = .ok (.imul, 1) := qdX1_squareOneByOne_0_24.2.2.2.2.2.2.2.2.2.2.2.2.2.2.2.1
theorem dX1_squareOneByOne_21 : decode cX1_squareOneByOne 21 = .ok (.irem, 1) := qdX1_squareOneByOne_0_24.2.2.2.2.2.2.2.2.2.2.2.2.2.2.2.2.1
theorem dX1_squareOneByOne_22 : decode cX1_squareOneByOne 22 = .ok (.ifCond .ne 7, 3) := qdX1_squareOneByOne_0_24.2.2.2.2.2.2.2.2.2.2.2.2.2.2.2.2.2.1
theorem dX1_squareOneByOne_25 : decode cX1_squareOneByOne 25 = .ok (.iload_n 3, 1) := qdX1_squareOneByOne_0_24.2.2.2.2.2.2.2.2.2.2.2.2.2.2.2.2.2.2.1
theorem dX1_squareOneByOne_26 : decode cX1_squareOneByOne 26 = .ok (.iload_n 3, 1) := qdX1_squareOneByOne_0_24.2.2.2.2.2.2.2.2.2.2.2.2.2.2.2.2.2.2.2.1
theorem dX1_squareOneByOne_27 : decode cX1_squareOneByOne 27 = .ok (.imul, 1) := qdX1_squareOneByOne_0_24.2.2.2.2.2.2.2.2.2.2.2.2.2.2.2.2.2.2.2.2.1
theorem dX1_squareOneByOne_28 : decode cX1_squareOneByOne 28 = .ok (.istore_n 2, 1) := qdX1_squareOneByOne_0_24.2.2.2.2.2.2.2.2.2.2.2.2.2.2.2.2.2.2.2.2.2.1
theorem dX1_squareOneByOne_29 : decode cX1_squareOneByOne 29 = .ok (.iinc 3 1, 3) := qdX1_squareOneByOne_0_24.2.2.2.2.2.2.2.2.2.2.2.2.2.2.2.2.2.2.2.2.2.2.1
theorem dX1_squareOneByOne_32 : decode cX1_squareOneByOne 32 = .ok (.goto (-28), 3) := qdX1_squareOneByOne_0_24.2.2.2.2.2.2.2.2.2.2.2.2.2.2.2.2.2.2.2.2.2.2.2.1
theorem qdX1_squareOneByOne_35_2 : dcAll cX1_squareOneByOne [(35, .iload_n 2, 1), (36, .ireturn, 1)] := dcAll_of (by decide +kernel)
theorem dX1_squareOneByOne_35 : decode cX1_squareOneByOne 35 = .ok (.iload_n 2, 1) := qdX1_squareOneByOne_35_2.1
theorem dX1_squareOneByOne_36 : decode cX1_squareOneByOne 36 = .ok (.ireturn, 1) := qdX1_squareOneByOne_35_2.2.1
theorem ggX1_squareByPowers_X2_lay : GoodIn wsX1_squareByPowers wsX2_lay := fun w h => ⟨List.mem_cons_of_mem _ (List.mem_append_left _ (List.mem_append_left _ (List.mem_append_left _ (List.mem_append_right _ h)))), zq_X2_lay w h⟩
set_option maxRecDepth 20000 in
theorem gX1_squareByPowers_X2_lay : GoodIn wsX1_squareByPowers (wsV RX1 22 RX2 yX2_lay wsX2_lay) := goodIn_app (goodIn_r _ [2, 3, 4, 5] rfl rfl) ggX1_squareByPowers_X2_lay
theorem ggX1_squareByPowers_X2_count : GoodIn wsX1_squareByPowers wsX2_count := fun w h => ⟨List.mem_cons_of_mem _ (List.mem_append_left _ (List.mem_append_left _ (List.mem_append_right _ h))), zq_X2_count w h⟩
set_option maxRecDepth 20000 in
theorem gX1_squareByPowers_X2_count : GoodIn wsX1_squareByPowers (wsV RX1 45 RX2 yX2_count wsX2_count) := goodIn_app (goodIn_r _ [6, 7, 8, 5] rfl rfl) ggX1_squareByPowers_X2_count
theorem ggX1_squareByPowers_X2_timesAt : GoodIn wsX1_squareByPowers wsX2_timesAt := fun w h => ⟨List.mem_cons_of_mem _ (List.mem_append_left _ (List.mem_append_right _ h)), zq_X2_timesAt w h⟩
set_option maxRecDepth 20000 in
theorem gX1_squareByPowers_X2_timesAt : GoodIn wsX1_squareByPowers (wsV RX1 49 RX2 yX2_timesAt wsX2_timesAt) := goodIn_app (goodIn_r _ [9, 10, 11, 5] rfl rfl) ggX1_squareByPowers_X2_timesAt
theorem ggX1_squareByPowers_X2_primeAt : GoodIn wsX1_squareByPowers wsX2_primeAt := fun w h => ⟨List.mem_cons_of_mem _ (List.mem_append_right _ h), zq_X2_primeAt w h⟩
set_option maxRecDepth 20000 in
theorem gX1_squareByPowers_X2_primeAt : GoodIn wsX1_squareByPowers (wsV RX1 52 RX2 yX2_primeAt wsX2_primeAt) := goodIn_app (goodIn_r _ [12, 13, 14, 5] rfl rfl) ggX1_squareByPowers_X2_primeAt
theorem qdX1_squareByPowers_0_24 : dcAll cX1_squareByPowers [(0, .aload_n 0, 1), (1, .getfield 12, 3), (4, .iload_n 1, 1), (5, .invokevirtual 22, 3), (8, .iconst 1, 1), (9, .istore_n 2, 1), (10, .iconst 0, 1), (11, .istore_n 3, 1), (12, .iload_n 3, 1), (13, .aload_n 0, 1), (14, .getfield 12, 3), (17, .invokevirtual 45, 3), (20, .if_icmp .ge 53, 3), (23, .iconst 0, 1), (24, .istore 4, 2), (26, .iload 4, 2), (28, .aload_n 0, 1), (29, .getfield 12, 3), (32, .iload_n 3, 1), (33, .invokevirtual 49, 3), (36, .iconst 2, 1), (37, .idiv, 1), (38, .if_icmp .ge 29, 3), (41, .iload_n 2, 1)] := dcAll_of (by decide +kernel)
theorem dX1_squareByPowers_0 : decode cX1_squareByPowers 0 = .ok (.aload_n 0, 1) := qdX1_squareByPowers_0_24.1
theorem dX1_squareByPowers_1 : decode cX1_squareByPowers 1 = .ok (.getfield 12, 3) := qdX1_squareByPowers_0_24.2.1
theorem dX1_squareByPowers_4 : decode cX1_squareByPowers 4 = .ok (.iload_n 1, 1) := qdX1_squareByPowers_0_24.2.2.1
theorem dX1_squareByPowers_5 : decode cX1_squareByPowers 5 = .ok (.invokevirtual 22, 3) := qdX1_squareByPowers_0_24.2.2.2.1
theorem dX1_squareByPowers_8 : decode cX1_squareByPowers 8 = .ok (.iconst 1, 1) := qdX1_squareByPowers_0_24.2.2.2.2.1
theorem dX1_squareByPowers_9 : decode cX1_squareByPowers 9 = .ok (.istore_n 2, 1) := qdX1_squareByPowers_0_24.2.2.2.2.2.1
theorem dX1_squareByPowers_10 : decode cX1_squareByPowers 10 = .ok (.iconst 0, 1) := qdX1_squareByPowers_0_24.2.2.2.2.2.2.1
theorem dX1_squareByPowers_11 : decode cX1_squareByPowers 11 = .ok (.istore_n 3, 1) := qdX1_squareByPowers_0_24.2.2.2.2.2.2.2.1
theorem dX1_squareByPowers_12 : decode cX1_squareByPowers 12 = .ok (.iload_n 3, 1) := qdX1_squareByPowers_0_24.2.2.2.2.2.2.2.2.1
theorem dX1_squareByPowers_13 : decode cX1_squareByPowers 13 = .ok (.aload_n 0, 1) := qdX1_squareByPowers_0_24.2.2.2.2.2.2.2.2.2.1
theorem dX1_squareByPowers_14 : decode cX1_squareByPowers 14 = .ok (.getfield 12, 3) := qdX1_squareByPowers_0_24.2.2.2.2.2.2.2.2.2.2.1
theorem dX1_squareByPowers_17 : decode cX1_squareByPowers 17 = .ok (.invokevirtual 45, 3) := qdX1_squareByPowers_0_24.2.2.2.2.2.2.2.2.2.2.2.1
theorem dX1_squareByPowers_20 : decode cX1_squareByPowers 20 = .ok (.if_icmp .ge 53, 3) := qdX1_squareByPowers_0_24.2.2.2.2.2.2.2.2.2.2.2.2.1
theorem dX1_squareByPowers_23 : decode cX1_squareByPowers 23 = .ok (.iconst 0, 1) := qdX1_squareByPowers_0_24.2.2.2.2.2.2.2.2.2.2.2.2.2.1
theorem dX1_squareByPowers_24 : decode cX1_squareByPowers 24 = .ok (.istore 4, 2) := qdX1_squareByPowers_0_24.2.2.2.2.2.2.2.2.2.2.2.2.2.2.1
theorem dX1_squareByPowers_26 : decode cX1_squareByPowers 26 = .ok (.iload 4, 2) := qdX1_squareByPowers_0_24.2.2.2.2.2.2.2.2.2.2.2.2.2.2.2.1
theorem dX1_squareByPowers_28 : decode cX1_squareByPowers 28 = .ok (.aload_n 0, 1) := qdX1_squareByPowers_0_24.2.2.2.2.2.2.2.2.2.2.2.2.2.2.2.2.1
theorem dX1_squareByPowers_29 : decode cX1_squareByPowers 29 = .ok (.getfield 12, 3) := qdX1_squareByPowers_0_24.2.2.2.2.2.2.2.2.2.2.2.2.2.2.2.2.2.1
theorem dX1_squareByPowers_32 : decode cX1_squareByPowers 32 = .ok (.iload_n 3, 1) := qdX1_squareByPowers_0_24.2.2.2.2.2.2.2.2.2.2.2.2.2.2.2.2.2.2.1
theorem dX1_squareByPowers_33 : decode cX1_squareByPowers 33 = .ok (.invokevirtual 49, 3) := qdX1_squareByPowers_0_24.2.2.2.2.2.2.2.2.2.2.2.2.2.2.2.2.2.2.2.1
theorem dX1_squareByPowers_36 : decode cX1_squareByPowers 36 = .ok (.iconst 2, 1) := qdX1_squareByPowers_0_24.2.2.2.2.2.2.2.2.2.2.2.2.2.2.2.2.2.2.2.2.1
theorem dX1_squareByPowers_37 : decode cX1_squareByPowers 37 = .ok (.idiv, 1) := qdX1_squareByPowers_0_24.2.2.2.2.2.2.2.2.2.2.2.2.2.2.2.2.2.2.2.2.2.1
theorem dX1_squareByPowers_38 : decode cX1_squareByPowers 38 = .ok (.if_icmp .ge 29, 3) := qdX1_squareByPowers_0_24.2.2.2.2.2.2.2.2.2.2.2.2.2.2.2.2.2.2.2.2.2.2.1
theorem dX1_squareByPowers_41 : decode cX1_squareByPowers 41 = .ok (.iload_n 2, 1) := qdX1_squareByPowers_0_24.2.2.2.2.2.2.2.2.2.2.2.2.2.2.2.2.2.2.2.2.2.2.2.1
theorem qdX1_squareByPowers_42_17 : dcAll cX1_squareByPowers [(42, .aload_n 0, 1), (43, .getfield 12, 3), (46, .iload_n 3, 1), (47, .invokevirtual 52, 3), (50, .aload_n 0, 1), (51, .getfield 12, 3), (54, .iload_n 3, 1), (55, .invokevirtual 52, 3), (58, .imul, 1), (59, .imul, 1), (60, .istore_n 2, 1), (61, .iinc 4 1, 3), (64, .goto (-38), 3), (67, .iinc 3 1, 3), (70, .goto (-58), 3), (73, .iload_n 2, 1), (74, .ireturn, 1)] := dcAll_of (by decide +kernel)
theorem dX1_squareByPowers_42 : decode cX1_squareByPowers 42 = .ok (.aload_n 0, 1) := qdX1_squareByPowers_42_17.1
theorem dX1_squareByPowers_43 : decode cX1_squareByPowers 43 = .ok (.getfield 12, 3) := qdX1_squareByPowers_42_17.2.1
theorem dX1_squareByPowers_46 : decode cX1_squareByPowers 46 = .ok (.iload_n 3, 1) := qdX1_squareByPowers_42_17.2.2.1
theorem dX1_squareByPowers_47 : decode cX1_squareByPowers 47 = .ok (.invokevirtual 52, 3) := qdX1_squareByPowers_42_17.2.2.2.1
theorem dX1_squareByPowers_50 : decode cX1_squareByPowers 50 = .ok (.aload_n 0, 1) := qdX1_squareByPowers_42_17.2.2.2.2.1
theorem dX1_squareByPowers_51 : decode cX1_squareByPowers 51 = .ok (.getfield 12, 3) := qdX1_squareByPowers_42_17.2.2.2.2.2.1
theorem dX1_squareByPowers_54 : decode cX1_squareByPowers 54 = .ok (.iload_n 3, 1) := qdX1_squareByPowers_42_17.2.2.2.2.2.2.1
theorem dX1_squareByPowers_55 : decode cX1_squareByPowers 55 = .ok (.invokevirtual 52, 3) := qdX1_squareByPowers_42_17.2.2.2.2.2.2.2.1
theorem dX1_squareByPowers_58 : decode cX1_squareByPowers 58 = .ok (.imul, 1) := qdX1_squareByPowers_42_17.2.2.2.2.2.2.2.2.1
theorem dX1_squareByPowers_59 : decode cX1_squareByPowers 59 = .ok (.imul, 1) := qdX1_squareByPowers_42_17.2.2.2.2.2.2.2.2.2.1
theorem dX1_squareByPowers_60 : decode cX1_squareByPowers 60 = .ok (.istore_n 2, 1) := qdX1_squareByPowers_42_17.2.2.2.2.2.2.2.2.2.2.1
theorem dX1_squareByPowers_61 : decode cX1_squareByPowers 61 = .ok (.iinc 4 1, 3) := qdX1_squareByPowers_42_17.2.2.2.2.2.2.2.2.2.2.2.1
theorem dX1_squareByPowers_64 : decode cX1_squareByPowers 64 = .ok (.goto (-38), 3) := qdX1_squareByPowers_42_17.2.2.2.2.2.2.2.2.2.2.2.2.1
theorem dX1_squareByPowers_67 : decode cX1_squareByPowers 67 = .ok (.iinc 3 1, 3) := qdX1_squareByPowers_42_17.2.2.2.2.2.2.2.2.2.2.2.2.2.1
theorem dX1_squareByPowers_70 : decode cX1_squareByPowers 70 = .ok (.goto (-58), 3) := qdX1_squareByPowers_42_17.2.2.2.2.2.2.2.2.2.2.2.2.2.2.1
theorem dX1_squareByPowers_73 : decode cX1_squareByPowers 73 = .ok (.iload_n 2, 1) := qdX1_squareByPowers_42_17.2.2.2.2.2.2.2.2.2.2.2.2.2.2.2.1
theorem dX1_squareByPowers_74 : decode cX1_squareByPowers 74 = .ok (.ireturn, 1) := qdX1_squareByPowers_42_17.2.2.2.2.2.2.2.2.2.2.2.2.2.2.2.2.1
theorem ggX1_squarelessOneByOne_X1_squareOneByOne : GoodIn wsX1_squarelessOneByOne wsX1_squareOneByOne := fun w h => ⟨List.mem_cons_of_mem _ (List.mem_append_right _ h), zq_X1_squareOneByOne w h⟩
set_option maxRecDepth 20000 in
theorem gX1_squarelessOneByOne_X1_squareOneByOne : GoodIn wsX1_squarelessOneByOne (wsV RX1 39 RX1 yX1_squareOneByOne wsX1_squareOneByOne) := goodIn_app (goodIn_r _ [1, 2, 3, 4] rfl rfl) ggX1_squarelessOneByOne_X1_squareOneByOne
theorem qdX1_squarelessOneByOne_0_22 : dcAll cX1_squarelessOneByOne [(0, .iconst 0, 1), (1, .istore_n 2, 1), (2, .iconst 1, 1), (3, .istore_n 3, 1), (4, .iload_n 3, 1), (5, .iload_n 1, 1), (6, .if_icmp .gt 26, 3), (9, .iload_n 2, 1), (10, .aload_n 0, 1), (11, .iload_n 3, 1), (12, .invokevirtual 39, 3), (15, .iconst 1, 1), (16, .if_icmp .ne 7, 3), (19, .iconst 1, 1), (20, .goto 4, 3), (23, .iconst 0, 1), (24, .iadd, 1), (25, .istore_n 2, 1), (26, .iinc 3 1, 3), (29, .goto (-25), 3), (32, .iload_n 2, 1), (33, .ireturn, 1)] := dcAll_of (by decide +kernel)
theorem dX1_squarelessOneByOne_0 : decode cX1_squarelessOneByOne 0 = .ok (.iconst 0, 1) := qdX1_squarelessOneByOne_0_22.1
theorem dX1_squarelessOneByOne_1 : decode cX1_squarelessOneByOne 1 = .ok (.istore_n 2, 1) := qdX1_squarelessOneByOne_0_22.2.1
theorem dX1_squarelessOneByOne_2 : decode cX1_squarelessOneByOne 2 = .ok (.iconst 1, 1) := qdX1_squarelessOneByOne_0_22.2.2.1
theorem dX1_squarelessOneByOne_3 : decode cX1_squarelessOneByOne 3 = .ok (.istore_n 3, 1) := qdX1_squarelessOneByOne_0_22.2.2.2.1
theorem dX1_squarelessOneByOne_4 : decode cX1_squarelessOneByOne 4 = .ok (.iload_n 3, 1) := qdX1_squarelessOneByOne_0_22.2.2.2.2.1
theorem dX1_squarelessOneByOne_5 : decode cX1_squarelessOneByOne 5 = .ok (.iload_n 1, 1) := qdX1_squarelessOneByOne_0_22.2.2.2.2.2.1
theorem dX1_squarelessOneByOne_6 : decode cX1_squarelessOneByOne 6 = .ok (.if_icmp .gt 26, 3) := qdX1_squarelessOneByOne_0_22.2.2.2.2.2.2.1
theorem dX1_squarelessOneByOne_9 : decode cX1_squarelessOneByOne 9 = .ok (.iload_n 2, 1) := qdX1_squarelessOneByOne_0_22.2.2.2.2.2.2.2.1
theorem dX1_squarelessOneByOne_10 : decode cX1_squarelessOneByOne 10 = .ok (.aload_n 0, 1) := qdX1_squarelessOneByOne_0_22.2.2.2.2.2.2.2.2.1
theorem dX1_squarelessOneByOne_11 : decode cX1_squarelessOneByOne 11 = .ok (.iload_n 3, 1) := qdX1_squarelessOneByOne_0_22.2.2.2.2.2.2.2.2.2.1
theorem dX1_squarelessOneByOne_12 : decode cX1_squarelessOneByOne 12 = .ok (.invokevirtual 39, 3) := qdX1_squarelessOneByOne_0_22.2.2.2.2.2.2.2.2.2.2.1
theorem dX1_squarelessOneByOne_15 : decode cX1_squarelessOneByOne 15 = .ok (.iconst 1, 1) := qdX1_squarelessOneByOne_0_22.2.2.2.2.2.2.2.2.2.2.2.1
theorem dX1_squarelessOneByOne_16 : decode cX1_squarelessOneByOne 16 = .ok (.if_icmp .ne 7, 3) := qdX1_squarelessOneByOne_0_22.2.2.2.2.2.2.2.2.2.2.2.2.1
theorem dX1_squarelessOneByOne_19 : decode cX1_squarelessOneByOne 19 = .ok (.iconst 1, 1) := qdX1_squarelessOneByOne_0_22.2.2.2.2.2.2.2.2.2.2.2.2.2.1
theorem dX1_squarelessOneByOne_20 : decode cX1_squarelessOneByOne 20 = .ok (.goto 4, 3) := qdX1_squarelessOneByOne_0_22.2.2.2.2.2.2.2.2.2.2.2.2.2.2.1
theorem dX1_squarelessOneByOne_23 : decode cX1_squarelessOneByOne 23 = .ok (.iconst 0, 1) := qdX1_squarelessOneByOne_0_22.2.2.2.2.2.2.2.2.2.2.2.2.2.2.2.1
theorem dX1_squarelessOneByOne_24 : decode cX1_squarelessOneByOne 24 = .ok (.iadd, 1) := qdX1_squarelessOneByOne_0_22.2.2.2.2.2.2.2.2.2.2.2.2.2.2.2.2.1
theorem dX1_squarelessOneByOne_25 : decode cX1_squarelessOneByOne 25 = .ok (.istore_n 2, 1) := qdX1_squarelessOneByOne_0_22.2.2.2.2.2.2.2.2.2.2.2.2.2.2.2.2.2.1
theorem dX1_squarelessOneByOne_26 : decode cX1_squarelessOneByOne 26 = .ok (.iinc 3 1, 3) := qdX1_squarelessOneByOne_0_22.2.2.2.2.2.2.2.2.2.2.2.2.2.2.2.2.2.2.1
theorem dX1_squarelessOneByOne_29 : decode cX1_squarelessOneByOne 29 = .ok (.goto (-25), 3) := qdX1_squarelessOneByOne_0_22.2.2.2.2.2.2.2.2.2.2.2.2.2.2.2.2.2.2.2.1
theorem dX1_squarelessOneByOne_32 : decode cX1_squarelessOneByOne 32 = .ok (.iload_n 2, 1) := qdX1_squarelessOneByOne_0_22.2.2.2.2.2.2.2.2.2.2.2.2.2.2.2.2.2.2.2.2.1
theorem dX1_squarelessOneByOne_33 : decode cX1_squarelessOneByOne 33 = .ok (.ireturn, 1) := qdX1_squarelessOneByOne_0_22.2.2.2.2.2.2.2.2.2.2.2.2.2.2.2.2.2.2.2.2.2.1
theorem ggX1_squarelessBySigns_X1_signByPowers : GoodIn wsX1_squarelessBySigns wsX1_signByPowers := fun w h => ⟨List.mem_cons_of_mem _ (List.mem_append_right _ h), zq_X1_signByPowers w h⟩
set_option maxRecDepth 20000 in
theorem gX1_squarelessBySigns_X1_signByPowers : GoodIn wsX1_squarelessBySigns (wsV RX1 26 RX1 yX1_signByPowers wsX1_signByPowers) := goodIn_app (goodIn_r _ [1, 2, 3, 4] rfl rfl) ggX1_squarelessBySigns_X1_signByPowers
theorem qdX1_squarelessBySigns_0_24 : dcAll cX1_squarelessBySigns [(0, .iconst 0, 1), (1, .istore_n 2, 1), (2, .iconst 1, 1), (3, .istore_n 3, 1), (4, .iload_n 3, 1), (5, .bipush 31, 2), (7, .if_icmp .gt 30, 3), (10, .iload_n 3, 1), (11, .iload_n 3, 1), (12, .imul, 1), (13, .iload_n 1, 1), (14, .if_icmp .gt 23, 3), (17, .iload_n 2, 1), (18, .aload_n 0, 1), (19, .iload_n 3, 1), (20, .invokevirtual 26, 3), (23, .iload_n 1, 1), (24, .iload_n 3, 1), (25, .iload_n 3, 1), (26, .imul, 1), (27, .idiv, 1), (28, .imul, 1), (29, .iadd, 1), (30, .istore_n 2, 1)] := dcAll_of (by decide +kernel)
theorem dX1_squarelessBySigns_0 : decode cX1_squarelessBySigns 0 = .ok (.iconst 0, 1) := qdX1_squarelessBySigns_0_24.1
theorem dX1_squarelessBySigns_1 : decode cX1_squarelessBySigns 1 = .ok (.istore_n 2, 1) := qdX1_squarelessBySigns_0_24.2.1
theorem dX1_squarelessBySigns_2 : decode cX1_squarelessBySigns 2 = .ok (.iconst 1, 1) := qdX1_squarelessBySigns_0_24.2.2.1
theorem dX1_squarelessBySigns_3 : decode cX1_squarelessBySigns 3 = .ok (.istore_n 3, 1) := qdX1_squarelessBySigns_0_24.2.2.2.1
theorem dX1_squarelessBySigns_4 : decode cX1_squarelessBySigns 4 = .ok (.iload_n 3, 1) := qdX1_squarelessBySigns_0_24.2.2.2.2.1
theorem dX1_squarelessBySigns_5 : decode cX1_squarelessBySigns 5 = .ok (.bipush 31, 2) := qdX1_squarelessBySigns_0_24.2.2.2.2.2.1
theorem dX1_squarelessBySigns_7 : decode cX1_squarelessBySigns 7 = .ok (.if_icmp .gt 30, 3) := qdX1_squarelessBySigns_0_24.2.2.2.2.2.2.1
theorem dX1_squarelessBySigns_10 : decode cX1_squarelessBySigns 10 = .ok (.iload_n 3, 1) := qdX1_squarelessBySigns_0_24.2.2.2.2.2.2.2.1
theorem dX1_squarelessBySigns_11 : decode cX1_squarelessBySigns 11 = .ok (.iload_n 3, 1) := qdX1_squarelessBySigns_0_24.2.2.2.2.2.2.2.2.1
theorem dX1_squarelessBySigns_12 : decode cX1_squarelessBySigns 12 = .ok (.imul, 1) := qdX1_squarelessBySigns_0_24.2.2.2.2.2.2.2.2.2.1
theorem dX1_squarelessBySigns_13 : decode cX1_squarelessBySigns 13 = .ok (.iload_n 1, 1) := qdX1_squarelessBySigns_0_24.2.2.2.2.2.2.2.2.2.2.1
theorem dX1_squarelessBySigns_14 : decode cX1_squarelessBySigns 14 = .ok (.if_icmp .gt 23, 3) := qdX1_squarelessBySigns_0_24.2.2.2.2.2.2.2.2.2.2.2.1
theorem dX1_squarelessBySigns_17 : decode cX1_squarelessBySigns 17 = .ok (.iload_n 2, 1) := qdX1_squarelessBySigns_0_24.2.2.2.2.2.2.2.2.2.2.2.2.1
theorem dX1_squarelessBySigns_18 : decode cX1_squarelessBySigns 18 = .ok (.aload_n 0, 1) := qdX1_squarelessBySigns_0_24.2.2.2.2.2.2.2.2.2.2.2.2.2.1
theorem dX1_squarelessBySigns_19 : decode cX1_squarelessBySigns 19 = .ok (.iload_n 3, 1) := qdX1_squarelessBySigns_0_24.2.2.2.2.2.2.2.2.2.2.2.2.2.2.1
theorem dX1_squarelessBySigns_20 : decode cX1_squarelessBySigns 20 = .ok (.invokevirtual 26, 3) := qdX1_squarelessBySigns_0_24.2.2.2.2.2.2.2.2.2.2.2.2.2.2.2.1
theorem dX1_squarelessBySigns_23 : decode cX1_squarelessBySigns 23 = .ok (.iload_n 1, 1) := qdX1_squarelessBySigns_0_24.2.2.2.2.2.2.2.2.2.2.2.2.2.2.2.2.1
theorem dX1_squarelessBySigns_24 : decode cX1_squarelessBySigns 24 = .ok (.iload_n 3, 1) := qdX1_squarelessBySigns_0_24.2.2.2.2.2.2.2.2.2.2.2.2.2.2.2.2.2.1
theorem dX1_squarelessBySigns_25 : decode cX1_squarelessBySigns 25 = .ok (.iload_n 3, 1) := qdX1_squarelessBySigns_0_24.2.2.2.2.2.2.2.2.2.2.2.2.2.2.2.2.2.2.1
theorem dX1_squarelessBySigns_26 : decode cX1_squarelessBySigns 26 = .ok (.imul, 1) := qdX1_squarelessBySigns_0_24.2.2.2.2.2.2.2.2.2.2.2.2.2.2.2.2.2.2.2.1
theorem dX1_squarelessBySigns_27 : decode cX1_squarelessBySigns 27 = .ok (.idiv, 1) := qdX1_squarelessBySigns_0_24.2.2.2.2.2.2.2.2.2.2.2.2.2.2.2.2.2.2.2.2.1
theorem dX1_squarelessBySigns_28 : decode cX1_squarelessBySigns 28 = .ok (.imul, 1) := qdX1_squarelessBySigns_0_24.2.2.2.2.2.2.2.2.2.2.2.2.2.2.2.2.2.2.2.2.2.1
theorem dX1_squarelessBySigns_29 : decode cX1_squarelessBySigns 29 = .ok (.iadd, 1) := qdX1_squarelessBySigns_0_24.2.2.2.2.2.2.2.2.2.2.2.2.2.2.2.2.2.2.2.2.2.2.1
theorem dX1_squarelessBySigns_30 : decode cX1_squarelessBySigns 30 = .ok (.istore_n 2, 1) := qdX1_squarelessBySigns_0_24.2.2.2.2.2.2.2.2.2.2.2.2.2.2.2.2.2.2.2.2.2.2.2.1
theorem qdX1_squarelessBySigns_31_4 : dcAll cX1_squarelessBySigns [(31, .iinc 3 1, 3), (34, .goto (-30), 3), (37, .iload_n 2, 1), (38, .ireturn, 1)] := dcAll_of (by decide +kernel)
theorem dX1_squarelessBySigns_31 : decode cX1_squarelessBySigns 31 = .ok (.iinc 3 1, 3) := qdX1_squarelessBySigns_31_4.1
theorem dX1_squarelessBySigns_34 : decode cX1_squarelessBySigns 34 = .ok (.goto (-30), 3) := qdX1_squarelessBySigns_31_4.2.1
theorem dX1_squarelessBySigns_37 : decode cX1_squarelessBySigns 37 = .ok (.iload_n 2, 1) := qdX1_squarelessBySigns_31_4.2.2.1
theorem dX1_squarelessBySigns_38 : decode cX1_squarelessBySigns 38 = .ok (.ireturn, 1) := qdX1_squarelessBySigns_31_4.2.2.2.1
theorem ggX1_apartOneByOne_X1_commonOf : GoodIn wsX1_apartOneByOne wsX1_commonOf := fun w h => ⟨List.mem_cons_of_mem _ (List.mem_append_right _ h), zq_X1_commonOf w h⟩
set_option maxRecDepth 20000 in
theorem gX1_apartOneByOne_X1_commonOf : GoodIn wsX1_apartOneByOne (va_wsS RX1 55 yX1_commonOf wsX1_commonOf) := goodIn_app (goodIn_r _ [1, 2, 3] rfl rfl) ggX1_apartOneByOne_X1_commonOf
theorem qdX1_apartOneByOne_0_24 : dcAll cX1_apartOneByOne [(0, .iconst 0, 1), (1, .istore_n 2, 1), (2, .iconst 1, 1), (3, .istore_n 3, 1), (4, .iload_n 3, 1), (5, .iload_n 1, 1), (6, .if_icmp .gt 42, 3), (9, .iconst 1, 1), (10, .istore 4, 2), (12, .iload 4, 2), (14, .iload_n 1, 1), (15, .if_icmp .gt 27, 3), (18, .iload_n 2, 1), (19, .iload_n 3, 1), (20, .iload 4, 2), (22, .invokestatic 55, 3), (25, .iconst 1, 1), (26, .if_icmp .ne 7, 3), (29, .iconst 1, 1), (30, .goto 4, 3), (33, .iconst 0, 1), (34, .iadd, 1), (35, .istore_n 2, 1), (36, .iinc 4 1, 3)] := dcAll_of (by decide +kernel)
theorem dX1_apartOneByOne_0 : decode cX1_apartOneByOne 0 = .ok (.iconst 0, 1) := qdX1_apartOneByOne_0_24.1
theorem dX1_apartOneByOne_1 : decode cX1_apartOneByOne 1 = .ok (.istore_n 2, 1) := qdX1_apartOneByOne_0_24.2.1
theorem dX1_apartOneByOne_2 : decode cX1_apartOneByOne 2 = .ok (.iconst 1, 1) := qdX1_apartOneByOne_0_24.2.2.1
theorem dX1_apartOneByOne_3 : decode cX1_apartOneByOne 3 = .ok (.istore_n 3, 1) := qdX1_apartOneByOne_0_24.2.2.2.1
theorem dX1_apartOneByOne_4 : decode cX1_apartOneByOne 4 = .ok (.iload_n 3, 1) := qdX1_apartOneByOne_0_24.2.2.2.2.1
theorem dX1_apartOneByOne_5 : decode cX1_apartOneByOne 5 = .ok (.iload_n 1, 1) := qdX1_apartOneByOne_0_24.2.2.2.2.2.1
theorem dX1_apartOneByOne_6 : decode cX1_apartOneByOne 6 = .ok (.if_icmp .gt 42, 3) := qdX1_apartOneByOne_0_24.2.2.2.2.2.2.1
theorem dX1_apartOneByOne_9 : decode cX1_apartOneByOne 9 = .ok (.iconst 1, 1) := qdX1_apartOneByOne_0_24.2.2.2.2.2.2.2.1
theorem dX1_apartOneByOne_10 : decode cX1_apartOneByOne 10 = .ok (.istore 4, 2) := qdX1_apartOneByOne_0_24.2.2.2.2.2.2.2.2.1
theorem dX1_apartOneByOne_12 : decode cX1_apartOneByOne 12 = .ok (.iload 4, 2) := qdX1_apartOneByOne_0_24.2.2.2.2.2.2.2.2.2.1
theorem dX1_apartOneByOne_14 : decode cX1_apartOneByOne 14 = .ok (.iload_n 1, 1) := qdX1_apartOneByOne_0_24.2.2.2.2.2.2.2.2.2.2.1
theorem dX1_apartOneByOne_15 : decode cX1_apartOneByOne 15 = .ok (.if_icmp .gt 27, 3) := qdX1_apartOneByOne_0_24.2.2.2.2.2.2.2.2.2.2.2.1
theorem dX1_apartOneByOne_18 : decode cX1_apartOneByOne 18 = .ok (.iload_n 2, 1) := qdX1_apartOneByOne_0_24.2.2.2.2.2.2.2.2.2.2.2.2.1
theorem dX1_apartOneByOne_19 : decode cX1_apartOneByOne 19 = .ok (.iload_n 3, 1) := qdX1_apartOneByOne_0_24.2.2.2.2.2.2.2.2.2.2.2.2.2.1
theorem dX1_apartOneByOne_20 : decode cX1_apartOneByOne 20 = .ok (.iload 4, 2) := qdX1_apartOneByOne_0_24.2.2.2.2.2.2.2.2.2.2.2.2.2.2.1
theorem dX1_apartOneByOne_22 : decode cX1_apartOneByOne 22 = .ok (.invokestatic 55, 3) := qdX1_apartOneByOne_0_24.2.2.2.2.2.2.2.2.2.2.2.2.2.2.2.1
theorem dX1_apartOneByOne_25 : decode cX1_apartOneByOne 25 = .ok (.iconst 1, 1) := qdX1_apartOneByOne_0_24.2.2.2.2.2.2.2.2.2.2.2.2.2.2.2.2.1
theorem dX1_apartOneByOne_26 : decode cX1_apartOneByOne 26 = .ok (.if_icmp .ne 7, 3) := qdX1_apartOneByOne_0_24.2.2.2.2.2.2.2.2.2.2.2.2.2.2.2.2.2.1
theorem dX1_apartOneByOne_29 : decode cX1_apartOneByOne 29 = .ok (.iconst 1, 1) := qdX1_apartOneByOne_0_24.2.2.2.2.2.2.2.2.2.2.2.2.2.2.2.2.2.2.1
theorem dX1_apartOneByOne_30 : decode cX1_apartOneByOne 30 = .ok (.goto 4, 3) := qdX1_apartOneByOne_0_24.2.2.2.2.2.2.2.2.2.2.2.2.2.2.2.2.2.2.2.1
theorem dX1_apartOneByOne_33 : decode cX1_apartOneByOne 33 = .ok (.iconst 0, 1) := qdX1_apartOneByOne_0_24.2.2.2.2.2.2.2.2.2.2.2.2.2.2.2.2.2.2.2.2.1
theorem dX1_apartOneByOne_34 : decode cX1_apartOneByOne 34 = .ok (.iadd, 1) := qdX1_apartOneByOne_0_24.2.2.2.2.2.2.2.2.2.2.2.2.2.2.2.2.2.2.2.2.2.1
theorem dX1_apartOneByOne_35 : decode cX1_apartOneByOne 35 = .ok (.istore_n 2, 1) := qdX1_apartOneByOne_0_24.2.2.2.2.2.2.2.2.2.2.2.2.2.2.2.2.2.2.2.2.2.2.1
theorem dX1_apartOneByOne_36 : decode cX1_apartOneByOne 36 = .ok (.iinc 4 1, 3) := qdX1_apartOneByOne_0_24.2.2.2.2.2.2.2.2.2.2.2.2.2.2.2.2.2.2.2.2.2.2.2.1
theorem qdX1_apartOneByOne_39_5 : dcAll cX1_apartOneByOne [(39, .goto (-27), 3), (42, .iinc 3 1, 3), (45, .goto (-41), 3), (48, .iload_n 2, 1), (49, .ireturn, 1)] := dcAll_of (by decide +kernel)
theorem dX1_apartOneByOne_39 : decode cX1_apartOneByOne 39 = .ok (.goto (-27), 3) := qdX1_apartOneByOne_39_5.1
theorem dX1_apartOneByOne_42 : decode cX1_apartOneByOne 42 = .ok (.iinc 3 1, 3) := qdX1_apartOneByOne_39_5.2.1
theorem dX1_apartOneByOne_45 : decode cX1_apartOneByOne 45 = .ok (.goto (-41), 3) := qdX1_apartOneByOne_39_5.2.2.1
theorem dX1_apartOneByOne_48 : decode cX1_apartOneByOne 48 = .ok (.iload_n 2, 1) := qdX1_apartOneByOne_39_5.2.2.2.1
theorem dX1_apartOneByOne_49 : decode cX1_apartOneByOne 49 = .ok (.ireturn, 1) := qdX1_apartOneByOne_39_5.2.2.2.2.1
theorem ggX1_apartBySigns_X1_signByPowers : GoodIn wsX1_apartBySigns wsX1_signByPowers := fun w h => ⟨List.mem_cons_of_mem _ (List.mem_append_right _ h), zq_X1_signByPowers w h⟩
set_option maxRecDepth 20000 in
theorem gX1_apartBySigns_X1_signByPowers : GoodIn wsX1_apartBySigns (wsV RX1 26 RX1 yX1_signByPowers wsX1_signByPowers) := goodIn_app (goodIn_r _ [1, 2, 3, 4] rfl rfl) ggX1_apartBySigns_X1_signByPowers
theorem qdX1_apartBySigns_0_24 : dcAll cX1_apartBySigns [(0, .iconst 0, 1), (1, .istore_n 2, 1), (2, .iconst 1, 1), (3, .istore_n 3, 1), (4, .iload_n 3, 1), (5, .iload_n 1, 1), (6, .if_icmp .gt 28, 3), (9, .iload_n 1, 1), (10, .iload_n 3, 1), (11, .idiv, 1), (12, .istore 4, 2), (14, .iload_n 2, 1), (15, .aload_n 0, 1), (16, .iload_n 3, 1), (17, .invokevirtual 26, 3), (20, .iload 4, 2), (22, .imul, 1), (23, .iload 4, 2), (25, .imul, 1), (26, .iadd, 1), (27, .istore_n 2, 1), (28, .iinc 3 1, 3), (31, .goto (-27), 3), (34, .iload_n 2, 1)] := dcAll_of (by decide +kernel)
theorem dX1_apartBySigns_0 : decode cX1_apartBySigns 0 = .ok (.iconst 0, 1) := qdX1_apartBySigns_0_24.1
theorem dX1_apartBySigns_1 : decode cX1_apartBySigns 1 = .ok (.istore_n 2, 1) := qdX1_apartBySigns_0_24.2.1
theorem dX1_apartBySigns_2 : decode cX1_apartBySigns 2 = .ok (.iconst 1, 1) := qdX1_apartBySigns_0_24.2.2.1
theorem dX1_apartBySigns_3 : decode cX1_apartBySigns 3 = .ok (.istore_n 3, 1) := qdX1_apartBySigns_0_24.2.2.2.1
theorem dX1_apartBySigns_4 : decode cX1_apartBySigns 4 = .ok (.iload_n 3, 1) := qdX1_apartBySigns_0_24.2.2.2.2.1
theorem dX1_apartBySigns_5 : decode cX1_apartBySigns 5 = .ok (.iload_n 1, 1) := qdX1_apartBySigns_0_24.2.2.2.2.2.1
theorem dX1_apartBySigns_6 : decode cX1_apartBySigns 6 = .ok (.if_icmp .gt 28, 3) := qdX1_apartBySigns_0_24.2.2.2.2.2.2.1
theorem dX1_apartBySigns_9 : decode cX1_apartBySigns 9 = .ok (.iload_n 1, 1) := qdX1_apartBySigns_0_24.2.2.2.2.2.2.2.1
theorem dX1_apartBySigns_10 : decode cX1_apartBySigns 10 = .ok (.iload_n 3, 1) := qdX1_apartBySigns_0_24.2.2.2.2.2.2.2.2.1
theorem dX1_apartBySigns_11 : decode cX1_apartBySigns 11 = .ok (.idiv, 1) := qdX1_apartBySigns_0_24.2.2.2.2.2.2.2.2.2.1
theorem dX1_apartBySigns_12 : decode cX1_apartBySigns 12 = .ok (.istore 4, 2) := qdX1_apartBySigns_0_24.2.2.2.2.2.2.2.2.2.2.1
theorem dX1_apartBySigns_14 : decode cX1_apartBySigns 14 = .ok (.iload_n 2, 1) := qdX1_apartBySigns_0_24.2.2.2.2.2.2.2.2.2.2.2.1
theorem dX1_apartBySigns_15 : decode cX1_apartBySigns 15 = .ok (.aload_n 0, 1) := qdX1_apartBySigns_0_24.2.2.2.2.2.2.2.2.2.2.2.2.1
theorem dX1_apartBySigns_16 : decode cX1_apartBySigns 16 = .ok (.iload_n 3, 1) := qdX1_apartBySigns_0_24.2.2.2.2.2.2.2.2.2.2.2.2.2.1
theorem dX1_apartBySigns_17 : decode cX1_apartBySigns 17 = .ok (.invokevirtual 26, 3) := qdX1_apartBySigns_0_24.2.2.2.2.2.2.2.2.2.2.2.2.2.2.1
theorem dX1_apartBySigns_20 : decode cX1_apartBySigns 20 = .ok (.iload 4, 2) := qdX1_apartBySigns_0_24.2.2.2.2.2.2.2.2.2.2.2.2.2.2.2.1
theorem dX1_apartBySigns_22 : decode cX1_apartBySigns 22 = .ok (.imul, 1) := qdX1_apartBySigns_0_24.2.2.2.2.2.2.2.2.2.2.2.2.2.2.2.2.1
theorem dX1_apartBySigns_23 : decode cX1_apartBySigns 23 = .ok (.iload 4, 2) := qdX1_apartBySigns_0_24.2.2.2.2.2.2.2.2.2.2.2.2.2.2.2.2.2.1
theorem dX1_apartBySigns_25 : decode cX1_apartBySigns 25 = .ok (.imul, 1) := qdX1_apartBySigns_0_24.2.2.2.2.2.2.2.2.2.2.2.2.2.2.2.2.2.2.1
theorem dX1_apartBySigns_26 : decode cX1_apartBySigns 26 = .ok (.iadd, 1) := qdX1_apartBySigns_0_24.2.2.2.2.2.2.2.2.2.2.2.2.2.2.2.2.2.2.2.1
theorem dX1_apartBySigns_27 : decode cX1_apartBySigns 27 = .ok (.istore_n 2, 1) := qdX1_apartBySigns_0_24.2.2.2.2.2.2.2.2.2.2.2.2.2.2.2.2.2.2.2.2.1
theorem dX1_apartBySigns_28 : decode cX1_apartBySigns 28 = .ok (.iinc 3 1, 3) := qdX1_apartBySigns_0_24.2.2.2.2.2.2.2.2.2.2.2.2.2.2.2.2.2.2.2.2.2.1
theorem dX1_apartBySigns_31 : decode cX1_apartBySigns 31 = .ok (.goto (-27), 3) := qdX1_apartBySigns_0_24.2.2.2.2.2.2.2.2.2.2.2.2.2.2.2.2.2.2.2.2.2.2.1
theorem dX1_apartBySigns_34 : decode cX1_apartBySigns 34 = .ok (.iload_n 2, 1) := qdX1_apartBySigns_0_24.2.2.2.2.2.2.2.2.2.2.2.2.2.2.2.2.2.2.2.2.2.2.2.1
theorem dX1_apartBySigns_35 : decode cX1_apartBySigns 35 = .ok (.ireturn, 1) := by decide +kernel
theorem ggX1_apartByPhi_X1_phiByPowers : GoodIn wsX1_apartByPhi wsX1_phiByPowers := fun w h => ⟨List.mem_cons_of_mem _ (List.mem_append_right _ h), zq_X1_phiByPowers w h⟩
set_option maxRecDepth 20000 in
theorem gX1_apartByPhi_X1_phiByPowers : GoodIn wsX1_apartByPhi (wsV RX1 30 RX1 yX1_phiByPowers wsX1_phiByPowers) := goodIn_app (goodIn_r _ [1, 2, 3, 4] rfl rfl) ggX1_apartByPhi_X1_phiByPowers
theorem qdX1_apartByPhi_0_21 : dcAll cX1_apartByPhi [(0, .iconst 0, 1), (1, .istore_n 2, 1), (2, .iconst 1, 1), (3, .istore_n 3, 1), (4, .iload_n 3, 1), (5, .iload_n 1, 1), (6, .if_icmp .gt 17, 3), (9, .iload_n 2, 1), (10, .aload_n 0, 1), (11, .iload_n 3, 1), (12, .invokevirtual 30, 3), (15, .iadd, 1), (16, .istore_n 2, 1), (17, .iinc 3 1, 3), (20, .goto (-16), 3), (23, .iconst 2, 1), (24, .iload_n 2, 1), (25, .imul, 1), (26, .iconst 1, 1), (27, .isub, 1), (28, .ireturn, 1)] := dcAll_of (by decide +kernel)
theorem dX1_apartByPhi_0 : decode cX1_apartByPhi 0 = .ok (.iconst 0, 1) := qdX1_apartByPhi_0_21.1
theorem dX1_apartByPhi_1 : decode cX1_apartByPhi 1 = .ok (.istore_n 2, 1) := qdX1_apartByPhi_0_21.2.1
theorem dX1_apartByPhi_2 : decode cX1_apartByPhi 2 = .ok (.iconst 1, 1) := qdX1_apartByPhi_0_21.2.2.1
theorem dX1_apartByPhi_3 : decode cX1_apartByPhi 3 = .ok (.istore_n 3, 1) := qdX1_apartByPhi_0_21.2.2.2.1
theorem dX1_apartByPhi_4 : decode cX1_apartByPhi 4 = .ok (.iload_n 3, 1) := qdX1_apartByPhi_0_21.2.2.2.2.1
theorem dX1_apartByPhi_5 : decode cX1_apartByPhi 5 = .ok (.iload_n 1, 1) := qdX1_apartByPhi_0_21.2.2.2.2.2.1
theorem dX1_apartByPhi_6 : decode cX1_apartByPhi 6 = .ok (.if_icmp .gt 17, 3) := qdX1_apartByPhi_0_21.2.2.2.2.2.2.1
theorem dX1_apartByPhi_9 : decode cX1_apartByPhi 9 = .ok (.iload_n 2, 1) := qdX1_apartByPhi_0_21.2.2.2.2.2.2.2.1
theorem dX1_apartByPhi_10 : decode cX1_apartByPhi 10 = .ok (.aload_n 0, 1) := qdX1_apartByPhi_0_21.2.2.2.2.2.2.2.2.1
theorem dX1_apartByPhi_11 : decode cX1_apartByPhi 11 = .ok (.iload_n 3, 1) := qdX1_apartByPhi_0_21.2.2.2.2.2.2.2.2.2.1
theorem dX1_apartByPhi_12 : decode cX1_apartByPhi 12 = .ok (.invokevirtual 30, 3) := qdX1_apartByPhi_0_21.2.2.2.2.2.2.2.2.2.2.1
theorem dX1_apartByPhi_15 : decode cX1_apartByPhi 15 = .ok (.iadd, 1) := qdX1_apartByPhi_0_21.2.2.2.2.2.2.2.2.2.2.2.1
theorem dX1_apartByPhi_16 : decode cX1_apartByPhi 16 = .ok (.istore_n 2, 1) := qdX1_apartByPhi_0_21.2.2.2.2.2.2.2.2.2.2.2.2.1
theorem dX1_apartByPhi_17 : decode cX1_apartByPhi 17 = .ok (.iinc 3 1, 3) := qdX1_apartByPhi_0_21.2.2.2.2.2.2.2.2.2.2.2.2.2.1
theorem dX1_apartByPhi_20 : decode cX1_apartByPhi 20 = .ok (.goto (-16), 3) := qdX1_apartByPhi_0_21.2.2.2.2.2.2.2.2.2.2.2.2.2.2.1
theorem dX1_apartByPhi_23 : decode cX1_apartByPhi 23 = .ok (.iconst 2, 1) := qdX1_apartByPhi_0_21.2.2.2.2.2.2.2.2.2.2.2.2.2.2.2.1
theorem dX1_apartByPhi_24 : decode cX1_apartByPhi 24 = .ok (.iload_n 2, 1) := qdX1_apartByPhi_0_21.2.2.2.2.2.2.2.2.2.2.2.2.2.2.2.2.1
theorem dX1_apartByPhi_25 : decode cX1_apartByPhi 25 = .ok (.imul, 1) := qdX1_apartByPhi_0_21.2.2.2.2.2.2.2.2.2.2.2.2.2.2.2.2.2.1
theorem dX1_apartByPhi_26 : decode cX1_apartByPhi 26 = .ok (.iconst 1, 1) := qdX1_apartByPhi_0_21.2.2.2.2.2.2.2.2.2.2.2.2.2.2.2.2.2.2.1
theorem dX1_apartByPhi_27 : decode cX1_apartByPhi 27 = .ok (.isub, 1) := qdX1_apartByPhi_0_21.2.2.2.2.2.2.2.2.2.2.2.2.2.2.2.2.2.2.2.1
theorem dX1_apartByPhi_28 : decode cX1_apartByPhi 28 = .ok (.ireturn, 1) := qdX1_apartByPhi_0_21.2.2.2.2.2.2.2.2.2.2.2.2.2.2.2.2.2.2.2.2.1
theorem ggX1_textOfPowers_X2_lay : GoodIn wsX1_textOfPowers wsX2_lay := fun w h => ⟨List.mem_cons_of_mem _ (List.mem_append_left _ (List.mem_append_left _ (List.mem_append_left _ (List.mem_append_left _ (List.mem_append_left _ (List.mem_append_left _ (List.mem_append_left _ (List.mem_append_right _ h)))))))), zq_X2_lay w h⟩
set_option maxRecDepth 20000 in
theorem gX1_textOfPowers_X2_lay : GoodIn wsX1_textOfPowers (wsV RX1 22 RX2 yX2_lay wsX2_lay) := goodIn_app (goodIn_r _ [4, 5, 6, 7] rfl rfl) ggX1_textOfPowers_X2_lay
theorem ggX1_textOfPowers_J4_init_da8c8 : GoodIn wsX1_textOfPowers wsJ4_init_da8c8 := fun w h => ⟨List.mem_cons_of_mem _ (List.mem_append_left _ (List.mem_append_left _ (List.mem_append_left _ (List.mem_append_left _ (List.mem_append_left _ (List.mem_append_left _ (List.mem_append_right _ h))))))), zq_J4_init_da8c8 w h⟩
set_option maxRecDepth 20000 in
theorem gX1_textOfPowers_J4_init_da8c8 : GoodIn wsX1_textOfPowers (wsJ4_init_da8c8) := ggX1_textOfPowers_J4_init_da8c8
theorem ggX1_textOfPowers_X2_count : GoodIn wsX1_textOfPowers wsX2_count := fun w h => ⟨List.mem_cons_of_mem _ (List.mem_append_left _ (List.mem_append_left _ (List.mem_append_left _ (List.mem_append_left _ (List.mem_append_left _ (List.mem_append_right _ h)))))), zq_X2_count w h⟩
set_option maxRecDepth 20000 in
theorem gX1_textOfPowers_X2_count : GoodIn wsX1_textOfPowers (wsV RX1 45 RX2 yX2_count wsX2_count) := goodIn_app (goodIn_r _ [12, 13, 14, 7] rfl rfl) ggX1_textOfPowers_X2_count
theorem ggX1_textOfPowers_J4_append_cf468 : GoodIn wsX1_textOfPowers wsJ4_append_cf468 := fun w h => ⟨List.mem_cons_of_mem _ (List.mem_append_left _ (List.mem_append_left _ (List.mem_append_left _ (List.mem_append_left _ (List.mem_append_right _ h))))), zq_J4_append_cf468 w h⟩
set_option maxRecDepth 20000 in
theorem gX1_textOfPowers_J4_append_cf468 : GoodIn wsX1_textOfPowers (wsV RX1 65 RJ4 yJ4_append_cf468 wsJ4_append_cf468) := goodIn_app (goodIn_r _ [15, 16, 17, 3] rfl rfl) ggX1_textOfPowers_J4_append_cf468
theorem ggX1_textOfPowers_X2_primeAt : GoodIn wsX1_textOfPowers wsX2_primeAt := fun w h => ⟨List.mem_cons_of_mem _ (List.mem_append_left _ (List.mem_append_left _ (List.mem_append_left _ (List.mem_append_right _ h)))), zq_X2_primeAt w h⟩
set_option maxRecDepth 20000 in
theorem gX1_textOfPowers_X2_primeAt : GoodIn wsX1_textOfPowers (wsV RX1 52 RX2 yX2_primeAt wsX2_primeAt) := goodIn_app (goodIn_r _ [32, 33, 34, 7] rfl rfl) ggX1_textOfPowers_X2_primeAt
theorem ggX1_textOfPowers_J4_append_bf812 : GoodIn wsX1_textOfPowers wsJ4_append_bf812 := fun w h => ⟨List.mem_cons_of_mem _ (List.mem_append_left _ (List.mem_append_left _ (List.mem_append_right _ h))), zq_J4_append_bf812 w h⟩
set_option maxRecDepth 20000 in
theorem gX1_textOfPowers_J4_append_bf812 : GoodIn wsX1_textOfPowers (wsV RX1 69 RJ4 yJ4_append_bf812 wsJ4_append_bf812) := goodIn_app (goodIn_r _ [35, 36, 37, 3] rfl rfl) ggX1_textOfPowers_J4_append_bf812
theorem ggX1_textOfPowers_X2_timesAt : GoodIn wsX1_textOfPowers wsX2_timesAt := fun w h => ⟨List.mem_cons_of_mem _ (List.mem_append_left _ (List.mem_append_right _ h)), zq_X2_timesAt w h⟩
set_option maxRecDepth 20000 in
theorem gX1_textOfPowers_X2_timesAt : GoodIn wsX1_textOfPowers (wsV RX1 49 RX2 yX2_timesAt wsX2_timesAt) := goodIn_app (goodIn_r _ [40, 41, 42, 7] rfl rfl) ggX1_textOfPowers_X2_timesAt
theorem ggX1_textOfPowers_J4_toString_0e30d : GoodIn wsX1_textOfPowers wsJ4_toString_0e30d := fun w h => ⟨List.mem_cons_of_mem _ (List.mem_append_right _ h), zq_J4_toString_0e30d w h⟩
set_option maxRecDepth 20000 in
theorem gX1_textOfPowers_J4_toString_0e30d : GoodIn wsX1_textOfPowers (wsV RX1 72 RJ4 yJ4_toString_0e30d wsJ4_toString_0e30d) := goodIn_app (goodIn_r _ [43, 44, 45, 3] rfl rfl) ggX1_textOfPowers_J4_toString_0e30d
theorem qdX1_textOfPowers_0_24 : dcAll cX1_textOfPowers [(0, .aload_n 0, 1), (1, .getfield 12, 3), (4, .iload_n 1, 1), (5, .invokevirtual 22, 3), (8, .new 62, 3), (11, .dup, 1), (12, .invokespecial 64, 3), (15, .astore_n 2, 1), (16, .iconst 0, 1), (17, .istore_n 3, 1), (18, .iload_n 3, 1), (19, .aload_n 0, 1), (20, .getfield 12, 3), (23, .invokevirtual 45, 3), (26, .if_icmp .ge 49, 3), (29, .iload_n 3, 1), (30, .ifCond .le 10, 3), (33, .aload_n 2, 1), (34, .bipush 32, 2), (36, .invokevirtual 65, 3), (39, .pop, 1), (40, .aload_n 2, 1), (41, .aload_n 0, 1), (42, .getfield 12, 3)] := dcAll_of (by decide +kernel)
theorem dX1_textOfPowers_0 : decode cX1_textOfPowers 0 = .ok (.aload_n 0, 1) := qdX1_textOfPowers_0_24.1
theorem dX1_textOfPowers_1 : decode cX1_textOfPowers 1 = .ok (.getfield 12, 3) := qdX1_textOfPowers_0_24.2.1
theorem dX1_textOfPowers_4 : decode cX1_textOfPowers 4 = .ok (.iload_n 1, 1) := qdX1_textOfPowers_0_24.2.2.1
theorem dX1_textOfPowers_5 : decode cX1_textOfPowers 5 = .ok (.invokevirtual 22, 3) := qdX1_textOfPowers_0_24.2.2.2.1
theorem dX1_textOfPowers_8 : decode cX1_textOfPowers 8 = .ok (.new 62, 3) := qdX1_textOfPowers_0_24.2.2.2.2.1
theorem dX1_textOfPowers_11 : decode cX1_textOfPowers 11 = .ok (.dup, 1) := qdX1_textOfPowers_0_24.2.2.2.2.2.1
theorem dX1_textOfPowers_12 : decode cX1_textOfPowers 12 = .ok (.invokespecial 64, 3) := qdX1_textOfPowers_0_24.2.2.2.2.2.2.1
theorem dX1_textOfPowers_15 : decode cX1_textOfPowers 15 = .ok (.astore_n 2, 1) := qdX1_textOfPowers_0_24.2.2.2.2.2.2.2.1
theorem dX1_textOfPowers_16 : decode cX1_textOfPowers 16 = .ok (.iconst 0, 1) := qdX1_textOfPowers_0_24.2.2.2.2.2.2.2.2.1
theorem dX1_textOfPowers_17 : decode cX1_textOfPowers 17 = .ok (.istore_n 3, 1) := qdX1_textOfPowers_0_24.2.2.2.2.2.2.2.2.2.1
theorem dX1_textOfPowers_18 : decode cX1_textOfPowers 18 = .ok (.iload_n 3, 1) := qdX1_textOfPowers_0_24.2.2.2.2.2.2.2.2.2.2.1
theorem dX1_textOfPowers_19 : decode cX1_textOfPowers 19 = .ok (.aload_n 0, 1) := qdX1_textOfPowers_0_24.2.2.2.2.2.2.2.2.2.2.2.1
theorem dX1_textOfPowers_20 : decode cX1_textOfPowers 20 = .ok (.getfield 12, 3) := qdX1_textOfPowers_0_24.2.2.2.2.2.2.2.2.2.2.2.2.1
theorem dX1_textOfPowers_23 : decode cX1_textOfPowers 23 = .ok (.invokevirtual 45, 3) := qdX1_textOfPowers_0_24.2.2.2.2.2.2.2.2.2.2.2.2.2.1
theorem dX1_textOfPowers_26 : decode cX1_textOfPowers 26 = .ok (.if_icmp .ge 49, 3) := qdX1_textOfPowers_0_24.2.2.2.2.2.2.2.2.2.2.2.2.2.2.1
theorem dX1_textOfPowers_29 : decode cX1_textOfPowers 29 = .ok (.iload_n 3, 1) := qdX1_textOfPowers_0_24.2.2.2.2.2.2.2.2.2.2.2.2.2.2.2.1
theorem dX1_textOfPowers_30 : decode cX1_textOfPowers 30 = .ok (.ifCond .le 10, 3) := qdX1_textOfPowers_0_24.2.2.2.2.2.2.2.2.2.2.2.2.2.2.2.2.1
theorem dX1_textOfPowers_33 : decode cX1_textOfPowers 33 = .ok (.aload_n 2, 1) := qdX1_textOfPowers_0_24.2.2.2.2.2.2.2.2.2.2.2.2.2.2.2.2.2.1
theorem dX1_textOfPowers_34 : decode cX1_textOfPowers 34 = .ok (.bipush 32, 2) := qdX1_textOfPowers_0_24.2.2.2.2.2.2.2.2.2.2.2.2.2.2.2.2.2.2.1
theorem dX1_textOfPowers_36 : decode cX1_textOfPowers 36 = .ok (.invokevirtual 65, 3) := qdX1_textOfPowers_0_24.2.2.2.2.2.2.2.2.2.2.2.2.2.2.2.2.2.2.2.1
theorem dX1_textOfPowers_39 : decode cX1_textOfPowers 39 = .ok (.pop, 1) := qdX1_textOfPowers_0_24.2.2.2.2.2.2.2.2.2.2.2.2.2.2.2.2.2.2.2.2.1
theorem dX1_textOfPowers_40 : decode cX1_textOfPowers 40 = .ok (.aload_n 2, 1) := qdX1_textOfPowers_0_24.2.2.2.2.2.2.2.2.2.2.2.2.2.2.2.2.2.2.2.2.2.1
theorem dX1_textOfPowers_41 : decode cX1_textOfPowers 41 = .ok (.aload_n 0, 1) := qdX1_textOfPowers_0_24.2.2.2.2.2.2.2.2.2.2.2.2.2.2.2.2.2.2.2.2.2.2.1
theorem dX1_textOfPowers_42 : decode cX1_textOfPowers 42 = .ok (.getfield 12, 3) := qdX1_textOfPowers_0_24.2.2.2.2.2.2.2.2.2.2.2.2.2.2.2.2.2.2.2.2.2.2.2.1
theorem qdX1_textOfPowers_45_16 : dcAll cX1_textOfPowers [(45, .iload_n 3, 1), (46, .invokevirtual 52, 3), (49, .invokevirtual 69, 3), (52, .bipush 94, 2), (54, .invokevirtual 65, 3), (57, .aload_n 0, 1), (58, .getfield 12, 3), (61, .iload_n 3, 1), (62, .invokevirtual 49, 3), (65, .invokevirtual 69, 3), (68, .pop, 1), (69, .iinc 3 1, 3), (72, .goto (-54), 3), (75, .aload_n 2, 1), (76, .invokevirtual 72, 3), (79, .areturn, 1)] := dcAll_of (by decide +kernel)
theorem dX1_textOfPowers_45 : decode cX1_textOfPowers 45 = .ok (.iload_n 3, 1) := qdX1_textOfPowers_45_16.1
theorem dX1_textOfPowers_46 : decode cX1_textOfPowers 46 = .ok (.invokevirtual 52, 3) := qdX1_textOfPowers_45_16.2.1
theorem dX1_textOfPowers_49 : decode cX1_textOfPowers 49 = .ok (.invokevirtual 69, 3) := qdX1_textOfPowers_45_16.2.2.1
theorem dX1_textOfPowers_52 : decode cX1_textOfPowers 52 = .ok (.bipush 94, 2) := qdX1_textOfPowers_45_16.2.2.2.1
theorem dX1_textOfPowers_54 : decode cX1_textOfPowers 54 = .ok (.invokevirtual 65, 3) := qdX1_textOfPowers_45_16.2.2.2.2.1
theorem dX1_textOfPowers_57 : decode cX1_textOfPowers 57 = .ok (.aload_n 0, 1) := qdX1_textOfPowers_45_16.2.2.2.2.2.1
theorem dX1_textOfPowers_58 : decode cX1_textOfPowers 58 = .ok (.getfield 12, 3) := qdX1_textOfPowers_45_16.2.2.2.2.2.2.1
theorem dX1_textOfPowers_61 : decode cX1_textOfPowers 61 = .ok (.iload_n 3, 1) := qdX1_textOfPowers_45_16.2.2.2.2.2.2.2.1
theorem dX1_textOfPowers_62 : decode cX1_textOfPowers 62 = .ok (.invokevirtual 49, 3) := qdX1_textOfPowers_45_16.2.2.2.2.2.2.2.2.1
theorem dX1_textOfPowers_65 : decode cX1_textOfPowers 65 = .ok (.invokevirtual 69, 3) := qdX1_textOfPowers_45_16.2.2.2.2.2.2.2.2.2.1
theorem dX1_textOfPowers_68 : decode cX1_textOfPowers 68 = .ok (.pop, 1) := qdX1_textOfPowers_45_16.2.2.2.2.2.2.2.2.2.2.1
theorem dX1_textOfPowers_69 : decode cX1_textOfPowers 69 = .ok (.iinc 3 1, 3) := qdX1_textOfPowers_45_16.2.2.2.2.2.2.2.2.2.2.2.1
theorem dX1_textOfPowers_72 : decode cX1_textOfPowers 72 = .ok (.goto (-54), 3) := qdX1_textOfPowers_45_16.2.2.2.2.2.2.2.2.2.2.2.2.1
theorem dX1_textOfPowers_75 : decode cX1_textOfPowers 75 = .ok (.aload_n 2, 1) := qdX1_textOfPowers_45_16.2.2.2.2.2.2.2.2.2.2.2.2.2.1
theorem dX1_textOfPowers_76 : decode cX1_textOfPowers 76 = .ok (.invokevirtual 72, 3) := qdX1_textOfPowers_45_16.2.2.2.2.2.2.2.2.2.2.2.2.2.2.1
theorem dX1_textOfPowers_79 : decode cX1_textOfPowers 79 = .ok (.areturn, 1) := qdX1_textOfPowers_45_16.2.2.2.2.2.2.2.2.2.2.2.2.2.2.2.1
theorem qdX1_commonOf_0_23 : dcAll cX1_commonOf [(0, .iload_n 0, 1), (1, .istore_n 2, 1), (2, .iload_n 1, 1), (3, .istore_n 3, 1), (4, .iconst 0, 1), (5, .istore 4, 2), (7, .iload 4, 2), (9, .bipush 100, 2), (11, .if_icmp .ge 23, 3), (14, .iload_n 3, 1), (15, .ifCond .eq 19, 3), (18, .iload_n 2, 1), (19, .iload_n 3, 1), (20, .irem, 1), (21, .istore 5, 2), (23, .iload_n 3, 1), (24, .istore_n 2, 1), (25, .iload 5, 2), (27, .istore_n 3, 1), (28, .iinc 4 1, 3), (31, .goto (-24), 3), (34, .iload_n 2, 1), (35, .ireturn, 1)] := dcAll_of (by decide +kernel)
theorem dX1_commonOf_0 : decode cX1_commonOf 0 = .ok (.iload_n 0, 1) := qdX1_commonOf_0_23.1
theorem dX1_commonOf_1 : decode cX1_commonOf 1 = .ok (.istore_n 2, 1) := qdX1_commonOf_0_23.2.1
theorem dX1_commonOf_2 : decode cX1_commonOf 2 = .ok (.iload_n 1, 1) := qdX1_commonOf_0_23.2.2.1
theorem dX1_commonOf_3 : decode cX1_commonOf 3 = .ok (.istore_n 3, 1) := qdX1_commonOf_0_23.2.2.2.1
theorem dX1_commonOf_4 : decode cX1_commonOf 4 = .ok (.iconst 0, 1) := qdX1_commonOf_0_23.2.2.2.2.1
theorem dX1_commonOf_5 : decode cX1_commonOf 5 = .ok (.istore 4, 2) := qdX1_commonOf_0_23.2.2.2.2.2.1
theorem dX1_commonOf_7 : decode cX1_commonOf 7 = .ok (.iload 4, 2) := qdX1_commonOf_0_23.2.2.2.2.2.2.1
theorem dX1_commonOf_9 : decode cX1_commonOf 9 = .ok (.bipush 100, 2) := qdX1_commonOf_0_23.2.2.2.2.2.2.2.1
theorem dX1_commonOf_11 : decode cX1_commonOf 11 = .ok (.if_icmp .ge 23, 3) := qdX1_commonOf_0_23.2.2.2.2.2.2.2.2.1
theorem dX1_commonOf_14 : decode cX1_commonOf 14 = .ok (.iload_n 3, 1) := qdX1_commonOf_0_23.2.2.2.2.2.2.2.2.2.1
theorem dX1_commonOf_15 : decode cX1_commonOf 15 = .ok (.ifCond .eq 19, 3) := qdX1_commonOf_0_23.2.2.2.2.2.2.2.2.2.2.1
theorem dX1_commonOf_18 : decode cX1_commonOf 18 = .ok (.iload_n 2, 1) := qdX1_commonOf_0_23.2.2.2.2.2.2.2.2.2.2.2.1
theorem dX1_commonOf_19 : decode cX1_commonOf 19 = .ok (.iload_n 3, 1) := qdX1_commonOf_0_23.2.2.2.2.2.2.2.2.2.2.2.2.1
theorem dX1_commonOf_20 : decode cX1_commonOf 20 = .ok (.irem, 1) := qdX1_commonOf_0_23.2.2.2.2.2.2.2.2.2.2.2.2.2.1
theorem dX1_commonOf_21 : decode cX1_commonOf 21 = .ok (.istore 5, 2) := qdX1_commonOf_0_23.2.2.2.2.2.2.2.2.2.2.2.2.2.2.1
theorem dX1_commonOf_23 : decode cX1_commonOf 23 = .ok (.iload_n 3, 1) := qdX1_commonOf_0_23.2.2.2.2.2.2.2.2.2.2.2.2.2.2.2.1
theorem dX1_commonOf_24 : decode cX1_commonOf 24 = .ok (.istore_n 2, 1) := qdX1_commonOf_0_23.2.2.2.2.2.2.2.2.2.2.2.2.2.2.2.2.1
theorem dX1_commonOf_25 : decode cX1_commonOf 25 = .ok (.iload 5, 2) := qdX1_commonOf_0_23.2.2.2.2.2.2.2.2.2.2.2.2.2.2.2.2.2.1
theorem dX1_commonOf_27 : decode cX1_commonOf 27 = .ok (.istore_n 3, 1) := qdX1_commonOf_0_23.2.2.2.2.2.2.2.2.2.2.2.2.2.2.2.2.2.2.1
theorem dX1_commonOf_28 : decode cX1_commonOf 28 = .ok (.iinc 4 1, 3) := qdX1_commonOf_0_23.2.2.2.2.2.2.2.2.2.2.2.2.2.2.2.2.2.2.2.1
theorem dX1_commonOf_31 : decode cX1_commonOf 31 = .ok (.goto (-24), 3) := qdX1_commonOf_0_23.2.2.2.2.2.2.2.2.2.2.2.2.2.2.2.2.2.2.2.2.1
theorem dX1_commonOf_34 : decode cX1_commonOf 34 = .ok (.iload_n 2, 1) := qdX1_commonOf_0_23.2.2.2.2.2.2.2.2.2.2.2.2.2.2.2.2.2.2.2.2.2.1
theorem dX1_commonOf_35 : decode cX1_commonOf 35 = .ok (.ireturn, 1) := qdX1_commonOf_0_23.2.2.2.2.2.2.2.2.2.2.2.2.2.2.2.2.2.2.2.2.2.2.1
theorem qdX1_leastOf_0_21 : dcAll cX1_leastOf [(0, .iconst 1, 1), (1, .istore_n 2, 1), (2, .iload_n 2, 1), (3, .iload_n 1, 1), (4, .if_icmp .gt 21, 3), (7, .iload_n 0, 1), (8, .iload_n 2, 1), (9, .imul, 1), (10, .iload_n 1, 1), (11, .irem, 1), (12, .ifCond .ne 7, 3), (15, .iload_n 0, 1), (16, .iload_n 2, 1), (17, .imul, 1), (18, .ireturn, 1), (19, .iinc 2 1, 3), (22, .goto (-20), 3), (25, .iload_n 0, 1), (26, .iload_n 1, 1), (27, .imul, 1), (28, .ireturn, 1)] := dcAll_of (by decide +kernel)
theorem dX1_leastOf_0 : decode cX1_leastOf 0 = .ok (.iconst 1, 1) := qdX1_leastOf_0_21.1
theorem dX1_leastOf_1 : decode cX1_leastOf 1 = .ok (.istore_n 2, 1) := qdX1_leastOf_0_21.2.1
theorem dX1_leastOf_2 : decode cX1_leastOf 2 = .ok (.iload_n 2, 1) := qdX1_leastOf_0_21.2.2.1
theorem dX1_leastOf_3 : decode cX1_leastOf 3 = .ok (.iload_n 1, 1) := qdX1_leastOf_0_21.2.2.2.1
theorem dX1_leastOf_4 : decode cX1_leastOf 4 = .ok (.if_icmp .gt 21, 3) := qdX1_leastOf_0_21.2.2.2.2.1
theorem dX1_leastOf_7 : decode cX1_leastOf 7 = .ok (.iload_n 0, 1) := qdX1_leastOf_0_21.2.2.2.2.2.1
theorem dX1_leastOf_8 : decode cX1_leastOf 8 = .ok (.iload_n 2, 1) := qdX1_leastOf_0_21.2.2.2.2.2.2.1
theorem dX1_leastOf_9 : decode cX1_leastOf 9 = .ok (.imul, 1) := qdX1_leastOf_0_21.2.2.2.2.2.2.2.1
theorem dX1_leastOf_10 : decode cX1_leastOf 10 = .ok (.iload_n 1, 1) := qdX1_leastOf_0_21.2.2.2.2.2.2.2.2.1
theorem dX1_leastOf_11 : decode cX1_leastOf 11 = .ok (.irem, 1) := qdX1_leastOf_0_21.2.2.2.2.2.2.2.2.2.1
theorem dX1_leastOf_12 : decode cX1_leastOf 12 = .ok (.ifCond .ne 7, 3) := qdX1_leastOf_0_21.2.2.2.2.2.2.2.2.2.2.1
theorem dX1_leastOf_15 : decode cX1_leastOf 15 = .ok (.iload_n 0, 1) := qdX1_leastOf_0_21.2.2.2.2.2.2.2.2.2.2.2.1
theorem dX1_leastOf_16 : decode cX1_leastOf 16 = .ok (.iload_n 2, 1) := qdX1_leastOf_0_21.2.2.2.2.2.2.2.2.2.2.2.2.1
theorem dX1_leastOf_17 : decode cX1_leastOf 17 = .ok (.imul, 1) := qdX1_leastOf_0_21.2.2.2.2.2.2.2.2.2.2.2.2.2.1
theorem dX1_leastOf_18 : decode cX1_leastOf 18 = .ok (.ireturn, 1) := qdX1_leastOf_0_21.2.2.2.2.2.2.2.2.2.2.2.2.2.2.1
theorem dX1_leastOf_19 : decode cX1_leastOf 19 = .ok (.iinc 2 1, 3) := qdX1_leastOf_0_21.2.2.2.2.2.2.2.2.2.2.2.2.2.2.2.1
theorem dX1_leastOf_22 : decode cX1_leastOf 22 = .ok (.goto (-20), 3) := qdX1_leastOf_0_21.2.2.2.2.2.2.2.2.2.2.2.2.2.2.2.2.1
theorem dX1_leastOf_25 : decode cX1_leastOf 25 = .ok (.iload_n 0, 1) := qdX1_leastOf_0_21.2.2.2.2.2.2.2.2.2.2.2.2.2.2.2.2.2.1
theorem dX1_leastOf_26 : decode cX1_leastOf 26 = .ok (.iload_n 1, 1) := qdX1_leastOf_0_21.2.2.2.2.2.2.2.2.2.2.2.2.2.2.2.2.2.2.1
theorem dX1_leastOf_27 : decode cX1_leastOf 27 = .ok (.imul, 1) := qdX1_leastOf_0_21.2.2.2.2.2.2.2.2.2.2.2.2.2.2.2.2.2.2.2.1
theorem dX1_leastOf_28 : decode cX1_leastOf 28 = .ok (.ireturn, 1) := qdX1_leastOf_0_21.2.2.2.2.2.2.2.2.2.2.2.2.2.2.2.2.2.2.2.2.1
theorem qdX2_init_0_11 : dcAll cX2_init [(0, .aload_n 0, 1), (1, .invokespecial 1, 3), (4, .aload_n 0, 1), (5, .iconst 4, 1), (6, .newarray .int, 2), (8, .putfield 9, 3), (11, .aload_n 0, 1), (12, .iconst 4, 1), (13, .newarray .int, 2), (15, .putfield 13, 3), (18, .return_, 1)] := dcAll_of (by decide +kernel)
theorem dX2_init_0 : decode cX2_init 0 = .ok (.aload_n 0, 1) := qdX2_init_0_11.1
theorem dX2_init_1 : decode cX2_init 1 = .ok (.invokespecial 1, 3) := qdX2_init_0_11.2.1
theorem dX2_init_4 : decode cX2_init 4 = .ok (.aload_n 0, 1) := qdX2_init_0_11.2.2.1
theorem dX2_init_5 : decode cX2_init 5 = .ok (.iconst 4, 1) := qdX2_init_0_11.2.2.2.1
theorem dX2_init_6 : decode cX2_init 6 = .ok (.newarray .int, 2) := qdX2_init_0_11.2.2.2.2.1
theorem dX2_init_8 : decode cX2_init 8 = .ok (.putfield 9, 3) := qdX2_init_0_11.2.2.2.2.2.1
theorem dX2_init_11 : decode cX2_init 11 = .ok (.aload_n 0, 1) := qdX2_init_0_11.2.2.2.2.2.2.1
theorem dX2_init_12 : decode cX2_init 12 = .ok (.iconst 4, 1) := qdX2_init_0_11.2.2.2.2.2.2.2.1
theorem dX2_init_13 : decode cX2_init 13 = .ok (.newarray .int, 2) := qdX2_init_0_11.2.2.2.2.2.2.2.2.1
theorem dX2_init_15 : decode cX2_init 15 = .ok (.putfield 13, 3) := qdX2_init_0_11.2.2.2.2.2.2.2.2.2.1
theorem dX2_init_18 : decode cX2_init 18 = .ok (.return_, 1) := qdX2_init_0_11.2.2.2.2.2.2.2.2.2.2.1
theorem qdX2_lay_0_24 : dcAll cX2_lay [(0, .aload_n 0, 1), (1, .iconst 0, 1), (2, .putfield 16, 3), (5, .iload_n 1, 1), (6, .istore_n 2, 1), (7, .iconst 2, 1), (8, .istore_n 3, 1), (9, .iload_n 3, 1), (10, .iload_n 2, 1), (11, .if_icmp .gt 86, 3), (14, .iconst 0, 1), (15, .istore 4, 2), (17, .iload 4, 2), (19, .bipush 9, 2), (21, .if_icmp .ge 19, 3), (24, .iload_n 2, 1), (25, .iload_n 3, 1), (26, .irem, 1), (27, .ifCond .ne 13, 3), (30, .iload_n 2, 1), (31, .iload_n 3, 1), (32, .idiv, 1), (33, .istore_n 2, 1), (34, .iinc 4 1, 3)] := dcAll_of (by decide +kernel)
theorem dX2_lay_0 : decode cX2_lay 0 = .ok (.aload_n 0, 1) := qdX2_lay_0_24.1
theorem dX2_lay_1 : decode cX2_lay 1 = .ok (.iconst 0, 1) := qdX2_lay_0_24.2.1
theorem dX2_lay_2 : decode cX2_lay 2 = .ok (.putfield 16, 3) := qdX2_lay_0_24.2.2.1
theorem dX2_lay_5 : decode cX2_lay 5 = .ok (.iload_n 1, 1) := qdX2_lay_0_24.2.2.2.1
theorem dX2_lay_6 : decode cX2_lay 6 = .ok (.istore_n 2, 1) := qdX2_lay_0_24.2.2.2.2.1
theorem dX2_lay_7 : decode cX2_lay 7 = .ok (.iconst 2, 1) := qdX2_lay_0_24.2.2.2.2.2.1
theorem dX2_lay_8 : decode cX2_lay 8 = .ok (.istore_n 3, 1) := qdX2_lay_0_24.2.2.2.2.2.2.1
theorem dX2_lay_9 : decode cX2_lay 9 = .ok (.iload_n 3, 1) := qdX2_lay_0_24.2.2.2.2.2.2.2.1
theorem dX2_lay_10 : decode cX2_lay 10 = .ok (.iload_n 2, 1) := qdX2_lay_0_24.2.2.2.2.2.2.2.2.1
theorem dX2_lay_11 : decode cX2_lay 11 = .ok (.if_icmp .gt 86, 3) := qdX2_lay_0_24.2.2.2.2.2.2.2.2.2.1
theorem dX2_lay_14 : decode cX2_lay 14 = .ok (.iconst 0, 1) := qdX2_lay_0_24.2.2.2.2.2.2.2.2.2.2.1
theorem dX2_lay_15 : decode cX2_lay 15 = .ok (.istore 4, 2) := qdX2_lay_0_24.2.2.2.2.2.2.2.2.2.2.2.1
theorem dX2_lay_17 : decode cX2_lay 17 = .ok (.iload 4, 2) := qdX2_lay_0_24.2.2.2.2.2.2.2.2.2.2.2.2.1
theorem dX2_lay_19 : decode cX2_lay 19 = .ok (.bipush 9, 2) := qdX2_lay_0_24.2.2.2.2.2.2.2.2.2.2.2.2.2.1
theorem dX2_lay_21 : decode cX2_lay 21 = .ok (.if_icmp .ge 19, 3) := qdX2_lay_0_24.2.2.2.2.2.2.2.2.2.2.2.2.2.2.1
theorem dX2_lay_24 : decode cX2_lay 24 = .ok (.iload_n 2, 1) := qdX2_lay_0_24.2.2.2.2.2.2.2.2.2.2.2.2.2.2.2.1
theorem dX2_lay_25 : decode cX2_lay 25 = .ok (.iload_n 3, 1) := qdX2_lay_0_24.2.2.2.2.2.2.2.2.2.2.2.2.2.2.2.2.1
theorem dX2_lay_26 : decode cX2_lay 26 = .ok (.irem, 1) := qdX2_lay_0_24.2.2.2.2.2.2.2.2.2.2.2.2.2.2.2.2.2.1
theorem dX2_lay_27 : decode cX2_lay 27 = .ok (.ifCond .ne 13, 3) := qdX2_lay_0_24.2.2.2.2.2.2.2.2.2.2.2.2.2.2.2.2.2.2.1
theorem dX2_lay_30 : decode cX2_lay 30 = .ok (.iload_n 2, 1) := qdX2_lay_0_24.2.2.2.2.2.2.2.2.2.2.2.2.2.2.2.2.2.2.2.1
theorem dX2_lay_31 : decode cX2_lay 31 = .ok (.iload_n 3, 1) := qdX2_lay_0_24.2.2.2.2.2.2.2.2.2.2.2.2.2.2.2.2.2.2.2.2.1
theorem dX2_lay_32 : decode cX2_lay 32 = .ok (.idiv, 1) := qdX2_lay_0_24.2.2.2.2.2.2.2.2.2.2.2.2.2.2.2.2.2.2.2.2.2.1
theorem dX2_lay_33 : decode cX2_lay 33 = .ok (.istore_n 2, 1) := qdX2_lay_0_24.2.2.2.2.2.2.2.2.2.2.2.2.2.2.2.2.2.2.2.2.2.2.1
theorem dX2_lay_34 : decode cX2_lay 34 = .ok (.iinc 4 1, 3) := qdX2_lay_0_24.2.2.2.2.2.2.2.2.2.2.2.2.2.2.2.2.2.2.2.2.2.2.2.1
theorem qdX2_lay_37_24 : dcAll cX2_lay [(37, .goto (-20), 3), (40, .iload 4, 2), (42, .ifCond .le 49, 3), (45, .aload_n 0, 1), (46, .getfield 16, 3), (49, .ifCond .lt 42, 3), (52, .aload_n 0, 1), (53, .getfield 16, 3), (56, .iconst 4, 1), (57, .if_icmp .ge 34, 3), (60, .aload_n 0, 1), (61, .getfield 9, 3), (64, .aload_n 0, 1), (65, .getfield 16, 3), (68, .iload_n 3, 1), (69, .iastore, 1), (70, .aload_n 0, 1), (71, .getfield 13, 3), (74, .aload_n 0, 1), (75, .getfield 16, 3), (78, .iload 4, 2), (80, .iastore, 1), (81, .aload_n 0, 1), (82, .dup, 1)] := dcAll_of (by decide +kernel)
theorem dX2_lay_37 : decode cX2_lay 37 = .ok (.goto (-20), 3) := qdX2_lay_37_24.1
theorem dX2_lay_40 : decode cX2_lay 40 = .ok (.iload 4, 2) := qdX2_lay_37_24.2.1
theorem dX2_lay_42 : decode cX2_lay 42 = .ok (.ifCond .le 49, 3) := qdX2_lay_37_24.2.2.1
theorem dX2_lay_45 : decode cX2_lay 45 = .ok (.aload_n 0, 1) := qdX2_lay_37_24.2.2.2.1
theorem dX2_lay_46 : decode cX2_lay 46 = .ok (.getfield 16, 3) := qdX2_lay_37_24.2.2.2.2.1
theorem dX2_lay_49 : decode cX2_lay 49 = .ok (.ifCond .lt 42, 3) := qdX2_lay_37_24.2.2.2.2.2.1
theorem dX2_lay_52 : decode cX2_lay 52 = .ok (.aload_n 0, 1) := qdX2_lay_37_24.2.2.2.2.2.2.1
theorem dX2_lay_53 : decode cX2_lay 53 = .ok (.getfield 16, 3) := qdX2_lay_37_24.2.2.2.2.2.2.2.1
theorem dX2_lay_56 : decode cX2_lay 56 = .ok (.iconst 4, 1) := qdX2_lay_37_24.2.2.2.2.2.2.2.2.1
theorem dX2_lay_57 : decode cX2_lay 57 = .ok (.if_icmp .ge 34, 3) := qdX2_lay_37_24.2.2.2.2.2.2.2.2.2.1
theorem dX2_lay_60 : decode cX2_lay 60 = .ok (.aload_n 0, 1) := qdX2_lay_37_24.2.2.2.2.2.2.2.2.2.2.1
theorem dX2_lay_61 : decode cX2_lay 61 = .ok (.getfield 9, 3) := qdX2_lay_37_24.2.2.2.2.2.2.2.2.2.2.2.1
theorem dX2_lay_64 : decode cX2_lay 64 = .ok (.aload_n 0, 1) := qdX2_lay_37_24.2.2.2.2.2.2.2.2.2.2.2.2.1
theorem dX2_lay_65 : decode cX2_lay 65 = .ok (.getfield 16, 3) := qdX2_lay_37_24.2.2.2.2.2.2.2.2.2.2.2.2.2.1
theorem dX2_lay_68 : decode cX2_lay 68 = .ok (.iload_n 3, 1) := qdX2_lay_37_24.2.2.2.2.2.2.2.2.2.2.2.2.2.2.1
theorem dX2_lay_69 : decode cX2_lay 69 = .ok (.iastore, 1) := qdX2_lay_37_24.2.2.2.2.2.2.2.2.2.2.2.2.2.2.2.1
theorem dX2_lay_70 : decode cX2_lay 70 = .ok (.aload_n 0, 1) := qdX2_lay_37_24.2.2.2.2.2.2.2.2.2.2.2.2.2.2.2.2.1
theorem dX2_lay_71 : decode cX2_lay 71 = .ok (.getfield 13, 3) := qdX2_lay_37_24.2.2.2.2.2.2.2.2.2.2.2.2.2.2.2.2.2.1
theorem dX2_lay_74 : decode cX2_lay 74 = .ok (.aload_n 0, 1) := qdX2_lay_37_24.2.2.2.2.2.2.2.2.2.2.2.2.2.2.2.2.2.2.1
theorem dX2_lay_75 : decode cX2_lay 75 = .ok (.getfield 16, 3) := qdX2_lay_37_24.2.2.2.2.2.2.2.2.2.2.2.2.2.2.2.2.2.2.2.1
theorem dX2_lay_78 : decode cX2_lay 78 = .ok (.iload 4, 2) := qdX2_lay_37_24.2.2.2.2.2.2.2.2.2.2.2.2.2.2.2.2.2.2.2.2.1
theorem dX2_lay_80 : decode cX2_lay 80 = .ok (.iastore, 1) := qdX2_lay_37_24.2.2.2.2.2.2.2.2.2.2.2.2.2.2.2.2.2.2.2.2.2.1
theorem dX2_lay_81 : decode cX2_lay 81 = .ok (.aload_n 0, 1) := qdX2_lay_37_24.2.2.2.2.2.2.2.2.2.2.2.2.2.2.2.2.2.2.2.2.2.2.1
theorem dX2_lay_82 : decode cX2_lay 82 = .ok (.dup, 1) := qdX2_lay_37_24.2.2.2.2.2.2.2.2.2.2.2.2.2.2.2.2.2.2.2.2.2.2.2.1
theorem qdX2_lay_83_7 : dcAll cX2_lay [(83, .getfield 16, 3), (86, .iconst 1, 1), (87, .iadd, 1), (88, .putfield 16, 3), (91, .iinc 3 1, 3), (94, .goto (-85), 3), (97, .return_, 1)] := dcAll_of (by decide +kernel)
theorem dX2_lay_83 : decode cX2_lay 83 = .ok (.getfield 16, 3) := qdX2_lay_83_7.1
theorem dX2_lay_86 : decode cX2_lay 86 = .ok (.iconst 1, 1) := qdX2_lay_83_7.2.1
theorem dX2_lay_87 : decode cX2_lay 87 = .ok (.iadd, 1) := qdX2_lay_83_7.2.2.1
theorem dX2_lay_88 : decode cX2_lay 88 = .ok (.putfield 16, 3) := qdX2_lay_83_7.2.2.2.1
theorem dX2_lay_91 : decode cX2_lay 91 = .ok (.iinc 3 1, 3) := qdX2_lay_83_7.2.2.2.2.1
theorem dX2_lay_94 : decode cX2_lay 94 = .ok (.goto (-85), 3) := qdX2_lay_83_7.2.2.2.2.2.1
theorem dX2_lay_97 : decode cX2_lay 97 = .ok (.return_, 1) := qdX2_lay_83_7.2.2.2.2.2.2.1
theorem qdX2_count_0_3 : dcAll cX2_count [(0, .aload_n 0, 1), (1, .getfield 16, 3), (4, .ireturn, 1)] := dcAll_of (by decide +kernel)
theorem dX2_count_0 : decode cX2_count 0 = .ok (.aload_n 0, 1) := qdX2_count_0_3.1
theorem dX2_count_1 : decode cX2_count 1 = .ok (.getfield 16, 3) := qdX2_count_0_3.2.1
theorem dX2_count_4 : decode cX2_count 4 = .ok (.ireturn, 1) := qdX2_count_0_3.2.2.1
theorem qdX2_primeAt_0_12 : dcAll cX2_primeAt [(0, .iload_n 1, 1), (1, .ifCond .lt 17, 3), (4, .iload_n 1, 1), (5, .iconst 4, 1), (6, .if_icmp .ge 12, 3), (9, .aload_n 0, 1), (10, .getfield 9, 3), (13, .iload_n 1, 1), (14, .iaload, 1), (15, .goto 4, 3), (18, .iconst 0, 1), (19, .ireturn, 1)] := dcAll_of (by decide +kernel)
theorem dX2_primeAt_0 : decode cX2_primeAt 0 = .ok (.iload_n 1, 1) := qdX2_primeAt_0_12.1
theorem dX2_primeAt_1 : decode cX2_primeAt 1 = .ok (.ifCond .lt 17, 3) := qdX2_primeAt_0_12.2.1
theorem dX2_primeAt_4 : decode cX2_primeAt 4 = .ok (.iload_n 1, 1) := qdX2_primeAt_0_12.2.2.1
theorem dX2_primeAt_5 : decode cX2_primeAt 5 = .ok (.iconst 4, 1) := qdX2_primeAt_0_12.2.2.2.1
theorem dX2_primeAt_6 : decode cX2_primeAt 6 = .ok (.if_icmp .ge 12, 3) := qdX2_primeAt_0_12.2.2.2.2.1
theorem dX2_primeAt_9 : decode cX2_primeAt 9 = .ok (.aload_n 0, 1) := qdX2_primeAt_0_12.2.2.2.2.2.1
theorem dX2_primeAt_10 : decode cX2_primeAt 10 = .ok (.getfield 9, 3) := qdX2_primeAt_0_12.2.2.2.2.2.2.1
theorem dX2_primeAt_13 : decode cX2_primeAt 13 = .ok (.iload_n 1, 1) := qdX2_primeAt_0_12.2.2.2.2.2.2.2.1
theorem dX2_primeAt_14 : decode cX2_primeAt 14 = .ok (.iaload, 1) := qdX2_primeAt_0_12.2.2.2.2.2.2.2.2.1
theorem dX2_primeAt_15 : decode cX2_primeAt 15 = .ok (.goto 4, 3) := qdX2_primeAt_0_12.2.2.2.2.2.2.2.2.2.1
theorem dX2_primeAt_18 : decode cX2_primeAt 18 = .ok (.iconst 0, 1) := qdX2_primeAt_0_12.2.2.2.2.2.2.2.2.2.2.1
theorem dX2_primeAt_19 : decode cX2_primeAt 19 = .ok (.ireturn, 1) := qdX2_primeAt_0_12.2.2.2.2.2.2.2.2.2.2.2.1
theorem qdX2_timesAt_0_12 : dcAll cX2_timesAt [(0, .iload_n 1, 1), (1, .ifCond .lt 17, 3), (4, .iload_n 1, 1), (5, .iconst 4, 1), (6, .if_icmp .ge 12, 3), (9, .aload_n 0, 1), (10, .getfield 13, 3), (13, .iload_n 1, 1), (14, .iaload, 1), (15, .goto 4, 3), (18, .iconst 0, 1), (19, .ireturn, 1)] := dcAll_of (by decide +kernel)
theorem dX2_timesAt_0 : decode cX2_timesAt 0 = .ok (.iload_n 1, 1) := qdX2_timesAt_0_12.1
theorem dX2_timesAt_1 : decode cX2_timesAt 1 = .ok (.ifCond .lt 17, 3) := qdX2_timesAt_0_12.2.1
theorem dX2_timesAt_4 : decode cX2_timesAt 4 = .ok (.iload_n 1, 1) := qdX2_timesAt_0_12.2.2.1
theorem dX2_timesAt_5 : decode cX2_timesAt 5 = .ok (.iconst 4, 1) := qdX2_timesAt_0_12.2.2.2.1
theorem dX2_timesAt_6 : decode cX2_timesAt 6 = .ok (.if_icmp .ge 12, 3) := qdX2_timesAt_0_12.2.2.2.2.1
theorem dX2_timesAt_9 : decode cX2_timesAt 9 = .ok (.aload_n 0, 1) := qdX2_timesAt_0_12.2.2.2.2.2.1
theorem dX2_timesAt_10 : decode cX2_timesAt 10 = .ok (.getfield 13, 3) := qdX2_timesAt_0_12.2.2.2.2.2.2.1
theorem dX2_timesAt_13 : decode cX2_timesAt 13 = .ok (.iload_n 1, 1) := qdX2_timesAt_0_12.2.2.2.2.2.2.2.1
theorem dX2_timesAt_14 : decode cX2_timesAt 14 = .ok (.iaload, 1) := qdX2_timesAt_0_12.2.2.2.2.2.2.2.2.1
theorem dX2_timesAt_15 : decode cX2_timesAt 15 = .ok (.goto 4, 3) := qdX2_timesAt_0_12.2.2.2.2.2.2.2.2.2.1
theorem dX2_timesAt_18 : decode cX2_timesAt 18 = .ok (.iconst 0, 1) := qdX2_timesAt_0_12.2.2.2.2.2.2.2.2.2.2.1
theorem dX2_timesAt_19 : decode cX2_timesAt 19 = .ok (.ireturn, 1) := qdX2_timesAt_0_12.2.2.2.2.2.2.2.2.2.2.2.1
theorem ggX2_powerAt_X2_timesAt : GoodIn wsX2_powerAt wsX2_timesAt := fun w h => ⟨List.mem_cons_of_mem _ (List.mem_append_left _ (List.mem_append_right _ h)), zq_X2_timesAt w h⟩
set_option maxRecDepth 20000 in
theorem gX2_powerAt_X2_timesAt : GoodIn wsX2_powerAt (wsV RX2 20 RX2 yX2_timesAt wsX2_timesAt) := goodIn_app (goodIn_r _ [1, 2, 3, 4] rfl rfl) ggX2_powerAt_X2_timesAt
theorem ggX2_powerAt_X2_primeAt : GoodIn wsX2_powerAt wsX2_primeAt := fun w h => ⟨List.mem_cons_of_mem _ (List.mem_append_right _ h), zq_X2_primeAt w h⟩
set_option maxRecDepth 20000 in
theorem gX2_powerAt_X2_primeAt : GoodIn wsX2_powerAt (wsV RX2 24 RX2 yX2_primeAt wsX2_primeAt) := goodIn_app (goodIn_r _ [5, 6, 7, 4] rfl rfl) ggX2_powerAt_X2_primeAt
theorem qdX2_powerAt_0_19 : dcAll cX2_powerAt [(0, .iconst 1, 1), (1, .istore_n 2, 1), (2, .iconst 0, 1), (3, .istore_n 3, 1), (4, .iload_n 3, 1), (5, .aload_n 0, 1), (6, .iload_n 1, 1), (7, .invokevirtual 20, 3), (10, .if_icmp .ge 17, 3), (13, .iload_n 2, 1), (14, .aload_n 0, 1), (15, .iload_n 1, 1), (16, .invokevirtual 24, 3), (19, .imul, 1), (20, .istore_n 2, 1), (21, .iinc 3 1, 3), (24, .goto (-20), 3), (27, .iload_n 2, 1), (28, .ireturn, 1)] := dcAll_of (by decide +kernel)
theorem dX2_powerAt_0 : decode cX2_powerAt 0 = .ok (.iconst 1, 1) := qdX2_powerAt_0_19.1
theorem dX2_powerAt_1 : decode cX2_powerAt 1 = .ok (.istore_n 2, 1) := qdX2_powerAt_0_19.2.1
theorem dX2_powerAt_2 : decode cX2_powerAt 2 = .ok (.iconst 0, 1) := qdX2_powerAt_0_19.2.2.1
theorem dX2_powerAt_3 : decode cX2_powerAt 3 = .ok (.istore_n 3, 1) := qdX2_powerAt_0_19.2.2.2.1
theorem dX2_powerAt_4 : decode cX2_powerAt 4 = .ok (.iload_n 3, 1) := qdX2_powerAt_0_19.2.2.2.2.1
theorem dX2_powerAt_5 : decode cX2_powerAt 5 = .ok (.aload_n 0, 1) := qdX2_powerAt_0_19.2.2.2.2.2.1
theorem dX2_powerAt_6 : decode cX2_powerAt 6 = .ok (.iload_n 1, 1) := qdX2_powerAt_0_19.2.2.2.2.2.2.1
theorem dX2_powerAt_7 : decode cX2_powerAt 7 = .ok (.invokevirtual 20, 3) := qdX2_powerAt_0_19.2.2.2.2.2.2.2.1
theorem dX2_powerAt_10 : decode cX2_powerAt 10 = .ok (.if_icmp .ge 17, 3) := qdX2_powerAt_0_19.2.2.2.2.2.2.2.2.1
theorem dX2_powerAt_13 : decode cX2_powerAt 13 = .ok (.iload_n 2, 1) := qdX2_powerAt_0_19.2.2.2.2.2.2.2.2.2.1
theorem dX2_powerAt_14 : decode cX2_powerAt 14 = .ok (.aload_n 0, 1) := qdX2_powerAt_0_19.2.2.2.2.2.2.2.2.2.2.1
theorem dX2_powerAt_15 : decode cX2_powerAt 15 = .ok (.iload_n 1, 1) := qdX2_powerAt_0_19.2.2.2.2.2.2.2.2.2.2.2.1
theorem dX2_powerAt_16 : decode cX2_powerAt 16 = .ok (.invokevirtual 24, 3) := qdX2_powerAt_0_19.2.2.2.2.2.2.2.2.2.2.2.2.1
theorem dX2_powerAt_19 : decode cX2_powerAt 19 = .ok (.imul, 1) := qdX2_powerAt_0_19.2.2.2.2.2.2.2.2.2.2.2.2.2.1
theorem dX2_powerAt_20 : decode cX2_powerAt 20 = .ok (.istore_n 2, 1) := qdX2_powerAt_0_19.2.2.2.2.2.2.2.2.2.2.2.2.2.2.1
theorem dX2_powerAt_21 : decode cX2_powerAt 21 = .ok (.iinc 3 1, 3) := qdX2_powerAt_0_19.2.2.2.2.2.2.2.2.2.2.2.2.2.2.2.1
theorem dX2_powerAt_24 : decode cX2_powerAt 24 = .ok (.goto (-20), 3) := qdX2_powerAt_0_19.2.2.2.2.2.2.2.2.2.2.2.2.2.2.2.2.1
theorem dX2_powerAt_27 : decode cX2_powerAt 27 = .ok (.iload_n 2, 1) := qdX2_powerAt_0_19.2.2.2.2.2.2.2.2.2.2.2.2.2.2.2.2.2.1
theorem dX2_powerAt_28 : decode cX2_powerAt 28 = .ok (.ireturn, 1) := qdX2_powerAt_0_19.2.2.2.2.2.2.2.2.2.2.2.2.2.2.2.2.2.2.1
theorem qdX3_init_0_3 : dcAll cX3_init [(0, .aload_n 0, 1), (1, .invokespecial 3, 3), (4, .return_, 1)] := dcAll_of (by decide +kernel)
theorem dX3_init_0 : decode cX3_init 0 = .ok (.aload_n 0, 1) := qdX3_init_0_3.1
theorem dX3_init_1 : decode cX3_init 1 = .ok (.invokespecial 3, 3) := qdX3_init_0_3.2.1
theorem dX3_init_4 : decode cX3_init 4 = .ok (.return_, 1) := qdX3_init_0_3.2.2.1
theorem qdX3_begin_0_4 : dcAll cX3_begin [(0, .aload_n 0, 1), (1, .iconst 0, 1), (2, .putfield 9, 3), (5, .return_, 1)] := dcAll_of (by decide +kernel)
theorem dX3_begin_0 : decode cX3_begin 0 = .ok (.aload_n 0, 1) := qdX3_begin_0_4.1
theorem dX3_begin_1 : decode cX3_begin 1 = .ok (.iconst 0, 1) := qdX3_begin_0_4.2.1
theorem dX3_begin_2 : decode cX3_begin 2 = .ok (.putfield 9, 3) := qdX3_begin_0_4.2.2.1
theorem dX3_begin_5 : decode cX3_begin 5 = .ok (.return_, 1) := qdX3_begin_0_4.2.2.2.1
theorem qdX3_isBeyond_0_3 : dcAll cX3_isBeyond [(0, .aload_n 0, 1), (1, .getfield 9, 3), (4, .ireturn, 1)] := dcAll_of (by decide +kernel)
theorem dX3_isBeyond_0 : decode cX3_isBeyond 0 = .ok (.aload_n 0, 1) := qdX3_isBeyond_0_3.1
theorem dX3_isBeyond_1 : decode cX3_isBeyond 1 = .ok (.getfield 9, 3) := qdX3_isBeyond_0_3.2.1
theorem dX3_isBeyond_4 : decode cX3_isBeyond 4 = .ok (.ireturn, 1) := qdX3_isBeyond_0_3.2.2.1
theorem qdX3_plus_0_19 : dcAll cX3_plus [(0, .lload_n 1, 1), (1, .lload_n 3, 1), (2, .ladd, 1), (3, .lstore 5, 2), (5, .lload_n 1, 1), (6, .lload 5, 2), (8, .lxor, 1), (9, .lload_n 3, 1), (10, .lload 5, 2), (12, .lxor, 1), (13, .land, 1), (14, .lconst 0, 1), (15, .lcmp, 1), (16, .ifCond .ge 8, 3), (19, .aload_n 0, 1), (20, .iconst 1, 1), (21, .putfield 9, 3), (24, .lload 5, 2), (26, .lreturn, 1)] := dcAll_of (by decide +kernel)
theorem dX3_plus_0 : decode cX3_plus 0 = .ok (.lload_n 1, 1) := qdX3_plus_0_19.1
theorem dX3_plus_1 : decode cX3_plus 1 = .ok (.lload_n 3, 1) := qdX3_plus_0_19.2.1
theorem dX3_plus_2 : decode cX3_plus 2 = .ok (.ladd, 1) := qdX3_plus_0_19.2.2.1
theorem dX3_plus_3 : decode cX3_plus 3 = .ok (.lstore 5, 2) := qdX3_plus_0_19.2.2.2.1
theorem dX3_plus_5 : decode cX3_plus 5 = .ok (.lload_n 1, 1) := qdX3_plus_0_19.2.2.2.2.1
theorem dX3_plus_6 : decode cX3_plus 6 = .ok (.lload 5, 2) := qdX3_plus_0_19.2.2.2.2.2.1
theorem dX3_plus_8 : decode cX3_plus 8 = .ok (.lxor, 1) := qdX3_plus_0_19.2.2.2.2.2.2.1
theorem dX3_plus_9 : decode cX3_plus 9 = .ok (.lload_n 3, 1) := qdX3_plus_0_19.2.2.2.2.2.2.2.1
theorem dX3_plus_10 : decode cX3_plus 10 = .ok (.lload 5, 2) := qdX3_plus_0_19.2.2.2.2.2.2.2.2.1
theorem dX3_plus_12 : decode cX3_plus 12 = .ok (.lxor, 1) := qdX3_plus_0_19.2.2.2.2.2.2.2.2.2.1
theorem dX3_plus_13 : decode cX3_plus 13 = .ok (.land, 1) := qdX3_plus_0_19.2.2.2.2.2.2.2.2.2.2.1
theorem dX3_plus_14 : decode cX3_plus 14 = .ok (.lconst 0, 1) := qdX3_plus_0_19.2.2.2.2.2.2.2.2.2.2.2.1
theorem dX3_plus_15 : decode cX3_plus 15 = .ok (.lcmp, 1) := qdX3_plus_0_19.2.2.2.2.2.2.2.2.2.2.2.2.1
theorem dX3_plus_16 : decode cX3_plus 16 = .ok (.ifCond .ge 8, 3) := qdX3_plus_0_19.2.2.2.2.2.2.2.2.2.2.2.2.2.1
theorem dX3_plus_19 : decode cX3_plus 19 = .ok (.aload_n 0, 1) := qdX3_plus_0_19.2.2.2.2.2.2.2.2.2.2.2.2.2.2.1
theorem dX3_plus_20 : decode cX3_plus 20 = .ok (.iconst 1, 1) := qdX3_plus_0_19.2.2.2.2.2.2.2.2.2.2.2.2.2.2.2.1
theorem dX3_plus_21 : decode cX3_plus 21 = .ok (.putfield 9, 3) := qdX3_plus_0_19.2.2.2.2.2.2.2.2.2.2.2.2.2.2.2.2.1
theorem dX3_plus_24 : decode cX3_plus 24 = .ok (.lload 5, 2) := qdX3_plus_0_19.2.2.2.2.2.2.2.2.2.2.2.2.2.2.2.2.2.1
theorem dX3_plus_26 : decode cX3_plus 26 = .ok (.lreturn, 1) := qdX3_plus_0_19.2.2.2.2.2.2.2.2.2.2.2.2.2.2.2.2.2.2.1
theorem qdX3_minus_0_19 : dcAll cX3_minus [(0, .lload_n 1, 1), (1, .lload_n 3, 1), (2, .lsub, 1), (3, .lstore 5, 2), (5, .lload_n 1, 1), (6, .lload_n 3, 1), (7, .lxor, 1), (8, .lload_n 1, 1), (9, .lload 5, 2), (11, .lxor, 1), (12, .land, 1), (13, .lconst 0, 1), (14, .lcmp, 1), (15, .ifCond .ge 8, 3), (18, .aload_n 0, 1), (19, .iconst 1, 1), (20, .putfield 9, 3), (23, .lload 5, 2), (25, .lreturn, 1)] := dcAll_of (by decide +kernel)
theorem dX3_minus_0 : decode cX3_minus 0 = .ok (.lload_n 1, 1) := qdX3_minus_0_19.1
theorem dX3_minus_1 : decode cX3_minus 1 = .ok (.lload_n 3, 1) := qdX3_minus_0_19.2.1
theorem dX3_minus_2 : decode cX3_minus 2 = .ok (.lsub, 1) := qdX3_minus_0_19.2.2.1
theorem dX3_minus_3 : decode cX3_minus 3 = .ok (.lstore 5, 2) := qdX3_minus_0_19.2.2.2.1
theorem dX3_minus_5 : decode cX3_minus 5 = .ok (.lload_n 1, 1) := qdX3_minus_0_19.2.2.2.2.1
theorem dX3_minus_6 : decode cX3_minus 6 = .ok (.lload_n 3, 1) := qdX3_minus_0_19.2.2.2.2.2.1
theorem dX3_minus_7 : decode cX3_minus 7 = .ok (.lxor, 1) := qdX3_minus_0_19.2.2.2.2.2.2.1
theorem dX3_minus_8 : decode cX3_minus 8 = .ok (.lload_n 1, 1) := qdX3_minus_0_19.2.2.2.2.2.2.2.1
theorem dX3_minus_9 : decode cX3_minus 9 = .ok (.lload 5, 2) := qdX3_minus_0_19.2.2.2.2.2.2.2.2.1
theorem dX3_minus_11 : decode cX3_minus 11 = .ok (.lxor, 1) := qdX3_minus_0_19.2.2.2.2.2.2.2.2.2.1
theorem dX3_minus_12 : decode cX3_minus 12 = .ok (.land, 1) := qdX3_minus_0_19.2.2.2.2.2.2.2.2.2.2.1
theorem dX3_minus_13 : decode cX3_minus 13 = .ok (.lconst 0, 1) := qdX3_minus_0_19.2.2.2.2.2.2.2.2.2.2.2.1
theorem dX3_minus_14 : decode cX3_minus 14 = .ok (.lcmp, 1) := qdX3_minus_0_19.2.2.2.2.2.2.2.2.2.2.2.2.1
theorem dX3_minus_15 : decode cX3_minus 15 = .ok (.ifCond .ge 8, 3) := qdX3_minus_0_19.2.2.2.2.2.2.2.2.2.2.2.2.2.1
theorem dX3_minus_18 : decode cX3_minus 18 = .ok (.aload_n 0, 1) := qdX3_minus_0_19.2.2.2.2.2.2.2.2.2.2.2.2.2.2.1
theorem dX3_minus_19 : decode cX3_minus 19 = .ok (.iconst 1, 1) := qdX3_minus_0_19.2.2.2.2.2.2.2.2.2.2.2.2.2.2.2.1
theorem dX3_minus_20 : decode cX3_minus 20 = .ok (.putfield 9, 3) := qdX3_minus_0_19.2.2.2.2.2.2.2.2.2.2.2.2.2.2.2.2.1
theorem dX3_minus_23 : decode cX3_minus 23 = .ok (.lload 5, 2) := qdX3_minus_0_19.2.2.2.2.2.2.2.2.2.2.2.2.2.2.2.2.2.1
theorem dX3_minus_25 : decode cX3_minus 25 = .ok (.lreturn, 1) := qdX3_minus_0_19.2.2.2.2.2.2.2.2.2.2.2.2.2.2.2.2.2.2.1
theorem ggX3_times_X3_isLetProduct : GoodIn wsX3_times wsX3_isLetProduct := fun w h => ⟨List.mem_cons_of_mem _ (List.mem_append_right _ h), zq_X3_isLetProduct w h⟩
set_option maxRecDepth 20000 in
theorem gX3_times_X3_isLetProduct : GoodIn wsX3_times (va_wsS RX3 15 yX3_isLetProduct wsX3_isLetProduct) := goodIn_app (goodIn_r _ [2, 3, 4] rfl rfl) ggX3_times_X3_isLetProduct
theorem qdX3_times_0_11 : dcAll cX3_times [(0, .lload_n 1, 1), (1, .lload_n 3, 1), (2, .invokestatic 15, 3), (5, .ifCond .ne 8, 3), (8, .aload_n 0, 1), (9, .iconst 1, 1), (10, .putfield 9, 3), (13, .lload_n 1, 1), (14, .lload_n 3, 1), (15, .lmul, 1), (16, .lreturn, 1)] := dcAll_of (by decide +kernel)
theorem dX3_times_0 : decode cX3_times 0 = .ok (.lload_n 1, 1) := qdX3_times_0_11.1
theorem dX3_times_1 : decode cX3_times 1 = .ok (.lload_n 3, 1) := qdX3_times_0_11.2.1
theorem dX3_times_2 : decode cX3_times 2 = .ok (.invokestatic 15, 3) := qdX3_times_0_11.2.2.1
theorem dX3_times_5 : decode cX3_times 5 = .ok (.ifCond .ne 8, 3) := qdX3_times_0_11.2.2.2.1
theorem dX3_times_8 : decode cX3_times 8 = .ok (.aload_n 0, 1) := qdX3_times_0_11.2.2.2.2.1
theorem dX3_times_9 : decode cX3_times 9 = .ok (.iconst 1, 1) := qdX3_times_0_11.2.2.2.2.2.1
theorem dX3_times_10 : decode cX3_times 10 = .ok (.putfield 9, 3) := qdX3_times_0_11.2.2.2.2.2.2.1
theorem dX3_times_13 : decode cX3_times 13 = .ok (.lload_n 1, 1) := qdX3_times_0_11.2.2.2.2.2.2.2.1
theorem dX3_times_14 : decode cX3_times 14 = .ok (.lload_n 3, 1) := qdX3_times_0_11.2.2.2.2.2.2.2.2.1
theorem dX3_times_15 : decode cX3_times 15 = .ok (.lmul, 1) := qdX3_times_0_11.2.2.2.2.2.2.2.2.2.1
theorem dX3_times_16 : decode cX3_times 16 = .ok (.lreturn, 1) := qdX3_times_0_11.2.2.2.2.2.2.2.2.2.2.1
theorem qdX3_isLetProduct_0_24 : dcAll cX3_isLetProduct [(0, .lload_n 2, 1), (1, .lconst 0, 1), (2, .lcmp, 1), (3, .ifCond .ne 5, 3), (6, .iconst 1, 1), (7, .ireturn, 1), (8, .lload_n 0, 1), (9, .lload_n 2, 1), (10, .lmul, 1), (11, .lload_n 2, 1), (12, .ldiv, 1), (13, .lload_n 0, 1), (14, .lcmp, 1), (15, .ifCond .ne 23, 3), (18, .lload_n 0, 1), (19, .ldc2_w 19, 3), (22, .lcmp, 1), (23, .ifCond .ne 11, 3), (26, .lload_n 2, 1), (27, .ldc2_w 21, 3), (30, .lcmp, 1), (31, .ifCond .eq 7, 3), (34, .iconst 1, 1), (35, .goto 4, 3)] := dcAll_of (by decide +kernel)
theorem dX3_isLetProduct_0 : decode cX3_isLetProduct 0 = .ok (.lload_n 2, 1) := qdX3_isLetProduct_0_24.1
theorem dX3_isLetProduct_1 : decode cX3_isLetProduct 1 = .ok (.lconst 0, 1) := qdX3_isLetProduct_0_24.2.1
theorem dX3_isLetProduct_2 : decode cX3_isLetProduct 2 = .ok (.lcmp, 1) := qdX3_isLetProduct_0_24.2.2.1
theorem dX3_isLetProduct_3 : decode cX3_isLetProduct 3 = .ok (.ifCond .ne 5, 3) := qdX3_isLetProduct_0_24.2.2.2.1
theorem dX3_isLetProduct_6 : decode cX3_isLetProduct 6 = .ok (.iconst 1, 1) := qdX3_isLetProduct_0_24.2.2.2.2.1
theorem dX3_isLetProduct_7 : decode cX3_isLetProduct 7 = .ok (.ireturn, 1) := qdX3_isLetProduct_0_24.2.2.2.2.2.1
theorem dX3_isLetProduct_8 : decode cX3_isLetProduct 8 = .ok (.lload_n 0, 1) := qdX3_isLetProduct_0_24.2.2.2.2.2.2.1
theorem dX3_isLetProduct_9 : decode cX3_isLetProduct 9 = .ok (.lload_n 2, 1) := qdX3_isLetProduct_0_24.2.2.2.2.2.2.2.1
theorem dX3_isLetProduct_10 : decode cX3_isLetProduct 10 = .ok (.lmul, 1) := qdX3_isLetProduct_0_24.2.2.2.2.2.2.2.2.1
theorem dX3_isLetProduct_11 : decode cX3_isLetProduct 11 = .ok (.lload_n 2, 1) := qdX3_isLetProduct_0_24.2.2.2.2.2.2.2.2.2.1
theorem dX3_isLetProduct_12 : decode cX3_isLetProduct 12 = .ok (.ldiv, 1) := qdX3_isLetProduct_0_24.2.2.2.2.2.2.2.2.2.2.1
theorem dX3_isLetProduct_13 : decode cX3_isLetProduct 13 = .ok (.lload_n 0, 1) := qdX3_isLetProduct_0_24.2.2.2.2.2.2.2.2.2.2.2.1
theorem dX3_isLetProduct_14 : decode cX3_isLetProduct 14 = .ok (.lcmp, 1) := qdX3_isLetProduct_0_24.2.2.2.2.2.2.2.2.2.2.2.2.1
theorem dX3_isLetProduct_15 : decode cX3_isLetProduct 15 = .ok (.ifCond .ne 23, 3) := qdX3_isLetProduct_0_24.2.2.2.2.2.2.2.2.2.2.2.2.2.1
theorem dX3_isLetProduct_18 : decode cX3_isLetProduct 18 = .ok (.lload_n 0, 1) := qdX3_isLetProduct_0_24.2.2.2.2.2.2.2.2.2.2.2.2.2.2.1
theorem dX3_isLetProduct_19 : decode cX3_isLetProduct 19 = .ok (.ldc2_w 19, 3) := qdX3_isLetProduct_0_24.2.2.2.2.2.2.2.2.2.2.2.2.2.2.2.1
theorem dX3_isLetProduct_22 : decode cX3_isLetProduct 22 = .ok (.lcmp, 1) := qdX3_isLetProduct_0_24.2.2.2.2.2.2.2.2.2.2.2.2.2.2.2.2.1
theorem dX3_isLetProduct_23 : decode cX3_isLetProduct 23 = .ok (.ifCond .ne 11, 3) := qdX3_isLetProduct_0_24.2.2.2.2.2.2.2.2.2.2.2.2.2.2.2.2.2.1
theorem dX3_isLetProduct_26 : decode cX3_isLetProduct 26 = .ok (.lload_n 2, 1) := qdX3_isLetProduct_0_24.2.2.2.2.2.2.2.2.2.2.2.2.2.2.2.2.2.2.1
theorem dX3_isLetProduct_27 : decode cX3_isLetProduct 27 = .ok (.ldc2_w 21, 3) := qdX3_isLetProduct_0_24.2.2.2.2.2.2.2.2.2.2.2.2.2.2.2.2.2.2.2.1
theorem dX3_isLetProduct_30 : decode cX3_isLetProduct 30 = .ok (.lcmp, 1) := qdX3_isLetProduct_0_24.2.2.2.2.2.2.2.2.2.2.2.2.2.2.2.2.2.2.2.2.1
theorem dX3_isLetProduct_31 : decode cX3_isLetProduct 31 = .ok (.ifCond .eq 7, 3) := qdX3_isLetProduct_0_24.2.2.2.2.2.2.2.2.2.2.2.2.2.2.2.2.2.2.2.2.2.1
theorem dX3_isLetProduct_34 : decode cX3_isLetProduct 34 = .ok (.iconst 1, 1) := qdX3_isLetProduct_0_24.2.2.2.2.2.2.2.2.2.2.2.2.2.2.2.2.2.2.2.2.2.2.1
theorem dX3_isLetProduct_35 : decode cX3_isLetProduct 35 = .ok (.goto 4, 3) := qdX3_isLetProduct_0_24.2.2.2.2.2.2.2.2.2.2.2.2.2.2.2.2.2.2.2.2.2.2.2.1
theorem qdX3_isLetProduct_38_2 : dcAll cX3_isLetProduct [(38, .iconst 0, 1), (39, .ireturn, 1)] := dcAll_of (by decide +kernel)
theorem dX3_isLetProduct_38 : decode cX3_isLetProduct 38 = .ok (.iconst 0, 1) := qdX3_isLetProduct_38_2.1
theorem dX3_isLetProduct_39 : decode cX3_isLetProduct 39 = .ok (.ireturn, 1) := qdX3_isLetProduct_38_2.2.1
theorem qdX4_init_0_7 : dcAll cX4_init [(0, .aload_n 0, 1), (1, .invokespecial 3, 3), (4, .aload_n 0, 1), (5, .bipush 121, 2), (7, .newarray .long, 2), (9, .putfield 9, 3), (12, .return_, 1)] := dcAll_of (by decide +kernel)
theorem dX4_init_0 : decode cX4_init 0 = .ok (.aload_n 0, 1) := qdX4_init_0_7.1
theorem dX4_init_1 : decode cX4_init 1 = .ok (.invokespecial 3, 3) := qdX4_init_0_7.2.1
theorem dX4_init_4 : decode cX4_init 4 = .ok (.aload_n 0, 1) := qdX4_init_0_7.2.2.1
theorem dX4_init_5 : decode cX4_init 5 = .ok (.bipush 121, 2) := qdX4_init_0_7.2.2.2.1
theorem dX4_init_7 : decode cX4_init 7 = .ok (.newarray .long, 2) := qdX4_init_0_7.2.2.2.2.1
theorem dX4_init_9 : decode cX4_init 9 = .ok (.putfield 9, 3) := qdX4_init_0_7.2.2.2.2.2.1
theorem dX4_init_12 : decode cX4_init 12 = .ok (.return_, 1) := qdX4_init_0_7.2.2.2.2.2.2.1
theorem qdX4_at_0_13 : dcAll cX4_at [(0, .iload_n 1, 1), (1, .iconst 1, 1), (2, .if_icmp .lt 18, 3), (5, .iload_n 1, 1), (6, .bipush 120, 2), (8, .if_icmp .gt 12, 3), (11, .aload_n 0, 1), (12, .getfield 9, 3), (15, .iload_n 1, 1), (16, .laload, 1), (17, .goto 4, 3), (20, .lconst 0, 1), (21, .lreturn, 1)] := dcAll_of (by decide +kernel)
theorem dX4_at_0 : decode cX4_at 0 = .ok (.iload_n 1, 1) := qdX4_at_0_13.1
theorem dX4_at_1 : decode cX4_at 1 = .ok (.iconst 1, 1) := qdX4_at_0_13.2.1
theorem dX4_at_2 : decode cX4_at 2 = .ok (.if_icmp .lt 18, 3) := qdX4_at_0_13.2.2.1
theorem dX4_at_5 : decode cX4_at 5 = .ok (.iload_n 1, 1) := qdX4_at_0_13.2.2.2.1
theorem dX4_at_6 : decode cX4_at 6 = .ok (.bipush 120, 2) := qdX4_at_0_13.2.2.2.2.1
theorem dX4_at_8 : decode cX4_at 8 = .ok (.if_icmp .gt 12, 3) := qdX4_at_0_13.2.2.2.2.2.1
theorem dX4_at_11 : decode cX4_at 11 = .ok (.aload_n 0, 1) := qdX4_at_0_13.2.2.2.2.2.2.1
theorem dX4_at_12 : decode cX4_at 12 = .ok (.getfield 9, 3) := qdX4_at_0_13.2.2.2.2.2.2.2.1
theorem dX4_at_15 : decode cX4_at 15 = .ok (.iload_n 1, 1) := qdX4_at_0_13.2.2.2.2.2.2.2.2.1
theorem dX4_at_16 : decode cX4_at 16 = .ok (.laload, 1) := qdX4_at_0_13.2.2.2.2.2.2.2.2.2.1
theorem dX4_at_17 : decode cX4_at 17 = .ok (.goto 4, 3) := qdX4_at_0_13.2.2.2.2.2.2.2.2.2.2.1
theorem dX4_at_20 : decode cX4_at 20 = .ok (.lconst 0, 1) := qdX4_at_0_13.2.2.2.2.2.2.2.2.2.2.2.1
theorem dX4_at_21 : decode cX4_at 21 = .ok (.lreturn, 1) := qdX4_at_0_13.2.2.2.2.2.2.2.2.2.2.2.2.1
theorem qdX4_lay_0_12 : dcAll cX4_lay [(0, .iload_n 1, 1), (1, .iconst 1, 1), (2, .if_icmp .lt 16, 3), (5, .iload_n 1, 1), (6, .bipush 120, 2), (8, .if_icmp .gt 10, 3), (11, .aload_n 0, 1), (12, .getfield 9, 3), (15, .iload_n 1, 1), (16, .lload_n 2, 1), (17, .lastore, 1), (18, .return_, 1)] := dcAll_of (by decide +kernel)
theorem dX4_lay_0 : decode cX4_lay 0 = .ok (.iload_n 1, 1) := qdX4_lay_0_12.1
theorem dX4_lay_1 : decode cX4_lay 1 = .ok (.iconst 1, 1) := qdX4_lay_0_12.2.1
theorem dX4_lay_2 : decode cX4_lay 2 = .ok (.if_icmp .lt 16, 3) := qdX4_lay_0_12.2.2.1
theorem dX4_lay_5 : decode cX4_lay 5 = .ok (.iload_n 1, 1) := qdX4_lay_0_12.2.2.2.1
theorem dX4_lay_6 : decode cX4_lay 6 = .ok (.bipush 120, 2) := qdX4_lay_0_12.2.2.2.2.1
theorem dX4_lay_8 : decode cX4_lay 8 = .ok (.if_icmp .gt 10, 3) := qdX4_lay_0_12.2.2.2.2.2.1
theorem dX4_lay_11 : decode cX4_lay 11 = .ok (.aload_n 0, 1) := qdX4_lay_0_12.2.2.2.2.2.2.1
theorem dX4_lay_12 : decode cX4_lay 12 = .ok (.getfield 9, 3) := qdX4_lay_0_12.2.2.2.2.2.2.2.1
theorem dX4_lay_15 : decode cX4_lay 15 = .ok (.iload_n 1, 1) := qdX4_lay_0_12.2.2.2.2.2.2.2.2.1
theorem dX4_lay_16 : decode cX4_lay 16 = .ok (.lload_n 2, 1) := qdX4_lay_0_12.2.2.2.2.2.2.2.2.2.1
theorem dX4_lay_17 : decode cX4_lay 17 = .ok (.lastore, 1) := qdX4_lay_0_12.2.2.2.2.2.2.2.2.2.2.1
theorem dX4_lay_18 : decode cX4_lay 18 = .ok (.return_, 1) := qdX4_lay_0_12.2.2.2.2.2.2.2.2.2.2.2.1
theorem ggX4_takeFrom_X4_countUnlike : GoodIn wsX4_takeFrom wsX4_countUnlike := fun w h => ⟨List.mem_cons_of_mem _ (List.mem_append_right _ h), zq_X4_countUnlike w h⟩
set_option maxRecDepth 20000 in
theorem gX4_takeFrom_X4_countUnlike : GoodIn wsX4_takeFrom (wsV RX4 15 RX4 yX4_countUnlike wsX4_countUnlike) := goodIn_app (goodIn_r _ [1, 2, 3, 4] rfl rfl) ggX4_takeFrom_X4_countUnlike
theorem qdX4_takeFrom_0_21 : dcAll cX4_takeFrom [(0, .aload_n 0, 1), (1, .aload_n 1, 1), (2, .invokevirtual 15, 3), (5, .istore_n 2, 1), (6, .iconst 1, 1), (7, .istore_n 3, 1), (8, .iload_n 3, 1), (9, .bipush 120, 2), (11, .if_icmp .gt 21, 3), (14, .aload_n 0, 1), (15, .getfield 9, 3), (18, .iload_n 3, 1), (19, .aload_n 1, 1), (20, .getfield 9, 3), (23, .iload_n 3, 1), (24, .laload, 1), (25, .lastore, 1), (26, .iinc 3 1, 3), (29, .goto (-21), 3), (32, .iload_n 2, 1), (33, .ireturn, 1)] := dcAll_of (by decide +kernel)
theorem dX4_takeFrom_0 : decode cX4_takeFrom 0 = .ok (.aload_n 0, 1) := qdX4_takeFrom_0_21.1
theorem dX4_takeFrom_1 : decode cX4_takeFrom 1 = .ok (.aload_n 1, 1) := qdX4_takeFrom_0_21.2.1
theorem dX4_takeFrom_2 : decode cX4_takeFrom 2 = .ok (.invokevirtual 15, 3) := qdX4_takeFrom_0_21.2.2.1
theorem dX4_takeFrom_5 : decode cX4_takeFrom 5 = .ok (.istore_n 2, 1) := qdX4_takeFrom_0_21.2.2.2.1
theorem dX4_takeFrom_6 : decode cX4_takeFrom 6 = .ok (.iconst 1, 1) := qdX4_takeFrom_0_21.2.2.2.2.1
theorem dX4_takeFrom_7 : decode cX4_takeFrom 7 = .ok (.istore_n 3, 1) := qdX4_takeFrom_0_21.2.2.2.2.2.1
theorem dX4_takeFrom_8 : decode cX4_takeFrom 8 = .ok (.iload_n 3, 1) := qdX4_takeFrom_0_21.2.2.2.2.2.2.1
theorem dX4_takeFrom_9 : decode cX4_takeFrom 9 = .ok (.bipush 120, 2) := qdX4_takeFrom_0_21.2.2.2.2.2.2.2.1
theorem dX4_takeFrom_11 : decode cX4_takeFrom 11 = .ok (.if_icmp .gt 21, 3) := qdX4_takeFrom_0_21.2.2.2.2.2.2.2.2.1
theorem dX4_takeFrom_14 : decode cX4_takeFrom 14 = .ok (.aload_n 0, 1) := qdX4_takeFrom_0_21.2.2.2.2.2.2.2.2.2.1
theorem dX4_takeFrom_15 : decode cX4_takeFrom 15 = .ok (.getfield 9, 3) := qdX4_takeFrom_0_21.2.2.2.2.2.2.2.2.2.2.1
theorem dX4_takeFrom_18 : decode cX4_takeFrom 18 = .ok (.iload_n 3, 1) := qdX4_takeFrom_0_21.2.2.2.2.2.2.2.2.2.2.2.1
theorem dX4_takeFrom_19 : decode cX4_takeFrom 19 = .ok (.aload_n 1, 1) := qdX4_takeFrom_0_21.2.2.2.2.2.2.2.2.2.2.2.2.1
theorem dX4_takeFrom_20 : decode cX4_takeFrom 20 = .ok (.getfield 9, 3) := qdX4_takeFrom_0_21.2.2.2.2.2.2.2.2.2.2.2.2.2.1
theorem dX4_takeFrom_23 : decode cX4_takeFrom 23 = .ok (.iload_n 3, 1) := qdX4_takeFrom_0_21.2.2.2.2.2.2.2.2.2.2.2.2.2.2.1
theorem dX4_takeFrom_24 : decode cX4_takeFrom 24 = .ok (.laload, 1) := qdX4_takeFrom_0_21.2.2.2.2.2.2.2.2.2.2.2.2.2.2.2.1
theorem dX4_takeFrom_25 : decode cX4_takeFrom 25 = .ok (.lastore, 1) := qdX4_takeFrom_0_21.2.2.2.2.2.2.2.2.2.2.2.2.2.2.2.2.1
theorem dX4_takeFrom_26 : decode cX4_takeFrom 26 = .ok (.iinc 3 1, 3) := qdX4_takeFrom_0_21.2.2.2.2.2.2.2.2.2.2.2.2.2.2.2.2.2.1
theorem dX4_takeFrom_29 : decode cX4_takeFrom 29 = .ok (.goto (-21), 3) := qdX4_takeFrom_0_21.2.2.2.2.2.2.2.2.2.2.2.2.2.2.2.2.2.2.1
theorem dX4_takeFrom_32 : decode cX4_takeFrom 32 = .ok (.iload_n 2, 1) := qdX4_takeFrom_0_21.2.2.2.2.2.2.2.2.2.2.2.2.2.2.2.2.2.2.2.1
theorem dX4_takeFrom_33 : decode cX4_takeFrom 33 = .ok (.ireturn, 1) := qdX4_takeFrom_0_21.2.2.2.2.2.2.2.2.2.2.2.2.2.2.2.2.2.2.2.2.1
theorem qdX4_exchange_0_24 : dcAll cX4_exchange [(0, .iconst 1, 1), (1, .istore_n 2, 1), (2, .iload_n 2, 1), (3, .bipush 120, 2), (5, .if_icmp .gt 35, 3), (8, .aload_n 0, 1), (9, .getfield 9, 3), (12, .iload_n 2, 1), (13, .laload, 1), (14, .lstore_n 3, 1), (15, .aload_n 0, 1), (16, .getfield 9, 3), (19, .iload_n 2, 1), (20, .aload_n 1, 1), (21, .getfield 9, 3), (24, .iload_n 2, 1), (25, .laload, 1), (26, .lastore, 1), (27, .aload_n 1, 1), (28, .getfield 9, 3), (31, .iload_n 2, 1), (32, .lload_n 3, 1), (33, .lastore, 1), (34, .iinc 2 1, 3)] := dcAll_of (by decide +kernel)
theorem dX4_exchange_0 : decode cX4_exchange 0 = .ok (.iconst 1, 1) := qdX4_exchange_0_24.1
theorem dX4_exchange_1 : decode cX4_exchange 1 = .ok (.istore_n 2, 1) := qdX4_exchange_0_24.2.1
theorem dX4_exchange_2 : decode cX4_exchange 2 = .ok (.iload_n 2, 1) := qdX4_exchange_0_24.2.2.1
theorem dX4_exchange_3 : decode cX4_exchange 3 = .ok (.bipush 120, 2) := qdX4_exchange_0_24.2.2.2.1
theorem dX4_exchange_5 : decode cX4_exchange 5 = .ok (.if_icmp .gt 35, 3) := qdX4_exchange_0_24.2.2.2.2.1
theorem dX4_exchange_8 : decode cX4_exchange 8 = .ok (.aload_n 0, 1) := qdX4_exchange_0_24.2.2.2.2.2.1
theorem dX4_exchange_9 : decode cX4_exchange 9 = .ok (.getfield 9, 3) := qdX4_exchange_0_24.2.2.2.2.2.2.1
theorem dX4_exchange_12 : decode cX4_exchange 12 = .ok (.iload_n 2, 1) := qdX4_exchange_0_24.2.2.2.2.2.2.2.1
theorem dX4_exchange_13 : decode cX4_exchange 13 = .ok (.laload, 1) := qdX4_exchange_0_24.2.2.2.2.2.2.2.2.1
theorem dX4_exchange_14 : decode cX4_exchange 14 = .ok (.lstore_n 3, 1) := qdX4_exchange_0_24.2.2.2.2.2.2.2.2.2.1
theorem dX4_exchange_15 : decode cX4_exchange 15 = .ok (.aload_n 0, 1) := qdX4_exchange_0_24.2.2.2.2.2.2.2.2.2.2.1
theorem dX4_exchange_16 : decode cX4_exchange 16 = .ok (.getfield 9, 3) := qdX4_exchange_0_24.2.2.2.2.2.2.2.2.2.2.2.1
theorem dX4_exchange_19 : decode cX4_exchange 19 = .ok (.iload_n 2, 1) := qdX4_exchange_0_24.2.2.2.2.2.2.2.2.2.2.2.2.1
theorem dX4_exchange_20 : decode cX4_exchange 20 = .ok (.aload_n 1, 1) := qdX4_exchange_0_24.2.2.2.2.2.2.2.2.2.2.2.2.2.1
theorem dX4_exchange_21 : decode cX4_exchange 21 = .ok (.getfield 9, 3) := qdX4_exchange_0_24.2.2.2.2.2.2.2.2.2.2.2.2.2.2.1
theorem dX4_exchange_24 : decode cX4_exchange 24 = .ok (.iload_n 2, 1) := qdX4_exchange_0_24.2.2.2.2.2.2.2.2.2.2.2.2.2.2.2.1
theorem dX4_exchange_25 : decode cX4_exchange 25 = .ok (.laload, 1) := qdX4_exchange_0_24.2.2.2.2.2.2.2.2.2.2.2.2.2.2.2.2.1
theorem dX4_exchange_26 : decode cX4_exchange 26 = .ok (.lastore, 1) := qdX4_exchange_0_24.2.2.2.2.2.2.2.2.2.2.2.2.2.2.2.2.2.1
theorem dX4_exchange_27 : decode cX4_exchange 27 = .ok (.aload_n 1, 1) := qdX4_exchange_0_24.2.2.2.2.2.2.2.2.2.2.2.2.2.2.2.2.2.2.1
theorem dX4_exchange_28 : decode cX4_exchange 28 = .ok (.getfield 9, 3) := qdX4_exchange_0_24.2.2.2.2.2.2.2.2.2.2.2.2.2.2.2.2.2.2.2.1
theorem dX4_exchange_31 : decode cX4_exchange 31 = .ok (.iload_n 2, 1) := qdX4_exchange_0_24.2.2.2.2.2.2.2.2.2.2.2.2.2.2.2.2.2.2.2.2.1
theorem dX4_exchange_32 : decode cX4_exchange 32 = .ok (.lload_n 3, 1) := qdX4_exchange_0_24.2.2.2.2.2.2.2.2.2.2.2.2.2.2.2.2.2.2.2.2.2.1
theorem dX4_exchange_33 : decode cX4_exchange 33 = .ok (.lastore, 1) := qdX4_exchange_0_24.2.2.2.2.2.2.2.2.2.2.2.2.2.2.2.2.2.2.2.2.2.2.1
theorem dX4_exchange_34 : decode cX4_exchange 34 = .ok (.iinc 2 1, 3) := qdX4_exchange_0_24.2.2.2.2.2.2.2.2.2.2.2.2.2.2.2.2.2.2.2.2.2.2.2.1
theorem qdX4_exchange_37_2 : dcAll cX4_exchange [(37, .goto (-35), 3), (40, .return_, 1)] := dcAll_of (by decide +kernel)
theorem dX4_exchange_37 : decode cX4_exchange 37 = .ok (.goto (-35), 3) := qdX4_exchange_37_2.1
theorem dX4_exchange_40 : decode cX4_exchange 40 = .ok (.return_, 1) := qdX4_exchange_37_2.2.1
theorem qdX4_countUnlike_0_24 : dcAll cX4_countUnlike [(0, .iconst 0, 1), (1, .istore_n 2, 1), (2, .iconst 1, 1), (3, .istore_n 3, 1), (4, .iload_n 3, 1), (5, .bipush 120, 2), (7, .if_icmp .gt 33, 3), (10, .iload_n 2, 1), (11, .aload_n 0, 1), (12, .getfield 9, 3), (15, .iload_n 3, 1), (16, .laload, 1), (17, .aload_n 1, 1), (18, .getfield 9, 3), (21, .iload_n 3, 1), (22, .laload, 1), (23, .lcmp, 1), (24, .ifCond .ne 7, 3), (27, .iconst 0, 1), (28, .goto 4, 3), (31, .iconst 1, 1), (32, .iadd, 1), (33, .istore_n 2, 1), (34, .iinc 3 1, 3)] := dcAll_of (by decide +kernel)
theorem dX4_countUnlike_0 : decode cX4_countUnlike 0 = .ok (.iconst 0, 1) := qdX4_countUnlike_0_24.1
theorem dX4_countUnlike_1 : decode cX4_countUnlike 1 = .ok (.istore_n 2, 1) := qdX4_countUnlike_0_24.2.1
theorem dX4_countUnlike_2 : decode cX4_countUnlike 2 = .ok (.iconst 1, 1) := qdX4_countUnlike_0_24.2.2.1
theorem dX4_countUnlike_3 : decode cX4_countUnlike 3 = .ok (.istore_n 3, 1) := qdX4_countUnlike_0_24.2.2.2.1
theorem dX4_countUnlike_4 : decode cX4_countUnlike 4 = .ok (.iload_n 3, 1) := qdX4_countUnlike_0_24.2.2.2.2.1
theorem dX4_countUnlike_5 : decode cX4_countUnlike 5 = .ok (.bipush 120, 2) := qdX4_countUnlike_0_24.2.2.2.2.2.1
theorem dX4_countUnlike_7 : decode cX4_countUnlike 7 = .ok (.if_icmp .gt 33, 3) := qdX4_countUnlike_0_24.2.2.2.2.2.2.1
theorem dX4_countUnlike_10 : decode cX4_countUnlike 10 = .ok (.iload_n 2, 1) := qdX4_countUnlike_0_24.2.2.2.2.2.2.2.1
theorem dX4_countUnlike_11 : decode cX4_countUnlike 11 = .ok (.aload_n 0, 1) := qdX4_countUnlike_0_24.2.2.2.2.2.2.2.2.1
theorem dX4_countUnlike_12 : decode cX4_countUnlike 12 = .ok (.getfield 9, 3) := qdX4_countUnlike_0_24.2.2.2.2.2.2.2.2.2.1
theorem dX4_countUnlike_15 : decode cX4_countUnlike 15 = .ok (.iload_n 3, 1) := qdX4_countUnlike_0_24.2.2.2.2.2.2.2.2.2.2.1
theorem dX4_countUnlike_16 : decode cX4_countUnlike 16 = .ok (.laload, 1) := qdX4_countUnlike_0_24.2.2.2.2.2.2.2.2.2.2.2.1
theorem dX4_countUnlike_17 : decode cX4_countUnlike 17 = .ok (.aload_n 1, 1) := qdX4_countUnlike_0_24.2.2.2.2.2.2.2.2.2.2.2.2.1
theorem dX4_countUnlike_18 : decode cX4_countUnlike 18 = .ok (.getfield 9, 3) := qdX4_countUnlike_0_24.2.2.2.2.2.2.2.2.2.2.2.2.2.1
theorem dX4_countUnlike_21 : decode cX4_countUnlike 21 = .ok (.iload_n 3, 1) := qdX4_countUnlike_0_24.2.2.2.2.2.2.2.2.2.2.2.2.2.2.1
theorem dX4_countUnlike_22 : decode cX4_countUnlike 22 = .ok (.laload, 1) := qdX4_countUnlike_0_24.2.2.2.2.2.2.2.2.2.2.2.2.2.2.2.1
theorem dX4_countUnlike_23 : decode cX4_countUnlike 23 = .ok (.lcmp, 1) := qdX4_countUnlike_0_24.2.2.2.2.2.2.2.2.2.2.2.2.2.2.2.2.1
theorem dX4_countUnlike_24 : decode cX4_countUnlike 24 = .ok (.ifCond .ne 7, 3) := qdX4_countUnlike_0_24.2.2.2.2.2.2.2.2.2.2.2.2.2.2.2.2.2.1
theorem dX4_countUnlike_27 : decode cX4_countUnlike 27 = .ok (.iconst 0, 1) := qdX4_countUnlike_0_24.2.2.2.2.2.2.2.2.2.2.2.2.2.2.2.2.2.2.1
theorem dX4_countUnlike_28 : decode cX4_countUnlike 28 = .ok (.goto 4, 3) := qdX4_countUnlike_0_24.2.2.2.2.2.2.2.2.2.2.2.2.2.2.2.2.2.2.2.1
theorem dX4_countUnlike_31 : decode cX4_countUnlike 31 = .ok (.iconst 1, 1) := qdX4_countUnlike_0_24.2.2.2.2.2.2.2.2.2.2.2.2.2.2.2.2.2.2.2.2.1
theorem dX4_countUnlike_32 : decode cX4_countUnlike 32 = .ok (.iadd, 1) := qdX4_countUnlike_0_24.2.2.2.2.2.2.2.2.2.2.2.2.2.2.2.2.2.2.2.2.2.1
theorem dX4_countUnlike_33 : decode cX4_countUnlike 33 = .ok (.istore_n 2, 1) := qdX4_countUnlike_0_24.2.2.2.2.2.2.2.2.2.2.2.2.2.2.2.2.2.2.2.2.2.2.1
theorem dX4_countUnlike_34 : decode cX4_countUnlike 34 = .ok (.iinc 3 1, 3) := qdX4_countUnlike_0_24.2.2.2.2.2.2.2.2.2.2.2.2.2.2.2.2.2.2.2.2.2.2.2.1
theorem qdX4_countUnlike_37_3 : dcAll cX4_countUnlike [(37, .goto (-33), 3), (40, .iload_n 2, 1), (41, .ireturn, 1)] := dcAll_of (by decide +kernel)
theorem dX4_countUnlike_37 : decode cX4_countUnlike 37 = .ok (.goto (-33), 3) := qdX4_countUnlike_37_3.1
theorem dX4_countUnlike_40 : decode cX4_countUnlike 40 = .ok (.iload_n 2, 1) := qdX4_countUnlike_37_3.2.1
theorem dX4_countUnlike_41 : decode cX4_countUnlike 41 = .ok (.ireturn, 1) := qdX4_countUnlike_37_3.2.2.1
theorem qdX4_firstUnlike_0_21 : dcAll cX4_firstUnlike [(0, .iconst 1, 1), (1, .istore_n 2, 1), (2, .iload_n 2, 1), (3, .bipush 120, 2), (5, .if_icmp .gt 27, 3), (8, .aload_n 0, 1), (9, .getfield 9, 3), (12, .iload_n 2, 1), (13, .laload, 1), (14, .aload_n 1, 1), (15, .getfield 9, 3), (18, .iload_n 2, 1), (19, .laload, 1), (20, .lcmp, 1), (21, .ifCond .eq 5, 3), (24, .iload_n 2, 1), (25, .ireturn, 1), (26, .iinc 2 1, 3), (29, .goto (-27), 3), (32, .iconst (-1), 1), (33, .ireturn, 1)] := dcAll_of (by decide +kernel)
theorem dX4_firstUnlike_0 : decode cX4_firstUnlike 0 = .ok (.iconst 1, 1) := qdX4_firstUnlike_0_21.1
theorem dX4_firstUnlike_1 : decode cX4_firstUnlike 1 = .ok (.istore_n 2, 1) := qdX4_firstUnlike_0_21.2.1
theorem dX4_firstUnlike_2 : decode cX4_firstUnlike 2 = .ok (.iload_n 2, 1) := qdX4_firstUnlike_0_21.2.2.1
theorem dX4_firstUnlike_3 : decode cX4_firstUnlike 3 = .ok (.bipush 120, 2) := qdX4_firstUnlike_0_21.2.2.2.1
theorem dX4_firstUnlike_5 : decode cX4_firstUnlike 5 = .ok (.if_icmp .gt 27, 3) := qdX4_firstUnlike_0_21.2.2.2.2.1
theorem dX4_firstUnlike_8 : decode cX4_firstUnlike 8 = .ok (.aload_n 0, 1) := qdX4_firstUnlike_0_21.2.2.2.2.2.1
theorem dX4_firstUnlike_9 : decode cX4_firstUnlike 9 = .ok (.getfield 9, 3) := qdX4_firstUnlike_0_21.2.2.2.2.2.2.1
theorem dX4_firstUnlike_12 : decode cX4_firstUnlike 12 = .ok (.iload_n 2, 1) := qdX4_firstUnlike_0_21.2.2.2.2.2.2.2.1
theorem dX4_firstUnlike_13 : decode cX4_firstUnlike 13 = .ok (.laload, 1) := qdX4_firstUnlike_0_21.2.2.2.2.2.2.2.2.1
theorem dX4_firstUnlike_14 : decode cX4_firstUnlike 14 = .ok (.aload_n 1, 1) := qdX4_firstUnlike_0_21.2.2.2.2.2.2.2.2.2.1
theorem dX4_firstUnlike_15 : decode cX4_firstUnlike 15 = .ok (.getfield 9, 3) := qdX4_firstUnlike_0_21.2.2.2.2.2.2.2.2.2.2.1
theorem dX4_firstUnlike_18 : decode cX4_firstUnlike 18 = .ok (.iload_n 2, 1) := qdX4_firstUnlike_0_21.2.2.2.2.2.2.2.2.2.2.2.1
theorem dX4_firstUnlike_19 : decode cX4_firstUnlike 19 = .ok (.laload, 1) := qdX4_firstUnlike_0_21.2.2.2.2.2.2.2.2.2.2.2.2.1
theorem dX4_firstUnlike_20 : decode cX4_firstUnlike 20 = .ok (.lcmp, 1) := qdX4_firstUnlike_0_21.2.2.2.2.2.2.2.2.2.2.2.2.2.1
theorem dX4_firstUnlike_21 : decode cX4_firstUnlike 21 = .ok (.ifCond .eq 5, 3) := qdX4_firstUnlike_0_21.2.2.2.2.2.2.2.2.2.2.2.2.2.2.1
theorem dX4_firstUnlike_24 : decode cX4_firstUnlike 24 = .ok (.iload_n 2, 1) := qdX4_firstUnlike_0_21.2.2.2.2.2.2.2.2.2.2.2.2.2.2.2.1
theorem dX4_firstUnlike_25 : decode cX4_firstUnlike 25 = .ok (.ireturn, 1) := qdX4_firstUnlike_0_21.2.2.2.2.2.2.2.2.2.2.2.2.2.2.2.2.1
theorem dX4_firstUnlike_26 : decode cX4_firstUnlike 26 = .ok (.iinc 2 1, 3) := qdX4_firstUnlike_0_21.2.2.2.2.2.2.2.2.2.2.2.2.2.2.2.2.2.1
theorem dX4_firstUnlike_29 : decode cX4_firstUnlike 29 = .ok (.goto (-27), 3) := qdX4_firstUnlike_0_21.2.2.2.2.2.2.2.2.2.2.2.2.2.2.2.2.2.2.1
theorem dX4_firstUnlike_32 : decode cX4_firstUnlike 32 = .ok (.iconst (-1), 1) := qdX4_firstUnlike_0_21.2.2.2.2.2.2.2.2.2.2.2.2.2.2.2.2.2.2.2.1
theorem dX4_firstUnlike_33 : decode cX4_firstUnlike 33 = .ok (.ireturn, 1) := qdX4_firstUnlike_0_21.2.2.2.2.2.2.2.2.2.2.2.2.2.2.2.2.2.2.2.2.1
theorem ggX4_isWithin_X4_at : GoodIn wsX4_isWithin wsX4_at := fun w h => ⟨List.mem_cons_of_mem _ (List.mem_append_right _ h), zq_X4_at w h⟩
set_option maxRecDepth 20000 in
theorem gX4_isWithin_X4_at : GoodIn wsX4_isWithin (wsV RX4 19 RX4 yX4_at wsX4_at) := goodIn_app (goodIn_r _ [1, 2, 3, 4] rfl rfl) ggX4_isWithin_X4_at
theorem qdX4_isWithin_0_24 : dcAll cX4_isWithin [(0, .iconst 1, 1), (1, .istore 4, 2), (3, .iload 4, 2), (5, .iload_n 1, 1), (6, .if_icmp .gt 34, 3), (9, .aload_n 0, 1), (10, .iload 4, 2), (12, .invokevirtual 19, 3), (15, .lload_n 2, 1), (16, .lcmp, 1), (17, .ifCond .gt 15, 3), (20, .aload_n 0, 1), (21, .iload 4, 2), (23, .invokevirtual 19, 3), (26, .lload_n 2, 1), (27, .lneg, 1), (28, .lcmp, 1), (29, .ifCond .ge 5, 3), (32, .iconst 0, 1), (33, .ireturn, 1), (34, .iinc 4 1, 3), (37, .goto (-34), 3), (40, .iconst 1, 1), (41, .ireturn, 1)] := dcAll_of (by decide +kernel)
theorem dX4_isWithin_0 : decode cX4_isWithin 0 = .ok (.iconst 1, 1) := qdX4_isWithin_0_24.1
theorem dX4_isWithin_1 : decode cX4_isWithin 1 = .ok (.istore 4, 2) := qdX4_isWithin_0_24.2.1
theorem dX4_isWithin_3 : decode cX4_isWithin 3 = .ok (.iload 4, 2) := qdX4_isWithin_0_24.2.2.1
theorem dX4_isWithin_5 : decode cX4_isWithin 5 = .ok (.iload_n 1, 1) := qdX4_isWithin_0_24.2.2.2.1
theorem dX4_isWithin_6 : decode cX4_isWithin 6 = .ok (.if_icmp .gt 34, 3) := qdX4_isWithin_0_24.2.2.2.2.1
theorem dX4_isWithin_9 : decode cX4_isWithin 9 = .ok (.aload_n 0, 1) := qdX4_isWithin_0_24.2.2.2.2.2.1
theorem dX4_isWithin_10 : decode cX4_isWithin 10 = .ok (.iload 4, 2) := qdX4_isWithin_0_24.2.2.2.2.2.2.1
theorem dX4_isWithin_12 : decode cX4_isWithin 12 = .ok (.invokevirtual 19, 3) := qdX4_isWithin_0_24.2.2.2.2.2.2.2.1
theorem dX4_isWithin_15 : decode cX4_isWithin 15 = .ok (.lload_n 2, 1) := qdX4_isWithin_0_24.2.2.2.2.2.2.2.2.1
theorem dX4_isWithin_16 : decode cX4_isWithin 16 = .ok (.lcmp, 1) := qdX4_isWithin_0_24.2.2.2.2.2.2.2.2.2.1
theorem dX4_isWithin_17 : decode cX4_isWithin 17 = .ok (.ifCond .gt 15, 3) := qdX4_isWithin_0_24.2.2.2.2.2.2.2.2.2.2.1
theorem dX4_isWithin_20 : decode cX4_isWithin 20 = .ok (.aload_n 0, 1) := qdX4_isWithin_0_24.2.2.2.2.2.2.2.2.2.2.2.1
theorem dX4_isWithin_21 : decode cX4_isWithin 21 = .ok (.iload 4, 2) := qdX4_isWithin_0_24.2.2.2.2.2.2.2.2.2.2.2.2.1
theorem dX4_isWithin_23 : decode cX4_isWithin 23 = .ok (.invokevirtual 19, 3) := qdX4_isWithin_0_24.2.2.2.2.2.2.2.2.2.2.2.2.2.1
theorem dX4_isWithin_26 : decode cX4_isWithin 26 = .ok (.lload_n 2, 1) := qdX4_isWithin_0_24.2.2.2.2.2.2.2.2.2.2.2.2.2.2.1
theorem dX4_isWithin_27 : decode cX4_isWithin 27 = .ok (.lneg, 1) := qdX4_isWithin_0_24.2.2.2.2.2.2.2.2.2.2.2.2.2.2.2.1
theorem dX4_isWithin_28 : decode cX4_isWithin 28 = .ok (.lcmp, 1) := qdX4_isWithin_0_24.2.2.2.2.2.2.2.2.2.2.2.2.2.2.2.2.1
theorem dX4_isWithin_29 : decode cX4_isWithin 29 = .ok (.ifCond .ge 5, 3) := qdX4_isWithin_0_24.2.2.2.2.2.2.2.2.2.2.2.2.2.2.2.2.2.1
theorem dX4_isWithin_32 : decode cX4_isWithin 32 = .ok (.iconst 0, 1) := qdX4_isWithin_0_24.2.2.2.2.2.2.2.2.2.2.2.2.2.2.2.2.2.2.1
theorem dX4_isWithin_33 : decode cX4_isWithin 33 = .ok (.ireturn, 1) := qdX4_isWithin_0_24.2.2.2.2.2.2.2.2.2.2.2.2.2.2.2.2.2.2.2.1
theorem dX4_isWithin_34 : decode cX4_isWithin 34 = .ok (.iinc 4 1, 3) := qdX4_isWithin_0_24.2.2.2.2.2.2.2.2.2.2.2.2.2.2.2.2.2.2.2.2.1
theorem dX4_isWithin_37 : decode cX4_isWithin 37 = .ok (.goto (-34), 3) := qdX4_isWithin_0_24.2.2.2.2.2.2.2.2.2.2.2.2.2.2.2.2.2.2.2.2.2.1
theorem dX4_isWithin_40 : decode cX4_isWithin 40 = .ok (.iconst 1, 1) := qdX4_isWithin_0_24.2.2.2.2.2.2.2.2.2.2.2.2.2.2.2.2.2.2.2.2.2.2.1
theorem dX4_isWithin_41 : decode cX4_isWithin 41 = .ok (.ireturn, 1) := qdX4_isWithin_0_24.2.2.2.2.2.2.2.2.2.2.2.2.2.2.2.2.2.2.2.2.2.2.2.1
theorem ggX4_totalTo_X4_at : GoodIn wsX4_totalTo wsX4_at := fun w h => ⟨List.mem_cons_of_mem _ (List.mem_append_right _ h), zq_X4_at w h⟩
set_option maxRecDepth 20000 in
theorem gX4_totalTo_X4_at : GoodIn wsX4_totalTo (wsV RX4 19 RX4 yX4_at wsX4_at) := goodIn_app (goodIn_r _ [1, 2, 3, 4] rfl rfl) ggX4_totalTo_X4_at
theorem qdX4_totalTo_0_17 : dcAll cX4_totalTo [(0, .lconst 0, 1), (1, .lstore_n 2, 1), (2, .iconst 1, 1), (3, .istore 4, 2), (5, .iload 4, 2), (7, .iload_n 1, 1), (8, .if_icmp .gt 18, 3), (11, .lload_n 2, 1), (12, .aload_n 0, 1), (13, .iload 4, 2), (15, .invokevirtual 19, 3), (18, .ladd, 1), (19, .lstore_n 2, 1), (20, .iinc 4 1, 3), (23, .goto (-18), 3), (26, .lload_n 2, 1), (27, .lreturn, 1)] := dcAll_of (by decide +kernel)
theorem dX4_totalTo_0 : decode cX4_totalTo 0 = .ok (.lconst 0, 1) := qdX4_totalTo_0_17.1
theorem dX4_totalTo_1 : decode cX4_totalTo 1 = .ok (.lstore_n 2, 1) := qdX4_totalTo_0_17.2.1
theorem dX4_totalTo_2 : decode cX4_totalTo 2 = .ok (.iconst 1, 1) := qdX4_totalTo_0_17.2.2.1
theorem dX4_totalTo_3 : decode cX4_totalTo 3 = .ok (.istore 4, 2) := qdX4_totalTo_0_17.2.2.2.1
theorem dX4_totalTo_5 : decode cX4_totalTo 5 = .ok (.iload 4, 2) := qdX4_totalTo_0_17.2.2.2.2.1
theorem dX4_totalTo_7 : decode cX4_totalTo 7 = .ok (.iload_n 1, 1) := qdX4_totalTo_0_17.2.2.2.2.2.1
theorem dX4_totalTo_8 : decode cX4_totalTo 8 = .ok (.if_icmp .gt 18, 3) := qdX4_totalTo_0_17.2.2.2.2.2.2.1
theorem dX4_totalTo_11 : decode cX4_totalTo 11 = .ok (.lload_n 2, 1) := qdX4_totalTo_0_17.2.2.2.2.2.2.2.1
theorem dX4_totalTo_12 : decode cX4_totalTo 12 = .ok (.aload_n 0, 1) := qdX4_totalTo_0_17.2.2.2.2.2.2.2.2.1
theorem dX4_totalTo_13 : decode cX4_totalTo 13 = .ok (.iload 4, 2) := qdX4_totalTo_0_17.2.2.2.2.2.2.2.2.2.1
theorem dX4_totalTo_15 : decode cX4_totalTo 15 = .ok (.invokevirtual 19, 3) := qdX4_totalTo_0_17.2.2.2.2.2.2.2.2.2.2.1
theorem dX4_totalTo_18 : decode cX4_totalTo 18 = .ok (.ladd, 1) := qdX4_totalTo_0_17.2.2.2.2.2.2.2.2.2.2.2.1
theorem dX4_totalTo_19 : decode cX4_totalTo 19 = .ok (.lstore_n 2, 1) := qdX4_totalTo_0_17.2.2.2.2.2.2.2.2.2.2.2.2.1
theorem dX4_totalTo_20 : decode cX4_totalTo 20 = .ok (.iinc 4 1, 3) := qdX4_totalTo_0_17.2.2.2.2.2.2.2.2.2.2.2.2.2.1
theorem dX4_totalTo_23 : decode cX4_totalTo 23 = .ok (.goto (-18), 3) := qdX4_totalTo_0_17.2.2.2.2.2.2.2.2.2.2.2.2.2.2.1
theorem dX4_totalTo_26 : decode cX4_totalTo 26 = .ok (.lload_n 2, 1) := qdX4_totalTo_0_17.2.2.2.2.2.2.2.2.2.2.2.2.2.2.2.1
theorem dX4_totalTo_27 : decode cX4_totalTo 27 = .ok (.lreturn, 1) := qdX4_totalTo_0_17.2.2.2.2.2.2.2.2.2.2.2.2.2.2.2.2.1
theorem ggX5_sumOfSequences_X1_commonOf : GoodIn wsX5_sumOfSequences wsX1_commonOf := fun w h => ⟨List.mem_cons_of_mem _ (List.mem_append_left _ (List.mem_append_left _ (List.mem_append_right _ h))), zq_X1_commonOf w h⟩
set_option maxRecDepth 20000 in
theorem gX5_sumOfSequences_X1_commonOf : GoodIn wsX5_sumOfSequences (va_wsS RX5 9 yX1_commonOf wsX1_commonOf) := goodIn_app (goodIn_r _ [1, 2, 3] rfl rfl) ggX5_sumOfSequences_X1_commonOf
theorem ggX5_sumOfSequences_X4_at : GoodIn wsX5_sumOfSequences wsX4_at := fun w h => ⟨List.mem_cons_of_mem _ (List.mem_append_left _ (List.mem_append_right _ h)), zq_X4_at w h⟩
set_option maxRecDepth 20000 in
theorem gX5_sumOfSequences_X4_at : GoodIn wsX5_sumOfSequences (wsV RX5 15 RX4 yX4_at wsX4_at) := goodIn_app (goodIn_r _ [4, 5, 6, 7] rfl rfl) ggX5_sumOfSequences_X4_at
theorem ggX5_sumOfSequences_X5_sumOfSequences : GoodIn wsX5_sumOfSequences wsX5_sumOfSequences := fun w h => ⟨h, zq_X5_sumOfSequences w h⟩
set_option maxRecDepth 20000 in
theorem gX5_sumOfSequences_X5_sumOfSequences : GoodIn wsX5_sumOfSequences (va_wsS RX5 21 yX5_sumOfSequences wsX5_sumOfSequences) := goodIn_app (goodIn_r _ [8, 9, 10] rfl rfl) ggX5_sumOfSequences_X5_sumOfSequences
theorem ggX5_sumOfSequences_J6_bitCount_0f7a4 : GoodIn wsX5_sumOfSequences wsJ6_bitCount_0f7a4 := fun w h => ⟨List.mem_cons_of_mem _ (List.mem_append_right _ h), zq_J6_bitCount_0f7a4 w h⟩
set_option maxRecDepth 20000 in
theorem gX5_sumOfSequences_J6_bitCount_0f7a4 : GoodIn wsX5_sumOfSequences (va_wsS RX5 25 yJ6_bitCount_0f7a4 wsJ6_bitCount_0f7a4) := goodIn_app (goodIn_r _ [11, 12, 13] rfl rfl) ggX5_sumOfSequences_J6_bitCount_0f7a4
theorem qdX5_sumOfSequences_0_24 : dcAll cX5_sumOfSequences [(0, .iload_n 2, 1), (1, .iload_n 1, 1), (2, .if_icmp .gt 9, 3), (5, .iload_n 2, 1), (6, .bipush 6, 2), (8, .if_icmp .le 5, 3), (11, .lconst 1, 1), (12, .lreturn, 1), (13, .lconst 0, 1), (14, .lstore 4, 2), (16, .iconst 1, 1), (17, .istore 6, 2), (19, .iload 6, 2), (21, .iload_n 1, 1), (22, .if_icmp .gt 83, 3), (25, .iload_n 3, 1), (26, .iload 6, 2), (28, .ishr, 1), (29, .iconst 1, 1), (30, .iand, 1), (31, .ifCond .ne 68, 3), (34, .aload_n 0, 1), (35, .iload_n 2, 1), (36, .iload 6, 2)] := dcAll_of (by decide +kernel)
theorem dX5_sumOfSequences_0 : decode cX5_sumOfSequences 0 = .ok (.iload_n 2, 1) := qdX5_sumOfSequences_0_24.1
theorem dX5_sumOfSequences_1 : decode cX5_sumOfSequences 1 = .ok (.iload_n 1, 1) := qdX5_sumOfSequences_0_24.2.1
theorem dX5_sumOfSequences_2 : decode cX5_sumOfSequences 2 = .ok (.if_icmp .gt 9, 3) := qdX5_sumOfSequences_0_24.2.2.1
theorem dX5_sumOfSequences_5 : decode cX5_sumOfSequences 5 = .ok (.iload_n 2, 1) := qdX5_sumOfSequences_0_24.2.2.2.1
theorem dX5_sumOfSequences_6 : decode cX5_sumOfSequences 6 = .ok (.bipush 6, 2) := qdX5_sumOfSequences_0_24.2.2.2.2.1
theorem dX5_sumOfSequences_8 : decode cX5_sumOfSequences 8 = .ok (.if_icmp .le 5, 3) := qdX5_sumOfSequences_0_24.2.2.2.2.2.1
theorem dX5_sumOfSequences_11 : decode cX5_sumOfSequences 11 = .ok (.lconst 1, 1) := qdX5_sumOfSequences_0_24.2.2.2.2.2.2.1
theorem dX5_sumOfSequences_12 : decode cX5_sumOfSequences 12 = .ok (.lreturn, 1) := qdX5_sumOfSequences_0_24.2.2.2.2.2.2.2.1
theorem dX5_sumOfSequences_13 : decode cX5_sumOfSequences 13 = .ok (.lconst 0, 1) := qdX5_sumOfSequences_0_24.2.2.2.2.2.2.2.2.1
theorem dX5_sumOfSequences_14 : decode cX5_sumOfSequences 14 = .ok (.lstore 4, 2) := qdX5_sumOfSequences_0_24.2.2.2.2.2.2.2.2.2.1
theorem dX5_sumOfSequences_16 : decode cX5_sumOfSequences 16 = .ok (.iconst 1, 1) := qdX5_sumOfSequences_0_24.2.2.2.2.2.2.2.2.2.2.1
theorem dX5_sumOfSequences_17 : decode cX5_sumOfSequences 17 = .ok (.istore 6, 2) := qdX5_sumOfSequences_0_24.2.2.2.2.2.2.2.2.2.2.2.1
theorem dX5_sumOfSequences_19 : decode cX5_sumOfSequences 19 = .ok (.iload 6, 2) := qdX5_sumOfSequences_0_24.2.2.2.2.2.2.2.2.2.2.2.2.1
theorem dX5_sumOfSequences_21 : decode cX5_sumOfSequences 21 = .ok (.iload_n 1, 1) := qdX5_sumOfSequences_0_24.2.2.2.2.2.2.2.2.2.2.2.2.2.1
theorem dX5_sumOfSequences_22 : decode cX5_sumOfSequences 22 = .ok (.if_icmp .gt 83, 3) := qdX5_sumOfSequences_0_24.2.2.2.2.2.2.2.2.2.2.2.2.2.2.1
theorem dX5_sumOfSequences_25 : decode cX5_sumOfSequences 25 = .ok (.iload_n 3, 1) := qdX5_sumOfSequences_0_24.2.2.2.2.2.2.2.2.2.2.2.2.2.2.2.1
theorem dX5_sumOfSequences_26 : decode cX5_sumOfSequences 26 = .ok (.iload 6, 2) := qdX5_sumOfSequences_0_24.2.2.2.2.2.2.2.2.2.2.2.2.2.2.2.2.1
theorem dX5_sumOfSequences_28 : decode cX5_sumOfSequences 28 = .ok (.ishr, 1) := qdX5_sumOfSequences_0_24.2.2.2.2.2.2.2.2.2.2.2.2.2.2.2.2.2.1
theorem dX5_sumOfSequences_29 : decode cX5_sumOfSequences 29 = .ok (.iconst 1, 1) := qdX5_sumOfSequences_0_24.2.2.2.2.2.2.2.2.2.2.2.2.2.2.2.2.2.2.1
theorem dX5_sumOfSequences_30 : decode cX5_sumOfSequences 30 = .ok (.iand, 1) := qdX5_sumOfSequences_0_24.2.2.2.2.2.2.2.2.2.2.2.2.2.2.2.2.2.2.2.1
theorem dX5_sumOfSequences_31 : decode cX5_sumOfSequences 31 = .ok (.ifCond .ne 68, 3) := qdX5_sumOfSequences_0_24.2.2.2.2.2.2.2.2.2.2.2.2.2.2.2.2.2.2.2.2.1
theorem dX5_sumOfSequences_34 : decode cX5_sumOfSequences 34 = .ok (.aload_n 0, 1) := qdX5_sumOfSequences_0_24.2.2.2.2.2.2.2.2.2.2.2.2.2.2.2.2.2.2.2.2.2.1
theorem dX5_sumOfSequences_35 : decode cX5_sumOfSequences 35 = .ok (.iload_n 2, 1) := qdX5_sumOfSequences_0_24.2.2.2.2.2.2.2.2.2.2.2.2.2.2.2.2.2.2.2.2.2.2.1
theorem dX5_sumOfSequences_36 : decode cX5_sumOfSequences 36 = .ok (.iload 6, 2) := qdX5_sumOfSequences_0_24.2.2.2.2.2.2.2.2.2.2.2.2.2.2.2.2.2.2.2.2.2.2.2.1
theorem qdX5_sumOfSequences_38_24 : dcAll cX5_sumOfSequences [(38, .invokestatic 9, 3), (41, .invokevirtual 15, 3), (44, .aload_n 0, 1), (45, .iload_n 1, 1), (46, .iload_n 2, 1), (47, .iconst 1, 1), (48, .iadd, 1), (49, .iload_n 3, 1), (50, .iconst 1, 1), (51, .iload 6, 2), (53, .ishl, 1), (54, .ior, 1), (55, .invokestatic 21, 3), (58, .lmul, 1), (59, .lstore 7, 2), (61, .iload_n 3, 1), (62, .iload 6, 2), (64, .ishr, 1), (65, .invokestatic 25, 3), (68, .iconst 1, 1), (69, .iand, 1), (70, .iconst 1, 1), (71, .if_icmp .ne 7, 3), (74, .iconst 1, 1)] := dcAll_of (by decide +kernel)
theorem dX5_sumOfSequences_38 : decode cX5_sumOfSequences 38 = .ok (.invokestatic 9, 3) := qdX5_sumOfSequences_38_24.1
theorem dX5_sumOfSequences_41 : decode cX5_sumOfSequences 41 = .ok (.invokevirtual 15, 3) := qdX5_sumOfSequences_38_24.2.1
theorem dX5_sumOfSequences_44 : decode cX5_sumOfSequences 44 = .ok (.aload_n 0, 1) := qdX5_sumOfSequences_38_24.2.2.1
theorem dX5_sumOfSequences_45 : decode cX5_sumOfSequences 45 = .ok (.iload_n 1, 1) := qdX5_sumOfSequences_38_24.2.2.2.1
theorem dX5_sumOfSequences_46 : decode cX5_sumOfSequences 46 = .ok (.iload_n 2, 1) := qdX5_sumOfSequences_38_24.2.2.2.2.1
theorem dX5_sumOfSequences_47 : decode cX5_sumOfSequences 47 = .ok (.iconst 1, 1) := qdX5_sumOfSequences_38_24.2.2.2.2.2.1
theorem dX5_sumOfSequences_48 : decode cX5_sumOfSequences 48 = .ok (.iadd, 1) := qdX5_sumOfSequences_38_24.2.2.2.2.2.2.1
theorem dX5_sumOfSequences_49 : decode cX5_sumOfSequences 49 = .ok (.iload_n 3, 1) := qdX5_sumOfSequences_38_24.2.2.2.2.2.2.2.1
theorem dX5_sumOfSequences_50 : decode cX5_sumOfSequences 50 = .ok (.iconst 1, 1) := qdX5_sumOfSequences_38_24.2.2.2.2.2.2.2.2.1
theorem dX5_sumOfSequences_51 : decode cX5_sumOfSequences 51 = .ok (.iload 6, 2) := qdX5_sumOfSequences_38_24.2.2.2.2.2.2.2.2.2.1
theorem dX5_sumOfSequences_53 : decode cX5_sumOfSequences 53 = .ok (.ishl, 1) := qdX5_sumOfSequences_38_24.2.2.2.2.2.2.2.2.2.2.1
theorem dX5_sumOfSequences_54 : decode cX5_sumOfSequences 54 = .ok (.ior, 1) := qdX5_sumOfSequences_38_24.2.2.2.2.2.2.2.2.2.2.2.1
theorem dX5_sumOfSequences_55 : decode cX5_sumOfSequences 55 = .ok (.invokestatic 21, 3) := qdX5_sumOfSequences_38_24.2.2.2.2.2.2.2.2.2.2.2.2.1
theorem dX5_sumOfSequences_58 : decode cX5_sumOfSequences 58 = .ok (.lmul, 1) := qdX5_sumOfSequences_38_24.2.2.2.2.2.2.2.2.2.2.2.2.2.1
theorem dX5_sumOfSequences_59 : decode cX5_sumOfSequences 59 = .ok (.lstore 7, 2) := qdX5_sumOfSequences_38_24.2.2.2.2.2.2.2.2.2.2.2.2.2.2.1
theorem dX5_sumOfSequences_61 : decode cX5_sumOfSequences 61 = .ok (.iload_n 3, 1) := qdX5_sumOfSequences_38_24.2.2.2.2.2.2.2.2.2.2.2.2.2.2.2.1
theorem dX5_sumOfSequences_62 : decode cX5_sumOfSequences 62 = .ok (.iload 6, 2) := qdX5_sumOfSequences_38_24.2.2.2.2.2.2.2.2.2.2.2.2.2.2.2.2.1
theorem dX5_sumOfSequences_64 : decode cX5_sumOfSequences 64 = .ok (.ishr, 1) := qdX5_sumOfSequences_38_24.2.2.2.2.2.2.2.2.2.2.2.2.2.2.2.2.2.1
theorem dX5_sumOfSequences_65 : decode cX5_sumOfSequences 65 = .ok (.invokestatic 25, 3) := qdX5_sumOfSequences_38_24.2.2.2.2.2.2.2.2.2.2.2.2.2.2.2.2.2.2.1
theorem dX5_sumOfSequences_68 : decode cX5_sumOfSequences 68 = .ok (.iconst 1, 1) := qdX5_sumOfSequences_38_24.2.2.2.2.2.2.2.2.2.2.2.2.2.2.2.2.2.2.2.1
theorem dX5_sumOfSequences_69 : decode cX5_sumOfSequences 69 = .ok (.iand, 1) := qdX5_sumOfSequences_38_24.2.2.2.2.2.2.2.2.2.2.2.2.2.2.2.2.2.2.2.2.1
theorem dX5_sumOfSequences_70 : decode cX5_sumOfSequences 70 = .ok (.iconst 1, 1) := qdX5_sumOfSequences_38_24.2.2.2.2.2.2.2.2.2.2.2.2.2.2.2.2.2.2.2.2.2.1
theorem dX5_sumOfSequences_71 : decode cX5_sumOfSequences 71 = .ok (.if_icmp .ne 7, 3) := qdX5_sumOfSequences_38_24.2.2.2.2.2.2.2.2.2.2.2.2.2.2.2.2.2.2.2.2.2.2.1
theorem dX5_sumOfSequences_74 : decode cX5_sumOfSequences 74 = .ok (.iconst 1, 1) := qdX5_sumOfSequences_38_24.2.2.2.2.2.2.2.2.2.2.2.2.2.2.2.2.2.2.2.2.2.2.2.1
theorem qdX5_sumOfSequences_75_16 : dcAll cX5_sumOfSequences [(75, .goto 4, 3), (78, .iconst 0, 1), (79, .istore 9, 2), (81, .lload 4, 2), (83, .iload 9, 2), (85, .ifCond .eq 9, 3), (88, .lload 7, 2), (90, .lneg, 1), (91, .goto 5, 3), (94, .lload 7, 2), (96, .ladd, 1), (97, .lstore 4, 2), (99, .iinc 6 1, 3), (102, .goto (-83), 3), (105, .lload 4, 2), (107, .lreturn, 1)] := dcAll_of (by decide +kernel)
theorem dX5_sumOfSequences_75 : decode cX5_sumOfSequences 75 = .ok (.goto 4, 3) := qdX5_sumOfSequences_75_16.1
theorem dX5_sumOfSequences_78 : decode cX5_sumOfSequences 78 = .ok (.iconst 0, 1) := qdX5_sumOfSequences_75_16.2.1
theorem dX5_sumOfSequences_79 : decode cX5_sumOfSequences 79 = .ok (.istore 9, 2) := qdX5_sumOfSequences_75_16.2.2.1
theorem dX5_sumOfSequences_81 : decode cX5_sumOfSequences 81 = .ok (.lload 4, 2) := qdX5_sumOfSequences_75_16.2.2.2.1
theorem dX5_sumOfSequences_83 : decode cX5_sumOfSequences 83 = .ok (.iload 9, 2) := qdX5_sumOfSequences_75_16.2.2.2.2.1
theorem dX5_sumOfSequences_85 : decode cX5_sumOfSequences 85 = .ok (.ifCond .eq 9, 3) := qdX5_sumOfSequences_75_16.2.2.2.2.2.1
theorem dX5_sumOfSequences_88 : decode cX5_sumOfSequences 88 = .ok (.lload 7, 2) := qdX5_sumOfSequences_75_16.2.2.2.2.2.2.1
theorem dX5_sumOfSequences_90 : decode cX5_sumOfSequences 90 = .ok (.lneg, 1) := qdX5_sumOfSequences_75_16.2.2.2.2.2.2.2.1
theorem dX5_sumOfSequences_91 : decode cX5_sumOfSequences 91 = .ok (.goto 5, 3) := qdX5_sumOfSequences_75_16.2.2.2.2.2.2.2.2.1
theorem dX5_sumOfSequences_94 : decode cX5_sumOfSequences 94 = .ok (.lload 7, 2) := qdX5_sumOfSequences_75_16.2.2.2.2.2.2.2.2.2.1
theorem dX5_sumOfSequences_96 : decode cX5_sumOfSequences 96 = .ok (.ladd, 1) := qdX5_sumOfSequences_75_16.2.2.2.2.2.2.2.2.2.2.1
theorem dX5_sumOfSequences_97 : decode cX5_sumOfSequences 97 = .ok (.lstore 4, 2) := qdX5_sumOfSequences_75_16.2.2.2.2.2.2.2.2.2.2.2.1
theorem dX5_sumOfSequences_99 : decode cX5_sumOfSequences 99 = .ok (.iinc 6 1, 3) := qdX5_sumOfSequences_75_16.2.2.2.2.2.2.2.2.2.2.2.2.1
theorem dX5_sumOfSequences_102 : decode cX5_sumOfSequences 102 = .ok (.goto (-83), 3) := qdX5_sumOfSequences_75_16.2.2.2.2.2.2.2.2.2.2.2.2.2.1
theorem dX5_sumOfSequences_105 : decode cX5_sumOfSequences 105 = .ok (.lload 4, 2) := qdX5_sumOfSequences_75_16.2.2.2.2.2.2.2.2.2.2.2.2.2.2.1
theorem dX5_sumOfSequences_107 : decode cX5_sumOfSequences 107 = .ok (.lreturn, 1) := qdX5_sumOfSequences_75_16.2.2.2.2.2.2.2.2.2.2.2.2.2.2.2.1
theorem ggX6_plainly_X4_at : GoodIn wsX6_plainly wsX4_at := fun w h => ⟨List.mem_cons_of_mem _ (List.mem_append_right _ h), zq_X4_at w h⟩
set_option maxRecDepth 20000 in
theorem gX6_plainly_X4_at : GoodIn wsX6_plainly (wsV RX6 9 RX4 yX4_at wsX4_at) := goodIn_app (goodIn_r _ [1, 2, 3, 4] rfl rfl) ggX6_plainly_X4_at
theorem qdX6_plainly_0_24 : dcAll cX6_plainly [(0, .lconst 0, 1), (1, .lstore_n 3, 1), (2, .iconst 1, 1), (3, .istore 5, 2), (5, .iload 5, 2), (7, .iload_n 2, 1), (8, .if_icmp .gt 52, 3), (11, .iconst 1, 1), (12, .istore 6, 2), (14, .iload 6, 2), (16, .iload 5, 2), (18, .if_icmp .gt 36, 3), (21, .iload 5, 2), (23, .iload 6, 2), (25, .irem, 1), (26, .ifCond .ne 22, 3), (29, .lload_n 3, 1), (30, .aload_n 0, 1), (31, .iload 6, 2), (33, .invokevirtual 9, 3), (36, .aload_n 1, 1), (37, .iload 5, 2), (39, .iload 6, 2), (41, .idiv, 1)] := dcAll_of (by decide +kernel)
theorem dX6_plainly_0 : decode cX6_plainly 0 = .ok (.lconst 0, 1) := qdX6_plainly_0_24.1
theorem dX6_plainly_1 : decode cX6_plainly 1 = .ok (.lstore_n 3, 1) := qdX6_plainly_0_24.2.1
theorem dX6_plainly_2 : decode cX6_plainly 2 = .ok (.iconst 1, 1) := qdX6_plainly_0_24.2.2.1
theorem dX6_plainly_3 : decode cX6_plainly 3 = .ok (.istore 5, 2) := qdX6_plainly_0_24.2.2.2.1
theorem dX6_plainly_5 : decode cX6_plainly 5 = .ok (.iload 5, 2) := qdX6_plainly_0_24.2.2.2.2.1
theorem dX6_plainly_7 : decode cX6_plainly 7 = .ok (.iload_n 2, 1) := qdX6_plainly_0_24.2.2.2.2.2.1
theorem dX6_plainly_8 : decode cX6_plainly 8 = .ok (.if_icmp .gt 52, 3) := qdX6_plainly_0_24.2.2.2.2.2.2.1
theorem dX6_plainly_11 : decode cX6_plainly 11 = .ok (.iconst 1, 1) := qdX6_plainly_0_24.2.2.2.2.2.2.2.1
theorem dX6_plainly_12 : decode cX6_plainly 12 = .ok (.istore 6, 2) := qdX6_plainly_0_24.2.2.2.2.2.2.2.2.1
theorem dX6_plainly_14 : decode cX6_plainly 14 = .ok (.iload 6, 2) := qdX6_plainly_0_24.2.2.2.2.2.2.2.2.2.1
theorem dX6_plainly_16 : decode cX6_plainly 16 = .ok (.iload 5, 2) := qdX6_plainly_0_24.2.2.2.2.2.2.2.2.2.2.1
theorem dX6_plainly_18 : decode cX6_plainly 18 = .ok (.if_icmp .gt 36, 3) := qdX6_plainly_0_24.2.2.2.2.2.2.2.2.2.2.2.1
theorem dX6_plainly_21 : decode cX6_plainly 21 = .ok (.iload 5, 2) := qdX6_plainly_0_24.2.2.2.2.2.2.2.2.2.2.2.2.1
theorem dX6_plainly_23 : decode cX6_plainly 23 = .ok (.iload 6, 2) := qdX6_plainly_0_24.2.2.2.2.2.2.2.2.2.2.2.2.2.1
theorem dX6_plainly_25 : decode cX6_plainly 25 = .ok (.irem, 1) := qdX6_plainly_0_24.2.2.2.2.2.2.2.2.2.2.2.2.2.2.1
theorem dX6_plainly_26 : decode cX6_plainly 26 = .ok (.ifCond .ne 22, 3) := qdX6_plainly_0_24.2.2.2.2.2.2.2.2.2.2.2.2.2.2.2.1
theorem dX6_plainly_29 : decode cX6_plainly 29 = .ok (.lload_n 3, 1) := qdX6_plainly_0_24.2.2.2.2.2.2.2.2.2.2.2.2.2.2.2.2.1
theorem dX6_plainly_30 : decode cX6_plainly 30 = .ok (.aload_n 0, 1) := qdX6_plainly_0_24.2.2.2.2.2.2.2.2.2.2.2.2.2.2.2.2.2.1
theorem dX6_plainly_31 : decode cX6_plainly 31 = .ok (.iload 6, 2) := qdX6_plainly_0_24.2.2.2.2.2.2.2.2.2.2.2.2.2.2.2.2.2.2.1
theorem dX6_plainly_33 : decode cX6_plainly 33 = .ok (.invokevirtual 9, 3) := qdX6_plainly_0_24.2.2.2.2.2.2.2.2.2.2.2.2.2.2.2.2.2.2.2.1
theorem dX6_plainly_36 : decode cX6_plainly 36 = .ok (.aload_n 1, 1) := qdX6_plainly_0_24.2.2.2.2.2.2.2.2.2.2.2.2.2.2.2.2.2.2.2.2.1
theorem dX6_plainly_37 : decode cX6_plainly 37 = .ok (.iload 5, 2) := qdX6_plainly_0_24.2.2.2.2.2.2.2.2.2.2.2.2.2.2.2.2.2.2.2.2.2.1
theorem dX6_plainly_39 : decode cX6_plainly 39 = .ok (.iload 6, 2) := qdX6_plainly_0_24.2.2.2.2.2.2.2.2.2.2.2.2.2.2.2.2.2.2.2.2.2.2.1
theorem dX6_plainly_41 : decode cX6_plainly 41 = .ok (.idiv, 1) := qdX6_plainly_0_24.2.2.2.2.2.2.2.2.2.2.2.2.2.2.2.2.2.2.2.2.2.2.2.1
theorem qdX6_plainly_42_10 : dcAll cX6_plainly [(42, .invokevirtual 9, 3), (45, .lmul, 1), (46, .ladd, 1), (47, .lstore_n 3, 1), (48, .iinc 6 1, 3), (51, .goto (-37), 3), (54, .iinc 5 1, 3), (57, .goto (-52), 3), (60, .lload_n 3, 1), (61, .lreturn, 1)] := dcAll_of (by decide +kernel)
theorem dX6_plainly_42 : decode cX6_plainly 42 = .ok (.invokevirtual 9, 3) := qdX6_plainly_42_10.1
theorem dX6_plainly_45 : decode cX6_plainly 45 = .ok (.lmul, 1) := qdX6_plainly_42_10.2.1
theorem dX6_plainly_46 : decode cX6_plainly 46 = .ok (.ladd, 1) := qdX6_plainly_42_10.2.2.1
theorem dX6_plainly_47 : decode cX6_plainly 47 = .ok (.lstore_n 3, 1) := qdX6_plainly_42_10.2.2.2.1
theorem dX6_plainly_48 : decode cX6_plainly 48 = .ok (.iinc 6 1, 3) := qdX6_plainly_42_10.2.2.2.2.1
theorem dX6_plainly_51 : decode cX6_plainly 51 = .ok (.goto (-37), 3) := qdX6_plainly_42_10.2.2.2.2.2.1
theorem dX6_plainly_54 : decode cX6_plainly 54 = .ok (.iinc 5 1, 3) := qdX6_plainly_42_10.2.2.2.2.2.2.1
theorem dX6_plainly_57 : decode cX6_plainly 57 = .ok (.goto (-52), 3) := qdX6_plainly_42_10.2.2.2.2.2.2.2.1
theorem dX6_plainly_60 : decode cX6_plainly 60 = .ok (.lload_n 3, 1) := qdX6_plainly_42_10.2.2.2.2.2.2.2.2.1
theorem dX6_plainly_61 : decode cX6_plainly 61 = .ok (.lreturn, 1) := qdX6_plainly_42_10.2.2.2.2.2.2.2.2.2.1
theorem ggX6_byQuotients_X6_byQuotientsTo : GoodIn wsX6_byQuotients wsX6_byQuotientsTo := fun w h => ⟨List.mem_cons_of_mem _ (List.mem_append_right _ h), zq_X6_byQuotientsTo w h⟩
set_option maxRecDepth 20000 in
theorem gX6_byQuotients_X6_byQuotientsTo : GoodIn wsX6_byQuotients (va_wsS RX6 15 yX6_byQuotientsTo wsX6_byQuotientsTo) := goodIn_app (goodIn_r _ [1, 2, 3] rfl rfl) ggX6_byQuotients_X6_byQuotientsTo
theorem qdX6_byQuotients_0_6 : dcAll cX6_byQuotients [(0, .iload_n 2, 1), (1, .aload_n 0, 1), (2, .aload_n 1, 1), (3, .iload_n 2, 1), (4, .invokestatic 15, 3), (7, .lreturn, 1)] := dcAll_of (by decide +kernel)
theorem dX6_byQuotients_0 : decode cX6_byQuotients 0 = .ok (.iload_n 2, 1) := qdX6_byQuotients_0_6.1
theorem dX6_byQuotients_1 : decode cX6_byQuotients 1 = .ok (.aload_n 0, 1) := qdX6_byQuotients_0_6.2.1
theorem dX6_byQuotients_2 : decode cX6_byQuotients 2 = .ok (.aload_n 1, 1) := qdX6_byQuotients_0_6.2.2.1
theorem dX6_byQuotients_3 : decode cX6_byQuotients 3 = .ok (.iload_n 2, 1) := qdX6_byQuotients_0_6.2.2.2.1
theorem dX6_byQuotients_4 : decode cX6_byQuotients 4 = .ok (.invokestatic 15, 3) := qdX6_byQuotients_0_6.2.2.2.2.1
theorem dX6_byQuotients_7 : decode cX6_byQuotients 7 = .ok (.lreturn, 1) := qdX6_byQuotients_0_6.2.2.2.2.2.1
theorem ggX6_byRoot_X6_byQuotientsTo : GoodIn wsX6_byRoot wsX6_byQuotientsTo := fun w h => ⟨List.mem_cons_of_mem _ (List.mem_append_left _ (List.mem_append_right _ h)), zq_X6_byQuotientsTo w h⟩
set_option maxRecDepth 20000 in
theorem gX6_byRoot_X6_byQuotientsTo : GoodIn wsX6_byRoot (va_wsS RX6 15 yX6_byQuotientsTo wsX6_byQuotientsTo) := goodIn_app (goodIn_r _ [1, 2, 3] rfl rfl) ggX6_byRoot_X6_byQuotientsTo
theorem ggX6_byRoot_X4_totalTo : GoodIn wsX6_byRoot wsX4_totalTo := fun w h => ⟨List.mem_cons_of_mem _ (List.mem_append_right _ h), zq_X4_totalTo w h⟩
set_option maxRecDepth 20000 in
theorem gX6_byRoot_X4_totalTo : GoodIn wsX6_byRoot (wsV RX6 21 RX4 yX4_totalTo wsX4_totalTo) := goodIn_app (goodIn_r _ [5, 6, 7, 4] rfl rfl) ggX6_byRoot_X4_totalTo
theorem qdX6_byRoot_0_24 : dcAll cX6_byRoot [(0, .iconst 0, 1), (1, .istore_n 3, 1), (2, .iload_n 3, 1), (3, .bipush 31, 2), (5, .if_icmp .ge 20, 3), (8, .iload_n 3, 1), (9, .iconst 1, 1), (10, .iadd, 1), (11, .iload_n 3, 1), (12, .iconst 1, 1), (13, .iadd, 1), (14, .imul, 1), (15, .iload_n 2, 1), (16, .if_icmp .gt 9, 3), (19, .iinc 3 1, 3), (22, .goto (-20), 3), (25, .iload_n 3, 1), (26, .aload_n 0, 1), (27, .aload_n 1, 1), (28, .iload_n 2, 1), (29, .invokestatic 15, 3), (32, .iload_n 3, 1), (33, .aload_n 1, 1), (34, .aload_n 0, 1)] := dcAll_of (by decide +kernel)
theorem dX6_byRoot_0 : decode cX6_byRoot 0 = .ok (.iconst 0, 1) := qdX6_byRoot_0_24.1
theorem dX6_byRoot_1 : decode cX6_byRoot 1 = .ok (.istore_n 3, 1) := qdX6_byRoot_0_24.2.1
theorem dX6_byRoot_2 : decode cX6_byRoot 2 = .ok (.iload_n 3, 1) := qdX6_byRoot_0_24.2.2.1
theorem dX6_byRoot_3 : decode cX6_byRoot 3 = .ok (.bipush 31, 2) := qdX6_byRoot_0_24.2.2.2.1
theorem dX6_byRoot_5 : decode cX6_byRoot 5 = .ok (.if_icmp .ge 20, 3) := qdX6_byRoot_0_24.2.2.2.2.1
theorem dX6_byRoot_8 : decode cX6_byRoot 8 = .ok (.iload_n 3, 1) := qdX6_byRoot_0_24.2.2.2.2.2.1
theorem dX6_byRoot_9 : decode cX6_byRoot 9 = .ok (.iconst 1, 1) := qdX6_byRoot_0_24.2.2.2.2.2.2.1
theorem dX6_byRoot_10 : decode cX6_byRoot 10 = .ok (.iadd, 1) := qdX6_byRoot_0_24.2.2.2.2.2.2.2.1
theorem dX6_byRoot_11 : decode cX6_byRoot 11 = .ok (.iload_n 3, 1) := qdX6_byRoot_0_24.2.2.2.2.2.2.2.2.1
theorem dX6_byRoot_12 : decode cX6_byRoot 12 = .ok (.iconst 1, 1) := qdX6_byRoot_0_24.2.2.2.2.2.2.2.2.2.1
theorem dX6_byRoot_13 : decode cX6_byRoot 13 = .ok (.iadd, 1) := qdX6_byRoot_0_24.2.2.2.2.2.2.2.2.2.2.1
theorem dX6_byRoot_14 : decode cX6_byRoot 14 = .ok (.imul, 1) := qdX6_byRoot_0_24.2.2.2.2.2.2.2.2.2.2.2.1
theorem dX6_byRoot_15 : decode cX6_byRoot 15 = .ok (.iload_n 2, 1) := qdX6_byRoot_0_24.2.2.2.2.2.2.2.2.2.2.2.2.1
theorem dX6_byRoot_16 : decode cX6_byRoot 16 = .ok (.if_icmp .gt 9, 3) := qdX6_byRoot_0_24.2.2.2.2.2.2.2.2.2.2.2.2.2.1
theorem dX6_byRoot_19 : decode cX6_byRoot 19 = .ok (.iinc 3 1, 3) := qdX6_byRoot_0_24.2.2.2.2.2.2.2.2.2.2.2.2.2.2.1
theorem dX6_byRoot_22 : decode cX6_byRoot 22 = .ok (.goto (-20), 3) := qdX6_byRoot_0_24.2.2.2.2.2.2.2.2.2.2.2.2.2.2.2.1
theorem dX6_byRoot_25 : decode cX6_byRoot 25 = .ok (.iload_n 3, 1) := qdX6_byRoot_0_24.2.2.2.2.2.2.2.2.2.2.2.2.2.2.2.2.1
theorem dX6_byRoot_26 : decode cX6_byRoot 26 = .ok (.aload_n 0, 1) := qdX6_byRoot_0_24.2.2.2.2.2.2.2.2.2.2.2.2.2.2.2.2.2.1
theorem dX6_byRoot_27 : decode cX6_byRoot 27 = .ok (.aload_n 1, 1) := qdX6_byRoot_0_24.2.2.2.2.2.2.2.2.2.2.2.2.2.2.2.2.2.2.1
theorem dX6_byRoot_28 : decode cX6_byRoot 28 = .ok (.iload_n 2, 1) := qdX6_byRoot_0_24.2.2.2.2.2.2.2.2.2.2.2.2.2.2.2.2.2.2.2.1
theorem dX6_byRoot_29 : decode cX6_byRoot 29 = .ok (.invokestatic 15, 3) := qdX6_byRoot_0_24.2.2.2.2.2.2.2.2.2.2.2.2.2.2.2.2.2.2.2.2.1
theorem dX6_byRoot_32 : decode cX6_byRoot 32 = .ok (.iload_n 3, 1) := qdX6_byRoot_0_24.2.2.2.2.2.2.2.2.2.2.2.2.2.2.2.2.2.2.2.2.2.1
theorem dX6_byRoot_33 : decode cX6_byRoot 33 = .ok (.aload_n 1, 1) := qdX6_byRoot_0_24.2.2.2.2.2.2.2.2.2.2.2.2.2.2.2.2.2.2.2.2.2.2.1
theorem dX6_byRoot_34 : decode cX6_byRoot 34 = .ok (.aload_n 0, 1) := qdX6_byRoot_0_24.2.2.2.2.2.2.2.2.2.2.2.2.2.2.2.2.2.2.2.2.2.2.2.1
theorem qdX6_byRoot_35_12 : dcAll cX6_byRoot [(35, .iload_n 2, 1), (36, .invokestatic 15, 3), (39, .ladd, 1), (40, .aload_n 0, 1), (41, .iload_n 3, 1), (42, .invokevirtual 21, 3), (45, .aload_n 1, 1), (46, .iload_n 3, 1), (47, .invokevirtual 21, 3), (50, .lmul, 1), (51, .lsub, 1), (52, .lreturn, 1)] := dcAll_of (by decide +kernel)
theorem dX6_byRoot_35 : decode cX6_byRoot 35 = .ok (.iload_n 2, 1) := qdX6_byRoot_35_12.1
theorem dX6_byRoot_36 : decode cX6_byRoot 36 = .ok (.invokestatic 15, 3) := qdX6_byRoot_35_12.2.1
theorem dX6_byRoot_39 : decode cX6_byRoot 39 = .ok (.ladd, 1) := qdX6_byRoot_35_12.2.2.1
theorem dX6_byRoot_40 : decode cX6_byRoot 40 = .ok (.aload_n 0, 1) := qdX6_byRoot_35_12.2.2.2.1
theorem dX6_byRoot_41 : decode cX6_byRoot 41 = .ok (.iload_n 3, 1) := qdX6_byRoot_35_12.2.2.2.2.1
theorem dX6_byRoot_42 : decode cX6_byRoot 42 = .ok (.invokevirtual 21, 3) := qdX6_byRoot_35_12.2.2.2.2.2.1
theorem dX6_byRoot_45 : decode cX6_byRoot 45 = .ok (.aload_n 1, 1) := qdX6_byRoot_35_12.2.2.2.2.2.2.1
theorem dX6_byRoot_46 : decode cX6_byRoot 46 = .ok (.iload_n 3, 1) := qdX6_byRoot_35_12.2.2.2.2.2.2.2.1
theorem dX6_byRoot_47 : decode cX6_byRoot 47 = .ok (.invokevirtual 21, 3) := qdX6_byRoot_35_12.2.2.2.2.2.2.2.2.1
theorem dX6_byRoot_50 : decode cX6_byRoot 50 = .ok (.lmul, 1) := qdX6_byRoot_35_12.2.2.2.2.2.2.2.2.2.1
theorem dX6_byRoot_51 : decode cX6_byRoot 51 = .ok (.lsub, 1) := qdX6_byRoot_35_12.2.2.2.2.2.2.2.2.2.2.1
theorem dX6_byRoot_52 : decode cX6_byRoot 52 = .ok (.lreturn, 1) := qdX6_byRoot_35_12.2.2.2.2.2.2.2.2.2.2.2.1
theorem ggX6_byQuotientsTo_X4_at : GoodIn wsX6_byQuotientsTo wsX4_at := fun w h => ⟨List.mem_cons_of_mem _ (List.mem_append_left _ (List.mem_append_right _ h)), zq_X4_at w h⟩
set_option maxRecDepth 20000 in
theorem gX6_byQuotientsTo_X4_at : GoodIn wsX6_byQuotientsTo (wsV RX6 9 RX4 yX4_at wsX4_at) := goodIn_app (goodIn_r _ [1, 2, 3, 4] rfl rfl) ggX6_byQuotientsTo_X4_at
theorem ggX6_byQuotientsTo_X4_totalTo : GoodIn wsX6_byQuotientsTo wsX4_totalTo := fun w h => ⟨List.mem_cons_of_mem _ (List.mem_append_right _ h), zq_X4_totalTo w h⟩
set_option maxRecDepth 20000 in
theorem gX6_byQuotientsTo_X4_totalTo : GoodIn wsX6_byQuotientsTo (wsV RX6 21 RX4 yX4_totalTo wsX4_totalTo) := goodIn_app (goodIn_r _ [5, 6, 7, 4] rfl rfl) ggX6_byQuotientsTo_X4_totalTo
theorem qdX6_byQuotientsTo_0_23 : dcAll cX6_byQuotientsTo [(0, .lconst 0, 1), (1, .lstore 4, 2), (3, .iconst 1, 1), (4, .istore 6, 2), (6, .iload 6, 2), (8, .iload_n 0, 1), (9, .if_icmp .gt 29, 3), (12, .lload 4, 2), (14, .aload_n 1, 1), (15, .iload 6, 2), (17, .invokevirtual 9, 3), (20, .aload_n 2, 1), (21, .iload_n 3, 1), (22, .iload 6, 2), (24, .idiv, 1), (25, .invokevirtual 21, 3), (28, .lmul, 1), (29, .ladd, 1), (30, .lstore 4, 2), (32, .iinc 6 1, 3), (35, .goto (-29), 3), (38, .lload 4, 2), (40, .lreturn, 1)] := dcAll_of (by decide +kernel)
theorem dX6_byQuotientsTo_0 : decode cX6_byQuotientsTo 0 = .ok (.lconst 0, 1) := qdX6_byQuotientsTo_0_23.1
theorem dX6_byQuotientsTo_1 : decode cX6_byQuotientsTo 1 = .ok (.lstore 4, 2) := qdX6_byQuotientsTo_0_23.2.1
theorem dX6_byQuotientsTo_3 : decode cX6_byQuotientsTo 3 = .ok (.iconst 1, 1) := qdX6_byQuotientsTo_0_23.2.2.1
theorem dX6_byQuotientsTo_4 : decode cX6_byQuotientsTo 4 = .ok (.istore 6, 2) := qdX6_byQuotientsTo_0_23.2.2.2.1
theorem dX6_byQuotientsTo_6 : decode cX6_byQuotientsTo 6 = .ok (.iload 6, 2) := qdX6_byQuotientsTo_0_23.2.2.2.2.1
theorem dX6_byQuotientsTo_8 : decode cX6_byQuotientsTo 8 = .ok (.iload_n 0, 1) := qdX6_byQuotientsTo_0_23.2.2.2.2.2.1
theorem dX6_byQuotientsTo_9 : decode cX6_byQuotientsTo 9 = .ok (.if_icmp .gt 29, 3) := qdX6_byQuotientsTo_0_23.2.2.2.2.2.2.1
theorem dX6_byQuotientsTo_12 : decode cX6_byQuotientsTo 12 = .ok (.lload 4, 2) := qdX6_byQuotientsTo_0_23.2.2.2.2.2.2.2.1
theorem dX6_byQuotientsTo_14 : decode cX6_byQuotientsTo 14 = .ok (.aload_n 1, 1) := qdX6_byQuotientsTo_0_23.2.2.2.2.2.2.2.2.1
theorem dX6_byQuotientsTo_15 : decode cX6_byQuotientsTo 15 = .ok (.iload 6, 2) := qdX6_byQuotientsTo_0_23.2.2.2.2.2.2.2.2.2.1
theorem dX6_byQuotientsTo_17 : decode cX6_byQuotientsTo 17 = .ok (.invokevirtual 9, 3) := qdX6_byQuotientsTo_0_23.2.2.2.2.2.2.2.2.2.2.1
theorem dX6_byQuotientsTo_20 : decode cX6_byQuotientsTo 20 = .ok (.aload_n 2, 1) := qdX6_byQuotientsTo_0_23.2.2.2.2.2.2.2.2.2.2.2.1
theorem dX6_byQuotientsTo_21 : decode cX6_byQuotientsTo 21 = .ok (.iload_n 3, 1) := qdX6_byQuotientsTo_0_23.2.2.2.2.2.2.2.2.2.2.2.2.1
theorem dX6_byQuotientsTo_22 : decode cX6_byQuotientsTo 22 = .ok (.iload 6, 2) := qdX6_byQuotientsTo_0_23.2.2.2.2.2.2.2.2.2.2.2.2.2.1
theorem dX6_byQuotientsTo_24 : decode cX6_byQuotientsTo 24 = .ok (.idiv, 1) := qdX6_byQuotientsTo_0_23.2.2.2.2.2.2.2.2.2.2.2.2.2.2.1
theorem dX6_byQuotientsTo_25 : decode cX6_byQuotientsTo 25 = .ok (.invokevirtual 21, 3) := qdX6_byQuotientsTo_0_23.2.2.2.2.2.2.2.2.2.2.2.2.2.2.2.1
theorem dX6_byQuotientsTo_28 : decode cX6_byQuotientsTo 28 = .ok (.lmul, 1) := qdX6_byQuotientsTo_0_23.2.2.2.2.2.2.2.2.2.2.2.2.2.2.2.2.1
theorem dX6_byQuotientsTo_29 : decode cX6_byQuotientsTo 29 = .ok (.ladd, 1) := qdX6_byQuotientsTo_0_23.2.2.2.2.2.2.2.2.2.2.2.2.2.2.2.2.2.1
theorem dX6_byQuotientsTo_30 : decode cX6_byQuotientsTo 30 = .ok (.lstore 4, 2) := qdX6_byQuotientsTo_0_23.2.2.2.2.2.2.2.2.2.2.2.2.2.2.2.2.2.2.1
theorem dX6_byQuotientsTo_32 : decode cX6_byQuotientsTo 32 = .ok (.iinc 6 1, 3) := qdX6_byQuotientsTo_0_23.2.2.2.2.2.2.2.2.2.2.2.2.2.2.2.2.2.2.2.1
theorem dX6_byQuotientsTo_35 : decode cX6_byQuotientsTo 35 = .ok (.goto (-29), 3) := qdX6_byQuotientsTo_0_23.2.2.2.2.2.2.2.2.2.2.2.2.2.2.2.2.2.2.2.2.1
theorem dX6_byQuotientsTo_38 : decode cX6_byQuotientsTo 38 = .ok (.lload 4, 2) := qdX6_byQuotientsTo_0_23.2.2.2.2.2.2.2.2.2.2.2.2.2.2.2.2.2.2.2.2.2.1
theorem dX6_byQuotientsTo_40 : decode cX6_byQuotientsTo 40 = .ok (.lreturn, 1) := qdX6_byQuotientsTo_0_23.2.2.2.2.2.2.2.2.2.2.2.2.2.2.2.2.2.2.2.2.2.2.1
theorem ggX7_init_X4_init : GoodIn wsX7_init wsX4_init := fun w h => ⟨List.mem_cons_of_mem _ (List.mem_append_left _ (List.mem_append_left _ (List.mem_append_left _ (List.mem_append_right _ h)))), zq_X4_init w h⟩
set_option maxRecDepth 20000 in
theorem gX7_init_X4_init_n15 : GoodIn wsX7_init (wsX4_init) := ggX7_init_X4_init
theorem ggX7_init_X3_init : GoodIn wsX7_init wsX3_init := fun w h => ⟨List.mem_cons_of_mem _ (List.mem_append_left _ (List.mem_append_left _ (List.mem_append_right _ h))), zq_X3_init w h⟩
set_option maxRecDepth 20000 in
theorem gX7_init_X3_init_n25 : GoodIn wsX7_init (wsX3_init) := ggX7_init_X3_init
theorem ggX7_init_X1_init : GoodIn wsX7_init wsX1_init := fun w h => ⟨List.mem_cons_of_mem _ (List.mem_append_left _ (List.mem_append_right _ h)), zq_X1_init w h⟩
set_option maxRecDepth 20000 in
theorem gX7_init_X1_init_n32 : GoodIn wsX7_init (wsX1_init) := ggX7_init_X1_init
theorem ggX7_init_X0_init : GoodIn wsX7_init wsX0_init := fun w h => ⟨List.mem_cons_of_mem _ (List.mem_append_right _ h), zq_X0_init w h⟩
set_option maxRecDepth 20000 in
theorem gX7_init_X0_init : GoodIn wsX7_init (wsX0_init) := ggX7_init_X0_init
theorem qdX7_init_0_24 : dcAll cX7_init [(0, .aload_n 0, 1), (1, .invokespecial 1, 3), (4, .aload_n 0, 1), (5, .iconst 4, 1), (6, .anewarray 9, 3), (9, .putfield 11, 3), (12, .aload_n 0, 1), (13, .new 9, 3), (16, .dup, 1), (17, .invokespecial 15, 3), (20, .putfield 16, 3), (23, .aload_n 0, 1), (24, .new 9, 3), (27, .dup, 1), (28, .invokespecial 15, 3), (31, .putfield 20, 3), (34, .aload_n 0, 1), (35, .new 23, 3), (38, .dup, 1), (39, .invokespecial 25, 3), (42, .putfield 26, 3), (45, .aload_n 0, 1), (46, .new 30, 3), (49, .dup, 1)] := dcAll_of (by decide +kernel)
theorem dX7_init_0 : decode cX7_init 0 = .ok (.aload_n 0, 1) := qdX7_init_0_24.1
theorem dX7_init_1 : decode cX7_init 1 = .ok (.invokespecial 1, 3) := qdX7_init_0_24.2.1
theorem dX7_init_4 : decode cX7_init 4 = .ok (.aload_n 0, 1) := qdX7_init_0_24.2.2.1
theorem dX7_init_5 : decode cX7_init 5 = .ok (.iconst 4, 1) := qdX7_init_0_24.2.2.2.1
theorem dX7_init_6 : decode cX7_init 6 = .ok (.anewarray 9, 3) := qdX7_init_0_24.2.2.2.2.1
theorem dX7_init_9 : decode cX7_init 9 = .ok (.putfield 11, 3) := qdX7_init_0_24.2.2.2.2.2.1
theorem dX7_init_12 : decode cX7_init 12 = .ok (.aload_n 0, 1) := qdX7_init_0_24.2.2.2.2.2.2.1
theorem dX7_init_13 : decode cX7_init 13 = .ok (.new 9, 3) := qdX7_init_0_24.2.2.2.2.2.2.2.1
theorem dX7_init_16 : decode cX7_init 16 = .ok (.dup, 1) := qdX7_init_0_24.2.2.2.2.2.2.2.2.1
theorem dX7_init_17 : decode cX7_init 17 = .ok (.invokespecial 15, 3) := qdX7_init_0_24.2.2.2.2.2.2.2.2.2.1
theorem dX7_init_20 : decode cX7_init 20 = .ok (.putfield 16, 3) := qdX7_init_0_24.2.2.2.2.2.2.2.2.2.2.1
theorem dX7_init_23 : decode cX7_init 23 = .ok (.aload_n 0, 1) := qdX7_init_0_24.2.2.2.2.2.2.2.2.2.2.2.1
theorem dX7_init_24 : decode cX7_init 24 = .ok (.new 9, 3) := qdX7_init_0_24.2.2.2.2.2.2.2.2.2.2.2.2.1
theorem dX7_init_27 : decode cX7_init 27 = .ok (.dup, 1) := qdX7_init_0_24.2.2.2.2.2.2.2.2.2.2.2.2.2.1
theorem dX7_init_28 : decode cX7_init 28 = .ok (.invokespecial 15, 3) := qdX7_init_0_24.2.2.2.2.2.2.2.2.2.2.2.2.2.2.1
theorem dX7_init_31 : decode cX7_init 31 = .ok (.putfield 20, 3) := qdX7_init_0_24.2.2.2.2.2.2.2.2.2.2.2.2.2.2.2.1
theorem dX7_init_34 : decode cX7_init 34 = .ok (.aload_n 0, 1) := qdX7_init_0_24.2.2.2.2.2.2.2.2.2.2.2.2.2.2.2.2.1
theorem dX7_init_35 : decode cX7_init 35 = .ok (.new 23, 3) := qdX7_init_0_24.2.2.2.2.2.2.2.2.2.2.2.2.2.2.2.2.2.1
theorem dX7_init_38 : decode cX7_init 38 = .ok (.dup, 1) := qdX7_init_0_24.2.2.2.2.2.2.2.2.2.2.2.2.2.2.2.2.2.2.1
theorem dX7_init_39 : decode cX7_init 39 = .ok (.invokespecial 25, 3) := qdX7_init_0_24.2.2.2.2.2.2.2.2.2.2.2.2.2.2.2.2.2.2.2.1
theorem dX7_init_42 : decode cX7_init 42 = .ok (.putfield 26, 3) := qdX7_init_0_24.2.2.2.2.2.2.2.2.2.2.2.2.2.2.2.2.2.2.2.2.1
theorem dX7_init_45 : decode cX7_init 45 = .ok (.aload_n 0, 1) := qdX7_init_0_24.2.2.2.2.2.2.2.2.2.2.2.2.2.2.2.2.2.2.2.2.2.1
theorem dX7_init_46 : decode cX7_init 46 = .ok (.new 30, 3) := qdX7_init_0_24.2.2.2.2.2.2.2.2.2.2.2.2.2.2.2.2.2.2.2.2.2.2.1
theorem dX7_init_49 : decode cX7_init 49 = .ok (.dup, 1) := qdX7_init_0_24.2.2.2.2.2.2.2.2.2.2.2.2.2.2.2.2.2.2.2.2.2.2.2.1
theorem qdX7_init_50_24 : dcAll cX7_init [(50, .invokespecial 32, 3), (53, .putfield 33, 3), (56, .aload_n 0, 1), (57, .new 37, 3), (60, .dup, 1), (61, .aload_n 0, 1), (62, .getfield 26, 3), (65, .aload_n 0, 1), (66, .getfield 33, 3), (69, .invokespecial 39, 3), (72, .putfield 42, 3), (75, .iconst 0, 1), (76, .istore_n 1, 1), (77, .iload_n 1, 1), (78, .iconst 4, 1), (79, .if_icmp .ge 22, 3), (82, .aload_n 0, 1), (83, .getfield 11, 3), (86, .iload_n 1, 1), (87, .new 9, 3), (90, .dup, 1), (91, .invokespecial 15, 3), (94, .aastore, 1), (95, .iinc 1 1, 3)] := dcAll_of (by decide +kernel)
theorem dX7_init_50 : decode cX7_init 50 = .ok (.invokespecial 32, 3) := qdX7_init_50_24.1
theorem dX7_init_53 : decode cX7_init 53 = .ok (.putfield 33, 3) := qdX7_init_50_24.2.1
theorem dX7_init_56 : decode cX7_init 56 = .ok (.aload_n 0, 1) := qdX7_init_50_24.2.2.1
theorem dX7_init_57 : decode cX7_init 57 = .ok (.new 37, 3) := qdX7_init_50_24.2.2.2.1
theorem dX7_init_60 : decode cX7_init 60 = .ok (.dup, 1) := qdX7_init_50_24.2.2.2.2.1
theorem dX7_init_61 : decode cX7_init 61 = .ok (.aload_n 0, 1) := qdX7_init_50_24.2.2.2.2.2.1
theorem dX7_init_62 : decode cX7_init 62 = .ok (.getfield 26, 3) := qdX7_init_50_24.2.2.2.2.2.2.1
theorem dX7_init_65 : decode cX7_init 65 = .ok (.aload_n 0, 1) := qdX7_init_50_24.2.2.2.2.2.2.2.1
theorem dX7_init_66 : decode cX7_init 66 = .ok (.getfield 33, 3) := qdX7_init_50_24.2.2.2.2.2.2.2.2.1
theorem dX7_init_69 : decode cX7_init 69 = .ok (.invokespecial 39, 3) := qdX7_init_50_24.2.2.2.2.2.2.2.2.2.1
theorem dX7_init_72 : decode cX7_init 72 = .ok (.putfield 42, 3) := qdX7_init_50_24.2.2.2.2.2.2.2.2.2.2.1
theorem dX7_init_75 : decode cX7_init 75 = .ok (.iconst 0, 1) := qdX7_init_50_24.2.2.2.2.2.2.2.2.2.2.2.1
theorem dX7_init_76 : decode cX7_init 76 = .ok (.istore_n 1, 1) := qdX7_init_50_24.2.2.2.2.2.2.2.2.2.2.2.2.1
theorem dX7_init_77 : decode cX7_init 77 = .ok (.iload_n 1, 1) := qdX7_init_50_24.2.2.2.2.2.2.2.2.2.2.2.2.2.1
theorem dX7_init_78 : decode cX7_init 78 = .ok (.iconst 4, 1) := qdX7_init_50_24.2.2.2.2.2.2.2.2.2.2.2.2.2.2.1
theorem dX7_init_79 : decode cX7_init 79 = .ok (.if_icmp .ge 22, 3) := qdX7_init_50_24.2.2.2.2.2.2.2.2.2.2.2.2.2.2.2.1
theorem dX7_init_82 : decode cX7_init 82 = .ok (.aload_n 0, 1) := qdX7_init_50_24.2.2.2.2.2.2.2.2.2.2.2.2.2.2.2.2.1
theorem dX7_init_83 : decode cX7_init 83 = .ok (.getfield 11, 3) := qdX7_init_50_24.2.2.2.2.2.2.2.2.2.2.2.2.2.2.2.2.2.1
theorem dX7_init_86 : decode cX7_init 86 = .ok (.iload_n 1, 1) := qdX7_init_50_24.2.2.2.2.2.2.2.2.2.2.2.2.2.2.2.2.2.2.1
theorem dX7_init_87 : decode cX7_init 87 = .ok (.new 9, 3) := qdX7_init_50_24.2.2.2.2.2.2.2.2.2.2.2.2.2.2.2.2.2.2.2.1
theorem dX7_init_90 : decode cX7_init 90 = .ok (.dup, 1) := qdX7_init_50_24.2.2.2.2.2.2.2.2.2.2.2.2.2.2.2.2.2.2.2.2.1
theorem dX7_init_91 : decode cX7_init 91 = .ok (.invokespecial 15, 3) := qdX7_init_50_24.2.2.2.2.2.2.2.2.2.2.2.2.2.2.2.2.2.2.2.2.2.1
theorem dX7_init_94 : decode cX7_init 94 = .ok (.aastore, 1) := qdX7_init_50_24.2.2.2.2.2.2.2.2.2.2.2.2.2.2.2.2.2.2.2.2.2.2.1
theorem dX7_init_95 : decode cX7_init 95 = .ok (.iinc 1 1, 3) := qdX7_init_50_24.2.2.2.2.2.2.2.2.2.2.2.2.2.2.2.2.2.2.2.2.2.2.2.1
theorem qdX7_init_98_2 : dcAll cX7_init [(98, .goto (-21), 3), (101, .return_, 1)] := dcAll_of (by decide +kernel)
theorem dX7_init_98 : decode cX7_init 98 = .ok (.goto (-21), 3) := qdX7_init_98_2.1
theorem dX7_init_101 : decode cX7_init 101 = .ok (.return_, 1) := qdX7_init_98_2.2.1
theorem ggX7_know_X7_rowOf : GoodIn wsX7_know wsX7_rowOf := fun w h => ⟨List.mem_cons_of_mem _ (List.mem_append_left _ (List.mem_append_left _ (List.mem_append_left _ (List.mem_append_left _ (List.mem_append_right _ h))))), zq_X7_rowOf w h⟩
set_option maxRecDepth 20000 in
theorem gX7_know_X7_rowOf : GoodIn wsX7_know (wsV RX7 46 RX7 yX7_rowOf wsX7_rowOf) := goodIn_app (goodIn_r _ [2, 3, 4, 5] rfl rfl) ggX7_know_X7_rowOf
theorem ggX7_know_X7_need : GoodIn wsX7_know wsX7_need := fun w h => ⟨List.mem_cons_of_mem _ (List.mem_append_left _ (List.mem_append_left _ (List.mem_append_left _ (List.mem_append_right _ h)))), zq_X7_need w h⟩
set_option maxRecDepth 20000 in
theorem gX7_know_X7_need : GoodIn wsX7_know (va_wsS RX7 50 yX7_need wsX7_need) := goodIn_app (goodIn_r _ [7, 8, 5] rfl rfl) ggX7_know_X7_need
theorem ggX7_know_X1_known : GoodIn wsX7_know wsX1_known := fun w h => ⟨List.mem_cons_of_mem _ (List.mem_append_left _ (List.mem_append_left _ (List.mem_append_right _ h))), zq_X1_known w h⟩
set_option maxRecDepth 20000 in
theorem gX7_know_X1_known : GoodIn wsX7_know (wsV RX7 54 RX1 yX1_known wsX1_known) := goodIn_app (goodIn_r _ [10, 11, 12, 13] rfl rfl) ggX7_know_X1_known
theorem ggX7_know_X4_lay : GoodIn wsX7_know wsX4_lay := fun w h => ⟨List.mem_cons_of_mem _ (List.mem_append_left _ (List.mem_append_right _ h)), zq_X4_lay w h⟩
set_option maxRecDepth 20000 in
theorem gX7_know_X4_lay : GoodIn wsX7_know (wsV RX7 58 RX4 yX4_lay wsX4_lay) := goodIn_app (goodIn_r _ [15, 16, 17, 18] rfl rfl) ggX7_know_X4_lay
theorem ggX7_know_X7_become : GoodIn wsX7_know wsX7_become := fun w h => ⟨List.mem_cons_of_mem _ (List.mem_append_right _ h), zq_X7_become w h⟩
set_option maxRecDepth 20000 in
theorem gX7_know_X7_become : GoodIn wsX7_know (wsV RX7 62 RX7 yX7_become wsX7_become) := goodIn_app (goodIn_r _ [19, 20, 21, 5] rfl rfl) ggX7_know_X7_become
theorem qdX7_know_0_24 : dcAll cX7_know [(0, .aload_n 0, 1), (1, .iload_n 1, 1), (2, .invokevirtual 46, 3), (5, .astore_n 3, 1), (6, .iload_n 2, 1), (7, .iconst 0, 1), (8, .bipush 10, 2), (10, .invokestatic 50, 3), (13, .iconst 1, 1), (14, .istore 4, 2), (16, .iload 4, 2), (18, .bipush 120, 2), (20, .if_icmp .gt 28, 3), (23, .aload_n 0, 1), (24, .getfield 16, 3), (27, .iload 4, 2), (29, .aload_n 0, 1), (30, .getfield 33, 3), (33, .iload_n 2, 1), (34, .iload 4, 2), (36, .invokevirtual 54, 3), (39, .invokevirtual 58, 3), (42, .iinc 4 1, 3), (45, .goto (-29), 3)] := dcAll_of (by decide +kernel)
theorem dX7_know_0 : decode cX7_know 0 = .ok (.aload_n 0, 1) := qdX7_know_0_24.1
theorem dX7_know_1 : decode cX7_know 1 = .ok (.iload_n 1, 1) := qdX7_know_0_24.2.1
theorem dX7_know_2 : decode cX7_know 2 = .ok (.invokevirtual 46, 3) := qdX7_know_0_24.2.2.1
theorem dX7_know_5 : decode cX7_know 5 = .ok (.astore_n 3, 1) := qdX7_know_0_24.2.2.2.1
theorem dX7_know_6 : decode cX7_know 6 = .ok (.iload_n 2, 1) := qdX7_know_0_24.2.2.2.2.1
theorem dX7_know_7 : decode cX7_know 7 = .ok (.iconst 0, 1) := qdX7_know_0_24.2.2.2.2.2.1
theorem dX7_know_8 : decode cX7_know 8 = .ok (.bipush 10, 2) := qdX7_know_0_24.2.2.2.2.2.2.1
theorem dX7_know_10 : decode cX7_know 10 = .ok (.invokestatic 50, 3) := qdX7_know_0_24.2.2.2.2.2.2.2.1
theorem dX7_know_13 : decode cX7_know 13 = .ok (.iconst 1, 1) := qdX7_know_0_24.2.2.2.2.2.2.2.2.1
theorem dX7_know_14 : decode cX7_know 14 = .ok (.istore 4, 2) := qdX7_know_0_24.2.2.2.2.2.2.2.2.2.1
theorem dX7_know_16 : decode cX7_know 16 = .ok (.iload 4, 2) := qdX7_know_0_24.2.2.2.2.2.2.2.2.2.2.1
theorem dX7_know_18 : decode cX7_know 18 = .ok (.bipush 120, 2) := qdX7_know_0_24.2.2.2.2.2.2.2.2.2.2.2.1
theorem dX7_know_20 : decode cX7_know 20 = .ok (.if_icmp .gt 28, 3) := qdX7_know_0_24.2.2.2.2.2.2.2.2.2.2.2.2.1
theorem dX7_know_23 : decode cX7_know 23 = .ok (.aload_n 0, 1) := qdX7_know_0_24.2.2.2.2.2.2.2.2.2.2.2.2.2.1
theorem dX7_know_24 : decode cX7_know 24 = .ok (.getfield 16, 3) := qdX7_know_0_24.2.2.2.2.2.2.2.2.2.2.2.2.2.2.1
theorem dX7_know_27 : decode cX7_know 27 = .ok (.iload 4, 2) := qdX7_know_0_24.2.2.2.2.2.2.2.2.2.2.2.2.2.2.2.1
theorem dX7_know_29 : decode cX7_know 29 = .ok (.aload_n 0, 1) := qdX7_know_0_24.2.2.2.2.2.2.2.2.2.2.2.2.2.2.2.2.1
theorem dX7_know_30 : decode cX7_know 30 = .ok (.getfield 33, 3) := qdX7_know_0_24.2.2.2.2.2.2.2.2.2.2.2.2.2.2.2.2.2.1
theorem dX7_know_33 : decode cX7_know 33 = .ok (.iload_n 2, 1) := qdX7_know_0_24.2.2.2.2.2.2.2.2.2.2.2.2.2.2.2.2.2.2.1
theorem dX7_know_34 : decode cX7_know 34 = .ok (.iload 4, 2) := qdX7_know_0_24.2.2.2.2.2.2.2.2.2.2.2.2.2.2.2.2.2.2.2.1
theorem dX7_know_36 : decode cX7_know 36 = .ok (.invokevirtual 54, 3) := qdX7_know_0_24.2.2.2.2.2.2.2.2.2.2.2.2.2.2.2.2.2.2.2.2.1
theorem dX7_know_39 : decode cX7_know 39 = .ok (.invokevirtual 58, 3) := qdX7_know_0_24.2.2.2.2.2.2.2.2.2.2.2.2.2.2.2.2.2.2.2.2.2.1
theorem dX7_know_42 : decode cX7_know 42 = .ok (.iinc 4 1, 3) := qdX7_know_0_24.2.2.2.2.2.2.2.2.2.2.2.2.2.2.2.2.2.2.2.2.2.2.1
theorem dX7_know_45 : decode cX7_know 45 = .ok (.goto (-29), 3) := qdX7_know_0_24.2.2.2.2.2.2.2.2.2.2.2.2.2.2.2.2.2.2.2.2.2.2.2.1
theorem qdX7_know_48_4 : dcAll cX7_know [(48, .aload_n 0, 1), (49, .aload_n 3, 1), (50, .invokevirtual 62, 3), (53, .ireturn, 1)] := dcAll_of (by decide +kernel)
theorem dX7_know_48 : decode cX7_know 48 = .ok (.aload_n 0, 1) := qdX7_know_48_4.1
theorem dX7_know_49 : decode cX7_know 49 = .ok (.aload_n 3, 1) := qdX7_know_48_4.2.1
theorem dX7_know_50 : decode cX7_know 50 = .ok (.invokevirtual 62, 3) := qdX7_know_48_4.2.2.1
theorem dX7_know_53 : decode cX7_know 53 = .ok (.ireturn, 1) := qdX7_know_48_4.2.2.2.1
theorem ggX7_put_X7_rowOf : GoodIn wsX7_put wsX7_rowOf := fun w h => ⟨List.mem_cons_of_mem _ (List.mem_append_left _ (List.mem_append_left _ (List.mem_append_right _ h))), zq_X7_rowOf w h⟩
set_option maxRecDepth 20000 in
theorem gX7_put_X7_rowOf : GoodIn wsX7_put (wsV RX7 46 RX7 yX7_rowOf wsX7_rowOf) := goodIn_app (goodIn_r _ [1, 2, 3, 4] rfl rfl) ggX7_put_X7_rowOf
theorem ggX7_put_X7_need : GoodIn wsX7_put wsX7_need := fun w h => ⟨List.mem_cons_of_mem _ (List.mem_append_left _ (List.mem_append_right _ h)), zq_X7_need w h⟩
set_option maxRecDepth 20000 in
theorem gX7_put_X7_need : GoodIn wsX7_put (va_wsS RX7 50 yX7_need wsX7_need) := goodIn_app (goodIn_r _ [6, 7, 4] rfl rfl) ggX7_put_X7_need
theorem ggX7_put_X7_putLong : GoodIn wsX7_put wsX7_putLong := fun w h => ⟨List.mem_cons_of_mem _ (List.mem_append_right _ h), zq_X7_putLong w h⟩
set_option maxRecDepth 20000 in
theorem gX7_put_X7_putLong : GoodIn wsX7_put (wsV RX7 66 RX7 yX7_putLong wsX7_putLong) := goodIn_app (goodIn_r _ [9, 10, 11, 4] rfl rfl) ggX7_put_X7_putLong
theorem qdX7_put_0_15 : dcAll cX7_put [(0, .aload_n 0, 1), (1, .iload_n 1, 1), (2, .invokevirtual 46, 3), (5, .astore 4, 2), (7, .iload_n 2, 1), (8, .iconst 1, 1), (9, .bipush 120, 2), (11, .invokestatic 50, 3), (14, .aload_n 0, 1), (15, .aload 4, 2), (17, .iload_n 2, 1), (18, .iload_n 3, 1), (19, .i2l, 1), (20, .invokevirtual 66, 3), (23, .ireturn, 1)] := dcAll_of (by decide +kernel)
theorem dX7_put_0 : decode cX7_put 0 = .ok (.aload_n 0, 1) := qdX7_put_0_15.1
theorem dX7_put_1 : decode cX7_put 1 = .ok (.iload_n 1, 1) := qdX7_put_0_15.2.1
theorem dX7_put_2 : decode cX7_put 2 = .ok (.invokevirtual 46, 3) := qdX7_put_0_15.2.2.1
theorem dX7_put_5 : decode cX7_put 5 = .ok (.astore 4, 2) := qdX7_put_0_15.2.2.2.1
theorem dX7_put_7 : decode cX7_put 7 = .ok (.iload_n 2, 1) := qdX7_put_0_15.2.2.2.2.1
theorem dX7_put_8 : decode cX7_put 8 = .ok (.iconst 1, 1) := qdX7_put_0_15.2.2.2.2.2.1
theorem dX7_put_9 : decode cX7_put 9 = .ok (.bipush 120, 2) := qdX7_put_0_15.2.2.2.2.2.2.1
theorem dX7_put_11 : decode cX7_put 11 = .ok (.invokestatic 50, 3) := qdX7_put_0_15.2.2.2.2.2.2.2.1
theorem dX7_put_14 : decode cX7_put 14 = .ok (.aload_n 0, 1) := qdX7_put_0_15.2.2.2.2.2.2.2.2.1
theorem dX7_put_15 : decode cX7_put 15 = .ok (.aload 4, 2) := qdX7_put_0_15.2.2.2.2.2.2.2.2.2.1
theorem dX7_put_17 : decode cX7_put 17 = .ok (.iload_n 2, 1) := qdX7_put_0_15.2.2.2.2.2.2.2.2.2.2.1
theorem dX7_put_18 : decode cX7_put 18 = .ok (.iload_n 3, 1) := qdX7_put_0_15.2.2.2.2.2.2.2.2.2.2.2.1
theorem dX7_put_19 : decode cX7_put 19 = .ok (.i2l, 1) := qdX7_put_0_15.2.2.2.2.2.2.2.2.2.2.2.2.1
theorem dX7_put_20 : decode cX7_put 20 = .ok (.invokevirtual 66, 3) := qdX7_put_0_15.2.2.2.2.2.2.2.2.2.2.2.2.2.1
theorem dX7_put_23 : decode cX7_put 23 = .ok (.ireturn, 1) := qdX7_put_0_15.2.2.2.2.2.2.2.2.2.2.2.2.2.2.1
theorem ggX7_putWide_X7_rowOf : GoodIn wsX7_putWide wsX7_rowOf := fun w h => ⟨List.mem_cons_of_mem _ (List.mem_append_left _ (List.mem_append_left _ (List.mem_append_right _ h))), zq_X7_rowOf w h⟩
set_option maxRecDepth 20000 in
theorem gX7_putWide_X7_rowOf : GoodIn wsX7_putWide (wsV RX7 46 RX7 yX7_rowOf wsX7_rowOf) := goodIn_app (goodIn_r _ [2, 3, 4, 5] rfl rfl) ggX7_putWide_X7_rowOf
theorem ggX7_putWide_X7_need : GoodIn wsX7_putWide wsX7_need := fun w h => ⟨List.mem_cons_of_mem _ (List.mem_append_left _ (List.mem_append_right _ h)), zq_X7_need w h⟩
set_option maxRecDepth 20000 in
theorem gX7_putWide_X7_need : GoodIn wsX7_putWide (va_wsS RX7 50 yX7_need wsX7_need) := goodIn_app (goodIn_r _ [7, 8, 5] rfl rfl) ggX7_putWide_X7_need
theorem ggX7_putWide_X7_putLong : GoodIn wsX7_putWide wsX7_putLong := fun w h => ⟨List.mem_cons_of_mem _ (List.mem_append_right _ h), zq_X7_putLong w h⟩
set_option maxRecDepth 20000 in
theorem gX7_putWide_X7_putLong : GoodIn wsX7_putWide (wsV RX7 66 RX7 yX7_putLong wsX7_putLong) := goodIn_app (goodIn_r _ [10, 11, 12, 5] rfl rfl) ggX7_putWide_X7_putLong
theorem qdX7_putWide_0_22 : dcAll cX7_putWide [(0, .aload_n 0, 1), (1, .iload_n 1, 1), (2, .invokevirtual 46, 3), (5, .astore 5, 2), (7, .iload_n 2, 1), (8, .iconst 1, 1), (9, .bipush 120, 2), (11, .invokestatic 50, 3), (14, .aload_n 0, 1), (15, .aload 5, 2), (17, .iload_n 2, 1), (18, .iload_n 3, 1), (19, .i2l, 1), (20, .bipush 32, 2), (22, .lshl, 1), (23, .iload 4, 2), (25, .i2l, 1), (26, .ldc2_w 70, 3), (29, .land, 1), (30, .lor, 1), (31, .invokevirtual 66, 3), (34, .ireturn, 1)] := dcAll_of (by decide +kernel)
theorem dX7_putWide_0 : decode cX7_putWide 0 = .ok (.aload_n 0, 1) := qdX7_putWide_0_22.1
theorem dX7_putWide_1 : decode cX7_putWide 1 = .ok (.iload_n 1, 1) := qdX7_putWide_0_22.2.1
theorem dX7_putWide_2 : decode cX7_putWide 2 = .ok (.invokevirtual 46, 3) := qdX7_putWide_0_22.2.2.1
theorem dX7_putWide_5 : decode cX7_putWide 5 = .ok (.astore 5, 2) := qdX7_putWide_0_22.2.2.2.1
theorem dX7_putWide_7 : decode cX7_putWide 7 = .ok (.iload_n 2, 1) := qdX7_putWide_0_22.2.2.2.2.1
theorem dX7_putWide_8 : decode cX7_putWide 8 = .ok (.iconst 1, 1) := qdX7_putWide_0_22.2.2.2.2.2.1
theorem dX7_putWide_9 : decode cX7_putWide 9 = .ok (.bipush 120, 2) := qdX7_putWide_0_22.2.2.2.2.2.2.1
theorem dX7_putWide_11 : decode cX7_putWide 11 = .ok (.invokestatic 50, 3) := qdX7_putWide_0_22.2.2.2.2.2.2.2.1
theorem dX7_putWide_14 : decode cX7_putWide 14 = .ok (.aload_n 0, 1) := qdX7_putWide_0_22.2.2.2.2.2.2.2.2.1
theorem dX7_putWide_15 : decode cX7_putWide 15 = .ok (.aload 5, 2) := qdX7_putWide_0_22.2.2.2.2.2.2.2.2.2.1
theorem dX7_putWide_17 : decode cX7_putWide 17 = .ok (.iload_n 2, 1) := qdX7_putWide_0_22.2.2.2.2.2.2.2.2.2.2.1
theorem dX7_putWide_18 : decode cX7_putWide 18 = .ok (.iload_n 3, 1) := qdX7_putWide_0_22.2.2.2.2.2.2.2.2.2.2.2.1
theorem dX7_putWide_19 : decode cX7_putWide 19 = .ok (.i2l, 1) := qdX7_putWide_0_22.2.2.2.2.2.2.2.2.2.2.2.2.1
theorem dX7_putWide_20 : decode cX7_putWide 20 = .ok (.bipush 32, 2) := qdX7_putWide_0_22.2.2.2.2.2.2.2.2.2.2.2.2.2.1
theorem dX7_putWide_22 : decode cX7_putWide 22 = .ok (.lshl, 1) := qdX7_putWide_0_22.2.2.2.2.2.2.2.2.2.2.2.2.2.2.1
theorem dX7_putWide_23 : decode cX7_putWide 23 = .ok (.iload 4, 2) := qdX7_putWide_0_22.2.2.2.2.2.2.2.2.2.2.2.2.2.2.2.1
theorem dX7_putWide_25 : decode cX7_putWide 25 = .ok (.i2l, 1) := qdX7_putWide_0_22.2.2.2.2.2.2.2.2.2.2.2.2.2.2.2.2.1
theorem dX7_putWide_26 : decode cX7_putWide 26 = .ok (.ldc2_w 70, 3) := qdX7_putWide_0_22.2.2.2.2.2.2.2.2.2.2.2.2.2.2.2.2.2.1
theorem dX7_putWide_29 : decode cX7_putWide 29 = .ok (.land, 1) := qdX7_putWide_0_22.2.2.2.2.2.2.2.2.2.2.2.2.2.2.2.2.2.2.1
theorem dX7_putWide_30 : decode cX7_putWide 30 = .ok (.lor, 1) := qdX7_putWide_0_22.2.2.2.2.2.2.2.2.2.2.2.2.2.2.2.2.2.2.2.1
theorem dX7_putWide_31 : decode cX7_putWide 31 = .ok (.invokevirtual 66, 3) := qdX7_putWide_0_22.2.2.2.2.2.2.2.2.2.2.2.2.2.2.2.2.2.2.2.2.1
theorem dX7_putWide_34 : decode cX7_putWide 34 = .ok (.ireturn, 1) := qdX7_putWide_0_22.2.2.2.2.2.2.2.2.2.2.2.2.2.2.2.2.2.2.2.2.2.1
theorem ggX7_sow_X7_rowOf : GoodIn wsX7_sow wsX7_rowOf := fun w h => ⟨List.mem_cons_of_mem _ (List.mem_append_left _ (List.mem_append_left _ (List.mem_append_right _ h))), zq_X7_rowOf w h⟩
set_option maxRecDepth 20000 in
theorem gX7_sow_X7_rowOf : GoodIn wsX7_sow (wsV RX7 46 RX7 yX7_rowOf wsX7_rowOf) := goodIn_app (goodIn_r _ [4, 5, 6, 7] rfl rfl) ggX7_sow_X7_rowOf
theorem ggX7_sow_X7_need : GoodIn wsX7_sow wsX7_need := fun w h => ⟨List.mem_cons_of_mem _ (List.mem_append_left _ (List.mem_append_right _ h)), zq_X7_need w h⟩
set_option maxRecDepth 20000 in
theorem gX7_sow_X7_need : GoodIn wsX7_sow (va_wsS RX7 50 yX7_need wsX7_need) := goodIn_app (goodIn_r _ [9, 10, 7] rfl rfl) ggX7_sow_X7_need
theorem ggX7_sow_X4_lay : GoodIn wsX7_sow wsX4_lay := fun w h => ⟨List.mem_cons_of_mem _ (List.mem_append_right _ h), zq_X4_lay w h⟩
set_option maxRecDepth 20000 in
theorem gX7_sow_X4_lay : GoodIn wsX7_sow (wsV RX7 58 RX4 yX4_lay wsX4_lay) := goodIn_app (goodIn_r _ [12, 13, 14, 15] rfl rfl) ggX7_sow_X4_lay
theorem qdX7_sow_0_24 : dcAll cX7_sow [(0, .aload_n 0, 1), (1, .iload_n 1, 1), (2, .invokevirtual 46, 3), (5, .astore 4, 2), (7, .iload_n 2, 1), (8, .iconst 0, 1), (9, .ldc 72, 2), (11, .invokestatic 50, 3), (14, .iload_n 3, 1), (15, .iconst 0, 1), (16, .sipush 500, 3), (19, .invokestatic 50, 3), (22, .iconst 2, 1), (23, .iload_n 3, 1), (24, .imul, 1), (25, .iconst 1, 1), (26, .iadd, 1), (27, .istore 5, 2), (29, .iload_n 2, 1), (30, .istore 6, 2), (32, .iconst 0, 1), (33, .istore 7, 2), (35, .iconst 1, 1), (36, .istore 8, 2)] := dcAll_of (by decide +kernel)
theorem dX7_sow_0 : decode cX7_sow 0 = .ok (.aload_n 0, 1) := qdX7_sow_0_24.1
theorem dX7_sow_1 : decode cX7_sow 1 = .ok (.iload_n 1, 1) := qdX7_sow_0_24.2.1
theorem dX7_sow_2 : decode cX7_sow 2 = .ok (.invokevirtual 46, 3) := qdX7_sow_0_24.2.2.1
theorem dX7_sow_5 : decode cX7_sow 5 = .ok (.astore 4, 2) := qdX7_sow_0_24.2.2.2.1
theorem dX7_sow_7 : decode cX7_sow 7 = .ok (.iload_n 2, 1) := qdX7_sow_0_24.2.2.2.2.1
theorem dX7_sow_8 : decode cX7_sow 8 = .ok (.iconst 0, 1) := qdX7_sow_0_24.2.2.2.2.2.1
theorem dX7_sow_9 : decode cX7_sow 9 = .ok (.ldc 72, 2) := qdX7_sow_0_24.2.2.2.2.2.2.1
theorem dX7_sow_11 : decode cX7_sow 11 = .ok (.invokestatic 50, 3) := qdX7_sow_0_24.2.2.2.2.2.2.2.1
theorem dX7_sow_14 : decode cX7_sow 14 = .ok (.iload_n 3, 1) := qdX7_sow_0_24.2.2.2.2.2.2.2.2.1
theorem dX7_sow_15 : decode cX7_sow 15 = .ok (.iconst 0, 1) := qdX7_sow_0_24.2.2.2.2.2.2.2.2.2.1
theorem dX7_sow_16 : decode cX7_sow 16 = .ok (.sipush 500, 3) := qdX7_sow_0_24.2.2.2.2.2.2.2.2.2.2.1
theorem dX7_sow_19 : decode cX7_sow 19 = .ok (.invokestatic 50, 3) := qdX7_sow_0_24.2.2.2.2.2.2.2.2.2.2.2.1
theorem dX7_sow_22 : decode cX7_sow 22 = .ok (.iconst 2, 1) := qdX7_sow_0_24.2.2.2.2.2.2.2.2.2.2.2.2.1
theorem dX7_sow_23 : decode cX7_sow 23 = .ok (.iload_n 3, 1) := qdX7_sow_0_24.2.2.2.2.2.2.2.2.2.2.2.2.2.1
theorem dX7_sow_24 : decode cX7_sow 24 = .ok (.imul, 1) := qdX7_sow_0_24.2.2.2.2.2.2.2.2.2.2.2.2.2.2.1
theorem dX7_sow_25 : decode cX7_sow 25 = .ok (.iconst 1, 1) := qdX7_sow_0_24.2.2.2.2.2.2.2.2.2.2.2.2.2.2.2.1
theorem dX7_sow_26 : decode cX7_sow 26 = .ok (.iadd, 1) := qdX7_sow_0_24.2.2.2.2.2.2.2.2.2.2.2.2.2.2.2.2.1
theorem dX7_sow_27 : decode cX7_sow 27 = .ok (.istore 5, 2) := qdX7_sow_0_24.2.2.2.2.2.2.2.2.2.2.2.2.2.2.2.2.2.1
theorem dX7_sow_29 : decode cX7_sow 29 = .ok (.iload_n 2, 1) := qdX7_sow_0_24.2.2.2.2.2.2.2.2.2.2.2.2.2.2.2.2.2.2.1
theorem dX7_sow_30 : decode cX7_sow 30 = .ok (.istore 6, 2) := qdX7_sow_0_24.2.2.2.2.2.2.2.2.2.2.2.2.2.2.2.2.2.2.2.1
theorem dX7_sow_32 : decode cX7_sow 32 = .ok (.iconst 0, 1) := qdX7_sow_0_24.2.2.2.2.2.2.2.2.2.2.2.2.2.2.2.2.2.2.2.2.1
theorem dX7_sow_33 : decode cX7_sow 33 = .ok (.istore 7, 2) := qdX7_sow_0_24.2.2.2.2.2.2.2.2.2.2.2.2.2.2.2.2.2.2.2.2.2.1
theorem dX7_sow_35 : decode cX7_sow 35 = .ok (.iconst 1, 1) := qdX7_sow_0_24.2.2.2.2.2.2.2.2.2.2.2.2.2.2.2.2.2.2.2.2.2.2.1
theorem dX7_sow_36 : decode cX7_sow 36 = .ok (.istore 8, 2) := qdX7_sow_0_24.2.2.2.2.2.2.2.2.2.2.2.2.2.2.2.2.2.2.2.2.2.2.2.1
theorem qdX7_sow_38_24 : dcAll cX7_sow [(38, .iload 8, 2), (40, .bipush 120, 2), (42, .if_icmp .gt 70, 3), (45, .iload 6, 2), (47, .sipush 25173, 3), (50, .imul, 1), (51, .sipush 13849, 3), (54, .iadd, 1), (55, .ldc 73, 2), (57, .irem, 1), (58, .istore 6, 2), (60, .iload 5, 2), (62, .ifCond .le 14, 3), (65, .iload 6, 2), (67, .bipush 64, 2), (69, .idiv, 1), (70, .iload 5, 2), (72, .irem, 1), (73, .goto 4, 3), (76, .iconst 0, 1), (77, .iload_n 3, 1), (78, .isub, 1), (79, .istore 9, 2), (81, .iload 7, 2)] := dcAll_of (by decide +kernel)
theorem dX7_sow_38 : decode cX7_sow 38 = .ok (.iload 8, 2) := qdX7_sow_38_24.1
theorem dX7_sow_40 : decode cX7_sow 40 = .ok (.bipush 120, 2) := qdX7_sow_38_24.2.1
theorem dX7_sow_42 : decode cX7_sow 42 = .ok (.if_icmp .gt 70, 3) := qdX7_sow_38_24.2.2.1
theorem dX7_sow_45 : decode cX7_sow 45 = .ok (.iload 6, 2) := qdX7_sow_38_24.2.2.2.1
theorem dX7_sow_47 : decode cX7_sow 47 = .ok (.sipush 25173, 3) := qdX7_sow_38_24.2.2.2.2.1
theorem dX7_sow_50 : decode cX7_sow 50 = .ok (.imul, 1) := qdX7_sow_38_24.2.2.2.2.2.1
theorem dX7_sow_51 : decode cX7_sow 51 = .ok (.sipush 13849, 3) := qdX7_sow_38_24.2.2.2.2.2.2.1
theorem dX7_sow_54 : decode cX7_sow 54 = .ok (.iadd, 1) := qdX7_sow_38_24.2.2.2.2.2.2.2.1
theorem dX7_sow_55 : decode cX7_sow 55 = .ok (.ldc 73, 2) := qdX7_sow_38_24.2.2.2.2.2.2.2.2.1
theorem dX7_sow_57 : decode cX7_sow 57 = .ok (.irem, 1) := qdX7_sow_38_24.2.2.2.2.2.2.2.2.2.1
theorem dX7_sow_58 : decode cX7_sow 58 = .ok (.istore 6, 2) := qdX7_sow_38_24.2.2.2.2.2.2.2.2.2.2.1
theorem dX7_sow_60 : decode cX7_sow 60 = .ok (.iload 5, 2) := qdX7_sow_38_24.2.2.2.2.2.2.2.2.2.2.2.1
theorem dX7_sow_62 : decode cX7_sow 62 = .ok (.ifCond .le 14, 3) := qdX7_sow_38_24.2.2.2.2.2.2.2.2.2.2.2.2.1
theorem dX7_sow_65 : decode cX7_sow 65 = .ok (.iload 6, 2) := qdX7_sow_38_24.2.2.2.2.2.2.2.2.2.2.2.2.2.1
theorem dX7_sow_67 : decode cX7_sow 67 = .ok (.bipush 64, 2) := qdX7_sow_38_24.2.2.2.2.2.2.2.2.2.2.2.2.2.2.1
theorem dX7_sow_69 : decode cX7_sow 69 = .ok (.idiv, 1) := qdX7_sow_38_24.2.2.2.2.2.2.2.2.2.2.2.2.2.2.2.1
theorem dX7_sow_70 : decode cX7_sow 70 = .ok (.iload 5, 2) := qdX7_sow_38_24.2.2.2.2.2.2.2.2.2.2.2.2.2.2.2.2.1
theorem dX7_sow_72 : decode cX7_sow 72 = .ok (.irem, 1) := qdX7_sow_38_24.2.2.2.2.2.2.2.2.2.2.2.2.2.2.2.2.2.1
theorem dX7_sow_73 : decode cX7_sow 73 = .ok (.goto 4, 3) := qdX7_sow_38_24.2.2.2.2.2.2.2.2.2.2.2.2.2.2.2.2.2.2.1
theorem dX7_sow_76 : decode cX7_sow 76 = .ok (.iconst 0, 1) := qdX7_sow_38_24.2.2.2.2.2.2.2.2.2.2.2.2.2.2.2.2.2.2.2.1
theorem dX7_sow_77 : decode cX7_sow 77 = .ok (.iload_n 3, 1) := qdX7_sow_38_24.2.2.2.2.2.2.2.2.2.2.2.2.2.2.2.2.2.2.2.2.1
theorem dX7_sow_78 : decode cX7_sow 78 = .ok (.isub, 1) := qdX7_sow_38_24.2.2.2.2.2.2.2.2.2.2.2.2.2.2.2.2.2.2.2.2.2.1
theorem dX7_sow_79 : decode cX7_sow 79 = .ok (.istore 9, 2) := qdX7_sow_38_24.2.2.2.2.2.2.2.2.2.2.2.2.2.2.2.2.2.2.2.2.2.2.1
theorem dX7_sow_81 : decode cX7_sow 81 = .ok (.iload 7, 2) := qdX7_sow_38_24.2.2.2.2.2.2.2.2.2.2.2.2.2.2.2.2.2.2.2.2.2.2.2.1
theorem qdX7_sow_83_22 : dcAll cX7_sow [(83, .iload 9, 2), (85, .ifCond .ne 7, 3), (88, .iconst 1, 1), (89, .goto 4, 3), (92, .iconst 0, 1), (93, .iadd, 1), (94, .istore 7, 2), (96, .aload 4, 2), (98, .iload 8, 2), (100, .iload 9, 2), (102, .i2l, 1), (103, .invokevirtual 58, 3), (106, .iinc 8 1, 3), (109, .goto (-71), 3), (112, .aload_n 0, 1), (113, .dup, 1), (114, .getfield 74, 3), (117, .iconst 1, 1), (118, .iadd, 1), (119, .putfield 74, 3), (122, .iload 7, 2), (124, .ireturn, 1)] := dcAll_of (by decide +kernel)
theorem dX7_sow_83 : decode cX7_sow 83 = .ok (.iload 9, 2) := qdX7_sow_83_22.1
theorem dX7_sow_85 : decode cX7_sow 85 = .ok (.ifCond .ne 7, 3) := qdX7_sow_83_22.2.1
theorem dX7_sow_88 : decode cX7_sow 88 = .ok (.iconst 1, 1) := qdX7_sow_83_22.2.2.1
theorem dX7_sow_89 : decode cX7_sow 89 = .ok (.goto 4, 3) := qdX7_sow_83_22.2.2.2.1
theorem dX7_sow_92 : decode cX7_sow 92 = .ok (.iconst 0, 1) := qdX7_sow_83_22.2.2.2.2.1
theorem dX7_sow_93 : decode cX7_sow 93 = .ok (.iadd, 1) := qdX7_sow_83_22.2.2.2.2.2.1
theorem dX7_sow_94 : decode cX7_sow 94 = .ok (.istore 7, 2) := qdX7_sow_83_22.2.2.2.2.2.2.1
theorem dX7_sow_96 : decode cX7_sow 96 = .ok (.aload 4, 2) := qdX7_sow_83_22.2.2.2.2.2.2.2.1
theorem dX7_sow_98 : decode cX7_sow 98 = .ok (.iload 8, 2) := qdX7_sow_83_22.2.2.2.2.2.2.2.2.1
theorem dX7_sow_100 : decode cX7_sow 100 = .ok (.iload 9, 2) := qdX7_sow_83_22.2.2.2.2.2.2.2.2.2.1
theorem dX7_sow_102 : decode cX7_sow 102 = .ok (.i2l, 1) := qdX7_sow_83_22.2.2.2.2.2.2.2.2.2.2.1
theorem dX7_sow_103 : decode cX7_sow 103 = .ok (.invokevirtual 58, 3) := qdX7_sow_83_22.2.2.2.2.2.2.2.2.2.2.2.1
theorem dX7_sow_106 : decode cX7_sow 106 = .ok (.iinc 8 1, 3) := qdX7_sow_83_22.2.2.2.2.2.2.2.2.2.2.2.2.1
theorem dX7_sow_109 : decode cX7_sow 109 = .ok (.goto (-71), 3) := qdX7_sow_83_22.2.2.2.2.2.2.2.2.2.2.2.2.2.1
theorem dX7_sow_112 : decode cX7_sow 112 = .ok (.aload_n 0, 1) := qdX7_sow_83_22.2.2.2.2.2.2.2.2.2.2.2.2.2.2.1
theorem dX7_sow_113 : decode cX7_sow 113 = .ok (.dup, 1) := qdX7_sow_83_22.2.2.2.2.2.2.2.2.2.2.2.2.2.2.2.1
theorem dX7_sow_114 : decode cX7_sow 114 = .ok (.getfield 74, 3) := qdX7_sow_83_22.2.2.2.2.2.2.2.2.2.2.2.2.2.2.2.2.1
theorem dX7_sow_117 : decode cX7_sow 117 = .ok (.iconst 1, 1) := qdX7_sow_83_22.2.2.2.2.2.2.2.2.2.2.2.2.2.2.2.2.2.1
theorem dX7_sow_118 : decode cX7_sow 118 = .ok (.iadd, 1) := qdX7_sow_83_22.2.2.2.2.2.2.2.2.2.2.2.2.2.2.2.2.2.2.1
theorem dX7_sow_119 : decode cX7_sow 119 = .ok (.putfield 74, 3) := qdX7_sow_83_22.2.2.2.2.2.2.2.2.2.2.2.2.2.2.2.2.2.2.2.1
theorem dX7_sow_122 : decode cX7_sow 122 = .ok (.iload 7, 2) := qdX7_sow_83_22.2.2.2.2.2.2.2.2.2.2.2.2.2.2.2.2.2.2.2.2.1
theorem dX7_sow_124 : decode cX7_sow 124 = .ok (.ireturn, 1) := qdX7_sow_83_22.2.2.2.2.2.2.2.2.2.2.2.2.2.2.2.2.2.2.2.2.2.1
theorem ggX7_copy_X7_rowOf : GoodIn wsX7_copy wsX7_rowOf := fun w h => ⟨List.mem_cons_of_mem _ (List.mem_append_left _ (List.mem_append_right _ h)), zq_X7_rowOf w h⟩
set_option maxRecDepth 20000 in
theorem gX7_copy_X7_rowOf : GoodIn wsX7_copy (wsV RX7 46 RX7 yX7_rowOf wsX7_rowOf) := goodIn_app (goodIn_r _ [2, 3, 4, 5] rfl rfl) ggX7_copy_X7_rowOf
theorem ggX7_copy_X4_takeFrom : GoodIn wsX7_copy wsX4_takeFrom := fun w h => ⟨List.mem_cons_of_mem _ (List.mem_append_right _ h), zq_X4_takeFrom w h⟩
set_option maxRecDepth 20000 in
theorem gX7_copy_X4_takeFrom : GoodIn wsX7_copy (wsV RX7 78 RX4 yX4_takeFrom wsX4_takeFrom) := goodIn_app (goodIn_r _ [7, 8, 9, 10] rfl rfl) ggX7_copy_X4_takeFrom
theorem qdX7_copy_0_18 : dcAll cX7_copy [(0, .aload_n 0, 1), (1, .iload_n 1, 1), (2, .invokevirtual 46, 3), (5, .astore_n 3, 1), (6, .aload_n 0, 1), (7, .iload_n 2, 1), (8, .invokevirtual 46, 3), (11, .astore 4, 2), (13, .aload_n 0, 1), (14, .dup, 1), (15, .getfield 74, 3), (18, .iconst 1, 1), (19, .iadd, 1), (20, .putfield 74, 3), (23, .aload 4, 2), (25, .aload_n 3, 1), (26, .invokevirtual 78, 3), (29, .ireturn, 1)] := dcAll_of (by decide +kernel)
theorem dX7_copy_0 : decode cX7_copy 0 = .ok (.aload_n 0, 1) := qdX7_copy_0_18.1
theorem dX7_copy_1 : decode cX7_copy 1 = .ok (.iload_n 1, 1) := qdX7_copy_0_18.2.1
theorem dX7_copy_2 : decode cX7_copy 2 = .ok (.invokevirtual 46, 3) := qdX7_copy_0_18.2.2.1
theorem dX7_copy_5 : decode cX7_copy 5 = .ok (.astore_n 3, 1) := qdX7_copy_0_18.2.2.2.1
theorem dX7_copy_6 : decode cX7_copy 6 = .ok (.aload_n 0, 1) := qdX7_copy_0_18.2.2.2.2.1
theorem dX7_copy_7 : decode cX7_copy 7 = .ok (.iload_n 2, 1) := qdX7_copy_0_18.2.2.2.2.2.1
theorem dX7_copy_8 : decode cX7_copy 8 = .ok (.invokevirtual 46, 3) := qdX7_copy_0_18.2.2.2.2.2.2.1
theorem dX7_copy_11 : decode cX7_copy 11 = .ok (.astore 4, 2) := qdX7_copy_0_18.2.2.2.2.2.2.2.1
theorem dX7_copy_13 : decode cX7_copy 13 = .ok (.aload_n 0, 1) := qdX7_copy_0_18.2.2.2.2.2.2.2.2.1
theorem dX7_copy_14 : decode cX7_copy 14 = .ok (.dup, 1) := qdX7_copy_0_18.2.2.2.2.2.2.2.2.2.1
theorem dX7_copy_15 : decode cX7_copy 15 = .ok (.getfield 74, 3) := qdX7_copy_0_18.2.2.2.2.2.2.2.2.2.2.1
theorem dX7_copy_18 : decode cX7_copy 18 = .ok (.iconst 1, 1) := qdX7_copy_0_18.2.2.2.2.2.2.2.2.2.2.2.1
theorem dX7_copy_19 : decode cX7_copy 19 = .ok (.iadd, 1) := qdX7_copy_0_18.2.2.2.2.2.2.2.2.2.2.2.2.1
theorem dX7_copy_20 : decode cX7_copy 20 = .ok (.putfield 74, 3) := qdX7_copy_0_18.2.2.2.2.2.2.2.2.2.2.2.2.2.1
theorem dX7_copy_23 : decode cX7_copy 23 = .ok (.aload 4, 2) := qdX7_copy_0_18.2.2.2.2.2.2.2.2.2.2.2.2.2.2.1
theorem dX7_copy_25 : decode cX7_copy 25 = .ok (.aload_n 3, 1) := qdX7_copy_0_18.2.2.2.2.2.2.2.2.2.2.2.2.2.2.2.1
theorem dX7_copy_26 : decode cX7_copy 26 = .ok (.invokevirtual 78, 3) := qdX7_copy_0_18.2.2.2.2.2.2.2.2.2.2.2.2.2.2.2.2.1
theorem dX7_copy_29 : decode cX7_copy 29 = .ok (.ireturn, 1) := qdX7_copy_0_18.2.2.2.2.2.2.2.2.2.2.2.2.2.2.2.2.2.1
theorem ggX7_swap_X7_rowOf : GoodIn wsX7_swap wsX7_rowOf := fun w h => ⟨List.mem_cons_of_mem _ (List.mem_append_left _ (List.mem_append_left _ (List.mem_append_right _ h))), zq_X7_rowOf w h⟩
set_option maxRecDepth 20000 in
theorem gX7_swap_X7_rowOf : GoodIn wsX7_swap (wsV RX7 46 RX7 yX7_rowOf wsX7_rowOf) := goodIn_app (goodIn_r _ [2, 3, 4, 5] rfl rfl) ggX7_swap_X7_rowOf
theorem ggX7_swap_X4_countUnlike : GoodIn wsX7_swap wsX4_countUnlike := fun w h => ⟨List.mem_cons_of_mem _ (List.mem_append_left _ (List.mem_append_right _ h)), zq_X4_countUnlike w h⟩
set_option maxRecDepth 20000 in
theorem gX7_swap_X4_countUnlike : GoodIn wsX7_swap (wsV RX7 81 RX4 yX4_countUnlike wsX4_countUnlike) := goodIn_app (goodIn_r _ [7, 8, 9, 10] rfl rfl) ggX7_swap_X4_countUnlike
theorem ggX7_swap_X4_exchange : GoodIn wsX7_swap wsX4_exchange := fun w h => ⟨List.mem_cons_of_mem _ (List.mem_append_right _ h), zq_X4_exchange w h⟩
set_option maxRecDepth 20000 in
theorem gX7_swap_X4_exchange : GoodIn wsX7_swap (wsV RX7 84 RX4 yX4_exchange wsX4_exchange) := goodIn_app (goodIn_r _ [11, 12, 13, 10] rfl rfl) ggX7_swap_X4_exchange
theorem qdX7_swap_0_23 : dcAll cX7_swap [(0, .aload_n 0, 1), (1, .iload_n 1, 1), (2, .invokevirtual 46, 3), (5, .astore_n 3, 1), (6, .aload_n 0, 1), (7, .iload_n 2, 1), (8, .invokevirtual 46, 3), (11, .astore 4, 2), (13, .aload_n 3, 1), (14, .aload 4, 2), (16, .invokevirtual 81, 3), (19, .istore 5, 2), (21, .aload_n 3, 1), (22, .aload 4, 2), (24, .invokevirtual 84, 3), (27, .aload_n 0, 1), (28, .dup, 1), (29, .getfield 74, 3), (32, .iconst 1, 1), (33, .iadd, 1), (34, .putfield 74, 3), (37, .iload 5, 2), (39, .ireturn, 1)] := dcAll_of (by decide +kernel)
theorem dX7_swap_0 : decode cX7_swap 0 = .ok (.aload_n 0, 1) := qdX7_swap_0_23.1
theorem dX7_swap_1 : decode cX7_swap 1 = .ok (.iload_n 1, 1) := qdX7_swap_0_23.2.1
theorem dX7_swap_2 : decode cX7_swap 2 = .ok (.invokevirtual 46, 3) := qdX7_swap_0_23.2.2.1
theorem dX7_swap_5 : decode cX7_swap 5 = .ok (.astore_n 3, 1) := qdX7_swap_0_23.2.2.2.1
theorem dX7_swap_6 : decode cX7_swap 6 = .ok (.aload_n 0, 1) := qdX7_swap_0_23.2.2.2.2.1
theorem dX7_swap_7 : decode cX7_swap 7 = .ok (.iload_n 2, 1) := qdX7_swap_0_23.2.2.2.2.2.1
theorem dX7_swap_8 : decode cX7_swap 8 = .ok (.invokevirtual 46, 3) := qdX7_swap_0_23.2.2.2.2.2.2.1
theorem dX7_swap_11 : decode cX7_swap 11 = .ok (.astore 4, 2) := qdX7_swap_0_23.2.2.2.2.2.2.2.1
theorem dX7_swap_13 : decode cX7_swap 13 = .ok (.aload_n 3, 1) := qdX7_swap_0_23.2.2.2.2.2.2.2.2.1
theorem dX7_swap_14 : decode cX7_swap 14 = .ok (.aload 4, 2) := qdX7_swap_0_23.2.2.2.2.2.2.2.2.2.1
theorem dX7_swap_16 : decode cX7_swap 16 = .ok (.invokevirtual 81, 3) := qdX7_swap_0_23.2.2.2.2.2.2.2.2.2.2.1
theorem dX7_swap_19 : decode cX7_swap 19 = .ok (.istore 5, 2) := qdX7_swap_0_23.2.2.2.2.2.2.2.2.2.2.2.1
theorem dX7_swap_21 : decode cX7_swap 21 = .ok (.aload_n 3, 1) := qdX7_swap_0_23.2.2.2.2.2.2.2.2.2.2.2.2.1
theorem dX7_swap_22 : decode cX7_swap 22 = .ok (.aload 4, 2) := qdX7_swap_0_23.2.2.2.2.2.2.2.2.2.2.2.2.2.1
theorem dX7_swap_24 : decode cX7_swap 24 = .ok (.invokevirtual 84, 3) := qdX7_swap_0_23.2.2.2.2.2.2.2.2.2.2.2.2.2.2.1
theorem dX7_swap_27 : decode cX7_swap 27 = .ok (.aload_n 0, 1) := qdX7_swap_0_23.2.2.2.2.2.2.2.2.2.2.2.2.2.2.2.1
theorem dX7_swap_28 : decode cX7_swap 28 = .ok (.dup, 1) := qdX7_swap_0_23.2.2.2.2.2.2.2.2.2.2.2.2.2.2.2.2.1
theorem dX7_swap_29 : decode cX7_swap 29 = .ok (.getfield 74, 3) := qdX7_swap_0_23.2.2.2.2.2.2.2.2.2.2.2.2.2.2.2.2.2.1
theorem dX7_swap_32 : decode cX7_swap 32 = .ok (.iconst 1, 1) := qdX7_swap_0_23.2.2.2.2.2.2.2.2.2.2.2.2.2.2.2.2.2.2.1
theorem dX7_swap_33 : decode cX7_swap 33 = .ok (.iadd, 1) := qdX7_swap_0_23.2.2.2.2.2.2.2.2.2.2.2.2.2.2.2.2.2.2.2.1
theorem dX7_swap_34 : decode cX7_swap 34 = .ok (.putfield 74, 3) := qdX7_swap_0_23.2.2.2.2.2.2.2.2.2.2.2.2.2.2.2.2.2.2.2.2.1
theorem dX7_swap_37 : decode cX7_swap 37 = .ok (.iload 5, 2) := qdX7_swap_0_23.2.2.2.2.2.2.2.2.2.2.2.2.2.2.2.2.2.2.2.2.2.1
theorem dX7_swap_39 : decode cX7_swap 39 = .ok (.ireturn, 1) := qdX7_swap_0_23.2.2.2.2.2.2.2.2.2.2.2.2.2.2.2.2.2.2.2.2.2.2.1
theorem ggX7_meet_X7_rowOf : GoodIn wsX7_meet wsX7_rowOf := fun w h => ⟨List.mem_cons_of_mem _ (List.mem_append_left _ (List.mem_append_left _ (List.mem_append_left _ (List.mem_append_left _ (List.mem_append_right _ h))))), zq_X7_rowOf w h⟩
set_option maxRecDepth 20000 in
theorem gX7_meet_X7_rowOf : GoodIn wsX7_meet (wsV RX7 46 RX7 yX7_rowOf wsX7_rowOf) := goodIn_app (goodIn_r _ [2, 3, 4, 5] rfl rfl) ggX7_meet_X7_rowOf
theorem ggX7_meet_X7_need : GoodIn wsX7_meet wsX7_need := fun w h => ⟨List.mem_cons_of_mem _ (List.mem_append_left _ (List.mem_append_left _ (List.mem_append_left _ (List.mem_append_right _ h)))), zq_X7_need w h⟩
set_option maxRecDepth 20000 in
theorem gX7_meet_X7_need : GoodIn wsX7_meet (va_wsS RX7 50 yX7_need wsX7_need) := goodIn_app (goodIn_r _ [7, 8, 5] rfl rfl) ggX7_meet_X7_need
theorem ggX7_meet_X0_layMet : GoodIn wsX7_meet wsX0_layMet := fun w h => ⟨List.mem_cons_of_mem _ (List.mem_append_left _ (List.mem_append_left _ (List.mem_append_right _ h))), zq_X0_layMet w h⟩
set_option maxRecDepth 20000 in
theorem gX7_meet_X0_layMet : GoodIn wsX7_meet (wsV RX7 88 RX0 yX0_layMet wsX0_layMet) := goodIn_app (goodIn_r _ [10, 11, 12, 13] rfl rfl) ggX7_meet_X0_layMet
theorem ggX7_meet_X7_become : GoodIn wsX7_meet wsX7_become := fun w h => ⟨List.mem_cons_of_mem _ (List.mem_append_left _ (List.mem_append_right _ h)), zq_X7_become w h⟩
set_option maxRecDepth 20000 in
theorem gX7_meet_X7_become : GoodIn wsX7_meet (wsV RX7 62 RX7 yX7_become wsX7_become) := goodIn_app (goodIn_r _ [16, 17, 18, 5] rfl rfl) ggX7_meet_X7_become
theorem ggX7_meet_X7_refuse : GoodIn wsX7_meet wsX7_refuse := fun w h => ⟨List.mem_cons_of_mem _ (List.mem_append_right _ h), zq_X7_refuse w h⟩
set_option maxRecDepth 20000 in
theorem gX7_meet_X7_refuse : GoodIn wsX7_meet (wsV RX7 92 RX7 yX7_refuse wsX7_refuse) := goodIn_app (goodIn_r _ [19, 20, 21, 5] rfl rfl) ggX7_meet_X7_refuse
theorem qdX7_meet_0_24 : dcAll cX7_meet [(0, .aload_n 0, 1), (1, .iload_n 1, 1), (2, .invokevirtual 46, 3), (5, .astore 5, 2), (7, .aload_n 0, 1), (8, .iload_n 2, 1), (9, .invokevirtual 46, 3), (12, .astore 6, 2), (14, .aload_n 0, 1), (15, .iload 4, 2), (17, .invokevirtual 46, 3), (20, .astore 7, 2), (22, .iload_n 3, 1), (23, .iconst 0, 1), (24, .iconst 2, 1), (25, .invokestatic 50, 3), (28, .aload_n 0, 1), (29, .getfield 42, 3), (32, .iload_n 3, 1), (33, .aload 5, 2), (35, .aload 6, 2), (37, .aload_n 0, 1), (38, .getfield 16, 3), (41, .invokevirtual 88, 3)] := dcAll_of (by decide +kernel)
theorem dX7_meet_0 : decode cX7_meet 0 = .ok (.aload_n 0, 1) := qdX7_meet_0_24.1
theorem dX7_meet_1 : decode cX7_meet 1 = .ok (.iload_n 1, 1) := qdX7_meet_0_24.2.1
theorem dX7_meet_2 : decode cX7_meet 2 = .ok (.invokevirtual 46, 3) := qdX7_meet_0_24.2.2.1
theorem dX7_meet_5 : decode cX7_meet 5 = .ok (.astore 5, 2) := qdX7_meet_0_24.2.2.2.1
theorem dX7_meet_7 : decode cX7_meet 7 = .ok (.aload_n 0, 1) := qdX7_meet_0_24.2.2.2.2.1
theorem dX7_meet_8 : decode cX7_meet 8 = .ok (.iload_n 2, 1) := qdX7_meet_0_24.2.2.2.2.2.1
theorem dX7_meet_9 : decode cX7_meet 9 = .ok (.invokevirtual 46, 3) := qdX7_meet_0_24.2.2.2.2.2.2.1
theorem dX7_meet_12 : decode cX7_meet 12 = .ok (.astore 6, 2) := qdX7_meet_0_24.2.2.2.2.2.2.2.1
theorem dX7_meet_14 : decode cX7_meet 14 = .ok (.aload_n 0, 1) := qdX7_meet_0_24.2.2.2.2.2.2.2.2.1
theorem dX7_meet_15 : decode cX7_meet 15 = .ok (.iload 4, 2) := qdX7_meet_0_24.2.2.2.2.2.2.2.2.2.1
theorem dX7_meet_17 : decode cX7_meet 17 = .ok (.invokevirtual 46, 3) := qdX7_meet_0_24.2.2.2.2.2.2.2.2.2.2.1
theorem dX7_meet_20 : decode cX7_meet 20 = .ok (.astore 7, 2) := qdX7_meet_0_24.2.2.2.2.2.2.2.2.2.2.2.1
theorem dX7_meet_22 : decode cX7_meet 22 = .ok (.iload_n 3, 1) := qdX7_meet_0_24.2.2.2.2.2.2.2.2.2.2.2.2.1
theorem dX7_meet_23 : decode cX7_meet 23 = .ok (.iconst 0, 1) := qdX7_meet_0_24.2.2.2.2.2.2.2.2.2.2.2.2.2.1
theorem dX7_meet_24 : decode cX7_meet 24 = .ok (.iconst 2, 1) := qdX7_meet_0_24.2.2.2.2.2.2.2.2.2.2.2.2.2.2.1
theorem dX7_meet_25 : decode cX7_meet 25 = .ok (.invokestatic 50, 3) := qdX7_meet_0_24.2.2.2.2.2.2.2.2.2.2.2.2.2.2.2.1
theorem dX7_meet_28 : decode cX7_meet 28 = .ok (.aload_n 0, 1) := qdX7_meet_0_24.2.2.2.2.2.2.2.2.2.2.2.2.2.2.2.2.1
theorem dX7_meet_29 : decode cX7_meet 29 = .ok (.getfield 42, 3) := qdX7_meet_0_24.2.2.2.2.2.2.2.2.2.2.2.2.2.2.2.2.2.1
theorem dX7_meet_32 : decode cX7_meet 32 = .ok (.iload_n 3, 1) := qdX7_meet_0_24.2.2.2.2.2.2.2.2.2.2.2.2.2.2.2.2.2.2.1
theorem dX7_meet_33 : decode cX7_meet 33 = .ok (.aload 5, 2) := qdX7_meet_0_24.2.2.2.2.2.2.2.2.2.2.2.2.2.2.2.2.2.2.2.1
theorem dX7_meet_35 : decode cX7_meet 35 = .ok (.aload 6, 2) := qdX7_meet_0_24.2.2.2.2.2.2.2.2.2.2.2.2.2.2.2.2.2.2.2.2.1
theorem dX7_meet_37 : decode cX7_meet 37 = .ok (.aload_n 0, 1) := qdX7_meet_0_24.2.2.2.2.2.2.2.2.2.2.2.2.2.2.2.2.2.2.2.2.2.1
theorem dX7_meet_38 : decode cX7_meet 38 = .ok (.getfield 16, 3) := qdX7_meet_0_24.2.2.2.2.2.2.2.2.2.2.2.2.2.2.2.2.2.2.2.2.2.2.1
theorem dX7_meet_41 : decode cX7_meet 41 = .ok (.invokevirtual 88, 3) := qdX7_meet_0_24.2.2.2.2.2.2.2.2.2.2.2.2.2.2.2.2.2.2.2.2.2.2.2.1
theorem qdX7_meet_44_8 : dcAll cX7_meet [(44, .ifCond .eq 12, 3), (47, .aload_n 0, 1), (48, .aload 7, 2), (50, .invokevirtual 62, 3), (53, .goto 7, 3), (56, .aload_n 0, 1), (57, .invokevirtual 92, 3), (60, .ireturn, 1)] := dcAll_of (by decide +kernel)
theorem dX7_meet_44 : decode cX7_meet 44 = .ok (.ifCond .eq 12, 3) := qdX7_meet_44_8.1
theorem dX7_meet_47 : decode cX7_meet 47 = .ok (.aload_n 0, 1) := qdX7_meet_44_8.2.1
theorem dX7_meet_48 : decode cX7_meet 48 = .ok (.aload 7, 2) := qdX7_meet_44_8.2.2.1
theorem dX7_meet_50 : decode cX7_meet 50 = .ok (.invokevirtual 62, 3) := qdX7_meet_44_8.2.2.2.1
theorem dX7_meet_53 : decode cX7_meet 53 = .ok (.goto 7, 3) := qdX7_meet_44_8.2.2.2.2.1
theorem dX7_meet_56 : decode cX7_meet 56 = .ok (.aload_n 0, 1) := qdX7_meet_44_8.2.2.2.2.2.1
theorem dX7_meet_57 : decode cX7_meet 57 = .ok (.invokevirtual 92, 3) := qdX7_meet_44_8.2.2.2.2.2.2.1
theorem dX7_meet_60 : decode cX7_meet 60 = .ok (.ireturn, 1) := qdX7_meet_44_8.2.2.2.2.2.2.2.1
theorem ggX7_multiply_X7_rowOf : GoodIn wsX7_multiply wsX7_rowOf := fun w h => ⟨List.mem_cons_of_mem _ (List.mem_append_left _ (List.mem_append_left _ (List.mem_append_left _ (List.mem_append_right _ h)))), zq_X7_rowOf w h⟩
set_option maxRecDepth 20000 in
theorem gX7_multiply_X7_rowOf : GoodIn wsX7_multiply (wsV RX7 46 RX7 yX7_rowOf wsX7_rowOf) := goodIn_app (goodIn_r _ [2, 3, 4, 5] rfl rfl) ggX7_multiply_X7_rowOf
theorem ggX7_multiply_X0_layProduct : GoodIn wsX7_multiply wsX0_layProduct := fun w h => ⟨List.mem_cons_of_mem _ (List.mem_append_left _ (List.mem_append_left _ (List.mem_append_right _ h))), zq_X0_layProduct w h⟩
set_option maxRecDepth 20000 in
theorem gX7_multiply_X0_layProduct : GoodIn wsX7_multiply (wsV RX7 96 RX0 yX0_layProduct wsX0_layProduct) := goodIn_app (goodIn_r _ [7, 8, 9, 10] rfl rfl) ggX7_multiply_X0_layProduct
theorem ggX7_multiply_X7_become : GoodIn wsX7_multiply wsX7_become := fun w h => ⟨List.mem_cons_of_mem _ (List.mem_append_left _ (List.mem_append_right _ h)), zq_X7_become w h⟩
set_option maxRecDepth 20000 in
theorem gX7_multiply_X7_become : GoodIn wsX7_multiply (wsV RX7 62 RX7 yX7_become wsX7_become) := goodIn_app (goodIn_r _ [13, 14, 15, 5] rfl rfl) ggX7_multiply_X7_become
theorem ggX7_multiply_X7_refuse : GoodIn wsX7_multiply wsX7_refuse := fun w h => ⟨List.mem_cons_of_mem _ (List.mem_append_right _ h), zq_X7_refuse w h⟩
set_option maxRecDepth 20000 in
theorem gX7_multiply_X7_refuse : GoodIn wsX7_multiply (wsV RX7 92 RX7 yX7_refuse wsX7_refuse) := goodIn_app (goodIn_r _ [16, 17, 18, 5] rfl rfl) ggX7_multiply_X7_refuse
theorem qdX7_multiply_0_24 : dcAll cX7_multiply [(0, .aload_n 0, 1), (1, .iload_n 1, 1), (2, .invokevirtual 46, 3), (5, .astore 4, 2), (7, .aload_n 0, 1), (8, .iload_n 2, 1), (9, .invokevirtual 46, 3), (12, .astore 5, 2), (14, .aload_n 0, 1), (15, .iload_n 3, 1), (16, .invokevirtual 46, 3), (19, .astore 6, 2), (21, .aload_n 0, 1), (22, .getfield 42, 3), (25, .aload 4, 2), (27, .aload 5, 2), (29, .aload_n 0, 1), (30, .getfield 16, 3), (33, .invokevirtual 96, 3), (36, .ifCond .eq 12, 3), (39, .aload_n 0, 1), (40, .aload 6, 2), (42, .invokevirtual 62, 3), (45, .goto 7, 3)] := dcAll_of (by decide +kernel)
theorem dX7_multiply_0 : decode cX7_multiply 0 = .ok (.aload_n 0, 1) := qdX7_multiply_0_24.1
theorem dX7_multiply_1 : decode cX7_multiply 1 = .ok (.iload_n 1, 1) := qdX7_multiply_0_24.2.1
theorem dX7_multiply_2 : decode cX7_multiply 2 = .ok (.invokevirtual 46, 3) := qdX7_multiply_0_24.2.2.1
theorem dX7_multiply_5 : decode cX7_multiply 5 = .ok (.astore 4, 2) := qdX7_multiply_0_24.2.2.2.1
theorem dX7_multiply_7 : decode cX7_multiply 7 = .ok (.aload_n 0, 1) := qdX7_multiply_0_24.2.2.2.2.1
theorem dX7_multiply_8 : decode cX7_multiply 8 = .ok (.iload_n 2, 1) := qdX7_multiply_0_24.2.2.2.2.2.1
theorem dX7_multiply_9 : decode cX7_multiply 9 = .ok (.invokevirtual 46, 3) := qdX7_multiply_0_24.2.2.2.2.2.2.1
theorem dX7_multiply_12 : decode cX7_multiply 12 = .ok (.astore 5, 2) := qdX7_multiply_0_24.2.2.2.2.2.2.2.1
theorem dX7_multiply_14 : decode cX7_multiply 14 = .ok (.aload_n 0, 1) := qdX7_multiply_0_24.2.2.2.2.2.2.2.2.1
theorem dX7_multiply_15 : decode cX7_multiply 15 = .ok (.iload_n 3, 1) := qdX7_multiply_0_24.2.2.2.2.2.2.2.2.2.1
theorem dX7_multiply_16 : decode cX7_multiply 16 = .ok (.invokevirtual 46, 3) := qdX7_multiply_0_24.2.2.2.2.2.2.2.2.2.2.1
theorem dX7_multiply_19 : decode cX7_multiply 19 = .ok (.astore 6, 2) := qdX7_multiply_0_24.2.2.2.2.2.2.2.2.2.2.2.1
theorem dX7_multiply_21 : decode cX7_multiply 21 = .ok (.aload_n 0, 1) := qdX7_multiply_0_24.2.2.2.2.2.2.2.2.2.2.2.2.1
theorem dX7_multiply_22 : decode cX7_multiply 22 = .ok (.getfield 42, 3) := qdX7_multiply_0_24.2.2.2.2.2.2.2.2.2.2.2.2.2.1
theorem dX7_multiply_25 : decode cX7_multiply 25 = .ok (.aload 4, 2) := qdX7_multiply_0_24.2.2.2.2.2.2.2.2.2.2.2.2.2.2.1
theorem dX7_multiply_27 : decode cX7_multiply 27 = .ok (.aload 5, 2) := qdX7_multiply_0_24.2.2.2.2.2.2.2.2.2.2.2.2.2.2.2.1
theorem dX7_multiply_29 : decode cX7_multiply 29 = .ok (.aload_n 0, 1) := qdX7_multiply_0_24.2.2.2.2.2.2.2.2.2.2.2.2.2.2.2.2.1
theorem dX7_multiply_30 : decode cX7_multiply 30 = .ok (.getfield 16, 3) := qdX7_multiply_0_24.2.2.2.2.2.2.2.2.2.2.2.2.2.2.2.2.2.1
theorem dX7_multiply_33 : decode cX7_multiply 33 = .ok (.invokevirtual 96, 3) := qdX7_multiply_0_24.2.2.2.2.2.2.2.2.2.2.2.2.2.2.2.2.2.2.1
theorem dX7_multiply_36 : decode cX7_multiply 36 = .ok (.ifCond .eq 12, 3) := qdX7_multiply_0_24.2.2.2.2.2.2.2.2.2.2.2.2.2.2.2.2.2.2.2.1
theorem dX7_multiply_39 : decode cX7_multiply 39 = .ok (.aload_n 0, 1) := qdX7_multiply_0_24.2.2.2.2.2.2.2.2.2.2.2.2.2.2.2.2.2.2.2.2.1
theorem dX7_multiply_40 : decode cX7_multiply 40 = .ok (.aload 6, 2) := qdX7_multiply_0_24.2.2.2.2.2.2.2.2.2.2.2.2.2.2.2.2.2.2.2.2.2.1
theorem dX7_multiply_42 : decode cX7_multiply 42 = .ok (.invokevirtual 62, 3) := qdX7_multiply_0_24.2.2.2.2.2.2.2.2.2.2.2.2.2.2.2.2.2.2.2.2.2.2.1
theorem dX7_multiply_45 : decode cX7_multiply 45 = .ok (.goto 7, 3) := qdX7_multiply_0_24.2.2.2.2.2.2.2.2.2.2.2.2.2.2.2.2.2.2.2.2.2.2.2.1
theorem qdX7_multiply_48_3 : dcAll cX7_multiply [(48, .aload_n 0, 1), (49, .invokevirtual 92, 3), (52, .ireturn, 1)] := dcAll_of (by decide +kernel)
theorem dX7_multiply_48 : decode cX7_multiply 48 = .ok (.aload_n 0, 1) := qdX7_multiply_48_3.1
theorem dX7_multiply_49 : decode cX7_multiply 49 = .ok (.invokevirtual 92, 3) := qdX7_multiply_48_3.2.1
theorem dX7_multiply_52 : decode cX7_multiply 52 = .ok (.ireturn, 1) := qdX7_multiply_48_3.2.2.1
theorem ggX7_make_X7_rowOf : GoodIn wsX7_make wsX7_rowOf := fun w h => ⟨List.mem_cons_of_mem _ (List.mem_append_left _ (List.mem_append_left _ (List.mem_append_left _ (List.mem_append_left _ (List.mem_append_right _ h))))), zq_X7_rowOf w h⟩
set_option maxRecDepth 20000 in
theorem gX7_make_X7_rowOf : GoodIn wsX7_make (wsV RX7 46 RX7 yX7_rowOf wsX7_rowOf) := goodIn_app (goodIn_r _ [2, 3, 4, 5] rfl rfl) ggX7_make_X7_rowOf
theorem ggX7_make_X7_need : GoodIn wsX7_make wsX7_need := fun w h => ⟨List.mem_cons_of_mem _ (List.mem_append_left _ (List.mem_append_left _ (List.mem_append_left _ (List.mem_append_right _ h)))), zq_X7_need w h⟩
set_option maxRecDepth 20000 in
theorem gX7_make_X7_need : GoodIn wsX7_make (va_wsS RX7 50 yX7_need wsX7_need) := goodIn_app (goodIn_r _ [7, 8, 5] rfl rfl) ggX7_make_X7_need
theorem ggX7_make_X0_layMade : GoodIn wsX7_make wsX0_layMade := fun w h => ⟨List.mem_cons_of_mem _ (List.mem_append_left _ (List.mem_append_left _ (List.mem_append_right _ h))), zq_X0_layMade w h⟩
set_option maxRecDepth 20000 in
theorem gX7_make_X0_layMade : GoodIn wsX7_make (wsV RX7 100 RX0 yX0_layMade wsX0_layMade) := goodIn_app (goodIn_r _ [10, 11, 12, 13] rfl rfl) ggX7_make_X0_layMade
theorem ggX7_make_X7_become : GoodIn wsX7_make wsX7_become := fun w h => ⟨List.mem_cons_of_mem _ (List.mem_append_left _ (List.mem_append_right _ h)), zq_X7_become w h⟩
set_option maxRecDepth 20000 in
theorem gX7_make_X7_become : GoodIn wsX7_make (wsV RX7 62 RX7 yX7_become wsX7_become) := goodIn_app (goodIn_r _ [18, 19, 20, 5] rfl rfl) ggX7_make_X7_become
theorem ggX7_make_X7_refuse : GoodIn wsX7_make wsX7_refuse := fun w h => ⟨List.mem_cons_of_mem _ (List.mem_append_right _ h), zq_X7_refuse w h⟩
set_option maxRecDepth 20000 in
theorem gX7_make_X7_refuse : GoodIn wsX7_make (wsV RX7 92 RX7 yX7_refuse wsX7_refuse) := goodIn_app (goodIn_r _ [21, 22, 23, 5] rfl rfl) ggX7_make_X7_refuse
theorem qdX7_make_0_24 : dcAll cX7_make [(0, .aload_n 0, 1), (1, .iload_n 1, 1), (2, .invokevirtual 46, 3), (5, .astore 4, 2), (7, .aload_n 0, 1), (8, .iload_n 3, 1), (9, .invokevirtual 46, 3), (12, .astore 5, 2), (14, .iload_n 2, 1), (15, .iconst 0, 1), (16, .iconst 5, 1), (17, .invokestatic 50, 3), (20, .aload_n 0, 1), (21, .getfield 42, 3), (24, .iload_n 2, 1), (25, .aload 4, 2), (27, .aload_n 0, 1), (28, .getfield 16, 3), (31, .invokevirtual 100, 3), (34, .ifCond .eq 12, 3), (37, .aload_n 0, 1), (38, .aload 5, 2), (40, .invokevirtual 62, 3), (43, .goto 7, 3)] := dcAll_of (by decide +kernel)
theorem dX7_make_0 : decode cX7_make 0 = .ok (.aload_n 0, 1) := qdX7_make_0_24.1
theorem dX7_make_1 : decode cX7_make 1 = .ok (.iload_n 1, 1) := qdX7_make_0_24.2.1
theorem dX7_make_2 : decode cX7_make 2 = .ok (.invokevirtual 46, 3) := qdX7_make_0_24.2.2.1
theorem dX7_make_5 : decode cX7_make 5 = .ok (.astore 4, 2) := qdX7_make_0_24.2.2.2.1
theorem dX7_make_7 : decode cX7_make 7 = .ok (.aload_n 0, 1) := qdX7_make_0_24.2.2.2.2.1
theorem dX7_make_8 : decode cX7_make 8 = .ok (.iload_n 3, 1) := qdX7_make_0_24.2.2.2.2.2.1
theorem dX7_make_9 : decode cX7_make 9 = .ok (.invokevirtual 46, 3) := qdX7_make_0_24.2.2.2.2.2.2.1
theorem dX7_make_12 : decode cX7_make 12 = .ok (.astore 5, 2) := qdX7_make_0_24.2.2.2.2.2.2.2.1
theorem dX7_make_14 : decode cX7_make 14 = .ok (.iload_n 2, 1) := qdX7_make_0_24.2.2.2.2.2.2.2.2.1
theorem dX7_make_15 : decode cX7_make 15 = .ok (.iconst 0, 1) := qdX7_make_0_24.2.2.2.2.2.2.2.2.2.1
theorem dX7_make_16 : decode cX7_make 16 = .ok (.iconst 5, 1) := qdX7_make_0_24.2.2.2.2.2.2.2.2.2.2.1
theorem dX7_make_17 : decode cX7_make 17 = .ok (.invokestatic 50, 3) := qdX7_make_0_24.2.2.2.2.2.2.2.2.2.2.2.1
theorem dX7_make_20 : decode cX7_make 20 = .ok (.aload_n 0, 1) := qdX7_make_0_24.2.2.2.2.2.2.2.2.2.2.2.2.1
theorem dX7_make_21 : decode cX7_make 21 = .ok (.getfield 42, 3) := qdX7_make_0_24.2.2.2.2.2.2.2.2.2.2.2.2.2.1
theorem dX7_make_24 : decode cX7_make 24 = .ok (.iload_n 2, 1) := qdX7_make_0_24.2.2.2.2.2.2.2.2.2.2.2.2.2.2.1
theorem dX7_make_25 : decode cX7_make 25 = .ok (.aload 4, 2) := qdX7_make_0_24.2.2.2.2.2.2.2.2.2.2.2.2.2.2.2.1
theorem dX7_make_27 : decode cX7_make 27 = .ok (.aload_n 0, 1) := qdX7_make_0_24.2.2.2.2.2.2.2.2.2.2.2.2.2.2.2.2.1
theorem dX7_make_28 : decode cX7_make 28 = .ok (.getfield 16, 3) := qdX7_make_0_24.2.2.2.2.2.2.2.2.2.2.2.2.2.2.2.2.2.1
theorem dX7_make_31 : decode cX7_make 31 = .ok (.invokevirtual 100, 3) := qdX7_make_0_24.2.2.2.2.2.2.2.2.2.2.2.2.2.2.2.2.2.2.1
theorem dX7_make_34 : decode cX7_make 34 = .ok (.ifCond .eq 12, 3) := qdX7_make_0_24.2.2.2.2.2.2.2.2.2.2.2.2.2.2.2.2.2.2.2.1
theorem dX7_make_37 : decode cX7_make 37 = .ok (.aload_n 0, 1) := qdX7_make_0_24.2.2.2.2.2.2.2.2.2.2.2.2.2.2.2.2.2.2.2.2.1
theorem dX7_make_38 : decode cX7_make 38 = .ok (.aload 5, 2) := qdX7_make_0_24.2.2.2.2.2.2.2.2.2.2.2.2.2.2.2.2.2.2.2.2.2.1
theorem dX7_make_40 : decode cX7_make 40 = .ok (.invokevirtual 62, 3) := qdX7_make_0_24.2.2.2.2.2.2.2.2.2.2.2.2.2.2.2.2.2.2.2.2.2.2.1
theorem dX7_make_43 : decode cX7_make 43 = .ok (.goto 7, 3) := qdX7_make_0_24.2.2.2.2.2.2.2.2.2.2.2.2.2.2.2.2.2.2.2.2.2.2.2.1
theorem qdX7_make_46_3 : dcAll cX7_make [(46, .aload_n 0, 1), (47, .invokevirtual 92, 3), (50, .ireturn, 1)] := dcAll_of (by decide +kernel)
theorem dX7_make_46 : decode cX7_make 46 = .ok (.aload_n 0, 1) := qdX7_make_46_3.1
theorem dX7_make_47 : decode cX7_make 47 = .ok (.invokevirtual 92, 3) := qdX7_make_46_3.2.1
theorem dX7_make_50 : decode cX7_make 50 = .ok (.ireturn, 1) := qdX7_make_46_3.2.2.1
theorem ggX7_value_X7_rowOf : GoodIn wsX7_value wsX7_rowOf := fun w h => ⟨List.mem_cons_of_mem _ (List.mem_append_left _ (List.mem_append_left _ (List.mem_append_left _ (List.mem_append_right _ h)))), zq_X7_rowOf w h⟩
set_option maxRecDepth 20000 in
theorem gX7_value_X7_rowOf : GoodIn wsX7_value (wsV RX7 46 RX7 yX7_rowOf wsX7_rowOf) := goodIn_app (goodIn_r _ [1, 2, 3, 4] rfl rfl) ggX7_value_X7_rowOf
theorem ggX7_value_X7_need : GoodIn wsX7_value wsX7_need := fun w h => ⟨List.mem_cons_of_mem _ (List.mem_append_left _ (List.mem_append_left _ (List.mem_append_right _ h))), zq_X7_need w h⟩
set_option maxRecDepth 20000 in
theorem gX7_value_X7_need : GoodIn wsX7_value (va_wsS RX7 50 yX7_need wsX7_need) := goodIn_app (goodIn_r _ [6, 7, 4] rfl rfl) ggX7_value_X7_need
theorem ggX7_value_X4_at : GoodIn wsX7_value wsX4_at := fun w h => ⟨List.mem_cons_of_mem _ (List.mem_append_left _ (List.mem_append_right _ h)), zq_X4_at w h⟩
set_option maxRecDepth 20000 in
theorem gX7_value_X4_at : GoodIn wsX7_value (wsV RX7 104 RX4 yX4_at wsX4_at) := goodIn_app (goodIn_r _ [9, 10, 11, 12] rfl rfl) ggX7_value_X4_at
theorem ggX7_value_X7_textOf : GoodIn wsX7_value wsX7_textOf := fun w h => ⟨List.mem_cons_of_mem _ (List.mem_append_right _ h), zq_X7_textOf w h⟩
set_option maxRecDepth 20000 in
theorem gX7_value_X7_textOf : GoodIn wsX7_value (va_wsS RX7 108 yX7_textOf wsX7_textOf) := goodIn_app (goodIn_r _ [13, 14, 4] rfl rfl) ggX7_value_X7_textOf
theorem qdX7_value_0_13 : dcAll cX7_value [(0, .aload_n 0, 1), (1, .iload_n 1, 1), (2, .invokevirtual 46, 3), (5, .astore_n 3, 1), (6, .iload_n 2, 1), (7, .iconst 1, 1), (8, .bipush 120, 2), (10, .invokestatic 50, 3), (13, .aload_n 3, 1), (14, .iload_n 2, 1), (15, .invokevirtual 104, 3), (18, .invokestatic 108, 3), (21, .areturn, 1)] := dcAll_of (by decide +kernel)
theorem dX7_value_0 : decode cX7_value 0 = .ok (.aload_n 0, 1) := qdX7_value_0_13.1
theorem dX7_value_1 : decode cX7_value 1 = .ok (.iload_n 1, 1) := qdX7_value_0_13.2.1
theorem dX7_value_2 : decode cX7_value 2 = .ok (.invokevirtual 46, 3) := qdX7_value_0_13.2.2.1
theorem dX7_value_5 : decode cX7_value 5 = .ok (.astore_n 3, 1) := qdX7_value_0_13.2.2.2.1
theorem dX7_value_6 : decode cX7_value 6 = .ok (.iload_n 2, 1) := qdX7_value_0_13.2.2.2.2.1
theorem dX7_value_7 : decode cX7_value 7 = .ok (.iconst 1, 1) := qdX7_value_0_13.2.2.2.2.2.1
theorem dX7_value_8 : decode cX7_value 8 = .ok (.bipush 120, 2) := qdX7_value_0_13.2.2.2.2.2.2.1
theorem dX7_value_10 : decode cX7_value 10 = .ok (.invokestatic 50, 3) := qdX7_value_0_13.2.2.2.2.2.2.2.1
theorem dX7_value_13 : decode cX7_value 13 = .ok (.aload_n 3, 1) := qdX7_value_0_13.2.2.2.2.2.2.2.2.1
theorem dX7_value_14 : decode cX7_value 14 = .ok (.iload_n 2, 1) := qdX7_value_0_13.2.2.2.2.2.2.2.2.2.1
theorem dX7_value_15 : decode cX7_value 15 = .ok (.invokevirtual 104, 3) := qdX7_value_0_13.2.2.2.2.2.2.2.2.2.2.1
theorem dX7_value_18 : decode cX7_value 18 = .ok (.invokestatic 108, 3) := qdX7_value_0_13.2.2.2.2.2.2.2.2.2.2.2.1
theorem dX7_value_21 : decode cX7_value 21 = .ok (.areturn, 1) := qdX7_value_0_13.2.2.2.2.2.2.2.2.2.2.2.2.1
theorem ggX7_half_X7_rowOf : GoodIn wsX7_half wsX7_rowOf := fun w h => ⟨List.mem_cons_of_mem _ (List.mem_append_left _ (List.mem_append_left _ (List.mem_append_right _ h))), zq_X7_rowOf w h⟩
set_option maxRecDepth 20000 in
theorem gX7_half_X7_rowOf : GoodIn wsX7_half (wsV RX7 46 RX7 yX7_rowOf wsX7_rowOf) := goodIn_app (goodIn_r _ [1, 2, 3, 4] rfl rfl) ggX7_half_X7_rowOf
theorem ggX7_half_X7_need : GoodIn wsX7_half wsX7_need := fun w h => ⟨List.mem_cons_of_mem _ (List.mem_append_left _ (List.mem_append_right _ h)), zq_X7_need w h⟩
set_option maxRecDepth 20000 in
theorem gX7_half_X7_need : GoodIn wsX7_half (va_wsS RX7 50 yX7_need wsX7_need) := goodIn_app (goodIn_r _ [6, 7, 4] rfl rfl) ggX7_half_X7_need
theorem ggX7_half_X4_at : GoodIn wsX7_half wsX4_at := fun w h => ⟨List.mem_cons_of_mem _ (List.mem_append_right _ h), zq_X4_at w h⟩
set_option maxRecDepth 20000 in
theorem gX7_half_X4_at : GoodIn wsX7_half (wsV RX7 104 RX4 yX4_at wsX4_at) := goodIn_app (goodIn_r _ [9, 10, 11, 12] rfl rfl) ggX7_half_X4_at
theorem qdX7_half_0_21 : dcAll cX7_half [(0, .aload_n 0, 1), (1, .iload_n 1, 1), (2, .invokevirtual 46, 3), (5, .astore 4, 2), (7, .iload_n 2, 1), (8, .iconst 1, 1), (9, .bipush 120, 2), (11, .invokestatic 50, 3), (14, .iload_n 3, 1), (15, .ifCond .eq 15, 3), (18, .aload 4, 2), (20, .iload_n 2, 1), (21, .invokevirtual 104, 3), (24, .bipush 32, 2), (26, .lshr, 1), (27, .goto 9, 3), (30, .aload 4, 2), (32, .iload_n 2, 1), (33, .invokevirtual 104, 3), (36, .l2i, 1), (37, .ireturn, 1)] := dcAll_of (by decide +kernel)
theorem dX7_half_0 : decode cX7_half 0 = .ok (.aload_n 0, 1) := qdX7_half_0_21.1
theorem dX7_half_1 : decode cX7_half 1 = .ok (.iload_n 1, 1) := qdX7_half_0_21.2.1
theorem dX7_half_2 : decode cX7_half 2 = .ok (.invokevirtual 46, 3) := qdX7_half_0_21.2.2.1
theorem dX7_half_5 : decode cX7_half 5 = .ok (.astore 4, 2) := qdX7_half_0_21.2.2.2.1
theorem dX7_half_7 : decode cX7_half 7 = .ok (.iload_n 2, 1) := qdX7_half_0_21.2.2.2.2.1
theorem dX7_half_8 : decode cX7_half 8 = .ok (.iconst 1, 1) := qdX7_half_0_21.2.2.2.2.2.1
theorem dX7_half_9 : decode cX7_half 9 = .ok (.bipush 120, 2) := qdX7_half_0_21.2.2.2.2.2.2.1
theorem dX7_half_11 : decode cX7_half 11 = .ok (.invokestatic 50, 3) := qdX7_half_0_21.2.2.2.2.2.2.2.1
theorem dX7_half_14 : decode cX7_half 14 = .ok (.iload_n 3, 1) := qdX7_half_0_21.2.2.2.2.2.2.2.2.1
theorem dX7_half_15 : decode cX7_half 15 = .ok (.ifCond .eq 15, 3) := qdX7_half_0_21.2.2.2.2.2.2.2.2.2.1
theorem dX7_half_18 : decode cX7_half 18 = .ok (.aload 4, 2) := qdX7_half_0_21.2.2.2.2.2.2.2.2.2.2.1
theorem dX7_half_20 : decode cX7_half 20 = .ok (.iload_n 2, 1) := qdX7_half_0_21.2.2.2.2.2.2.2.2.2.2.2.1
theorem dX7_half_21 : decode cX7_half 21 = .ok (.invokevirtual 104, 3) := qdX7_half_0_21.2.2.2.2.2.2.2.2.2.2.2.2.1
theorem dX7_half_24 : decode cX7_half 24 = .ok (.bipush 32, 2) := qdX7_half_0_21.2.2.2.2.2.2.2.2.2.2.2.2.2.1
theorem dX7_half_26 : decode cX7_half 26 = .ok (.lshr, 1) := qdX7_half_0_21.2.2.2.2.2.2.2.2.2.2.2.2.2.2.1
theorem dX7_half_27 : decode cX7_half 27 = .ok (.goto 9, 3) := qdX7_half_0_21.2.2.2.2.2.2.2.2.2.2.2.2.2.2.2.1
theorem dX7_half_30 : decode cX7_half 30 = .ok (.aload 4, 2) := qdX7_half_0_21.2.2.2.2.2.2.2.2.2.2.2.2.2.2.2.2.1
theorem dX7_half_32 : decode cX7_half 32 = .ok (.iload_n 2, 1) := qdX7_half_0_21.2.2.2.2.2.2.2.2.2.2.2.2.2.2.2.2.2.1
theorem dX7_half_33 : decode cX7_half 33 = .ok (.invokevirtual 104, 3) := qdX7_half_0_21.2.2.2.2.2.2.2.2.2.2.2.2.2.2.2.2.2.2.1
theorem dX7_half_36 : decode cX7_half 36 = .ok (.l2i, 1) := qdX7_half_0_21.2.2.2.2.2.2.2.2.2.2.2.2.2.2.2.2.2.2.2.1
theorem dX7_half_37 : decode cX7_half 37 = .ok (.ireturn, 1) := qdX7_half_0_21.2.2.2.2.2.2.2.2.2.2.2.2.2.2.2.2.2.2.2.2.1
theorem ggX7_differ_X7_rowOf : GoodIn wsX7_differ wsX7_rowOf := fun w h => ⟨List.mem_cons_of_mem _ (List.mem_append_left _ (List.mem_append_right _ h)), zq_X7_rowOf w h⟩
set_option maxRecDepth 20000 in
theorem gX7_differ_X7_rowOf : GoodIn wsX7_differ (wsV RX7 46 RX7 yX7_rowOf wsX7_rowOf) := goodIn_app (goodIn_r _ [1, 2, 3, 4] rfl rfl) ggX7_differ_X7_rowOf
theorem ggX7_differ_X4_firstUnlike : GoodIn wsX7_differ wsX4_firstUnlike := fun w h => ⟨List.mem_cons_of_mem _ (List.mem_append_right _ h), zq_X4_firstUnlike w h⟩
set_option maxRecDepth 20000 in
theorem gX7_differ_X4_firstUnlike : GoodIn wsX7_differ (wsV RX7 112 RX4 yX4_firstUnlike wsX4_firstUnlike) := goodIn_app (goodIn_r _ [6, 7, 8, 9] rfl rfl) ggX7_differ_X4_firstUnlike
theorem qdX7_differ_0_12 : dcAll cX7_differ [(0, .aload_n 0, 1), (1, .iload_n 1, 1), (2, .invokevirtual 46, 3), (5, .astore_n 3, 1), (6, .aload_n 0, 1), (7, .iload_n 2, 1), (8, .invokevirtual 46, 3), (11, .astore 4, 2), (13, .aload_n 3, 1), (14, .aload 4, 2), (16, .invokevirtual 112, 3), (19, .ireturn, 1)] := dcAll_of (by decide +kernel)
theorem dX7_differ_0 : decode cX7_differ 0 = .ok (.aload_n 0, 1) := qdX7_differ_0_12.1
theorem dX7_differ_1 : decode cX7_differ 1 = .ok (.iload_n 1, 1) := qdX7_differ_0_12.2.1
theorem dX7_differ_2 : decode cX7_differ 2 = .ok (.invokevirtual 46, 3) := qdX7_differ_0_12.2.2.1
theorem dX7_differ_5 : decode cX7_differ 5 = .ok (.astore_n 3, 1) := qdX7_differ_0_12.2.2.2.1
theorem dX7_differ_6 : decode cX7_differ 6 = .ok (.aload_n 0, 1) := qdX7_differ_0_12.2.2.2.2.1
theorem dX7_differ_7 : decode cX7_differ 7 = .ok (.iload_n 2, 1) := qdX7_differ_0_12.2.2.2.2.2.1
theorem dX7_differ_8 : decode cX7_differ 8 = .ok (.invokevirtual 46, 3) := qdX7_differ_0_12.2.2.2.2.2.2.1
theorem dX7_differ_11 : decode cX7_differ 11 = .ok (.astore 4, 2) := qdX7_differ_0_12.2.2.2.2.2.2.2.1
theorem dX7_differ_13 : decode cX7_differ 13 = .ok (.aload_n 3, 1) := qdX7_differ_0_12.2.2.2.2.2.2.2.2.1
theorem dX7_differ_14 : decode cX7_differ 14 = .ok (.aload 4, 2) := qdX7_differ_0_12.2.2.2.2.2.2.2.2.2.1
theorem dX7_differ_16 : decode cX7_differ 16 = .ok (.invokevirtual 112, 3) := qdX7_differ_0_12.2.2.2.2.2.2.2.2.2.2.1
theorem dX7_differ_19 : decode cX7_differ 19 = .ok (.ireturn, 1) := qdX7_differ_0_12.2.2.2.2.2.2.2.2.2.2.2.1
theorem ggX7_is_X7_rowOf : GoodIn wsX7_is wsX7_rowOf := fun w h => ⟨List.mem_cons_of_mem _ (List.mem_append_left _ (List.mem_append_left _ (List.mem_append_left _ (List.mem_append_left _ (List.mem_append_right _ h))))), zq_X7_rowOf w h⟩
set_option maxRecDepth 20000 in
theorem gX7_is_X7_rowOf : GoodIn wsX7_is (wsV RX7 46 RX7 yX7_rowOf wsX7_rowOf) := goodIn_app (goodIn_r _ [3, 4, 5, 6] rfl rfl) ggX7_is_X7_rowOf
theorem ggX7_is_X7_need : GoodIn wsX7_is wsX7_need := fun w h => ⟨List.mem_cons_of_mem _ (List.mem_append_left _ (List.mem_append_left _ (List.mem_append_left _ (List.mem_append_right _ h)))), zq_X7_need w h⟩
set_option maxRecDepth 20000 in
theorem gX7_is_X7_need : GoodIn wsX7_is (va_wsS RX7 50 yX7_need wsX7_need) := goodIn_app (goodIn_r _ [8, 9, 6] rfl rfl) ggX7_is_X7_need
theorem ggX7_is_X0_isByPrimes : GoodIn wsX7_is wsX0_isByPrimes := fun w h => ⟨List.mem_cons_of_mem _ (List.mem_append_left _ (List.mem_append_left _ (List.mem_append_right _ h))), zq_X0_isByPrimes w h⟩
set_option maxRecDepth 20000 in
theorem gX7_is_X0_isByPrimes : GoodIn wsX7_is (wsV RX7 115 RX0 yX0_isByPrimes wsX0_isByPrimes) := goodIn_app (goodIn_r _ [11, 12, 13, 14] rfl rfl) ggX7_is_X0_isByPrimes
theorem ggX7_is_X0_hasInverse : GoodIn wsX7_is wsX0_hasInverse := fun w h => ⟨List.mem_cons_of_mem _ (List.mem_append_left _ (List.mem_append_right _ h)), zq_X0_hasInverse w h⟩
set_option maxRecDepth 20000 in
theorem gX7_is_X0_hasInverse : GoodIn wsX7_is (wsV RX7 119 RX0 yX0_hasInverse wsX0_hasInverse) := goodIn_app (goodIn_r _ [18, 19, 20, 14] rfl rfl) ggX7_is_X0_hasInverse
theorem ggX7_is_X0_layInverse : GoodIn wsX7_is wsX0_layInverse := fun w h => ⟨List.mem_cons_of_mem _ (List.mem_append_right _ h), zq_X0_layInverse w h⟩
set_option maxRecDepth 20000 in
theorem gX7_is_X0_layInverse : GoodIn wsX7_is (wsV RX7 123 RX0 yX0_layInverse wsX0_layInverse) := goodIn_app (goodIn_r _ [21, 22, 23, 14] rfl rfl) ggX7_is_X0_layInverse
theorem qdX7_is_0_24 : dcAll cX7_is [(0, .aload_n 0, 1), (1, .iload_n 1, 1), (2, .invokevirtual 46, 3), (5, .astore_n 3, 1), (6, .iload_n 2, 1), (7, .iconst 0, 1), (8, .iconst 3, 1), (9, .invokestatic 50, 3), (12, .iload_n 2, 1), (13, .tableswitch 56 0 2 #[27, 37, 47], 27), (40, .aload_n 0, 1), (41, .getfield 42, 3), (44, .aload_n 3, 1), (45, .iconst 0, 1), (46, .invokevirtual 115, 3), (49, .ireturn, 1), (50, .aload_n 0, 1), (51, .getfield 42, 3), (54, .aload_n 3, 1), (55, .iconst 1, 1), (56, .invokevirtual 115, 3), (59, .ireturn, 1), (60, .aload_n 0, 1), (61, .getfield 42, 3)] := dcAll_of (by decide +kernel)
theorem dX7_is_0 : decode cX7_is 0 = .ok (.aload_n 0, 1) := qdX7_is_0_24.1
theorem dX7_is_1 : decode cX7_is 1 = .ok (.iload_n 1, 1) := qdX7_is_0_24.2.1
theorem dX7_is_2 : decode cX7_is 2 = .ok (.invokevirtual 46, 3) := qdX7_is_0_24.2.2.1
theorem dX7_is_5 : decode cX7_is 5 = .ok (.astore_n 3, 1) := qdX7_is_0_24.2.2.2.1
theorem dX7_is_6 : decode cX7_is 6 = .ok (.iload_n 2, 1) := qdX7_is_0_24.2.2.2.2.1
theorem dX7_is_7 : decode cX7_is 7 = .ok (.iconst 0, 1) := qdX7_is_0_24.2.2.2.2.2.1
theorem dX7_is_8 : decode cX7_is 8 = .ok (.iconst 3, 1) := qdX7_is_0_24.2.2.2.2.2.2.1
theorem dX7_is_9 : decode cX7_is 9 = .ok (.invokestatic 50, 3) := qdX7_is_0_24.2.2.2.2.2.2.2.1
theorem dX7_is_12 : decode cX7_is 12 = .ok (.iload_n 2, 1) := qdX7_is_0_24.2.2.2.2.2.2.2.2.1
theorem dX7_is_13 : decode cX7_is 13 = .ok (.tableswitch 56 0 2 #[27, 37, 47], 27) := qdX7_is_0_24.2.2.2.2.2.2.2.2.2.1
theorem dX7_is_40 : decode cX7_is 40 = .ok (.aload_n 0, 1) := qdX7_is_0_24.2.2.2.2.2.2.2.2.2.2.1
theorem dX7_is_41 : decode cX7_is 41 = .ok (.getfield 42, 3) := qdX7_is_0_24.2.2.2.2.2.2.2.2.2.2.2.1
theorem dX7_is_44 : decode cX7_is 44 = .ok (.aload_n 3, 1) := qdX7_is_0_24.2.2.2.2.2.2.2.2.2.2.2.2.1
theorem dX7_is_45 : decode cX7_is 45 = .ok (.iconst 0, 1) := qdX7_is_0_24.2.2.2.2.2.2.2.2.2.2.2.2.2.1
theorem dX7_is_46 : decode cX7_is 46 = .ok (.invokevirtual 115, 3) := qdX7_is_0_24.2.2.2.2.2.2.2.2.2.2.2.2.2.2.1
theorem dX7_is_49 : decode cX7_is 49 = .ok (.ireturn, 1) := qdX7_is_0_24.2.2.2.2.2.2.2.2.2.2.2.2.2.2.2.1
theorem dX7_is_50 : decode cX7_is 50 = .ok (.aload_n 0, 1) := qdX7_is_0_24.2.2.2.2.2.2.2.2.2.2.2.2.2.2.2.2.1
theorem dX7_is_51 : decode cX7_is 51 = .ok (.getfield 42, 3) := qdX7_is_0_24.2.2.2.2.2.2.2.2.2.2.2.2.2.2.2.2.2.1
theorem dX7_is_54 : decode cX7_is 54 = .ok (.aload_n 3, 1) := qdX7_is_0_24.2.2.2.2.2.2.2.2.2.2.2.2.2.2.2.2.2.2.1
theorem dX7_is_55 : decode cX7_is 55 = .ok (.iconst 1, 1) := qdX7_is_0_24.2.2.2.2.2.2.2.2.2.2.2.2.2.2.2.2.2.2.2.1
theorem dX7_is_56 : decode cX7_is 56 = .ok (.invokevirtual 115, 3) := qdX7_is_0_24.2.2.2.2.2.2.2.2.2.2.2.2.2.2.2.2.2.2.2.2.1
theorem dX7_is_59 : decode cX7_is 59 = .ok (.ireturn, 1) := qdX7_is_0_24.2.2.2.2.2.2.2.2.2.2.2.2.2.2.2.2.2.2.2.2.2.1
theorem dX7_is_60 : decode cX7_is 60 = .ok (.aload_n 0, 1) := qdX7_is_0_24.2.2.2.2.2.2.2.2.2.2.2.2.2.2.2.2.2.2.2.2.2.2.1
theorem dX7_is_61 : decode cX7_is 61 = .ok (.getfield 42, 3) := qdX7_is_0_24.2.2.2.2.2.2.2.2.2.2.2.2.2.2.2.2.2.2.2.2.2.2.2.1
theorem qdX7_is_64_10 : dcAll cX7_is [(64, .aload_n 3, 1), (65, .invokevirtual 119, 3), (68, .ireturn, 1), (69, .aload_n 0, 1), (70, .getfield 42, 3), (73, .aload_n 3, 1), (74, .aload_n 0, 1), (75, .getfield 16, 3), (78, .invokevirtual 123, 3), (81, .ireturn, 1)] := dcAll_of (by decide +kernel)
theorem dX7_is_64 : decode cX7_is 64 = .ok (.aload_n 3, 1) := qdX7_is_64_10.1
theorem dX7_is_65 : decode cX7_is 65 = .ok (.invokevirtual 119, 3) := qdX7_is_64_10.2.1
theorem dX7_is_68 : decode cX7_is 68 = .ok (.ireturn, 1) := qdX7_is_64_10.2.2.1
theorem dX7_is_69 : decode cX7_is 69 = .ok (.aload_n 0, 1) := qdX7_is_64_10.2.2.2.1
theorem dX7_is_70 : decode cX7_is 70 = .ok (.getfield 42, 3) := qdX7_is_64_10.2.2.2.2.1
theorem dX7_is_73 : decode cX7_is 73 = .ok (.aload_n 3, 1) := qdX7_is_64_10.2.2.2.2.2.1
theorem dX7_is_74 : decode cX7_is 74 = .ok (.aload_n 0, 1) := qdX7_is_64_10.2.2.2.2.2.2.1
theorem dX7_is_75 : decode cX7_is 75 = .ok (.getfield 16, 3) := qdX7_is_64_10.2.2.2.2.2.2.2.1
theorem dX7_is_78 : decode cX7_is 78 = .ok (.invokevirtual 123, 3) := qdX7_is_64_10.2.2.2.2.2.2.2.2.1
theorem dX7_is_81 : decode cX7_is 81 = .ok (.ireturn, 1) := qdX7_is_64_10.2.2.2.2.2.2.2.2.2.1
theorem ggX7_total_X7_rowOf : GoodIn wsX7_total wsX7_rowOf := fun w h => ⟨List.mem_cons_of_mem _ (List.mem_append_left _ (List.mem_append_left _ (List.mem_append_left _ (List.mem_append_left _ (List.mem_append_left _ (List.mem_append_left _ (List.mem_append_right _ h))))))), zq_X7_rowOf w h⟩
set_option maxRecDepth 20000 in
theorem gX7_total_X7_rowOf : GoodIn wsX7_total (wsV RX7 46 RX7 yX7_rowOf wsX7_rowOf) := goodIn_app (goodIn_r _ [4, 5, 6, 7] rfl rfl) ggX7_total_X7_rowOf
theorem ggX7_total_X7_need : GoodIn wsX7_total wsX7_need := fun w h => ⟨List.mem_cons_of_mem _ (List.mem_append_left _ (List.mem_append_left _ (List.mem_append_left _ (List.mem_append_left _ (List.mem_append_left _ (List.mem_append_right _ h)))))), zq_X7_need w h⟩
set_option maxRecDepth 20000 in
theorem gX7_total_X7_need : GoodIn wsX7_total (va_wsS RX7 50 yX7_need wsX7_need) := goodIn_app (goodIn_r _ [9, 10, 7] rfl rfl) ggX7_total_X7_need
theorem ggX7_total_X3_begin : GoodIn wsX7_total wsX3_begin := fun w h => ⟨List.mem_cons_of_mem _ (List.mem_append_left _ (List.mem_append_left _ (List.mem_append_left _ (List.mem_append_left _ (List.mem_append_right _ h))))), zq_X3_begin w h⟩
set_option maxRecDepth 20000 in
theorem gX7_total_X3_begin : GoodIn wsX7_total (wsV RX7 127 RX3 yX3_begin wsX3_begin) := goodIn_app (goodIn_r _ [12, 13, 14, 15] rfl rfl) ggX7_total_X3_begin
theorem ggX7_total_X4_at : GoodIn wsX7_total wsX4_at := fun w h => ⟨List.mem_cons_of_mem _ (List.mem_append_left _ (List.mem_append_left _ (List.mem_append_left _ (List.mem_append_right _ h)))), zq_X4_at w h⟩
set_option maxRecDepth 20000 in
theorem gX7_total_X4_at : GoodIn wsX7_total (wsV RX7 104 RX4 yX4_at wsX4_at) := goodIn_app (goodIn_r _ [16, 17, 18, 19] rfl rfl) ggX7_total_X4_at
theorem ggX7_total_X3_plus : GoodIn wsX7_total wsX3_plus := fun w h => ⟨List.mem_cons_of_mem _ (List.mem_append_left _ (List.mem_append_left _ (List.mem_append_right _ h))), zq_X3_plus w h⟩
set_option maxRecDepth 20000 in
theorem gX7_total_X3_plus : GoodIn wsX7_total (wsV RX7 130 RX3 yX3_plus wsX3_plus) := goodIn_app (goodIn_r _ [20, 21, 22, 15] rfl rfl) ggX7_total_X3_plus
theorem ggX7_total_X3_isBeyond : GoodIn wsX7_total wsX3_isBeyond := fun w h => ⟨List.mem_cons_of_mem _ (List.mem_append_left _ (List.mem_append_right _ h)), zq_X3_isBeyond w h⟩
set_option maxRecDepth 20000 in
theorem gX7_total_X3_isBeyond : GoodIn wsX7_total (wsV RX7 134 RX3 yX3_isBeyond wsX3_isBeyond) := goodIn_app (goodIn_r _ [23, 24, 25, 15] rfl rfl) ggX7_total_X3_isBeyond
theorem ggX7_total_X7_textOf : GoodIn wsX7_total wsX7_textOf := fun w h => ⟨List.mem_cons_of_mem _ (List.mem_append_right _ h), zq_X7_textOf w h⟩
set_option maxRecDepth 20000 in
theorem gX7_total_X7_textOf : GoodIn wsX7_total (va_wsS RX7 108 yX7_textOf wsX7_textOf) := goodIn_app (goodIn_r _ [26, 27, 7] rfl rfl) ggX7_total_X7_textOf
theorem qdX7_total_0_24 : dcAll cX7_total [(0, .aload_n 0, 1), (1, .iload_n 1, 1), (2, .invokevirtual 46, 3), (5, .astore_n 3, 1), (6, .iload_n 2, 1), (7, .iconst 0, 1), (8, .bipush 120, 2), (10, .invokestatic 50, 3), (13, .aload_n 0, 1), (14, .getfield 26, 3), (17, .invokevirtual 127, 3), (20, .lconst 0, 1), (21, .lstore 4, 2), (23, .iconst 1, 1), (24, .istore 6, 2), (26, .iload 6, 2), (28, .iload_n 2, 1), (29, .if_icmp .gt 26, 3), (32, .aload_n 0, 1), (33, .getfield 26, 3), (36, .lload 4, 2), (38, .aload_n 3, 1), (39, .iload 6, 2), (41, .invokevirtual 104, 3)] := dcAll_of (by decide +kernel)
theorem dX7_total_0 : decode cX7_total 0 = .ok (.aload_n 0, 1) := qdX7_total_0_24.1
theorem dX7_total_1 : decode cX7_total 1 = .ok (.iload_n 1, 1) := qdX7_total_0_24.2.1
theorem dX7_total_2 : decode cX7_total 2 = .ok (.invokevirtual 46, 3) := qdX7_total_0_24.2.2.1
theorem dX7_total_5 : decode cX7_total 5 = .ok (.astore_n 3, 1) := qdX7_total_0_24.2.2.2.1
theorem dX7_total_6 : decode cX7_total 6 = .ok (.iload_n 2, 1) := qdX7_total_0_24.2.2.2.2.1
theorem dX7_total_7 : decode cX7_total 7 = .ok (.iconst 0, 1) := qdX7_total_0_24.2.2.2.2.2.1
theorem dX7_total_8 : decode cX7_total 8 = .ok (.bipush 120, 2) := qdX7_total_0_24.2.2.2.2.2.2.1
theorem dX7_total_10 : decode cX7_total 10 = .ok (.invokestatic 50, 3) := qdX7_total_0_24.2.2.2.2.2.2.2.1
theorem dX7_total_13 : decode cX7_total 13 = .ok (.aload_n 0, 1) := qdX7_total_0_24.2.2.2.2.2.2.2.2.1
theorem dX7_total_14 : decode cX7_total 14 = .ok (.getfield 26, 3) := qdX7_total_0_24.2.2.2.2.2.2.2.2.2.1
theorem dX7_total_17 : decode cX7_total 17 = .ok (.invokevirtual 127, 3) := qdX7_total_0_24.2.2.2.2.2.2.2.2.2.2.1
theorem dX7_total_20 : decode cX7_total 20 = .ok (.lconst 0, 1) := qdX7_total_0_24.2.2.2.2.2.2.2.2.2.2.2.1
theorem dX7_total_21 : decode cX7_total 21 = .ok (.lstore 4, 2) := qdX7_total_0_24.2.2.2.2.2.2.2.2.2.2.2.2.1
theorem dX7_total_23 : decode cX7_total 23 = .ok (.iconst 1, 1) := qdX7_total_0_24.2.2.2.2.2.2.2.2.2.2.2.2.2.1
theorem dX7_total_24 : decode cX7_total 24 = .ok (.istore 6, 2) := qdX7_total_0_24.2.2.2.2.2.2.2.2.2.2.2.2.2.2.1
theorem dX7_total_26 : decode cX7_total 26 = .ok (.iload 6, 2) := qdX7_total_0_24.2.2.2.2.2.2.2.2.2.2.2.2.2.2.2.1
theorem dX7_total_28 : decode cX7_total 28 = .ok (.iload_n 2, 1) := qdX7_total_0_24.2.2.2.2.2.2.2.2.2.2.2.2.2.2.2.2.1
theorem dX7_total_29 : decode cX7_total 29 = .ok (.if_icmp .gt 26, 3) := qdX7_total_0_24.2.2.2.2.2.2.2.2.2.2.2.2.2.2.2.2.2.1
theorem dX7_total_32 : decode cX7_total 32 = .ok (.aload_n 0, 1) := qdX7_total_0_24.2.2.2.2.2.2.2.2.2.2.2.2.2.2.2.2.2.2.1
theorem dX7_total_33 : decode cX7_total 33 = .ok (.getfield 26, 3) := qdX7_total_0_24.2.2.2.2.2.2.2.2.2.2.2.2.2.2.2.2.2.2.2.1
theorem dX7_total_36 : decode cX7_total 36 = .ok (.lload 4, 2) := qdX7_total_0_24.2.2.2.2.2.2.2.2.2.2.2.2.2.2.2.2.2.2.2.2.1
theorem dX7_total_38 : decode cX7_total 38 = .ok (.aload_n 3, 1) := qdX7_total_0_24.2.2.2.2.2.2.2.2.2.2.2.2.2.2.2.2.2.2.2.2.2.1
theorem dX7_total_39 : decode cX7_total 39 = .ok (.iload 6, 2) := qdX7_total_0_24.2.2.2.2.2.2.2.2.2.2.2.2.2.2.2.2.2.2.2.2.2.2.1
theorem dX7_total_41 : decode cX7_total 41 = .ok (.invokevirtual 104, 3) := qdX7_total_0_24.2.2.2.2.2.2.2.2.2.2.2.2.2.2.2.2.2.2.2.2.2.2.2.1
theorem qdX7_total_44_16 : dcAll cX7_total [(44, .invokevirtual 130, 3), (47, .lstore 4, 2), (49, .iinc 6 1, 3), (52, .goto (-26), 3), (55, .aload_n 0, 1), (56, .getfield 26, 3), (59, .invokevirtual 134, 3), (62, .ifCond .eq 13, 3), (65, .new 138, 3), (68, .dup, 1), (69, .ldc 140, 2), (71, .invokespecial 142, 3), (74, .athrow, 1), (75, .lload 4, 2), (77, .invokestatic 108, 3), (80, .areturn, 1)] := dcAll_of (by decide +kernel)
theorem dX7_total_44 : decode cX7_total 44 = .ok (.invokevirtual 130, 3) := qdX7_total_44_16.1
theorem dX7_total_47 : decode cX7_total 47 = .ok (.lstore 4, 2) := qdX7_total_44_16.2.1
theorem dX7_total_49 : decode cX7_total 49 = .ok (.iinc 6 1, 3) := qdX7_total_44_16.2.2.1
theorem dX7_total_52 : decode cX7_total 52 = .ok (.goto (-26), 3) := qdX7_total_44_16.2.2.2.1
theorem dX7_total_55 : decode cX7_total 55 = .ok (.aload_n 0, 1) := qdX7_total_44_16.2.2.2.2.1
theorem dX7_total_56 : decode cX7_total 56 = .ok (.getfield 26, 3) := qdX7_total_44_16.2.2.2.2.2.1
theorem dX7_total_59 : decode cX7_total 59 = .ok (.invokevirtual 134, 3) := qdX7_total_44_16.2.2.2.2.2.2.1
theorem dX7_total_62 : decode cX7_total 62 = .ok (.ifCond .eq 13, 3) := qdX7_total_44_16.2.2.2.2.2.2.2.1
theorem dX7_total_65 : decode cX7_total 65 = .ok (.new 138, 3) := qdX7_total_44_16.2.2.2.2.2.2.2.2.1
theorem dX7_total_68 : decode cX7_total 68 = .ok (.dup, 1) := qdX7_total_44_16.2.2.2.2.2.2.2.2.2.1
theorem dX7_total_69 : decode cX7_total 69 = .ok (.ldc 140, 2) := qdX7_total_44_16.2.2.2.2.2.2.2.2.2.2.1
theorem dX7_total_71 : decode cX7_total 71 = .ok (.invokespecial 142, 3) := qdX7_total_44_16.2.2.2.2.2.2.2.2.2.2.2.1
theorem dX7_total_74 : decode cX7_total 74 = .ok (.athrow, 1) := qdX7_total_44_16.2.2.2.2.2.2.2.2.2.2.2.2.1
theorem dX7_total_75 : decode cX7_total 75 = .ok (.lload 4, 2) := qdX7_total_44_16.2.2.2.2.2.2.2.2.2.2.2.2.2.1
theorem dX7_total_77 : decode cX7_total 77 = .ok (.invokestatic 108, 3) := qdX7_total_44_16.2.2.2.2.2.2.2.2.2.2.2.2.2.2.1
theorem dX7_total_80 : decode cX7_total 80 = .ok (.areturn, 1) := qdX7_total_44_16.2.2.2.2.2.2.2.2.2.2.2.2.2.2.2.1
theorem ggX7_totalOfProduct_X7_rowOf : GoodIn wsX7_totalOfProduct wsX7_rowOf := fun w h => ⟨List.mem_cons_of_mem _ (List.mem_append_left _ (List.mem_append_left _ (List.mem_append_left _ (List.mem_append_left _ (List.mem_append_left _ (List.mem_append_left _ (List.mem_append_right _ h))))))), zq_X7_rowOf w h⟩
set_option maxRecDepth 20000 in
theorem gX7_totalOfProduct_X7_rowOf : GoodIn wsX7_totalOfProduct (wsV RX7 46 RX7 yX7_rowOf wsX7_rowOf) := goodIn_app (goodIn_r _ [2, 3, 4, 5] rfl rfl) ggX7_totalOfProduct_X7_rowOf
theorem ggX7_totalOfProduct_X7_need : GoodIn wsX7_totalOfProduct wsX7_need := fun w h => ⟨List.mem_cons_of_mem _ (List.mem_append_left _ (List.mem_append_left _ (List.mem_append_left _ (List.mem_append_left _ (List.mem_append_left _ (List.mem_append_right _ h)))))), zq_X7_need w h⟩
set_option maxRecDepth 20000 in
theorem gX7_totalOfProduct_X7_need : GoodIn wsX7_totalOfProduct (va_wsS RX7 50 yX7_need wsX7_need) := goodIn_app (goodIn_r _ [7, 8, 5] rfl rfl) ggX7_totalOfProduct_X7_need
theorem ggX7_totalOfProduct_X7_needSizes : GoodIn wsX7_totalOfProduct wsX7_needSizes := fun w h => ⟨List.mem_cons_of_mem _ (List.mem_append_left _ (List.mem_append_left _ (List.mem_append_left _ (List.mem_append_left _ (List.mem_append_right _ h))))), zq_X7_needSizes w h⟩
set_option maxRecDepth 20000 in
theorem gX7_totalOfProduct_X7_needSizes : GoodIn wsX7_totalOfProduct (va_wsS RX7 146 yX7_needSizes wsX7_needSizes) := goodIn_app (goodIn_r _ [10, 11, 5] rfl rfl) ggX7_totalOfProduct_X7_needSizes
theorem ggX7_totalOfProduct_X6_plainly : GoodIn wsX7_totalOfProduct wsX6_plainly := fun w h => ⟨List.mem_cons_of_mem _ (List.mem_append_left _ (List.mem_append_left _ (List.mem_append_left _ (List.mem_append_right _ h)))), zq_X6_plainly w h⟩
set_option maxRecDepth 20000 in
theorem gX7_totalOfProduct_X6_plainly : GoodIn wsX7_totalOfProduct (va_wsS RX7 150 yX6_plainly wsX6_plainly) := goodIn_app (goodIn_r _ [14, 15, 16] rfl rfl) ggX7_totalOfProduct_X6_plainly
theorem ggX7_totalOfProduct_X7_textOf : GoodIn wsX7_totalOfProduct wsX7_textOf := fun w h => ⟨List.mem_cons_of_mem _ (List.mem_append_left _ (List.mem_append_left _ (List.mem_append_right _ h))), zq_X7_textOf w h⟩
set_option maxRecDepth 20000 in
theorem gX7_totalOfProduct_X7_textOf : GoodIn wsX7_totalOfProduct (va_wsS RX7 108 yX7_textOf wsX7_textOf) := goodIn_app (goodIn_r _ [17, 18, 5] rfl rfl) ggX7_totalOfProduct_X7_textOf
theorem ggX7_totalOfProduct_X6_byQuotients : GoodIn wsX7_totalOfProduct wsX6_byQuotients := fun w h => ⟨List.mem_cons_of_mem _ (List.mem_append_left _ (List.mem_append_right _ h)), zq_X6_byQuotients w h⟩
set_option maxRecDepth 20000 in
theorem gX7_totalOfProduct_X6_byQuotients : GoodIn wsX7_totalOfProduct (va_wsS RX7 156 yX6_byQuotients wsX6_byQuotients) := goodIn_app (goodIn_r _ [40, 41, 16] rfl rfl) ggX7_totalOfProduct_X6_byQuotients
theorem ggX7_totalOfProduct_X6_byRoot : GoodIn wsX7_totalOfProduct wsX6_byRoot := fun w h => ⟨List.mem_cons_of_mem _ (List.mem_append_right _ h), zq_X6_byRoot w h⟩
set_option maxRecDepth 20000 in
theorem gX7_totalOfProduct_X6_byRoot : GoodIn wsX7_totalOfProduct (va_wsS RX7 159 yX6_byRoot wsX6_byRoot) := goodIn_app (goodIn_r _ [42, 43, 16] rfl rfl) ggX7_totalOfProduct_X6_byRoot
theorem qdX7_totalOfProduct_0_24 : dcAll cX7_totalOfProduct [(0, .aload_n 0, 1), (1, .iload_n 1, 1), (2, .invokevirtual 46, 3), (5, .astore 5, 2), (7, .aload_n 0, 1), (8, .iload_n 2, 1), (9, .invokevirtual 46, 3), (12, .astore 6, 2), (14, .iload_n 3, 1), (15, .iconst 1, 1), (16, .bipush 120, 2), (18, .invokestatic 50, 3), (21, .iload 4, 2), (23, .iconst 0, 1), (24, .iconst 2, 1), (25, .invokestatic 50, 3), (28, .aload 5, 2), (30, .iload_n 3, 1), (31, .ldc 145, 2), (33, .invokestatic 146, 3), (36, .aload 6, 2), (38, .iload_n 3, 1), (39, .ldc 145, 2), (41, .invokestatic 146, 3)] := dcAll_of (by decide +kernel)
theorem dX7_totalOfProduct_0 : decode cX7_totalOfProduct 0 = .ok (.aload_n 0, 1) := qdX7_totalOfProduct_0_24.1
theorem dX7_totalOfProduct_1 : decode cX7_totalOfProduct 1 = .ok (.iload_n 1, 1) := qdX7_totalOfProduct_0_24.2.1
theorem dX7_totalOfProduct_2 : decode cX7_totalOfProduct 2 = .ok (.invokevirtual 46, 3) := qdX7_totalOfProduct_0_24.2.2.1
theorem dX7_totalOfProduct_5 : decode cX7_totalOfProduct 5 = .ok (.astore 5, 2) := qdX7_totalOfProduct_0_24.2.2.2.1
theorem dX7_totalOfProduct_7 : decode cX7_totalOfProduct 7 = .ok (.aload_n 0, 1) := qdX7_totalOfProduct_0_24.2.2.2.2.1
theorem dX7_totalOfProduct_8 : decode cX7_totalOfProduct 8 = .ok (.iload_n 2, 1) := qdX7_totalOfProduct_0_24.2.2.2.2.2.1
theorem dX7_totalOfProduct_9 : decode cX7_totalOfProduct 9 = .ok (.invokevirtual 46, 3) := qdX7_totalOfProduct_0_24.2.2.2.2.2.2.1
theorem dX7_totalOfProduct_12 : decode cX7_totalOfProduct 12 = .ok (.astore 6, 2) := qdX7_totalOfProduct_0_24.2.2.2.2.2.2.2.1
theorem dX7_totalOfProduct_14 : decode cX7_totalOfProduct 14 = .ok (.iload_n 3, 1) := qdX7_totalOfProduct_0_24.2.2.2.2.2.2.2.2.1
theorem dX7_totalOfProduct_15 : decode cX7_totalOfProduct 15 = .ok (.iconst 1, 1) := qdX7_totalOfProduct_0_24.2.2.2.2.2.2.2.2.2.1
theorem dX7_totalOfProduct_16 : decode cX7_totalOfProduct 16 = .ok (.bipush 120, 2) := qdX7_totalOfProduct_0_24.2.2.2.2.2.2.2.2.2.2.1
theorem dX7_totalOfProduct_18 : decode cX7_totalOfProduct 18 = .ok (.invokestatic 50, 3) := qdX7_totalOfProduct_0_24.2.2.2.2.2.2.2.2.2.2.2.1
theorem dX7_totalOfProduct_21 : decode cX7_totalOfProduct 21 = .ok (.iload 4, 2) := qdX7_totalOfProduct_0_24.2.2.2.2.2.2.2.2.2.2.2.2.1
theorem dX7_totalOfProduct_23 : decode cX7_totalOfProduct 23 = .ok (.iconst 0, 1) := qdX7_totalOfProduct_0_24.2.2.2.2.2.2.2.2.2.2.2.2.2.1
theorem dX7_totalOfProduct_24 : decode cX7_totalOfProduct 24 = .ok (.iconst 2, 1) := qdX7_totalOfProduct_0_24.2.2.2.2.2.2.2.2.2.2.2.2.2.2.1
theorem dX7_totalOfProduct_25 : decode cX7_totalOfProduct 25 = .ok (.invokestatic 50, 3) := qdX7_totalOfProduct_0_24.2.2.2.2.2.2.2.2.2.2.2.2.2.2.2.1
theorem dX7_totalOfProduct_28 : decode cX7_totalOfProduct 28 = .ok (.aload 5, 2) := qdX7_totalOfProduct_0_24.2.2.2.2.2.2.2.2.2.2.2.2.2.2.2.2.1
theorem dX7_totalOfProduct_30 : decode cX7_totalOfProduct 30 = .ok (.iload_n 3, 1) := qdX7_totalOfProduct_0_24.2.2.2.2.2.2.2.2.2.2.2.2.2.2.2.2.2.1
theorem dX7_totalOfProduct_31 : decode cX7_totalOfProduct 31 = .ok (.ldc 145, 2) := qdX7_totalOfProduct_0_24.2.2.2.2.2.2.2.2.2.2.2.2.2.2.2.2.2.2.1
theorem dX7_totalOfProduct_33 : decode cX7_totalOfProduct 33 = .ok (.invokestatic 146, 3) := qdX7_totalOfProduct_0_24.2.2.2.2.2.2.2.2.2.2.2.2.2.2.2.2.2.2.2.1
theorem dX7_totalOfProduct_36 : decode cX7_totalOfProduct 36 = .ok (.aload 6, 2) := qdX7_totalOfProduct_0_24.2.2.2.2.2.2.2.2.2.2.2.2.2.2.2.2.2.2.2.2.1
theorem dX7_totalOfProduct_38 : decode cX7_totalOfProduct 38 = .ok (.iload_n 3, 1) := qdX7_totalOfProduct_0_24.2.2.2.2.2.2.2.2.2.2.2.2.2.2.2.2.2.2.2.2.2.1
theorem dX7_totalOfProduct_39 : decode cX7_totalOfProduct 39 = .ok (.ldc 145, 2) := qdX7_totalOfProduct_0_24.2.2.2.2.2.2.2.2.2.2.2.2.2.2.2.2.2.2.2.2.2.2.1
theorem dX7_totalOfProduct_41 : decode cX7_totalOfProduct 41 = .ok (.invokestatic 146, 3) := qdX7_totalOfProduct_0_24.2.2.2.2.2.2.2.2.2.2.2.2.2.2.2.2.2.2.2.2.2.2.2.1
theorem qdX7_totalOfProduct_44_22 : dcAll cX7_totalOfProduct [(44, .iload 4, 2), (46, .ifCond .ne 15, 3), (49, .aload 5, 2), (51, .aload 6, 2), (53, .iload_n 3, 1), (54, .invokestatic 150, 3), (57, .invokestatic 108, 3), (60, .areturn, 1), (61, .iload 4, 2), (63, .iconst 1, 1), (64, .if_icmp .ne 14, 3), (67, .aload 5, 2), (69, .aload 6, 2), (71, .iload_n 3, 1), (72, .invokestatic 156, 3), (75, .goto 11, 3), (78, .aload 5, 2), (80, .aload 6, 2), (82, .iload_n 3, 1), (83, .invokestatic 159, 3), (86, .invokestatic 108, 3), (89, .areturn, 1)] := dcAll_of (by decide +kernel)
theorem dX7_totalOfProduct_44 : decode cX7_totalOfProduct 44 = .ok (.iload 4, 2) := qdX7_totalOfProduct_44_22.1
theorem dX7_totalOfProduct_46 : decode cX7_totalOfProduct 46 = .ok (.ifCond .ne 15, 3) := qdX7_totalOfProduct_44_22.2.1
theorem dX7_totalOfProduct_49 : decode cX7_totalOfProduct 49 = .ok (.aload 5, 2) := qdX7_totalOfProduct_44_22.2.2.1
theorem dX7_totalOfProduct_51 : decode cX7_totalOfProduct 51 = .ok (.aload 6, 2) := qdX7_totalOfProduct_44_22.2.2.2.1
theorem dX7_totalOfProduct_53 : decode cX7_totalOfProduct 53 = .ok (.iload_n 3, 1) := qdX7_totalOfProduct_44_22.2.2.2.2.1
theorem dX7_totalOfProduct_54 : decode cX7_totalOfProduct 54 = .ok (.invokestatic 150, 3) := qdX7_totalOfProduct_44_22.2.2.2.2.2.1
theorem dX7_totalOfProduct_57 : decode cX7_totalOfProduct 57 = .ok (.invokestatic 108, 3) := qdX7_totalOfProduct_44_22.2.2.2.2.2.2.1
theorem dX7_totalOfProduct_60 : decode cX7_totalOfProduct 60 = .ok (.areturn, 1) := qdX7_totalOfProduct_44_22.2.2.2.2.2.2.2.1
theorem dX7_totalOfProduct_61 : decode cX7_totalOfProduct 61 = .ok (.iload 4, 2) := qdX7_totalOfProduct_44_22.2.2.2.2.2.2.2.2.1
theorem dX7_totalOfProduct_63 : decode cX7_totalOfProduct 63 = .ok (.iconst 1, 1) := qdX7_totalOfProduct_44_22.2.2.2.2.2.2.2.2.2.1
theorem dX7_totalOfProduct_64 : decode cX7_totalOfProduct 64 = .ok (.if_icmp .ne 14, 3) := qdX7_totalOfProduct_44_22.2.2.2.2.2.2.2.2.2.2.1
theorem dX7_totalOfProduct_67 : decode cX7_totalOfProduct 67 = .ok (.aload 5, 2) := qdX7_totalOfProduct_44_22.2.2.2.2.2.2.2.2.2.2.2.1
theorem dX7_totalOfProduct_69 : decode cX7_totalOfProduct 69 = .ok (.aload 6, 2) := qdX7_totalOfProduct_44_22.2.2.2.2.2.2.2.2.2.2.2.2.1
theorem dX7_totalOfProduct_71 : decode cX7_totalOfProduct 71 = .ok (.iload_n 3, 1) := qdX7_totalOfProduct_44_22.2.2.2.2.2.2.2.2.2.2.2.2.2.1
theorem dX7_totalOfProduct_72 : decode cX7_totalOfProduct 72 = .ok (.invokestatic 156, 3) := qdX7_totalOfProduct_44_22.2.2.2.2.2.2.2.2.2.2.2.2.2.2.1
theorem dX7_totalOfProduct_75 : decode cX7_totalOfProduct 75 = .ok (.goto 11, 3) := qdX7_totalOfProduct_44_22.2.2.2.2.2.2.2.2.2.2.2.2.2.2.2.1
theorem dX7_totalOfProduct_78 : decode cX7_totalOfProduct 78 = .ok (.aload 5, 2) := qdX7_totalOfProduct_44_22.2.2.2.2.2.2.2.2.2.2.2.2.2.2.2.2.1
theorem dX7_totalOfProduct_80 : decode cX7_totalOfProduct 80 = .ok (.aload 6, 2) := qdX7_totalOfProduct_44_22.2.2.2.2.2.2.2.2.2.2.2.2.2.2.2.2.2.1
theorem dX7_totalOfProduct_82 : decode cX7_totalOfProduct 82 = .ok (.iload_n 3, 1) := qdX7_totalOfProduct_44_22.2.2.2.2.2.2.2.2.2.2.2.2.2.2.2.2.2.2.1
theorem dX7_totalOfProduct_83 : decode cX7_totalOfProduct 83 = .ok (.invokestatic 159, 3) := qdX7_totalOfProduct_44_22.2.2.2.2.2.2.2.2.2.2.2.2.2.2.2.2.2.2.2.1
theorem dX7_totalOfProduct_86 : decode cX7_totalOfProduct 86 = .ok (.invokestatic 108, 3) := qdX7_totalOfProduct_44_22.2.2.2.2.2.2.2.2.2.2.2.2.2.2.2.2.2.2.2.2.1
theorem dX7_totalOfProduct_89 : decode cX7_totalOfProduct 89 = .ok (.areturn, 1) := qdX7_totalOfProduct_44_22.2.2.2.2.2.2.2.2.2.2.2.2.2.2.2.2.2.2.2.2.2.1
theorem ggX7_determinant_X7_rowOf : GoodIn wsX7_determinant wsX7_rowOf := fun w h => ⟨List.mem_cons_of_mem _ (List.mem_append_left _ (List.mem_append_left _ (List.mem_append_left _ (List.mem_append_left _ (List.mem_append_left _ (List.mem_append_right _ h)))))), zq_X7_rowOf w h⟩
set_option maxRecDepth 20000 in
theorem gX7_determinant_X7_rowOf : GoodIn wsX7_determinant (wsV RX7 46 RX7 yX7_rowOf wsX7_rowOf) := goodIn_app (goodIn_r _ [2, 3, 4, 5] rfl rfl) ggX7_determinant_X7_rowOf
theorem ggX7_determinant_X7_need : GoodIn wsX7_determinant wsX7_need := fun w h => ⟨List.mem_cons_of_mem _ (List.mem_append_left _ (List.mem_append_left _ (List.mem_append_left _ (List.mem_append_left _ (List.mem_append_right _ h))))), zq_X7_need w h⟩
set_option maxRecDepth 20000 in
theorem gX7_determinant_X7_need : GoodIn wsX7_determinant (va_wsS RX7 50 yX7_need wsX7_need) := goodIn_app (goodIn_r _ [7, 8, 5] rfl rfl) ggX7_determinant_X7_need
theorem ggX7_determinant_X7_needSizes : GoodIn wsX7_determinant wsX7_needSizes := fun w h => ⟨List.mem_cons_of_mem _ (List.mem_append_left _ (List.mem_append_left _ (List.mem_append_left _ (List.mem_append_right _ h)))), zq_X7_needSizes w h⟩
set_option maxRecDepth 20000 in
theorem gX7_determinant_X7_needSizes : GoodIn wsX7_determinant (va_wsS RX7 146 yX7_needSizes wsX7_needSizes) := goodIn_app (goodIn_r _ [10, 11, 5] rfl rfl) ggX7_determinant_X7_needSizes
theorem ggX7_determinant_X5_sumOfSequences : GoodIn wsX7_determinant wsX5_sumOfSequences := fun w h => ⟨List.mem_cons_of_mem _ (List.mem_append_left _ (List.mem_append_left _ (List.mem_append_right _ h))), zq_X5_sumOfSequences w h⟩
set_option maxRecDepth 20000 in
theorem gX7_determinant_X5_sumOfSequences_n164 : GoodIn wsX7_determinant (wsX5_sumOfSequences) := ggX7_determinant_X5_sumOfSequences
theorem ggX7_determinant_X7_textOf : GoodIn wsX7_determinant wsX7_textOf := fun w h => ⟨List.mem_cons_of_mem _ (List.mem_append_left _ (List.mem_append_right _ h)), zq_X7_textOf w h⟩
set_option maxRecDepth 20000 in
theorem gX7_determinant_X7_textOf : GoodIn wsX7_determinant (va_wsS RX7 108 yX7_textOf wsX7_textOf) := goodIn_app (goodIn_r _ [19, 20, 5] rfl rfl) ggX7_determinant_X7_textOf
theorem ggX7_determinant_X0_signedAt : GoodIn wsX7_determinant wsX0_signedAt := fun w h => ⟨List.mem_cons_of_mem _ (List.mem_append_right _ h), zq_X0_signedAt w h⟩
set_option maxRecDepth 20000 in
theorem gX7_determinant_X0_signedAt : GoodIn wsX7_determinant (wsV RX7 168 RX0 yX0_signedAt wsX0_signedAt) := goodIn_app (goodIn_r _ [42, 43, 44, 45] rfl rfl) ggX7_determinant_X0_signedAt
theorem qdX7_determinant_0_24 : dcAll cX7_determinant [(0, .aload_n 0, 1), (1, .iload_n 1, 1), (2, .invokevirtual 46, 3), (5, .astore 4, 2), (7, .iload_n 2, 1), (8, .iconst 1, 1), (9, .bipush 6, 2), (11, .invokestatic 50, 3), (14, .iload_n 3, 1), (15, .iconst 0, 1), (16, .iconst 1, 1), (17, .invokestatic 50, 3), (20, .aload 4, 2), (22, .iload_n 2, 1), (23, .bipush 100, 2), (25, .invokestatic 146, 3), (28, .iload_n 3, 1), (29, .ifCond .ne 15, 3), (32, .aload 4, 2), (34, .iload_n 2, 1), (35, .iconst 1, 1), (36, .iconst 0, 1), (37, .invokestatic 164, 3), (40, .invokestatic 108, 3)] := dcAll_of (by decide +kernel)
theorem dX7_determinant_0 : decode cX7_determinant 0 = .ok (.aload_n 0, 1) := qdX7_determinant_0_24.1
theorem dX7_determinant_1 : decode cX7_determinant 1 = .ok (.iload_n 1, 1) := qdX7_determinant_0_24.2.1
theorem dX7_determinant_2 : decode cX7_determinant 2 = .ok (.invokevirtual 46, 3) := qdX7_determinant_0_24.2.2.1
theorem dX7_determinant_5 : decode cX7_determinant 5 = .ok (.astore 4, 2) := qdX7_determinant_0_24.2.2.2.1
theorem dX7_determinant_7 : decode cX7_determinant 7 = .ok (.iload_n 2, 1) := qdX7_determinant_0_24.2.2.2.2.1
theorem dX7_determinant_8 : decode cX7_determinant 8 = .ok (.iconst 1, 1) := qdX7_determinant_0_24.2.2.2.2.2.1
theorem dX7_determinant_9 : decode cX7_determinant 9 = .ok (.bipush 6, 2) := qdX7_determinant_0_24.2.2.2.2.2.2.1
theorem dX7_determinant_11 : decode cX7_determinant 11 = .ok (.invokestatic 50, 3) := qdX7_determinant_0_24.2.2.2.2.2.2.2.1
theorem dX7_determinant_14 : decode cX7_determinant 14 = .ok (.iload_n 3, 1) := qdX7_determinant_0_24.2.2.2.2.2.2.2.2.1
theorem dX7_determinant_15 : decode cX7_determinant 15 = .ok (.iconst 0, 1) := qdX7_determinant_0_24.2.2.2.2.2.2.2.2.2.1
theorem dX7_determinant_16 : decode cX7_determinant 16 = .ok (.iconst 1, 1) := qdX7_determinant_0_24.2.2.2.2.2.2.2.2.2.2.1
theorem dX7_determinant_17 : decode cX7_determinant 17 = .ok (.invokestatic 50, 3) := qdX7_determinant_0_24.2.2.2.2.2.2.2.2.2.2.2.1
theorem dX7_determinant_20 : decode cX7_determinant 20 = .ok (.aload 4, 2) := qdX7_determinant_0_24.2.2.2.2.2.2.2.2.2.2.2.2.1
theorem dX7_determinant_22 : decode cX7_determinant 22 = .ok (.iload_n 2, 1) := qdX7_determinant_0_24.2.2.2.2.2.2.2.2.2.2.2.2.2.1
theorem dX7_determinant_23 : decode cX7_determinant 23 = .ok (.bipush 100, 2) := qdX7_determinant_0_24.2.2.2.2.2.2.2.2.2.2.2.2.2.2.1
theorem dX7_determinant_25 : decode cX7_determinant 25 = .ok (.invokestatic 146, 3) := qdX7_determinant_0_24.2.2.2.2.2.2.2.2.2.2.2.2.2.2.2.1
theorem dX7_determinant_28 : decode cX7_determinant 28 = .ok (.iload_n 3, 1) := qdX7_determinant_0_24.2.2.2.2.2.2.2.2.2.2.2.2.2.2.2.2.1
theorem dX7_determinant_29 : decode cX7_determinant 29 = .ok (.ifCond .ne 15, 3) := qdX7_determinant_0_24.2.2.2.2.2.2.2.2.2.2.2.2.2.2.2.2.2.1
theorem dX7_determinant_32 : decode cX7_determinant 32 = .ok (.aload 4, 2) := qdX7_determinant_0_24.2.2.2.2.2.2.2.2.2.2.2.2.2.2.2.2.2.2.1
theorem dX7_determinant_34 : decode cX7_determinant 34 = .ok (.iload_n 2, 1) := qdX7_determinant_0_24.2.2.2.2.2.2.2.2.2.2.2.2.2.2.2.2.2.2.2.1
theorem dX7_determinant_35 : decode cX7_determinant 35 = .ok (.iconst 1, 1) := qdX7_determinant_0_24.2.2.2.2.2.2.2.2.2.2.2.2.2.2.2.2.2.2.2.2.1
theorem dX7_determinant_36 : decode cX7_determinant 36 = .ok (.iconst 0, 1) := qdX7_determinant_0_24.2.2.2.2.2.2.2.2.2.2.2.2.2.2.2.2.2.2.2.2.2.1
theorem dX7_determinant_37 : decode cX7_determinant 37 = .ok (.invokestatic 164, 3) := qdX7_determinant_0_24.2.2.2.2.2.2.2.2.2.2.2.2.2.2.2.2.2.2.2.2.2.2.1
theorem dX7_determinant_40 : decode cX7_determinant 40 = .ok (.invokestatic 108, 3) := qdX7_determinant_0_24.2.2.2.2.2.2.2.2.2.2.2.2.2.2.2.2.2.2.2.2.2.2.2.1
theorem qdX7_determinant_43_21 : dcAll cX7_determinant [(43, .areturn, 1), (44, .lconst 1, 1), (45, .lstore 5, 2), (47, .iconst 1, 1), (48, .istore 7, 2), (50, .iload 7, 2), (52, .iload_n 2, 1), (53, .if_icmp .gt 25, 3), (56, .lload 5, 2), (58, .aload_n 0, 1), (59, .getfield 42, 3), (62, .aload 4, 2), (64, .iload 7, 2), (66, .invokevirtual 168, 3), (69, .lmul, 1), (70, .lstore 5, 2), (72, .iinc 7 1, 3), (75, .goto (-25), 3), (78, .lload 5, 2), (80, .invokestatic 108, 3), (83, .areturn, 1)] := dcAll_of (by decide +kernel)
theorem dX7_determinant_43 : decode cX7_determinant 43 = .ok (.areturn, 1) := qdX7_determinant_43_21.1
theorem dX7_determinant_44 : decode cX7_determinant 44 = .ok (.lconst 1, 1) := qdX7_determinant_43_21.2.1
theorem dX7_determinant_45 : decode cX7_determinant 45 = .ok (.lstore 5, 2) := qdX7_determinant_43_21.2.2.1
theorem dX7_determinant_47 : decode cX7_determinant 47 = .ok (.iconst 1, 1) := qdX7_determinant_43_21.2.2.2.1
theorem dX7_determinant_48 : decode cX7_determinant 48 = .ok (.istore 7, 2) := qdX7_determinant_43_21.2.2.2.2.1
theorem dX7_determinant_50 : decode cX7_determinant 50 = .ok (.iload 7, 2) := qdX7_determinant_43_21.2.2.2.2.2.1
theorem dX7_determinant_52 : decode cX7_determinant 52 = .ok (.iload_n 2, 1) := qdX7_determinant_43_21.2.2.2.2.2.2.1
theorem dX7_determinant_53 : decode cX7_determinant 53 = .ok (.if_icmp .gt 25, 3) := qdX7_determinant_43_21.2.2.2.2.2.2.2.1
theorem dX7_determinant_56 : decode cX7_determinant 56 = .ok (.lload 5, 2) := qdX7_determinant_43_21.2.2.2.2.2.2.2.2.1
theorem dX7_determinant_58 : decode cX7_determinant 58 = .ok (.aload_n 0, 1) := qdX7_determinant_43_21.2.2.2.2.2.2.2.2.2.1
theorem dX7_determinant_59 : decode cX7_determinant 59 = .ok (.getfield 42, 3) := qdX7_determinant_43_21.2.2.2.2.2.2.2.2.2.2.1
theorem dX7_determinant_62 : decode cX7_determinant 62 = .ok (.aload 4, 2) := qdX7_determinant_43_21.2.2.2.2.2.2.2.2.2.2.2.1
theorem dX7_determinant_64 : decode cX7_determinant 64 = .ok (.iload 7, 2) := qdX7_determinant_43_21.2.2.2.2.2.2.2.2.2.2.2.2.1
theorem dX7_determinant_66 : decode cX7_determinant 66 = .ok (.invokevirtual 168, 3) := qdX7_determinant_43_21.2.2.2.2.2.2.2.2.2.2.2.2.2.1
theorem dX7_determinant_69 : decode cX7_determinant 69 = .ok (.lmul, 1) := qdX7_determinant_43_21.2.2.2.2.2.2.2.2.2.2.2.2.2.2.1
theorem dX7_determinant_70 : decode cX7_determinant 70 = .ok (.lstore 5, 2) := qdX7_determinant_43_21.2.2.2.2.2.2.2.2.2.2.2.2.2.2.2.1
theorem dX7_determinant_72 : decode cX7_determinant 72 = .ok (.iinc 7 1, 3) := qdX7_determinant_43_21.2.2.2.2.2.2.2.2.2.2.2.2.2.2.2.2.1
theorem dX7_determinant_75 : decode cX7_determinant 75 = .ok (.goto (-25), 3) := qdX7_determinant_43_21.2.2.2.2.2.2.2.2.2.2.2.2.2.2.2.2.2.1
theorem dX7_determinant_78 : decode cX7_determinant 78 = .ok (.lload 5, 2) := qdX7_determinant_43_21.2.2.2.2.2.2.2.2.2.2.2.2.2.2.2.2.2.2.1
theorem dX7_determinant_80 : decode cX7_determinant 80 = .ok (.invokestatic 108, 3) := qdX7_determinant_43_21.2.2.2.2.2.2.2.2.2.2.2.2.2.2.2.2.2.2.2.1
theorem dX7_determinant_83 : decode cX7_determinant 83 = .ok (.areturn, 1) := qdX7_determinant_43_21.2.2.2.2.2.2.2.2.2.2.2.2.2.2.2.2.2.2.2.2.1
theorem ggX7_tau_X7_need : GoodIn wsX7_tau wsX7_need := fun w h => ⟨List.mem_cons_of_mem _ (List.mem_append_left _ (List.mem_append_left _ (List.mem_append_left _ (List.mem_append_right _ h)))), zq_X7_need w h⟩
set_option maxRecDepth 20000 in
theorem gX7_tau_X7_need : GoodIn wsX7_tau (va_wsS RX7 50 yX7_need wsX7_need) := goodIn_app (goodIn_r _ [2, 3, 4] rfl rfl) ggX7_tau_X7_need
theorem ggX7_tau_X1_tauOneByOne : GoodIn wsX7_tau wsX1_tauOneByOne := fun w h => ⟨List.mem_cons_of_mem _ (List.mem_append_left _ (List.mem_append_left _ (List.mem_append_right _ h))), zq_X1_tauOneByOne w h⟩
set_option maxRecDepth 20000 in
theorem gX7_tau_X1_tauOneByOne : GoodIn wsX7_tau (wsV RX7 172 RX1 yX1_tauOneByOne wsX1_tauOneByOne) := goodIn_app (goodIn_r _ [6, 7, 8, 9] rfl rfl) ggX7_tau_X1_tauOneByOne
theorem ggX7_tau_X1_tauByPowers : GoodIn wsX7_tau wsX1_tauByPowers := fun w h => ⟨List.mem_cons_of_mem _ (List.mem_append_left _ (List.mem_append_right _ h)), zq_X1_tauByPowers w h⟩
set_option maxRecDepth 20000 in
theorem gX7_tau_X1_tauByPowers : GoodIn wsX7_tau (wsV RX7 176 RX1 yX1_tauByPowers wsX1_tauByPowers) := goodIn_app (goodIn_r _ [10, 11, 12, 9] rfl rfl) ggX7_tau_X1_tauByPowers
theorem ggX7_tau_X1_tauByPairs : GoodIn wsX7_tau wsX1_tauByPairs := fun w h => ⟨List.mem_cons_of_mem _ (List.mem_append_right _ h), zq_X1_tauByPairs w h⟩
set_option maxRecDepth 20000 in
theorem gX7_tau_X1_tauByPairs : GoodIn wsX7_tau (wsV RX7 179 RX1 yX1_tauByPairs wsX1_tauByPairs) := goodIn_app (goodIn_r _ [14, 15, 16, 9] rfl rfl) ggX7_tau_X1_tauByPairs
theorem qdX7_tau_0_24 : dcAll cX7_tau [(0, .iload_n 1, 1), (1, .iconst 1, 1), (2, .sipush 999, 3), (5, .invokestatic 50, 3), (8, .iload_n 2, 1), (9, .iconst 0, 1), (10, .iconst 2, 1), (11, .invokestatic 50, 3), (14, .iload_n 2, 1), (15, .ifCond .ne 12, 3), (18, .aload_n 0, 1), (19, .getfield 33, 3), (22, .iload_n 1, 1), (23, .invokevirtual 172, 3), (26, .ireturn, 1), (27, .iload_n 2, 1), (28, .iconst 1, 1), (29, .if_icmp .ne 14, 3), (32, .aload_n 0, 1), (33, .getfield 33, 3), (36, .iload_n 1, 1), (37, .invokevirtual 176, 3), (40, .goto 11, 3), (43, .aload_n 0, 1)] := dcAll_of (by decide +kernel)
theorem dX7_tau_0 : decode cX7_tau 0 = .ok (.iload_n 1, 1) := qdX7_tau_0_24.1
theorem dX7_tau_1 : decode cX7_tau 1 = .ok (.iconst 1, 1) := qdX7_tau_0_24.2.1
theorem dX7_tau_2 : decode cX7_tau 2 = .ok (.sipush 999, 3) := qdX7_tau_0_24.2.2.1
theorem dX7_tau_5 : decode cX7_tau 5 = .ok (.invokestatic 50, 3) := qdX7_tau_0_24.2.2.2.1
theorem dX7_tau_8 : decode cX7_tau 8 = .ok (.iload_n 2, 1) := qdX7_tau_0_24.2.2.2.2.1
theorem dX7_tau_9 : decode cX7_tau 9 = .ok (.iconst 0, 1) := qdX7_tau_0_24.2.2.2.2.2.1
theorem dX7_tau_10 : decode cX7_tau 10 = .ok (.iconst 2, 1) := qdX7_tau_0_24.2.2.2.2.2.2.1
theorem dX7_tau_11 : decode cX7_tau 11 = .ok (.invokestatic 50, 3) := qdX7_tau_0_24.2.2.2.2.2.2.2.1
theorem dX7_tau_14 : decode cX7_tau 14 = .ok (.iload_n 2, 1) := qdX7_tau_0_24.2.2.2.2.2.2.2.2.1
theorem dX7_tau_15 : decode cX7_tau 15 = .ok (.ifCond .ne 12, 3) := qdX7_tau_0_24.2.2.2.2.2.2.2.2.2.1
theorem dX7_tau_18 : decode cX7_tau 18 = .ok (.aload_n 0, 1) := qdX7_tau_0_24.2.2.2.2.2.2.2.2.2.2.1
theorem dX7_tau_19 : decode cX7_tau 19 = .ok (.getfield 33, 3) := qdX7_tau_0_24.2.2.2.2.2.2.2.2.2.2.2.1
theorem dX7_tau_22 : decode cX7_tau 22 = .ok (.iload_n 1, 1) := qdX7_tau_0_24.2.2.2.2.2.2.2.2.2.2.2.2.1
theorem dX7_tau_23 : decode cX7_tau 23 = .ok (.invokevirtual 172, 3) := qdX7_tau_0_24.2.2.2.2.2.2.2.2.2.2.2.2.2.1
theorem dX7_tau_26 : decode cX7_tau 26 = .ok (.ireturn, 1) := qdX7_tau_0_24.2.2.2.2.2.2.2.2.2.2.2.2.2.2.1
theorem dX7_tau_27 : decode cX7_tau 27 = .ok (.iload_n 2, 1) := qdX7_tau_0_24.2.2.2.2.2.2.2.2.2.2.2.2.2.2.2.1
theorem dX7_tau_28 : decode cX7_tau 28 = .ok (.iconst 1, 1) := qdX7_tau_0_24.2.2.2.2.2.2.2.2.2.2.2.2.2.2.2.2.1
theorem dX7_tau_29 : decode cX7_tau 29 = .ok (.if_icmp .ne 14, 3) := qdX7_tau_0_24.2.2.2.2.2.2.2.2.2.2.2.2.2.2.2.2.2.1
theorem dX7_tau_32 : decode cX7_tau 32 = .ok (.aload_n 0, 1) := qdX7_tau_0_24.2.2.2.2.2.2.2.2.2.2.2.2.2.2.2.2.2.2.1
theorem dX7_tau_33 : decode cX7_tau 33 = .ok (.getfield 33, 3) := qdX7_tau_0_24.2.2.2.2.2.2.2.2.2.2.2.2.2.2.2.2.2.2.2.1
theorem dX7_tau_36 : decode cX7_tau 36 = .ok (.iload_n 1, 1) := qdX7_tau_0_24.2.2.2.2.2.2.2.2.2.2.2.2.2.2.2.2.2.2.2.2.1
theorem dX7_tau_37 : decode cX7_tau 37 = .ok (.invokevirtual 176, 3) := qdX7_tau_0_24.2.2.2.2.2.2.2.2.2.2.2.2.2.2.2.2.2.2.2.2.2.1
theorem dX7_tau_40 : decode cX7_tau 40 = .ok (.goto 11, 3) := qdX7_tau_0_24.2.2.2.2.2.2.2.2.2.2.2.2.2.2.2.2.2.2.2.2.2.2.1
theorem dX7_tau_43 : decode cX7_tau 43 = .ok (.aload_n 0, 1) := qdX7_tau_0_24.2.2.2.2.2.2.2.2.2.2.2.2.2.2.2.2.2.2.2.2.2.2.2.1
theorem qdX7_tau_44_4 : dcAll cX7_tau [(44, .getfield 33, 3), (47, .iload_n 1, 1), (48, .invokevirtual 179, 3), (51, .ireturn, 1)] := dcAll_of (by decide +kernel)
theorem dX7_tau_44 : decode cX7_tau 44 = .ok (.getfield 33, 3) := qdX7_tau_44_4.1
theorem dX7_tau_47 : decode cX7_tau 47 = .ok (.iload_n 1, 1) := qdX7_tau_44_4.2.1
theorem dX7_tau_48 : decode cX7_tau 48 = .ok (.invokevirtual 179, 3) := qdX7_tau_44_4.2.2.1
theorem dX7_tau_51 : decode cX7_tau 51 = .ok (.ireturn, 1) := qdX7_tau_44_4.2.2.2.1
theorem ggX7_sigma_X7_need : GoodIn wsX7_sigma wsX7_need := fun w h => ⟨List.mem_cons_of_mem _ (List.mem_append_left _ (List.mem_append_left _ (List.mem_append_right _ h))), zq_X7_need w h⟩
set_option maxRecDepth 20000 in
theorem gX7_sigma_X7_need : GoodIn wsX7_sigma (va_wsS RX7 50 yX7_need wsX7_need) := goodIn_app (goodIn_r _ [2, 3, 4] rfl rfl) ggX7_sigma_X7_need
theorem ggX7_sigma_X1_sigmaOneByOne : GoodIn wsX7_sigma wsX1_sigmaOneByOne := fun w h => ⟨List.mem_cons_of_mem _ (List.mem_append_left _ (List.mem_append_right _ h)), zq_X1_sigmaOneByOne w h⟩
set_option maxRecDepth 20000 in
theorem gX7_sigma_X1_sigmaOneByOne : GoodIn wsX7_sigma (wsV RX7 182 RX1 yX1_sigmaOneByOne wsX1_sigmaOneByOne) := goodIn_app (goodIn_r _ [6, 7, 8, 9] rfl rfl) ggX7_sigma_X1_sigmaOneByOne
theorem ggX7_sigma_X1_sigmaByPowers : GoodIn wsX7_sigma wsX1_sigmaByPowers := fun w h => ⟨List.mem_cons_of_mem _ (List.mem_append_right _ h), zq_X1_sigmaByPowers w h⟩
set_option maxRecDepth 20000 in
theorem gX7_sigma_X1_sigmaByPowers : GoodIn wsX7_sigma (wsV RX7 185 RX1 yX1_sigmaByPowers wsX1_sigmaByPowers) := goodIn_app (goodIn_r _ [10, 11, 12, 9] rfl rfl) ggX7_sigma_X1_sigmaByPowers
theorem qdX7_sigma_0_20 : dcAll cX7_sigma [(0, .iload_n 1, 1), (1, .iconst 1, 1), (2, .sipush 999, 3), (5, .invokestatic 50, 3), (8, .iload_n 2, 1), (9, .iconst 0, 1), (10, .iconst 1, 1), (11, .invokestatic 50, 3), (14, .iload_n 2, 1), (15, .ifCond .ne 14, 3), (18, .aload_n 0, 1), (19, .getfield 33, 3), (22, .iload_n 1, 1), (23, .invokevirtual 182, 3), (26, .goto 11, 3), (29, .aload_n 0, 1), (30, .getfield 33, 3), (33, .iload_n 1, 1), (34, .invokevirtual 185, 3), (37, .ireturn, 1)] := dcAll_of (by decide +kernel)
theorem dX7_sigma_0 : decode cX7_sigma 0 = .ok (.iload_n 1, 1) := qdX7_sigma_0_20.1
theorem dX7_sigma_1 : decode cX7_sigma 1 = .ok (.iconst 1, 1) := qdX7_sigma_0_20.2.1
theorem dX7_sigma_2 : decode cX7_sigma 2 = .ok (.sipush 999, 3) := qdX7_sigma_0_20.2.2.1
theorem dX7_sigma_5 : decode cX7_sigma 5 = .ok (.invokestatic 50, 3) := qdX7_sigma_0_20.2.2.2.1
theorem dX7_sigma_8 : decode cX7_sigma 8 = .ok (.iload_n 2, 1) := qdX7_sigma_0_20.2.2.2.2.1
theorem dX7_sigma_9 : decode cX7_sigma 9 = .ok (.iconst 0, 1) := qdX7_sigma_0_20.2.2.2.2.2.1
theorem dX7_sigma_10 : decode cX7_sigma 10 = .ok (.iconst 1, 1) := qdX7_sigma_0_20.2.2.2.2.2.2.1
theorem dX7_sigma_11 : decode cX7_sigma 11 = .ok (.invokestatic 50, 3) := qdX7_sigma_0_20.2.2.2.2.2.2.2.1
theorem dX7_sigma_14 : decode cX7_sigma 14 = .ok (.iload_n 2, 1) := qdX7_sigma_0_20.2.2.2.2.2.2.2.2.1
theorem dX7_sigma_15 : decode cX7_sigma 15 = .ok (.ifCond .ne 14, 3) := qdX7_sigma_0_20.2.2.2.2.2.2.2.2.2.1
theorem dX7_sigma_18 : decode cX7_sigma 18 = .ok (.aload_n 0, 1) := qdX7_sigma_0_20.2.2.2.2.2.2.2.2.2.2.1
theorem dX7_sigma_19 : decode cX7_sigma 19 = .ok (.getfield 33, 3) := qdX7_sigma_0_20.2.2.2.2.2.2.2.2.2.2.2.1
theorem dX7_sigma_22 : decode cX7_sigma 22 = .ok (.iload_n 1, 1) := qdX7_sigma_0_20.2.2.2.2.2.2.2.2.2.2.2.2.1
theorem dX7_sigma_23 : decode cX7_sigma 23 = .ok (.invokevirtual 182, 3) := qdX7_sigma_0_20.2.2.2.2.2.2.2.2.2.2.2.2.2.1
theorem dX7_sigma_26 : decode cX7_sigma 26 = .ok (.goto 11, 3) := qdX7_sigma_0_20.2.2.2.2.2.2.2.2.2.2.2.2.2.2.1
theorem dX7_sigma_29 : decode cX7_sigma 29 = .ok (.aload_n 0, 1) := qdX7_sigma_0_20.2.2.2.2.2.2.2.2.2.2.2.2.2.2.2.1
theorem dX7_sigma_30 : decode cX7_sigma 30 = .ok (.getfield 33, 3) := qdX7_sigma_0_20.2.2.2.2.2.2.2.2.2.2.2.2.2.2.2.2.1
theorem dX7_sigma_33 : decode cX7_sigma 33 = .ok (.iload_n 1, 1) := qdX7_sigma_0_20.2.2.2.2.2.2.2.2.2.2.2.2.2.2.2.2.2.1
theorem dX7_sigma_34 : decode cX7_sigma 34 = .ok (.invokevirtual 185, 3) := qdX7_sigma_0_20.2.2.2.2.2.2.2.2.2.2.2.2.2.2.2.2.2.2.1
theorem dX7_sigma_37 : decode cX7_sigma 37 = .ok (.ireturn, 1) := qdX7_sigma_0_20.2.2.2.2.2.2.2.2.2.2.2.2.2.2.2.2.2.2.2.1
theorem ggX7_phi_X7_need : GoodIn wsX7_phi wsX7_need := fun w h => ⟨List.mem_cons_of_mem _ (List.mem_append_left _ (List.mem_append_left _ (List.mem_append_left _ (List.mem_append_right _ h)))), zq_X7_need w h⟩
set_option maxRecDepth 20000 in
theorem gX7_phi_X7_need : GoodIn wsX7_phi (va_wsS RX7 50 yX7_need wsX7_need) := goodIn_app (goodIn_r _ [2, 3, 4] rfl rfl) ggX7_phi_X7_need
theorem ggX7_phi_X1_phiOneByOne : GoodIn wsX7_phi wsX1_phiOneByOne := fun w h => ⟨List.mem_cons_of_mem _ (List.mem_append_left _ (List.mem_append_left _ (List.mem_append_right _ h))), zq_X1_phiOneByOne w h⟩
set_option maxRecDepth 20000 in
theorem gX7_phi_X1_phiOneByOne : GoodIn wsX7_phi (wsV RX7 188 RX1 yX1_phiOneByOne wsX1_phiOneByOne) := goodIn_app (goodIn_r _ [6, 7, 8, 9] rfl rfl) ggX7_phi_X1_phiOneByOne
theorem ggX7_phi_X1_phiByPowers : GoodIn wsX7_phi wsX1_phiByPowers := fun w h => ⟨List.mem_cons_of_mem _ (List.mem_append_left _ (List.mem_append_right _ h)), zq_X1_phiByPowers w h⟩
set_option maxRecDepth 20000 in
theorem gX7_phi_X1_phiByPowers : GoodIn wsX7_phi (wsV RX7 191 RX1 yX1_phiByPowers wsX1_phiByPowers) := goodIn_app (goodIn_r _ [10, 11, 12, 9] rfl rfl) ggX7_phi_X1_phiByPowers
theorem ggX7_phi_X1_phiBySigns : GoodIn wsX7_phi wsX1_phiBySigns := fun w h => ⟨List.mem_cons_of_mem _ (List.mem_append_right _ h), zq_X1_phiBySigns w h⟩
set_option maxRecDepth 20000 in
theorem gX7_phi_X1_phiBySigns : GoodIn wsX7_phi (wsV RX7 194 RX1 yX1_phiBySigns wsX1_phiBySigns) := goodIn_app (goodIn_r _ [14, 15, 16, 9] rfl rfl) ggX7_phi_X1_phiBySigns
theorem qdX7_phi_0_24 : dcAll cX7_phi [(0, .iload_n 1, 1), (1, .iconst 1, 1), (2, .sipush 999, 3), (5, .invokestatic 50, 3), (8, .iload_n 2, 1), (9, .iconst 0, 1), (10, .iconst 2, 1), (11, .invokestatic 50, 3), (14, .iload_n 2, 1), (15, .ifCond .ne 12, 3), (18, .aload_n 0, 1), (19, .getfield 33, 3), (22, .iload_n 1, 1), (23, .invokevirtual 188, 3), (26, .ireturn, 1), (27, .iload_n 2, 1), (28, .iconst 1, 1), (29, .if_icmp .ne 14, 3), (32, .aload_n 0, 1), (33, .getfield 33, 3), (36, .iload_n 1, 1), (37, .invokevirtual 191, 3), (40, .goto 11, 3), (43, .aload_n 0, 1)] := dcAll_of (by decide +kernel)
theorem dX7_phi_0 : decode cX7_phi 0 = .ok (.iload_n 1, 1) := qdX7_phi_0_24.1
theorem dX7_phi_1 : decode cX7_phi 1 = .ok (.iconst 1, 1) := qdX7_phi_0_24.2.1
theorem dX7_phi_2 : decode cX7_phi 2 = .ok (.sipush 999, 3) := qdX7_phi_0_24.2.2.1
theorem dX7_phi_5 : decode cX7_phi 5 = .ok (.invokestatic 50, 3) := qdX7_phi_0_24.2.2.2.1
theorem dX7_phi_8 : decode cX7_phi 8 = .ok (.iload_n 2, 1) := qdX7_phi_0_24.2.2.2.2.1
theorem dX7_phi_9 : decode cX7_phi 9 = .ok (.iconst 0, 1) := qdX7_phi_0_24.2.2.2.2.2.1
theorem dX7_phi_10 : decode cX7_phi 10 = .ok (.iconst 2, 1) := qdX7_phi_0_24.2.2.2.2.2.2.1
theorem dX7_phi_11 : decode cX7_phi 11 = .ok (.invokestatic 50, 3) := qdX7_phi_0_24.2.2.2.2.2.2.2.1
theorem dX7_phi_14 : decode cX7_phi 14 = .ok (.iload_n 2, 1) := qdX7_phi_0_24.2.2.2.2.2.2.2.2.1
theorem dX7_phi_15 : decode cX7_phi 15 = .ok (.ifCond .ne 12, 3) := qdX7_phi_0_24.2.2.2.2.2.2.2.2.2.1
theorem dX7_phi_18 : decode cX7_phi 18 = .ok (.aload_n 0, 1) := qdX7_phi_0_24.2.2.2.2.2.2.2.2.2.2.1
theorem dX7_phi_19 : decode cX7_phi 19 = .ok (.getfield 33, 3) := qdX7_phi_0_24.2.2.2.2.2.2.2.2.2.2.2.1
theorem dX7_phi_22 : decode cX7_phi 22 = .ok (.iload_n 1, 1) := qdX7_phi_0_24.2.2.2.2.2.2.2.2.2.2.2.2.1
theorem dX7_phi_23 : decode cX7_phi 23 = .ok (.invokevirtual 188, 3) := qdX7_phi_0_24.2.2.2.2.2.2.2.2.2.2.2.2.2.1
theorem dX7_phi_26 : decode cX7_phi 26 = .ok (.ireturn, 1) := qdX7_phi_0_24.2.2.2.2.2.2.2.2.2.2.2.2.2.2.1
theorem dX7_phi_27 : decode cX7_phi 27 = .ok (.iload_n 2, 1) := qdX7_phi_0_24.2.2.2.2.2.2.2.2.2.2.2.2.2.2.2.1
theorem dX7_phi_28 : decode cX7_phi 28 = .ok (.iconst 1, 1) := qdX7_phi_0_24.2.2.2.2.2.2.2.2.2.2.2.2.2.2.2.2.1
theorem dX7_phi_29 : decode cX7_phi 29 = .ok (.if_icmp .ne 14, 3) := qdX7_phi_0_24.2.2.2.2.2.2.2.2.2.2.2.2.2.2.2.2.2.1
theorem dX7_phi_32 : decode cX7_phi 32 = .ok (.aload_n 0, 1) := qdX7_phi_0_24.2.2.2.2.2.2.2.2.2.2.2.2.2.2.2.2.2.2.1
theorem dX7_phi_33 : decode cX7_phi 33 = .ok (.getfield 33, 3) := qdX7_phi_0_24.2.2.2.2.2.2.2.2.2.2.2.2.2.2.2.2.2.2.2.1
theorem dX7_phi_36 : decode cX7_phi 36 = .ok (.iload_n 1, 1) := qdX7_phi_0_24.2.2.2.2.2.2.2.2.2.2.2.2.2.2.2.2.2.2.2.2.1
theorem dX7_phi_37 : decode cX7_phi 37 = .ok (.invokevirtual 191, 3) := qdX7_phi_0_24.2.2.2.2.2.2.2.2.2.2.2.2.2.2.2.2.2.2.2.2.2.1
theorem dX7_phi_40 : decode cX7_phi 40 = .ok (.goto 11, 3) := qdX7_phi_0_24.2.2.2.2.2.2.2.2.2.2.2.2.2.2.2.2.2.2.2.2.2.2.1
theorem dX7_phi_43 : decode cX7_phi 43 = .ok (.aload_n 0, 1) := qdX7_phi_0_24.2.2.2.2.2.2.2.2.2.2.2.2.2.2.2.2.2.2.2.2.2.2.2.1
theorem qdX7_phi_44_4 : dcAll cX7_phi [(44, .getfield 33, 3), (47, .iload_n 1, 1), (48, .invokevirtual 194, 3), (51, .ireturn, 1)] := dcAll_of (by decide +kernel)
theorem dX7_phi_44 : decode cX7_phi 44 = .ok (.getfield 33, 3) := qdX7_phi_44_4.1
theorem dX7_phi_47 : decode cX7_phi 47 = .ok (.iload_n 1, 1) := qdX7_phi_44_4.2.1
theorem dX7_phi_48 : decode cX7_phi 48 = .ok (.invokevirtual 194, 3) := qdX7_phi_44_4.2.2.1
theorem dX7_phi_51 : decode cX7_phi 51 = .ok (.ireturn, 1) := qdX7_phi_44_4.2.2.2.1
theorem ggX7_sign_X7_need : GoodIn wsX7_sign wsX7_need := fun w h => ⟨List.mem_cons_of_mem _ (List.mem_append_left _ (List.mem_append_left _ (List.mem_append_right _ h))), zq_X7_need w h⟩
set_option maxRecDepth 20000 in
theorem gX7_sign_X7_need : GoodIn wsX7_sign (va_wsS RX7 50 yX7_need wsX7_need) := goodIn_app (goodIn_r _ [2, 3, 4] rfl rfl) ggX7_sign_X7_need
theorem ggX7_sign_X1_signByPowers : GoodIn wsX7_sign wsX1_signByPowers := fun w h => ⟨List.mem_cons_of_mem _ (List.mem_append_left _ (List.mem_append_right _ h)), zq_X1_signByPowers w h⟩
set_option maxRecDepth 20000 in
theorem gX7_sign_X1_signByPowers : GoodIn wsX7_sign (wsV RX7 197 RX1 yX1_signByPowers wsX1_signByPowers) := goodIn_app (goodIn_r _ [6, 7, 8, 9] rfl rfl) ggX7_sign_X1_signByPowers
theorem ggX7_sign_X1_signBySums : GoodIn wsX7_sign wsX1_signBySums := fun w h => ⟨List.mem_cons_of_mem _ (List.mem_append_right _ h), zq_X1_signBySums w h⟩
set_option maxRecDepth 20000 in
theorem gX7_sign_X1_signBySums : GoodIn wsX7_sign (wsV RX7 200 RX1 yX1_signBySums wsX1_signBySums) := goodIn_app (goodIn_r _ [11, 12, 13, 9] rfl rfl) ggX7_sign_X1_signBySums
theorem qdX7_sign_0_20 : dcAll cX7_sign [(0, .iload_n 1, 1), (1, .iconst 1, 1), (2, .sipush 999, 3), (5, .invokestatic 50, 3), (8, .iload_n 2, 1), (9, .iconst 0, 1), (10, .iconst 1, 1), (11, .invokestatic 50, 3), (14, .iload_n 2, 1), (15, .ifCond .ne 14, 3), (18, .aload_n 0, 1), (19, .getfield 33, 3), (22, .iload_n 1, 1), (23, .invokevirtual 197, 3), (26, .goto 11, 3), (29, .aload_n 0, 1), (30, .getfield 33, 3), (33, .iload_n 1, 1), (34, .invokevirtual 200, 3), (37, .ireturn, 1)] := dcAll_of (by decide +kernel)
theorem dX7_sign_0 : decode cX7_sign 0 = .ok (.iload_n 1, 1) := qdX7_sign_0_20.1
theorem dX7_sign_1 : decode cX7_sign 1 = .ok (.iconst 1, 1) := qdX7_sign_0_20.2.1
theorem dX7_sign_2 : decode cX7_sign 2 = .ok (.sipush 999, 3) := qdX7_sign_0_20.2.2.1
theorem dX7_sign_5 : decode cX7_sign 5 = .ok (.invokestatic 50, 3) := qdX7_sign_0_20.2.2.2.1
theorem dX7_sign_8 : decode cX7_sign 8 = .ok (.iload_n 2, 1) := qdX7_sign_0_20.2.2.2.2.1
theorem dX7_sign_9 : decode cX7_sign 9 = .ok (.iconst 0, 1) := qdX7_sign_0_20.2.2.2.2.2.1
theorem dX7_sign_10 : decode cX7_sign 10 = .ok (.iconst 1, 1) := qdX7_sign_0_20.2.2.2.2.2.2.1
theorem dX7_sign_11 : decode cX7_sign 11 = .ok (.invokestatic 50, 3) := qdX7_sign_0_20.2.2.2.2.2.2.2.1
theorem dX7_sign_14 : decode cX7_sign 14 = .ok (.iload_n 2, 1) := qdX7_sign_0_20.2.2.2.2.2.2.2.2.1
theorem dX7_sign_15 : decode cX7_sign 15 = .ok (.ifCond .ne 14, 3) := qdX7_sign_0_20.2.2.2.2.2.2.2.2.2.1
theorem dX7_sign_18 : decode cX7_sign 18 = .ok (.aload_n 0, 1) := qdX7_sign_0_20.2.2.2.2.2.2.2.2.2.2.1
theorem dX7_sign_19 : decode cX7_sign 19 = .ok (.getfield 33, 3) := qdX7_sign_0_20.2.2.2.2.2.2.2.2.2.2.2.1
theorem dX7_sign_22 : decode cX7_sign 22 = .ok (.iload_n 1, 1) := qdX7_sign_0_20.2.2.2.2.2.2.2.2.2.2.2.2.1
theorem dX7_sign_23 : decode cX7_sign 23 = .ok (.invokevirtual 197, 3) := qdX7_sign_0_20.2.2.2.2.2.2.2.2.2.2.2.2.2.1
theorem dX7_sign_26 : decode cX7_sign 26 = .ok (.goto 11, 3) := qdX7_sign_0_20.2.2.2.2.2.2.2.2.2.2.2.2.2.2.1
theorem dX7_sign_29 : decode cX7_sign 29 = .ok (.aload_n 0, 1) := qdX7_sign_0_20.2.2.2.2.2.2.2.2.2.2.2.2.2.2.2.1
theorem dX7_sign_30 : decode cX7_sign 30 = .ok (.getfield 33, 3) := qdX7_sign_0_20.2.2.2.2.2.2.2.2.2.2.2.2.2.2.2.2.1
theorem dX7_sign_33 : decode cX7_sign 33 = .ok (.iload_n 1, 1) := qdX7_sign_0_20.2.2.2.2.2.2.2.2.2.2.2.2.2.2.2.2.2.1
theorem dX7_sign_34 : decode cX7_sign 34 = .ok (.invokevirtual 200, 3) := qdX7_sign_0_20.2.2.2.2.2.2.2.2.2.2.2.2.2.2.2.2.2.2.1
theorem dX7_sign_37 : decode cX7_sign 37 = .ok (.ireturn, 1) := qdX7_sign_0_20.2.2.2.2.2.2.2.2.2.2.2.2.2.2.2.2.2.2.2.1
theorem ggX7_square_X7_need : GoodIn wsX7_square wsX7_need := fun w h => ⟨List.mem_cons_of_mem _ (List.mem_append_left _ (List.mem_append_left _ (List.mem_append_right _ h))), zq_X7_need w h⟩
set_option maxRecDepth 20000 in
theorem gX7_square_X7_need : GoodIn wsX7_square (va_wsS RX7 50 yX7_need wsX7_need) := goodIn_app (goodIn_r _ [2, 3, 4] rfl rfl) ggX7_square_X7_need
theorem ggX7_square_X1_squareOneByOne : GoodIn wsX7_square wsX1_squareOneByOne := fun w h => ⟨List.mem_cons_of_mem _ (List.mem_append_left _ (List.mem_append_right _ h)), zq_X1_squareOneByOne w h⟩
set_option maxRecDepth 20000 in
theorem gX7_square_X1_squareOneByOne : GoodIn wsX7_square (wsV RX7 203 RX1 yX1_squareOneByOne wsX1_squareOneByOne) := goodIn_app (goodIn_r _ [6, 7, 8, 9] rfl rfl) ggX7_square_X1_squareOneByOne
theorem ggX7_square_X1_squareByPowers : GoodIn wsX7_square wsX1_squareByPowers := fun w h => ⟨List.mem_cons_of_mem _ (List.mem_append_right _ h), zq_X1_squareByPowers w h⟩
set_option maxRecDepth 20000 in
theorem gX7_square_X1_squareByPowers : GoodIn wsX7_square (wsV RX7 206 RX1 yX1_squareByPowers wsX1_squareByPowers) := goodIn_app (goodIn_r _ [10, 11, 12, 9] rfl rfl) ggX7_square_X1_squareByPowers
theorem qdX7_square_0_20 : dcAll cX7_square [(0, .iload_n 1, 1), (1, .iconst 1, 1), (2, .sipush 999, 3), (5, .invokestatic 50, 3), (8, .iload_n 2, 1), (9, .iconst 0, 1), (10, .iconst 1, 1), (11, .invokestatic 50, 3), (14, .iload_n 2, 1), (15, .ifCond .ne 14, 3), (18, .aload_n 0, 1), (19, .getfield 33, 3), (22, .iload_n 1, 1), (23, .invokevirtual 203, 3), (26, .goto 11, 3), (29, .aload_n 0, 1), (30, .getfield 33, 3), (33, .iload_n 1, 1), (34, .invokevirtual 206, 3), (37, .ireturn, 1)] := dcAll_of (by decide +kernel)
theorem dX7_square_0 : decode cX7_square 0 = .ok (.iload_n 1, 1) := qdX7_square_0_20.1
theorem dX7_square_1 : decode cX7_square 1 = .ok (.iconst 1, 1) := qdX7_square_0_20.2.1
theorem dX7_square_2 : decode cX7_square 2 = .ok (.sipush 999, 3) := qdX7_square_0_20.2.2.1
theorem dX7_square_5 : decode cX7_square 5 = .ok (.invokestatic 50, 3) := qdX7_square_0_20.2.2.2.1
theorem dX7_square_8 : decode cX7_square 8 = .ok (.iload_n 2, 1) := qdX7_square_0_20.2.2.2.2.1
theorem dX7_square_9 : decode cX7_square 9 = .ok (.iconst 0, 1) := qdX7_square_0_20.2.2.2.2.2.1
theorem dX7_square_10 : decode cX7_square 10 = .ok (.iconst 1, 1) := qdX7_square_0_20.2.2.2.2.2.2.1
theorem dX7_square_11 : decode cX7_square 11 = .ok (.invokestatic 50, 3) := qdX7_square_0_20.2.2.2.2.2.2.2.1
theorem dX7_square_14 : decode cX7_square 14 = .ok (.iload_n 2, 1) := qdX7_square_0_20.2.2.2.2.2.2.2.2.1
theorem dX7_square_15 : decode cX7_square 15 = .ok (.ifCond .ne 14, 3) := qdX7_square_0_20.2.2.2.2.2.2.2.2.2.1
theorem dX7_square_18 : decode cX7_square 18 = .ok (.aload_n 0, 1) := qdX7_square_0_20.2.2.2.2.2.2.2.2.2.2.1
theorem dX7_square_19 : decode cX7_square 19 = .ok (.getfield 33, 3) := qdX7_square_0_20.2.2.2.2.2.2.2.2.2.2.2.1
theorem dX7_square_22 : decode cX7_square 22 = .ok (.iload_n 1, 1) := qdX7_square_0_20.2.2.2.2.2.2.2.2.2.2.2.2.1
theorem dX7_square_23 : decode cX7_square 23 = .ok (.invokevirtual 203, 3) := qdX7_square_0_20.2.2.2.2.2.2.2.2.2.2.2.2.2.1
theorem dX7_square_26 : decode cX7_square 26 = .ok (.goto 11, 3) := qdX7_square_0_20.2.2.2.2.2.2.2.2.2.2.2.2.2.2.1
theorem dX7_square_29 : decode cX7_square 29 = .ok (.aload_n 0, 1) := qdX7_square_0_20.2.2.2.2.2.2.2.2.2.2.2.2.2.2.2.1
theorem dX7_square_30 : decode cX7_square 30 = .ok (.getfield 33, 3) := qdX7_square_0_20.2.2.2.2.2.2.2.2.2.2.2.2.2.2.2.2.1
theorem dX7_square_33 : decode cX7_square 33 = .ok (.iload_n 1, 1) := qdX7_square_0_20.2.2.2.2.2.2.2.2.2.2.2.2.2.2.2.2.2.1
theorem dX7_square_34 : decode cX7_square 34 = .ok (.invokevirtual 206, 3) := qdX7_square_0_20.2.2.2.2.2.2.2.2.2.2.2.2.2.2.2.2.2.2.1
theorem dX7_square_37 : decode cX7_square 37 = .ok (.ireturn, 1) := qdX7_square_0_20.2.2.2.2.2.2.2.2.2.2.2.2.2.2.2.2.2.2.2.1
theorem ggX7_squareless_X7_need : GoodIn wsX7_squareless wsX7_need := fun w h => ⟨List.mem_cons_of_mem _ (List.mem_append_left _ (List.mem_append_left _ (List.mem_append_right _ h))), zq_X7_need w h⟩
set_option maxRecDepth 20000 in
theorem gX7_squareless_X7_need : GoodIn wsX7_squareless (va_wsS RX7 50 yX7_need wsX7_need) := goodIn_app (goodIn_r _ [2, 3, 4] rfl rfl) ggX7_squareless_X7_need
theorem ggX7_squareless_X1_squarelessOneByOne : GoodIn wsX7_squareless wsX1_squarelessOneByOne := fun w h => ⟨List.mem_cons_of_mem _ (List.mem_append_left _ (List.mem_append_right _ h)), zq_X1_squarelessOneByOne w h⟩
set_option maxRecDepth 20000 in
theorem gX7_squareless_X1_squarelessOneByOne : GoodIn wsX7_squareless (wsV RX7 209 RX1 yX1_squarelessOneByOne wsX1_squarelessOneByOne) := goodIn_app (goodIn_r _ [6, 7, 8, 9] rfl rfl) ggX7_squareless_X1_squarelessOneByOne
theorem ggX7_squareless_X1_squarelessBySigns : GoodIn wsX7_squareless wsX1_squarelessBySigns := fun w h => ⟨List.mem_cons_of_mem _ (List.mem_append_right _ h), zq_X1_squarelessBySigns w h⟩
set_option maxRecDepth 20000 in
theorem gX7_squareless_X1_squarelessBySigns : GoodIn wsX7_squareless (wsV RX7 212 RX1 yX1_squarelessBySigns wsX1_squarelessBySigns) := goodIn_app (goodIn_r _ [10, 11, 12, 9] rfl rfl) ggX7_squareless_X1_squarelessBySigns
theorem qdX7_squareless_0_20 : dcAll cX7_squareless [(0, .iload_n 1, 1), (1, .iconst 1, 1), (2, .sipush 999, 3), (5, .invokestatic 50, 3), (8, .iload_n 2, 1), (9, .iconst 0, 1), (10, .iconst 1, 1), (11, .invokestatic 50, 3), (14, .iload_n 2, 1), (15, .ifCond .ne 14, 3), (18, .aload_n 0, 1), (19, .getfield 33, 3), (22, .iload_n 1, 1), (23, .invokevirtual 209, 3), (26, .goto 11, 3), (29, .aload_n 0, 1), (30, .getfield 33, 3), (33, .iload_n 1, 1), (34, .invokevirtual 212, 3), (37, .ireturn, 1)] := dcAll_of (by decide +kernel)
theorem dX7_squareless_0 : decode cX7_squareless 0 = .ok (.iload_n 1, 1) := qdX7_squareless_0_20.1
theorem dX7_squareless_1 : decode cX7_squareless 1 = .ok (.iconst 1, 1) := qdX7_squareless_0_20.2.1
theorem dX7_squareless_2 : decode cX7_squareless 2 = .ok (.sipush 999, 3) := qdX7_squareless_0_20.2.2.1
theorem dX7_squareless_5 : decode cX7_squareless 5 = .ok (.invokestatic 50, 3) := qdX7_squareless_0_20.2.2.2.1
theorem dX7_squareless_8 : decode cX7_squareless 8 = .ok (.iload_n 2, 1) := qdX7_squareless_0_20.2.2.2.2.1
theorem dX7_squareless_9 : decode cX7_squareless 9 = .ok (.iconst 0, 1) := qdX7_squareless_0_20.2.2.2.2.2.1
theorem dX7_squareless_10 : decode cX7_squareless 10 = .ok (.iconst 1, 1) := qdX7_squareless_0_20.2.2.2.2.2.2.1
theorem dX7_squareless_11 : decode cX7_squareless 11 = .ok (.invokestatic 50, 3) := qdX7_squareless_0_20.2.2.2.2.2.2.2.1
theorem dX7_squareless_14 : decode cX7_squareless 14 = .ok (.iload_n 2, 1) := qdX7_squareless_0_20.2.2.2.2.2.2.2.2.1
theorem dX7_squareless_15 : decode cX7_squareless 15 = .ok (.ifCond .ne 14, 3) := qdX7_squareless_0_20.2.2.2.2.2.2.2.2.2.1
theorem dX7_squareless_18 : decode cX7_squareless 18 = .ok (.aload_n 0, 1) := qdX7_squareless_0_20.2.2.2.2.2.2.2.2.2.2.1
theorem dX7_squareless_19 : decode cX7_squareless 19 = .ok (.getfield 33, 3) := qdX7_squareless_0_20.2.2.2.2.2.2.2.2.2.2.2.1
theorem dX7_squareless_22 : decode cX7_squareless 22 = .ok (.iload_n 1, 1) := qdX7_squareless_0_20.2.2.2.2.2.2.2.2.2.2.2.2.1
theorem dX7_squareless_23 : decode cX7_squareless 23 = .ok (.invokevirtual 209, 3) := qdX7_squareless_0_20.2.2.2.2.2.2.2.2.2.2.2.2.2.1
theorem dX7_squareless_26 : decode cX7_squareless 26 = .ok (.goto 11, 3) := qdX7_squareless_0_20.2.2.2.2.2.2.2.2.2.2.2.2.2.2.1
theorem dX7_squareless_29 : decode cX7_squareless 29 = .ok (.aload_n 0, 1) := qdX7_squareless_0_20.2.2.2.2.2.2.2.2.2.2.2.2.2.2.2.1
theorem dX7_squareless_30 : decode cX7_squareless 30 = .ok (.getfield 33, 3) := qdX7_squareless_0_20.2.2.2.2.2.2.2.2.2.2.2.2.2.2.2.2.1
theorem dX7_squareless_33 : decode cX7_squareless 33 = .ok (.iload_n 1, 1) := qdX7_squareless_0_20.2.2.2.2.2.2.2.2.2.2.2.2.2.2.2.2.2.1
theorem dX7_squareless_34 : decode cX7_squareless 34 = .ok (.invokevirtual 212, 3) := qdX7_squareless_0_20.2.2.2.2.2.2.2.2.2.2.2.2.2.2.2.2.2.2.1
theorem dX7_squareless_37 : decode cX7_squareless 37 = .ok (.ireturn, 1) := qdX7_squareless_0_20.2.2.2.2.2.2.2.2.2.2.2.2.2.2.2.2.2.2.2.1
theorem ggX7_apart_X7_need : GoodIn wsX7_apart wsX7_need := fun w h => ⟨List.mem_cons_of_mem _ (List.mem_append_left _ (List.mem_append_left _ (List.mem_append_left _ (List.mem_append_right _ h)))), zq_X7_need w h⟩
set_option maxRecDepth 20000 in
theorem gX7_apart_X7_need : GoodIn wsX7_apart (va_wsS RX7 50 yX7_need wsX7_need) := goodIn_app (goodIn_r _ [2, 3, 4] rfl rfl) ggX7_apart_X7_need
theorem ggX7_apart_X1_apartOneByOne : GoodIn wsX7_apart wsX1_apartOneByOne := fun w h => ⟨List.mem_cons_of_mem _ (List.mem_append_left _ (List.mem_append_left _ (List.mem_append_right _ h))), zq_X1_apartOneByOne w h⟩
set_option maxRecDepth 20000 in
theorem gX7_apart_X1_apartOneByOne : GoodIn wsX7_apart (wsV RX7 215 RX1 yX1_apartOneByOne wsX1_apartOneByOne) := goodIn_app (goodIn_r _ [6, 7, 8, 9] rfl rfl) ggX7_apart_X1_apartOneByOne
theorem ggX7_apart_X1_apartBySigns : GoodIn wsX7_apart wsX1_apartBySigns := fun w h => ⟨List.mem_cons_of_mem _ (List.mem_append_left _ (List.mem_append_right _ h)), zq_X1_apartBySigns w h⟩
set_option maxRecDepth 20000 in
theorem gX7_apart_X1_apartBySigns : GoodIn wsX7_apart (wsV RX7 218 RX1 yX1_apartBySigns wsX1_apartBySigns) := goodIn_app (goodIn_r _ [10, 11, 12, 9] rfl rfl) ggX7_apart_X1_apartBySigns
theorem ggX7_apart_X1_apartByPhi : GoodIn wsX7_apart wsX1_apartByPhi := fun w h => ⟨List.mem_cons_of_mem _ (List.mem_append_right _ h), zq_X1_apartByPhi w h⟩
set_option maxRecDepth 20000 in
theorem gX7_apart_X1_apartByPhi : GoodIn wsX7_apart (wsV RX7 221 RX1 yX1_apartByPhi wsX1_apartByPhi) := goodIn_app (goodIn_r _ [14, 15, 16, 9] rfl rfl) ggX7_apart_X1_apartByPhi
theorem qdX7_apart_0_24 : dcAll cX7_apart [(0, .iload_n 1, 1), (1, .iconst 1, 1), (2, .bipush 120, 2), (4, .invokestatic 50, 3), (7, .iload_n 2, 1), (8, .iconst 0, 1), (9, .iconst 2, 1), (10, .invokestatic 50, 3), (13, .iload_n 2, 1), (14, .ifCond .ne 12, 3), (17, .aload_n 0, 1), (18, .getfield 33, 3), (21, .iload_n 1, 1), (22, .invokevirtual 215, 3), (25, .ireturn, 1), (26, .iload_n 2, 1), (27, .iconst 1, 1), (28, .if_icmp .ne 14, 3), (31, .aload_n 0, 1), (32, .getfield 33, 3), (35, .iload_n 1, 1), (36, .invokevirtual 218, 3), (39, .goto 11, 3), (42, .aload_n 0, 1)] := dcAll_of (by decide +kernel)
theorem dX7_apart_0 : decode cX7_apart 0 = .ok (.iload_n 1, 1) := qdX7_apart_0_24.1
theorem dX7_apart_1 : decode cX7_apart 1 = .ok (.iconst 1, 1) := qdX7_apart_0_24.2.1
theorem dX7_apart_2 : decode cX7_apart 2 = .ok (.bipush 120, 2) := qdX7_apart_0_24.2.2.1
theorem dX7_apart_4 : decode cX7_apart 4 = .ok (.invokestatic 50, 3) := qdX7_apart_0_24.2.2.2.1
theorem dX7_apart_7 : decode cX7_apart 7 = .ok (.iload_n 2, 1) := qdX7_apart_0_24.2.2.2.2.1
theorem dX7_apart_8 : decode cX7_apart 8 = .ok (.iconst 0, 1) := qdX7_apart_0_24.2.2.2.2.2.1
theorem dX7_apart_9 : decode cX7_apart 9 = .ok (.iconst 2, 1) := qdX7_apart_0_24.2.2.2.2.2.2.1
theorem dX7_apart_10 : decode cX7_apart 10 = .ok (.invokestatic 50, 3) := qdX7_apart_0_24.2.2.2.2.2.2.2.1
theorem dX7_apart_13 : decode cX7_apart 13 = .ok (.iload_n 2, 1) := qdX7_apart_0_24.2.2.2.2.2.2.2.2.1
theorem dX7_apart_14 : decode cX7_apart 14 = .ok (.ifCond .ne 12, 3) := qdX7_apart_0_24.2.2.2.2.2.2.2.2.2.1
theorem dX7_apart_17 : decode cX7_apart 17 = .ok (.aload_n 0, 1) := qdX7_apart_0_24.2.2.2.2.2.2.2.2.2.2.1
theorem dX7_apart_18 : decode cX7_apart 18 = .ok (.getfield 33, 3) := qdX7_apart_0_24.2.2.2.2.2.2.2.2.2.2.2.1
theorem dX7_apart_21 : decode cX7_apart 21 = .ok (.iload_n 1, 1) := qdX7_apart_0_24.2.2.2.2.2.2.2.2.2.2.2.2.1
theorem dX7_apart_22 : decode cX7_apart 22 = .ok (.invokevirtual 215, 3) := qdX7_apart_0_24.2.2.2.2.2.2.2.2.2.2.2.2.2.1
theorem dX7_apart_25 : decode cX7_apart 25 = .ok (.ireturn, 1) := qdX7_apart_0_24.2.2.2.2.2.2.2.2.2.2.2.2.2.2.1
theorem dX7_apart_26 : decode cX7_apart 26 = .ok (.iload_n 2, 1) := qdX7_apart_0_24.2.2.2.2.2.2.2.2.2.2.2.2.2.2.2.1
theorem dX7_apart_27 : decode cX7_apart 27 = .ok (.iconst 1, 1) := qdX7_apart_0_24.2.2.2.2.2.2.2.2.2.2.2.2.2.2.2.2.1
theorem dX7_apart_28 : decode cX7_apart 28 = .ok (.if_icmp .ne 14, 3) := qdX7_apart_0_24.2.2.2.2.2.2.2.2.2.2.2.2.2.2.2.2.2.1
theorem dX7_apart_31 : decode cX7_apart 31 = .ok (.aload_n 0, 1) := qdX7_apart_0_24.2.2.2.2.2.2.2.2.2.2.2.2.2.2.2.2.2.2.1
theorem dX7_apart_32 : decode cX7_apart 32 = .ok (.getfield 33, 3) := qdX7_apart_0_24.2.2.2.2.2.2.2.2.2.2.2.2.2.2.2.2.2.2.2.1
theorem dX7_apart_35 : decode cX7_apart 35 = .ok (.iload_n 1, 1) := qdX7_apart_0_24.2.2.2.2.2.2.2.2.2.2.2.2.2.2.2.2.2.2.2.2.1
theorem dX7_apart_36 : decode cX7_apart 36 = .ok (.invokevirtual 218, 3) := qdX7_apart_0_24.2.2.2.2.2.2.2.2.2.2.2.2.2.2.2.2.2.2.2.2.2.1
theorem dX7_apart_39 : decode cX7_apart 39 = .ok (.goto 11, 3) := qdX7_apart_0_24.2.2.2.2.2.2.2.2.2.2.2.2.2.2.2.2.2.2.2.2.2.2.1
theorem dX7_apart_42 : decode cX7_apart 42 = .ok (.aload_n 0, 1) := qdX7_apart_0_24.2.2.2.2.2.2.2.2.2.2.2.2.2.2.2.2.2.2.2.2.2.2.2.1
theorem qdX7_apart_43_4 : dcAll cX7_apart [(43, .getfield 33, 3), (46, .iload_n 1, 1), (47, .invokevirtual 221, 3), (50, .ireturn, 1)] := dcAll_of (by decide +kernel)
theorem dX7_apart_43 : decode cX7_apart 43 = .ok (.getfield 33, 3) := qdX7_apart_43_4.1
theorem dX7_apart_46 : decode cX7_apart 46 = .ok (.iload_n 1, 1) := qdX7_apart_43_4.2.1
theorem dX7_apart_47 : decode cX7_apart 47 = .ok (.invokevirtual 221, 3) := qdX7_apart_43_4.2.2.1
theorem dX7_apart_50 : decode cX7_apart 50 = .ok (.ireturn, 1) := qdX7_apart_43_4.2.2.2.1
theorem ggX7_shared_X7_need : GoodIn wsX7_shared wsX7_need := fun w h => ⟨List.mem_cons_of_mem _ (List.mem_append_left _ (List.mem_append_left _ (List.mem_append_right _ h))), zq_X7_need w h⟩
set_option maxRecDepth 20000 in
theorem gX7_shared_X7_need : GoodIn wsX7_shared (va_wsS RX7 50 yX7_need wsX7_need) := goodIn_app (goodIn_r _ [1, 2, 3] rfl rfl) ggX7_shared_X7_need
theorem ggX7_shared_X1_leastOf : GoodIn wsX7_shared wsX1_leastOf := fun w h => ⟨List.mem_cons_of_mem _ (List.mem_append_left _ (List.mem_append_right _ h)), zq_X1_leastOf w h⟩
set_option maxRecDepth 20000 in
theorem gX7_shared_X1_leastOf : GoodIn wsX7_shared (va_wsS RX7 224 yX1_leastOf wsX1_leastOf) := goodIn_app (goodIn_r _ [5, 6, 7] rfl rfl) ggX7_shared_X1_leastOf
theorem ggX7_shared_X1_commonOf : GoodIn wsX7_shared wsX1_commonOf := fun w h => ⟨List.mem_cons_of_mem _ (List.mem_append_right _ h), zq_X1_commonOf w h⟩
set_option maxRecDepth 20000 in
theorem gX7_shared_X1_commonOf : GoodIn wsX7_shared (va_wsS RX7 228 yX1_commonOf wsX1_commonOf) := goodIn_app (goodIn_r _ [8, 9, 7] rfl rfl) ggX7_shared_X1_commonOf
theorem qdX7_shared_0_18 : dcAll cX7_shared [(0, .iload_n 1, 1), (1, .iconst 1, 1), (2, .sipush 999, 3), (5, .invokestatic 50, 3), (8, .iload_n 2, 1), (9, .iconst 1, 1), (10, .sipush 999, 3), (13, .invokestatic 50, 3), (16, .iload_n 3, 1), (17, .ifCond .eq 11, 3), (20, .iload_n 1, 1), (21, .iload_n 2, 1), (22, .invokestatic 224, 3), (25, .goto 8, 3), (28, .iload_n 1, 1), (29, .iload_n 2, 1), (30, .invokestatic 228, 3), (33, .ireturn, 1)] := dcAll_of (by decide +kernel)
theorem dX7_shared_0 : decode cX7_shared 0 = .ok (.iload_n 1, 1) := qdX7_shared_0_18.1
theorem dX7_shared_1 : decode cX7_shared 1 = .ok (.iconst 1, 1) := qdX7_shared_0_18.2.1
theorem dX7_shared_2 : decode cX7_shared 2 = .ok (.sipush 999, 3) := qdX7_shared_0_18.2.2.1
theorem dX7_shared_5 : decode cX7_shared 5 = .ok (.invokestatic 50, 3) := qdX7_shared_0_18.2.2.2.1
theorem dX7_shared_8 : decode cX7_shared 8 = .ok (.iload_n 2, 1) := qdX7_shared_0_18.2.2.2.2.1
theorem dX7_shared_9 : decode cX7_shared 9 = .ok (.iconst 1, 1) := qdX7_shared_0_18.2.2.2.2.2.1
theorem dX7_shared_10 : decode cX7_shared 10 = .ok (.sipush 999, 3) := qdX7_shared_0_18.2.2.2.2.2.2.1
theorem dX7_shared_13 : decode cX7_shared 13 = .ok (.invokestatic 50, 3) := qdX7_shared_0_18.2.2.2.2.2.2.2.1
theorem dX7_shared_16 : decode cX7_shared 16 = .ok (.iload_n 3, 1) := qdX7_shared_0_18.2.2.2.2.2.2.2.2.1
theorem dX7_shared_17 : decode cX7_shared 17 = .ok (.ifCond .eq 11, 3) := qdX7_shared_0_18.2.2.2.2.2.2.2.2.2.1
theorem dX7_shared_20 : decode cX7_shared 20 = .ok (.iload_n 1, 1) := qdX7_shared_0_18.2.2.2.2.2.2.2.2.2.2.1
theorem dX7_shared_21 : decode cX7_shared 21 = .ok (.iload_n 2, 1) := qdX7_shared_0_18.2.2.2.2.2.2.2.2.2.2.2.1
theorem dX7_shared_22 : decode cX7_shared 22 = .ok (.invokestatic 224, 3) := qdX7_shared_0_18.2.2.2.2.2.2.2.2.2.2.2.2.1
theorem dX7_shared_25 : decode cX7_shared 25 = .ok (.goto 8, 3) := qdX7_shared_0_18.2.2.2.2.2.2.2.2.2.2.2.2.2.1
theorem dX7_shared_28 : decode cX7_shared 28 = .ok (.iload_n 1, 1) := qdX7_shared_0_18.2.2.2.2.2.2.2.2.2.2.2.2.2.2.1
theorem dX7_shared_29 : decode cX7_shared 29 = .ok (.iload_n 2, 1) := qdX7_shared_0_18.2.2.2.2.2.2.2.2.2.2.2.2.2.2.2.1
theorem dX7_shared_30 : decode cX7_shared 30 = .ok (.invokestatic 228, 3) := qdX7_shared_0_18.2.2.2.2.2.2.2.2.2.2.2.2.2.2.2.2.1
theorem dX7_shared_33 : decode cX7_shared 33 = .ok (.ireturn, 1) := qdX7_shared_0_18.2.2.2.2.2.2.2.2.2.2.2.2.2.2.2.2.2.1
theorem ggX7_divisor_X7_need : GoodIn wsX7_divisor wsX7_need := fun w h => ⟨List.mem_cons_of_mem _ (List.mem_append_right _ h), zq_X7_need w h⟩
set_option maxRecDepth 20000 in
theorem gX7_divisor_X7_need : GoodIn wsX7_divisor (va_wsS RX7 50 yX7_need wsX7_need) := goodIn_app (goodIn_r _ [2, 3, 4] rfl rfl) ggX7_divisor_X7_need
theorem qdX7_divisor_0_24 : dcAll cX7_divisor [(0, .iload_n 1, 1), (1, .iconst 1, 1), (2, .sipush 999, 3), (5, .invokestatic 50, 3), (8, .iload_n 2, 1), (9, .ifCond .ge 13, 3), (12, .new 231, 3), (15, .dup, 1), (16, .ldc 233, 2), (18, .invokespecial 235, 3), (21, .athrow, 1), (22, .iconst 0, 1), (23, .istore_n 3, 1), (24, .iconst 1, 1), (25, .istore 4, 2), (27, .iload 4, 2), (29, .iload_n 1, 1), (30, .if_icmp .gt 27, 3), (33, .iload_n 1, 1), (34, .iload 4, 2), (36, .irem, 1), (37, .ifCond .ne 14, 3), (40, .iload_n 3, 1), (41, .iload_n 2, 1)] := dcAll_of (by decide +kernel)
theorem dX7_divisor_0 : decode cX7_divisor 0 = .ok (.iload_n 1, 1) := qdX7_divisor_0_24.1
theorem dX7_divisor_1 : decode cX7_divisor 1 = .ok (.iconst 1, 1) := qdX7_divisor_0_24.2.1
theorem dX7_divisor_2 : decode cX7_divisor 2 = .ok (.sipush 999, 3) := qdX7_divisor_0_24.2.2.1
theorem dX7_divisor_5 : decode cX7_divisor 5 = .ok (.invokestatic 50, 3) := qdX7_divisor_0_24.2.2.2.1
theorem dX7_divisor_8 : decode cX7_divisor 8 = .ok (.iload_n 2, 1) := qdX7_divisor_0_24.2.2.2.2.1
theorem dX7_divisor_9 : decode cX7_divisor 9 = .ok (.ifCond .ge 13, 3) := qdX7_divisor_0_24.2.2.2.2.2.1
theorem dX7_divisor_12 : decode cX7_divisor 12 = .ok (.new 231, 3) := qdX7_divisor_0_24.2.2.2.2.2.2.1
theorem dX7_divisor_15 : decode cX7_divisor 15 = .ok (.dup, 1) := qdX7_divisor_0_24.2.2.2.2.2.2.2.1
theorem dX7_divisor_16 : decode cX7_divisor 16 = .ok (.ldc 233, 2) := qdX7_divisor_0_24.2.2.2.2.2.2.2.2.1
theorem dX7_divisor_18 : decode cX7_divisor 18 = .ok (.invokespecial 235, 3) := qdX7_divisor_0_24.2.2.2.2.2.2.2.2.2.1
theorem dX7_divisor_21 : decode cX7_divisor 21 = .ok (.athrow, 1) := qdX7_divisor_0_24.2.2.2.2.2.2.2.2.2.2.1
theorem dX7_divisor_22 : decode cX7_divisor 22 = .ok (.iconst 0, 1) := qdX7_divisor_0_24.2.2.2.2.2.2.2.2.2.2.2.1
theorem dX7_divisor_23 : decode cX7_divisor 23 = .ok (.istore_n 3, 1) := qdX7_divisor_0_24.2.2.2.2.2.2.2.2.2.2.2.2.1
theorem dX7_divisor_24 : decode cX7_divisor 24 = .ok (.iconst 1, 1) := qdX7_divisor_0_24.2.2.2.2.2.2.2.2.2.2.2.2.2.1
theorem dX7_divisor_25 : decode cX7_divisor 25 = .ok (.istore 4, 2) := qdX7_divisor_0_24.2.2.2.2.2.2.2.2.2.2.2.2.2.2.1
theorem dX7_divisor_27 : decode cX7_divisor 27 = .ok (.iload 4, 2) := qdX7_divisor_0_24.2.2.2.2.2.2.2.2.2.2.2.2.2.2.2.1
theorem dX7_divisor_29 : decode cX7_divisor 29 = .ok (.iload_n 1, 1) := qdX7_divisor_0_24.2.2.2.2.2.2.2.2.2.2.2.2.2.2.2.2.1
theorem dX7_divisor_30 : decode cX7_divisor 30 = .ok (.if_icmp .gt 27, 3) := qdX7_divisor_0_24.2.2.2.2.2.2.2.2.2.2.2.2.2.2.2.2.2.1
theorem dX7_divisor_33 : decode cX7_divisor 33 = .ok (.iload_n 1, 1) := qdX7_divisor_0_24.2.2.2.2.2.2.2.2.2.2.2.2.2.2.2.2.2.2.1
theorem dX7_divisor_34 : decode cX7_divisor 34 = .ok (.iload 4, 2) := qdX7_divisor_0_24.2.2.2.2.2.2.2.2.2.2.2.2.2.2.2.2.2.2.2.1
theorem dX7_divisor_36 : decode cX7_divisor 36 = .ok (.irem, 1) := qdX7_divisor_0_24.2.2.2.2.2.2.2.2.2.2.2.2.2.2.2.2.2.2.2.2.1
theorem dX7_divisor_37 : decode cX7_divisor 37 = .ok (.ifCond .ne 14, 3) := qdX7_divisor_0_24.2.2.2.2.2.2.2.2.2.2.2.2.2.2.2.2.2.2.2.2.2.1
theorem dX7_divisor_40 : decode cX7_divisor 40 = .ok (.iload_n 3, 1) := qdX7_divisor_0_24.2.2.2.2.2.2.2.2.2.2.2.2.2.2.2.2.2.2.2.2.2.2.1
theorem dX7_divisor_41 : decode cX7_divisor 41 = .ok (.iload_n 2, 1) := qdX7_divisor_0_24.2.2.2.2.2.2.2.2.2.2.2.2.2.2.2.2.2.2.2.2.2.2.2.1
theorem qdX7_divisor_42_8 : dcAll cX7_divisor [(42, .if_icmp .ne 6, 3), (45, .iload 4, 2), (47, .ireturn, 1), (48, .iinc 3 1, 3), (51, .iinc 4 1, 3), (54, .goto (-27), 3), (57, .iconst (-1), 1), (58, .ireturn, 1)] := dcAll_of (by decide +kernel)
theorem dX7_divisor_42 : decode cX7_divisor 42 = .ok (.if_icmp .ne 6, 3) := qdX7_divisor_42_8.1
theorem dX7_divisor_45 : decode cX7_divisor 45 = .ok (.iload 4, 2) := qdX7_divisor_42_8.2.1
theorem dX7_divisor_47 : decode cX7_divisor 47 = .ok (.ireturn, 1) := qdX7_divisor_42_8.2.2.1
theorem dX7_divisor_48 : decode cX7_divisor 48 = .ok (.iinc 3 1, 3) := qdX7_divisor_42_8.2.2.2.1
theorem dX7_divisor_51 : decode cX7_divisor 51 = .ok (.iinc 4 1, 3) := qdX7_divisor_42_8.2.2.2.2.1
theorem dX7_divisor_54 : decode cX7_divisor 54 = .ok (.goto (-27), 3) := qdX7_divisor_42_8.2.2.2.2.2.1
theorem dX7_divisor_57 : decode cX7_divisor 57 = .ok (.iconst (-1), 1) := qdX7_divisor_42_8.2.2.2.2.2.2.1
theorem dX7_divisor_58 : decode cX7_divisor 58 = .ok (.ireturn, 1) := qdX7_divisor_42_8.2.2.2.2.2.2.2.1
theorem ggX7_powers_X7_need : GoodIn wsX7_powers wsX7_need := fun w h => ⟨List.mem_cons_of_mem _ (List.mem_append_left _ (List.mem_append_right _ h)), zq_X7_need w h⟩
set_option maxRecDepth 20000 in
theorem gX7_powers_X7_need : GoodIn wsX7_powers (va_wsS RX7 50 yX7_need wsX7_need) := goodIn_app (goodIn_r _ [2, 3, 4] rfl rfl) ggX7_powers_X7_need
theorem ggX7_powers_X1_textOfPowers : GoodIn wsX7_powers wsX1_textOfPowers := fun w h => ⟨List.mem_cons_of_mem _ (List.mem_append_right _ h), zq_X1_textOfPowers w h⟩
set_option maxRecDepth 20000 in
theorem gX7_powers_X1_textOfPowers : GoodIn wsX7_powers (wsV RX7 236 RX1 yX1_textOfPowers wsX1_textOfPowers) := goodIn_app (goodIn_r _ [6, 7, 8, 9] rfl rfl) ggX7_powers_X1_textOfPowers
theorem qdX7_powers_0_9 : dcAll cX7_powers [(0, .iload_n 1, 1), (1, .iconst 1, 1), (2, .sipush 999, 3), (5, .invokestatic 50, 3), (8, .aload_n 0, 1), (9, .getfield 33, 3), (12, .iload_n 1, 1), (13, .invokevirtual 236, 3), (16, .areturn, 1)] := dcAll_of (by decide +kernel)
theorem dX7_powers_0 : decode cX7_powers 0 = .ok (.iload_n 1, 1) := qdX7_powers_0_9.1
theorem dX7_powers_1 : decode cX7_powers 1 = .ok (.iconst 1, 1) := qdX7_powers_0_9.2.1
theorem dX7_powers_2 : decode cX7_powers 2 = .ok (.sipush 999, 3) := qdX7_powers_0_9.2.2.1
theorem dX7_powers_5 : decode cX7_powers 5 = .ok (.invokestatic 50, 3) := qdX7_powers_0_9.2.2.2.1
theorem dX7_powers_8 : decode cX7_powers 8 = .ok (.aload_n 0, 1) := qdX7_powers_0_9.2.2.2.2.1
theorem dX7_powers_9 : decode cX7_powers 9 = .ok (.getfield 33, 3) := qdX7_powers_0_9.2.2.2.2.2.1
theorem dX7_powers_12 : decode cX7_powers 12 = .ok (.iload_n 1, 1) := qdX7_powers_0_9.2.2.2.2.2.2.1
theorem dX7_powers_13 : decode cX7_powers 13 = .ok (.invokevirtual 236, 3) := qdX7_powers_0_9.2.2.2.2.2.2.2.1
theorem dX7_powers_16 : decode cX7_powers 16 = .ok (.areturn, 1) := qdX7_powers_0_9.2.2.2.2.2.2.2.2.1
theorem ggX7_house_X7_need : GoodIn wsX7_house wsX7_need := fun w h => ⟨List.mem_cons_of_mem _ (List.mem_append_right _ h), zq_X7_need w h⟩
set_option maxRecDepth 20000 in
theorem gX7_house_X7_need : GoodIn wsX7_house (va_wsS RX7 50 yX7_need wsX7_need) := goodIn_app (goodIn_r _ [4, 5, 6] rfl rfl) ggX7_house_X7_need
theorem qdX7_house_0_18 : dcAll cX7_house [(0, .iload_n 1, 1), (1, .iconst 0, 1), (2, .iconst 2, 1), (3, .invokestatic 50, 3), (6, .iload_n 1, 1), (7, .ifCond .ne 8, 3), (10, .aload_n 0, 1), (11, .getfield 74, 3), (14, .ireturn, 1), (15, .iload_n 1, 1), (16, .iconst 1, 1), (17, .if_icmp .ne 10, 3), (20, .aload_n 0, 1), (21, .getfield 240, 3), (24, .goto 7, 3), (27, .aload_n 0, 1), (28, .getfield 243, 3), (31, .ireturn, 1)] := dcAll_of (by decide +kernel)
theorem dX7_house_0 : decode cX7_house 0 = .ok (.iload_n 1, 1) := qdX7_house_0_18.1
theorem dX7_house_1 : decode cX7_house 1 = .ok (.iconst 0, 1) := qdX7_house_0_18.2.1
theorem dX7_house_2 : decode cX7_house 2 = .ok (.iconst 2, 1) := qdX7_house_0_18.2.2.1
theorem dX7_house_3 : decode cX7_house 3 = .ok (.invokestatic 50, 3) := qdX7_house_0_18.2.2.2.1
theorem dX7_house_6 : decode cX7_house 6 = .ok (.iload_n 1, 1) := qdX7_house_0_18.2.2.2.2.1
theorem dX7_house_7 : decode cX7_house 7 = .ok (.ifCond .ne 8, 3) := qdX7_house_0_18.2.2.2.2.2.1
theorem dX7_house_10 : decode cX7_house 10 = .ok (.aload_n 0, 1) := qdX7_house_0_18.2.2.2.2.2.2.1
theorem dX7_house_11 : decode cX7_house 11 = .ok (.getfield 74, 3) := qdX7_house_0_18.2.2.2.2.2.2.2.1
theorem dX7_house_14 : decode cX7_house 14 = .ok (.ireturn, 1) := qdX7_house_0_18.2.2.2.2.2.2.2.2.1
theorem dX7_house_15 : decode cX7_house 15 = .ok (.iload_n 1, 1) := qdX7_house_0_18.2.2.2.2.2.2.2.2.2.1
theorem dX7_house_16 : decode cX7_house 16 = .ok (.iconst 1, 1) := qdX7_house_0_18.2.2.2.2.2.2.2.2.2.2.1
theorem dX7_house_17 : decode cX7_house 17 = .ok (.if_icmp .ne 10, 3) := qdX7_house_0_18.2.2.2.2.2.2.2.2.2.2.2.1
theorem dX7_house_20 : decode cX7_house 20 = .ok (.aload_n 0, 1) := qdX7_house_0_18.2.2.2.2.2.2.2.2.2.2.2.2.1
theorem dX7_house_21 : decode cX7_house 21 = .ok (.getfield 240, 3) := qdX7_house_0_18.2.2.2.2.2.2.2.2.2.2.2.2.2.1
theorem dX7_house_24 : decode cX7_house 24 = .ok (.goto 7, 3) := qdX7_house_0_18.2.2.2.2.2.2.2.2.2.2.2.2.2.2.1
theorem dX7_house_27 : decode cX7_house 27 = .ok (.aload_n 0, 1) := qdX7_house_0_18.2.2.2.2.2.2.2.2.2.2.2.2.2.2.2.1
theorem dX7_house_28 : decode cX7_house 28 = .ok (.getfield 243, 3) := qdX7_house_0_18.2.2.2.2.2.2.2.2.2.2.2.2.2.2.2.2.1
theorem dX7_house_31 : decode cX7_house 31 = .ok (.ireturn, 1) := qdX7_house_0_18.2.2.2.2.2.2.2.2.2.2.2.2.2.2.2.2.2.1
theorem qdX7_knock_0_9 : dcAll cX7_knock [(0, .aload_n 0, 1), (1, .dup, 1), (2, .getfield 243, 3), (5, .iconst 1, 1), (6, .iadd, 1), (7, .putfield 243, 3), (10, .aload_n 0, 1), (11, .getfield 243, 3), (14, .ireturn, 1)] := dcAll_of (by decide +kernel)
theorem dX7_knock_0 : decode cX7_knock 0 = .ok (.aload_n 0, 1) := qdX7_knock_0_9.1
theorem dX7_knock_1 : decode cX7_knock 1 = .ok (.dup, 1) := qdX7_knock_0_9.2.1
theorem dX7_knock_2 : decode cX7_knock 2 = .ok (.getfield 243, 3) := qdX7_knock_0_9.2.2.1
theorem dX7_knock_5 : decode cX7_knock 5 = .ok (.iconst 1, 1) := qdX7_knock_0_9.2.2.2.1
theorem dX7_knock_6 : decode cX7_knock 6 = .ok (.iadd, 1) := qdX7_knock_0_9.2.2.2.2.1
theorem dX7_knock_7 : decode cX7_knock 7 = .ok (.putfield 243, 3) := qdX7_knock_0_9.2.2.2.2.2.1
theorem dX7_knock_10 : decode cX7_knock 10 = .ok (.aload_n 0, 1) := qdX7_knock_0_9.2.2.2.2.2.2.1
theorem dX7_knock_11 : decode cX7_knock 11 = .ok (.getfield 243, 3) := qdX7_knock_0_9.2.2.2.2.2.2.2.1
theorem dX7_knock_14 : decode cX7_knock 14 = .ok (.ireturn, 1) := qdX7_knock_0_9.2.2.2.2.2.2.2.2.1
theorem ggX7_isSound_X0_laySummed : GoodIn wsX7_isSound wsX0_laySummed := fun w h => ⟨List.mem_cons_of_mem _ (List.mem_append_left _ (List.mem_append_left _ (List.mem_append_left _ (List.mem_append_left _ (List.mem_append_left _ (List.mem_append_right _ h)))))), zq_X0_laySummed w h⟩
set_option maxRecDepth 20000 in
theorem gX7_isSound_X0_laySummed : GoodIn wsX7_isSound (wsV RX7 246 RX0 yX0_laySummed wsX0_laySummed) := goodIn_app (goodIn_r _ [5, 6, 7, 8] rfl rfl) ggX7_isSound_X0_laySummed
theorem ggX7_isSound_X0_laySigned : GoodIn wsX7_isSound wsX0_laySigned := fun w h => ⟨List.mem_cons_of_mem _ (List.mem_append_left _ (List.mem_append_left _ (List.mem_append_left _ (List.mem_append_left _ (List.mem_append_right _ h))))), zq_X0_laySigned w h⟩
set_option maxRecDepth 20000 in
theorem gX7_isSound_X0_laySigned : GoodIn wsX7_isSound (wsV RX7 249 RX0 yX0_laySigned wsX0_laySigned) := goodIn_app (goodIn_r _ [11, 12, 13, 8] rfl rfl) ggX7_isSound_X0_laySigned
theorem ggX7_isSound_X4_firstUnlike : GoodIn wsX7_isSound wsX4_firstUnlike := fun w h => ⟨List.mem_cons_of_mem _ (List.mem_append_left _ (List.mem_append_left _ (List.mem_append_left _ (List.mem_append_right _ h)))), zq_X4_firstUnlike w h⟩
set_option maxRecDepth 20000 in
theorem gX7_isSound_X4_firstUnlike : GoodIn wsX7_isSound (wsV RX7 112 RX4 yX4_firstUnlike wsX4_firstUnlike) := goodIn_app (goodIn_r _ [16, 17, 18, 10] rfl rfl) ggX7_isSound_X4_firstUnlike
theorem ggX7_isSound_X0_layProduct : GoodIn wsX7_isSound wsX0_layProduct := fun w h => ⟨List.mem_cons_of_mem _ (List.mem_append_left _ (List.mem_append_left _ (List.mem_append_right _ h))), zq_X0_layProduct w h⟩
set_option maxRecDepth 20000 in
theorem gX7_isSound_X0_layProduct : GoodIn wsX7_isSound (wsV RX7 96 RX0 yX0_layProduct wsX0_layProduct) := goodIn_app (goodIn_r _ [19, 20, 21, 8] rfl rfl) ggX7_isSound_X0_layProduct
theorem ggX7_isSound_X0_isByPrimes : GoodIn wsX7_isSound wsX0_isByPrimes := fun w h => ⟨List.mem_cons_of_mem _ (List.mem_append_left _ (List.mem_append_right _ h)), zq_X0_isByPrimes w h⟩
set_option maxRecDepth 20000 in
theorem gX7_isSound_X0_isByPrimes : GoodIn wsX7_isSound (wsV RX7 115 RX0 yX0_isByPrimes wsX0_isByPrimes) := goodIn_app (goodIn_r _ [22, 23, 24, 8] rfl rfl) ggX7_isSound_X0_isByPrimes
theorem ggX7_isSound_X0_layByPrimes : GoodIn wsX7_isSound wsX0_layByPrimes := fun w h => ⟨List.mem_cons_of_mem _ (List.mem_append_right _ h), zq_X0_layByPrimes w h⟩
set_option maxRecDepth 20000 in
theorem gX7_isSound_X0_layByPrimes : GoodIn wsX7_isSound (wsV RX7 252 RX0 yX0_layByPrimes wsX0_layByPrimes) := goodIn_app (goodIn_r _ [25, 26, 27, 8] rfl rfl) ggX7_isSound_X0_layByPrimes
theorem qdX7_isSound_0_24 : dcAll cX7_isSound [(0, .aload_n 0, 1), (1, .getfield 11, 3), (4, .iconst 0, 1), (5, .aaload, 1), (6, .astore_n 1, 1), (7, .aload_n 0, 1), (8, .getfield 11, 3), (11, .iconst 1, 1), (12, .aaload, 1), (13, .astore_n 2, 1), (14, .aload_n 0, 1), (15, .getfield 42, 3), (18, .aload_n 1, 1), (19, .aload_n 0, 1), (20, .getfield 16, 3), (23, .invokevirtual 246, 3), (26, .ifCond .eq 35, 3), (29, .aload_n 0, 1), (30, .getfield 42, 3), (33, .aload_n 0, 1), (34, .getfield 16, 3), (37, .aload_n 0, 1), (38, .getfield 20, 3), (41, .invokevirtual 249, 3)] := dcAll_of (by decide +kernel)
theorem dX7_isSound_0 : decode cX7_isSound 0 = .ok (.aload_n 0, 1) := qdX7_isSound_0_24.1
theorem dX7_isSound_1 : decode cX7_isSound 1 = .ok (.getfield 11, 3) := qdX7_isSound_0_24.2.1
theorem dX7_isSound_4 : decode cX7_isSound 4 = .ok (.iconst 0, 1) := qdX7_isSound_0_24.2.2.1
theorem dX7_isSound_5 : decode cX7_isSound 5 = .ok (.aaload, 1) := qdX7_isSound_0_24.2.2.2.1
theorem dX7_isSound_6 : decode cX7_isSound 6 = .ok (.astore_n 1, 1) := qdX7_isSound_0_24.2.2.2.2.1
theorem dX7_isSound_7 : decode cX7_isSound 7 = .ok (.aload_n 0, 1) := qdX7_isSound_0_24.2.2.2.2.2.1
theorem dX7_isSound_8 : decode cX7_isSound 8 = .ok (.getfield 11, 3) := qdX7_isSound_0_24.2.2.2.2.2.2.1
theorem dX7_isSound_11 : decode cX7_isSound 11 = .ok (.iconst 1, 1) := qdX7_isSound_0_24.2.2.2.2.2.2.2.1
theorem dX7_isSound_12 : decode cX7_isSound 12 = .ok (.aaload, 1) := qdX7_isSound_0_24.2.2.2.2.2.2.2.2.1
theorem dX7_isSound_13 : decode cX7_isSound 13 = .ok (.astore_n 2, 1) := qdX7_isSound_0_24.2.2.2.2.2.2.2.2.2.1
theorem dX7_isSound_14 : decode cX7_isSound 14 = .ok (.aload_n 0, 1) := qdX7_isSound_0_24.2.2.2.2.2.2.2.2.2.2.1
theorem dX7_isSound_15 : decode cX7_isSound 15 = .ok (.getfield 42, 3) := qdX7_isSound_0_24.2.2.2.2.2.2.2.2.2.2.2.1
theorem dX7_isSound_18 : decode cX7_isSound 18 = .ok (.aload_n 1, 1) := qdX7_isSound_0_24.2.2.2.2.2.2.2.2.2.2.2.2.1
theorem dX7_isSound_19 : decode cX7_isSound 19 = .ok (.aload_n 0, 1) := qdX7_isSound_0_24.2.2.2.2.2.2.2.2.2.2.2.2.2.1
theorem dX7_isSound_20 : decode cX7_isSound 20 = .ok (.getfield 16, 3) := qdX7_isSound_0_24.2.2.2.2.2.2.2.2.2.2.2.2.2.2.1
theorem dX7_isSound_23 : decode cX7_isSound 23 = .ok (.invokevirtual 246, 3) := qdX7_isSound_0_24.2.2.2.2.2.2.2.2.2.2.2.2.2.2.2.1
theorem dX7_isSound_26 : decode cX7_isSound 26 = .ok (.ifCond .eq 35, 3) := qdX7_isSound_0_24.2.2.2.2.2.2.2.2.2.2.2.2.2.2.2.2.1
theorem dX7_isSound_29 : decode cX7_isSound 29 = .ok (.aload_n 0, 1) := qdX7_isSound_0_24.2.2.2.2.2.2.2.2.2.2.2.2.2.2.2.2.2.1
theorem dX7_isSound_30 : decode cX7_isSound 30 = .ok (.getfield 42, 3) := qdX7_isSound_0_24.2.2.2.2.2.2.2.2.2.2.2.2.2.2.2.2.2.2.1
theorem dX7_isSound_33 : decode cX7_isSound 33 = .ok (.aload_n 0, 1) := qdX7_isSound_0_24.2.2.2.2.2.2.2.2.2.2.2.2.2.2.2.2.2.2.2.1
theorem dX7_isSound_34 : decode cX7_isSound 34 = .ok (.getfield 16, 3) := qdX7_isSound_0_24.2.2.2.2.2.2.2.2.2.2.2.2.2.2.2.2.2.2.2.2.1
theorem dX7_isSound_37 : decode cX7_isSound 37 = .ok (.aload_n 0, 1) := qdX7_isSound_0_24.2.2.2.2.2.2.2.2.2.2.2.2.2.2.2.2.2.2.2.2.2.1
theorem dX7_isSound_38 : decode cX7_isSound 38 = .ok (.getfield 20, 3) := qdX7_isSound_0_24.2.2.2.2.2.2.2.2.2.2.2.2.2.2.2.2.2.2.2.2.2.2.1
theorem dX7_isSound_41 : decode cX7_isSound 41 = .ok (.invokevirtual 249, 3) := qdX7_isSound_0_24.2.2.2.2.2.2.2.2.2.2.2.2.2.2.2.2.2.2.2.2.2.2.2.1
theorem qdX7_isSound_44_24 : dcAll cX7_isSound [(44, .ifCond .eq 17, 3), (47, .aload_n 0, 1), (48, .getfield 20, 3), (51, .aload_n 1, 1), (52, .invokevirtual 112, 3), (55, .iconst (-1), 1), (56, .if_icmp .eq 5, 3), (59, .iconst 0, 1), (60, .ireturn, 1), (61, .aload_n 0, 1), (62, .getfield 42, 3), (65, .aload_n 1, 1), (66, .aload_n 2, 1), (67, .aload_n 0, 1), (68, .getfield 16, 3), (71, .invokevirtual 96, 3), (74, .ifCond .eq 36, 3), (77, .aload_n 0, 1), (78, .getfield 42, 3), (81, .aload_n 2, 1), (82, .aload_n 1, 1), (83, .aload_n 0, 1), (84, .getfield 20, 3), (87, .invokevirtual 96, 3)] := dcAll_of (by decide +kernel)
theorem dX7_isSound_44 : decode cX7_isSound 44 = .ok (.ifCond .eq 17, 3) := qdX7_isSound_44_24.1
theorem dX7_isSound_47 : decode cX7_isSound 47 = .ok (.aload_n 0, 1) := qdX7_isSound_44_24.2.1
theorem dX7_isSound_48 : decode cX7_isSound 48 = .ok (.getfield 20, 3) := qdX7_isSound_44_24.2.2.1
theorem dX7_isSound_51 : decode cX7_isSound 51 = .ok (.aload_n 1, 1) := qdX7_isSound_44_24.2.2.2.1
theorem dX7_isSound_52 : decode cX7_isSound 52 = .ok (.invokevirtual 112, 3) := qdX7_isSound_44_24.2.2.2.2.1
theorem dX7_isSound_55 : decode cX7_isSound 55 = .ok (.iconst (-1), 1) := qdX7_isSound_44_24.2.2.2.2.2.1
theorem dX7_isSound_56 : decode cX7_isSound 56 = .ok (.if_icmp .eq 5, 3) := qdX7_isSound_44_24.2.2.2.2.2.2.1
theorem dX7_isSound_59 : decode cX7_isSound 59 = .ok (.iconst 0, 1) := qdX7_isSound_44_24.2.2.2.2.2.2.2.1
theorem dX7_isSound_60 : decode cX7_isSound 60 = .ok (.ireturn, 1) := qdX7_isSound_44_24.2.2.2.2.2.2.2.2.1
theorem dX7_isSound_61 : decode cX7_isSound 61 = .ok (.aload_n 0, 1) := qdX7_isSound_44_24.2.2.2.2.2.2.2.2.2.1
theorem dX7_isSound_62 : decode cX7_isSound 62 = .ok (.getfield 42, 3) := qdX7_isSound_44_24.2.2.2.2.2.2.2.2.2.2.1
theorem dX7_isSound_65 : decode cX7_isSound 65 = .ok (.aload_n 1, 1) := qdX7_isSound_44_24.2.2.2.2.2.2.2.2.2.2.2.1
theorem dX7_isSound_66 : decode cX7_isSound 66 = .ok (.aload_n 2, 1) := qdX7_isSound_44_24.2.2.2.2.2.2.2.2.2.2.2.2.1
theorem dX7_isSound_67 : decode cX7_isSound 67 = .ok (.aload_n 0, 1) := qdX7_isSound_44_24.2.2.2.2.2.2.2.2.2.2.2.2.2.1
theorem dX7_isSound_68 : decode cX7_isSound 68 = .ok (.getfield 16, 3) := qdX7_isSound_44_24.2.2.2.2.2.2.2.2.2.2.2.2.2.2.1
theorem dX7_isSound_71 : decode cX7_isSound 71 = .ok (.invokevirtual 96, 3) := qdX7_isSound_44_24.2.2.2.2.2.2.2.2.2.2.2.2.2.2.2.1
theorem dX7_isSound_74 : decode cX7_isSound 74 = .ok (.ifCond .eq 36, 3) := qdX7_isSound_44_24.2.2.2.2.2.2.2.2.2.2.2.2.2.2.2.2.1
theorem dX7_isSound_77 : decode cX7_isSound 77 = .ok (.aload_n 0, 1) := qdX7_isSound_44_24.2.2.2.2.2.2.2.2.2.2.2.2.2.2.2.2.2.1
theorem dX7_isSound_78 : decode cX7_isSound 78 = .ok (.getfield 42, 3) := qdX7_isSound_44_24.2.2.2.2.2.2.2.2.2.2.2.2.2.2.2.2.2.2.1
theorem dX7_isSound_81 : decode cX7_isSound 81 = .ok (.aload_n 2, 1) := qdX7_isSound_44_24.2.2.2.2.2.2.2.2.2.2.2.2.2.2.2.2.2.2.2.1
theorem dX7_isSound_82 : decode cX7_isSound 82 = .ok (.aload_n 1, 1) := qdX7_isSound_44_24.2.2.2.2.2.2.2.2.2.2.2.2.2.2.2.2.2.2.2.2.1
theorem dX7_isSound_83 : decode cX7_isSound 83 = .ok (.aload_n 0, 1) := qdX7_isSound_44_24.2.2.2.2.2.2.2.2.2.2.2.2.2.2.2.2.2.2.2.2.2.1
theorem dX7_isSound_84 : decode cX7_isSound 84 = .ok (.getfield 20, 3) := qdX7_isSound_44_24.2.2.2.2.2.2.2.2.2.2.2.2.2.2.2.2.2.2.2.2.2.2.1
theorem dX7_isSound_87 : decode cX7_isSound 87 = .ok (.invokevirtual 96, 3) := qdX7_isSound_44_24.2.2.2.2.2.2.2.2.2.2.2.2.2.2.2.2.2.2.2.2.2.2.2.1
theorem qdX7_isSound_90_24 : dcAll cX7_isSound [(90, .ifCond .eq 20, 3), (93, .aload_n 0, 1), (94, .getfield 20, 3), (97, .aload_n 0, 1), (98, .getfield 16, 3), (101, .invokevirtual 112, 3), (104, .iconst (-1), 1), (105, .if_icmp .eq 5, 3), (108, .iconst 0, 1), (109, .ireturn, 1), (110, .aload_n 0, 1), (111, .getfield 42, 3), (114, .aload_n 1, 1), (115, .iconst 0, 1), (116, .invokevirtual 115, 3), (119, .ifCond .eq 30, 3), (122, .aload_n 0, 1), (123, .getfield 42, 3), (126, .aload_n 1, 1), (127, .aload_n 0, 1), (128, .getfield 16, 3), (131, .invokevirtual 252, 3), (134, .ifCond .eq 19, 3), (137, .aload_n 0, 1)] := dcAll_of (by decide +kernel)
theorem dX7_isSound_90 : decode cX7_isSound 90 = .ok (.ifCond .eq 20, 3) := qdX7_isSound_90_24.1
theorem dX7_isSound_93 : decode cX7_isSound 93 = .ok (.aload_n 0, 1) := qdX7_isSound_90_24.2.1
theorem dX7_isSound_94 : decode cX7_isSound 94 = .ok (.getfield 20, 3) := qdX7_isSound_90_24.2.2.1
theorem dX7_isSound_97 : decode cX7_isSound 97 = .ok (.aload_n 0, 1) := qdX7_isSound_90_24.2.2.2.1
theorem dX7_isSound_98 : decode cX7_isSound 98 = .ok (.getfield 16, 3) := qdX7_isSound_90_24.2.2.2.2.1
theorem dX7_isSound_101 : decode cX7_isSound 101 = .ok (.invokevirtual 112, 3) := qdX7_isSound_90_24.2.2.2.2.2.1
theorem dX7_isSound_104 : decode cX7_isSound 104 = .ok (.iconst (-1), 1) := qdX7_isSound_90_24.2.2.2.2.2.2.1
theorem dX7_isSound_105 : decode cX7_isSound 105 = .ok (.if_icmp .eq 5, 3) := qdX7_isSound_90_24.2.2.2.2.2.2.2.1
theorem dX7_isSound_108 : decode cX7_isSound 108 = .ok (.iconst 0, 1) := qdX7_isSound_90_24.2.2.2.2.2.2.2.2.1
theorem dX7_isSound_109 : decode cX7_isSound 109 = .ok (.ireturn, 1) := qdX7_isSound_90_24.2.2.2.2.2.2.2.2.2.1
theorem dX7_isSound_110 : decode cX7_isSound 110 = .ok (.aload_n 0, 1) := qdX7_isSound_90_24.2.2.2.2.2.2.2.2.2.2.1
theorem dX7_isSound_111 : decode cX7_isSound 111 = .ok (.getfield 42, 3) := qdX7_isSound_90_24.2.2.2.2.2.2.2.2.2.2.2.1
theorem dX7_isSound_114 : decode cX7_isSound 114 = .ok (.aload_n 1, 1) := qdX7_isSound_90_24.2.2.2.2.2.2.2.2.2.2.2.2.1
theorem dX7_isSound_115 : decode cX7_isSound 115 = .ok (.iconst 0, 1) := qdX7_isSound_90_24.2.2.2.2.2.2.2.2.2.2.2.2.2.1
theorem dX7_isSound_116 : decode cX7_isSound 116 = .ok (.invokevirtual 115, 3) := qdX7_isSound_90_24.2.2.2.2.2.2.2.2.2.2.2.2.2.2.1
theorem dX7_isSound_119 : decode cX7_isSound 119 = .ok (.ifCond .eq 30, 3) := qdX7_isSound_90_24.2.2.2.2.2.2.2.2.2.2.2.2.2.2.2.1
theorem dX7_isSound_122 : decode cX7_isSound 122 = .ok (.aload_n 0, 1) := qdX7_isSound_90_24.2.2.2.2.2.2.2.2.2.2.2.2.2.2.2.2.1
theorem dX7_isSound_123 : decode cX7_isSound 123 = .ok (.getfield 42, 3) := qdX7_isSound_90_24.2.2.2.2.2.2.2.2.2.2.2.2.2.2.2.2.2.1
theorem dX7_isSound_126 : decode cX7_isSound 126 = .ok (.aload_n 1, 1) := qdX7_isSound_90_24.2.2.2.2.2.2.2.2.2.2.2.2.2.2.2.2.2.2.1
theorem dX7_isSound_127 : decode cX7_isSound 127 = .ok (.aload_n 0, 1) := qdX7_isSound_90_24.2.2.2.2.2.2.2.2.2.2.2.2.2.2.2.2.2.2.2.1
theorem dX7_isSound_128 : decode cX7_isSound 128 = .ok (.getfield 16, 3) := qdX7_isSound_90_24.2.2.2.2.2.2.2.2.2.2.2.2.2.2.2.2.2.2.2.2.1
theorem dX7_isSound_131 : decode cX7_isSound 131 = .ok (.invokevirtual 252, 3) := qdX7_isSound_90_24.2.2.2.2.2.2.2.2.2.2.2.2.2.2.2.2.2.2.2.2.2.1
theorem dX7_isSound_134 : decode cX7_isSound 134 = .ok (.ifCond .eq 19, 3) := qdX7_isSound_90_24.2.2.2.2.2.2.2.2.2.2.2.2.2.2.2.2.2.2.2.2.2.2.1
theorem dX7_isSound_137 : decode cX7_isSound 137 = .ok (.aload_n 0, 1) := qdX7_isSound_90_24.2.2.2.2.2.2.2.2.2.2.2.2.2.2.2.2.2.2.2.2.2.2.2.1
theorem qdX7_isSound_138_9 : dcAll cX7_isSound [(138, .getfield 16, 3), (141, .aload_n 1, 1), (142, .invokevirtual 112, 3), (145, .iconst (-1), 1), (146, .if_icmp .ne 7, 3), (149, .iconst 1, 1), (150, .goto 4, 3), (153, .iconst 0, 1), (154, .ireturn, 1)] := dcAll_of (by decide +kernel)
theorem dX7_isSound_138 : decode cX7_isSound 138 = .ok (.getfield 16, 3) := qdX7_isSound_138_9.1
theorem dX7_isSound_141 : decode cX7_isSound 141 = .ok (.aload_n 1, 1) := qdX7_isSound_138_9.2.1
theorem dX7_isSound_142 : decode cX7_isSound 142 = .ok (.invokevirtual 112, 3) := qdX7_isSound_138_9.2.2.1
theorem dX7_isSound_145 : decode cX7_isSound 145 = .ok (.iconst (-1), 1) := qdX7_isSound_138_9.2.2.2.1
theorem dX7_isSound_146 : decode cX7_isSound 146 = .ok (.if_icmp .ne 7, 3) := qdX7_isSound_138_9.2.2.2.2.1
theorem dX7_isSound_149 : decode cX7_isSound 149 = .ok (.iconst 1, 1) := qdX7_isSound_138_9.2.2.2.2.2.1
theorem dX7_isSound_150 : decode cX7_isSound 150 = .ok (.goto 4, 3) := qdX7_isSound_138_9.2.2.2.2.2.2.1
theorem dX7_isSound_153 : decode cX7_isSound 153 = .ok (.iconst 0, 1) := qdX7_isSound_138_9.2.2.2.2.2.2.2.1
theorem dX7_isSound_154 : decode cX7_isSound 154 = .ok (.ireturn, 1) := qdX7_isSound_138_9.2.2.2.2.2.2.2.2.1
theorem ggX7_digest_X4_at : GoodIn wsX7_digest wsX4_at := fun w h => ⟨List.mem_cons_of_mem _ (List.mem_append_left _ (List.mem_append_right _ h)), zq_X4_at w h⟩
set_option maxRecDepth 20000 in
theorem gX7_digest_X4_at : GoodIn wsX7_digest (wsV RX7 104 RX4 yX4_at wsX4_at) := goodIn_app (goodIn_r _ [6, 7, 8, 9] rfl rfl) ggX7_digest_X4_at
theorem ggX7_digest_X7_isSound : GoodIn wsX7_digest wsX7_isSound := fun w h => ⟨List.mem_cons_of_mem _ (List.mem_append_right _ h), zq_X7_isSound w h⟩
set_option maxRecDepth 20000 in
theorem gX7_digest_X7_isSound : GoodIn wsX7_digest (wsV RX7 259 RX7 yX7_isSound wsX7_isSound) := goodIn_app (goodIn_r _ [10, 11, 12, 13] rfl rfl) ggX7_digest_X7_isSound
theorem qdX7_digest_0_24 : dcAll cX7_digest [(0, .ldc2_w 255, 3), (3, .lstore_n 1, 1), (4, .iconst 0, 1), (5, .istore_n 3, 1), (6, .iload_n 3, 1), (7, .iconst 4, 1), (8, .if_icmp .ge 43, 3), (11, .iconst 1, 1), (12, .istore 4, 2), (14, .iload 4, 2), (16, .bipush 120, 2), (18, .if_icmp .gt 27, 3), (21, .lload_n 1, 1), (22, .ldc2_w 257, 3), (25, .lmul, 1), (26, .aload_n 0, 1), (27, .getfield 11, 3), (30, .iload_n 3, 1), (31, .aaload, 1), (32, .iload 4, 2), (34, .invokevirtual 104, 3), (37, .ladd, 1), (38, .lstore_n 1, 1), (39, .iinc 4 1, 3)] := dcAll_of (by decide +kernel)
theorem dX7_digest_0 : decode cX7_digest 0 = .ok (.ldc2_w 255, 3) := qdX7_digest_0_24.1
theorem dX7_digest_3 : decode cX7_digest 3 = .ok (.lstore_n 1, 1) := qdX7_digest_0_24.2.1
theorem dX7_digest_4 : decode cX7_digest 4 = .ok (.iconst 0, 1) := qdX7_digest_0_24.2.2.1
theorem dX7_digest_5 : decode cX7_digest 5 = .ok (.istore_n 3, 1) := qdX7_digest_0_24.2.2.2.1
theorem dX7_digest_6 : decode cX7_digest 6 = .ok (.iload_n 3, 1) := qdX7_digest_0_24.2.2.2.2.1
theorem dX7_digest_7 : decode cX7_digest 7 = .ok (.iconst 4, 1) := qdX7_digest_0_24.2.2.2.2.2.1
theorem dX7_digest_8 : decode cX7_digest 8 = .ok (.if_icmp .ge 43, 3) := qdX7_digest_0_24.2.2.2.2.2.2.1
theorem dX7_digest_11 : decode cX7_digest 11 = .ok (.iconst 1, 1) := qdX7_digest_0_24.2.2.2.2.2.2.2.1
theorem dX7_digest_12 : decode cX7_digest 12 = .ok (.istore 4, 2) := qdX7_digest_0_24.2.2.2.2.2.2.2.2.1
theorem dX7_digest_14 : decode cX7_digest 14 = .ok (.iload 4, 2) := qdX7_digest_0_24.2.2.2.2.2.2.2.2.2.1
theorem dX7_digest_16 : decode cX7_digest 16 = .ok (.bipush 120, 2) := qdX7_digest_0_24.2.2.2.2.2.2.2.2.2.2.1
theorem dX7_digest_18 : decode cX7_digest 18 = .ok (.if_icmp .gt 27, 3) := qdX7_digest_0_24.2.2.2.2.2.2.2.2.2.2.2.1
theorem dX7_digest_21 : decode cX7_digest 21 = .ok (.lload_n 1, 1) := qdX7_digest_0_24.2.2.2.2.2.2.2.2.2.2.2.2.1
theorem dX7_digest_22 : decode cX7_digest 22 = .ok (.ldc2_w 257, 3) := qdX7_digest_0_24.2.2.2.2.2.2.2.2.2.2.2.2.2.1
theorem dX7_digest_25 : decode cX7_digest 25 = .ok (.lmul, 1) := qdX7_digest_0_24.2.2.2.2.2.2.2.2.2.2.2.2.2.2.1
theorem dX7_digest_26 : decode cX7_digest 26 = .ok (.aload_n 0, 1) := qdX7_digest_0_24.2.2.2.2.2.2.2.2.2.2.2.2.2.2.2.1
theorem dX7_digest_27 : decode cX7_digest 27 = .ok (.getfield 11, 3) := qdX7_digest_0_24.2.2.2.2.2.2.2.2.2.2.2.2.2.2.2.2.1
theorem dX7_digest_30 : decode cX7_digest 30 = .ok (.iload_n 3, 1) := qdX7_digest_0_24.2.2.2.2.2.2.2.2.2.2.2.2.2.2.2.2.2.1
theorem dX7_digest_31 : decode cX7_digest 31 = .ok (.aaload, 1) := qdX7_digest_0_24.2.2.2.2.2.2.2.2.2.2.2.2.2.2.2.2.2.2.1
theorem dX7_digest_32 : decode cX7_digest 32 = .ok (.iload 4, 2) := qdX7_digest_0_24.2.2.2.2.2.2.2.2.2.2.2.2.2.2.2.2.2.2.2.1
theorem dX7_digest_34 : decode cX7_digest 34 = .ok (.invokevirtual 104, 3) := qdX7_digest_0_24.2.2.2.2.2.2.2.2.2.2.2.2.2.2.2.2.2.2.2.2.1
theorem dX7_digest_37 : decode cX7_digest 37 = .ok (.ladd, 1) := qdX7_digest_0_24.2.2.2.2.2.2.2.2.2.2.2.2.2.2.2.2.2.2.2.2.2.1
theorem dX7_digest_38 : decode cX7_digest 38 = .ok (.lstore_n 1, 1) := qdX7_digest_0_24.2.2.2.2.2.2.2.2.2.2.2.2.2.2.2.2.2.2.2.2.2.2.1
theorem dX7_digest_39 : decode cX7_digest 39 = .ok (.iinc 4 1, 3) := qdX7_digest_0_24.2.2.2.2.2.2.2.2.2.2.2.2.2.2.2.2.2.2.2.2.2.2.2.1
theorem qdX7_digest_42_24 : dcAll cX7_digest [(42, .goto (-28), 3), (45, .iinc 3 1, 3), (48, .goto (-42), 3), (51, .lload_n 1, 1), (52, .ldc2_w 257, 3), (55, .lmul, 1), (56, .aload_n 0, 1), (57, .getfield 74, 3), (60, .i2l, 1), (61, .ladd, 1), (62, .lstore_n 1, 1), (63, .lload_n 1, 1), (64, .ldc2_w 257, 3), (67, .lmul, 1), (68, .aload_n 0, 1), (69, .getfield 240, 3), (72, .i2l, 1), (73, .ladd, 1), (74, .lstore_n 1, 1), (75, .lload_n 1, 1), (76, .ldc2_w 257, 3), (79, .lmul, 1), (80, .aload_n 0, 1), (81, .getfield 243, 3)] := dcAll_of (by decide +kernel)
theorem dX7_digest_42 : decode cX7_digest 42 = .ok (.goto (-28), 3) := qdX7_digest_42_24.1
theorem dX7_digest_45 : decode cX7_digest 45 = .ok (.iinc 3 1, 3) := qdX7_digest_42_24.2.1
theorem dX7_digest_48 : decode cX7_digest 48 = .ok (.goto (-42), 3) := qdX7_digest_42_24.2.2.1
theorem dX7_digest_51 : decode cX7_digest 51 = .ok (.lload_n 1, 1) := qdX7_digest_42_24.2.2.2.1
theorem dX7_digest_52 : decode cX7_digest 52 = .ok (.ldc2_w 257, 3) := qdX7_digest_42_24.2.2.2.2.1
theorem dX7_digest_55 : decode cX7_digest 55 = .ok (.lmul, 1) := qdX7_digest_42_24.2.2.2.2.2.1
theorem dX7_digest_56 : decode cX7_digest 56 = .ok (.aload_n 0, 1) := qdX7_digest_42_24.2.2.2.2.2.2.1
theorem dX7_digest_57 : decode cX7_digest 57 = .ok (.getfield 74, 3) := qdX7_digest_42_24.2.2.2.2.2.2.2.1
theorem dX7_digest_60 : decode cX7_digest 60 = .ok (.i2l, 1) := qdX7_digest_42_24.2.2.2.2.2.2.2.2.1
theorem dX7_digest_61 : decode cX7_digest 61 = .ok (.ladd, 1) := qdX7_digest_42_24.2.2.2.2.2.2.2.2.2.1
theorem dX7_digest_62 : decode cX7_digest 62 = .ok (.lstore_n 1, 1) := qdX7_digest_42_24.2.2.2.2.2.2.2.2.2.2.1
theorem dX7_digest_63 : decode cX7_digest 63 = .ok (.lload_n 1, 1) := qdX7_digest_42_24.2.2.2.2.2.2.2.2.2.2.2.1
theorem dX7_digest_64 : decode cX7_digest 64 = .ok (.ldc2_w 257, 3) := qdX7_digest_42_24.2.2.2.2.2.2.2.2.2.2.2.2.1
theorem dX7_digest_67 : decode cX7_digest 67 = .ok (.lmul, 1) := qdX7_digest_42_24.2.2.2.2.2.2.2.2.2.2.2.2.2.1
theorem dX7_digest_68 : decode cX7_digest 68 = .ok (.aload_n 0, 1) := qdX7_digest_42_24.2.2.2.2.2.2.2.2.2.2.2.2.2.2.1
theorem dX7_digest_69 : decode cX7_digest 69 = .ok (.getfield 240, 3) := qdX7_digest_42_24.2.2.2.2.2.2.2.2.2.2.2.2.2.2.2.1
theorem dX7_digest_72 : decode cX7_digest 72 = .ok (.i2l, 1) := qdX7_digest_42_24.2.2.2.2.2.2.2.2.2.2.2.2.2.2.2.2.1
theorem dX7_digest_73 : decode cX7_digest 73 = .ok (.ladd, 1) := qdX7_digest_42_24.2.2.2.2.2.2.2.2.2.2.2.2.2.2.2.2.2.1
theorem dX7_digest_74 : decode cX7_digest 74 = .ok (.lstore_n 1, 1) := qdX7_digest_42_24.2.2.2.2.2.2.2.2.2.2.2.2.2.2.2.2.2.2.1
theorem dX7_digest_75 : decode cX7_digest 75 = .ok (.lload_n 1, 1) := qdX7_digest_42_24.2.2.2.2.2.2.2.2.2.2.2.2.2.2.2.2.2.2.2.1
theorem dX7_digest_76 : decode cX7_digest 76 = .ok (.ldc2_w 257, 3) := qdX7_digest_42_24.2.2.2.2.2.2.2.2.2.2.2.2.2.2.2.2.2.2.2.2.1
theorem dX7_digest_79 : decode cX7_digest 79 = .ok (.lmul, 1) := qdX7_digest_42_24.2.2.2.2.2.2.2.2.2.2.2.2.2.2.2.2.2.2.2.2.2.1
theorem dX7_digest_80 : decode cX7_digest 80 = .ok (.aload_n 0, 1) := qdX7_digest_42_24.2.2.2.2.2.2.2.2.2.2.2.2.2.2.2.2.2.2.2.2.2.2.1
theorem dX7_digest_81 : decode cX7_digest 81 = .ok (.getfield 243, 3) := qdX7_digest_42_24.2.2.2.2.2.2.2.2.2.2.2.2.2.2.2.2.2.2.2.2.2.2.2.1
theorem qdX7_digest_84_15 : dcAll cX7_digest [(84, .i2l, 1), (85, .ladd, 1), (86, .lstore_n 1, 1), (87, .lload_n 1, 1), (88, .ldc2_w 257, 3), (91, .lmul, 1), (92, .aload_n 0, 1), (93, .invokevirtual 259, 3), (96, .ifCond .eq 7, 3), (99, .iconst 1, 1), (100, .goto 4, 3), (103, .iconst 0, 1), (104, .i2l, 1), (105, .ladd, 1), (106, .lreturn, 1)] := dcAll_of (by decide +kernel)
theorem dX7_digest_84 : decode cX7_digest 84 = .ok (.i2l, 1) := qdX7_digest_84_15.1
theorem dX7_digest_85 : decode cX7_digest 85 = .ok (.ladd, 1) := qdX7_digest_84_15.2.1
theorem dX7_digest_86 : decode cX7_digest 86 = .ok (.lstore_n 1, 1) := qdX7_digest_84_15.2.2.1
theorem dX7_digest_87 : decode cX7_digest 87 = .ok (.lload_n 1, 1) := qdX7_digest_84_15.2.2.2.1
theorem dX7_digest_88 : decode cX7_digest 88 = .ok (.ldc2_w 257, 3) := qdX7_digest_84_15.2.2.2.2.1
theorem dX7_digest_91 : decode cX7_digest 91 = .ok (.lmul, 1) := qdX7_digest_84_15.2.2.2.2.2.1
theorem dX7_digest_92 : decode cX7_digest 92 = .ok (.aload_n 0, 1) := qdX7_digest_84_15.2.2.2.2.2.2.1
theorem dX7_digest_93 : decode cX7_digest 93 = .ok (.invokevirtual 259, 3) := qdX7_digest_84_15.2.2.2.2.2.2.2.1
theorem dX7_digest_96 : decode cX7_digest 96 = .ok (.ifCond .eq 7, 3) := qdX7_digest_84_15.2.2.2.2.2.2.2.2.1
theorem dX7_digest_99 : decode cX7_digest 99 = .ok (.iconst 1, 1) := qdX7_digest_84_15.2.2.2.2.2.2.2.2.2.1
theorem dX7_digest_100 : decode cX7_digest 100 = .ok (.goto 4, 3) := qdX7_digest_84_15.2.2.2.2.2.2.2.2.2.2.1
theorem dX7_digest_103 : decode cX7_digest 103 = .ok (.iconst 0, 1) := qdX7_digest_84_15.2.2.2.2.2.2.2.2.2.2.2.1
theorem dX7_digest_104 : decode cX7_digest 104 = .ok (.i2l, 1) := qdX7_digest_84_15.2.2.2.2.2.2.2.2.2.2.2.2.1
theorem dX7_digest_105 : decode cX7_digest 105 = .ok (.ladd, 1) := qdX7_digest_84_15.2.2.2.2.2.2.2.2.2.2.2.2.2.1
theorem dX7_digest_106 : decode cX7_digest 106 = .ok (.lreturn, 1) := qdX7_digest_84_15.2.2.2.2.2.2.2.2.2.2.2.2.2.2.1
theorem qdX7_rowOf_0_15 : dcAll cX7_rowOf [(0, .iload_n 1, 1), (1, .ifCond .lt 8, 3), (4, .iload_n 1, 1), (5, .iconst 4, 1), (6, .if_icmp .lt 14, 3), (9, .new 262, 3), (12, .dup, 1), (13, .ldc_w 264, 3), (16, .invokespecial 266, 3), (19, .athrow, 1), (20, .aload_n 0, 1), (21, .getfield 11, 3), (24, .iload_n 1, 1), (25, .aaload, 1), (26, .areturn, 1)] := dcAll_of (by decide +kernel)
theorem dX7_rowOf_0 : decode cX7_rowOf 0 = .ok (.iload_n 1, 1) := qdX7_rowOf_0_15.1
theorem dX7_rowOf_1 : decode cX7_rowOf 1 = .ok (.ifCond .lt 8, 3) := qdX7_rowOf_0_15.2.1
theorem dX7_rowOf_4 : decode cX7_rowOf 4 = .ok (.iload_n 1, 1) := qdX7_rowOf_0_15.2.2.1
theorem dX7_rowOf_5 : decode cX7_rowOf 5 = .ok (.iconst 4, 1) := qdX7_rowOf_0_15.2.2.2.1
theorem dX7_rowOf_6 : decode cX7_rowOf 6 = .ok (.if_icmp .lt 14, 3) := qdX7_rowOf_0_15.2.2.2.2.1
theorem dX7_rowOf_9 : decode cX7_rowOf 9 = .ok (.new 262, 3) := qdX7_rowOf_0_15.2.2.2.2.2.1
theorem dX7_rowOf_12 : decode cX7_rowOf 12 = .ok (.dup, 1) := qdX7_rowOf_0_15.2.2.2.2.2.2.1
theorem dX7_rowOf_13 : decode cX7_rowOf 13 = .ok (.ldc_w 264, 3) := qdX7_rowOf_0_15.2.2.2.2.2.2.2.1
theorem dX7_rowOf_16 : decode cX7_rowOf 16 = .ok (.invokespecial 266, 3) := qdX7_rowOf_0_15.2.2.2.2.2.2.2.2.1
theorem dX7_rowOf_19 : decode cX7_rowOf 19 = .ok (.athrow, 1) := qdX7_rowOf_0_15.2.2.2.2.2.2.2.2.2.1
theorem dX7_rowOf_20 : decode cX7_rowOf 20 = .ok (.aload_n 0, 1) := qdX7_rowOf_0_15.2.2.2.2.2.2.2.2.2.2.1
theorem dX7_rowOf_21 : decode cX7_rowOf 21 = .ok (.getfield 11, 3) := qdX7_rowOf_0_15.2.2.2.2.2.2.2.2.2.2.2.1
theorem dX7_rowOf_24 : decode cX7_rowOf 24 = .ok (.iload_n 1, 1) := qdX7_rowOf_0_15.2.2.2.2.2.2.2.2.2.2.2.2.1
theorem dX7_rowOf_25 : decode cX7_rowOf 25 = .ok (.aaload, 1) := qdX7_rowOf_0_15.2.2.2.2.2.2.2.2.2.2.2.2.2.1
theorem dX7_rowOf_26 : decode cX7_rowOf 26 = .ok (.areturn, 1) := qdX7_rowOf_0_15.2.2.2.2.2.2.2.2.2.2.2.2.2.2.1
theorem qdX7_need_0_12 : dcAll cX7_need [(0, .iload_n 0, 1), (1, .iload_n 1, 1), (2, .if_icmp .lt 8, 3), (5, .iload_n 0, 1), (6, .iload_n 2, 1), (7, .if_icmp .le 14, 3), (10, .new 231, 3), (13, .dup, 1), (14, .ldc_w 267, 3), (17, .invokespecial 235, 3), (20, .athrow, 1), (21, .return_, 1)] := dcAll_of (by decide +kernel)
theorem dX7_need_0 : decode cX7_need 0 = .ok (.iload_n 0, 1) := qdX7_need_0_12.1
theorem dX7_need_1 : decode cX7_need 1 = .ok (.iload_n 1, 1) := qdX7_need_0_12.2.1
theorem dX7_need_2 : decode cX7_need 2 = .ok (.if_icmp .lt 8, 3) := qdX7_need_0_12.2.2.1
theorem dX7_need_5 : decode cX7_need 5 = .ok (.iload_n 0, 1) := qdX7_need_0_12.2.2.2.1
theorem dX7_need_6 : decode cX7_need 6 = .ok (.iload_n 2, 1) := qdX7_need_0_12.2.2.2.2.1
theorem dX7_need_7 : decode cX7_need 7 = .ok (.if_icmp .le 14, 3) := qdX7_need_0_12.2.2.2.2.2.1
theorem dX7_need_10 : decode cX7_need 10 = .ok (.new 231, 3) := qdX7_need_0_12.2.2.2.2.2.2.1
theorem dX7_need_13 : decode cX7_need 13 = .ok (.dup, 1) := qdX7_need_0_12.2.2.2.2.2.2.2.1
theorem dX7_need_14 : decode cX7_need 14 = .ok (.ldc_w 267, 3) := qdX7_need_0_12.2.2.2.2.2.2.2.2.1
theorem dX7_need_17 : decode cX7_need 17 = .ok (.invokespecial 235, 3) := qdX7_need_0_12.2.2.2.2.2.2.2.2.2.1
theorem dX7_need_20 : decode cX7_need 20 = .ok (.athrow, 1) := qdX7_need_0_12.2.2.2.2.2.2.2.2.2.2.1
theorem dX7_need_21 : decode cX7_need 21 = .ok (.return_, 1) := qdX7_need_0_12.2.2.2.2.2.2.2.2.2.2.2.1
theorem ggX7_needSizes_X4_isWithin : GoodIn wsX7_needSizes wsX4_isWithin := fun w h => ⟨List.mem_cons_of_mem _ (List.mem_append_right _ h), zq_X4_isWithin w h⟩
set_option maxRecDepth 20000 in
theorem gX7_needSizes_X4_isWithin : GoodIn wsX7_needSizes (wsV RX7 269 RX4 yX4_isWithin wsX4_isWithin) := goodIn_app (goodIn_r _ [3, 4, 5, 6] rfl rfl) ggX7_needSizes_X4_isWithin
theorem qdX7_needSizes_0_12 : dcAll cX7_needSizes [(0, .aload_n 0, 1), (1, .iload_n 1, 1), (2, .iload_n 2, 1), (3, .i2l, 1), (4, .invokevirtual 269, 3), (7, .ifCond .ne 14, 3), (10, .new 138, 3), (13, .dup, 1), (14, .ldc_w 273, 3), (17, .invokespecial 142, 3), (20, .athrow, 1), (21, .return_, 1)] := dcAll_of (by decide +kernel)
theorem dX7_needSizes_0 : decode cX7_needSizes 0 = .ok (.aload_n 0, 1) := qdX7_needSizes_0_12.1
theorem dX7_needSizes_1 : decode cX7_needSizes 1 = .ok (.iload_n 1, 1) := qdX7_needSizes_0_12.2.1
theorem dX7_needSizes_2 : decode cX7_needSizes 2 = .ok (.iload_n 2, 1) := qdX7_needSizes_0_12.2.2.1
theorem dX7_needSizes_3 : decode cX7_needSizes 3 = .ok (.i2l, 1) := qdX7_needSizes_0_12.2.2.2.1
theorem dX7_needSizes_4 : decode cX7_needSizes 4 = .ok (.invokevirtual 269, 3) := qdX7_needSizes_0_12.2.2.2.2.1
theorem dX7_needSizes_7 : decode cX7_needSizes 7 = .ok (.ifCond .ne 14, 3) := qdX7_needSizes_0_12.2.2.2.2.2.1
theorem dX7_needSizes_10 : decode cX7_needSizes 10 = .ok (.new 138, 3) := qdX7_needSizes_0_12.2.2.2.2.2.2.1
theorem dX7_needSizes_13 : decode cX7_needSizes 13 = .ok (.dup, 1) := qdX7_needSizes_0_12.2.2.2.2.2.2.2.1
theorem dX7_needSizes_14 : decode cX7_needSizes 14 = .ok (.ldc_w 273, 3) := qdX7_needSizes_0_12.2.2.2.2.2.2.2.2.1
theorem dX7_needSizes_17 : decode cX7_needSizes 17 = .ok (.invokespecial 142, 3) := qdX7_needSizes_0_12.2.2.2.2.2.2.2.2.2.1
theorem dX7_needSizes_20 : decode cX7_needSizes 20 = .ok (.athrow, 1) := qdX7_needSizes_0_12.2.2.2.2.2.2.2.2.2.2.1
theorem dX7_needSizes_21 : decode cX7_needSizes 21 = .ok (.return_, 1) := qdX7_needSizes_0_12.2.2.2.2.2.2.2.2.2.2.2.1
theorem ggX7_putLong_X4_at : GoodIn wsX7_putLong wsX4_at := fun w h => ⟨List.mem_cons_of_mem _ (List.mem_append_left _ (List.mem_append_right _ h)), zq_X4_at w h⟩
set_option maxRecDepth 20000 in
theorem gX7_putLong_X4_at : GoodIn wsX7_putLong (wsV RX7 104 RX4 yX4_at wsX4_at) := goodIn_app (goodIn_r _ [2, 3, 4, 5] rfl rfl) ggX7_putLong_X4_at
theorem ggX7_putLong_X4_lay : GoodIn wsX7_putLong wsX4_lay := fun w h => ⟨List.mem_cons_of_mem _ (List.mem_append_right _ h), zq_X4_lay w h⟩
set_option maxRecDepth 20000 in
theorem gX7_putLong_X4_lay : GoodIn wsX7_putLong (wsV RX7 58 RX4 yX4_lay wsX4_lay) := goodIn_app (goodIn_r _ [6, 7, 8, 5] rfl rfl) ggX7_putLong_X4_lay
theorem qdX7_putLong_0_22 : dcAll cX7_putLong [(0, .aload_n 1, 1), (1, .iload_n 2, 1), (2, .invokevirtual 104, 3), (5, .lload_n 3, 1), (6, .lcmp, 1), (7, .ifCond .ne 7, 3), (10, .iconst 0, 1), (11, .goto 4, 3), (14, .iconst 1, 1), (15, .istore 5, 2), (17, .aload_n 1, 1), (18, .iload_n 2, 1), (19, .lload_n 3, 1), (20, .invokevirtual 58, 3), (23, .aload_n 0, 1), (24, .dup, 1), (25, .getfield 74, 3), (28, .iconst 1, 1), (29, .iadd, 1), (30, .putfield 74, 3), (33, .iload 5, 2), (35, .ireturn, 1)] := dcAll_of (by decide +kernel)
theorem dX7_putLong_0 : decode cX7_putLong 0 = .ok (.aload_n 1, 1) := qdX7_putLong_0_22.1
theorem dX7_putLong_1 : decode cX7_putLong 1 = .ok (.iload_n 2, 1) := qdX7_putLong_0_22.2.1
theorem dX7_putLong_2 : decode cX7_putLong 2 = .ok (.invokevirtual 104, 3) := qdX7_putLong_0_22.2.2.1
theorem dX7_putLong_5 : decode cX7_putLong 5 = .ok (.lload_n 3, 1) := qdX7_putLong_0_22.2.2.2.1
theorem dX7_putLong_6 : decode cX7_putLong 6 = .ok (.lcmp, 1) := qdX7_putLong_0_22.2.2.2.2.1
theorem dX7_putLong_7 : decode cX7_putLong 7 = .ok (.ifCond .ne 7, 3) := qdX7_putLong_0_22.2.2.2.2.2.1
theorem dX7_putLong_10 : decode cX7_putLong 10 = .ok (.iconst 0, 1) := qdX7_putLong_0_22.2.2.2.2.2.2.1
theorem dX7_putLong_11 : decode cX7_putLong 11 = .ok (.goto 4, 3) := qdX7_putLong_0_22.2.2.2.2.2.2.2.1
theorem dX7_putLong_14 : decode cX7_putLong 14 = .ok (.iconst 1, 1) := qdX7_putLong_0_22.2.2.2.2.2.2.2.2.1
theorem dX7_putLong_15 : decode cX7_putLong 15 = .ok (.istore 5, 2) := qdX7_putLong_0_22.2.2.2.2.2.2.2.2.2.1
theorem dX7_putLong_17 : decode cX7_putLong 17 = .ok (.aload_n 1, 1) := qdX7_putLong_0_22.2.2.2.2.2.2.2.2.2.2.1
theorem dX7_putLong_18 : decode cX7_putLong 18 = .ok (.iload_n 2, 1) := qdX7_putLong_0_22.2.2.2.2.2.2.2.2.2.2.2.1
theorem dX7_putLong_19 : decode cX7_putLong 19 = .ok (.lload_n 3, 1) := qdX7_putLong_0_22.2.2.2.2.2.2.2.2.2.2.2.2.1
theorem dX7_putLong_20 : decode cX7_putLong 20 = .ok (.invokevirtual 58, 3) := qdX7_putLong_0_22.2.2.2.2.2.2.2.2.2.2.2.2.2.1
theorem dX7_putLong_23 : decode cX7_putLong 23 = .ok (.aload_n 0, 1) := qdX7_putLong_0_22.2.2.2.2.2.2.2.2.2.2.2.2.2.2.1
theorem dX7_putLong_24 : decode cX7_putLong 24 = .ok (.dup, 1) := qdX7_putLong_0_22.2.2.2.2.2.2.2.2.2.2.2.2.2.2.2.1
theorem dX7_putLong_25 : decode cX7_putLong 25 = .ok (.getfield 74, 3) := qdX7_putLong_0_22.2.2.2.2.2.2.2.2.2.2.2.2.2.2.2.2.1
theorem dX7_putLong_28 : decode cX7_putLong 28 = .ok (.iconst 1, 1) := qdX7_putLong_0_22.2.2.2.2.2.2.2.2.2.2.2.2.2.2.2.2.2.1
theorem dX7_putLong_29 : decode cX7_putLong 29 = .ok (.iadd, 1) := qdX7_putLong_0_22.2.2.2.2.2.2.2.2.2.2.2.2.2.2.2.2.2.2.1
theorem dX7_putLong_30 : decode cX7_putLong 30 = .ok (.putfield 74, 3) := qdX7_putLong_0_22.2.2.2.2.2.2.2.2.2.2.2.2.2.2.2.2.2.2.2.1
theorem dX7_putLong_33 : decode cX7_putLong 33 = .ok (.iload 5, 2) := qdX7_putLong_0_22.2.2.2.2.2.2.2.2.2.2.2.2.2.2.2.2.2.2.2.2.1
theorem dX7_putLong_35 : decode cX7_putLong 35 = .ok (.ireturn, 1) := qdX7_putLong_0_22.2.2.2.2.2.2.2.2.2.2.2.2.2.2.2.2.2.2.2.2.2.1
theorem ggX7_become_X4_takeFrom : GoodIn wsX7_become wsX4_takeFrom := fun w h => ⟨List.mem_cons_of_mem _ (List.mem_append_right _ h), zq_X4_takeFrom w h⟩
set_option maxRecDepth 20000 in
theorem gX7_become_X4_takeFrom : GoodIn wsX7_become (wsV RX7 78 RX4 yX4_takeFrom wsX4_takeFrom) := goodIn_app (goodIn_r _ [3, 4, 5, 6] rfl rfl) ggX7_become_X4_takeFrom
theorem qdX7_become_0_11 : dcAll cX7_become [(0, .aload_n 0, 1), (1, .dup, 1), (2, .getfield 74, 3), (5, .iconst 1, 1), (6, .iadd, 1), (7, .putfield 74, 3), (10, .aload_n 1, 1), (11, .aload_n 0, 1), (12, .getfield 16, 3), (15, .invokevirtual 78, 3), (18, .ireturn, 1)] := dcAll_of (by decide +kernel)
theorem dX7_become_0 : decode cX7_become 0 = .ok (.aload_n 0, 1) := qdX7_become_0_11.1
theorem dX7_become_1 : decode cX7_become 1 = .ok (.dup, 1) := qdX7_become_0_11.2.1
theorem dX7_become_2 : decode cX7_become 2 = .ok (.getfield 74, 3) := qdX7_become_0_11.2.2.1
theorem dX7_become_5 : decode cX7_become 5 = .ok (.iconst 1, 1) := qdX7_become_0_11.2.2.2.1
theorem dX7_become_6 : decode cX7_become 6 = .ok (.iadd, 1) := qdX7_become_0_11.2.2.2.2.1
theorem dX7_become_7 : decode cX7_become 7 = .ok (.putfield 74, 3) := qdX7_become_0_11.2.2.2.2.2.1
theorem dX7_become_10 : decode cX7_become 10 = .ok (.aload_n 1, 1) := qdX7_become_0_11.2.2.2.2.2.2.1
theorem dX7_become_11 : decode cX7_become 11 = .ok (.aload_n 0, 1) := qdX7_become_0_11.2.2.2.2.2.2.2.1
theorem dX7_become_12 : decode cX7_become 12 = .ok (.getfield 16, 3) := qdX7_become_0_11.2.2.2.2.2.2.2.2.1
theorem dX7_become_15 : decode cX7_become 15 = .ok (.invokevirtual 78, 3) := qdX7_become_0_11.2.2.2.2.2.2.2.2.2.1
theorem dX7_become_18 : decode cX7_become 18 = .ok (.ireturn, 1) := qdX7_become_0_11.2.2.2.2.2.2.2.2.2.2.1
theorem qdX7_refuse_0_8 : dcAll cX7_refuse [(0, .aload_n 0, 1), (1, .dup, 1), (2, .getfield 240, 3), (5, .iconst 1, 1), (6, .iadd, 1), (7, .putfield 240, 3), (10, .bipush (-9), 2), (12, .ireturn, 1)] := dcAll_of (by decide +kernel)
theorem dX7_refuse_0 : decode cX7_refuse 0 = .ok (.aload_n 0, 1) := qdX7_refuse_0_8.1
theorem dX7_refuse_1 : decode cX7_refuse 1 = .ok (.dup, 1) := qdX7_refuse_0_8.2.1
theorem dX7_refuse_2 : decode cX7_refuse 2 = .ok (.getfield 240, 3) := qdX7_refuse_0_8.2.2.1
theorem dX7_refuse_5 : decode cX7_refuse 5 = .ok (.iconst 1, 1) := qdX7_refuse_0_8.2.2.2.1
theorem dX7_refuse_6 : decode cX7_refuse 6 = .ok (.iadd, 1) := qdX7_refuse_0_8.2.2.2.2.1
theorem dX7_refuse_7 : decode cX7_refuse 7 = .ok (.putfield 240, 3) := qdX7_refuse_0_8.2.2.2.2.2.1
theorem dX7_refuse_10 : decode cX7_refuse 10 = .ok (.bipush (-9), 2) := qdX7_refuse_0_8.2.2.2.2.2.2.1
theorem dX7_refuse_12 : decode cX7_refuse 12 = .ok (.ireturn, 1) := qdX7_refuse_0_8.2.2.2.2.2.2.2.1
theorem ggX7_textOf_J4_init_da8c8 : GoodIn wsX7_textOf wsJ4_init_da8c8 := fun w h => ⟨List.mem_cons_of_mem _ (List.mem_append_left _ (List.mem_append_left _ (List.mem_append_left _ (List.mem_append_right _ h)))), zq_J4_init_da8c8 w h⟩
set_option maxRecDepth 20000 in
theorem gX7_textOf_J4_init_da8c8 : GoodIn wsX7_textOf (wsJ4_init_da8c8) := ggX7_textOf_J4_init_da8c8
theorem ggX7_textOf_J4_append_cf468 : GoodIn wsX7_textOf wsJ4_append_cf468 := fun w h => ⟨List.mem_cons_of_mem _ (List.mem_append_left _ (List.mem_append_left _ (List.mem_append_right _ h))), zq_J4_append_cf468 w h⟩
set_option maxRecDepth 20000 in
theorem gX7_textOf_J4_append_cf468 : GoodIn wsX7_textOf (wsV RX7 280 RJ4 yJ4_append_cf468 wsJ4_append_cf468) := goodIn_app (goodIn_r _ [8, 9, 10, 2] rfl rfl) ggX7_textOf_J4_append_cf468
theorem ggX7_textOf_J4_reverse_43fcb : GoodIn wsX7_textOf wsJ4_reverse_43fcb := fun w h => ⟨List.mem_cons_of_mem _ (List.mem_append_left _ (List.mem_append_right _ h)), zq_J4_reverse_43fcb w h⟩
set_option maxRecDepth 20000 in
theorem gX7_textOf_J4_reverse_43fcb : GoodIn wsX7_textOf (wsV RX7 284 RJ4 yJ4_reverse_43fcb wsJ4_reverse_43fcb) := goodIn_app (goodIn_r _ [25, 26, 27, 2] rfl rfl) ggX7_textOf_J4_reverse_43fcb
theorem ggX7_textOf_J4_toString_0e30d : GoodIn wsX7_textOf wsJ4_toString_0e30d := fun w h => ⟨List.mem_cons_of_mem _ (List.mem_append_right _ h), zq_J4_toString_0e30d w h⟩
set_option maxRecDepth 20000 in
theorem gX7_textOf_J4_toString_0e30d : GoodIn wsX7_textOf (wsV RX7 288 RJ4 yJ4_toString_0e30d wsJ4_toString_0e30d) := goodIn_app (goodIn_r _ [30, 31, 32, 2] rfl rfl) ggX7_textOf_J4_toString_0e30d
theorem qdX7_textOf_0_24 : dcAll cX7_textOf [(0, .new 275, 3), (3, .dup, 1), (4, .invokespecial 277, 3), (7, .astore_n 2, 1), (8, .lload_n 0, 1), (9, .lstore_n 3, 1), (10, .iconst 0, 1), (11, .istore 5, 2), (13, .iload 5, 2), (15, .bipush 19, 2), (17, .if_icmp .ge 56, 3), (20, .iload 5, 2), (22, .ifCond .eq 9, 3), (25, .lload_n 3, 1), (26, .lconst 0, 1), (27, .lcmp, 1), (28, .ifCond .eq 45, 3), (31, .lload_n 3, 1), (32, .ldc2_w 278, 3), (35, .lrem, 1), (36, .l2i, 1), (37, .istore 6, 2), (39, .aload_n 2, 1), (40, .bipush 48, 2)] := dcAll_of (by decide +kernel)
theorem dX7_textOf_0 : decode cX7_textOf 0 = .ok (.new 275, 3) := qdX7_textOf_0_24.1
theorem dX7_textOf_3 : decode cX7_textOf 3 = .ok (.dup, 1) := qdX7_textOf_0_24.2.1
theorem dX7_textOf_4 : decode cX7_textOf 4 = .ok (.invokespecial 277, 3) := qdX7_textOf_0_24.2.2.1
theorem dX7_textOf_7 : decode cX7_textOf 7 = .ok (.astore_n 2, 1) := qdX7_textOf_0_24.2.2.2.1
theorem dX7_textOf_8 : decode cX7_textOf 8 = .ok (.lload_n 0, 1) := qdX7_textOf_0_24.2.2.2.2.1
theorem dX7_textOf_9 : decode cX7_textOf 9 = .ok (.lstore_n 3, 1) := qdX7_textOf_0_24.2.2.2.2.2.1
theorem dX7_textOf_10 : decode cX7_textOf 10 = .ok (.iconst 0, 1) := qdX7_textOf_0_24.2.2.2.2.2.2.1
theorem dX7_textOf_11 : decode cX7_textOf 11 = .ok (.istore 5, 2) := qdX7_textOf_0_24.2.2.2.2.2.2.2.1
theorem dX7_textOf_13 : decode cX7_textOf 13 = .ok (.iload 5, 2) := qdX7_textOf_0_24.2.2.2.2.2.2.2.2.1
theorem dX7_textOf_15 : decode cX7_textOf 15 = .ok (.bipush 19, 2) := qdX7_textOf_0_24.2.2.2.2.2.2.2.2.2.1
theorem dX7_textOf_17 : decode cX7_textOf 17 = .ok (.if_icmp .ge 56, 3) := qdX7_textOf_0_24.2.2.2.2.2.2.2.2.2.2.1
theorem dX7_textOf_20 : decode cX7_textOf 20 = .ok (.iload 5, 2) := qdX7_textOf_0_24.2.2.2.2.2.2.2.2.2.2.2.1
theorem dX7_textOf_22 : decode cX7_textOf 22 = .ok (.ifCond .eq 9, 3) := qdX7_textOf_0_24.2.2.2.2.2.2.2.2.2.2.2.2.1
theorem dX7_textOf_25 : decode cX7_textOf 25 = .ok (.lload_n 3, 1) := qdX7_textOf_0_24.2.2.2.2.2.2.2.2.2.2.2.2.2.1
theorem dX7_textOf_26 : decode cX7_textOf 26 = .ok (.lconst 0, 1) := qdX7_textOf_0_24.2.2.2.2.2.2.2.2.2.2.2.2.2.2.1
theorem dX7_textOf_27 : decode cX7_textOf 27 = .ok (.lcmp, 1) := qdX7_textOf_0_24.2.2.2.2.2.2.2.2.2.2.2.2.2.2.2.1
theorem dX7_textOf_28 : decode cX7_textOf 28 = .ok (.ifCond .eq 45, 3) := qdX7_textOf_0_24.2.2.2.2.2.2.2.2.2.2.2.2.2.2.2.2.1
theorem dX7_textOf_31 : decode cX7_textOf 31 = .ok (.lload_n 3, 1) := qdX7_textOf_0_24.2.2.2.2.2.2.2.2.2.2.2.2.2.2.2.2.2.1
theorem dX7_textOf_32 : decode cX7_textOf 32 = .ok (.ldc2_w 278, 3) := qdX7_textOf_0_24.2.2.2.2.2.2.2.2.2.2.2.2.2.2.2.2.2.2.1
theorem dX7_textOf_35 : decode cX7_textOf 35 = .ok (.lrem, 1) := qdX7_textOf_0_24.2.2.2.2.2.2.2.2.2.2.2.2.2.2.2.2.2.2.2.1
theorem dX7_textOf_36 : decode cX7_textOf 36 = .ok (.l2i, 1) := qdX7_textOf_0_24.2.2.2.2.2.2.2.2.2.2.2.2.2.2.2.2.2.2.2.2.1
theorem dX7_textOf_37 : decode cX7_textOf 37 = .ok (.istore 6, 2) := qdX7_textOf_0_24.2.2.2.2.2.2.2.2.2.2.2.2.2.2.2.2.2.2.2.2.2.1
theorem dX7_textOf_39 : decode cX7_textOf 39 = .ok (.aload_n 2, 1) := qdX7_textOf_0_24.2.2.2.2.2.2.2.2.2.2.2.2.2.2.2.2.2.2.2.2.2.2.1
theorem dX7_textOf_40 : decode cX7_textOf 40 = .ok (.bipush 48, 2) := qdX7_textOf_0_24.2.2.2.2.2.2.2.2.2.2.2.2.2.2.2.2.2.2.2.2.2.2.2.1
theorem qdX7_textOf_42_24 : dcAll cX7_textOf [(42, .iload 6, 2), (44, .ifCond .ge 9, 3), (47, .iload 6, 2), (49, .ineg, 1), (50, .goto 5, 3), (53, .iload 6, 2), (55, .iadd, 1), (56, .i2c, 1), (57, .invokevirtual 280, 3), (60, .pop, 1), (61, .lload_n 3, 1), (62, .ldc2_w 278, 3), (65, .ldiv, 1), (66, .lstore_n 3, 1), (67, .iinc 5 1, 3), (70, .goto (-57), 3), (73, .lload_n 0, 1), (74, .lconst 0, 1), (75, .lcmp, 1), (76, .ifCond .ge 10, 3), (79, .aload_n 2, 1), (80, .bipush 45, 2), (82, .invokevirtual 280, 3), (85, .pop, 1)] := dcAll_of (by decide +kernel)
theorem dX7_textOf_42 : decode cX7_textOf 42 = .ok (.iload 6, 2) := qdX7_textOf_42_24.1
theorem dX7_textOf_44 : decode cX7_textOf 44 = .ok (.ifCond .ge 9, 3) := qdX7_textOf_42_24.2.1
theorem dX7_textOf_47 : decode cX7_textOf 47 = .ok (.iload 6, 2) := qdX7_textOf_42_24.2.2.1
theorem dX7_textOf_49 : decode cX7_textOf 49 = .ok (.ineg, 1) := qdX7_textOf_42_24.2.2.2.1
theorem dX7_textOf_50 : decode cX7_textOf 50 = .ok (.goto 5, 3) := qdX7_textOf_42_24.2.2.2.2.1
theorem dX7_textOf_53 : decode cX7_textOf 53 = .ok (.iload 6, 2) := qdX7_textOf_42_24.2.2.2.2.2.1
theorem dX7_textOf_55 : decode cX7_textOf 55 = .ok (.iadd, 1) := qdX7_textOf_42_24.2.2.2.2.2.2.1
theorem dX7_textOf_56 : decode cX7_textOf 56 = .ok (.i2c, 1) := qdX7_textOf_42_24.2.2.2.2.2.2.2.1
theorem dX7_textOf_57 : decode cX7_textOf 57 = .ok (.invokevirtual 280, 3) := qdX7_textOf_42_24.2.2.2.2.2.2.2.2.1
theorem dX7_textOf_60 : decode cX7_textOf 60 = .ok (.pop, 1) := qdX7_textOf_42_24.2.2.2.2.2.2.2.2.2.1
theorem dX7_textOf_61 : decode cX7_textOf 61 = .ok (.lload_n 3, 1) := qdX7_textOf_42_24.2.2.2.2.2.2.2.2.2.2.1
theorem dX7_textOf_62 : decode cX7_textOf 62 = .ok (.ldc2_w 278, 3) := qdX7_textOf_42_24.2.2.2.2.2.2.2.2.2.2.2.1
theorem dX7_textOf_65 : decode cX7_textOf 65 = .ok (.ldiv, 1) := qdX7_textOf_42_24.2.2.2.2.2.2.2.2.2.2.2.2.1
theorem dX7_textOf_66 : decode cX7_textOf 66 = .ok (.lstore_n 3, 1) := qdX7_textOf_42_24.2.2.2.2.2.2.2.2.2.2.2.2.2.1
theorem dX7_textOf_67 : decode cX7_textOf 67 = .ok (.iinc 5 1, 3) := qdX7_textOf_42_24.2.2.2.2.2.2.2.2.2.2.2.2.2.2.1
theorem dX7_textOf_70 : decode cX7_textOf 70 = .ok (.goto (-57), 3) := qdX7_textOf_42_24.2.2.2.2.2.2.2.2.2.2.2.2.2.2.2.1
theorem dX7_textOf_73 : decode cX7_textOf 73 = .ok (.lload_n 0, 1) := qdX7_textOf_42_24.2.2.2.2.2.2.2.2.2.2.2.2.2.2.2.2.1
theorem dX7_textOf_74 : decode cX7_textOf 74 = .ok (.lconst 0, 1) := qdX7_textOf_42_24.2.2.2.2.2.2.2.2.2.2.2.2.2.2.2.2.2.1
theorem dX7_textOf_75 : decode cX7_textOf 75 = .ok (.lcmp, 1) := qdX7_textOf_42_24.2.2.2.2.2.2.2.2.2.2.2.2.2.2.2.2.2.2.1
theorem dX7_textOf_76 : decode cX7_textOf 76 = .ok (.ifCond .ge 10, 3) := qdX7_textOf_42_24.2.2.2.2.2.2.2.2.2.2.2.2.2.2.2.2.2.2.2.1
theorem dX7_textOf_79 : decode cX7_textOf 79 = .ok (.aload_n 2, 1) := qdX7_textOf_42_24.2.2.2.2.2.2.2.2.2.2.2.2.2.2.2.2.2.2.2.2.1
theorem dX7_textOf_80 : decode cX7_textOf 80 = .ok (.bipush 45, 2) := qdX7_textOf_42_24.2.2.2.2.2.2.2.2.2.2.2.2.2.2.2.2.2.2.2.2.2.1
theorem dX7_textOf_82 : decode cX7_textOf 82 = .ok (.invokevirtual 280, 3) := qdX7_textOf_42_24.2.2.2.2.2.2.2.2.2.2.2.2.2.2.2.2.2.2.2.2.2.2.1
theorem dX7_textOf_85 : decode cX7_textOf 85 = .ok (.pop, 1) := qdX7_textOf_42_24.2.2.2.2.2.2.2.2.2.2.2.2.2.2.2.2.2.2.2.2.2.2.2.1
theorem qdX7_textOf_86_4 : dcAll cX7_textOf [(86, .aload_n 2, 1), (87, .invokevirtual 284, 3), (90, .invokevirtual 288, 3), (93, .areturn, 1)] := dcAll_of (by decide +kernel)
theorem dX7_textOf_86 : decode cX7_textOf 86 = .ok (.aload_n 2, 1) := qdX7_textOf_86_4.1
theorem dX7_textOf_87 : decode cX7_textOf 87 = .ok (.invokevirtual 284, 3) := qdX7_textOf_86_4.2.1
theorem dX7_textOf_90 : decode cX7_textOf 90 = .ok (.invokevirtual 288, 3) := qdX7_textOf_86_4.2.2.1
theorem dX7_textOf_93 : decode cX7_textOf 93 = .ok (.areturn, 1) := qdX7_textOf_86_4.2.2.2.1
theorem qdX8_init_0_3 : dcAll cX8_init [(0, .aload_n 0, 1), (1, .invokespecial 1, 3), (4, .return_, 1)] := dcAll_of (by decide +kernel)
theorem dX8_init_0 : decode cX8_init 0 = .ok (.aload_n 0, 1) := qdX8_init_0_3.1
theorem dX8_init_1 : decode cX8_init 1 = .ok (.invokespecial 1, 3) := qdX8_init_0_3.2.1
theorem dX8_init_4 : decode cX8_init 4 = .ok (.return_, 1) := qdX8_init_0_3.2.2.1
