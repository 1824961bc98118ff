theorem ggL_know_X7_know : GoodIn wsL_know wsX7_know := fun w h => ⟨List.mem_cons_of_mem _ (List.mem_append_right _ h), zq_X7_know w h⟩
set_option maxRecDepth 20000 in
theorem gL_know_X7_know : GoodIn wsL_know (wsV RL 7 RX7 yX7_know wsX7_know) := goodIn_app (goodIn_r _ [3, 4, 5, 6] rfl rfl) ggL_know_X7_know
theorem qdL_know_0_16 : dcAll cL_know [(0, .aload_n 3, 1), (1, .aload_n 0, 1), (2, .iload_n 1, 1), (3, .iload_n 2, 1), (4, .invokevirtual 7, 3), (7, .i2l, 1), (8, .putfield 13, 3), (11, .goto 11, 3), (14, .astore 4, 2), (16, .iconst 1, 1), (17, .ireturn, 1), (18, .astore 4, 2), (20, .iconst 2, 1), (21, .ireturn, 1), (22, .iconst 0, 1), (23, .ireturn, 1)] := dcAll_of (by decide +kernel)
theorem dL_know_0 : decode cL_know 0 = .ok (.aload_n 3, 1) := qdL_know_0_16.1
theorem dL_know_1 : decode cL_know 1 = .ok (.aload_n 0, 1) := qdL_know_0_16.2.1
theorem dL_know_2 : decode cL_know 2 = .ok (.iload_n 1, 1) := qdL_know_0_16.2.2.1
theorem dL_know_3 : decode cL_know 3 = .ok (.iload_n 2, 1) := qdL_know_0_16.2.2.2.1
theorem dL_know_4 : decode cL_know 4 = .ok (.invokevirtual 7, 3) := qdL_know_0_16.2.2.2.2.1
theorem dL_know_7 : decode cL_know 7 = .ok (.i2l, 1) := qdL_know_0_16.2.2.2.2.2.1
theorem dL_know_8 : decode cL_know 8 = .ok (.putfield 13, 3) := qdL_know_0_16.2.2.2.2.2.2.1
theorem dL_know_11 : decode cL_know 11 = .ok (.goto 11, 3) := qdL_know_0_16.2.2.2.2.2.2.2.1
theorem dL_know_14 : decode cL_know 14 = .ok (.astore 4, 2) := qdL_know_0_16.2.2.2.2.2.2.2.2.1
theorem dL_know_16 : decode cL_know 16 = .ok (.iconst 1, 1) := qdL_know_0_16.2.2.2.2.2.2.2.2.2.1
theorem dL_know_17 : decode cL_know 17 = .ok (.ireturn, 1) := qdL_know_0_16.2.2.2.2.2.2.2.2.2.2.1
theorem dL_know_18 : decode cL_know 18 = .ok (.astore 4, 2) := qdL_know_0_16.2.2.2.2.2.2.2.2.2.2.2.1
theorem dL_know_20 : decode cL_know 20 = .ok (.iconst 2, 1) := qdL_know_0_16.2.2.2.2.2.2.2.2.2.2.2.2.1
theorem dL_know_21 : decode cL_know 21 = .ok (.ireturn, 1) := qdL_know_0_16.2.2.2.2.2.2.2.2.2.2.2.2.2.1
theorem dL_know_22 : decode cL_know 22 = .ok (.iconst 0, 1) := qdL_know_0_16.2.2.2.2.2.2.2.2.2.2.2.2.2.2.1
theorem dL_know_23 : decode cL_know 23 = .ok (.ireturn, 1) := qdL_know_0_16.2.2.2.2.2.2.2.2.2.2.2.2.2.2.2.1
theorem ggL_put_X7_put : GoodIn wsL_put wsX7_put := fun w h => ⟨List.mem_cons_of_mem _ (List.mem_append_right _ h), zq_X7_put w h⟩
set_option maxRecDepth 20000 in
theorem gL_put_X7_put : GoodIn wsL_put (wsV RL 23 RX7 yX7_put wsX7_put) := goodIn_app (goodIn_r _ [3, 4, 5, 6] rfl rfl) ggL_put_X7_put
theorem qdL_put_0_17 : dcAll cL_put [(0, .aload 4, 2), (2, .aload_n 0, 1), (3, .iload_n 1, 1), (4, .iload_n 2, 1), (5, .iload_n 3, 1), (6, .invokevirtual 23, 3), (9, .i2l, 1), (10, .putfield 13, 3), (13, .goto 11, 3), (16, .astore 5, 2), (18, .iconst 1, 1), (19, .ireturn, 1), (20, .astore 5, 2), (22, .iconst 2, 1), (23, .ireturn, 1), (24, .iconst 0, 1), (25, .ireturn, 1)] := dcAll_of (by decide +kernel)
theorem dL_put_0 : decode cL_put 0 = .ok (.aload 4, 2) := qdL_put_0_17.1
theorem dL_put_2 : decode cL_put 2 = .ok (.aload_n 0, 1) := qdL_put_0_17.2.1
theorem dL_put_3 : decode cL_put 3 = .ok (.iload_n 1, 1) := qdL_put_0_17.2.2.1
theorem dL_put_4 : decode cL_put 4 = .ok (.iload_n 2, 1) := qdL_put_0_17.2.2.2.1
theorem dL_put_5 : decode cL_put 5 = .ok (.iload_n 3, 1) := qdL_put_0_17.2.2.2.2.1
theorem dL_put_6 : decode cL_put 6 = .ok (.invokevirtual 23, 3) := qdL_put_0_17.2.2.2.2.2.1
theorem dL_put_9 : decode cL_put 9 = .ok (.i2l, 1) := qdL_put_0_17.2.2.2.2.2.2.1
theorem dL_put_10 : decode cL_put 10 = .ok (.putfield 13, 3) := qdL_put_0_17.2.2.2.2.2.2.2.1
theorem dL_put_13 : decode cL_put 13 = .ok (.goto 11, 3) := qdL_put_0_17.2.2.2.2.2.2.2.2.1
theorem dL_put_16 : decode cL_put 16 = .ok (.astore 5, 2) := qdL_put_0_17.2.2.2.2.2.2.2.2.2.1
theorem dL_put_18 : decode cL_put 18 = .ok (.iconst 1, 1) := qdL_put_0_17.2.2.2.2.2.2.2.2.2.2.1
theorem dL_put_19 : decode cL_put 19 = .ok (.ireturn, 1) := qdL_put_0_17.2.2.2.2.2.2.2.2.2.2.2.1
theorem dL_put_20 : decode cL_put 20 = .ok (.astore 5, 2) := qdL_put_0_17.2.2.2.2.2.2.2.2.2.2.2.2.1
theorem dL_put_22 : decode cL_put 22 = .ok (.iconst 2, 1) := qdL_put_0_17.2.2.2.2.2.2.2.2.2.2.2.2.2.1
theorem dL_put_23 : decode cL_put 23 = .ok (.ireturn, 1) := qdL_put_0_17.2.2.2.2.2.2.2.2.2.2.2.2.2.2.1
theorem dL_put_24 : decode cL_put 24 = .ok (.iconst 0, 1) := qdL_put_0_17.2.2.2.2.2.2.2.2.2.2.2.2.2.2.2.1
theorem dL_put_25 : decode cL_put 25 = .ok (.ireturn, 1) := qdL_put_0_17.2.2.2.2.2.2.2.2.2.2.2.2.2.2.2.2.1
theorem ggL_putWide_X7_putWide : GoodIn wsL_putWide wsX7_putWide := fun w h => ⟨List.mem_cons_of_mem _ (List.mem_append_right _ h), zq_X7_putWide w h⟩
set_option maxRecDepth 20000 in
theorem gL_putWide_X7_putWide : GoodIn wsL_putWide (wsV RL 27 RX7 yX7_putWide wsX7_putWide) := goodIn_app (goodIn_r _ [3, 4, 5, 6] rfl rfl) ggL_putWide_X7_putWide
theorem qdL_putWide_0_18 : dcAll cL_putWide [(0, .aload 5, 2), (2, .aload_n 0, 1), (3, .iload_n 1, 1), (4, .iload_n 2, 1), (5, .iload_n 3, 1), (6, .iload 4, 2), (8, .invokevirtual 27, 3), (11, .i2l, 1), (12, .putfield 13, 3), (15, .goto 11, 3), (18, .astore 6, 2), (20, .iconst 1, 1), (21, .ireturn, 1), (22, .astore 6, 2), (24, .iconst 2, 1), (25, .ireturn, 1), (26, .iconst 0, 1), (27, .ireturn, 1)] := dcAll_of (by decide +kernel)
theorem dL_putWide_0 : decode cL_putWide 0 = .ok (.aload 5, 2) := qdL_putWide_0_18.1
theorem dL_putWide_2 : decode cL_putWide 2 = .ok (.aload_n 0, 1) := qdL_putWide_0_18.2.1
theorem dL_putWide_3 : decode cL_putWide 3 = .ok (.iload_n 1, 1) := qdL_putWide_0_18.2.2.1
theorem dL_putWide_4 : decode cL_putWide 4 = .ok (.iload_n 2, 1) := qdL_putWide_0_18.2.2.2.1
theorem dL_putWide_5 : decode cL_putWide 5 = .ok (.iload_n 3, 1) := qdL_putWide_0_18.2.2.2.2.1
theorem dL_putWide_6 : decode cL_putWide 6 = .ok (.iload 4, 2) := qdL_putWide_0_18.2.2.2.2.2.1
theorem dL_putWide_8 : decode cL_putWide 8 = .ok (.invokevirtual 27, 3) := qdL_putWide_0_18.2.2.2.2.2.2.1
theorem dL_putWide_11 : decode cL_putWide 11 = .ok (.i2l, 1) := qdL_putWide_0_18.2.2.2.2.2.2.2.1
theorem dL_putWide_12 : decode cL_putWide 12 = .ok (.putfield 13, 3) := qdL_putWide_0_18.2.2.2.2.2.2.2.2.1
theorem dL_putWide_15 : decode cL_putWide 15 = .ok (.goto 11, 3) := qdL_putWide_0_18.2.2.2.2.2.2.2.2.2.1
theorem dL_putWide_18 : decode cL_putWide 18 = .ok (.astore 6, 2) := qdL_putWide_0_18.2.2.2.2.2.2.2.2.2.2.1
theorem dL_putWide_20 : decode cL_putWide 20 = .ok (.iconst 1, 1) := qdL_putWide_0_18.2.2.2.2.2.2.2.2.2.2.2.1
theorem dL_putWide_21 : decode cL_putWide 21 = .ok (.ireturn, 1) := qdL_putWide_0_18.2.2.2.2.2.2.2.2.2.2.2.2.1
theorem dL_putWide_22 : decode cL_putWide 22 = .ok (.astore 6, 2) := qdL_putWide_0_18.2.2.2.2.2.2.2.2.2.2.2.2.2.1
theorem dL_putWide_24 : decode cL_putWide 24 = .ok (.iconst 2, 1) := qdL_putWide_0_18.2.2.2.2.2.2.2.2.2.2.2.2.2.2.1
theorem dL_putWide_25 : decode cL_putWide 25 = .ok (.ireturn, 1) := qdL_putWide_0_18.2.2.2.2.2.2.2.2.2.2.2.2.2.2.2.1
theorem dL_putWide_26 : decode cL_putWide 26 = .ok (.iconst 0, 1) := qdL_putWide_0_18.2.2.2.2.2.2.2.2.2.2.2.2.2.2.2.2.1
theorem dL_putWide_27 : decode cL_putWide 27 = .ok (.ireturn, 1) := qdL_putWide_0_18.2.2.2.2.2.2.2.2.2.2.2.2.2.2.2.2.2.1
theorem ggL_sow_X7_sow : GoodIn wsL_sow wsX7_sow := fun w h => ⟨List.mem_cons_of_mem _ (List.mem_append_right _ h), zq_X7_sow w h⟩
set_option maxRecDepth 20000 in
theorem gL_sow_X7_sow : GoodIn wsL_sow (wsV RL 31 RX7 yX7_sow wsX7_sow) := goodIn_app (goodIn_r _ [3, 4, 5, 6] rfl rfl) ggL_sow_X7_sow
theorem qdL_sow_0_17 : dcAll cL_sow [(0, .aload 4, 2), (2, .aload_n 0, 1), (3, .iload_n 1, 1), (4, .iload_n 2, 1), (5, .iload_n 3, 1), (6, .invokevirtual 31, 3), (9, .i2l, 1), (10, .putfield 13, 3), (13, .goto 11, 3), (16, .astore 5, 2), (18, .iconst 1, 1), (19, .ireturn, 1), (20, .astore 5, 2), (22, .iconst 2, 1), (23, .ireturn, 1), (24, .iconst 0, 1), (25, .ireturn, 1)] := dcAll_of (by decide +kernel)
theorem dL_sow_0 : decode cL_sow 0 = .ok (.aload 4, 2) := qdL_sow_0_17.1
theorem dL_sow_2 : decode cL_sow 2 = .ok (.aload_n 0, 1) := qdL_sow_0_17.2.1
theorem dL_sow_3 : decode cL_sow 3 = .ok (.iload_n 1, 1) := qdL_sow_0_17.2.2.1
theorem dL_sow_4 : decode cL_sow 4 = .ok (.iload_n 2, 1) := qdL_sow_0_17.2.2.2.1
theorem dL_sow_5 : decode cL_sow 5 = .ok (.iload_n 3, 1) := qdL_sow_0_17.2.2.2.2.1
theorem dL_sow_6 : decode cL_sow 6 = .ok (.invokevirtual 31, 3) := qdL_sow_0_17.2.2.2.2.2.1
theorem dL_sow_9 : decode cL_sow 9 = .ok (.i2l, 1) := qdL_sow_0_17.2.2.2.2.2.2.1
theorem dL_sow_10 : decode cL_sow 10 = .ok (.putfield 13, 3) := qdL_sow_0_17.2.2.2.2.2.2.2.1
theorem dL_sow_13 : decode cL_sow 13 = .ok (.goto 11, 3) := qdL_sow_0_17.2.2.2.2.2.2.2.2.1
theorem dL_sow_16 : decode cL_sow 16 = .ok (.astore 5, 2) := qdL_sow_0_17.2.2.2.2.2.2.2.2.2.1
theorem dL_sow_18 : decode cL_sow 18 = .ok (.iconst 1, 1) := qdL_sow_0_17.2.2.2.2.2.2.2.2.2.2.1
theorem dL_sow_19 : decode cL_sow 19 = .ok (.ireturn, 1) := qdL_sow_0_17.2.2.2.2.2.2.2.2.2.2.2.1
theorem dL_sow_20 : decode cL_sow 20 = .ok (.astore 5, 2) := qdL_sow_0_17.2.2.2.2.2.2.2.2.2.2.2.2.1
theorem dL_sow_22 : decode cL_sow 22 = .ok (.iconst 2, 1) := qdL_sow_0_17.2.2.2.2.2.2.2.2.2.2.2.2.2.1
theorem dL_sow_23 : decode cL_sow 23 = .ok (.ireturn, 1) := qdL_sow_0_17.2.2.2.2.2.2.2.2.2.2.2.2.2.2.1
theorem dL_sow_24 : decode cL_sow 24 = .ok (.iconst 0, 1) := qdL_sow_0_17.2.2.2.2.2.2.2.2.2.2.2.2.2.2.2.1
theorem dL_sow_25 : decode cL_sow 25 = .ok (.ireturn, 1) := qdL_sow_0_17.2.2.2.2.2.2.2.2.2.2.2.2.2.2.2.2.1
theorem ggL_copy_X7_copy : GoodIn wsL_copy wsX7_copy := fun w h => ⟨List.mem_cons_of_mem _ (List.mem_append_right _ h), zq_X7_copy w h⟩
set_option maxRecDepth 20000 in
theorem gL_copy_X7_copy : GoodIn wsL_copy (wsV RL 34 RX7 yX7_copy wsX7_copy) := goodIn_app (goodIn_r _ [2, 3, 4, 5] rfl rfl) ggL_copy_X7_copy
theorem qdL_copy_0_13 : dcAll cL_copy [(0, .aload_n 3, 1), (1, .aload_n 0, 1), (2, .iload_n 1, 1), (3, .iload_n 2, 1), (4, .invokevirtual 34, 3), (7, .i2l, 1), (8, .putfield 13, 3), (11, .goto 7, 3), (14, .astore 4, 2), (16, .iconst 1, 1), (17, .ireturn, 1), (18, .iconst 0, 1), (19, .ireturn, 1)] := dcAll_of (by decide +kernel)
theorem dL_copy_0 : decode cL_copy 0 = .ok (.aload_n 3, 1) := qdL_copy_0_13.1
theorem dL_copy_1 : decode cL_copy 1 = .ok (.aload_n 0, 1) := qdL_copy_0_13.2.1
theorem dL_copy_2 : decode cL_copy 2 = .ok (.iload_n 1, 1) := qdL_copy_0_13.2.2.1
theorem dL_copy_3 : decode cL_copy 3 = .ok (.iload_n 2, 1) := qdL_copy_0_13.2.2.2.1
theorem dL_copy_4 : decode cL_copy 4 = .ok (.invokevirtual 34, 3) := qdL_copy_0_13.2.2.2.2.1
theorem dL_copy_7 : decode cL_copy 7 = .ok (.i2l, 1) := qdL_copy_0_13.2.2.2.2.2.1
theorem dL_copy_8 : decode cL_copy 8 = .ok (.putfield 13, 3) := qdL_copy_0_13.2.2.2.2.2.2.1
theorem dL_copy_11 : decode cL_copy 11 = .ok (.goto 7, 3) := qdL_copy_0_13.2.2.2.2.2.2.2.1
theorem dL_copy_14 : decode cL_copy 14 = .ok (.astore 4, 2) := qdL_copy_0_13.2.2.2.2.2.2.2.2.1
theorem dL_copy_16 : decode cL_copy 16 = .ok (.iconst 1, 1) := qdL_copy_0_13.2.2.2.2.2.2.2.2.2.1
theorem dL_copy_17 : decode cL_copy 17 = .ok (.ireturn, 1) := qdL_copy_0_13.2.2.2.2.2.2.2.2.2.2.1
theorem dL_copy_18 : decode cL_copy 18 = .ok (.iconst 0, 1) := qdL_copy_0_13.2.2.2.2.2.2.2.2.2.2.2.1
theorem dL_copy_19 : decode cL_copy 19 = .ok (.ireturn, 1) := qdL_copy_0_13.2.2.2.2.2.2.2.2.2.2.2.2.1
theorem ggL_swap_X7_swap : GoodIn wsL_swap wsX7_swap := fun w h => ⟨List.mem_cons_of_mem _ (List.mem_append_right _ h), zq_X7_swap w h⟩
set_option maxRecDepth 20000 in
theorem gL_swap_X7_swap : GoodIn wsL_swap (wsV RL 37 RX7 yX7_swap wsX7_swap) := goodIn_app (goodIn_r _ [2, 3, 4, 5] rfl rfl) ggL_swap_X7_swap
theorem qdL_swap_0_13 : dcAll cL_swap [(0, .aload_n 3, 1), (1, .aload_n 0, 1), (2, .iload_n 1, 1), (3, .iload_n 2, 1), (4, .invokevirtual 37, 3), (7, .i2l, 1), (8, .putfield 13, 3), (11, .goto 7, 3), (14, .astore 4, 2), (16, .iconst 1, 1), (17, .ireturn, 1), (18, .iconst 0, 1), (19, .ireturn, 1)] := dcAll_of (by decide +kernel)
theorem dL_swap_0 : decode cL_swap 0 = .ok (.aload_n 3, 1) := qdL_swap_0_13.1
theorem dL_swap_1 : decode cL_swap 1 = .ok (.aload_n 0, 1) := qdL_swap_0_13.2.1
theorem dL_swap_2 : decode cL_swap 2 = .ok (.iload_n 1, 1) := qdL_swap_0_13.2.2.1
theorem dL_swap_3 : decode cL_swap 3 = .ok (.iload_n 2, 1) := qdL_swap_0_13.2.2.2.1
theorem dL_swap_4 : decode cL_swap 4 = .ok (.invokevirtual 37, 3) := qdL_swap_0_13.2.2.2.2.1
theorem dL_swap_7 : decode cL_swap 7 = .ok (.i2l, 1) := qdL_swap_0_13.2.2.2.2.2.1
theorem dL_swap_8 : decode cL_swap 8 = .ok (.putfield 13, 3) := qdL_swap_0_13.2.2.2.2.2.2.1
theorem dL_swap_11 : decode cL_swap 11 = .ok (.goto 7, 3) := qdL_swap_0_13.2.2.2.2.2.2.2.1
theorem dL_swap_14 : decode cL_swap 14 = .ok (.astore 4, 2) := qdL_swap_0_13.2.2.2.2.2.2.2.2.1
theorem dL_swap_16 : decode cL_swap 16 = .ok (.iconst 1, 1) := qdL_swap_0_13.2.2.2.2.2.2.2.2.2.1
theorem dL_swap_17 : decode cL_swap 17 = .ok (.ireturn, 1) := qdL_swap_0_13.2.2.2.2.2.2.2.2.2.2.1
theorem dL_swap_18 : decode cL_swap 18 = .ok (.iconst 0, 1) := qdL_swap_0_13.2.2.2.2.2.2.2.2.2.2.2.1
theorem dL_swap_19 : decode cL_swap 19 = .ok (.ireturn, 1) := qdL_swap_0_13.2.2.2.2.2.2.2.2.2.2.2.2.1
theorem ggL_meet_X7_meet : GoodIn wsL_meet wsX7_meet := fun w h => ⟨List.mem_cons_of_mem _ (List.mem_append_right _ h), zq_X7_meet w h⟩
set_option maxRecDepth 20000 in
theorem gL_meet_X7_meet : GoodIn wsL_meet (wsV RL 40 RX7 yX7_meet wsX7_meet) := goodIn_app (goodIn_r _ [3, 4, 5, 6] rfl rfl) ggL_meet_X7_meet
theorem qdL_meet_0_18 : dcAll cL_meet [(0, .aload 5, 2), (2, .aload_n 0, 1), (3, .iload_n 1, 1), (4, .iload_n 2, 1), (5, .iload_n 3, 1), (6, .iload 4, 2), (8, .invokevirtual 40, 3), (11, .i2l, 1), (12, .putfield 13, 3), (15, .goto 11, 3), (18, .astore 6, 2), (20, .iconst 1, 1), (21, .ireturn, 1), (22, .astore 6, 2), (24, .iconst 2, 1), (25, .ireturn, 1), (26, .iconst 0, 1), (27, .ireturn, 1)] := dcAll_of (by decide +kernel)
theorem dL_meet_0 : decode cL_meet 0 = .ok (.aload 5, 2) := qdL_meet_0_18.1
theorem dL_meet_2 : decode cL_meet 2 = .ok (.aload_n 0, 1) := qdL_meet_0_18.2.1
theorem dL_meet_3 : decode cL_meet 3 = .ok (.iload_n 1, 1) := qdL_meet_0_18.2.2.1
theorem dL_meet_4 : decode cL_meet 4 = .ok (.iload_n 2, 1) := qdL_meet_0_18.2.2.2.1
theorem dL_meet_5 : decode cL_meet 5 = .ok (.iload_n 3, 1) := qdL_meet_0_18.2.2.2.2.1
theorem dL_meet_6 : decode cL_meet 6 = .ok (.iload 4, 2) := qdL_meet_0_18.2.2.2.2.2.1
theorem dL_meet_8 : decode cL_meet 8 = .ok (.invokevirtual 40, 3) := qdL_meet_0_18.2.2.2.2.2.2.1
theorem dL_meet_11 : decode cL_meet 11 = .ok (.i2l, 1) := qdL_meet_0_18.2.2.2.2.2.2.2.1
theorem dL_meet_12 : decode cL_meet 12 = .ok (.putfield 13, 3) := qdL_meet_0_18.2.2.2.2.2.2.2.2.1
theorem dL_meet_15 : decode cL_meet 15 = .ok (.goto 11, 3) := qdL_meet_0_18.2.2.2.2.2.2.2.2.2.1
theorem dL_meet_18 : decode cL_meet 18 = .ok (.astore 6, 2) := qdL_meet_0_18.2.2.2.2.2.2.2.2.2.2.1
theorem dL_meet_20 : decode cL_meet 20 = .ok (.iconst 1, 1) := qdL_meet_0_18.2.2.2.2.2.2.2.2.2.2.2.1
theorem dL_meet_21 : decode cL_meet 21 = .ok (.ireturn, 1) := qdL_meet_0_18.2.2.2.2.2.2.2.2.2.2.2.2.1
theorem dL_meet_22 : decode cL_meet 22 = .ok (.astore 6, 2) := qdL_meet_0_18.2.2.2.2.2.2.2.2.2.2.2.2.2.1
theorem dL_meet_24 : decode cL_meet 24 = .ok (.iconst 2, 1) := qdL_meet_0_18.2.2.2.2.2.2.2.2.2.2.2.2.2.2.1
theorem dL_meet_25 : decode cL_meet 25 = .ok (.ireturn, 1) := qdL_meet_0_18.2.2.2.2.2.2.2.2.2.2.2.2.2.2.2.1
theorem dL_meet_26 : decode cL_meet 26 = .ok (.iconst 0, 1) := qdL_meet_0_18.2.2.2.2.2.2.2.2.2.2.2.2.2.2.2.2.1
theorem dL_meet_27 : decode cL_meet 27 = .ok (.ireturn, 1) := qdL_meet_0_18.2.2.2.2.2.2.2.2.2.2.2.2.2.2.2.2.2.1
theorem ggL_multiply_X7_multiply : GoodIn wsL_multiply wsX7_multiply := fun w h => ⟨List.mem_cons_of_mem _ (List.mem_append_right _ h), zq_X7_multiply w h⟩
set_option maxRecDepth 20000 in
theorem gL_multiply_X7_multiply : GoodIn wsL_multiply (wsV RL 43 RX7 yX7_multiply wsX7_multiply) := goodIn_app (goodIn_r _ [2, 3, 4, 5] rfl rfl) ggL_multiply_X7_multiply
theorem qdL_multiply_0_14 : dcAll cL_multiply [(0, .aload 4, 2), (2, .aload_n 0, 1), (3, .iload_n 1, 1), (4, .iload_n 2, 1), (5, .iload_n 3, 1), (6, .invokevirtual 43, 3), (9, .i2l, 1), (10, .putfield 13, 3), (13, .goto 7, 3), (16, .astore 5, 2), (18, .iconst 1, 1), (19, .ireturn, 1), (20, .iconst 0, 1), (21, .ireturn, 1)] := dcAll_of (by decide +kernel)
theorem dL_multiply_0 : decode cL_multiply 0 = .ok (.aload 4, 2) := qdL_multiply_0_14.1
theorem dL_multiply_2 : decode cL_multiply 2 = .ok (.aload_n 0, 1) := qdL_multiply_0_14.2.1
theorem dL_multiply_3 : decode cL_multiply 3 = .ok (.iload_n 1, 1) := qdL_multiply_0_14.2.2.1
theorem dL_multiply_4 : decode cL_multiply 4 = .ok (.iload_n 2, 1) := qdL_multiply_0_14.2.2.2.1
theorem dL_multiply_5 : decode cL_multiply 5 = .ok (.iload_n 3, 1) := qdL_multiply_0_14.2.2.2.2.1
theorem dL_multiply_6 : decode cL_multiply 6 = .ok (.invokevirtual 43, 3) := qdL_multiply_0_14.2.2.2.2.2.1
theorem dL_multiply_9 : decode cL_multiply 9 = .ok (.i2l, 1) := qdL_multiply_0_14.2.2.2.2.2.2.1
theorem dL_multiply_10 : decode cL_multiply 10 = .ok (.putfield 13, 3) := qdL_multiply_0_14.2.2.2.2.2.2.2.1
theorem dL_multiply_13 : decode cL_multiply 13 = .ok (.goto 7, 3) := qdL_multiply_0_14.2.2.2.2.2.2.2.2.1
theorem dL_multiply_16 : decode cL_multiply 16 = .ok (.astore 5, 2) := qdL_multiply_0_14.2.2.2.2.2.2.2.2.2.1
theorem dL_multiply_18 : decode cL_multiply 18 = .ok (.iconst 1, 1) := qdL_multiply_0_14.2.2.2.2.2.2.2.2.2.2.1
theorem dL_multiply_19 : decode cL_multiply 19 = .ok (.ireturn, 1) := qdL_multiply_0_14.2.2.2.2.2.2.2.2.2.2.2.1
theorem dL_multiply_20 : decode cL_multiply 20 = .ok (.iconst 0, 1) := qdL_multiply_0_14.2.2.2.2.2.2.2.2.2.2.2.2.1
theorem dL_multiply_21 : decode cL_multiply 21 = .ok (.ireturn, 1) := qdL_multiply_0_14.2.2.2.2.2.2.2.2.2.2.2.2.2.1
theorem ggL_make_X7_make : GoodIn wsL_make wsX7_make := fun w h => ⟨List.mem_cons_of_mem _ (List.mem_append_right _ h), zq_X7_make w h⟩
set_option maxRecDepth 20000 in
theorem gL_make_X7_make : GoodIn wsL_make (wsV RL 46 RX7 yX7_make wsX7_make) := goodIn_app (goodIn_r _ [3, 4, 5, 6] rfl rfl) ggL_make_X7_make
theorem qdL_make_0_17 : dcAll cL_make [(0, .aload 4, 2), (2, .aload_n 0, 1), (3, .iload_n 1, 1), (4, .iload_n 2, 1), (5, .iload_n 3, 1), (6, .invokevirtual 46, 3), (9, .i2l, 1), (10, .putfield 13, 3), (13, .goto 11, 3), (16, .astore 5, 2), (18, .iconst 1, 1), (19, .ireturn, 1), (20, .astore 5, 2), (22, .iconst 2, 1), (23, .ireturn, 1), (24, .iconst 0, 1), (25, .ireturn, 1)] := dcAll_of (by decide +kernel)
theorem dL_make_0 : decode cL_make 0 = .ok (.aload 4, 2) := qdL_make_0_17.1
theorem dL_make_2 : decode cL_make 2 = .ok (.aload_n 0, 1) := qdL_make_0_17.2.1
theorem dL_make_3 : decode cL_make 3 = .ok (.iload_n 1, 1) := qdL_make_0_17.2.2.1
theorem dL_make_4 : decode cL_make 4 = .ok (.iload_n 2, 1) := qdL_make_0_17.2.2.2.1
theorem dL_make_5 : decode cL_make 5 = .ok (.iload_n 3, 1) := qdL_make_0_17.2.2.2.2.1
theorem dL_make_6 : decode cL_make 6 = .ok (.invokevirtual 46, 3) := qdL_make_0_17.2.2.2.2.2.1
theorem dL_make_9 : decode cL_make 9 = .ok (.i2l, 1) := qdL_make_0_17.2.2.2.2.2.2.1
theorem dL_make_10 : decode cL_make 10 = .ok (.putfield 13, 3) := qdL_make_0_17.2.2.2.2.2.2.2.1
theorem dL_make_13 : decode cL_make 13 = .ok (.goto 11, 3) := qdL_make_0_17.2.2.2.2.2.2.2.2.1
theorem dL_make_16 : decode cL_make 16 = .ok (.astore 5, 2) := qdL_make_0_17.2.2.2.2.2.2.2.2.2.1
theorem dL_make_18 : decode cL_make 18 = .ok (.iconst 1, 1) := qdL_make_0_17.2.2.2.2.2.2.2.2.2.2.1
theorem dL_make_19 : decode cL_make 19 = .ok (.ireturn, 1) := qdL_make_0_17.2.2.2.2.2.2.2.2.2.2.2.1
theorem dL_make_20 : decode cL_make 20 = .ok (.astore 5, 2) := qdL_make_0_17.2.2.2.2.2.2.2.2.2.2.2.2.1
theorem dL_make_22 : decode cL_make 22 = .ok (.iconst 2, 1) := qdL_make_0_17.2.2.2.2.2.2.2.2.2.2.2.2.2.1
theorem dL_make_23 : decode cL_make 23 = .ok (.ireturn, 1) := qdL_make_0_17.2.2.2.2.2.2.2.2.2.2.2.2.2.2.1
theorem dL_make_24 : decode cL_make 24 = .ok (.iconst 0, 1) := qdL_make_0_17.2.2.2.2.2.2.2.2.2.2.2.2.2.2.2.1
theorem dL_make_25 : decode cL_make 25 = .ok (.ireturn, 1) := qdL_make_0_17.2.2.2.2.2.2.2.2.2.2.2.2.2.2.2.2.1
theorem ggL_value_X7_value : GoodIn wsL_value wsX7_value := fun w h => ⟨List.mem_cons_of_mem _ (List.mem_append_right _ h), zq_X7_value w h⟩
set_option maxRecDepth 20000 in
theorem gL_value_X7_value : GoodIn wsL_value (wsV RL 49 RX7 yX7_value wsX7_value) := goodIn_app (goodIn_r _ [3, 4, 5, 6] rfl rfl) ggL_value_X7_value
theorem qdL_value_0_15 : dcAll cL_value [(0, .aload_n 3, 1), (1, .aload_n 0, 1), (2, .iload_n 1, 1), (3, .iload_n 2, 1), (4, .invokevirtual 49, 3), (7, .putfield 53, 3), (10, .goto 11, 3), (13, .astore 4, 2), (15, .iconst 1, 1), (16, .ireturn, 1), (17, .astore 4, 2), (19, .iconst 2, 1), (20, .ireturn, 1), (21, .iconst 0, 1), (22, .ireturn, 1)] := dcAll_of (by decide +kernel)
theorem dL_value_0 : decode cL_value 0 = .ok (.aload_n 3, 1) := qdL_value_0_15.1
theorem dL_value_1 : decode cL_value 1 = .ok (.aload_n 0, 1) := qdL_value_0_15.2.1
theorem dL_value_2 : decode cL_value 2 = .ok (.iload_n 1, 1) := qdL_value_0_15.2.2.1
theorem dL_value_3 : decode cL_value 3 = .ok (.iload_n 2, 1) := qdL_value_0_15.2.2.2.1
theorem dL_value_4 : decode cL_value 4 = .ok (.invokevirtual 49, 3) := qdL_value_0_15.2.2.2.2.1
theorem dL_value_7 : decode cL_value 7 = .ok (.putfield 53, 3) := qdL_value_0_15.2.2.2.2.2.1
theorem dL_value_10 : decode cL_value 10 = .ok (.goto 11, 3) := qdL_value_0_15.2.2.2.2.2.2.1
theorem dL_value_13 : decode cL_value 13 = .ok (.astore 4, 2) := qdL_value_0_15.2.2.2.2.2.2.2.1
theorem dL_value_15 : decode cL_value 15 = .ok (.iconst 1, 1) := qdL_value_0_15.2.2.2.2.2.2.2.2.1
theorem dL_value_16 : decode cL_value 16 = .ok (.ireturn, 1) := qdL_value_0_15.2.2.2.2.2.2.2.2.2.1
theorem dL_value_17 : decode cL_value 17 = .ok (.astore 4, 2) := qdL_value_0_15.2.2.2.2.2.2.2.2.2.2.1
theorem dL_value_19 : decode cL_value 19 = .ok (.iconst 2, 1) := qdL_value_0_15.2.2.2.2.2.2.2.2.2.2.2.1
theorem dL_value_20 : decode cL_value 20 = .ok (.ireturn, 1) := qdL_value_0_15.2.2.2.2.2.2.2.2.2.2.2.2.1
theorem dL_value_21 : decode cL_value 21 = .ok (.iconst 0, 1) := qdL_value_0_15.2.2.2.2.2.2.2.2.2.2.2.2.2.1
theorem dL_value_22 : decode cL_value 22 = .ok (.ireturn, 1) := qdL_value_0_15.2.2.2.2.2.2.2.2.2.2.2.2.2.2.1
theorem ggL_half_X7_half : GoodIn wsL_half wsX7_half := fun w h => ⟨List.mem_cons_of_mem _ (List.mem_append_right _ h), zq_X7_half w h⟩
set_option maxRecDepth 20000 in
theorem gL_half_X7_half : GoodIn wsL_half (wsV RL 57 RX7 yX7_half wsX7_half) := goodIn_app (goodIn_r _ [3, 4, 5, 6] rfl rfl) ggL_half_X7_half
theorem qdL_half_0_17 : dcAll cL_half [(0, .aload 4, 2), (2, .aload_n 0, 1), (3, .iload_n 1, 1), (4, .iload_n 2, 1), (5, .iload_n 3, 1), (6, .invokevirtual 57, 3), (9, .i2l, 1), (10, .putfield 13, 3), (13, .goto 11, 3), (16, .astore 5, 2), (18, .iconst 1, 1), (19, .ireturn, 1), (20, .astore 5, 2), (22, .iconst 2, 1), (23, .ireturn, 1), (24, .iconst 0, 1), (25, .ireturn, 1)] := dcAll_of (by decide +kernel)
theorem dL_half_0 : decode cL_half 0 = .ok (.aload 4, 2) := qdL_half_0_17.1
theorem dL_half_2 : decode cL_half 2 = .ok (.aload_n 0, 1) := qdL_half_0_17.2.1
theorem dL_half_3 : decode cL_half 3 = .ok (.iload_n 1, 1) := qdL_half_0_17.2.2.1
theorem dL_half_4 : decode cL_half 4 = .ok (.iload_n 2, 1) := qdL_half_0_17.2.2.2.1
theorem dL_half_5 : decode cL_half 5 = .ok (.iload_n 3, 1) := qdL_half_0_17.2.2.2.2.1
theorem dL_half_6 : decode cL_half 6 = .ok (.invokevirtual 57, 3) := qdL_half_0_17.2.2.2.2.2.1
theorem dL_half_9 : decode cL_half 9 = .ok (.i2l, 1) := qdL_half_0_17.2.2.2.2.2.2.1
theorem dL_half_10 : decode cL_half 10 = .ok (.putfield 13, 3) := qdL_half_0_17.2.2.2.2.2.2.2.1
theorem dL_half_13 : decode cL_half 13 = .ok (.goto 11, 3) := qdL_half_0_17.2.2.2.2.2.2.2.2.1
theorem dL_half_16 : decode cL_half 16 = .ok (.astore 5, 2) := qdL_half_0_17.2.2.2.2.2.2.2.2.2.1
theorem dL_half_18 : decode cL_half 18 = .ok (.iconst 1, 1) := qdL_half_0_17.2.2.2.2.2.2.2.2.2.2.1
theorem dL_half_19 : decode cL_half 19 = .ok (.ireturn, 1) := qdL_half_0_17.2.2.2.2.2.2.2.2.2.2.2.1
theorem dL_half_20 : decode cL_half 20 = .ok (.astore 5, 2) := qdL_half_0_17.2.2.2.2.2.2.2.2.2.2.2.2.1
theorem dL_half_22 : decode cL_half 22 = .ok (.iconst 2, 1) := qdL_half_0_17.2.2.2.2.2.2.2.2.2.2.2.2.2.1
theorem dL_half_23 : decode cL_half 23 = .ok (.ireturn, 1) := qdL_half_0_17.2.2.2.2.2.2.2.2.2.2.2.2.2.2.1
theorem dL_half_24 : decode cL_half 24 = .ok (.iconst 0, 1) := qdL_half_0_17.2.2.2.2.2.2.2.2.2.2.2.2.2.2.2.1
theorem dL_half_25 : decode cL_half 25 = .ok (.ireturn, 1) := qdL_half_0_17.2.2.2.2.2.2.2.2.2.2.2.2.2.2.2.2.1
theorem ggL_differ_X7_differ : GoodIn wsL_differ wsX7_differ := fun w h => ⟨List.mem_cons_of_mem _ (List.mem_append_right _ h), zq_X7_differ w h⟩
set_option maxRecDepth 20000 in
theorem gL_differ_X7_differ : GoodIn wsL_differ (wsV RL 61 RX7 yX7_differ wsX7_differ) := goodIn_app (goodIn_r _ [2, 3, 4, 5] rfl rfl) ggL_differ_X7_differ
theorem qdL_differ_0_13 : dcAll cL_differ [(0, .aload_n 3, 1), (1, .aload_n 0, 1), (2, .iload_n 1, 1), (3, .iload_n 2, 1), (4, .invokevirtual 61, 3), (7, .i2l, 1), (8, .putfield 13, 3), (11, .goto 7, 3), (14, .astore 4, 2), (16, .iconst 1, 1), (17, .ireturn, 1), (18, .iconst 0, 1), (19, .ireturn, 1)] := dcAll_of (by decide +kernel)
theorem dL_differ_0 : decode cL_differ 0 = .ok (.aload_n 3, 1) := qdL_differ_0_13.1
theorem dL_differ_1 : decode cL_differ 1 = .ok (.aload_n 0, 1) := qdL_differ_0_13.2.1
theorem dL_differ_2 : decode cL_differ 2 = .ok (.iload_n 1, 1) := qdL_differ_0_13.2.2.1
theorem dL_differ_3 : decode cL_differ 3 = .ok (.iload_n 2, 1) := qdL_differ_0_13.2.2.2.1
theorem dL_differ_4 : decode cL_differ 4 = .ok (.invokevirtual 61, 3) := qdL_differ_0_13.2.2.2.2.1
theorem dL_differ_7 : decode cL_differ 7 = .ok (.i2l, 1) := qdL_differ_0_13.2.2.2.2.2.1
theorem dL_differ_8 : decode cL_differ 8 = .ok (.putfield 13, 3) := qdL_differ_0_13.2.2.2.2.2.2.1
theorem dL_differ_11 : decode cL_differ 11 = .ok (.goto 7, 3) := qdL_differ_0_13.2.2.2.2.2.2.2.1
theorem dL_differ_14 : decode cL_differ 14 = .ok (.astore 4, 2) := qdL_differ_0_13.2.2.2.2.2.2.2.2.1
theorem dL_differ_16 : decode cL_differ 16 = .ok (.iconst 1, 1) := qdL_differ_0_13.2.2.2.2.2.2.2.2.2.1
theorem dL_differ_17 : decode cL_differ 17 = .ok (.ireturn, 1) := qdL_differ_0_13.2.2.2.2.2.2.2.2.2.2.1
theorem dL_differ_18 : decode cL_differ 18 = .ok (.iconst 0, 1) := qdL_differ_0_13.2.2.2.2.2.2.2.2.2.2.2.1
theorem dL_differ_19 : decode cL_differ 19 = .ok (.ireturn, 1) := qdL_differ_0_13.2.2.2.2.2.2.2.2.2.2.2.2.1
theorem ggL_is_X7_is : GoodIn wsL_is wsX7_is := fun w h => ⟨List.mem_cons_of_mem _ (List.mem_append_right _ h), zq_X7_is w h⟩
set_option maxRecDepth 20000 in
theorem gL_is_X7_is : GoodIn wsL_is (wsV RL 64 RX7 yX7_is wsX7_is) := goodIn_app (goodIn_r _ [3, 4, 5, 6] rfl rfl) ggL_is_X7_is
theorem qdL_is_0_19 : dcAll cL_is [(0, .aload_n 3, 1), (1, .aload_n 0, 1), (2, .iload_n 1, 1), (3, .iload_n 2, 1), (4, .invokevirtual 64, 3), (7, .ifCond .eq 7, 3), (10, .lconst 1, 1), (11, .goto 4, 3), (14, .lconst 0, 1), (15, .putfield 13, 3), (18, .goto 11, 3), (21, .astore 4, 2), (23, .iconst 1, 1), (24, .ireturn, 1), (25, .astore 4, 2), (27, .iconst 2, 1), (28, .ireturn, 1), (29, .iconst 0, 1), (30, .ireturn, 1)] := dcAll_of (by decide +kernel)
theorem dL_is_0 : decode cL_is 0 = .ok (.aload_n 3, 1) := qdL_is_0_19.1
theorem dL_is_1 : decode cL_is 1 = .ok (.aload_n 0, 1) := qdL_is_0_19.2.1
theorem dL_is_2 : decode cL_is 2 = .ok (.iload_n 1, 1) := qdL_is_0_19.2.2.1
theorem dL_is_3 : decode cL_is 3 = .ok (.iload_n 2, 1) := qdL_is_0_19.2.2.2.1
theorem dL_is_4 : decode cL_is 4 = .ok (.invokevirtual 64, 3) := qdL_is_0_19.2.2.2.2.1
theorem dL_is_7 : decode cL_is 7 = .ok (.ifCond .eq 7, 3) := qdL_is_0_19.2.2.2.2.2.1
theorem dL_is_10 : decode cL_is 10 = .ok (.lconst 1, 1) := qdL_is_0_19.2.2.2.2.2.2.1
theorem dL_is_11 : decode cL_is 11 = .ok (.goto 4, 3) := qdL_is_0_19.2.2.2.2.2.2.2.1
theorem dL_is_14 : decode cL_is 14 = .ok (.lconst 0, 1) := qdL_is_0_19.2.2.2.2.2.2.2.2.1
theorem dL_is_15 : decode cL_is 15 = .ok (.putfield 13, 3) := qdL_is_0_19.2.2.2.2.2.2.2.2.2.1
theorem dL_is_18 : decode cL_is 18 = .ok (.goto 11, 3) := qdL_is_0_19.2.2.2.2.2.2.2.2.2.2.1
theorem dL_is_21 : decode cL_is 21 = .ok (.astore 4, 2) := qdL_is_0_19.2.2.2.2.2.2.2.2.2.2.2.1
theorem dL_is_23 : decode cL_is 23 = .ok (.iconst 1, 1) := qdL_is_0_19.2.2.2.2.2.2.2.2.2.2.2.2.1
theorem dL_is_24 : decode cL_is 24 = .ok (.ireturn, 1) := qdL_is_0_19.2.2.2.2.2.2.2.2.2.2.2.2.2.1
theorem dL_is_25 : decode cL_is 25 = .ok (.astore 4, 2) := qdL_is_0_19.2.2.2.2.2.2.2.2.2.2.2.2.2.2.1
theorem dL_is_27 : decode cL_is 27 = .ok (.iconst 2, 1) := qdL_is_0_19.2.2.2.2.2.2.2.2.2.2.2.2.2.2.2.1
theorem dL_is_28 : decode cL_is 28 = .ok (.ireturn, 1) := qdL_is_0_19.2.2.2.2.2.2.2.2.2.2.2.2.2.2.2.2.1
theorem dL_is_29 : decode cL_is 29 = .ok (.iconst 0, 1) := qdL_is_0_19.2.2.2.2.2.2.2.2.2.2.2.2.2.2.2.2.2.1
theorem dL_is_30 : decode cL_is 30 = .ok (.ireturn, 1) := qdL_is_0_19.2.2.2.2.2.2.2.2.2.2.2.2.2.2.2.2.2.2.1
theorem ggL_total_X7_total : GoodIn wsL_total wsX7_total := fun w h => ⟨List.mem_cons_of_mem _ (List.mem_append_right _ h), zq_X7_total w h⟩
set_option maxRecDepth 20000 in
theorem gL_total_X7_total : GoodIn wsL_total (wsV RL 68 RX7 yX7_total wsX7_total) := goodIn_app (goodIn_r _ [4, 5, 6, 7] rfl rfl) ggL_total_X7_total
theorem qdL_total_0_18 : dcAll cL_total [(0, .aload_n 3, 1), (1, .aload_n 0, 1), (2, .iload_n 1, 1), (3, .iload_n 2, 1), (4, .invokevirtual 68, 3), (7, .putfield 53, 3), (10, .goto 15, 3), (13, .astore 4, 2), (15, .iconst 1, 1), (16, .ireturn, 1), (17, .astore 4, 2), (19, .iconst 2, 1), (20, .ireturn, 1), (21, .astore 4, 2), (23, .iconst 3, 1), (24, .ireturn, 1), (25, .iconst 0, 1), (26, .ireturn, 1)] := dcAll_of (by decide +kernel)
theorem dL_total_0 : decode cL_total 0 = .ok (.aload_n 3, 1) := qdL_total_0_18.1
theorem dL_total_1 : decode cL_total 1 = .ok (.aload_n 0, 1) := qdL_total_0_18.2.1
theorem dL_total_2 : decode cL_total 2 = .ok (.iload_n 1, 1) := qdL_total_0_18.2.2.1
theorem dL_total_3 : decode cL_total 3 = .ok (.iload_n 2, 1) := qdL_total_0_18.2.2.2.1
theorem dL_total_4 : decode cL_total 4 = .ok (.invokevirtual 68, 3) := qdL_total_0_18.2.2.2.2.1
theorem dL_total_7 : decode cL_total 7 = .ok (.putfield 53, 3) := qdL_total_0_18.2.2.2.2.2.1
theorem dL_total_10 : decode cL_total 10 = .ok (.goto 15, 3) := qdL_total_0_18.2.2.2.2.2.2.1
theorem dL_total_13 : decode cL_total 13 = .ok (.astore 4, 2) := qdL_total_0_18.2.2.2.2.2.2.2.1
theorem dL_total_15 : decode cL_total 15 = .ok (.iconst 1, 1) := qdL_total_0_18.2.2.2.2.2.2.2.2.1
theorem dL_total_16 : decode cL_total 16 = .ok (.ireturn, 1) := qdL_total_0_18.2.2.2.2.2.2.2.2.2.1
theorem dL_total_17 : decode cL_total 17 = .ok (.astore 4, 2) := qdL_total_0_18.2.2.2.2.2.2.2.2.2.2.1
theorem dL_total_19 : decode cL_total 19 = .ok (.iconst 2, 1) := qdL_total_0_18.2.2.2.2.2.2.2.2.2.2.2.1
theorem dL_total_20 : decode cL_total 20 = .ok (.ireturn, 1) := qdL_total_0_18.2.2.2.2.2.2.2.2.2.2.2.2.1
theorem dL_total_21 : decode cL_total 21 = .ok (.astore 4, 2) := qdL_total_0_18.2.2.2.2.2.2.2.2.2.2.2.2.2.1
theorem dL_total_23 : decode cL_total 23 = .ok (.iconst 3, 1) := qdL_total_0_18.2.2.2.2.2.2.2.2.2.2.2.2.2.2.1
theorem dL_total_24 : decode cL_total 24 = .ok (.ireturn, 1) := qdL_total_0_18.2.2.2.2.2.2.2.2.2.2.2.2.2.2.2.1
theorem dL_total_25 : decode cL_total 25 = .ok (.iconst 0, 1) := qdL_total_0_18.2.2.2.2.2.2.2.2.2.2.2.2.2.2.2.2.1
theorem dL_total_26 : decode cL_total 26 = .ok (.ireturn, 1) := qdL_total_0_18.2.2.2.2.2.2.2.2.2.2.2.2.2.2.2.2.2.1
theorem ggL_totalOfProduct_X7_totalOfProduct : GoodIn wsL_totalOfProduct wsX7_totalOfProduct := fun w h => ⟨List.mem_cons_of_mem _ (List.mem_append_right _ h), zq_X7_totalOfProduct w h⟩
set_option maxRecDepth 20000 in
theorem gL_totalOfProduct_X7_totalOfProduct : GoodIn wsL_totalOfProduct (wsV RL 73 RX7 yX7_totalOfProduct wsX7_totalOfProduct) := goodIn_app (goodIn_r _ [4, 5, 6, 7] rfl rfl) ggL_totalOfProduct_X7_totalOfProduct
theorem qdL_totalOfProduct_0_20 : dcAll cL_totalOfProduct [(0, .aload 5, 2), (2, .aload_n 0, 1), (3, .iload_n 1, 1), (4, .iload_n 2, 1), (5, .iload_n 3, 1), (6, .iload 4, 2), (8, .invokevirtual 73, 3), (11, .putfield 53, 3), (14, .goto 15, 3), (17, .astore 6, 2), (19, .iconst 1, 1), (20, .ireturn, 1), (21, .astore 6, 2), (23, .iconst 2, 1), (24, .ireturn, 1), (25, .astore 6, 2), (27, .iconst 3, 1), (28, .ireturn, 1), (29, .iconst 0, 1), (30, .ireturn, 1)] := dcAll_of (by decide +kernel)
theorem dL_totalOfProduct_0 : decode cL_totalOfProduct 0 = .ok (.aload 5, 2) := qdL_totalOfProduct_0_20.1
theorem dL_totalOfProduct_2 : decode cL_totalOfProduct 2 = .ok (.aload_n 0, 1) := qdL_totalOfProduct_0_20.2.1
theorem dL_totalOfProduct_3 : decode cL_totalOfProduct 3 = .ok (.iload_n 1, 1) := qdL_totalOfProduct_0_20.2.2.1
theorem dL_totalOfProduct_4 : decode cL_totalOfProduct 4 = .ok (.iload_n 2, 1) := qdL_totalOfProduct_0_20.2.2.2.1
theorem dL_totalOfProduct_5 : decode cL_totalOfProduct 5 = .ok (.iload_n 3, 1) := qdL_totalOfProduct_0_20.2.2.2.2.1
theorem dL_totalOfProduct_6 : decode cL_totalOfProduct 6 = .ok (.iload 4, 2) := qdL_totalOfProduct_0_20.2.2.2.2.2.1
theorem dL_totalOfProduct_8 : decode cL_totalOfProduct 8 = .ok (.invokevirtual 73, 3) := qdL_totalOfProduct_0_20.2.2.2.2.2.2.1
theorem dL_totalOfProduct_11 : decode cL_totalOfProduct 11 = .ok (.putfield 53, 3) := qdL_totalOfProduct_0_20.2.2.2.2.2.2.2.1
theorem dL_totalOfProduct_14 : decode cL_totalOfProduct 14 = .ok (.goto 15, 3) := qdL_totalOfProduct_0_20.2.2.2.2.2.2.2.2.1
theorem dL_totalOfProduct_17 : decode cL_totalOfProduct 17 = .ok (.astore 6, 2) := qdL_totalOfProduct_0_20.2.2.2.2.2.2.2.2.2.1
theorem dL_totalOfProduct_19 : decode cL_totalOfProduct 19 = .ok (.iconst 1, 1) := qdL_totalOfProduct_0_20.2.2.2.2.2.2.2.2.2.2.1
theorem dL_totalOfProduct_20 : decode cL_totalOfProduct 20 = .ok (.ireturn, 1) := qdL_totalOfProduct_0_20.2.2.2.2.2.2.2.2.2.2.2.1
theorem dL_totalOfProduct_21 : decode cL_totalOfProduct 21 = .ok (.astore 6, 2) := qdL_totalOfProduct_0_20.2.2.2.2.2.2.2.2.2.2.2.2.1
theorem dL_totalOfProduct_23 : decode cL_totalOfProduct 23 = .ok (.iconst 2, 1) := qdL_totalOfProduct_0_20.2.2.2.2.2.2.2.2.2.2.2.2.2.1
theorem dL_totalOfProduct_24 : decode cL_totalOfProduct 24 = .ok (.ireturn, 1) := qdL_totalOfProduct_0_20.2.2.2.2.2.2.2.2.2.2.2.2.2.2.1
theorem dL_totalOfProduct_25 : decode cL_totalOfProduct 25 = .ok (.astore 6, 2) := qdL_totalOfProduct_0_20.2.2.2.2.2.2.2.2.2.2.2.2.2.2.2.1
theorem dL_totalOfProduct_27 : decode cL_totalOfProduct 27 = .ok (.iconst 3, 1) := qdL_totalOfProduct_0_20.2.2.2.2.2.2.2.2.2.2.2.2.2.2.2.2.1
theorem dL_totalOfProduct_28 : decode cL_totalOfProduct 28 = .ok (.ireturn, 1) := qdL_totalOfProduct_0_20.2.2.2.2.2.2.2.2.2.2.2.2.2.2.2.2.2.1
theorem dL_totalOfProduct_29 : decode cL_totalOfProduct 29 = .ok (.iconst 0, 1) := qdL_totalOfProduct_0_20.2.2.2.2.2.2.2.2.2.2.2.2.2.2.2.2.2.2.1
theorem dL_totalOfProduct_30 : decode cL_totalOfProduct 30 = .ok (.ireturn, 1) := qdL_totalOfProduct_0_20.2.2.2.2.2.2.2.2.2.2.2.2.2.2.2.2.2.2.2.1
theorem ggL_determinant_X7_determinant : GoodIn wsL_determinant wsX7_determinant := fun w h => ⟨List.mem_cons_of_mem _ (List.mem_append_right _ h), zq_X7_determinant w h⟩
set_option maxRecDepth 20000 in
theorem gL_determinant_X7_determinant : GoodIn wsL_determinant (wsV RL 77 RX7 yX7_determinant wsX7_determinant) := goodIn_app (goodIn_r _ [4, 5, 6, 7] rfl rfl) ggL_determinant_X7_determinant
theorem qdL_determinant_0_19 : dcAll cL_determinant [(0, .aload 4, 2), (2, .aload_n 0, 1), (3, .iload_n 1, 1), (4, .iload_n 2, 1), (5, .iload_n 3, 1), (6, .invokevirtual 77, 3), (9, .putfield 53, 3), (12, .goto 15, 3), (15, .astore 5, 2), (17, .iconst 1, 1), (18, .ireturn, 1), (19, .astore 5, 2), (21, .iconst 2, 1), (22, .ireturn, 1), (23, .astore 5, 2), (25, .iconst 3, 1), (26, .ireturn, 1), (27, .iconst 0, 1), (28, .ireturn, 1)] := dcAll_of (by decide +kernel)
theorem dL_determinant_0 : decode cL_determinant 0 = .ok (.aload 4, 2) := qdL_determinant_0_19.1
theorem dL_determinant_2 : decode cL_determinant 2 = .ok (.aload_n 0, 1) := qdL_determinant_0_19.2.1
theorem dL_determinant_3 : decode cL_determinant 3 = .ok (.iload_n 1, 1) := qdL_determinant_0_19.2.2.1
theorem dL_determinant_4 : decode cL_determinant 4 = .ok (.iload_n 2, 1) := qdL_determinant_0_19.2.2.2.1
theorem dL_determinant_5 : decode cL_determinant 5 = .ok (.iload_n 3, 1) := qdL_determinant_0_19.2.2.2.2.1
theorem dL_determinant_6 : decode cL_determinant 6 = .ok (.invokevirtual 77, 3) := qdL_determinant_0_19.2.2.2.2.2.1
theorem dL_determinant_9 : decode cL_determinant 9 = .ok (.putfield 53, 3) := qdL_determinant_0_19.2.2.2.2.2.2.1
theorem dL_determinant_12 : decode cL_determinant 12 = .ok (.goto 15, 3) := qdL_determinant_0_19.2.2.2.2.2.2.2.1
theorem dL_determinant_15 : decode cL_determinant 15 = .ok (.astore 5, 2) := qdL_determinant_0_19.2.2.2.2.2.2.2.2.1
theorem dL_determinant_17 : decode cL_determinant 17 = .ok (.iconst 1, 1) := qdL_determinant_0_19.2.2.2.2.2.2.2.2.2.1
theorem dL_determinant_18 : decode cL_determinant 18 = .ok (.ireturn, 1) := qdL_determinant_0_19.2.2.2.2.2.2.2.2.2.2.1
theorem dL_determinant_19 : decode cL_determinant 19 = .ok (.astore 5, 2) := qdL_determinant_0_19.2.2.2.2.2.2.2.2.2.2.2.1
theorem dL_determinant_21 : decode cL_determinant 21 = .ok (.iconst 2, 1) := qdL_determinant_0_19.2.2.2.2.2.2.2.2.2.2.2.2.1
theorem dL_determinant_22 : decode cL_determinant 22 = .ok (.ireturn, 1) := qdL_determinant_0_19.2.2.2.2.2.2.2.2.2.2.2.2.2.1
theorem dL_determinant_23 : decode cL_determinant 23 = .ok (.astore 5, 2) := qdL_determinant_0_19.2.2.2.2.2.2.2.2.2.2.2.2.2.2.1
theorem dL_determinant_25 : decode cL_determinant 25 = .ok (.iconst 3, 1) := qdL_determinant_0_19.2.2.2.2.2.2.2.2.2.2.2.2.2.2.2.1
theorem dL_determinant_26 : decode cL_determinant 26 = .ok (.ireturn, 1) := qdL_determinant_0_19.2.2.2.2.2.2.2.2.2.2.2.2.2.2.2.2.1
theorem dL_determinant_27 : decode cL_determinant 27 = .ok (.iconst 0, 1) := qdL_determinant_0_19.2.2.2.2.2.2.2.2.2.2.2.2.2.2.2.2.2.1
theorem dL_determinant_28 : decode cL_determinant 28 = .ok (.ireturn, 1) := qdL_determinant_0_19.2.2.2.2.2.2.2.2.2.2.2.2.2.2.2.2.2.2.1
theorem ggL_tau_X7_tau : GoodIn wsL_tau wsX7_tau := fun w h => ⟨List.mem_cons_of_mem _ (List.mem_append_right _ h), zq_X7_tau w h⟩
set_option maxRecDepth 20000 in
theorem gL_tau_X7_tau : GoodIn wsL_tau (wsV RL 81 RX7 yX7_tau wsX7_tau) := goodIn_app (goodIn_r _ [2, 3, 4, 5] rfl rfl) ggL_tau_X7_tau
theorem qdL_tau_0_13 : dcAll cL_tau [(0, .aload_n 3, 1), (1, .aload_n 0, 1), (2, .iload_n 1, 1), (3, .iload_n 2, 1), (4, .invokevirtual 81, 3), (7, .i2l, 1), (8, .putfield 13, 3), (11, .goto 7, 3), (14, .astore 4, 2), (16, .iconst 1, 1), (17, .ireturn, 1), (18, .iconst 0, 1), (19, .ireturn, 1)] := dcAll_of (by decide +kernel)
theorem dL_tau_0 : decode cL_tau 0 = .ok (.aload_n 3, 1) := qdL_tau_0_13.1
theorem dL_tau_1 : decode cL_tau 1 = .ok (.aload_n 0, 1) := qdL_tau_0_13.2.1
theorem dL_tau_2 : decode cL_tau 2 = .ok (.iload_n 1, 1) := qdL_tau_0_13.2.2.1
theorem dL_tau_3 : decode cL_tau 3 = .ok (.iload_n 2, 1) := qdL_tau_0_13.2.2.2.1
theorem dL_tau_4 : decode cL_tau 4 = .ok (.invokevirtual 81, 3) := qdL_tau_0_13.2.2.2.2.1
theorem dL_tau_7 : decode cL_tau 7 = .ok (.i2l, 1) := qdL_tau_0_13.2.2.2.2.2.1
theorem dL_tau_8 : decode cL_tau 8 = .ok (.putfield 13, 3) := qdL_tau_0_13.2.2.2.2.2.2.1
theorem dL_tau_11 : decode cL_tau 11 = .ok (.goto 7, 3) := qdL_tau_0_13.2.2.2.2.2.2.2.1
theorem dL_tau_14 : decode cL_tau 14 = .ok (.astore 4, 2) := qdL_tau_0_13.2.2.2.2.2.2.2.2.1
theorem dL_tau_16 : decode cL_tau 16 = .ok (.iconst 1, 1) := qdL_tau_0_13.2.2.2.2.2.2.2.2.2.1
theorem dL_tau_17 : decode cL_tau 17 = .ok (.ireturn, 1) := qdL_tau_0_13.2.2.2.2.2.2.2.2.2.2.1
theorem dL_tau_18 : decode cL_tau 18 = .ok (.iconst 0, 1) := qdL_tau_0_13.2.2.2.2.2.2.2.2.2.2.2.1
theorem dL_tau_19 : decode cL_tau 19 = .ok (.ireturn, 1) := qdL_tau_0_13.2.2.2.2.2.2.2.2.2.2.2.2.1
theorem ggL_sigma_X7_sigma : GoodIn wsL_sigma wsX7_sigma := fun w h => ⟨List.mem_cons_of_mem _ (List.mem_append_right _ h), zq_X7_sigma w h⟩
set_option maxRecDepth 20000 in
theorem gL_sigma_X7_sigma : GoodIn wsL_sigma (wsV RL 84 RX7 yX7_sigma wsX7_sigma) := goodIn_app (goodIn_r _ [2, 3, 4, 5] rfl rfl) ggL_sigma_X7_sigma
theorem qdL_sigma_0_13 : dcAll cL_sigma [(0, .aload_n 3, 1), (1, .aload_n 0, 1), (2, .iload_n 1, 1), (3, .iload_n 2, 1), (4, .invokevirtual 84, 3), (7, .i2l, 1), (8, .putfield 13, 3), (11, .goto 7, 3), (14, .astore 4, 2), (16, .iconst 1, 1), (17, .ireturn, 1), (18, .iconst 0, 1), (19, .ireturn, 1)] := dcAll_of (by decide +kernel)
theorem dL_sigma_0 : decode cL_sigma 0 = .ok (.aload_n 3, 1) := qdL_sigma_0_13.1
theorem dL_sigma_1 : decode cL_sigma 1 = .ok (.aload_n 0, 1) := qdL_sigma_0_13.2.1
theorem dL_sigma_2 : decode cL_sigma 2 = .ok (.iload_n 1, 1) := qdL_sigma_0_13.2.2.1
theorem dL_sigma_3 : decode cL_sigma 3 = .ok (.iload_n 2, 1) := qdL_sigma_0_13.2.2.2.1
theorem dL_sigma_4 : decode cL_sigma 4 = .ok (.invokevirtual 84, 3) := qdL_sigma_0_13.2.2.2.2.1
theorem dL_sigma_7 : decode cL_sigma 7 = .ok (.i2l, 1) := qdL_sigma_0_13.2.2.2.2.2.1
theorem dL_sigma_8 : decode cL_sigma 8 = .ok (.putfield 13, 3) := qdL_sigma_0_13.2.2.2.2.2.2.1
theorem dL_sigma_11 : decode cL_sigma 11 = .ok (.goto 7, 3) := qdL_sigma_0_13.2.2.2.2.2.2.2.1
theorem dL_sigma_14 : decode cL_sigma 14 = .ok (.astore 4, 2) := qdL_sigma_0_13.2.2.2.2.2.2.2.2.1
theorem dL_sigma_16 : decode cL_sigma 16 = .ok (.iconst 1, 1) := qdL_sigma_0_13.2.2.2.2.2.2.2.2.2.1
theorem dL_sigma_17 : decode cL_sigma 17 = .ok (.ireturn, 1) := qdL_sigma_0_13.2.2.2.2.2.2.2.2.2.2.1
theorem dL_sigma_18 : decode cL_sigma 18 = .ok (.iconst 0, 1) := qdL_sigma_0_13.2.2.2.2.2.2.2.2.2.2.2.1
theorem dL_sigma_19 : decode cL_sigma 19 = .ok (.ireturn, 1) := qdL_sigma_0_13.2.2.2.2.2.2.2.2.2.2.2.2.1
theorem ggL_phi_X7_phi : GoodIn wsL_phi wsX7_phi := fun w h => ⟨List.mem_cons_of_mem _ (List.mem_append_right _ h), zq_X7_phi w h⟩
set_option maxRecDepth 20000 in
theorem gL_phi_X7_phi : GoodIn wsL_phi (wsV RL 87 RX7 yX7_phi wsX7_phi) := goodIn_app (goodIn_r _ [2, 3, 4, 5] rfl rfl) ggL_phi_X7_phi
theorem qdL_phi_0_13 : dcAll cL_phi [(0, .aload_n 3, 1), (1, .aload_n 0, 1), (2, .iload_n 1, 1), (3, .iload_n 2, 1), (4, .invokevirtual 87, 3), (7, .i2l, 1), (8, .putfield 13, 3), (11, .goto 7, 3), (14, .astore 4, 2), (16, .iconst 1, 1), (17, .ireturn, 1), (18, .iconst 0, 1), (19, .ireturn, 1)] := dcAll_of (by decide +kernel)
theorem dL_phi_0 : decode cL_phi 0 = .ok (.aload_n 3, 1) := qdL_phi_0_13.1
theorem dL_phi_1 : decode cL_phi 1 = .ok (.aload_n 0, 1) := qdL_phi_0_13.2.1
theorem dL_phi_2 : decode cL_phi 2 = .ok (.iload_n 1, 1) := qdL_phi_0_13.2.2.1
theorem dL_phi_3 : decode cL_phi 3 = .ok (.iload_n 2, 1) := qdL_phi_0_13.2.2.2.1
theorem dL_phi_4 : decode cL_phi 4 = .ok (.invokevirtual 87, 3) := qdL_phi_0_13.2.2.2.2.1
theorem dL_phi_7 : decode cL_phi 7 = .ok (.i2l, 1) := qdL_phi_0_13.2.2.2.2.2.1
theorem dL_phi_8 : decode cL_phi 8 = .ok (.putfield 13, 3) := qdL_phi_0_13.2.2.2.2.2.2.1
theorem dL_phi_11 : decode cL_phi 11 = .ok (.goto 7, 3) := qdL_phi_0_13.2.2.2.2.2.2.2.1
theorem dL_phi_14 : decode cL_phi 14 = .ok (.astore 4, 2) := qdL_phi_0_13.2.2.2.2.2.2.2.2.1
theorem dL_phi_16 : decode cL_phi 16 = .ok (.iconst 1, 1) := qdL_phi_0_13.2.2.2.2.2.2.2.2.2.1
theorem dL_phi_17 : decode cL_phi 17 = .ok (.ireturn, 1) := qdL_phi_0_13.2.2.2.2.2.2.2.2.2.2.1
theorem dL_phi_18 : decode cL_phi 18 = .ok (.iconst 0, 1) := qdL_phi_0_13.2.2.2.2.2.2.2.2.2.2.2.1
theorem dL_phi_19 : decode cL_phi 19 = .ok (.ireturn, 1) := qdL_phi_0_13.2.2.2.2.2.2.2.2.2.2.2.2.1
theorem ggL_sign_X7_sign : GoodIn wsL_sign wsX7_sign := fun w h => ⟨List.mem_cons_of_mem _ (List.mem_append_right _ h), zq_X7_sign w h⟩
set_option maxRecDepth 20000 in
theorem gL_sign_X7_sign : GoodIn wsL_sign (wsV RL 90 RX7 yX7_sign wsX7_sign) := goodIn_app (goodIn_r _ [2, 3, 4, 5] rfl rfl) ggL_sign_X7_sign
theorem qdL_sign_0_13 : dcAll cL_sign [(0, .aload_n 3, 1), (1, .aload_n 0, 1), (2, .iload_n 1, 1), (3, .iload_n 2, 1), (4, .invokevirtual 90, 3), (7, .i2l, 1), (8, .putfield 13, 3), (11, .goto 7, 3), (14, .astore 4, 2), (16, .iconst 1, 1), (17, .ireturn, 1), (18, .iconst 0, 1), (19, .ireturn, 1)] := dcAll_of (by decide +kernel)
theorem dL_sign_0 : decode cL_sign 0 = .ok (.aload_n 3, 1) := qdL_sign_0_13.1
theorem dL_sign_1 : decode cL_sign 1 = .ok (.aload_n 0, 1) := qdL_sign_0_13.2.1
theorem dL_sign_2 : decode cL_sign 2 = .ok (.iload_n 1, 1) := qdL_sign_0_13.2.2.1
theorem dL_sign_3 : decode cL_sign 3 = .ok (.iload_n 2, 1) := qdL_sign_0_13.2.2.2.1
theorem dL_sign_4 : decode cL_sign 4 = .ok (.invokevirtual 90, 3) := qdL_sign_0_13.2.2.2.2.1
theorem dL_sign_7 : decode cL_sign 7 = .ok (.i2l, 1) := qdL_sign_0_13.2.2.2.2.2.1
theorem dL_sign_8 : decode cL_sign 8 = .ok (.putfield 13, 3) := qdL_sign_0_13.2.2.2.2.2.2.1
theorem dL_sign_11 : decode cL_sign 11 = .ok (.goto 7, 3) := qdL_sign_0_13.2.2.2.2.2.2.2.1
theorem dL_sign_14 : decode cL_sign 14 = .ok (.astore 4, 2) := qdL_sign_0_13.2.2.2.2.2.2.2.2.1
theorem dL_sign_16 : decode cL_sign 16 = .ok (.iconst 1, 1) := qdL_sign_0_13.2.2.2.2.2.2.2.2.2.1
theorem dL_sign_17 : decode cL_sign 17 = .ok (.ireturn, 1) := qdL_sign_0_13.2.2.2.2.2.2.2.2.2.2.1
theorem dL_sign_18 : decode cL_sign 18 = .ok (.iconst 0, 1) := qdL_sign_0_13.2.2.2.2.2.2.2.2.2.2.2.1
theorem dL_sign_19 : decode cL_sign 19 = .ok (.ireturn, 1) := qdL_sign_0_13.2.2.2.2.2.2.2.2.2.2.2.2.1
theorem ggL_square_X7_square : GoodIn wsL_square wsX7_square := fun w h => ⟨List.mem_cons_of_mem _ (List.mem_append_right _ h), zq_X7_square w h⟩
set_option maxRecDepth 20000 in
theorem gL_square_X7_square : GoodIn wsL_square (wsV RL 93 RX7 yX7_square wsX7_square) := goodIn_app (goodIn_r _ [2, 3, 4, 5] rfl rfl) ggL_square_X7_square
theorem qdL_square_0_13 : dcAll cL_square [(0, .aload_n 3, 1), (1, .aload_n 0, 1), (2, .iload_n 1, 1), (3, .iload_n 2, 1), (4, .invokevirtual 93, 3), (7, .i2l, 1), (8, .putfield 13, 3), (11, .goto 7, 3), (14, .astore 4, 2), (16, .iconst 1, 1), (17, .ireturn, 1), (18, .iconst 0, 1), (19, .ireturn, 1)] := dcAll_of (by decide +kernel)
theorem dL_square_0 : decode cL_square 0 = .ok (.aload_n 3, 1) := qdL_square_0_13.1
theorem dL_square_1 : decode cL_square 1 = .ok (.aload_n 0, 1) := qdL_square_0_13.2.1
theorem dL_square_2 : decode cL_square 2 = .ok (.iload_n 1, 1) := qdL_square_0_13.2.2.1
theorem dL_square_3 : decode cL_square 3 = .ok (.iload_n 2, 1) := qdL_square_0_13.2.2.2.1
theorem dL_square_4 : decode cL_square 4 = .ok (.invokevirtual 93, 3) := qdL_square_0_13.2.2.2.2.1
theorem dL_square_7 : decode cL_square 7 = .ok (.i2l, 1) := qdL_square_0_13.2.2.2.2.2.1
theorem dL_square_8 : decode cL_square 8 = .ok (.putfield 13, 3) := qdL_square_0_13.2.2.2.2.2.2.1
theorem dL_square_11 : decode cL_square 11 = .ok (.goto 7, 3) := qdL_square_0_13.2.2.2.2.2.2.2.1
theorem dL_square_14 : decode cL_square 14 = .ok (.astore 4, 2) := qdL_square_0_13.2.2.2.2.2.2.2.2.1
theorem dL_square_16 : decode cL_square 16 = .ok (.iconst 1, 1) := qdL_square_0_13.2.2.2.2.2.2.2.2.2.1
theorem dL_square_17 : decode cL_square 17 = .ok (.ireturn, 1) := qdL_square_0_13.2.2.2.2.2.2.2.2.2.2.1
theorem dL_square_18 : decode cL_square 18 = .ok (.iconst 0, 1) := qdL_square_0_13.2.2.2.2.2.2.2.2.2.2.2.1
theorem dL_square_19 : decode cL_square 19 = .ok (.ireturn, 1) := qdL_square_0_13.2.2.2.2.2.2.2.2.2.2.2.2.1
theorem ggL_squareless_X7_squareless : GoodIn wsL_squareless wsX7_squareless := fun w h => ⟨List.mem_cons_of_mem _ (List.mem_append_right _ h), zq_X7_squareless w h⟩
set_option maxRecDepth 20000 in
theorem gL_squareless_X7_squareless : GoodIn wsL_squareless (wsV RL 96 RX7 yX7_squareless wsX7_squareless) := goodIn_app (goodIn_r _ [2, 3, 4, 5] rfl rfl) ggL_squareless_X7_squareless
theorem qdL_squareless_0_13 : dcAll cL_squareless [(0, .aload_n 3, 1), (1, .aload_n 0, 1), (2, .iload_n 1, 1), (3, .iload_n 2, 1), (4, .invokevirtual 96, 3), (7, .i2l, 1), (8, .putfield 13, 3), (11, .goto 7, 3), (14, .astore 4, 2), (16, .iconst 1, 1), (17, .ireturn, 1), (18, .iconst 0, 1), (19, .ireturn, 1)] := dcAll_of (by decide +kernel)
theorem dL_squareless_0 : decode cL_squareless 0 = .ok (.aload_n 3, 1) := qdL_squareless_0_13.1
theorem dL_squareless_1 : decode cL_squareless 1 = .ok (.aload_n 0, 1) := qdL_squareless_0_13.2.1
theorem dL_squareless_2 : decode cL_squareless 2 = .ok (.iload_n 1, 1) := qdL_squareless_0_13.2.2.1
theorem dL_squareless_3 : decode cL_squareless 3 = .ok (.iload_n 2, 1) := qdL_squareless_0_13.2.2.2.1
theorem dL_squareless_4 : decode cL_squareless 4 = .ok (.invokevirtual 96, 3) := qdL_squareless_0_13.2.2.2.2.1
theorem dL_squareless_7 : decode cL_squareless 7 = .ok (.i2l, 1) := qdL_squareless_0_13.2.2.2.2.2.1
theorem dL_squareless_8 : decode cL_squareless 8 = .ok (.putfield 13, 3) := qdL_squareless_0_13.2.2.2.2.2.2.1
theorem dL_squareless_11 : decode cL_squareless 11 = .ok (.goto 7, 3) := qdL_squareless_0_13.2.2.2.2.2.2.2.1
theorem dL_squareless_14 : decode cL_squareless 14 = .ok (.astore 4, 2) := qdL_squareless_0_13.2.2.2.2.2.2.2.2.1
theorem dL_squareless_16 : decode cL_squareless 16 = .ok (.iconst 1, 1) := qdL_squareless_0_13.2.2.2.2.2.2.2.2.2.1
theorem dL_squareless_17 : decode cL_squareless 17 = .ok (.ireturn, 1) := qdL_squareless_0_13.2.2.2.2.2.2.2.2.2.2.1
theorem dL_squareless_18 : decode cL_squareless 18 = .ok (.iconst 0, 1) := qdL_squareless_0_13.2.2.2.2.2.2.2.2.2.2.2.1
theorem dL_squareless_19 : decode cL_squareless 19 = .ok (.ireturn, 1) := qdL_squareless_0_13.2.2.2.2.2.2.2.2.2.2.2.2.1
theorem ggL_apart_X7_apart : GoodIn wsL_apart wsX7_apart := fun w h => ⟨List.mem_cons_of_mem _ (List.mem_append_right _ h), zq_X7_apart w h⟩
set_option maxRecDepth 20000 in
theorem gL_apart_X7_apart : GoodIn wsL_apart (wsV RL 99 RX7 yX7_apart wsX7_apart) := goodIn_app (goodIn_r _ [2, 3, 4, 5] rfl rfl) ggL_apart_X7_apart
theorem qdL_apart_0_13 : dcAll cL_apart [(0, .aload_n 3, 1), (1, .aload_n 0, 1), (2, .iload_n 1, 1), (3, .iload_n 2, 1), (4, .invokevirtual 99, 3), (7, .i2l, 1), (8, .putfield 13, 3), (11, .goto 7, 3), (14, .astore 4, 2), (16, .iconst 1, 1), (17, .ireturn, 1), (18, .iconst 0, 1), (19, .ireturn, 1)] := dcAll_of (by decide +kernel)
theorem dL_apart_0 : decode cL_apart 0 = .ok (.aload_n 3, 1) := qdL_apart_0_13.1
theorem dL_apart_1 : decode cL_apart 1 = .ok (.aload_n 0, 1) := qdL_apart_0_13.2.1
theorem dL_apart_2 : decode cL_apart 2 = .ok (.iload_n 1, 1) := qdL_apart_0_13.2.2.1
theorem dL_apart_3 : decode cL_apart 3 = .ok (.iload_n 2, 1) := qdL_apart_0_13.2.2.2.1
theorem dL_apart_4 : decode cL_apart 4 = .ok (.invokevirtual 99, 3) := qdL_apart_0_13.2.2.2.2.1
theorem dL_apart_7 : decode cL_apart 7 = .ok (.i2l, 1) := qdL_apart_0_13.2.2.2.2.2.1
theorem dL_apart_8 : decode cL_apart 8 = .ok (.putfield 13, 3) := qdL_apart_0_13.2.2.2.2.2.2.1
theorem dL_apart_11 : decode cL_apart 11 = .ok (.goto 7, 3) := qdL_apart_0_13.2.2.2.2.2.2.2.1
theorem dL_apart_14 : decode cL_apart 14 = .ok (.astore 4, 2) := qdL_apart_0_13.2.2.2.2.2.2.2.2.1
theorem dL_apart_16 : decode cL_apart 16 = .ok (.iconst 1, 1) := qdL_apart_0_13.2.2.2.2.2.2.2.2.2.1
theorem dL_apart_17 : decode cL_apart 17 = .ok (.ireturn, 1) := qdL_apart_0_13.2.2.2.2.2.2.2.2.2.2.1
theorem dL_apart_18 : decode cL_apart 18 = .ok (.iconst 0, 1) := qdL_apart_0_13.2.2.2.2.2.2.2.2.2.2.2.1
theorem dL_apart_19 : decode cL_apart 19 = .ok (.ireturn, 1) := qdL_apart_0_13.2.2.2.2.2.2.2.2.2.2.2.2.1
theorem ggL_shared_X7_shared : GoodIn wsL_shared wsX7_shared := fun w h => ⟨List.mem_cons_of_mem _ (List.mem_append_right _ h), zq_X7_shared w h⟩
set_option maxRecDepth 20000 in
theorem gL_shared_X7_shared : GoodIn wsL_shared (wsV RL 102 RX7 yX7_shared wsX7_shared) := goodIn_app (goodIn_r _ [2, 3, 4, 5] rfl rfl) ggL_shared_X7_shared
theorem qdL_shared_0_14 : dcAll cL_shared [(0, .aload 4, 2), (2, .aload_n 0, 1), (3, .iload_n 1, 1), (4, .iload_n 2, 1), (5, .iload_n 3, 1), (6, .invokevirtual 102, 3), (9, .i2l, 1), (10, .putfield 13, 3), (13, .goto 7, 3), (16, .astore 5, 2), (18, .iconst 1, 1), (19, .ireturn, 1), (20, .iconst 0, 1), (21, .ireturn, 1)] := dcAll_of (by decide +kernel)
theorem dL_shared_0 : decode cL_shared 0 = .ok (.aload 4, 2) := qdL_shared_0_14.1
theorem dL_shared_2 : decode cL_shared 2 = .ok (.aload_n 0, 1) := qdL_shared_0_14.2.1
theorem dL_shared_3 : decode cL_shared 3 = .ok (.iload_n 1, 1) := qdL_shared_0_14.2.2.1
theorem dL_shared_4 : decode cL_shared 4 = .ok (.iload_n 2, 1) := qdL_shared_0_14.2.2.2.1
theorem dL_shared_5 : decode cL_shared 5 = .ok (.iload_n 3, 1) := qdL_shared_0_14.2.2.2.2.1
theorem dL_shared_6 : decode cL_shared 6 = .ok (.invokevirtual 102, 3) := qdL_shared_0_14.2.2.2.2.2.1
theorem dL_shared_9 : decode cL_shared 9 = .ok (.i2l, 1) := qdL_shared_0_14.2.2.2.2.2.2.1
theorem dL_shared_10 : decode cL_shared 10 = .ok (.putfield 13, 3) := qdL_shared_0_14.2.2.2.2.2.2.2.1
theorem dL_shared_13 : decode cL_shared 13 = .ok (.goto 7, 3) := qdL_shared_0_14.2.2.2.2.2.2.2.2.1
theorem dL_shared_16 : decode cL_shared 16 = .ok (.astore 5, 2) := qdL_shared_0_14.2.2.2.2.2.2.2.2.2.1
theorem dL_shared_18 : decode cL_shared 18 = .ok (.iconst 1, 1) := qdL_shared_0_14.2.2.2.2.2.2.2.2.2.2.1
theorem dL_shared_19 : decode cL_shared 19 = .ok (.ireturn, 1) := qdL_shared_0_14.2.2.2.2.2.2.2.2.2.2.2.1
theorem dL_shared_20 : decode cL_shared 20 = .ok (.iconst 0, 1) := qdL_shared_0_14.2.2.2.2.2.2.2.2.2.2.2.2.1
theorem dL_shared_21 : decode cL_shared 21 = .ok (.ireturn, 1) := qdL_shared_0_14.2.2.2.2.2.2.2.2.2.2.2.2.2.1
theorem ggL_divisor_X7_divisor : GoodIn wsL_divisor wsX7_divisor := fun w h => ⟨List.mem_cons_of_mem _ (List.mem_append_right _ h), zq_X7_divisor w h⟩
set_option maxRecDepth 20000 in
theorem gL_divisor_X7_divisor : GoodIn wsL_divisor (wsV RL 105 RX7 yX7_divisor wsX7_divisor) := goodIn_app (goodIn_r _ [2, 3, 4, 5] rfl rfl) ggL_divisor_X7_divisor
theorem qdL_divisor_0_13 : dcAll cL_divisor [(0, .aload_n 3, 1), (1, .aload_n 0, 1), (2, .iload_n 1, 1), (3, .iload_n 2, 1), (4, .invokevirtual 105, 3), (7, .i2l, 1), (8, .putfield 13, 3), (11, .goto 7, 3), (14, .astore 4, 2), (16, .iconst 1, 1), (17, .ireturn, 1), (18, .iconst 0, 1), (19, .ireturn, 1)] := dcAll_of (by decide +kernel)
theorem dL_divisor_0 : decode cL_divisor 0 = .ok (.aload_n 3, 1) := qdL_divisor_0_13.1
theorem dL_divisor_1 : decode cL_divisor 1 = .ok (.aload_n 0, 1) := qdL_divisor_0_13.2.1
theorem dL_divisor_2 : decode cL_divisor 2 = .ok (.iload_n 1, 1) := qdL_divisor_0_13.2.2.1
theorem dL_divisor_3 : decode cL_divisor 3 = .ok (.iload_n 2, 1) := qdL_divisor_0_13.2.2.2.1
theorem dL_divisor_4 : decode cL_divisor 4 = .ok (.invokevirtual 105, 3) := qdL_divisor_0_13.2.2.2.2.1
theorem dL_divisor_7 : decode cL_divisor 7 = .ok (.i2l, 1) := qdL_divisor_0_13.2.2.2.2.2.1
theorem dL_divisor_8 : decode cL_divisor 8 = .ok (.putfield 13, 3) := qdL_divisor_0_13.2.2.2.2.2.2.1
theorem dL_divisor_11 : decode cL_divisor 11 = .ok (.goto 7, 3) := qdL_divisor_0_13.2.2.2.2.2.2.2.1
theorem dL_divisor_14 : decode cL_divisor 14 = .ok (.astore 4, 2) := qdL_divisor_0_13.2.2.2.2.2.2.2.2.1
theorem dL_divisor_16 : decode cL_divisor 16 = .ok (.iconst 1, 1) := qdL_divisor_0_13.2.2.2.2.2.2.2.2.2.1
theorem dL_divisor_17 : decode cL_divisor 17 = .ok (.ireturn, 1) := qdL_divisor_0_13.2.2.2.2.2.2.2.2.2.2.1
theorem dL_divisor_18 : decode cL_divisor 18 = .ok (.iconst 0, 1) := qdL_divisor_0_13.2.2.2.2.2.2.2.2.2.2.2.1
theorem dL_divisor_19 : decode cL_divisor 19 = .ok (.ireturn, 1) := qdL_divisor_0_13.2.2.2.2.2.2.2.2.2.2.2.2.1
theorem ggL_powers_X7_powers : GoodIn wsL_powers wsX7_powers := fun w h => ⟨List.mem_cons_of_mem _ (List.mem_append_right _ h), zq_X7_powers w h⟩
set_option maxRecDepth 20000 in
theorem gL_powers_X7_powers : GoodIn wsL_powers (wsV RL 108 RX7 yX7_powers wsX7_powers) := goodIn_app (goodIn_r _ [2, 3, 4, 5] rfl rfl) ggL_powers_X7_powers
theorem qdL_powers_0_11 : dcAll cL_powers [(0, .aload_n 2, 1), (1, .aload_n 0, 1), (2, .iload_n 1, 1), (3, .invokevirtual 108, 3), (6, .putfield 53, 3), (9, .goto 6, 3), (12, .astore_n 3, 1), (13, .iconst 1, 1), (14, .ireturn, 1), (15, .iconst 0, 1), (16, .ireturn, 1)] := dcAll_of (by decide +kernel)
theorem dL_powers_0 : decode cL_powers 0 = .ok (.aload_n 2, 1) := qdL_powers_0_11.1
theorem dL_powers_1 : decode cL_powers 1 = .ok (.aload_n 0, 1) := qdL_powers_0_11.2.1
theorem dL_powers_2 : decode cL_powers 2 = .ok (.iload_n 1, 1) := qdL_powers_0_11.2.2.1
theorem dL_powers_3 : decode cL_powers 3 = .ok (.invokevirtual 108, 3) := qdL_powers_0_11.2.2.2.1
theorem dL_powers_6 : decode cL_powers 6 = .ok (.putfield 53, 3) := qdL_powers_0_11.2.2.2.2.1
theorem dL_powers_9 : decode cL_powers 9 = .ok (.goto 6, 3) := qdL_powers_0_11.2.2.2.2.2.1
theorem dL_powers_12 : decode cL_powers 12 = .ok (.astore_n 3, 1) := qdL_powers_0_11.2.2.2.2.2.2.1
theorem dL_powers_13 : decode cL_powers 13 = .ok (.iconst 1, 1) := qdL_powers_0_11.2.2.2.2.2.2.2.1
theorem dL_powers_14 : decode cL_powers 14 = .ok (.ireturn, 1) := qdL_powers_0_11.2.2.2.2.2.2.2.2.1
theorem dL_powers_15 : decode cL_powers 15 = .ok (.iconst 0, 1) := qdL_powers_0_11.2.2.2.2.2.2.2.2.2.1
theorem dL_powers_16 : decode cL_powers 16 = .ok (.ireturn, 1) := qdL_powers_0_11.2.2.2.2.2.2.2.2.2.2.1
theorem ggL_house_X7_house : GoodIn wsL_house wsX7_house := fun w h => ⟨List.mem_cons_of_mem _ (List.mem_append_right _ h), zq_X7_house w h⟩
set_option maxRecDepth 20000 in
theorem gL_house_X7_house : GoodIn wsL_house (wsV RL 112 RX7 yX7_house wsX7_house) := goodIn_app (goodIn_r _ [2, 3, 4, 5] rfl rfl) ggL_house_X7_house
theorem qdL_house_0_12 : dcAll cL_house [(0, .aload_n 2, 1), (1, .aload_n 0, 1), (2, .iload_n 1, 1), (3, .invokevirtual 112, 3), (6, .i2l, 1), (7, .putfield 13, 3), (10, .goto 6, 3), (13, .astore_n 3, 1), (14, .iconst 1, 1), (15, .ireturn, 1), (16, .iconst 0, 1), (17, .ireturn, 1)] := dcAll_of (by decide +kernel)
theorem dL_house_0 : decode cL_house 0 = .ok (.aload_n 2, 1) := qdL_house_0_12.1
theorem dL_house_1 : decode cL_house 1 = .ok (.aload_n 0, 1) := qdL_house_0_12.2.1
theorem dL_house_2 : decode cL_house 2 = .ok (.iload_n 1, 1) := qdL_house_0_12.2.2.1
theorem dL_house_3 : decode cL_house 3 = .ok (.invokevirtual 112, 3) := qdL_house_0_12.2.2.2.1
theorem dL_house_6 : decode cL_house 6 = .ok (.i2l, 1) := qdL_house_0_12.2.2.2.2.1
theorem dL_house_7 : decode cL_house 7 = .ok (.putfield 13, 3) := qdL_house_0_12.2.2.2.2.2.1
theorem dL_house_10 : decode cL_house 10 = .ok (.goto 6, 3) := qdL_house_0_12.2.2.2.2.2.2.1
theorem dL_house_13 : decode cL_house 13 = .ok (.astore_n 3, 1) := qdL_house_0_12.2.2.2.2.2.2.2.1
theorem dL_house_14 : decode cL_house 14 = .ok (.iconst 1, 1) := qdL_house_0_12.2.2.2.2.2.2.2.2.1
theorem dL_house_15 : decode cL_house 15 = .ok (.ireturn, 1) := qdL_house_0_12.2.2.2.2.2.2.2.2.2.1
theorem dL_house_16 : decode cL_house 16 = .ok (.iconst 0, 1) := qdL_house_0_12.2.2.2.2.2.2.2.2.2.2.1
theorem dL_house_17 : decode cL_house 17 = .ok (.ireturn, 1) := qdL_house_0_12.2.2.2.2.2.2.2.2.2.2.2.1
theorem qdL_law_0_24 : dcAll cL_law [(0, .new 8, 3), (3, .dup, 1), (4, .invokespecial 116, 3), (7, .astore_n 1, 1), (8, .new 117, 3), (11, .dup, 1), (12, .invokespecial 119, 3), (15, .astore_n 2, 1), (16, .new 14, 3), (19, .dup, 1), (20, .invokespecial 120, 3), (23, .astore_n 3, 1), (24, .iconst 0, 1), (25, .istore 4, 2), (27, .iload 4, 2), (29, .aload_n 0, 1), (30, .arraylength, 1), (31, .iconst 5, 1), (32, .isub, 1), (33, .if_icmp .gt 1468, 3), (36, .aload_n 0, 1), (37, .iload 4, 2), (39, .iaload, 1), (40, .bipush 31, 2)] := dcAll_of (by decide +kernel)
theorem dL_law_0 : decode cL_law 0 = .ok (.new 8, 3) := qdL_law_0_24.1
theorem dL_law_3 : decode cL_law 3 = .ok (.dup, 1) := qdL_law_0_24.2.1
theorem dL_law_4 : decode cL_law 4 = .ok (.invokespecial 116, 3) := qdL_law_0_24.2.2.1
theorem dL_law_7 : decode cL_law 7 = .ok (.astore_n 1, 1) := qdL_law_0_24.2.2.2.1
theorem dL_law_8 : decode cL_law 8 = .ok (.new 117, 3) := qdL_law_0_24.2.2.2.2.1
theorem dL_law_11 : decode cL_law 11 = .ok (.dup, 1) := qdL_law_0_24.2.2.2.2.2.1
theorem dL_law_12 : decode cL_law 12 = .ok (.invokespecial 119, 3) := qdL_law_0_24.2.2.2.2.2.2.1
theorem dL_law_15 : decode cL_law 15 = .ok (.astore_n 2, 1) := qdL_law_0_24.2.2.2.2.2.2.2.1
theorem dL_law_16 : decode cL_law 16 = .ok (.new 14, 3) := qdL_law_0_24.2.2.2.2.2.2.2.2.1
theorem dL_law_19 : decode cL_law 19 = .ok (.dup, 1) := qdL_law_0_24.2.2.2.2.2.2.2.2.2.1
theorem dL_law_20 : decode cL_law 20 = .ok (.invokespecial 120, 3) := qdL_law_0_24.2.2.2.2.2.2.2.2.2.2.1
theorem dL_law_23 : decode cL_law 23 = .ok (.astore_n 3, 1) := qdL_law_0_24.2.2.2.2.2.2.2.2.2.2.2.1
theorem dL_law_24 : decode cL_law 24 = .ok (.iconst 0, 1) := qdL_law_0_24.2.2.2.2.2.2.2.2.2.2.2.2.1
theorem dL_law_25 : decode cL_law 25 = .ok (.istore 4, 2) := qdL_law_0_24.2.2.2.2.2.2.2.2.2.2.2.2.2.1
theorem dL_law_27 : decode cL_law 27 = .ok (.iload 4, 2) := qdL_law_0_24.2.2.2.2.2.2.2.2.2.2.2.2.2.2.1
theorem dL_law_29 : decode cL_law 29 = .ok (.aload_n 0, 1) := qdL_law_0_24.2.2.2.2.2.2.2.2.2.2.2.2.2.2.2.1
theorem dL_law_30 : decode cL_law 30 = .ok (.arraylength, 1) := qdL_law_0_24.2.2.2.2.2.2.2.2.2.2.2.2.2.2.2.2.1
theorem dL_law_31 : decode cL_law 31 = .ok (.iconst 5, 1) := qdL_law_0_24.2.2.2.2.2.2.2.2.2.2.2.2.2.2.2.2.2.1
theorem dL_law_32 : decode cL_law 32 = .ok (.isub, 1) := qdL_law_0_24.2.2.2.2.2.2.2.2.2.2.2.2.2.2.2.2.2.2.1
theorem dL_law_33 : decode cL_law 33 = .ok (.if_icmp .gt 1468, 3) := qdL_law_0_24.2.2.2.2.2.2.2.2.2.2.2.2.2.2.2.2.2.2.2.1
theorem dL_law_36 : decode cL_law 36 = .ok (.aload_n 0, 1) := qdL_law_0_24.2.2.2.2.2.2.2.2.2.2.2.2.2.2.2.2.2.2.2.2.1
theorem dL_law_37 : decode cL_law 37 = .ok (.iload 4, 2) := qdL_law_0_24.2.2.2.2.2.2.2.2.2.2.2.2.2.2.2.2.2.2.2.2.2.1
theorem dL_law_39 : decode cL_law 39 = .ok (.iaload, 1) := qdL_law_0_24.2.2.2.2.2.2.2.2.2.2.2.2.2.2.2.2.2.2.2.2.2.2.1
theorem dL_law_40 : decode cL_law 40 = .ok (.bipush 31, 2) := qdL_law_0_24.2.2.2.2.2.2.2.2.2.2.2.2.2.2.2.2.2.2.2.2.2.2.2.1
theorem qdL_law_42_24 : dcAll cL_law [(42, .iand, 1), (43, .tableswitch 1452 0 29 #[133, 173, 225, 289, 341, 381, 421, 485, 537, 589, 629, 697, 737, 813, 853, 917, 969, 1009, 1049, 1089, 1129, 1169, 1209, 1249, 1317, 1357, 1385, 1413, 1426, 1439], 133), (176, .aload_n 1, 1), (177, .aload_n 0, 1), (178, .iload 4, 2), (180, .iconst 1, 1), (181, .iadd, 1), (182, .iaload, 1), (183, .aload_n 0, 1), (184, .iload 4, 2), (186, .iconst 2, 1), (187, .iadd, 1), (188, .iaload, 1), (189, .aload_n 3, 1), (190, .invokestatic 121, 3), (193, .istore 5, 2), (195, .aload_n 2, 1), (196, .aload_n 0, 1), (197, .iload 4, 2), (199, .iconst 1, 1), (200, .iadd, 1), (201, .iaload, 1), (202, .aload_n 0, 1), (203, .iload 4, 2)] := dcAll_of (by decide +kernel)
theorem dL_law_42 : decode cL_law 42 = .ok (.iand, 1) := qdL_law_42_24.1
theorem dL_law_43 : decode cL_law 43 = .ok (.tableswitch 1452 0 29 #[133, 173, 225, 289, 341, 381, 421, 485, 537, 589, 629, 697, 737, 813, 853, 917, 969, 1009, 1049, 1089, 1129, 1169, 1209, 1249, 1317, 1357, 1385, 1413, 1426, 1439], 133) := qdL_law_42_24.2.1
theorem dL_law_176 : decode cL_law 176 = .ok (.aload_n 1, 1) := qdL_law_42_24.2.2.1
theorem dL_law_177 : decode cL_law 177 = .ok (.aload_n 0, 1) := qdL_law_42_24.2.2.2.1
theorem dL_law_178 : decode cL_law 178 = .ok (.iload 4, 2) := qdL_law_42_24.2.2.2.2.1
theorem dL_law_180 : decode cL_law 180 = .ok (.iconst 1, 1) := qdL_law_42_24.2.2.2.2.2.1
theorem dL_law_181 : decode cL_law 181 = .ok (.iadd, 1) := qdL_law_42_24.2.2.2.2.2.2.1
theorem dL_law_182 : decode cL_law 182 = .ok (.iaload, 1) := qdL_law_42_24.2.2.2.2.2.2.2.1
theorem dL_law_183 : decode cL_law 183 = .ok (.aload_n 0, 1) := qdL_law_42_24.2.2.2.2.2.2.2.2.1
theorem dL_law_184 : decode cL_law 184 = .ok (.iload 4, 2) := qdL_law_42_24.2.2.2.2.2.2.2.2.2.1
theorem dL_law_186 : decode cL_law 186 = .ok (.iconst 2, 1) := qdL_law_42_24.2.2.2.2.2.2.2.2.2.2.1
theorem dL_law_187 : decode cL_law 187 = .ok (.iadd, 1) := qdL_law_42_24.2.2.2.2.2.2.2.2.2.2.2.1
theorem dL_law_188 : decode cL_law 188 = .ok (.iaload, 1) := qdL_law_42_24.2.2.2.2.2.2.2.2.2.2.2.2.1
theorem dL_law_189 : decode cL_law 189 = .ok (.aload_n 3, 1) := qdL_law_42_24.2.2.2.2.2.2.2.2.2.2.2.2.2.1
theorem dL_law_190 : decode cL_law 190 = .ok (.invokestatic 121, 3) := qdL_law_42_24.2.2.2.2.2.2.2.2.2.2.2.2.2.2.1
theorem dL_law_193 : decode cL_law 193 = .ok (.istore 5, 2) := qdL_law_42_24.2.2.2.2.2.2.2.2.2.2.2.2.2.2.2.1
theorem dL_law_195 : decode cL_law 195 = .ok (.aload_n 2, 1) := qdL_law_42_24.2.2.2.2.2.2.2.2.2.2.2.2.2.2.2.2.1
theorem dL_law_196 : decode cL_law 196 = .ok (.aload_n 0, 1) := qdL_law_42_24.2.2.2.2.2.2.2.2.2.2.2.2.2.2.2.2.2.1
theorem dL_law_197 : decode cL_law 197 = .ok (.iload 4, 2) := qdL_law_42_24.2.2.2.2.2.2.2.2.2.2.2.2.2.2.2.2.2.2.1
theorem dL_law_199 : decode cL_law 199 = .ok (.iconst 1, 1) := qdL_law_42_24.2.2.2.2.2.2.2.2.2.2.2.2.2.2.2.2.2.2.2.1
theorem dL_law_200 : decode cL_law 200 = .ok (.iadd, 1) := qdL_law_42_24.2.2.2.2.2.2.2.2.2.2.2.2.2.2.2.2.2.2.2.2.1
theorem dL_law_201 : decode cL_law 201 = .ok (.iaload, 1) := qdL_law_42_24.2.2.2.2.2.2.2.2.2.2.2.2.2.2.2.2.2.2.2.2.2.1
theorem dL_law_202 : decode cL_law 202 = .ok (.aload_n 0, 1) := qdL_law_42_24.2.2.2.2.2.2.2.2.2.2.2.2.2.2.2.2.2.2.2.2.2.2.1
theorem dL_law_203 : decode cL_law 203 = .ok (.iload 4, 2) := qdL_law_42_24.2.2.2.2.2.2.2.2.2.2.2.2.2.2.2.2.2.2.2.2.2.2.2.1
theorem qdL_law_205_24 : dcAll cL_law [(205, .iconst 2, 1), (206, .iadd, 1), (207, .iaload, 1), (208, .invokevirtual 126, 3), (211, .istore 6, 2), (213, .goto 1282, 3), (216, .aload_n 1, 1), (217, .aload_n 0, 1), (218, .iload 4, 2), (220, .iconst 1, 1), (221, .iadd, 1), (222, .iaload, 1), (223, .aload_n 0, 1), (224, .iload 4, 2), (226, .iconst 2, 1), (227, .iadd, 1), (228, .iaload, 1), (229, .aload_n 0, 1), (230, .iload 4, 2), (232, .iconst 3, 1), (233, .iadd, 1), (234, .iaload, 1), (235, .aload_n 3, 1), (236, .invokestatic 127, 3)] := dcAll_of (by decide +kernel)
theorem dL_law_205 : decode cL_law 205 = .ok (.iconst 2, 1) := qdL_law_205_24.1
theorem dL_law_206 : decode cL_law 206 = .ok (.iadd, 1) := qdL_law_205_24.2.1
theorem dL_law_207 : decode cL_law 207 = .ok (.iaload, 1) := qdL_law_205_24.2.2.1
theorem dL_law_208 : decode cL_law 208 = .ok (.invokevirtual 126, 3) := qdL_law_205_24.2.2.2.1
theorem dL_law_211 : decode cL_law 211 = .ok (.istore 6, 2) := qdL_law_205_24.2.2.2.2.1
theorem dL_law_213 : decode cL_law 213 = .ok (.goto 1282, 3) := qdL_law_205_24.2.2.2.2.2.1
theorem dL_law_216 : decode cL_law 216 = .ok (.aload_n 1, 1) := qdL_law_205_24.2.2.2.2.2.2.1
theorem dL_law_217 : decode cL_law 217 = .ok (.aload_n 0, 1) := qdL_law_205_24.2.2.2.2.2.2.2.1
theorem dL_law_218 : decode cL_law 218 = .ok (.iload 4, 2) := qdL_law_205_24.2.2.2.2.2.2.2.2.1
theorem dL_law_220 : decode cL_law 220 = .ok (.iconst 1, 1) := qdL_law_205_24.2.2.2.2.2.2.2.2.2.1
theorem dL_law_221 : decode cL_law 221 = .ok (.iadd, 1) := qdL_law_205_24.2.2.2.2.2.2.2.2.2.2.1
theorem dL_law_222 : decode cL_law 222 = .ok (.iaload, 1) := qdL_law_205_24.2.2.2.2.2.2.2.2.2.2.2.1
theorem dL_law_223 : decode cL_law 223 = .ok (.aload_n 0, 1) := qdL_law_205_24.2.2.2.2.2.2.2.2.2.2.2.2.1
theorem dL_law_224 : decode cL_law 224 = .ok (.iload 4, 2) := qdL_law_205_24.2.2.2.2.2.2.2.2.2.2.2.2.2.1
theorem dL_law_226 : decode cL_law 226 = .ok (.iconst 2, 1) := qdL_law_205_24.2.2.2.2.2.2.2.2.2.2.2.2.2.2.1
theorem dL_law_227 : decode cL_law 227 = .ok (.iadd, 1) := qdL_law_205_24.2.2.2.2.2.2.2.2.2.2.2.2.2.2.2.1
theorem dL_law_228 : decode cL_law 228 = .ok (.iaload, 1) := qdL_law_205_24.2.2.2.2.2.2.2.2.2.2.2.2.2.2.2.2.1
theorem dL_law_229 : decode cL_law 229 = .ok (.aload_n 0, 1) := qdL_law_205_24.2.2.2.2.2.2.2.2.2.2.2.2.2.2.2.2.2.1
theorem dL_law_230 : decode cL_law 230 = .ok (.iload 4, 2) := qdL_law_205_24.2.2.2.2.2.2.2.2.2.2.2.2.2.2.2.2.2.2.1
theorem dL_law_232 : decode cL_law 232 = .ok (.iconst 3, 1) := qdL_law_205_24.2.2.2.2.2.2.2.2.2.2.2.2.2.2.2.2.2.2.2.1
theorem dL_law_233 : decode cL_law 233 = .ok (.iadd, 1) := qdL_law_205_24.2.2.2.2.2.2.2.2.2.2.2.2.2.2.2.2.2.2.2.2.1
theorem dL_law_234 : decode cL_law 234 = .ok (.iaload, 1) := qdL_law_205_24.2.2.2.2.2.2.2.2.2.2.2.2.2.2.2.2.2.2.2.2.2.1
theorem dL_law_235 : decode cL_law 235 = .ok (.aload_n 3, 1) := qdL_law_205_24.2.2.2.2.2.2.2.2.2.2.2.2.2.2.2.2.2.2.2.2.2.2.1
theorem dL_law_236 : decode cL_law 236 = .ok (.invokestatic 127, 3) := qdL_law_205_24.2.2.2.2.2.2.2.2.2.2.2.2.2.2.2.2.2.2.2.2.2.2.2.1
theorem qdL_law_239_24 : dcAll cL_law [(239, .istore 5, 2), (241, .aload_n 2, 1), (242, .aload_n 0, 1), (243, .iload 4, 2), (245, .iconst 1, 1), (246, .iadd, 1), (247, .iaload, 1), (248, .aload_n 0, 1), (249, .iload 4, 2), (251, .iconst 2, 1), (252, .iadd, 1), (253, .iaload, 1), (254, .aload_n 0, 1), (255, .iload 4, 2), (257, .iconst 3, 1), (258, .iadd, 1), (259, .iaload, 1), (260, .invokevirtual 130, 3), (263, .istore 6, 2), (265, .goto 1230, 3), (268, .aload_n 1, 1), (269, .aload_n 0, 1), (270, .iload 4, 2), (272, .iconst 1, 1)] := dcAll_of (by decide +kernel)
theorem dL_law_239 : decode cL_law 239 = .ok (.istore 5, 2) := qdL_law_239_24.1
theorem dL_law_241 : decode cL_law 241 = .ok (.aload_n 2, 1) := qdL_law_239_24.2.1
theorem dL_law_242 : decode cL_law 242 = .ok (.aload_n 0, 1) := qdL_law_239_24.2.2.1
theorem dL_law_243 : decode cL_law 243 = .ok (.iload 4, 2) := qdL_law_239_24.2.2.2.1
theorem dL_law_245 : decode cL_law 245 = .ok (.iconst 1, 1) := qdL_law_239_24.2.2.2.2.1
theorem dL_law_246 : decode cL_law 246 = .ok (.iadd, 1) := qdL_law_239_24.2.2.2.2.2.1
theorem dL_law_247 : decode cL_law 247 = .ok (.iaload, 1) := qdL_law_239_24.2.2.2.2.2.2.1
theorem dL_law_248 : decode cL_law 248 = .ok (.aload_n 0, 1) := qdL_law_239_24.2.2.2.2.2.2.2.1
theorem dL_law_249 : decode cL_law 249 = .ok (.iload 4, 2) := qdL_law_239_24.2.2.2.2.2.2.2.2.1
theorem dL_law_251 : decode cL_law 251 = .ok (.iconst 2, 1) := qdL_law_239_24.2.2.2.2.2.2.2.2.2.1
theorem dL_law_252 : decode cL_law 252 = .ok (.iadd, 1) := qdL_law_239_24.2.2.2.2.2.2.2.2.2.2.1
theorem dL_law_253 : decode cL_law 253 = .ok (.iaload, 1) := qdL_law_239_24.2.2.2.2.2.2.2.2.2.2.2.1
theorem dL_law_254 : decode cL_law 254 = .ok (.aload_n 0, 1) := qdL_law_239_24.2.2.2.2.2.2.2.2.2.2.2.2.1
theorem dL_law_255 : decode cL_law 255 = .ok (.iload 4, 2) := qdL_law_239_24.2.2.2.2.2.2.2.2.2.2.2.2.2.1
theorem dL_law_257 : decode cL_law 257 = .ok (.iconst 3, 1) := qdL_law_239_24.2.2.2.2.2.2.2.2.2.2.2.2.2.2.1
theorem dL_law_258 : decode cL_law 258 = .ok (.iadd, 1) := qdL_law_239_24.2.2.2.2.2.2.2.2.2.2.2.2.2.2.2.1
theorem dL_law_259 : decode cL_law 259 = .ok (.iaload, 1) := qdL_law_239_24.2.2.2.2.2.2.2.2.2.2.2.2.2.2.2.2.1
theorem dL_law_260 : decode cL_law 260 = .ok (.invokevirtual 130, 3) := qdL_law_239_24.2.2.2.2.2.2.2.2.2.2.2.2.2.2.2.2.2.1
theorem dL_law_263 : decode cL_law 263 = .ok (.istore 6, 2) := qdL_law_239_24.2.2.2.2.2.2.2.2.2.2.2.2.2.2.2.2.2.2.1
theorem dL_law_265 : decode cL_law 265 = .ok (.goto 1230, 3) := qdL_law_239_24.2.2.2.2.2.2.2.2.2.2.2.2.2.2.2.2.2.2.2.1
theorem dL_law_268 : decode cL_law 268 = .ok (.aload_n 1, 1) := qdL_law_239_24.2.2.2.2.2.2.2.2.2.2.2.2.2.2.2.2.2.2.2.2.1
theorem dL_law_269 : decode cL_law 269 = .ok (.aload_n 0, 1) := qdL_law_239_24.2.2.2.2.2.2.2.2.2.2.2.2.2.2.2.2.2.2.2.2.2.1
theorem dL_law_270 : decode cL_law 270 = .ok (.iload 4, 2) := qdL_law_239_24.2.2.2.2.2.2.2.2.2.2.2.2.2.2.2.2.2.2.2.2.2.2.1
theorem dL_law_272 : decode cL_law 272 = .ok (.iconst 1, 1) := qdL_law_239_24.2.2.2.2.2.2.2.2.2.2.2.2.2.2.2.2.2.2.2.2.2.2.2.1
theorem qdL_law_273_24 : dcAll cL_law [(273, .iadd, 1), (274, .iaload, 1), (275, .aload_n 0, 1), (276, .iload 4, 2), (278, .iconst 2, 1), (279, .iadd, 1), (280, .iaload, 1), (281, .aload_n 0, 1), (282, .iload 4, 2), (284, .iconst 3, 1), (285, .iadd, 1), (286, .iaload, 1), (287, .aload_n 0, 1), (288, .iload 4, 2), (290, .iconst 4, 1), (291, .iadd, 1), (292, .iaload, 1), (293, .aload_n 3, 1), (294, .invokestatic 131, 3), (297, .istore 5, 2), (299, .aload_n 2, 1), (300, .aload_n 0, 1), (301, .iload 4, 2), (303, .iconst 1, 1)] := dcAll_of (by decide +kernel)
theorem dL_law_273 : decode cL_law 273 = .ok (.iadd, 1) := qdL_law_273_24.1
theorem dL_law_274 : decode cL_law 274 = .ok (.iaload, 1) := qdL_law_273_24.2.1
theorem dL_law_275 : decode cL_law 275 = .ok (.aload_n 0, 1) := qdL_law_273_24.2.2.1
theorem dL_law_276 : decode cL_law 276 = .ok (.iload 4, 2) := qdL_law_273_24.2.2.2.1
theorem dL_law_278 : decode cL_law 278 = .ok (.iconst 2, 1) := qdL_law_273_24.2.2.2.2.1
theorem dL_law_279 : decode cL_law 279 = .ok (.iadd, 1) := qdL_law_273_24.2.2.2.2.2.1
theorem dL_law_280 : decode cL_law 280 = .ok (.iaload, 1) := qdL_law_273_24.2.2.2.2.2.2.1
theorem dL_law_281 : decode cL_law 281 = .ok (.aload_n 0, 1) := qdL_law_273_24.2.2.2.2.2.2.2.1
theorem dL_law_282 : decode cL_law 282 = .ok (.iload 4, 2) := qdL_law_273_24.2.2.2.2.2.2.2.2.1
theorem dL_law_284 : decode cL_law 284 = .ok (.iconst 3, 1) := qdL_law_273_24.2.2.2.2.2.2.2.2.2.1
theorem dL_law_285 : decode cL_law 285 = .ok (.iadd, 1) := qdL_law_273_24.2.2.2.2.2.2.2.2.2.2.1
theorem dL_law_286 : decode cL_law 286 = .ok (.iaload, 1) := qdL_law_273_24.2.2.2.2.2.2.2.2.2.2.2.1
theorem dL_law_287 : decode cL_law 287 = .ok (.aload_n 0, 1) := qdL_law_273_24.2.2.2.2.2.2.2.2.2.2.2.2.1
theorem dL_law_288 : decode cL_law 288 = .ok (.iload 4, 2) := qdL_law_273_24.2.2.2.2.2.2.2.2.2.2.2.2.2.1
theorem dL_law_290 : decode cL_law 290 = .ok (.iconst 4, 1) := qdL_law_273_24.2.2.2.2.2.2.2.2.2.2.2.2.2.2.1
theorem dL_law_291 : decode cL_law 291 = .ok (.iadd, 1) := qdL_law_273_24.2.2.2.2.2.2.2.2.2.2.2.2.2.2.2.1
theorem dL_law_292 : decode cL_law 292 = .ok (.iaload, 1) := qdL_law_273_24.2.2.2.2.2.2.2.2.2.2.2.2.2.2.2.2.1
theorem dL_law_293 : decode cL_law 293 = .ok (.aload_n 3, 1) := qdL_law_273_24.2.2.2.2.2.2.2.2.2.2.2.2.2.2.2.2.2.1
theorem dL_law_294 : decode cL_law 294 = .ok (.invokestatic 131, 3) := qdL_law_273_24.2.2.2.2.2.2.2.2.2.2.2.2.2.2.2.2.2.2.1
theorem dL_law_297 : decode cL_law 297 = .ok (.istore 5, 2) := qdL_law_273_24.2.2.2.2.2.2.2.2.2.2.2.2.2.2.2.2.2.2.2.1
theorem dL_law_299 : decode cL_law 299 = .ok (.aload_n 2, 1) := qdL_law_273_24.2.2.2.2.2.2.2.2.2.2.2.2.2.2.2.2.2.2.2.2.1
theorem dL_law_300 : decode cL_law 300 = .ok (.aload_n 0, 1) := qdL_law_273_24.2.2.2.2.2.2.2.2.2.2.2.2.2.2.2.2.2.2.2.2.2.1
theorem dL_law_301 : decode cL_law 301 = .ok (.iload 4, 2) := qdL_law_273_24.2.2.2.2.2.2.2.2.2.2.2.2.2.2.2.2.2.2.2.2.2.2.1
theorem dL_law_303 : decode cL_law 303 = .ok (.iconst 1, 1) := qdL_law_273_24.2.2.2.2.2.2.2.2.2.2.2.2.2.2.2.2.2.2.2.2.2.2.2.1
theorem qdL_law_304_24 : dcAll cL_law [(304, .iadd, 1), (305, .iaload, 1), (306, .aload_n 0, 1), (307, .iload 4, 2), (309, .iconst 2, 1), (310, .iadd, 1), (311, .iaload, 1), (312, .aload_n 0, 1), (313, .iload 4, 2), (315, .iconst 3, 1), (316, .iadd, 1), (317, .iaload, 1), (318, .aload_n 0, 1), (319, .iload 4, 2), (321, .iconst 4, 1), (322, .iadd, 1), (323, .iaload, 1), (324, .invokevirtual 134, 3), (327, .istore 6, 2), (329, .goto 1166, 3), (332, .aload_n 1, 1), (333, .aload_n 0, 1), (334, .iload 4, 2), (336, .iconst 1, 1)] := dcAll_of (by decide +kernel)
theorem dL_law_304 : decode cL_law 304 = .ok (.iadd, 1) := qdL_law_304_24.1
theorem dL_law_305 : decode cL_law 305 = .ok (.iaload, 1) := qdL_law_304_24.2.1
theorem dL_law_306 : decode cL_law 306 = .ok (.aload_n 0, 1) := qdL_law_304_24.2.2.1
theorem dL_law_307 : decode cL_law 307 = .ok (.iload 4, 2) := qdL_law_304_24.2.2.2.1
theorem dL_law_309 : decode cL_law 309 = .ok (.iconst 2, 1) := qdL_law_304_24.2.2.2.2.1
theorem dL_law_310 : decode cL_law 310 = .ok (.iadd, 1) := qdL_law_304_24.2.2.2.2.2.1
theorem dL_law_311 : decode cL_law 311 = .ok (.iaload, 1) := qdL_law_304_24.2.2.2.2.2.2.1
theorem dL_law_312 : decode cL_law 312 = .ok (.aload_n 0, 1) := qdL_law_304_24.2.2.2.2.2.2.2.1
theorem dL_law_313 : decode cL_law 313 = .ok (.iload 4, 2) := qdL_law_304_24.2.2.2.2.2.2.2.2.1
theorem dL_law_315 : decode cL_law 315 = .ok (.iconst 3, 1) := qdL_law_304_24.2.2.2.2.2.2.2.2.2.1
theorem dL_law_316 : decode cL_law 316 = .ok (.iadd, 1) := qdL_law_304_24.2.2.2.2.2.2.2.2.2.2.1
theorem dL_law_317 : decode cL_law 317 = .ok (.iaload, 1) := qdL_law_304_24.2.2.2.2.2.2.2.2.2.2.2.1
theorem dL_law_318 : decode cL_law 318 = .ok (.aload_n 0, 1) := qdL_law_304_24.2.2.2.2.2.2.2.2.2.2.2.2.1
theorem dL_law_319 : decode cL_law 319 = .ok (.iload 4, 2) := qdL_law_304_24.2.2.2.2.2.2.2.2.2.2.2.2.2.1
theorem dL_law_321 : decode cL_law 321 = .ok (.iconst 4, 1) := qdL_law_304_24.2.2.2.2.2.2.2.2.2.2.2.2.2.2.1
theorem dL_law_322 : decode cL_law 322 = .ok (.iadd, 1) := qdL_law_304_24.2.2.2.2.2.2.2.2.2.2.2.2.2.2.2.1
theorem dL_law_323 : decode cL_law 323 = .ok (.iaload, 1) := qdL_law_304_24.2.2.2.2.2.2.2.2.2.2.2.2.2.2.2.2.1
theorem dL_law_324 : decode cL_law 324 = .ok (.invokevirtual 134, 3) := qdL_law_304_24.2.2.2.2.2.2.2.2.2.2.2.2.2.2.2.2.2.1
theorem dL_law_327 : decode cL_law 327 = .ok (.istore 6, 2) := qdL_law_304_24.2.2.2.2.2.2.2.2.2.2.2.2.2.2.2.2.2.2.1
theorem dL_law_329 : decode cL_law 329 = .ok (.goto 1166, 3) := qdL_law_304_24.2.2.2.2.2.2.2.2.2.2.2.2.2.2.2.2.2.2.2.1
theorem dL_law_332 : decode cL_law 332 = .ok (.aload_n 1, 1) := qdL_law_304_24.2.2.2.2.2.2.2.2.2.2.2.2.2.2.2.2.2.2.2.2.1
theorem dL_law_333 : decode cL_law 333 = .ok (.aload_n 0, 1) := qdL_law_304_24.2.2.2.2.2.2.2.2.2.2.2.2.2.2.2.2.2.2.2.2.2.1
theorem dL_law_334 : decode cL_law 334 = .ok (.iload 4, 2) := qdL_law_304_24.2.2.2.2.2.2.2.2.2.2.2.2.2.2.2.2.2.2.2.2.2.2.1
theorem dL_law_336 : decode cL_law 336 = .ok (.iconst 1, 1) := qdL_law_304_24.2.2.2.2.2.2.2.2.2.2.2.2.2.2.2.2.2.2.2.2.2.2.2.1
theorem qdL_law_337_24 : dcAll cL_law [(337, .iadd, 1), (338, .iaload, 1), (339, .aload_n 0, 1), (340, .iload 4, 2), (342, .iconst 2, 1), (343, .iadd, 1), (344, .iaload, 1), (345, .aload_n 0, 1), (346, .iload 4, 2), (348, .iconst 3, 1), (349, .iadd, 1), (350, .iaload, 1), (351, .aload_n 3, 1), (352, .invokestatic 135, 3), (355, .istore 5, 2), (357, .aload_n 2, 1), (358, .aload_n 0, 1), (359, .iload 4, 2), (361, .iconst 1, 1), (362, .iadd, 1), (363, .iaload, 1), (364, .aload_n 0, 1), (365, .iload 4, 2), (367, .iconst 2, 1)] := dcAll_of (by decide +kernel)
theorem dL_law_337 : decode cL_law 337 = .ok (.iadd, 1) := qdL_law_337_24.1
theorem dL_law_338 : decode cL_law 338 = .ok (.iaload, 1) := qdL_law_337_24.2.1
theorem dL_law_339 : decode cL_law 339 = .ok (.aload_n 0, 1) := qdL_law_337_24.2.2.1
theorem dL_law_340 : decode cL_law 340 = .ok (.iload 4, 2) := qdL_law_337_24.2.2.2.1
theorem dL_law_342 : decode cL_law 342 = .ok (.iconst 2, 1) := qdL_law_337_24.2.2.2.2.1
theorem dL_law_343 : decode cL_law 343 = .ok (.iadd, 1) := qdL_law_337_24.2.2.2.2.2.1
theorem dL_law_344 : decode cL_law 344 = .ok (.iaload, 1) := qdL_law_337_24.2.2.2.2.2.2.1
theorem dL_law_345 : decode cL_law 345 = .ok (.aload_n 0, 1) := qdL_law_337_24.2.2.2.2.2.2.2.1
theorem dL_law_346 : decode cL_law 346 = .ok (.iload 4, 2) := qdL_law_337_24.2.2.2.2.2.2.2.2.1
theorem dL_law_348 : decode cL_law 348 = .ok (.iconst 3, 1) := qdL_law_337_24.2.2.2.2.2.2.2.2.2.1
theorem dL_law_349 : decode cL_law 349 = .ok (.iadd, 1) := qdL_law_337_24.2.2.2.2.2.2.2.2.2.2.1
theorem dL_law_350 : decode cL_law 350 = .ok (.iaload, 1) := qdL_law_337_24.2.2.2.2.2.2.2.2.2.2.2.1
theorem dL_law_351 : decode cL_law 351 = .ok (.aload_n 3, 1) := qdL_law_337_24.2.2.2.2.2.2.2.2.2.2.2.2.1
theorem dL_law_352 : decode cL_law 352 = .ok (.invokestatic 135, 3) := qdL_law_337_24.2.2.2.2.2.2.2.2.2.2.2.2.2.1
theorem dL_law_355 : decode cL_law 355 = .ok (.istore 5, 2) := qdL_law_337_24.2.2.2.2.2.2.2.2.2.2.2.2.2.2.1
theorem dL_law_357 : decode cL_law 357 = .ok (.aload_n 2, 1) := qdL_law_337_24.2.2.2.2.2.2.2.2.2.2.2.2.2.2.2.1
theorem dL_law_358 : decode cL_law 358 = .ok (.aload_n 0, 1) := qdL_law_337_24.2.2.2.2.2.2.2.2.2.2.2.2.2.2.2.2.1
theorem dL_law_359 : decode cL_law 359 = .ok (.iload 4, 2) := qdL_law_337_24.2.2.2.2.2.2.2.2.2.2.2.2.2.2.2.2.2.1
theorem dL_law_361 : decode cL_law 361 = .ok (.iconst 1, 1) := qdL_law_337_24.2.2.2.2.2.2.2.2.2.2.2.2.2.2.2.2.2.2.1
theorem dL_law_362 : decode cL_law 362 = .ok (.iadd, 1) := qdL_law_337_24.2.2.2.2.2.2.2.2.2.2.2.2.2.2.2.2.2.2.2.1
theorem dL_law_363 : decode cL_law 363 = .ok (.iaload, 1) := qdL_law_337_24.2.2.2.2.2.2.2.2.2.2.2.2.2.2.2.2.2.2.2.2.1
theorem dL_law_364 : decode cL_law 364 = .ok (.aload_n 0, 1) := qdL_law_337_24.2.2.2.2.2.2.2.2.2.2.2.2.2.2.2.2.2.2.2.2.2.1
theorem dL_law_365 : decode cL_law 365 = .ok (.iload 4, 2) := qdL_law_337_24.2.2.2.2.2.2.2.2.2.2.2.2.2.2.2.2.2.2.2.2.2.2.1
theorem dL_law_367 : decode cL_law 367 = .ok (.iconst 2, 1) := qdL_law_337_24.2.2.2.2.2.2.2.2.2.2.2.2.2.2.2.2.2.2.2.2.2.2.2.1
theorem qdL_law_368_24 : dcAll cL_law [(368, .iadd, 1), (369, .iaload, 1), (370, .aload_n 0, 1), (371, .iload 4, 2), (373, .iconst 3, 1), (374, .iadd, 1), (375, .iaload, 1), (376, .invokevirtual 137, 3), (379, .istore 6, 2), (381, .goto 1114, 3), (384, .aload_n 1, 1), (385, .aload_n 0, 1), (386, .iload 4, 2), (388, .iconst 1, 1), (389, .iadd, 1), (390, .iaload, 1), (391, .aload_n 0, 1), (392, .iload 4, 2), (394, .iconst 2, 1), (395, .iadd, 1), (396, .iaload, 1), (397, .aload_n 3, 1), (398, .invokestatic 138, 3), (401, .istore 5, 2)] := dcAll_of (by decide +kernel)
theorem dL_law_368 : decode cL_law 368 = .ok (.iadd, 1) := qdL_law_368_24.1
theorem dL_law_369 : decode cL_law 369 = .ok (.iaload, 1) := qdL_law_368_24.2.1
theorem dL_law_370 : decode cL_law 370 = .ok (.aload_n 0, 1) := qdL_law_368_24.2.2.1
theorem dL_law_371 : decode cL_law 371 = .ok (.iload 4, 2) := qdL_law_368_24.2.2.2.1
theorem dL_law_373 : decode cL_law 373 = .ok (.iconst 3, 1) := qdL_law_368_24.2.2.2.2.1
theorem dL_law_374 : decode cL_law 374 = .ok (.iadd, 1) := qdL_law_368_24.2.2.2.2.2.1
theorem dL_law_375 : decode cL_law 375 = .ok (.iaload, 1) := qdL_law_368_24.2.2.2.2.2.2.1
theorem dL_law_376 : decode cL_law 376 = .ok (.invokevirtual 137, 3) := qdL_law_368_24.2.2.2.2.2.2.2.1
theorem dL_law_379 : decode cL_law 379 = .ok (.istore 6, 2) := qdL_law_368_24.2.2.2.2.2.2.2.2.1
theorem dL_law_381 : decode cL_law 381 = .ok (.goto 1114, 3) := qdL_law_368_24.2.2.2.2.2.2.2.2.2.1
theorem dL_law_384 : decode cL_law 384 = .ok (.aload_n 1, 1) := qdL_law_368_24.2.2.2.2.2.2.2.2.2.2.1
theorem dL_law_385 : decode cL_law 385 = .ok (.aload_n 0, 1) := qdL_law_368_24.2.2.2.2.2.2.2.2.2.2.2.1
theorem dL_law_386 : decode cL_law 386 = .ok (.iload 4, 2) := qdL_law_368_24.2.2.2.2.2.2.2.2.2.2.2.2.1
theorem dL_law_388 : decode cL_law 388 = .ok (.iconst 1, 1) := qdL_law_368_24.2.2.2.2.2.2.2.2.2.2.2.2.2.1
theorem dL_law_389 : decode cL_law 389 = .ok (.iadd, 1) := qdL_law_368_24.2.2.2.2.2.2.2.2.2.2.2.2.2.2.1
theorem dL_law_390 : decode cL_law 390 = .ok (.iaload, 1) := qdL_law_368_24.2.2.2.2.2.2.2.2.2.2.2.2.2.2.2.1
theorem dL_law_391 : decode cL_law 391 = .ok (.aload_n 0, 1) := qdL_law_368_24.2.2.2.2.2.2.2.2.2.2.2.2.2.2.2.2.1
theorem dL_law_392 : decode cL_law 392 = .ok (.iload 4, 2) := qdL_law_368_24.2.2.2.2.2.2.2.2.2.2.2.2.2.2.2.2.2.1
theorem dL_law_394 : decode cL_law 394 = .ok (.iconst 2, 1) := qdL_law_368_24.2.2.2.2.2.2.2.2.2.2.2.2.2.2.2.2.2.2.1
theorem dL_law_395 : decode cL_law 395 = .ok (.iadd, 1) := qdL_law_368_24.2.2.2.2.2.2.2.2.2.2.2.2.2.2.2.2.2.2.2.1
theorem dL_law_396 : decode cL_law 396 = .ok (.iaload, 1) := qdL_law_368_24.2.2.2.2.2.2.2.2.2.2.2.2.2.2.2.2.2.2.2.2.1
theorem dL_law_397 : decode cL_law 397 = .ok (.aload_n 3, 1) := qdL_law_368_24.2.2.2.2.2.2.2.2.2.2.2.2.2.2.2.2.2.2.2.2.2.1
theorem dL_law_398 : decode cL_law 398 = .ok (.invokestatic 138, 3) := qdL_law_368_24.2.2.2.2.2.2.2.2.2.2.2.2.2.2.2.2.2.2.2.2.2.2.1
theorem dL_law_401 : decode cL_law 401 = .ok (.istore 5, 2) := qdL_law_368_24.2.2.2.2.2.2.2.2.2.2.2.2.2.2.2.2.2.2.2.2.2.2.2.1
theorem qdL_law_403_24 : dcAll cL_law [(403, .aload_n 2, 1), (404, .aload_n 0, 1), (405, .iload 4, 2), (407, .iconst 1, 1), (408, .iadd, 1), (409, .iaload, 1), (410, .aload_n 0, 1), (411, .iload 4, 2), (413, .iconst 2, 1), (414, .iadd, 1), (415, .iaload, 1), (416, .invokevirtual 140, 3), (419, .istore 6, 2), (421, .goto 1074, 3), (424, .aload_n 1, 1), (425, .aload_n 0, 1), (426, .iload 4, 2), (428, .iconst 1, 1), (429, .iadd, 1), (430, .iaload, 1), (431, .aload_n 0, 1), (432, .iload 4, 2), (434, .iconst 2, 1), (435, .iadd, 1)] := dcAll_of (by decide +kernel)
theorem dL_law_403 : decode cL_law 403 = .ok (.aload_n 2, 1) := qdL_law_403_24.1
theorem dL_law_404 : decode cL_law 404 = .ok (.aload_n 0, 1) := qdL_law_403_24.2.1
theorem dL_law_405 : decode cL_law 405 = .ok (.iload 4, 2) := qdL_law_403_24.2.2.1
theorem dL_law_407 : decode cL_law 407 = .ok (.iconst 1, 1) := qdL_law_403_24.2.2.2.1
theorem dL_law_408 : decode cL_law 408 = .ok (.iadd, 1) := qdL_law_403_24.2.2.2.2.1
theorem dL_law_409 : decode cL_law 409 = .ok (.iaload, 1) := qdL_law_403_24.2.2.2.2.2.1
theorem dL_law_410 : decode cL_law 410 = .ok (.aload_n 0, 1) := qdL_law_403_24.2.2.2.2.2.2.1
theorem dL_law_411 : decode cL_law 411 = .ok (.iload 4, 2) := qdL_law_403_24.2.2.2.2.2.2.2.1
theorem dL_law_413 : decode cL_law 413 = .ok (.iconst 2, 1) := qdL_law_403_24.2.2.2.2.2.2.2.2.1
theorem dL_law_414 : decode cL_law 414 = .ok (.iadd, 1) := qdL_law_403_24.2.2.2.2.2.2.2.2.2.1
theorem dL_law_415 : decode cL_law 415 = .ok (.iaload, 1) := qdL_law_403_24.2.2.2.2.2.2.2.2.2.2.1
theorem dL_law_416 : decode cL_law 416 = .ok (.invokevirtual 140, 3) := qdL_law_403_24.2.2.2.2.2.2.2.2.2.2.2.1
theorem dL_law_419 : decode cL_law 419 = .ok (.istore 6, 2) := qdL_law_403_24.2.2.2.2.2.2.2.2.2.2.2.2.1
theorem dL_law_421 : decode cL_law 421 = .ok (.goto 1074, 3) := qdL_law_403_24.2.2.2.2.2.2.2.2.2.2.2.2.2.1
theorem dL_law_424 : decode cL_law 424 = .ok (.aload_n 1, 1) := qdL_law_403_24.2.2.2.2.2.2.2.2.2.2.2.2.2.2.1
theorem dL_law_425 : decode cL_law 425 = .ok (.aload_n 0, 1) := qdL_law_403_24.2.2.2.2.2.2.2.2.2.2.2.2.2.2.2.1
theorem dL_law_426 : decode cL_law 426 = .ok (.iload 4, 2) := qdL_law_403_24.2.2.2.2.2.2.2.2.2.2.2.2.2.2.2.2.1
theorem dL_law_428 : decode cL_law 428 = .ok (.iconst 1, 1) := qdL_law_403_24.2.2.2.2.2.2.2.2.2.2.2.2.2.2.2.2.2.1
theorem dL_law_429 : decode cL_law 429 = .ok (.iadd, 1) := qdL_law_403_24.2.2.2.2.2.2.2.2.2.2.2.2.2.2.2.2.2.2.1
theorem dL_law_430 : decode cL_law 430 = .ok (.iaload, 1) := qdL_law_403_24.2.2.2.2.2.2.2.2.2.2.2.2.2.2.2.2.2.2.2.1
theorem dL_law_431 : decode cL_law 431 = .ok (.aload_n 0, 1) := qdL_law_403_24.2.2.2.2.2.2.2.2.2.2.2.2.2.2.2.2.2.2.2.2.1
theorem dL_law_432 : decode cL_law 432 = .ok (.iload 4, 2) := qdL_law_403_24.2.2.2.2.2.2.2.2.2.2.2.2.2.2.2.2.2.2.2.2.2.1
theorem dL_law_434 : decode cL_law 434 = .ok (.iconst 2, 1) := qdL_law_403_24.2.2.2.2.2.2.2.2.2.2.2.2.2.2.2.2.2.2.2.2.2.2.1
theorem dL_law_435 : decode cL_law 435 = .ok (.iadd, 1) := qdL_law_403_24.2.2.2.2.2.2.2.2.2.2.2.2.2.2.2.2.2.2.2.2.2.2.2.1
theorem qdL_law_436_24 : dcAll cL_law [(436, .iaload, 1), (437, .aload_n 3, 1), (438, .invokestatic 141, 3), (441, .istore 5, 2), (443, .aload_n 2, 1), (444, .aload_n 0, 1), (445, .iload 4, 2), (447, .iconst 1, 1), (448, .iadd, 1), (449, .iaload, 1), (450, .aload_n 0, 1), (451, .iload 4, 2), (453, .iconst 2, 1), (454, .iadd, 1), (455, .iaload, 1), (456, .invokevirtual 143, 3), (459, .istore 6, 2), (461, .goto 1034, 3), (464, .aload_n 1, 1), (465, .aload_n 0, 1), (466, .iload 4, 2), (468, .iconst 1, 1), (469, .iadd, 1), (470, .iaload, 1)] := dcAll_of (by decide +kernel)
theorem dL_law_436 : decode cL_law 436 = .ok (.iaload, 1) := qdL_law_436_24.1
theorem dL_law_437 : decode cL_law 437 = .ok (.aload_n 3, 1) := qdL_law_436_24.2.1
theorem dL_law_438 : decode cL_law 438 = .ok (.invokestatic 141, 3) := qdL_law_436_24.2.2.1
theorem dL_law_441 : decode cL_law 441 = .ok (.istore 5, 2) := qdL_law_436_24.2.2.2.1
theorem dL_law_443 : decode cL_law 443 = .ok (.aload_n 2, 1) := qdL_law_436_24.2.2.2.2.1
theorem dL_law_444 : decode cL_law 444 = .ok (.aload_n 0, 1) := qdL_law_436_24.2.2.2.2.2.1
theorem dL_law_445 : decode cL_law 445 = .ok (.iload 4, 2) := qdL_law_436_24.2.2.2.2.2.2.1
theorem dL_law_447 : decode cL_law 447 = .ok (.iconst 1, 1) := qdL_law_436_24.2.2.2.2.2.2.2.1
theorem dL_law_448 : decode cL_law 448 = .ok (.iadd, 1) := qdL_law_436_24.2.2.2.2.2.2.2.2.1
theorem dL_law_449 : decode cL_law 449 = .ok (.iaload, 1) := qdL_law_436_24.2.2.2.2.2.2.2.2.2.1
theorem dL_law_450 : decode cL_law 450 = .ok (.aload_n 0, 1) := qdL_law_436_24.2.2.2.2.2.2.2.2.2.2.1
theorem dL_law_451 : decode cL_law 451 = .ok (.iload 4, 2) := qdL_law_436_24.2.2.2.2.2.2.2.2.2.2.2.1
theorem dL_law_453 : decode cL_law 453 = .ok (.iconst 2, 1) := qdL_law_436_24.2.2.2.2.2.2.2.2.2.2.2.2.1
theorem dL_law_454 : decode cL_law 454 = .ok (.iadd, 1) := qdL_law_436_24.2.2.2.2.2.2.2.2.2.2.2.2.2.1
theorem dL_law_455 : decode cL_law 455 = .ok (.iaload, 1) := qdL_law_436_24.2.2.2.2.2.2.2.2.2.2.2.2.2.2.1
theorem dL_law_456 : decode cL_law 456 = .ok (.invokevirtual 143, 3) := qdL_law_436_24.2.2.2.2.2.2.2.2.2.2.2.2.2.2.2.1
theorem dL_law_459 : decode cL_law 459 = .ok (.istore 6, 2) := qdL_law_436_24.2.2.2.2.2.2.2.2.2.2.2.2.2.2.2.2.1
theorem dL_law_461 : decode cL_law 461 = .ok (.goto 1034, 3) := qdL_law_436_24.2.2.2.2.2.2.2.2.2.2.2.2.2.2.2.2.2.1
theorem dL_law_464 : decode cL_law 464 = .ok (.aload_n 1, 1) := qdL_law_436_24.2.2.2.2.2.2.2.2.2.2.2.2.2.2.2.2.2.2.1
theorem dL_law_465 : decode cL_law 465 = .ok (.aload_n 0, 1) := qdL_law_436_24.2.2.2.2.2.2.2.2.2.2.2.2.2.2.2.2.2.2.2.1
theorem dL_law_466 : decode cL_law 466 = .ok (.iload 4, 2) := qdL_law_436_24.2.2.2.2.2.2.2.2.2.2.2.2.2.2.2.2.2.2.2.2.1
theorem dL_law_468 : decode cL_law 468 = .ok (.iconst 1, 1) := qdL_law_436_24.2.2.2.2.2.2.2.2.2.2.2.2.2.2.2.2.2.2.2.2.2.1
theorem dL_law_469 : decode cL_law 469 = .ok (.iadd, 1) := qdL_law_436_24.2.2.2.2.2.2.2.2.2.2.2.2.2.2.2.2.2.2.2.2.2.2.1
theorem dL_law_470 : decode cL_law 470 = .ok (.iaload, 1) := qdL_law_436_24.2.2.2.2.2.2.2.2.2.2.2.2.2.2.2.2.2.2.2.2.2.2.2.1
theorem qdL_law_471_24 : dcAll cL_law [(471, .aload_n 0, 1), (472, .iload 4, 2), (474, .iconst 2, 1), (475, .iadd, 1), (476, .iaload, 1), (477, .aload_n 0, 1), (478, .iload 4, 2), (480, .iconst 3, 1), (481, .iadd, 1), (482, .iaload, 1), (483, .aload_n 0, 1), (484, .iload 4, 2), (486, .iconst 4, 1), (487, .iadd, 1), (488, .iaload, 1), (489, .aload_n 3, 1), (490, .invokestatic 144, 3), (493, .istore 5, 2), (495, .aload_n 2, 1), (496, .aload_n 0, 1), (497, .iload 4, 2), (499, .iconst 1, 1), (500, .iadd, 1), (501, .iaload, 1)] := dcAll_of (by decide +kernel)
theorem dL_law_471 : decode cL_law 471 = .ok (.aload_n 0, 1) := qdL_law_471_24.1
theorem dL_law_472 : decode cL_law 472 = .ok (.iload 4, 2) := qdL_law_471_24.2.1
theorem dL_law_474 : decode cL_law 474 = .ok (.iconst 2, 1) := qdL_law_471_24.2.2.1
theorem dL_law_475 : decode cL_law 475 = .ok (.iadd, 1) := qdL_law_471_24.2.2.2.1
theorem dL_law_476 : decode cL_law 476 = .ok (.iaload, 1) := qdL_law_471_24.2.2.2.2.1
theorem dL_law_477 : decode cL_law 477 = .ok (.aload_n 0, 1) := qdL_law_471_24.2.2.2.2.2.1
theorem dL_law_478 : decode cL_law 478 = .ok (.iload 4, 2) := qdL_law_471_24.2.2.2.2.2.2.1
theorem dL_law_480 : decode cL_law 480 = .ok (.iconst 3, 1) := qdL_law_471_24.2.2.2.2.2.2.2.1
theorem dL_law_481 : decode cL_law 481 = .ok (.iadd, 1) := qdL_law_471_24.2.2.2.2.2.2.2.2.1
theorem dL_law_482 : decode cL_law 482 = .ok (.iaload, 1) := qdL_law_471_24.2.2.2.2.2.2.2.2.2.1
theorem dL_law_483 : decode cL_law 483 = .ok (.aload_n 0, 1) := qdL_law_471_24.2.2.2.2.2.2.2.2.2.2.1
theorem dL_law_484 : decode cL_law 484 = .ok (.iload 4, 2) := qdL_law_471_24.2.2.2.2.2.2.2.2.2.2.2.1
theorem dL_law_486 : decode cL_law 486 = .ok (.iconst 4, 1) := qdL_law_471_24.2.2.2.2.2.2.2.2.2.2.2.2.1
theorem dL_law_487 : decode cL_law 487 = .ok (.iadd, 1) := qdL_law_471_24.2.2.2.2.2.2.2.2.2.2.2.2.2.1
theorem dL_law_488 : decode cL_law 488 = .ok (.iaload, 1) := qdL_law_471_24.2.2.2.2.2.2.2.2.2.2.2.2.2.2.1
theorem dL_law_489 : decode cL_law 489 = .ok (.aload_n 3, 1) := qdL_law_471_24.2.2.2.2.2.2.2.2.2.2.2.2.2.2.2.1
theorem dL_law_490 : decode cL_law 490 = .ok (.invokestatic 144, 3) := qdL_law_471_24.2.2.2.2.2.2.2.2.2.2.2.2.2.2.2.2.1
theorem dL_law_493 : decode cL_law 493 = .ok (.istore 5, 2) := qdL_law_471_24.2.2.2.2.2.2.2.2.2.2.2.2.2.2.2.2.2.1
theorem dL_law_495 : decode cL_law 495 = .ok (.aload_n 2, 1) := qdL_law_471_24.2.2.2.2.2.2.2.2.2.2.2.2.2.2.2.2.2.2.1
theorem dL_law_496 : decode cL_law 496 = .ok (.aload_n 0, 1) := qdL_law_471_24.2.2.2.2.2.2.2.2.2.2.2.2.2.2.2.2.2.2.2.1
theorem dL_law_497 : decode cL_law 497 = .ok (.iload 4, 2) := qdL_law_471_24.2.2.2.2.2.2.2.2.2.2.2.2.2.2.2.2.2.2.2.2.1
theorem dL_law_499 : decode cL_law 499 = .ok (.iconst 1, 1) := qdL_law_471_24.2.2.2.2.2.2.2.2.2.2.2.2.2.2.2.2.2.2.2.2.2.1
theorem dL_law_500 : decode cL_law 500 = .ok (.iadd, 1) := qdL_law_471_24.2.2.2.2.2.2.2.2.2.2.2.2.2.2.2.2.2.2.2.2.2.2.1
theorem dL_law_501 : decode cL_law 501 = .ok (.iaload, 1) := qdL_law_471_24.2.2.2.2.2.2.2.2.2.2.2.2.2.2.2.2.2.2.2.2.2.2.2.1
theorem qdL_law_502_24 : dcAll cL_law [(502, .aload_n 0, 1), (503, .iload 4, 2), (505, .iconst 2, 1), (506, .iadd, 1), (507, .iaload, 1), (508, .aload_n 0, 1), (509, .iload 4, 2), (511, .iconst 3, 1), (512, .iadd, 1), (513, .iaload, 1), (514, .aload_n 0, 1), (515, .iload 4, 2), (517, .iconst 4, 1), (518, .iadd, 1), (519, .iaload, 1), (520, .invokevirtual 146, 3), (523, .istore 6, 2), (525, .goto 970, 3), (528, .aload_n 1, 1), (529, .aload_n 0, 1), (530, .iload 4, 2), (532, .iconst 1, 1), (533, .iadd, 1), (534, .iaload, 1)] := dcAll_of (by decide +kernel)
theorem dL_law_502 : decode cL_law 502 = .ok (.aload_n 0, 1) := qdL_law_502_24.1
theorem dL_law_503 : decode cL_law 503 = .ok (.iload 4, 2) := qdL_law_502_24.2.1
theorem dL_law_505 : decode cL_law 505 = .ok (.iconst 2, 1) := qdL_law_502_24.2.2.1
theorem dL_law_506 : decode cL_law 506 = .ok (.iadd, 1) := qdL_law_502_24.2.2.2.1
theorem dL_law_507 : decode cL_law 507 = .ok (.iaload, 1) := qdL_law_502_24.2.2.2.2.1
theorem dL_law_508 : decode cL_law 508 = .ok (.aload_n 0, 1) := qdL_law_502_24.2.2.2.2.2.1
theorem dL_law_509 : decode cL_law 509 = .ok (.iload 4, 2) := qdL_law_502_24.2.2.2.2.2.2.1
theorem dL_law_511 : decode cL_law 511 = .ok (.iconst 3, 1) := qdL_law_502_24.2.2.2.2.2.2.2.1
theorem dL_law_512 : decode cL_law 512 = .ok (.iadd, 1) := qdL_law_502_24.2.2.2.2.2.2.2.2.1
theorem dL_law_513 : decode cL_law 513 = .ok (.iaload, 1) := qdL_law_502_24.2.2.2.2.2.2.2.2.2.1
theorem dL_law_514 : decode cL_law 514 = .ok (.aload_n 0, 1) := qdL_law_502_24.2.2.2.2.2.2.2.2.2.2.1
theorem dL_law_515 : decode cL_law 515 = .ok (.iload 4, 2) := qdL_law_502_24.2.2.2.2.2.2.2.2.2.2.2.1
theorem dL_law_517 : decode cL_law 517 = .ok (.iconst 4, 1) := qdL_law_502_24.2.2.2.2.2.2.2.2.2.2.2.2.1
theorem dL_law_518 : decode cL_law 518 = .ok (.iadd, 1) := qdL_law_502_24.2.2.2.2.2.2.2.2.2.2.2.2.2.1
theorem dL_law_519 : decode cL_law 519 = .ok (.iaload, 1) := qdL_law_502_24.2.2.2.2.2.2.2.2.2.2.2.2.2.2.1
theorem dL_law_520 : decode cL_law 520 = .ok (.invokevirtual 146, 3) := qdL_law_502_24.2.2.2.2.2.2.2.2.2.2.2.2.2.2.2.1
theorem dL_law_523 : decode cL_law 523 = .ok (.istore 6, 2) := qdL_law_502_24.2.2.2.2.2.2.2.2.2.2.2.2.2.2.2.2.1
theorem dL_law_525 : decode cL_law 525 = .ok (.goto 970, 3) := qdL_law_502_24.2.2.2.2.2.2.2.2.2.2.2.2.2.2.2.2.2.1
theorem dL_law_528 : decode cL_law 528 = .ok (.aload_n 1, 1) := qdL_law_502_24.2.2.2.2.2.2.2.2.2.2.2.2.2.2.2.2.2.2.1
theorem dL_law_529 : decode cL_law 529 = .ok (.aload_n 0, 1) := qdL_law_502_24.2.2.2.2.2.2.2.2.2.2.2.2.2.2.2.2.2.2.2.1
theorem dL_law_530 : decode cL_law 530 = .ok (.iload 4, 2) := qdL_law_502_24.2.2.2.2.2.2.2.2.2.2.2.2.2.2.2.2.2.2.2.2.1
theorem dL_law_532 : decode cL_law 532 = .ok (.iconst 1, 1) := qdL_law_502_24.2.2.2.2.2.2.2.2.2.2.2.2.2.2.2.2.2.2.2.2.2.1
theorem dL_law_533 : decode cL_law 533 = .ok (.iadd, 1) := qdL_law_502_24.2.2.2.2.2.2.2.2.2.2.2.2.2.2.2.2.2.2.2.2.2.2.1
theorem dL_law_534 : decode cL_law 534 = .ok (.iaload, 1) := qdL_law_502_24.2.2.2.2.2.2.2.2.2.2.2.2.2.2.2.2.2.2.2.2.2.2.2.1
theorem qdL_law_535_24 : dcAll cL_law [(535, .aload_n 0, 1), (536, .iload 4, 2), (538, .iconst 2, 1), (539, .iadd, 1), (540, .iaload, 1), (541, .aload_n 0, 1), (542, .iload 4, 2), (544, .iconst 3, 1), (545, .iadd, 1), (546, .iaload, 1), (547, .aload_n 3, 1), (548, .invokestatic 147, 3), (551, .istore 5, 2), (553, .aload_n 2, 1), (554, .aload_n 0, 1), (555, .iload 4, 2), (557, .iconst 1, 1), (558, .iadd, 1), (559, .iaload, 1), (560, .aload_n 0, 1), (561, .iload 4, 2), (563, .iconst 2, 1), (564, .iadd, 1), (565, .iaload, 1)] := dcAll_of (by decide +kernel)
theorem dL_law_535 : decode cL_law 535 = .ok (.aload_n 0, 1) := qdL_law_535_24.1
theorem dL_law_536 : decode cL_law 536 = .ok (.iload 4, 2) := qdL_law_535_24.2.1
theorem dL_law_538 : decode cL_law 538 = .ok (.iconst 2, 1) := qdL_law_535_24.2.2.1
theorem dL_law_539 : decode cL_law 539 = .ok (.iadd, 1) := qdL_law_535_24.2.2.2.1
theorem dL_law_540 : decode cL_law 540 = .ok (.iaload, 1) := qdL_law_535_24.2.2.2.2.1
theorem dL_law_541 : decode cL_law 541 = .ok (.aload_n 0, 1) := qdL_law_535_24.2.2.2.2.2.1
theorem dL_law_542 : decode cL_law 542 = .ok (.iload 4, 2) := qdL_law_535_24.2.2.2.2.2.2.1
theorem dL_law_544 : decode cL_law 544 = .ok (.iconst 3, 1) := qdL_law_535_24.2.2.2.2.2.2.2.1
theorem dL_law_545 : decode cL_law 545 = .ok (.iadd, 1) := qdL_law_535_24.2.2.2.2.2.2.2.2.1
theorem dL_law_546 : decode cL_law 546 = .ok (.iaload, 1) := qdL_law_535_24.2.2.2.2.2.2.2.2.2.1
theorem dL_law_547 : decode cL_law 547 = .ok (.aload_n 3, 1) := qdL_law_535_24.2.2.2.2.2.2.2.2.2.2.1
theorem dL_law_548 : decode cL_law 548 = .ok (.invokestatic 147, 3) := qdL_law_535_24.2.2.2.2.2.2.2.2.2.2.2.1
theorem dL_law_551 : decode cL_law 551 = .ok (.istore 5, 2) := qdL_law_535_24.2.2.2.2.2.2.2.2.2.2.2.2.1
theorem dL_law_553 : decode cL_law 553 = .ok (.aload_n 2, 1) := qdL_law_535_24.2.2.2.2.2.2.2.2.2.2.2.2.2.1
theorem dL_law_554 : decode cL_law 554 = .ok (.aload_n 0, 1) := qdL_law_535_24.2.2.2.2.2.2.2.2.2.2.2.2.2.2.1
theorem dL_law_555 : decode cL_law 555 = .ok (.iload 4, 2) := qdL_law_535_24.2.2.2.2.2.2.2.2.2.2.2.2.2.2.2.1
theorem dL_law_557 : decode cL_law 557 = .ok (.iconst 1, 1) := qdL_law_535_24.2.2.2.2.2.2.2.2.2.2.2.2.2.2.2.2.1
theorem dL_law_558 : decode cL_law 558 = .ok (.iadd, 1) := qdL_law_535_24.2.2.2.2.2.2.2.2.2.2.2.2.2.2.2.2.2.1
theorem dL_law_559 : decode cL_law 559 = .ok (.iaload, 1) := qdL_law_535_24.2.2.2.2.2.2.2.2.2.2.2.2.2.2.2.2.2.2.1
theorem dL_law_560 : decode cL_law 560 = .ok (.aload_n 0, 1) := qdL_law_535_24.2.2.2.2.2.2.2.2.2.2.2.2.2.2.2.2.2.2.2.1
theorem dL_law_561 : decode cL_law 561 = .ok (.iload 4, 2) := qdL_law_535_24.2.2.2.2.2.2.2.2.2.2.2.2.2.2.2.2.2.2.2.2.1
theorem dL_law_563 : decode cL_law 563 = .ok (.iconst 2, 1) := qdL_law_535_24.2.2.2.2.2.2.2.2.2.2.2.2.2.2.2.2.2.2.2.2.2.1
theorem dL_law_564 : decode cL_law 564 = .ok (.iadd, 1) := qdL_law_535_24.2.2.2.2.2.2.2.2.2.2.2.2.2.2.2.2.2.2.2.2.2.2.1
theorem dL_law_565 : decode cL_law 565 = .ok (.iaload, 1) := qdL_law_535_24.2.2.2.2.2.2.2.2.2.2.2.2.2.2.2.2.2.2.2.2.2.2.2.1
theorem qdL_law_566_24 : dcAll cL_law [(566, .aload_n 0, 1), (567, .iload 4, 2), (569, .iconst 3, 1), (570, .iadd, 1), (571, .iaload, 1), (572, .invokevirtual 149, 3), (575, .istore 6, 2), (577, .goto 918, 3), (580, .aload_n 1, 1), (581, .aload_n 0, 1), (582, .iload 4, 2), (584, .iconst 1, 1), (585, .iadd, 1), (586, .iaload, 1), (587, .aload_n 0, 1), (588, .iload 4, 2), (590, .iconst 2, 1), (591, .iadd, 1), (592, .iaload, 1), (593, .aload_n 0, 1), (594, .iload 4, 2), (596, .iconst 3, 1), (597, .iadd, 1), (598, .iaload, 1)] := dcAll_of (by decide +kernel)
theorem dL_law_566 : decode cL_law 566 = .ok (.aload_n 0, 1) := qdL_law_566_24.1
theorem dL_law_567 : decode cL_law 567 = .ok (.iload 4, 2) := qdL_law_566_24.2.1
theorem dL_law_569 : decode cL_law 569 = .ok (.iconst 3, 1) := qdL_law_566_24.2.2.1
theorem dL_law_570 : decode cL_law 570 = .ok (.iadd, 1) := qdL_law_566_24.2.2.2.1
theorem dL_law_571 : decode cL_law 571 = .ok (.iaload, 1) := qdL_law_566_24.2.2.2.2.1
theorem dL_law_572 : decode cL_law 572 = .ok (.invokevirtual 149, 3) := qdL_law_566_24.2.2.2.2.2.1
theorem dL_law_575 : decode cL_law 575 = .ok (.istore 6, 2) := qdL_law_566_24.2.2.2.2.2.2.1
theorem dL_law_577 : decode cL_law 577 = .ok (.goto 918, 3) := qdL_law_566_24.2.2.2.2.2.2.2.1
theorem dL_law_580 : decode cL_law 580 = .ok (.aload_n 1, 1) := qdL_law_566_24.2.2.2.2.2.2.2.2.1
theorem dL_law_581 : decode cL_law 581 = .ok (.aload_n 0, 1) := qdL_law_566_24.2.2.2.2.2.2.2.2.2.1
theorem dL_law_582 : decode cL_law 582 = .ok (.iload 4, 2) := qdL_law_566_24.2.2.2.2.2.2.2.2.2.2.1
theorem dL_law_584 : decode cL_law 584 = .ok (.iconst 1, 1) := qdL_law_566_24.2.2.2.2.2.2.2.2.2.2.2.1
theorem dL_law_585 : decode cL_law 585 = .ok (.iadd, 1) := qdL_law_566_24.2.2.2.2.2.2.2.2.2.2.2.2.1
theorem dL_law_586 : decode cL_law 586 = .ok (.iaload, 1) := qdL_law_566_24.2.2.2.2.2.2.2.2.2.2.2.2.2.1
theorem dL_law_587 : decode cL_law 587 = .ok (.aload_n 0, 1) := qdL_law_566_24.2.2.2.2.2.2.2.2.2.2.2.2.2.2.1
theorem dL_law_588 : decode cL_law 588 = .ok (.iload 4, 2) := qdL_law_566_24.2.2.2.2.2.2.2.2.2.2.2.2.2.2.2.1
theorem dL_law_590 : decode cL_law 590 = .ok (.iconst 2, 1) := qdL_law_566_24.2.2.2.2.2.2.2.2.2.2.2.2.2.2.2.2.1
theorem dL_law_591 : decode cL_law 591 = .ok (.iadd, 1) := qdL_law_566_24.2.2.2.2.2.2.2.2.2.2.2.2.2.2.2.2.2.1
theorem dL_law_592 : decode cL_law 592 = .ok (.iaload, 1) := qdL_law_566_24.2.2.2.2.2.2.2.2.2.2.2.2.2.2.2.2.2.2.1
theorem dL_law_593 : decode cL_law 593 = .ok (.aload_n 0, 1) := qdL_law_566_24.2.2.2.2.2.2.2.2.2.2.2.2.2.2.2.2.2.2.2.1
theorem dL_law_594 : decode cL_law 594 = .ok (.iload 4, 2) := qdL_law_566_24.2.2.2.2.2.2.2.2.2.2.2.2.2.2.2.2.2.2.2.2.1
theorem dL_law_596 : decode cL_law 596 = .ok (.iconst 3, 1) := qdL_law_566_24.2.2.2.2.2.2.2.2.2.2.2.2.2.2.2.2.2.2.2.2.2.1
theorem dL_law_597 : decode cL_law 597 = .ok (.iadd, 1) := qdL_law_566_24.2.2.2.2.2.2.2.2.2.2.2.2.2.2.2.2.2.2.2.2.2.2.1
theorem dL_law_598 : decode cL_law 598 = .ok (.iaload, 1) := qdL_law_566_24.2.2.2.2.2.2.2.2.2.2.2.2.2.2.2.2.2.2.2.2.2.2.2.1
theorem qdL_law_599_24 : dcAll cL_law [(599, .aload_n 3, 1), (600, .invokestatic 150, 3), (603, .istore 5, 2), (605, .aload_n 2, 1), (606, .aload_n 0, 1), (607, .iload 4, 2), (609, .iconst 1, 1), (610, .iadd, 1), (611, .iaload, 1), (612, .aload_n 0, 1), (613, .iload 4, 2), (615, .iconst 2, 1), (616, .iadd, 1), (617, .iaload, 1), (618, .aload_n 0, 1), (619, .iload 4, 2), (621, .iconst 3, 1), (622, .iadd, 1), (623, .iaload, 1), (624, .invokevirtual 152, 3), (627, .istore 6, 2), (629, .goto 866, 3), (632, .aload_n 1, 1), (633, .aload_n 0, 1)] := dcAll_of (by decide +kernel)
theorem dL_law_599 : decode cL_law 599 = .ok (.aload_n 3, 1) := qdL_law_599_24.1
theorem dL_law_600 : decode cL_law 600 = .ok (.invokestatic 150, 3) := qdL_law_599_24.2.1
theorem dL_law_603 : decode cL_law 603 = .ok (.istore 5, 2) := qdL_law_599_24.2.2.1
theorem dL_law_605 : decode cL_law 605 = .ok (.aload_n 2, 1) := qdL_law_599_24.2.2.2.1
theorem dL_law_606 : decode cL_law 606 = .ok (.aload_n 0, 1) := qdL_law_599_24.2.2.2.2.1
theorem dL_law_607 : decode cL_law 607 = .ok (.iload 4, 2) := qdL_law_599_24.2.2.2.2.2.1
theorem dL_law_609 : decode cL_law 609 = .ok (.iconst 1, 1) := qdL_law_599_24.2.2.2.2.2.2.1
theorem dL_law_610 : decode cL_law 610 = .ok (.iadd, 1) := qdL_law_599_24.2.2.2.2.2.2.2.1
theorem dL_law_611 : decode cL_law 611 = .ok (.iaload, 1) := qdL_law_599_24.2.2.2.2.2.2.2.2.1
theorem dL_law_612 : decode cL_law 612 = .ok (.aload_n 0, 1) := qdL_law_599_24.2.2.2.2.2.2.2.2.2.1
theorem dL_law_613 : decode cL_law 613 = .ok (.iload 4, 2) := qdL_law_599_24.2.2.2.2.2.2.2.2.2.2.1
theorem dL_law_615 : decode cL_law 615 = .ok (.iconst 2, 1) := qdL_law_599_24.2.2.2.2.2.2.2.2.2.2.2.1
theorem dL_law_616 : decode cL_law 616 = .ok (.iadd, 1) := qdL_law_599_24.2.2.2.2.2.2.2.2.2.2.2.2.1
theorem dL_law_617 : decode cL_law 617 = .ok (.iaload, 1) := qdL_law_599_24.2.2.2.2.2.2.2.2.2.2.2.2.2.1
theorem dL_law_618 : decode cL_law 618 = .ok (.aload_n 0, 1) := qdL_law_599_24.2.2.2.2.2.2.2.2.2.2.2.2.2.2.1
theorem dL_law_619 : decode cL_law 619 = .ok (.iload 4, 2) := qdL_law_599_24.2.2.2.2.2.2.2.2.2.2.2.2.2.2.2.1
theorem dL_law_621 : decode cL_law 621 = .ok (.iconst 3, 1) := qdL_law_599_24.2.2.2.2.2.2.2.2.2.2.2.2.2.2.2.2.1
theorem dL_law_622 : decode cL_law 622 = .ok (.iadd, 1) := qdL_law_599_24.2.2.2.2.2.2.2.2.2.2.2.2.2.2.2.2.2.1
theorem dL_law_623 : decode cL_law 623 = .ok (.iaload, 1) := qdL_law_599_24.2.2.2.2.2.2.2.2.2.2.2.2.2.2.2.2.2.2.1
theorem dL_law_624 : decode cL_law 624 = .ok (.invokevirtual 152, 3) := qdL_law_599_24.2.2.2.2.2.2.2.2.2.2.2.2.2.2.2.2.2.2.2.1
theorem dL_law_627 : decode cL_law 627 = .ok (.istore 6, 2) := qdL_law_599_24.2.2.2.2.2.2.2.2.2.2.2.2.2.2.2.2.2.2.2.2.1
theorem dL_law_629 : decode cL_law 629 = .ok (.goto 866, 3) := qdL_law_599_24.2.2.2.2.2.2.2.2.2.2.2.2.2.2.2.2.2.2.2.2.2.1
theorem dL_law_632 : decode cL_law 632 = .ok (.aload_n 1, 1) := qdL_law_599_24.2.2.2.2.2.2.2.2.2.2.2.2.2.2.2.2.2.2.2.2.2.2.1
theorem dL_law_633 : decode cL_law 633 = .ok (.aload_n 0, 1) := qdL_law_599_24.2.2.2.2.2.2.2.2.2.2.2.2.2.2.2.2.2.2.2.2.2.2.2.1
theorem qdL_law_634_24 : dcAll cL_law [(634, .iload 4, 2), (636, .iconst 1, 1), (637, .iadd, 1), (638, .iaload, 1), (639, .aload_n 0, 1), (640, .iload 4, 2), (642, .iconst 2, 1), (643, .iadd, 1), (644, .iaload, 1), (645, .aload_n 3, 1), (646, .invokestatic 153, 3), (649, .istore 5, 2), (651, .aload_n 2, 1), (652, .aload_n 0, 1), (653, .iload 4, 2), (655, .iconst 1, 1), (656, .iadd, 1), (657, .iaload, 1), (658, .aload_n 0, 1), (659, .iload 4, 2), (661, .iconst 2, 1), (662, .iadd, 1), (663, .iaload, 1), (664, .invokevirtual 155, 3)] := dcAll_of (by decide +kernel)
theorem dL_law_634 : decode cL_law 634 = .ok (.iload 4, 2) := qdL_law_634_24.1
theorem dL_law_636 : decode cL_law 636 = .ok (.iconst 1, 1) := qdL_law_634_24.2.1
theorem dL_law_637 : decode cL_law 637 = .ok (.iadd, 1) := qdL_law_634_24.2.2.1
theorem dL_law_638 : decode cL_law 638 = .ok (.iaload, 1) := qdL_law_634_24.2.2.2.1
theorem dL_law_639 : decode cL_law 639 = .ok (.aload_n 0, 1) := qdL_law_634_24.2.2.2.2.1
theorem dL_law_640 : decode cL_law 640 = .ok (.iload 4, 2) := qdL_law_634_24.2.2.2.2.2.1
theorem dL_law_642 : decode cL_law 642 = .ok (.iconst 2, 1) := qdL_law_634_24.2.2.2.2.2.2.1
theorem dL_law_643 : decode cL_law 643 = .ok (.iadd, 1) := qdL_law_634_24.2.2.2.2.2.2.2.1
theorem dL_law_644 : decode cL_law 644 = .ok (.iaload, 1) := qdL_law_634_24.2.2.2.2.2.2.2.2.1
theorem dL_law_645 : decode cL_law 645 = .ok (.aload_n 3, 1) := qdL_law_634_24.2.2.2.2.2.2.2.2.2.1
theorem dL_law_646 : decode cL_law 646 = .ok (.invokestatic 153, 3) := qdL_law_634_24.2.2.2.2.2.2.2.2.2.2.1
theorem dL_law_649 : decode cL_law 649 = .ok (.istore 5, 2) := qdL_law_634_24.2.2.2.2.2.2.2.2.2.2.2.1
theorem dL_law_651 : decode cL_law 651 = .ok (.aload_n 2, 1) := qdL_law_634_24.2.2.2.2.2.2.2.2.2.2.2.2.1
theorem dL_law_652 : decode cL_law 652 = .ok (.aload_n 0, 1) := qdL_law_634_24.2.2.2.2.2.2.2.2.2.2.2.2.2.1
theorem dL_law_653 : decode cL_law 653 = .ok (.iload 4, 2) := qdL_law_634_24.2.2.2.2.2.2.2.2.2.2.2.2.2.2.1
theorem dL_law_655 : decode cL_law 655 = .ok (.iconst 1, 1) := qdL_law_634_24.2.2.2.2.2.2.2.2.2.2.2.2.2.2.2.1
theorem dL_law_656 : decode cL_law 656 = .ok (.iadd, 1) := qdL_law_634_24.2.2.2.2.2.2.2.2.2.2.2.2.2.2.2.2.1
theorem dL_law_657 : decode cL_law 657 = .ok (.iaload, 1) := qdL_law_634_24.2.2.2.2.2.2.2.2.2.2.2.2.2.2.2.2.2.1
theorem dL_law_658 : decode cL_law 658 = .ok (.aload_n 0, 1) := qdL_law_634_24.2.2.2.2.2.2.2.2.2.2.2.2.2.2.2.2.2.2.1
theorem dL_law_659 : decode cL_law 659 = .ok (.iload 4, 2) := qdL_law_634_24.2.2.2.2.2.2.2.2.2.2.2.2.2.2.2.2.2.2.2.1
theorem dL_law_661 : decode cL_law 661 = .ok (.iconst 2, 1) := qdL_law_634_24.2.2.2.2.2.2.2.2.2.2.2.2.2.2.2.2.2.2.2.2.1
theorem dL_law_662 : decode cL_law 662 = .ok (.iadd, 1) := qdL_law_634_24.2.2.2.2.2.2.2.2.2.2.2.2.2.2.2.2.2.2.2.2.2.1
theorem dL_law_663 : decode cL_law 663 = .ok (.iaload, 1) := qdL_law_634_24.2.2.2.2.2.2.2.2.2.2.2.2.2.2.2.2.2.2.2.2.2.2.1
theorem dL_law_664 : decode cL_law 664 = .ok (.invokevirtual 155, 3) := qdL_law_634_24.2.2.2.2.2.2.2.2.2.2.2.2.2.2.2.2.2.2.2.2.2.2.2.1
theorem qdL_law_667_24 : dcAll cL_law [(667, .astore 6, 2), (669, .goto 826, 3), (672, .aload_n 1, 1), (673, .aload_n 0, 1), (674, .iload 4, 2), (676, .iconst 1, 1), (677, .iadd, 1), (678, .iaload, 1), (679, .aload_n 0, 1), (680, .iload 4, 2), (682, .iconst 2, 1), (683, .iadd, 1), (684, .iaload, 1), (685, .aload_n 0, 1), (686, .iload 4, 2), (688, .iconst 3, 1), (689, .iadd, 1), (690, .iaload, 1), (691, .ifCond .eq 7, 3), (694, .iconst 1, 1), (695, .goto 4, 3), (698, .iconst 0, 1), (699, .aload_n 3, 1), (700, .invokestatic 156, 3)] := dcAll_of (by decide +kernel)
theorem dL_law_667 : decode cL_law 667 = .ok (.astore 6, 2) := qdL_law_667_24.1
theorem dL_law_669 : decode cL_law 669 = .ok (.goto 826, 3) := qdL_law_667_24.2.1
theorem dL_law_672 : decode cL_law 672 = .ok (.aload_n 1, 1) := qdL_law_667_24.2.2.1
theorem dL_law_673 : decode cL_law 673 = .ok (.aload_n 0, 1) := qdL_law_667_24.2.2.2.1
theorem dL_law_674 : decode cL_law 674 = .ok (.iload 4, 2) := qdL_law_667_24.2.2.2.2.1
theorem dL_law_676 : decode cL_law 676 = .ok (.iconst 1, 1) := qdL_law_667_24.2.2.2.2.2.1
theorem dL_law_677 : decode cL_law 677 = .ok (.iadd, 1) := qdL_law_667_24.2.2.2.2.2.2.1
theorem dL_law_678 : decode cL_law 678 = .ok (.iaload, 1) := qdL_law_667_24.2.2.2.2.2.2.2.1
theorem dL_law_679 : decode cL_law 679 = .ok (.aload_n 0, 1) := qdL_law_667_24.2.2.2.2.2.2.2.2.1
theorem dL_law_680 : decode cL_law 680 = .ok (.iload 4, 2) := qdL_law_667_24.2.2.2.2.2.2.2.2.2.1
theorem dL_law_682 : decode cL_law 682 = .ok (.iconst 2, 1) := qdL_law_667_24.2.2.2.2.2.2.2.2.2.2.1
theorem dL_law_683 : decode cL_law 683 = .ok (.iadd, 1) := qdL_law_667_24.2.2.2.2.2.2.2.2.2.2.2.1
theorem dL_law_684 : decode cL_law 684 = .ok (.iaload, 1) := qdL_law_667_24.2.2.2.2.2.2.2.2.2.2.2.2.1
theorem dL_law_685 : decode cL_law 685 = .ok (.aload_n 0, 1) := qdL_law_667_24.2.2.2.2.2.2.2.2.2.2.2.2.2.1
theorem dL_law_686 : decode cL_law 686 = .ok (.iload 4, 2) := qdL_law_667_24.2.2.2.2.2.2.2.2.2.2.2.2.2.2.1
theorem dL_law_688 : decode cL_law 688 = .ok (.iconst 3, 1) := qdL_law_667_24.2.2.2.2.2.2.2.2.2.2.2.2.2.2.2.1
theorem dL_law_689 : decode cL_law 689 = .ok (.iadd, 1) := qdL_law_667_24.2.2.2.2.2.2.2.2.2.2.2.2.2.2.2.2.1
theorem dL_law_690 : decode cL_law 690 = .ok (.iaload, 1) := qdL_law_667_24.2.2.2.2.2.2.2.2.2.2.2.2.2.2.2.2.2.1
theorem dL_law_691 : decode cL_law 691 = .ok (.ifCond .eq 7, 3) := qdL_law_667_24.2.2.2.2.2.2.2.2.2.2.2.2.2.2.2.2.2.2.1
theorem dL_law_694 : decode cL_law 694 = .ok (.iconst 1, 1) := qdL_law_667_24.2.2.2.2.2.2.2.2.2.2.2.2.2.2.2.2.2.2.2.1
theorem dL_law_695 : decode cL_law 695 = .ok (.goto 4, 3) := qdL_law_667_24.2.2.2.2.2.2.2.2.2.2.2.2.2.2.2.2.2.2.2.2.1
theorem dL_law_698 : decode cL_law 698 = .ok (.iconst 0, 1) := qdL_law_667_24.2.2.2.2.2.2.2.2.2.2.2.2.2.2.2.2.2.2.2.2.2.1
theorem dL_law_699 : decode cL_law 699 = .ok (.aload_n 3, 1) := qdL_law_667_24.2.2.2.2.2.2.2.2.2.2.2.2.2.2.2.2.2.2.2.2.2.2.1
theorem dL_law_700 : decode cL_law 700 = .ok (.invokestatic 156, 3) := qdL_law_667_24.2.2.2.2.2.2.2.2.2.2.2.2.2.2.2.2.2.2.2.2.2.2.2.1
theorem qdL_law_703_24 : dcAll cL_law [(703, .istore 5, 2), (705, .aload_n 2, 1), (706, .aload_n 0, 1), (707, .iload 4, 2), (709, .iconst 1, 1), (710, .iadd, 1), (711, .iaload, 1), (712, .aload_n 0, 1), (713, .iload 4, 2), (715, .iconst 2, 1), (716, .iadd, 1), (717, .iaload, 1), (718, .aload_n 0, 1), (719, .iload 4, 2), (721, .iconst 3, 1), (722, .iadd, 1), (723, .iaload, 1), (724, .ifCond .eq 7, 3), (727, .iconst 1, 1), (728, .goto 4, 3), (731, .iconst 0, 1), (732, .invokevirtual 159, 3), (735, .istore 6, 2), (737, .goto 758, 3)] := dcAll_of (by decide +kernel)
theorem dL_law_703 : decode cL_law 703 = .ok (.istore 5, 2) := qdL_law_703_24.1
theorem dL_law_705 : decode cL_law 705 = .ok (.aload_n 2, 1) := qdL_law_703_24.2.1
theorem dL_law_706 : decode cL_law 706 = .ok (.aload_n 0, 1) := qdL_law_703_24.2.2.1
theorem dL_law_707 : decode cL_law 707 = .ok (.iload 4, 2) := qdL_law_703_24.2.2.2.1
theorem dL_law_709 : decode cL_law 709 = .ok (.iconst 1, 1) := qdL_law_703_24.2.2.2.2.1
theorem dL_law_710 : decode cL_law 710 = .ok (.iadd, 1) := qdL_law_703_24.2.2.2.2.2.1
theorem dL_law_711 : decode cL_law 711 = .ok (.iaload, 1) := qdL_law_703_24.2.2.2.2.2.2.1
theorem dL_law_712 : decode cL_law 712 = .ok (.aload_n 0, 1) := qdL_law_703_24.2.2.2.2.2.2.2.1
theorem dL_law_713 : decode cL_law 713 = .ok (.iload 4, 2) := qdL_law_703_24.2.2.2.2.2.2.2.2.1
theorem dL_law_715 : decode cL_law 715 = .ok (.iconst 2, 1) := qdL_law_703_24.2.2.2.2.2.2.2.2.2.1
theorem dL_law_716 : decode cL_law 716 = .ok (.iadd, 1) := qdL_law_703_24.2.2.2.2.2.2.2.2.2.2.1
theorem dL_law_717 : decode cL_law 717 = .ok (.iaload, 1) := qdL_law_703_24.2.2.2.2.2.2.2.2.2.2.2.1
theorem dL_law_718 : decode cL_law 718 = .ok (.aload_n 0, 1) := qdL_law_703_24.2.2.2.2.2.2.2.2.2.2.2.2.1
theorem dL_law_719 : decode cL_law 719 = .ok (.iload 4, 2) := qdL_law_703_24.2.2.2.2.2.2.2.2.2.2.2.2.2.1
theorem dL_law_721 : decode cL_law 721 = .ok (.iconst 3, 1) := qdL_law_703_24.2.2.2.2.2.2.2.2.2.2.2.2.2.2.1
theorem dL_law_722 : decode cL_law 722 = .ok (.iadd, 1) := qdL_law_703_24.2.2.2.2.2.2.2.2.2.2.2.2.2.2.2.1
theorem dL_law_723 : decode cL_law 723 = .ok (.iaload, 1) := qdL_law_703_24.2.2.2.2.2.2.2.2.2.2.2.2.2.2.2.2.1
theorem dL_law_724 : decode cL_law 724 = .ok (.ifCond .eq 7, 3) := qdL_law_703_24.2.2.2.2.2.2.2.2.2.2.2.2.2.2.2.2.2.1
theorem dL_law_727 : decode cL_law 727 = .ok (.iconst 1, 1) := qdL_law_703_24.2.2.2.2.2.2.2.2.2.2.2.2.2.2.2.2.2.2.1
theorem dL_law_728 : decode cL_law 728 = .ok (.goto 4, 3) := qdL_law_703_24.2.2.2.2.2.2.2.2.2.2.2.2.2.2.2.2.2.2.2.1
theorem dL_law_731 : decode cL_law 731 = .ok (.iconst 0, 1) := qdL_law_703_24.2.2.2.2.2.2.2.2.2.2.2.2.2.2.2.2.2.2.2.2.1
theorem dL_law_732 : decode cL_law 732 = .ok (.invokevirtual 159, 3) := qdL_law_703_24.2.2.2.2.2.2.2.2.2.2.2.2.2.2.2.2.2.2.2.2.2.1
theorem dL_law_735 : decode cL_law 735 = .ok (.istore 6, 2) := qdL_law_703_24.2.2.2.2.2.2.2.2.2.2.2.2.2.2.2.2.2.2.2.2.2.2.1
theorem dL_law_737 : decode cL_law 737 = .ok (.goto 758, 3) := qdL_law_703_24.2.2.2.2.2.2.2.2.2.2.2.2.2.2.2.2.2.2.2.2.2.2.2.1
theorem qdL_law_740_24 : dcAll cL_law [(740, .aload_n 1, 1), (741, .aload_n 0, 1), (742, .iload 4, 2), (744, .iconst 1, 1), (745, .iadd, 1), (746, .iaload, 1), (747, .aload_n 0, 1), (748, .iload 4, 2), (750, .iconst 2, 1), (751, .iadd, 1), (752, .iaload, 1), (753, .aload_n 3, 1), (754, .invokestatic 160, 3), (757, .istore 5, 2), (759, .aload_n 2, 1), (760, .aload_n 0, 1), (761, .iload 4, 2), (763, .iconst 1, 1), (764, .iadd, 1), (765, .iaload, 1), (766, .aload_n 0, 1), (767, .iload 4, 2), (769, .iconst 2, 1), (770, .iadd, 1)] := dcAll_of (by decide +kernel)
theorem dL_law_740 : decode cL_law 740 = .ok (.aload_n 1, 1) := qdL_law_740_24.1
theorem dL_law_741 : decode cL_law 741 = .ok (.aload_n 0, 1) := qdL_law_740_24.2.1
theorem dL_law_742 : decode cL_law 742 = .ok (.iload 4, 2) := qdL_law_740_24.2.2.1
theorem dL_law_744 : decode cL_law 744 = .ok (.iconst 1, 1) := qdL_law_740_24.2.2.2.1
theorem dL_law_745 : decode cL_law 745 = .ok (.iadd, 1) := qdL_law_740_24.2.2.2.2.1
theorem dL_law_746 : decode cL_law 746 = .ok (.iaload, 1) := qdL_law_740_24.2.2.2.2.2.1
theorem dL_law_747 : decode cL_law 747 = .ok (.aload_n 0, 1) := qdL_law_740_24.2.2.2.2.2.2.1
theorem dL_law_748 : decode cL_law 748 = .ok (.iload 4, 2) := qdL_law_740_24.2.2.2.2.2.2.2.1
theorem dL_law_750 : decode cL_law 750 = .ok (.iconst 2, 1) := qdL_law_740_24.2.2.2.2.2.2.2.2.1
theorem dL_law_751 : decode cL_law 751 = .ok (.iadd, 1) := qdL_law_740_24.2.2.2.2.2.2.2.2.2.1
theorem dL_law_752 : decode cL_law 752 = .ok (.iaload, 1) := qdL_law_740_24.2.2.2.2.2.2.2.2.2.2.1
theorem dL_law_753 : decode cL_law 753 = .ok (.aload_n 3, 1) := qdL_law_740_24.2.2.2.2.2.2.2.2.2.2.2.1
theorem dL_law_754 : decode cL_law 754 = .ok (.invokestatic 160, 3) := qdL_law_740_24.2.2.2.2.2.2.2.2.2.2.2.2.1
theorem dL_law_757 : decode cL_law 757 = .ok (.istore 5, 2) := qdL_law_740_24.2.2.2.2.2.2.2.2.2.2.2.2.2.1
theorem dL_law_759 : decode cL_law 759 = .ok (.aload_n 2, 1) := qdL_law_740_24.2.2.2.2.2.2.2.2.2.2.2.2.2.2.1
theorem dL_law_760 : decode cL_law 760 = .ok (.aload_n 0, 1) := qdL_law_740_24.2.2.2.2.2.2.2.2.2.2.2.2.2.2.2.1
theorem dL_law_761 : decode cL_law 761 = .ok (.iload 4, 2) := qdL_law_740_24.2.2.2.2.2.2.2.2.2.2.2.2.2.2.2.2.1
theorem dL_law_763 : decode cL_law 763 = .ok (.iconst 1, 1) := qdL_law_740_24.2.2.2.2.2.2.2.2.2.2.2.2.2.2.2.2.2.1
theorem dL_law_764 : decode cL_law 764 = .ok (.iadd, 1) := qdL_law_740_24.2.2.2.2.2.2.2.2.2.2.2.2.2.2.2.2.2.2.1
theorem dL_law_765 : decode cL_law 765 = .ok (.iaload, 1) := qdL_law_740_24.2.2.2.2.2.2.2.2.2.2.2.2.2.2.2.2.2.2.2.1
theorem dL_law_766 : decode cL_law 766 = .ok (.aload_n 0, 1) := qdL_law_740_24.2.2.2.2.2.2.2.2.2.2.2.2.2.2.2.2.2.2.2.2.1
theorem dL_law_767 : decode cL_law 767 = .ok (.iload 4, 2) := qdL_law_740_24.2.2.2.2.2.2.2.2.2.2.2.2.2.2.2.2.2.2.2.2.2.1
theorem dL_law_769 : decode cL_law 769 = .ok (.iconst 2, 1) := qdL_law_740_24.2.2.2.2.2.2.2.2.2.2.2.2.2.2.2.2.2.2.2.2.2.2.1
theorem dL_law_770 : decode cL_law 770 = .ok (.iadd, 1) := qdL_law_740_24.2.2.2.2.2.2.2.2.2.2.2.2.2.2.2.2.2.2.2.2.2.2.2.1
theorem qdL_law_771_24 : dcAll cL_law [(771, .iaload, 1), (772, .invokevirtual 162, 3), (775, .istore 6, 2), (777, .goto 718, 3), (780, .aload_n 1, 1), (781, .aload_n 0, 1), (782, .iload 4, 2), (784, .iconst 1, 1), (785, .iadd, 1), (786, .iaload, 1), (787, .aload_n 0, 1), (788, .iload 4, 2), (790, .iconst 2, 1), (791, .iadd, 1), (792, .iaload, 1), (793, .aload_n 3, 1), (794, .invokestatic 163, 3), (797, .istore 5, 2), (799, .aload_n 2, 1), (800, .aload_n 0, 1), (801, .iload 4, 2), (803, .iconst 1, 1), (804, .iadd, 1), (805, .iaload, 1)] := dcAll_of (by decide +kernel)
theorem dL_law_771 : decode cL_law 771 = .ok (.iaload, 1) := qdL_law_771_24.1
theorem dL_law_772 : decode cL_law 772 = .ok (.invokevirtual 162, 3) := qdL_law_771_24.2.1
theorem dL_law_775 : decode cL_law 775 = .ok (.istore 6, 2) := qdL_law_771_24.2.2.1
theorem dL_law_777 : decode cL_law 777 = .ok (.goto 718, 3) := qdL_law_771_24.2.2.2.1
theorem dL_law_780 : decode cL_law 780 = .ok (.aload_n 1, 1) := qdL_law_771_24.2.2.2.2.1
theorem dL_law_781 : decode cL_law 781 = .ok (.aload_n 0, 1) := qdL_law_771_24.2.2.2.2.2.1
theorem dL_law_782 : decode cL_law 782 = .ok (.iload 4, 2) := qdL_law_771_24.2.2.2.2.2.2.1
theorem dL_law_784 : decode cL_law 784 = .ok (.iconst 1, 1) := qdL_law_771_24.2.2.2.2.2.2.2.1
theorem dL_law_785 : decode cL_law 785 = .ok (.iadd, 1) := qdL_law_771_24.2.2.2.2.2.2.2.2.1
theorem dL_law_786 : decode cL_law 786 = .ok (.iaload, 1) := qdL_law_771_24.2.2.2.2.2.2.2.2.2.1
theorem dL_law_787 : decode cL_law 787 = .ok (.aload_n 0, 1) := qdL_law_771_24.2.2.2.2.2.2.2.2.2.2.1
theorem dL_law_788 : decode cL_law 788 = .ok (.iload 4, 2) := qdL_law_771_24.2.2.2.2.2.2.2.2.2.2.2.1
theorem dL_law_790 : decode cL_law 790 = .ok (.iconst 2, 1) := qdL_law_771_24.2.2.2.2.2.2.2.2.2.2.2.2.1
theorem dL_law_791 : decode cL_law 791 = .ok (.iadd, 1) := qdL_law_771_24.2.2.2.2.2.2.2.2.2.2.2.2.2.1
theorem dL_law_792 : decode cL_law 792 = .ok (.iaload, 1) := qdL_law_771_24.2.2.2.2.2.2.2.2.2.2.2.2.2.2.1
theorem dL_law_793 : decode cL_law 793 = .ok (.aload_n 3, 1) := qdL_law_771_24.2.2.2.2.2.2.2.2.2.2.2.2.2.2.2.1
theorem dL_law_794 : decode cL_law 794 = .ok (.invokestatic 163, 3) := qdL_law_771_24.2.2.2.2.2.2.2.2.2.2.2.2.2.2.2.2.1
theorem dL_law_797 : decode cL_law 797 = .ok (.istore 5, 2) := qdL_law_771_24.2.2.2.2.2.2.2.2.2.2.2.2.2.2.2.2.2.1
theorem dL_law_799 : decode cL_law 799 = .ok (.aload_n 2, 1) := qdL_law_771_24.2.2.2.2.2.2.2.2.2.2.2.2.2.2.2.2.2.2.1
theorem dL_law_800 : decode cL_law 800 = .ok (.aload_n 0, 1) := qdL_law_771_24.2.2.2.2.2.2.2.2.2.2.2.2.2.2.2.2.2.2.2.1
theorem dL_law_801 : decode cL_law 801 = .ok (.iload 4, 2) := qdL_law_771_24.2.2.2.2.2.2.2.2.2.2.2.2.2.2.2.2.2.2.2.2.1
theorem dL_law_803 : decode cL_law 803 = .ok (.iconst 1, 1) := qdL_law_771_24.2.2.2.2.2.2.2.2.2.2.2.2.2.2.2.2.2.2.2.2.2.1
theorem dL_law_804 : decode cL_law 804 = .ok (.iadd, 1) := qdL_law_771_24.2.2.2.2.2.2.2.2.2.2.2.2.2.2.2.2.2.2.2.2.2.2.1
theorem dL_law_805 : decode cL_law 805 = .ok (.iaload, 1) := qdL_law_771_24.2.2.2.2.2.2.2.2.2.2.2.2.2.2.2.2.2.2.2.2.2.2.2.1
theorem qdL_law_806_24 : dcAll cL_law [(806, .aload_n 0, 1), (807, .iload 4, 2), (809, .iconst 2, 1), (810, .iadd, 1), (811, .iaload, 1), (812, .invokevirtual 165, 3), (815, .istore 6, 2), (817, .aload_n 2, 1), (818, .invokevirtual 166, 3), (821, .iload 5, 2), (823, .if_icmp .eq 5, 3), (826, .iconst 0, 1), (828, .iload 5, 2), (830, .ifCond .ne 23, 3), (833, .aload_n 3, 1), (834, .getfield 13, 3), (837, .iload 6, 2), (839, .ifCond .eq 7, 3), (842, .lconst 1, 1), (843, .goto 4, 3), (846, .lconst 0, 1), (847, .lcmp, 1), (848, .ifCond .eq 5, 3), (851, .iconst 0, 1)] := dcAll_of (by decide +kernel)
theorem dL_law_806 : decode cL_law 806 = .ok (.aload_n 0, 1) := qdL_law_806_24.1
theorem dL_law_807 : decode cL_law 807 = .ok (.iload 4, 2) := qdL_law_806_24.2.1
theorem dL_law_809 : decode cL_law 809 = .ok (.iconst 2, 1) := qdL_law_806_24.2.2.1
theorem dL_law_810 : decode cL_law 810 = .ok (.iadd, 1) := qdL_law_806_24.2.2.2.1
theorem dL_law_811 : decode cL_law 811 = .ok (.iaload, 1) := qdL_law_806_24.2.2.2.2.1
theorem dL_law_812 : decode cL_law 812 = .ok (.invokevirtual 165, 3) := qdL_law_806_24.2.2.2.2.2.1
theorem dL_law_815 : decode cL_law 815 = .ok (.istore 6, 2) := qdL_law_806_24.2.2.2.2.2.2.1
theorem dL_law_817 : decode cL_law 817 = .ok (.aload_n 2, 1) := qdL_law_806_24.2.2.2.2.2.2.2.1
theorem dL_law_818 : decode cL_law 818 = .ok (.invokevirtual 166, 3) := qdL_law_806_24.2.2.2.2.2.2.2.2.1
theorem dL_law_821 : decode cL_law 821 = .ok (.iload 5, 2) := qdL_law_806_24.2.2.2.2.2.2.2.2.2.1
theorem dL_law_823 : decode cL_law 823 = .ok (.if_icmp .eq 5, 3) := qdL_law_806_24.2.2.2.2.2.2.2.2.2.2.1
theorem dL_law_826 : decode cL_law 826 = .ok (.iconst 0, 1) := qdL_law_806_24.2.2.2.2.2.2.2.2.2.2.2.1
theorem dL_law_828 : decode cL_law 828 = .ok (.iload 5, 2) := qdL_law_806_24.2.2.2.2.2.2.2.2.2.2.2.2.1
theorem dL_law_830 : decode cL_law 830 = .ok (.ifCond .ne 23, 3) := qdL_law_806_24.2.2.2.2.2.2.2.2.2.2.2.2.2.1
theorem dL_law_833 : decode cL_law 833 = .ok (.aload_n 3, 1) := qdL_law_806_24.2.2.2.2.2.2.2.2.2.2.2.2.2.2.1
theorem dL_law_834 : decode cL_law 834 = .ok (.getfield 13, 3) := qdL_law_806_24.2.2.2.2.2.2.2.2.2.2.2.2.2.2.2.1
theorem dL_law_837 : decode cL_law 837 = .ok (.iload 6, 2) := qdL_law_806_24.2.2.2.2.2.2.2.2.2.2.2.2.2.2.2.2.1
theorem dL_law_839 : decode cL_law 839 = .ok (.ifCond .eq 7, 3) := qdL_law_806_24.2.2.2.2.2.2.2.2.2.2.2.2.2.2.2.2.2.1
theorem dL_law_842 : decode cL_law 842 = .ok (.lconst 1, 1) := qdL_law_806_24.2.2.2.2.2.2.2.2.2.2.2.2.2.2.2.2.2.2.1
theorem dL_law_843 : decode cL_law 843 = .ok (.goto 4, 3) := qdL_law_806_24.2.2.2.2.2.2.2.2.2.2.2.2.2.2.2.2.2.2.2.1
theorem dL_law_846 : decode cL_law 846 = .ok (.lconst 0, 1) := qdL_law_806_24.2.2.2.2.2.2.2.2.2.2.2.2.2.2.2.2.2.2.2.2.1
theorem dL_law_847 : decode cL_law 847 = .ok (.lcmp, 1) := qdL_law_806_24.2.2.2.2.2.2.2.2.2.2.2.2.2.2.2.2.2.2.2.2.2.1
theorem dL_law_848 : decode cL_law 848 = .ok (.ifCond .eq 5, 3) := qdL_law_806_24.2.2.2.2.2.2.2.2.2.2.2.2.2.2.2.2.2.2.2.2.2.2.1
theorem dL_law_851 : decode cL_law 851 = .ok (.iconst 0, 1) := qdL_law_806_24.2.2.2.2.2.2.2.2.2.2.2.2.2.2.2.2.2.2.2.2.2.2.2.1
theorem qdL_law_853_24 : dcAll cL_law [(853, .goto 642, 3), (856, .aload_n 1, 1), (857, .aload_n 0, 1), (858, .iload 4, 2), (860, .iconst 1, 1), (861, .iadd, 1), (862, .iaload, 1), (863, .aload_n 0, 1), (864, .iload 4, 2), (866, .iconst 2, 1), (867, .iadd, 1), (868, .iaload, 1), (869, .aload_n 3, 1), (870, .invokestatic 170, 3), (873, .istore 5, 2), (875, .aload_n 2, 1), (876, .aload_n 0, 1), (877, .iload 4, 2), (879, .iconst 1, 1), (880, .iadd, 1), (881, .iaload, 1), (882, .aload_n 0, 1), (883, .iload 4, 2), (885, .iconst 2, 1)] := dcAll_of (by decide +kernel)
theorem dL_law_853 : decode cL_law 853 = .ok (.goto 642, 3) := qdL_law_853_24.1
theorem dL_law_856 : decode cL_law 856 = .ok (.aload_n 1, 1) := qdL_law_853_24.2.1
theorem dL_law_857 : decode cL_law 857 = .ok (.aload_n 0, 1) := qdL_law_853_24.2.2.1
theorem dL_law_858 : decode cL_law 858 = .ok (.iload 4, 2) := qdL_law_853_24.2.2.2.1
theorem dL_law_860 : decode cL_law 860 = .ok (.iconst 1, 1) := qdL_law_853_24.2.2.2.2.1
theorem dL_law_861 : decode cL_law 861 = .ok (.iadd, 1) := qdL_law_853_24.2.2.2.2.2.1
theorem dL_law_862 : decode cL_law 862 = .ok (.iaload, 1) := qdL_law_853_24.2.2.2.2.2.2.1
theorem dL_law_863 : decode cL_law 863 = .ok (.aload_n 0, 1) := qdL_law_853_24.2.2.2.2.2.2.2.1
theorem dL_law_864 : decode cL_law 864 = .ok (.iload 4, 2) := qdL_law_853_24.2.2.2.2.2.2.2.2.1
theorem dL_law_866 : decode cL_law 866 = .ok (.iconst 2, 1) := qdL_law_853_24.2.2.2.2.2.2.2.2.2.1
theorem dL_law_867 : decode cL_law 867 = .ok (.iadd, 1) := qdL_law_853_24.2.2.2.2.2.2.2.2.2.2.1
theorem dL_law_868 : decode cL_law 868 = .ok (.iaload, 1) := qdL_law_853_24.2.2.2.2.2.2.2.2.2.2.2.1
theorem dL_law_869 : decode cL_law 869 = .ok (.aload_n 3, 1) := qdL_law_853_24.2.2.2.2.2.2.2.2.2.2.2.2.1
theorem dL_law_870 : decode cL_law 870 = .ok (.invokestatic 170, 3) := qdL_law_853_24.2.2.2.2.2.2.2.2.2.2.2.2.2.1
theorem dL_law_873 : decode cL_law 873 = .ok (.istore 5, 2) := qdL_law_853_24.2.2.2.2.2.2.2.2.2.2.2.2.2.2.1
theorem dL_law_875 : decode cL_law 875 = .ok (.aload_n 2, 1) := qdL_law_853_24.2.2.2.2.2.2.2.2.2.2.2.2.2.2.2.1
theorem dL_law_876 : decode cL_law 876 = .ok (.aload_n 0, 1) := qdL_law_853_24.2.2.2.2.2.2.2.2.2.2.2.2.2.2.2.2.1
theorem dL_law_877 : decode cL_law 877 = .ok (.iload 4, 2) := qdL_law_853_24.2.2.2.2.2.2.2.2.2.2.2.2.2.2.2.2.2.1
theorem dL_law_879 : decode cL_law 879 = .ok (.iconst 1, 1) := qdL_law_853_24.2.2.2.2.2.2.2.2.2.2.2.2.2.2.2.2.2.2.1
theorem dL_law_880 : decode cL_law 880 = .ok (.iadd, 1) := qdL_law_853_24.2.2.2.2.2.2.2.2.2.2.2.2.2.2.2.2.2.2.2.1
theorem dL_law_881 : decode cL_law 881 = .ok (.iaload, 1) := qdL_law_853_24.2.2.2.2.2.2.2.2.2.2.2.2.2.2.2.2.2.2.2.2.1
theorem dL_law_882 : decode cL_law 882 = .ok (.aload_n 0, 1) := qdL_law_853_24.2.2.2.2.2.2.2.2.2.2.2.2.2.2.2.2.2.2.2.2.2.1
theorem dL_law_883 : decode cL_law 883 = .ok (.iload 4, 2) := qdL_law_853_24.2.2.2.2.2.2.2.2.2.2.2.2.2.2.2.2.2.2.2.2.2.2.1
theorem dL_law_885 : decode cL_law 885 = .ok (.iconst 2, 1) := qdL_law_853_24.2.2.2.2.2.2.2.2.2.2.2.2.2.2.2.2.2.2.2.2.2.2.2.1
theorem qdL_law_886_24 : dcAll cL_law [(886, .iadd, 1), (887, .iaload, 1), (888, .invokevirtual 172, 3), (891, .astore 6, 2), (893, .goto 602, 3), (896, .aload_n 1, 1), (897, .aload_n 0, 1), (898, .iload 4, 2), (900, .iconst 1, 1), (901, .iadd, 1), (902, .iaload, 1), (903, .aload_n 0, 1), (904, .iload 4, 2), (906, .iconst 2, 1), (907, .iadd, 1), (908, .iaload, 1), (909, .aload_n 0, 1), (910, .iload 4, 2), (912, .iconst 3, 1), (913, .iadd, 1), (914, .iaload, 1), (915, .aload_n 0, 1), (916, .iload 4, 2), (918, .iconst 4, 1)] := dcAll_of (by decide +kernel)
theorem dL_law_886 : decode cL_law 886 = .ok (.iadd, 1) := qdL_law_886_24.1
theorem dL_law_887 : decode cL_law 887 = .ok (.iaload, 1) := qdL_law_886_24.2.1
theorem dL_law_888 : decode cL_law 888 = .ok (.invokevirtual 172, 3) := qdL_law_886_24.2.2.1
theorem dL_law_891 : decode cL_law 891 = .ok (.astore 6, 2) := qdL_law_886_24.2.2.2.1
theorem dL_law_893 : decode cL_law 893 = .ok (.goto 602, 3) := qdL_law_886_24.2.2.2.2.1
theorem dL_law_896 : decode cL_law 896 = .ok (.aload_n 1, 1) := qdL_law_886_24.2.2.2.2.2.1
theorem dL_law_897 : decode cL_law 897 = .ok (.aload_n 0, 1) := qdL_law_886_24.2.2.2.2.2.2.1
theorem dL_law_898 : decode cL_law 898 = .ok (.iload 4, 2) := qdL_law_886_24.2.2.2.2.2.2.2.1
theorem dL_law_900 : decode cL_law 900 = .ok (.iconst 1, 1) := qdL_law_886_24.2.2.2.2.2.2.2.2.1
theorem dL_law_901 : decode cL_law 901 = .ok (.iadd, 1) := qdL_law_886_24.2.2.2.2.2.2.2.2.2.1
theorem dL_law_902 : decode cL_law 902 = .ok (.iaload, 1) := qdL_law_886_24.2.2.2.2.2.2.2.2.2.2.1
theorem dL_law_903 : decode cL_law 903 = .ok (.aload_n 0, 1) := qdL_law_886_24.2.2.2.2.2.2.2.2.2.2.2.1
theorem dL_law_904 : decode cL_law 904 = .ok (.iload 4, 2) := qdL_law_886_24.2.2.2.2.2.2.2.2.2.2.2.2.1
theorem dL_law_906 : decode cL_law 906 = .ok (.iconst 2, 1) := qdL_law_886_24.2.2.2.2.2.2.2.2.2.2.2.2.2.1
theorem dL_law_907 : decode cL_law 907 = .ok (.iadd, 1) := qdL_law_886_24.2.2.2.2.2.2.2.2.2.2.2.2.2.2.1
theorem dL_law_908 : decode cL_law 908 = .ok (.iaload, 1) := qdL_law_886_24.2.2.2.2.2.2.2.2.2.2.2.2.2.2.2.1
theorem dL_law_909 : decode cL_law 909 = .ok (.aload_n 0, 1) := qdL_law_886_24.2.2.2.2.2.2.2.2.2.2.2.2.2.2.2.2.1
theorem dL_law_910 : decode cL_law 910 = .ok (.iload 4, 2) := qdL_law_886_24.2.2.2.2.2.2.2.2.2.2.2.2.2.2.2.2.2.1
theorem dL_law_912 : decode cL_law 912 = .ok (.iconst 3, 1) := qdL_law_886_24.2.2.2.2.2.2.2.2.2.2.2.2.2.2.2.2.2.2.1
theorem dL_law_913 : decode cL_law 913 = .ok (.iadd, 1) := qdL_law_886_24.2.2.2.2.2.2.2.2.2.2.2.2.2.2.2.2.2.2.2.1
theorem dL_law_914 : decode cL_law 914 = .ok (.iaload, 1) := qdL_law_886_24.2.2.2.2.2.2.2.2.2.2.2.2.2.2.2.2.2.2.2.2.1
theorem dL_law_915 : decode cL_law 915 = .ok (.aload_n 0, 1) := qdL_law_886_24.2.2.2.2.2.2.2.2.2.2.2.2.2.2.2.2.2.2.2.2.2.1
theorem dL_law_916 : decode cL_law 916 = .ok (.iload 4, 2) := qdL_law_886_24.2.2.2.2.2.2.2.2.2.2.2.2.2.2.2.2.2.2.2.2.2.2.1
theorem dL_law_918 : decode cL_law 918 = .ok (.iconst 4, 1) := qdL_law_886_24.2.2.2.2.2.2.2.2.2.2.2.2.2.2.2.2.2.2.2.2.2.2.2.1
theorem qdL_law_919_24 : dcAll cL_law [(919, .iadd, 1), (920, .iaload, 1), (921, .aload_n 3, 1), (922, .invokestatic 173, 3), (925, .istore 5, 2), (927, .aload_n 2, 1), (928, .aload_n 0, 1), (929, .iload 4, 2), (931, .iconst 1, 1), (932, .iadd, 1), (933, .iaload, 1), (934, .aload_n 0, 1), (935, .iload 4, 2), (937, .iconst 2, 1), (938, .iadd, 1), (939, .iaload, 1), (940, .aload_n 0, 1), (941, .iload 4, 2), (943, .iconst 3, 1), (944, .iadd, 1), (945, .iaload, 1), (946, .aload_n 0, 1), (947, .iload 4, 2), (949, .iconst 4, 1)] := dcAll_of (by decide +kernel)
theorem dL_law_919 : decode cL_law 919 = .ok (.iadd, 1) := qdL_law_919_24.1
theorem dL_law_920 : decode cL_law 920 = .ok (.iaload, 1) := qdL_law_919_24.2.1
theorem dL_law_921 : decode cL_law 921 = .ok (.aload_n 3, 1) := qdL_law_919_24.2.2.1
theorem dL_law_922 : decode cL_law 922 = .ok (.invokestatic 173, 3) := qdL_law_919_24.2.2.2.1
theorem dL_law_925 : decode cL_law 925 = .ok (.istore 5, 2) := qdL_law_919_24.2.2.2.2.1
theorem dL_law_927 : decode cL_law 927 = .ok (.aload_n 2, 1) := qdL_law_919_24.2.2.2.2.2.1
theorem dL_law_928 : decode cL_law 928 = .ok (.aload_n 0, 1) := qdL_law_919_24.2.2.2.2.2.2.1
theorem dL_law_929 : decode cL_law 929 = .ok (.iload 4, 2) := qdL_law_919_24.2.2.2.2.2.2.2.1
theorem dL_law_931 : decode cL_law 931 = .ok (.iconst 1, 1) := qdL_law_919_24.2.2.2.2.2.2.2.2.1
theorem dL_law_932 : decode cL_law 932 = .ok (.iadd, 1) := qdL_law_919_24.2.2.2.2.2.2.2.2.2.1
theorem dL_law_933 : decode cL_law 933 = .ok (.iaload, 1) := qdL_law_919_24.2.2.2.2.2.2.2.2.2.2.1
theorem dL_law_934 : decode cL_law 934 = .ok (.aload_n 0, 1) := qdL_law_919_24.2.2.2.2.2.2.2.2.2.2.2.1
theorem dL_law_935 : decode cL_law 935 = .ok (.iload 4, 2) := qdL_law_919_24.2.2.2.2.2.2.2.2.2.2.2.2.1
theorem dL_law_937 : decode cL_law 937 = .ok (.iconst 2, 1) := qdL_law_919_24.2.2.2.2.2.2.2.2.2.2.2.2.2.1
theorem dL_law_938 : decode cL_law 938 = .ok (.iadd, 1) := qdL_law_919_24.2.2.2.2.2.2.2.2.2.2.2.2.2.2.1
theorem dL_law_939 : decode cL_law 939 = .ok (.iaload, 1) := qdL_law_919_24.2.2.2.2.2.2.2.2.2.2.2.2.2.2.2.1
theorem dL_law_940 : decode cL_law 940 = .ok (.aload_n 0, 1) := qdL_law_919_24.2.2.2.2.2.2.2.2.2.2.2.2.2.2.2.2.1
theorem dL_law_941 : decode cL_law 941 = .ok (.iload 4, 2) := qdL_law_919_24.2.2.2.2.2.2.2.2.2.2.2.2.2.2.2.2.2.1
theorem dL_law_943 : decode cL_law 943 = .ok (.iconst 3, 1) := qdL_law_919_24.2.2.2.2.2.2.2.2.2.2.2.2.2.2.2.2.2.2.1
theorem dL_law_944 : decode cL_law 944 = .ok (.iadd, 1) := qdL_law_919_24.2.2.2.2.2.2.2.2.2.2.2.2.2.2.2.2.2.2.2.1
theorem dL_law_945 : decode cL_law 945 = .ok (.iaload, 1) := qdL_law_919_24.2.2.2.2.2.2.2.2.2.2.2.2.2.2.2.2.2.2.2.2.1
theorem dL_law_946 : decode cL_law 946 = .ok (.aload_n 0, 1) := qdL_law_919_24.2.2.2.2.2.2.2.2.2.2.2.2.2.2.2.2.2.2.2.2.2.1
theorem dL_law_947 : decode cL_law 947 = .ok (.iload 4, 2) := qdL_law_919_24.2.2.2.2.2.2.2.2.2.2.2.2.2.2.2.2.2.2.2.2.2.2.1
theorem dL_law_949 : decode cL_law 949 = .ok (.iconst 4, 1) := qdL_law_919_24.2.2.2.2.2.2.2.2.2.2.2.2.2.2.2.2.2.2.2.2.2.2.2.1
theorem qdL_law_950_24 : dcAll cL_law [(950, .iadd, 1), (951, .iaload, 1), (952, .invokevirtual 175, 3), (955, .astore 6, 2), (957, .goto 538, 3), (960, .aload_n 1, 1), (961, .aload_n 0, 1), (962, .iload 4, 2), (964, .iconst 1, 1), (965, .iadd, 1), (966, .iaload, 1), (967, .aload_n 0, 1), (968, .iload 4, 2), (970, .iconst 2, 1), (971, .iadd, 1), (972, .iaload, 1), (973, .aload_n 0, 1), (974, .iload 4, 2), (976, .iconst 3, 1), (977, .iadd, 1), (978, .iaload, 1), (979, .aload_n 3, 1), (980, .invokestatic 176, 3), (983, .istore 5, 2)] := dcAll_of (by decide +kernel)
theorem dL_law_950 : decode cL_law 950 = .ok (.iadd, 1) := qdL_law_950_24.1
theorem dL_law_951 : decode cL_law 951 = .ok (.iaload, 1) := qdL_law_950_24.2.1
theorem dL_law_952 : decode cL_law 952 = .ok (.invokevirtual 175, 3) := qdL_law_950_24.2.2.1
theorem dL_law_955 : decode cL_law 955 = .ok (.astore 6, 2) := qdL_law_950_24.2.2.2.1
theorem dL_law_957 : decode cL_law 957 = .ok (.goto 538, 3) := qdL_law_950_24.2.2.2.2.1
theorem dL_law_960 : decode cL_law 960 = .ok (.aload_n 1, 1) := qdL_law_950_24.2.2.2.2.2.1
theorem dL_law_961 : decode cL_law 961 = .ok (.aload_n 0, 1) := qdL_law_950_24.2.2.2.2.2.2.1
theorem dL_law_962 : decode cL_law 962 = .ok (.iload 4, 2) := qdL_law_950_24.2.2.2.2.2.2.2.1
theorem dL_law_964 : decode cL_law 964 = .ok (.iconst 1, 1) := qdL_law_950_24.2.2.2.2.2.2.2.2.1
theorem dL_law_965 : decode cL_law 965 = .ok (.iadd, 1) := qdL_law_950_24.2.2.2.2.2.2.2.2.2.1
theorem dL_law_966 : decode cL_law 966 = .ok (.iaload, 1) := qdL_law_950_24.2.2.2.2.2.2.2.2.2.2.1
theorem dL_law_967 : decode cL_law 967 = .ok (.aload_n 0, 1) := qdL_law_950_24.2.2.2.2.2.2.2.2.2.2.2.1
theorem dL_law_968 : decode cL_law 968 = .ok (.iload 4, 2) := qdL_law_950_24.2.2.2.2.2.2.2.2.2.2.2.2.1
theorem dL_law_970 : decode cL_law 970 = .ok (.iconst 2, 1) := qdL_law_950_24.2.2.2.2.2.2.2.2.2.2.2.2.2.1
theorem dL_law_971 : decode cL_law 971 = .ok (.iadd, 1) := qdL_law_950_24.2.2.2.2.2.2.2.2.2.2.2.2.2.2.1
theorem dL_law_972 : decode cL_law 972 = .ok (.iaload, 1) := qdL_law_950_24.2.2.2.2.2.2.2.2.2.2.2.2.2.2.2.1
theorem dL_law_973 : decode cL_law 973 = .ok (.aload_n 0, 1) := qdL_law_950_24.2.2.2.2.2.2.2.2.2.2.2.2.2.2.2.2.1
theorem dL_law_974 : decode cL_law 974 = .ok (.iload 4, 2) := qdL_law_950_24.2.2.2.2.2.2.2.2.2.2.2.2.2.2.2.2.2.1
theorem dL_law_976 : decode cL_law 976 = .ok (.iconst 3, 1) := qdL_law_950_24.2.2.2.2.2.2.2.2.2.2.2.2.2.2.2.2.2.2.1
theorem dL_law_977 : decode cL_law 977 = .ok (.iadd, 1) := qdL_law_950_24.2.2.2.2.2.2.2.2.2.2.2.2.2.2.2.2.2.2.2.1
theorem dL_law_978 : decode cL_law 978 = .ok (.iaload, 1) := qdL_law_950_24.2.2.2.2.2.2.2.2.2.2.2.2.2.2.2.2.2.2.2.2.1
theorem dL_law_979 : decode cL_law 979 = .ok (.aload_n 3, 1) := qdL_law_950_24.2.2.2.2.2.2.2.2.2.2.2.2.2.2.2.2.2.2.2.2.2.1
theorem dL_law_980 : decode cL_law 980 = .ok (.invokestatic 176, 3) := qdL_law_950_24.2.2.2.2.2.2.2.2.2.2.2.2.2.2.2.2.2.2.2.2.2.2.1
theorem dL_law_983 : decode cL_law 983 = .ok (.istore 5, 2) := qdL_law_950_24.2.2.2.2.2.2.2.2.2.2.2.2.2.2.2.2.2.2.2.2.2.2.2.1
theorem qdL_law_985_24 : dcAll cL_law [(985, .aload_n 2, 1), (986, .aload_n 0, 1), (987, .iload 4, 2), (989, .iconst 1, 1), (990, .iadd, 1), (991, .iaload, 1), (992, .aload_n 0, 1), (993, .iload 4, 2), (995, .iconst 2, 1), (996, .iadd, 1), (997, .iaload, 1), (998, .aload_n 0, 1), (999, .iload 4, 2), (1001, .iconst 3, 1), (1002, .iadd, 1), (1003, .iaload, 1), (1004, .invokevirtual 178, 3), (1007, .astore 6, 2), (1009, .goto 486, 3), (1012, .aload_n 1, 1), (1013, .aload_n 0, 1), (1014, .iload 4, 2), (1016, .iconst 1, 1), (1017, .iadd, 1)] := dcAll_of (by decide +kernel)
theorem dL_law_985 : decode cL_law 985 = .ok (.aload_n 2, 1) := qdL_law_985_24.1
theorem dL_law_986 : decode cL_law 986 = .ok (.aload_n 0, 1) := qdL_law_985_24.2.1
theorem dL_law_987 : decode cL_law 987 = .ok (.iload 4, 2) := qdL_law_985_24.2.2.1
theorem dL_law_989 : decode cL_law 989 = .ok (.iconst 1, 1) := qdL_law_985_24.2.2.2.1
theorem dL_law_990 : decode cL_law 990 = .ok (.iadd, 1) := qdL_law_985_24.2.2.2.2.1
theorem dL_law_991 : decode cL_law 991 = .ok (.iaload, 1) := qdL_law_985_24.2.2.2.2.2.1
theorem dL_law_992 : decode cL_law 992 = .ok (.aload_n 0, 1) := qdL_law_985_24.2.2.2.2.2.2.1
theorem dL_law_993 : decode cL_law 993 = .ok (.iload 4, 2) := qdL_law_985_24.2.2.2.2.2.2.2.1
theorem dL_law_995 : decode cL_law 995 = .ok (.iconst 2, 1) := qdL_law_985_24.2.2.2.2.2.2.2.2.1
theorem dL_law_996 : decode cL_law 996 = .ok (.iadd, 1) := qdL_law_985_24.2.2.2.2.2.2.2.2.2.1
theorem dL_law_997 : decode cL_law 997 = .ok (.iaload, 1) := qdL_law_985_24.2.2.2.2.2.2.2.2.2.2.1
theorem dL_law_998 : decode cL_law 998 = .ok (.aload_n 0, 1) := qdL_law_985_24.2.2.2.2.2.2.2.2.2.2.2.1
theorem dL_law_999 : decode cL_law 999 = .ok (.iload 4, 2) := qdL_law_985_24.2.2.2.2.2.2.2.2.2.2.2.2.1
theorem dL_law_1001 : decode cL_law 1001 = .ok (.iconst 3, 1) := qdL_law_985_24.2.2.2.2.2.2.2.2.2.2.2.2.2.1
theorem dL_law_1002 : decode cL_law 1002 = .ok (.iadd, 1) := qdL_law_985_24.2.2.2.2.2.2.2.2.2.2.2.2.2.2.1
theorem dL_law_1003 : decode cL_law 1003 = .ok (.iaload, 1) := qdL_law_985_24.2.2.2.2.2.2.2.2.2.2.2.2.2.2.2.1
theorem dL_law_1004 : decode cL_law 1004 = .ok (.invokevirtual 178, 3) := qdL_law_985_24.2.2.2.2.2.2.2.2.2.2.2.2.2.2.2.2.1
theorem dL_law_1007 : decode cL_law 1007 = .ok (.astore 6, 2) := qdL_law_985_24.2.2.2.2.2.2.2.2.2.2.2.2.2.2.2.2.2.1
theorem dL_law_1009 : decode cL_law 1009 = .ok (.goto 486, 3) := qdL_law_985_24.2.2.2.2.2.2.2.2.2.2.2.2.2.2.2.2.2.2.1
theorem dL_law_1012 : decode cL_law 1012 = .ok (.aload_n 1, 1) := qdL_law_985_24.2.2.2.2.2.2.2.2.2.2.2.2.2.2.2.2.2.2.2.1
theorem dL_law_1013 : decode cL_law 1013 = .ok (.aload_n 0, 1) := qdL_law_985_24.2.2.2.2.2.2.2.2.2.2.2.2.2.2.2.2.2.2.2.2.1
theorem dL_law_1014 : decode cL_law 1014 = .ok (.iload 4, 2) := qdL_law_985_24.2.2.2.2.2.2.2.2.2.2.2.2.2.2.2.2.2.2.2.2.2.1
theorem dL_law_1016 : decode cL_law 1016 = .ok (.iconst 1, 1) := qdL_law_985_24.2.2.2.2.2.2.2.2.2.2.2.2.2.2.2.2.2.2.2.2.2.2.1
theorem dL_law_1017 : decode cL_law 1017 = .ok (.iadd, 1) := qdL_law_985_24.2.2.2.2.2.2.2.2.2.2.2.2.2.2.2.2.2.2.2.2.2.2.2.1
theorem qdL_law_1018_24 : dcAll cL_law [(1018, .iaload, 1), (1019, .aload_n 0, 1), (1020, .iload 4, 2), (1022, .iconst 2, 1), (1023, .iadd, 1), (1024, .iaload, 1), (1025, .aload_n 3, 1), (1026, .invokestatic 179, 3), (1029, .istore 5, 2), (1031, .aload_n 2, 1), (1032, .aload_n 0, 1), (1033, .iload 4, 2), (1035, .iconst 1, 1), (1036, .iadd, 1), (1037, .iaload, 1), (1038, .aload_n 0, 1), (1039, .iload 4, 2), (1041, .iconst 2, 1), (1042, .iadd, 1), (1043, .iaload, 1), (1044, .invokevirtual 181, 3), (1047, .istore 6, 2), (1049, .goto 446, 3), (1052, .aload_n 1, 1)] := dcAll_of (by decide +kernel)
theorem dL_law_1018 : decode cL_law 1018 = .ok (.iaload, 1) := qdL_law_1018_24.1
theorem dL_law_1019 : decode cL_law 1019 = .ok (.aload_n 0, 1) := qdL_law_1018_24.2.1
theorem dL_law_1020 : decode cL_law 1020 = .ok (.iload 4, 2) := qdL_law_1018_24.2.2.1
theorem dL_law_1022 : decode cL_law 1022 = .ok (.iconst 2, 1) := qdL_law_1018_24.2.2.2.1
theorem dL_law_1023 : decode cL_law 1023 = .ok (.iadd, 1) := qdL_law_1018_24.2.2.2.2.1
theorem dL_law_1024 : decode cL_law 1024 = .ok (.iaload, 1) := qdL_law_1018_24.2.2.2.2.2.1
theorem dL_law_1025 : decode cL_law 1025 = .ok (.aload_n 3, 1) := qdL_law_1018_24.2.2.2.2.2.2.1
theorem dL_law_1026 : decode cL_law 1026 = .ok (.invokestatic 179, 3) := qdL_law_1018_24.2.2.2.2.2.2.2.1
theorem dL_law_1029 : decode cL_law 1029 = .ok (.istore 5, 2) := qdL_law_1018_24.2.2.2.2.2.2.2.2.1
theorem dL_law_1031 : decode cL_law 1031 = .ok (.aload_n 2, 1) := qdL_law_1018_24.2.2.2.2.2.2.2.2.2.1
theorem dL_law_1032 : decode cL_law 1032 = .ok (.aload_n 0, 1) := qdL_law_1018_24.2.2.2.2.2.2.2.2.2.2.1
theorem dL_law_1033 : decode cL_law 1033 = .ok (.iload 4, 2) := qdL_law_1018_24.2.2.2.2.2.2.2.2.2.2.2.1
theorem dL_law_1035 : decode cL_law 1035 = .ok (.iconst 1, 1) := qdL_law_1018_24.2.2.2.2.2.2.2.2.2.2.2.2.1
theorem dL_law_1036 : decode cL_law 1036 = .ok (.iadd, 1) := qdL_law_1018_24.2.2.2.2.2.2.2.2.2.2.2.2.2.1
theorem dL_law_1037 : decode cL_law 1037 = .ok (.iaload, 1) := qdL_law_1018_24.2.2.2.2.2.2.2.2.2.2.2.2.2.2.1
theorem dL_law_1038 : decode cL_law 1038 = .ok (.aload_n 0, 1) := qdL_law_1018_24.2.2.2.2.2.2.2.2.2.2.2.2.2.2.2.1
theorem dL_law_1039 : decode cL_law 1039 = .ok (.iload 4, 2) := qdL_law_1018_24.2.2.2.2.2.2.2.2.2.2.2.2.2.2.2.2.1
theorem dL_law_1041 : decode cL_law 1041 = .ok (.iconst 2, 1) := qdL_law_1018_24.2.2.2.2.2.2.2.2.2.2.2.2.2.2.2.2.2.1
theorem dL_law_1042 : decode cL_law 1042 = .ok (.iadd, 1) := qdL_law_1018_24.2.2.2.2.2.2.2.2.2.2.2.2.2.2.2.2.2.2.1
theorem dL_law_1043 : decode cL_law 1043 = .ok (.iaload, 1) := qdL_law_1018_24.2.2.2.2.2.2.2.2.2.2.2.2.2.2.2.2.2.2.2.1
theorem dL_law_1044 : decode cL_law 1044 = .ok (.invokevirtual 181, 3) := qdL_law_1018_24.2.2.2.2.2.2.2.2.2.2.2.2.2.2.2.2.2.2.2.2.1
theorem dL_law_1047 : decode cL_law 1047 = .ok (.istore 6, 2) := qdL_law_1018_24.2.2.2.2.2.2.2.2.2.2.2.2.2.2.2.2.2.2.2.2.2.1
theorem dL_law_1049 : decode cL_law 1049 = .ok (.goto 446, 3) := qdL_law_1018_24.2.2.2.2.2.2.2.2.2.2.2.2.2.2.2.2.2.2.2.2.2.2.1
theorem dL_law_1052 : decode cL_law 1052 = .ok (.aload_n 1, 1) := qdL_law_1018_24.2.2.2.2.2.2.2.2.2.2.2.2.2.2.2.2.2.2.2.2.2.2.2.1
theorem qdL_law_1053_24 : dcAll cL_law [(1053, .aload_n 0, 1), (1054, .iload 4, 2), (1056, .iconst 1, 1), (1057, .iadd, 1), (1058, .iaload, 1), (1059, .aload_n 0, 1), (1060, .iload 4, 2), (1062, .iconst 2, 1), (1063, .iadd, 1), (1064, .iaload, 1), (1065, .aload_n 3, 1), (1066, .invokestatic 182, 3), (1069, .istore 5, 2), (1071, .aload_n 2, 1), (1072, .aload_n 0, 1), (1073, .iload 4, 2), (1075, .iconst 1, 1), (1076, .iadd, 1), (1077, .iaload, 1), (1078, .aload_n 0, 1), (1079, .iload 4, 2), (1081, .iconst 2, 1), (1082, .iadd, 1), (1083, .iaload, 1)] := dcAll_of (by decide +kernel)
theorem dL_law_1053 : decode cL_law 1053 = .ok (.aload_n 0, 1) := qdL_law_1053_24.1
theorem dL_law_1054 : decode cL_law 1054 = .ok (.iload 4, 2) := qdL_law_1053_24.2.1
theorem dL_law_1056 : decode cL_law 1056 = .ok (.iconst 1, 1) := qdL_law_1053_24.2.2.1
theorem dL_law_1057 : decode cL_law 1057 = .ok (.iadd, 1) := qdL_law_1053_24.2.2.2.1
theorem dL_law_1058 : decode cL_law 1058 = .ok (.iaload, 1) := qdL_law_1053_24.2.2.2.2.1
theorem dL_law_1059 : decode cL_law 1059 = .ok (.aload_n 0, 1) := qdL_law_1053_24.2.2.2.2.2.1
theorem dL_law_1060 : decode cL_law 1060 = .ok (.iload 4, 2) := qdL_law_1053_24.2.2.2.2.2.2.1
theorem dL_law_1062 : decode cL_law 1062 = .ok (.iconst 2, 1) := qdL_law_1053_24.2.2.2.2.2.2.2.1
theorem dL_law_1063 : decode cL_law 1063 = .ok (.iadd, 1) := qdL_law_1053_24.2.2.2.2.2.2.2.2.1
theorem dL_law_1064 : decode cL_law 1064 = .ok (.iaload, 1) := qdL_law_1053_24.2.2.2.2.2.2.2.2.2.1
theorem dL_law_1065 : decode cL_law 1065 = .ok (.aload_n 3, 1) := qdL_law_1053_24.2.2.2.2.2.2.2.2.2.2.1
theorem dL_law_1066 : decode cL_law 1066 = .ok (.invokestatic 182, 3) := qdL_law_1053_24.2.2.2.2.2.2.2.2.2.2.2.1
theorem dL_law_1069 : decode cL_law 1069 = .ok (.istore 5, 2) := qdL_law_1053_24.2.2.2.2.2.2.2.2.2.2.2.2.1
theorem dL_law_1071 : decode cL_law 1071 = .ok (.aload_n 2, 1) := qdL_law_1053_24.2.2.2.2.2.2.2.2.2.2.2.2.2.1
theorem dL_law_1072 : decode cL_law 1072 = .ok (.aload_n 0, 1) := qdL_law_1053_24.2.2.2.2.2.2.2.2.2.2.2.2.2.2.1
theorem dL_law_1073 : decode cL_law 1073 = .ok (.iload 4, 2) := qdL_law_1053_24.2.2.2.2.2.2.2.2.2.2.2.2.2.2.2.1
theorem dL_law_1075 : decode cL_law 1075 = .ok (.iconst 1, 1) := qdL_law_1053_24.2.2.2.2.2.2.2.2.2.2.2.2.2.2.2.2.1
theorem dL_law_1076 : decode cL_law 1076 = .ok (.iadd, 1) := qdL_law_1053_24.2.2.2.2.2.2.2.2.2.2.2.2.2.2.2.2.2.1
theorem dL_law_1077 : decode cL_law 1077 = .ok (.iaload, 1) := qdL_law_1053_24.2.2.2.2.2.2.2.2.2.2.2.2.2.2.2.2.2.2.1
theorem dL_law_1078 : decode cL_law 1078 = .ok (.aload_n 0, 1) := qdL_law_1053_24.2.2.2.2.2.2.2.2.2.2.2.2.2.2.2.2.2.2.2.1
theorem dL_law_1079 : decode cL_law 1079 = .ok (.iload 4, 2) := qdL_law_1053_24.2.2.2.2.2.2.2.2.2.2.2.2.2.2.2.2.2.2.2.2.1
theorem dL_law_1081 : decode cL_law 1081 = .ok (.iconst 2, 1) := qdL_law_1053_24.2.2.2.2.2.2.2.2.2.2.2.2.2.2.2.2.2.2.2.2.2.1
theorem dL_law_1082 : decode cL_law 1082 = .ok (.iadd, 1) := qdL_law_1053_24.2.2.2.2.2.2.2.2.2.2.2.2.2.2.2.2.2.2.2.2.2.2.1
theorem dL_law_1083 : decode cL_law 1083 = .ok (.iaload, 1) := qdL_law_1053_24.2.2.2.2.2.2.2.2.2.2.2.2.2.2.2.2.2.2.2.2.2.2.2.1
theorem qdL_law_1084_24 : dcAll cL_law [(1084, .invokevirtual 184, 3), (1087, .istore 6, 2), (1089, .goto 406, 3), (1092, .aload_n 1, 1), (1093, .aload_n 0, 1), (1094, .iload 4, 2), (1096, .iconst 1, 1), (1097, .iadd, 1), (1098, .iaload, 1), (1099, .aload_n 0, 1), (1100, .iload 4, 2), (1102, .iconst 2, 1), (1103, .iadd, 1), (1104, .iaload, 1), (1105, .aload_n 3, 1), (1106, .invokestatic 185, 3), (1109, .istore 5, 2), (1111, .aload_n 2, 1), (1112, .aload_n 0, 1), (1113, .iload 4, 2), (1115, .iconst 1, 1), (1116, .iadd, 1), (1117, .iaload, 1), (1118, .aload_n 0, 1)] := dcAll_of (by decide +kernel)
theorem dL_law_1084 : decode cL_law 1084 = .ok (.invokevirtual 184, 3) := qdL_law_1084_24.1
theorem dL_law_1087 : decode cL_law 1087 = .ok (.istore 6, 2) := qdL_law_1084_24.2.1
theorem dL_law_1089 : decode cL_law 1089 = .ok (.goto 406, 3) := qdL_law_1084_24.2.2.1
theorem dL_law_1092 : decode cL_law 1092 = .ok (.aload_n 1, 1) := qdL_law_1084_24.2.2.2.1
theorem dL_law_1093 : decode cL_law 1093 = .ok (.aload_n 0, 1) := qdL_law_1084_24.2.2.2.2.1
theorem dL_law_1094 : decode cL_law 1094 = .ok (.iload 4, 2) := qdL_law_1084_24.2.2.2.2.2.1
theorem dL_law_1096 : decode cL_law 1096 = .ok (.iconst 1, 1) := qdL_law_1084_24.2.2.2.2.2.2.1
theorem dL_law_1097 : decode cL_law 1097 = .ok (.iadd, 1) := qdL_law_1084_24.2.2.2.2.2.2.2.1
theorem dL_law_1098 : decode cL_law 1098 = .ok (.iaload, 1) := qdL_law_1084_24.2.2.2.2.2.2.2.2.1
theorem dL_law_1099 : decode cL_law 1099 = .ok (.aload_n 0, 1) := qdL_law_1084_24.2.2.2.2.2.2.2.2.2.1
theorem dL_law_1100 : decode cL_law 1100 = .ok (.iload 4, 2) := qdL_law_1084_24.2.2.2.2.2.2.2.2.2.2.1
theorem dL_law_1102 : decode cL_law 1102 = .ok (.iconst 2, 1) := qdL_law_1084_24.2.2.2.2.2.2.2.2.2.2.2.1
theorem dL_law_1103 : decode cL_law 1103 = .ok (.iadd, 1) := qdL_law_1084_24.2.2.2.2.2.2.2.2.2.2.2.2.1
theorem dL_law_1104 : decode cL_law 1104 = .ok (.iaload, 1) := qdL_law_1084_24.2.2.2.2.2.2.2.2.2.2.2.2.2.1
theorem dL_law_1105 : decode cL_law 1105 = .ok (.aload_n 3, 1) := qdL_law_1084_24.2.2.2.2.2.2.2.2.2.2.2.2.2.2.1
theorem dL_law_1106 : decode cL_law 1106 = .ok (.invokestatic 185, 3) := qdL_law_1084_24.2.2.2.2.2.2.2.2.2.2.2.2.2.2.2.1
theorem dL_law_1109 : decode cL_law 1109 = .ok (.istore 5, 2) := qdL_law_1084_24.2.2.2.2.2.2.2.2.2.2.2.2.2.2.2.2.1
theorem dL_law_1111 : decode cL_law 1111 = .ok (.aload_n 2, 1) := qdL_law_1084_24.2.2.2.2.2.2.2.2.2.2.2.2.2.2.2.2.2.1
theorem dL_law_1112 : decode cL_law 1112 = .ok (.aload_n 0, 1) := qdL_law_1084_24.2.2.2.2.2.2.2.2.2.2.2.2.2.2.2.2.2.2.1
theorem dL_law_1113 : decode cL_law 1113 = .ok (.iload 4, 2) := qdL_law_1084_24.2.2.2.2.2.2.2.2.2.2.2.2.2.2.2.2.2.2.2.1
theorem dL_law_1115 : decode cL_law 1115 = .ok (.iconst 1, 1) := qdL_law_1084_24.2.2.2.2.2.2.2.2.2.2.2.2.2.2.2.2.2.2.2.2.1
theorem dL_law_1116 : decode cL_law 1116 = .ok (.iadd, 1) := qdL_law_1084_24.2.2.2.2.2.2.2.2.2.2.2.2.2.2.2.2.2.2.2.2.2.1
theorem dL_law_1117 : decode cL_law 1117 = .ok (.iaload, 1) := qdL_law_1084_24.2.2.2.2.2.2.2.2.2.2.2.2.2.2.2.2.2.2.2.2.2.2.1
theorem dL_law_1118 : decode cL_law 1118 = .ok (.aload_n 0, 1) := qdL_law_1084_24.2.2.2.2.2.2.2.2.2.2.2.2.2.2.2.2.2.2.2.2.2.2.2.1
theorem qdL_law_1119_24 : dcAll cL_law [(1119, .iload 4, 2), (1121, .iconst 2, 1), (1122, .iadd, 1), (1123, .iaload, 1), (1124, .invokevirtual 187, 3), (1127, .istore 6, 2), (1129, .goto 366, 3), (1132, .aload_n 1, 1), (1133, .aload_n 0, 1), (1134, .iload 4, 2), (1136, .iconst 1, 1), (1137, .iadd, 1), (1138, .iaload, 1), (1139, .aload_n 0, 1), (1140, .iload 4, 2), (1142, .iconst 2, 1), (1143, .iadd, 1), (1144, .iaload, 1), (1145, .aload_n 3, 1), (1146, .invokestatic 188, 3), (1149, .istore 5, 2), (1151, .aload_n 2, 1), (1152, .aload_n 0, 1), (1153, .iload 4, 2)] := dcAll_of (by decide +kernel)
theorem dL_law_1119 : decode cL_law 1119 = .ok (.iload 4, 2) := qdL_law_1119_24.1
theorem dL_law_1121 : decode cL_law 1121 = .ok (.iconst 2, 1) := qdL_law_1119_24.2.1
theorem dL_law_1122 : decode cL_law 1122 = .ok (.iadd, 1) := qdL_law_1119_24.2.2.1
theorem dL_law_1123 : decode cL_law 1123 = .ok (.iaload, 1) := qdL_law_1119_24.2.2.2.1
theorem dL_law_1124 : decode cL_law 1124 = .ok (.invokevirtual 187, 3) := qdL_law_1119_24.2.2.2.2.1
theorem dL_law_1127 : decode cL_law 1127 = .ok (.istore 6, 2) := qdL_law_1119_24.2.2.2.2.2.1
theorem dL_law_1129 : decode cL_law 1129 = .ok (.goto 366, 3) := qdL_law_1119_24.2.2.2.2.2.2.1
theorem dL_law_1132 : decode cL_law 1132 = .ok (.aload_n 1, 1) := qdL_law_1119_24.2.2.2.2.2.2.2.1
theorem dL_law_1133 : decode cL_law 1133 = .ok (.aload_n 0, 1) := qdL_law_1119_24.2.2.2.2.2.2.2.2.1
theorem dL_law_1134 : decode cL_law 1134 = .ok (.iload 4, 2) := qdL_law_1119_24.2.2.2.2.2.2.2.2.2.1
theorem dL_law_1136 : decode cL_law 1136 = .ok (.iconst 1, 1) := qdL_law_1119_24.2.2.2.2.2.2.2.2.2.2.1
theorem dL_law_1137 : decode cL_law 1137 = .ok (.iadd, 1) := qdL_law_1119_24.2.2.2.2.2.2.2.2.2.2.2.1
theorem dL_law_1138 : decode cL_law 1138 = .ok (.iaload, 1) := qdL_law_1119_24.2.2.2.2.2.2.2.2.2.2.2.2.1
theorem dL_law_1139 : decode cL_law 1139 = .ok (.aload_n 0, 1) := qdL_law_1119_24.2.2.2.2.2.2.2.2.2.2.2.2.2.1
theorem dL_law_1140 : decode cL_law 1140 = .ok (.iload 4, 2) := qdL_law_1119_24.2.2.2.2.2.2.2.2.2.2.2.2.2.2.1
theorem dL_law_1142 : decode cL_law 1142 = .ok (.iconst 2, 1) := qdL_law_1119_24.2.2.2.2.2.2.2.2.2.2.2.2.2.2.2.1
theorem dL_law_1143 : decode cL_law 1143 = .ok (.iadd, 1) := qdL_law_1119_24.2.2.2.2.2.2.2.2.2.2.2.2.2.2.2.2.1
theorem dL_law_1144 : decode cL_law 1144 = .ok (.iaload, 1) := qdL_law_1119_24.2.2.2.2.2.2.2.2.2.2.2.2.2.2.2.2.2.1
theorem dL_law_1145 : decode cL_law 1145 = .ok (.aload_n 3, 1) := qdL_law_1119_24.2.2.2.2.2.2.2.2.2.2.2.2.2.2.2.2.2.2.1
theorem dL_law_1146 : decode cL_law 1146 = .ok (.invokestatic 188, 3) := qdL_law_1119_24.2.2.2.2.2.2.2.2.2.2.2.2.2.2.2.2.2.2.2.1
theorem dL_law_1149 : decode cL_law 1149 = .ok (.istore 5, 2) := qdL_law_1119_24.2.2.2.2.2.2.2.2.2.2.2.2.2.2.2.2.2.2.2.2.1
theorem dL_law_1151 : decode cL_law 1151 = .ok (.aload_n 2, 1) := qdL_law_1119_24.2.2.2.2.2.2.2.2.2.2.2.2.2.2.2.2.2.2.2.2.2.1
theorem dL_law_1152 : decode cL_law 1152 = .ok (.aload_n 0, 1) := qdL_law_1119_24.2.2.2.2.2.2.2.2.2.2.2.2.2.2.2.2.2.2.2.2.2.2.1
theorem dL_law_1153 : decode cL_law 1153 = .ok (.iload 4, 2) := qdL_law_1119_24.2.2.2.2.2.2.2.2.2.2.2.2.2.2.2.2.2.2.2.2.2.2.2.1
theorem qdL_law_1155_24 : dcAll cL_law [(1155, .iconst 1, 1), (1156, .iadd, 1), (1157, .iaload, 1), (1158, .aload_n 0, 1), (1159, .iload 4, 2), (1161, .iconst 2, 1), (1162, .iadd, 1), (1163, .iaload, 1), (1164, .invokevirtual 190, 3), (1167, .istore 6, 2), (1169, .goto 326, 3), (1172, .aload_n 1, 1), (1173, .aload_n 0, 1), (1174, .iload 4, 2), (1176, .iconst 1, 1), (1177, .iadd, 1), (1178, .iaload, 1), (1179, .aload_n 0, 1), (1180, .iload 4, 2), (1182, .iconst 2, 1), (1183, .iadd, 1), (1184, .iaload, 1), (1185, .aload_n 3, 1), (1186, .invokestatic 191, 3)] := dcAll_of (by decide +kernel)
theorem dL_law_1155 : decode cL_law 1155 = .ok (.iconst 1, 1) := qdL_law_1155_24.1
theorem dL_law_1156 : decode cL_law 1156 = .ok (.iadd, 1) := qdL_law_1155_24.2.1
theorem dL_law_1157 : decode cL_law 1157 = .ok (.iaload, 1) := qdL_law_1155_24.2.2.1
theorem dL_law_1158 : decode cL_law 1158 = .ok (.aload_n 0, 1) := qdL_law_1155_24.2.2.2.1
theorem dL_law_1159 : decode cL_law 1159 = .ok (.iload 4, 2) := qdL_law_1155_24.2.2.2.2.1
theorem dL_law_1161 : decode cL_law 1161 = .ok (.iconst 2, 1) := qdL_law_1155_24.2.2.2.2.2.1
theorem dL_law_1162 : decode cL_law 1162 = .ok (.iadd, 1) := qdL_law_1155_24.2.2.2.2.2.2.1
theorem dL_law_1163 : decode cL_law 1163 = .ok (.iaload, 1) := qdL_law_1155_24.2.2.2.2.2.2.2.1
theorem dL_law_1164 : decode cL_law 1164 = .ok (.invokevirtual 190, 3) := qdL_law_1155_24.2.2.2.2.2.2.2.2.1
theorem dL_law_1167 : decode cL_law 1167 = .ok (.istore 6, 2) := qdL_law_1155_24.2.2.2.2.2.2.2.2.2.1
theorem dL_law_1169 : decode cL_law 1169 = .ok (.goto 326, 3) := qdL_law_1155_24.2.2.2.2.2.2.2.2.2.2.1
theorem dL_law_1172 : decode cL_law 1172 = .ok (.aload_n 1, 1) := qdL_law_1155_24.2.2.2.2.2.2.2.2.2.2.2.1
theorem dL_law_1173 : decode cL_law 1173 = .ok (.aload_n 0, 1) := qdL_law_1155_24.2.2.2.2.2.2.2.2.2.2.2.2.1
theorem dL_law_1174 : decode cL_law 1174 = .ok (.iload 4, 2) := qdL_law_1155_24.2.2.2.2.2.2.2.2.2.2.2.2.2.1
theorem dL_law_1176 : decode cL_law 1176 = .ok (.iconst 1, 1) := qdL_law_1155_24.2.2.2.2.2.2.2.2.2.2.2.2.2.2.1
theorem dL_law_1177 : decode cL_law 1177 = .ok (.iadd, 1) := qdL_law_1155_24.2.2.2.2.2.2.2.2.2.2.2.2.2.2.2.1
theorem dL_law_1178 : decode cL_law 1178 = .ok (.iaload, 1) := qdL_law_1155_24.2.2.2.2.2.2.2.2.2.2.2.2.2.2.2.2.1
theorem dL_law_1179 : decode cL_law 1179 = .ok (.aload_n 0, 1) := qdL_law_1155_24.2.2.2.2.2.2.2.2.2.2.2.2.2.2.2.2.2.1
theorem dL_law_1180 : decode cL_law 1180 = .ok (.iload 4, 2) := qdL_law_1155_24.2.2.2.2.2.2.2.2.2.2.2.2.2.2.2.2.2.2.1
theorem dL_law_1182 : decode cL_law 1182 = .ok (.iconst 2, 1) := qdL_law_1155_24.2.2.2.2.2.2.2.2.2.2.2.2.2.2.2.2.2.2.2.1
theorem dL_law_1183 : decode cL_law 1183 = .ok (.iadd, 1) := qdL_law_1155_24.2.2.2.2.2.2.2.2.2.2.2.2.2.2.2.2.2.2.2.2.1
theorem dL_law_1184 : decode cL_law 1184 = .ok (.iaload, 1) := qdL_law_1155_24.2.2.2.2.2.2.2.2.2.2.2.2.2.2.2.2.2.2.2.2.2.1
theorem dL_law_1185 : decode cL_law 1185 = .ok (.aload_n 3, 1) := qdL_law_1155_24.2.2.2.2.2.2.2.2.2.2.2.2.2.2.2.2.2.2.2.2.2.2.1
theorem dL_law_1186 : decode cL_law 1186 = .ok (.invokestatic 191, 3) := qdL_law_1155_24.2.2.2.2.2.2.2.2.2.2.2.2.2.2.2.2.2.2.2.2.2.2.2.1
theorem qdL_law_1189_24 : dcAll cL_law [(1189, .istore 5, 2), (1191, .aload_n 2, 1), (1192, .aload_n 0, 1), (1193, .iload 4, 2), (1195, .iconst 1, 1), (1196, .iadd, 1), (1197, .iaload, 1), (1198, .aload_n 0, 1), (1199, .iload 4, 2), (1201, .iconst 2, 1), (1202, .iadd, 1), (1203, .iaload, 1), (1204, .invokevirtual 193, 3), (1207, .istore 6, 2), (1209, .goto 286, 3), (1212, .aload_n 1, 1), (1213, .aload_n 0, 1), (1214, .iload 4, 2), (1216, .iconst 1, 1), (1217, .iadd, 1), (1218, .iaload, 1), (1219, .aload_n 0, 1), (1220, .iload 4, 2), (1222, .iconst 2, 1)] := dcAll_of (by decide +kernel)
theorem dL_law_1189 : decode cL_law 1189 = .ok (.istore 5, 2) := qdL_law_1189_24.1
theorem dL_law_1191 : decode cL_law 1191 = .ok (.aload_n 2, 1) := qdL_law_1189_24.2.1
theorem dL_law_1192 : decode cL_law 1192 = .ok (.aload_n 0, 1) := qdL_law_1189_24.2.2.1
theorem dL_law_1193 : decode cL_law 1193 = .ok (.iload 4, 2) := qdL_law_1189_24.2.2.2.1
theorem dL_law_1195 : decode cL_law 1195 = .ok (.iconst 1, 1) := qdL_law_1189_24.2.2.2.2.1
theorem dL_law_1196 : decode cL_law 1196 = .ok (.iadd, 1) := qdL_law_1189_24.2.2.2.2.2.1
theorem dL_law_1197 : decode cL_law 1197 = .ok (.iaload, 1) := qdL_law_1189_24.2.2.2.2.2.2.1
theorem dL_law_1198 : decode cL_law 1198 = .ok (.aload_n 0, 1) := qdL_law_1189_24.2.2.2.2.2.2.2.1
theorem dL_law_1199 : decode cL_law 1199 = .ok (.iload 4, 2) := qdL_law_1189_24.2.2.2.2.2.2.2.2.1
theorem dL_law_1201 : decode cL_law 1201 = .ok (.iconst 2, 1) := qdL_law_1189_24.2.2.2.2.2.2.2.2.2.1
theorem dL_law_1202 : decode cL_law 1202 = .ok (.iadd, 1) := qdL_law_1189_24.2.2.2.2.2.2.2.2.2.2.1
theorem dL_law_1203 : decode cL_law 1203 = .ok (.iaload, 1) := qdL_law_1189_24.2.2.2.2.2.2.2.2.2.2.2.1
theorem dL_law_1204 : decode cL_law 1204 = .ok (.invokevirtual 193, 3) := qdL_law_1189_24.2.2.2.2.2.2.2.2.2.2.2.2.1
theorem dL_law_1207 : decode cL_law 1207 = .ok (.istore 6, 2) := qdL_law_1189_24.2.2.2.2.2.2.2.2.2.2.2.2.2.1
theorem dL_law_1209 : decode cL_law 1209 = .ok (.goto 286, 3) := qdL_law_1189_24.2.2.2.2.2.2.2.2.2.2.2.2.2.2.1
theorem dL_law_1212 : decode cL_law 1212 = .ok (.aload_n 1, 1) := qdL_law_1189_24.2.2.2.2.2.2.2.2.2.2.2.2.2.2.2.1
theorem dL_law_1213 : decode cL_law 1213 = .ok (.aload_n 0, 1) := qdL_law_1189_24.2.2.2.2.2.2.2.2.2.2.2.2.2.2.2.2.1
theorem dL_law_1214 : decode cL_law 1214 = .ok (.iload 4, 2) := qdL_law_1189_24.2.2.2.2.2.2.2.2.2.2.2.2.2.2.2.2.2.1
theorem dL_law_1216 : decode cL_law 1216 = .ok (.iconst 1, 1) := qdL_law_1189_24.2.2.2.2.2.2.2.2.2.2.2.2.2.2.2.2.2.2.1
theorem dL_law_1217 : decode cL_law 1217 = .ok (.iadd, 1) := qdL_law_1189_24.2.2.2.2.2.2.2.2.2.2.2.2.2.2.2.2.2.2.2.1
theorem dL_law_1218 : decode cL_law 1218 = .ok (.iaload, 1) := qdL_law_1189_24.2.2.2.2.2.2.2.2.2.2.2.2.2.2.2.2.2.2.2.2.1
theorem dL_law_1219 : decode cL_law 1219 = .ok (.aload_n 0, 1) := qdL_law_1189_24.2.2.2.2.2.2.2.2.2.2.2.2.2.2.2.2.2.2.2.2.2.1
theorem dL_law_1220 : decode cL_law 1220 = .ok (.iload 4, 2) := qdL_law_1189_24.2.2.2.2.2.2.2.2.2.2.2.2.2.2.2.2.2.2.2.2.2.2.1
theorem dL_law_1222 : decode cL_law 1222 = .ok (.iconst 2, 1) := qdL_law_1189_24.2.2.2.2.2.2.2.2.2.2.2.2.2.2.2.2.2.2.2.2.2.2.2.1
theorem qdL_law_1223_24 : dcAll cL_law [(1223, .iadd, 1), (1224, .iaload, 1), (1225, .aload_n 3, 1), (1226, .invokestatic 194, 3), (1229, .istore 5, 2), (1231, .aload_n 2, 1), (1232, .aload_n 0, 1), (1233, .iload 4, 2), (1235, .iconst 1, 1), (1236, .iadd, 1), (1237, .iaload, 1), (1238, .aload_n 0, 1), (1239, .iload 4, 2), (1241, .iconst 2, 1), (1242, .iadd, 1), (1243, .iaload, 1), (1244, .invokevirtual 196, 3), (1247, .istore 6, 2), (1249, .goto 246, 3), (1252, .aload_n 1, 1), (1253, .aload_n 0, 1), (1254, .iload 4, 2), (1256, .iconst 1, 1), (1257, .iadd, 1)] := dcAll_of (by decide +kernel)
theorem dL_law_1223 : decode cL_law 1223 = .ok (.iadd, 1) := qdL_law_1223_24.1
theorem dL_law_1224 : decode cL_law 1224 = .ok (.iaload, 1) := qdL_law_1223_24.2.1
theorem dL_law_1225 : decode cL_law 1225 = .ok (.aload_n 3, 1) := qdL_law_1223_24.2.2.1
theorem dL_law_1226 : decode cL_law 1226 = .ok (.invokestatic 194, 3) := qdL_law_1223_24.2.2.2.1
theorem dL_law_1229 : decode cL_law 1229 = .ok (.istore 5, 2) := qdL_law_1223_24.2.2.2.2.1
theorem dL_law_1231 : decode cL_law 1231 = .ok (.aload_n 2, 1) := qdL_law_1223_24.2.2.2.2.2.1
theorem dL_law_1232 : decode cL_law 1232 = .ok (.aload_n 0, 1) := qdL_law_1223_24.2.2.2.2.2.2.1
theorem dL_law_1233 : decode cL_law 1233 = .ok (.iload 4, 2) := qdL_law_1223_24.2.2.2.2.2.2.2.1
theorem dL_law_1235 : decode cL_law 1235 = .ok (.iconst 1, 1) := qdL_law_1223_24.2.2.2.2.2.2.2.2.1
theorem dL_law_1236 : decode cL_law 1236 = .ok (.iadd, 1) := qdL_law_1223_24.2.2.2.2.2.2.2.2.2.1
theorem dL_law_1237 : decode cL_law 1237 = .ok (.iaload, 1) := qdL_law_1223_24.2.2.2.2.2.2.2.2.2.2.1
theorem dL_law_1238 : decode cL_law 1238 = .ok (.aload_n 0, 1) := qdL_law_1223_24.2.2.2.2.2.2.2.2.2.2.2.1
theorem dL_law_1239 : decode cL_law 1239 = .ok (.iload 4, 2) := qdL_law_1223_24.2.2.2.2.2.2.2.2.2.2.2.2.1
theorem dL_law_1241 : decode cL_law 1241 = .ok (.iconst 2, 1) := qdL_law_1223_24.2.2.2.2.2.2.2.2.2.2.2.2.2.1
theorem dL_law_1242 : decode cL_law 1242 = .ok (.iadd, 1) := qdL_law_1223_24.2.2.2.2.2.2.2.2.2.2.2.2.2.2.1
theorem dL_law_1243 : decode cL_law 1243 = .ok (.iaload, 1) := qdL_law_1223_24.2.2.2.2.2.2.2.2.2.2.2.2.2.2.2.1
theorem dL_law_1244 : decode cL_law 1244 = .ok (.invokevirtual 196, 3) := qdL_law_1223_24.2.2.2.2.2.2.2.2.2.2.2.2.2.2.2.2.1
theorem dL_law_1247 : decode cL_law 1247 = .ok (.istore 6, 2) := qdL_law_1223_24.2.2.2.2.2.2.2.2.2.2.2.2.2.2.2.2.2.1
theorem dL_law_1249 : decode cL_law 1249 = .ok (.goto 246, 3) := qdL_law_1223_24.2.2.2.2.2.2.2.2.2.2.2.2.2.2.2.2.2.2.1
theorem dL_law_1252 : decode cL_law 1252 = .ok (.aload_n 1, 1) := qdL_law_1223_24.2.2.2.2.2.2.2.2.2.2.2.2.2.2.2.2.2.2.2.1
theorem dL_law_1253 : decode cL_law 1253 = .ok (.aload_n 0, 1) := qdL_law_1223_24.2.2.2.2.2.2.2.2.2.2.2.2.2.2.2.2.2.2.2.2.1
theorem dL_law_1254 : decode cL_law 1254 = .ok (.iload 4, 2) := qdL_law_1223_24.2.2.2.2.2.2.2.2.2.2.2.2.2.2.2.2.2.2.2.2.2.1
theorem dL_law_1256 : decode cL_law 1256 = .ok (.iconst 1, 1) := qdL_law_1223_24.2.2.2.2.2.2.2.2.2.2.2.2.2.2.2.2.2.2.2.2.2.2.1
theorem dL_law_1257 : decode cL_law 1257 = .ok (.iadd, 1) := qdL_law_1223_24.2.2.2.2.2.2.2.2.2.2.2.2.2.2.2.2.2.2.2.2.2.2.2.1
theorem qdL_law_1258_24 : dcAll cL_law [(1258, .iaload, 1), (1259, .aload_n 0, 1), (1260, .iload 4, 2), (1262, .iconst 2, 1), (1263, .iadd, 1), (1264, .iaload, 1), (1265, .aload_n 3, 1), (1266, .invokestatic 197, 3), (1269, .istore 5, 2), (1271, .aload_n 2, 1), (1272, .aload_n 0, 1), (1273, .iload 4, 2), (1275, .iconst 1, 1), (1276, .iadd, 1), (1277, .iaload, 1), (1278, .aload_n 0, 1), (1279, .iload 4, 2), (1281, .iconst 2, 1), (1282, .iadd, 1), (1283, .iaload, 1), (1284, .invokevirtual 199, 3), (1287, .istore 6, 2), (1289, .goto 206, 3), (1292, .aload_n 1, 1)] := dcAll_of (by decide +kernel)
theorem dL_law_1258 : decode cL_law 1258 = .ok (.iaload, 1) := qdL_law_1258_24.1
theorem dL_law_1259 : decode cL_law 1259 = .ok (.aload_n 0, 1) := qdL_law_1258_24.2.1
theorem dL_law_1260 : decode cL_law 1260 = .ok (.iload 4, 2) := qdL_law_1258_24.2.2.1
theorem dL_law_1262 : decode cL_law 1262 = .ok (.iconst 2, 1) := qdL_law_1258_24.2.2.2.1
theorem dL_law_1263 : decode cL_law 1263 = .ok (.iadd, 1) := qdL_law_1258_24.2.2.2.2.1
theorem dL_law_1264 : decode cL_law 1264 = .ok (.iaload, 1) := qdL_law_1258_24.2.2.2.2.2.1
theorem dL_law_1265 : decode cL_law 1265 = .ok (.aload_n 3, 1) := qdL_law_1258_24.2.2.2.2.2.2.1
theorem dL_law_1266 : decode cL_law 1266 = .ok (.invokestatic 197, 3) := qdL_law_1258_24.2.2.2.2.2.2.2.1
theorem dL_law_1269 : decode cL_law 1269 = .ok (.istore 5, 2) := qdL_law_1258_24.2.2.2.2.2.2.2.2.1
theorem dL_law_1271 : decode cL_law 1271 = .ok (.aload_n 2, 1) := qdL_law_1258_24.2.2.2.2.2.2.2.2.2.1
theorem dL_law_1272 : decode cL_law 1272 = .ok (.aload_n 0, 1) := qdL_law_1258_24.2.2.2.2.2.2.2.2.2.2.1
theorem dL_law_1273 : decode cL_law 1273 = .ok (.iload 4, 2) := qdL_law_1258_24.2.2.2.2.2.2.2.2.2.2.2.1
theorem dL_law_1275 : decode cL_law 1275 = .ok (.iconst 1, 1) := qdL_law_1258_24.2.2.2.2.2.2.2.2.2.2.2.2.1
theorem dL_law_1276 : decode cL_law 1276 = .ok (.iadd, 1) := qdL_law_1258_24.2.2.2.2.2.2.2.2.2.2.2.2.2.1
theorem dL_law_1277 : decode cL_law 1277 = .ok (.iaload, 1) := qdL_law_1258_24.2.2.2.2.2.2.2.2.2.2.2.2.2.2.1
theorem dL_law_1278 : decode cL_law 1278 = .ok (.aload_n 0, 1) := qdL_law_1258_24.2.2.2.2.2.2.2.2.2.2.2.2.2.2.2.1
theorem dL_law_1279 : decode cL_law 1279 = .ok (.iload 4, 2) := qdL_law_1258_24.2.2.2.2.2.2.2.2.2.2.2.2.2.2.2.2.1
theorem dL_law_1281 : decode cL_law 1281 = .ok (.iconst 2, 1) := qdL_law_1258_24.2.2.2.2.2.2.2.2.2.2.2.2.2.2.2.2.2.1
theorem dL_law_1282 : decode cL_law 1282 = .ok (.iadd, 1) := qdL_law_1258_24.2.2.2.2.2.2.2.2.2.2.2.2.2.2.2.2.2.2.1
theorem dL_law_1283 : decode cL_law 1283 = .ok (.iaload, 1) := qdL_law_1258_24.2.2.2.2.2.2.2.2.2.2.2.2.2.2.2.2.2.2.2.1
theorem dL_law_1284 : decode cL_law 1284 = .ok (.invokevirtual 199, 3) := qdL_law_1258_24.2.2.2.2.2.2.2.2.2.2.2.2.2.2.2.2.2.2.2.2.1
theorem dL_law_1287 : decode cL_law 1287 = .ok (.istore 6, 2) := qdL_law_1258_24.2.2.2.2.2.2.2.2.2.2.2.2.2.2.2.2.2.2.2.2.2.1
theorem dL_law_1289 : decode cL_law 1289 = .ok (.goto 206, 3) := qdL_law_1258_24.2.2.2.2.2.2.2.2.2.2.2.2.2.2.2.2.2.2.2.2.2.2.1
theorem dL_law_1292 : decode cL_law 1292 = .ok (.aload_n 1, 1) := qdL_law_1258_24.2.2.2.2.2.2.2.2.2.2.2.2.2.2.2.2.2.2.2.2.2.2.2.1
theorem qdL_law_1293_24 : dcAll cL_law [(1293, .aload_n 0, 1), (1294, .iload 4, 2), (1296, .iconst 1, 1), (1297, .iadd, 1), (1298, .iaload, 1), (1299, .aload_n 0, 1), (1300, .iload 4, 2), (1302, .iconst 2, 1), (1303, .iadd, 1), (1304, .iaload, 1), (1305, .aload_n 0, 1), (1306, .iload 4, 2), (1308, .iconst 3, 1), (1309, .iadd, 1), (1310, .iaload, 1), (1311, .ifCond .eq 7, 3), (1314, .iconst 1, 1), (1315, .goto 4, 3), (1318, .iconst 0, 1), (1319, .aload_n 3, 1), (1320, .invokestatic 200, 3), (1323, .istore 5, 2), (1325, .aload_n 2, 1), (1326, .aload_n 0, 1)] := dcAll_of (by decide +kernel)
theorem dL_law_1293 : decode cL_law 1293 = .ok (.aload_n 0, 1) := qdL_law_1293_24.1
theorem dL_law_1294 : decode cL_law 1294 = .ok (.iload 4, 2) := qdL_law_1293_24.2.1
theorem dL_law_1296 : decode cL_law 1296 = .ok (.iconst 1, 1) := qdL_law_1293_24.2.2.1
theorem dL_law_1297 : decode cL_law 1297 = .ok (.iadd, 1) := qdL_law_1293_24.2.2.2.1
theorem dL_law_1298 : decode cL_law 1298 = .ok (.iaload, 1) := qdL_law_1293_24.2.2.2.2.1
theorem dL_law_1299 : decode cL_law 1299 = .ok (.aload_n 0, 1) := qdL_law_1293_24.2.2.2.2.2.1
theorem dL_law_1300 : decode cL_law 1300 = .ok (.iload 4, 2) := qdL_law_1293_24.2.2.2.2.2.2.1
theorem dL_law_1302 : decode cL_law 1302 = .ok (.iconst 2, 1) := qdL_law_1293_24.2.2.2.2.2.2.2.1
theorem dL_law_1303 : decode cL_law 1303 = .ok (.iadd, 1) := qdL_law_1293_24.2.2.2.2.2.2.2.2.1
theorem dL_law_1304 : decode cL_law 1304 = .ok (.iaload, 1) := qdL_law_1293_24.2.2.2.2.2.2.2.2.2.1
theorem dL_law_1305 : decode cL_law 1305 = .ok (.aload_n 0, 1) := qdL_law_1293_24.2.2.2.2.2.2.2.2.2.2.1
theorem dL_law_1306 : decode cL_law 1306 = .ok (.iload 4, 2) := qdL_law_1293_24.2.2.2.2.2.2.2.2.2.2.2.1
theorem dL_law_1308 : decode cL_law 1308 = .ok (.iconst 3, 1) := qdL_law_1293_24.2.2.2.2.2.2.2.2.2.2.2.2.1
theorem dL_law_1309 : decode cL_law 1309 = .ok (.iadd, 1) := qdL_law_1293_24.2.2.2.2.2.2.2.2.2.2.2.2.2.1
theorem dL_law_1310 : decode cL_law 1310 = .ok (.iaload, 1) := qdL_law_1293_24.2.2.2.2.2.2.2.2.2.2.2.2.2.2.1
theorem dL_law_1311 : decode cL_law 1311 = .ok (.ifCond .eq 7, 3) := qdL_law_1293_24.2.2.2.2.2.2.2.2.2.2.2.2.2.2.2.1
theorem dL_law_1314 : decode cL_law 1314 = .ok (.iconst 1, 1) := qdL_law_1293_24.2.2.2.2.2.2.2.2.2.2.2.2.2.2.2.2.1
theorem dL_law_1315 : decode cL_law 1315 = .ok (.goto 4, 3) := qdL_law_1293_24.2.2.2.2.2.2.2.2.2.2.2.2.2.2.2.2.2.1
theorem dL_law_1318 : decode cL_law 1318 = .ok (.iconst 0, 1) := qdL_law_1293_24.2.2.2.2.2.2.2.2.2.2.2.2.2.2.2.2.2.2.1
theorem dL_law_1319 : decode cL_law 1319 = .ok (.aload_n 3, 1) := qdL_law_1293_24.2.2.2.2.2.2.2.2.2.2.2.2.2.2.2.2.2.2.2.1
theorem dL_law_1320 : decode cL_law 1320 = .ok (.invokestatic 200, 3) := qdL_law_1293_24.2.2.2.2.2.2.2.2.2.2.2.2.2.2.2.2.2.2.2.2.1
theorem dL_law_1323 : decode cL_law 1323 = .ok (.istore 5, 2) := qdL_law_1293_24.2.2.2.2.2.2.2.2.2.2.2.2.2.2.2.2.2.2.2.2.2.1
theorem dL_law_1325 : decode cL_law 1325 = .ok (.aload_n 2, 1) := qdL_law_1293_24.2.2.2.2.2.2.2.2.2.2.2.2.2.2.2.2.2.2.2.2.2.2.1
theorem dL_law_1326 : decode cL_law 1326 = .ok (.aload_n 0, 1) := qdL_law_1293_24.2.2.2.2.2.2.2.2.2.2.2.2.2.2.2.2.2.2.2.2.2.2.2.1
theorem qdL_law_1327_24 : dcAll cL_law [(1327, .iload 4, 2), (1329, .iconst 1, 1), (1330, .iadd, 1), (1331, .iaload, 1), (1332, .aload_n 0, 1), (1333, .iload 4, 2), (1335, .iconst 2, 1), (1336, .iadd, 1), (1337, .iaload, 1), (1338, .aload_n 0, 1), (1339, .iload 4, 2), (1341, .iconst 3, 1), (1342, .iadd, 1), (1343, .iaload, 1), (1344, .ifCond .eq 7, 3), (1347, .iconst 1, 1), (1348, .goto 4, 3), (1351, .iconst 0, 1), (1352, .invokevirtual 202, 3), (1355, .istore 6, 2), (1357, .goto 138, 3), (1360, .aload_n 1, 1), (1361, .aload_n 0, 1), (1362, .iload 4, 2)] := dcAll_of (by decide +kernel)
theorem dL_law_1327 : decode cL_law 1327 = .ok (.iload 4, 2) := qdL_law_1327_24.1
theorem dL_law_1329 : decode cL_law 1329 = .ok (.iconst 1, 1) := qdL_law_1327_24.2.1
theorem dL_law_1330 : decode cL_law 1330 = .ok (.iadd, 1) := qdL_law_1327_24.2.2.1
theorem dL_law_1331 : decode cL_law 1331 = .ok (.iaload, 1) := qdL_law_1327_24.2.2.2.1
theorem dL_law_1332 : decode cL_law 1332 = .ok (.aload_n 0, 1) := qdL_law_1327_24.2.2.2.2.1
theorem dL_law_1333 : decode cL_law 1333 = .ok (.iload 4, 2) := qdL_law_1327_24.2.2.2.2.2.1
theorem dL_law_1335 : decode cL_law 1335 = .ok (.iconst 2, 1) := qdL_law_1327_24.2.2.2.2.2.2.1
theorem dL_law_1336 : decode cL_law 1336 = .ok (.iadd, 1) := qdL_law_1327_24.2.2.2.2.2.2.2.1
theorem dL_law_1337 : decode cL_law 1337 = .ok (.iaload, 1) := qdL_law_1327_24.2.2.2.2.2.2.2.2.1
theorem dL_law_1338 : decode cL_law 1338 = .ok (.aload_n 0, 1) := qdL_law_1327_24.2.2.2.2.2.2.2.2.2.1
theorem dL_law_1339 : decode cL_law 1339 = .ok (.iload 4, 2) := qdL_law_1327_24.2.2.2.2.2.2.2.2.2.2.1
theorem dL_law_1341 : decode cL_law 1341 = .ok (.iconst 3, 1) := qdL_law_1327_24.2.2.2.2.2.2.2.2.2.2.2.1
theorem dL_law_1342 : decode cL_law 1342 = .ok (.iadd, 1) := qdL_law_1327_24.2.2.2.2.2.2.2.2.2.2.2.2.1
theorem dL_law_1343 : decode cL_law 1343 = .ok (.iaload, 1) := qdL_law_1327_24.2.2.2.2.2.2.2.2.2.2.2.2.2.1
theorem dL_law_1344 : decode cL_law 1344 = .ok (.ifCond .eq 7, 3) := qdL_law_1327_24.2.2.2.2.2.2.2.2.2.2.2.2.2.2.1
theorem dL_law_1347 : decode cL_law 1347 = .ok (.iconst 1, 1) := qdL_law_1327_24.2.2.2.2.2.2.2.2.2.2.2.2.2.2.2.1
theorem dL_law_1348 : decode cL_law 1348 = .ok (.goto 4, 3) := qdL_law_1327_24.2.2.2.2.2.2.2.2.2.2.2.2.2.2.2.2.1
theorem dL_law_1351 : decode cL_law 1351 = .ok (.iconst 0, 1) := qdL_law_1327_24.2.2.2.2.2.2.2.2.2.2.2.2.2.2.2.2.2.1
theorem dL_law_1352 : decode cL_law 1352 = .ok (.invokevirtual 202, 3) := qdL_law_1327_24.2.2.2.2.2.2.2.2.2.2.2.2.2.2.2.2.2.2.1
theorem dL_law_1355 : decode cL_law 1355 = .ok (.istore 6, 2) := qdL_law_1327_24.2.2.2.2.2.2.2.2.2.2.2.2.2.2.2.2.2.2.2.1
theorem dL_law_1357 : decode cL_law 1357 = .ok (.goto 138, 3) := qdL_law_1327_24.2.2.2.2.2.2.2.2.2.2.2.2.2.2.2.2.2.2.2.2.1
theorem dL_law_1360 : decode cL_law 1360 = .ok (.aload_n 1, 1) := qdL_law_1327_24.2.2.2.2.2.2.2.2.2.2.2.2.2.2.2.2.2.2.2.2.2.1
theorem dL_law_1361 : decode cL_law 1361 = .ok (.aload_n 0, 1) := qdL_law_1327_24.2.2.2.2.2.2.2.2.2.2.2.2.2.2.2.2.2.2.2.2.2.2.1
theorem dL_law_1362 : decode cL_law 1362 = .ok (.iload 4, 2) := qdL_law_1327_24.2.2.2.2.2.2.2.2.2.2.2.2.2.2.2.2.2.2.2.2.2.2.2.1
theorem qdL_law_1364_24 : dcAll cL_law [(1364, .iconst 1, 1), (1365, .iadd, 1), (1366, .iaload, 1), (1367, .aload_n 0, 1), (1368, .iload 4, 2), (1370, .iconst 2, 1), (1371, .iadd, 1), (1372, .iaload, 1), (1373, .aload_n 3, 1), (1374, .invokestatic 203, 3), (1377, .istore 5, 2), (1379, .aload_n 2, 1), (1380, .aload_n 0, 1), (1381, .iload 4, 2), (1383, .iconst 1, 1), (1384, .iadd, 1), (1385, .iaload, 1), (1386, .aload_n 0, 1), (1387, .iload 4, 2), (1389, .iconst 2, 1), (1390, .iadd, 1), (1391, .iaload, 1), (1392, .invokevirtual 205, 3), (1395, .istore 6, 2)] := dcAll_of (by decide +kernel)
theorem dL_law_1364 : decode cL_law 1364 = .ok (.iconst 1, 1) := qdL_law_1364_24.1
theorem dL_law_1365 : decode cL_law 1365 = .ok (.iadd, 1) := qdL_law_1364_24.2.1
theorem dL_law_1366 : decode cL_law 1366 = .ok (.iaload, 1) := qdL_law_1364_24.2.2.1
theorem dL_law_1367 : decode cL_law 1367 = .ok (.aload_n 0, 1) := qdL_law_1364_24.2.2.2.1
theorem dL_law_1368 : decode cL_law 1368 = .ok (.iload 4, 2) := qdL_law_1364_24.2.2.2.2.1
theorem dL_law_1370 : decode cL_law 1370 = .ok (.iconst 2, 1) := qdL_law_1364_24.2.2.2.2.2.1
theorem dL_law_1371 : decode cL_law 1371 = .ok (.iadd, 1) := qdL_law_1364_24.2.2.2.2.2.2.1
theorem dL_law_1372 : decode cL_law 1372 = .ok (.iaload, 1) := qdL_law_1364_24.2.2.2.2.2.2.2.1
theorem dL_law_1373 : decode cL_law 1373 = .ok (.aload_n 3, 1) := qdL_law_1364_24.2.2.2.2.2.2.2.2.1
theorem dL_law_1374 : decode cL_law 1374 = .ok (.invokestatic 203, 3) := qdL_law_1364_24.2.2.2.2.2.2.2.2.2.1
theorem dL_law_1377 : decode cL_law 1377 = .ok (.istore 5, 2) := qdL_law_1364_24.2.2.2.2.2.2.2.2.2.2.1
theorem dL_law_1379 : decode cL_law 1379 = .ok (.aload_n 2, 1) := qdL_law_1364_24.2.2.2.2.2.2.2.2.2.2.2.1
theorem dL_law_1380 : decode cL_law 1380 = .ok (.aload_n 0, 1) := qdL_law_1364_24.2.2.2.2.2.2.2.2.2.2.2.2.1
theorem dL_law_1381 : decode cL_law 1381 = .ok (.iload 4, 2) := qdL_law_1364_24.2.2.2.2.2.2.2.2.2.2.2.2.2.1
theorem dL_law_1383 : decode cL_law 1383 = .ok (.iconst 1, 1) := qdL_law_1364_24.2.2.2.2.2.2.2.2.2.2.2.2.2.2.1
theorem dL_law_1384 : decode cL_law 1384 = .ok (.iadd, 1) := qdL_law_1364_24.2.2.2.2.2.2.2.2.2.2.2.2.2.2.2.1
theorem dL_law_1385 : decode cL_law 1385 = .ok (.iaload, 1) := qdL_law_1364_24.2.2.2.2.2.2.2.2.2.2.2.2.2.2.2.2.1
theorem dL_law_1386 : decode cL_law 1386 = .ok (.aload_n 0, 1) := qdL_law_1364_24.2.2.2.2.2.2.2.2.2.2.2.2.2.2.2.2.2.1
theorem dL_law_1387 : decode cL_law 1387 = .ok (.iload 4, 2) := qdL_law_1364_24.2.2.2.2.2.2.2.2.2.2.2.2.2.2.2.2.2.2.1
theorem dL_law_1389 : decode cL_law 1389 = .ok (.iconst 2, 1) := qdL_law_1364_24.2.2.2.2.2.2.2.2.2.2.2.2.2.2.2.2.2.2.2.1
theorem dL_law_1390 : decode cL_law 1390 = .ok (.iadd, 1) := qdL_law_1364_24.2.2.2.2.2.2.2.2.2.2.2.2.2.2.2.2.2.2.2.2.1
theorem dL_law_1391 : decode cL_law 1391 = .ok (.iaload, 1) := qdL_law_1364_24.2.2.2.2.2.2.2.2.2.2.2.2.2.2.2.2.2.2.2.2.2.1
theorem dL_law_1392 : decode cL_law 1392 = .ok (.invokevirtual 205, 3) := qdL_law_1364_24.2.2.2.2.2.2.2.2.2.2.2.2.2.2.2.2.2.2.2.2.2.2.1
theorem dL_law_1395 : decode cL_law 1395 = .ok (.istore 6, 2) := qdL_law_1364_24.2.2.2.2.2.2.2.2.2.2.2.2.2.2.2.2.2.2.2.2.2.2.2.1
theorem qdL_law_1397_24 : dcAll cL_law [(1397, .goto 98, 3), (1400, .aload_n 1, 1), (1401, .aload_n 0, 1), (1402, .iload 4, 2), (1404, .iconst 1, 1), (1405, .iadd, 1), (1406, .iaload, 1), (1407, .aload_n 3, 1), (1408, .invokestatic 206, 3), (1411, .istore 5, 2), (1413, .aload_n 2, 1), (1414, .aload_n 0, 1), (1415, .iload 4, 2), (1417, .iconst 1, 1), (1418, .iadd, 1), (1419, .iaload, 1), (1420, .invokevirtual 209, 3), (1423, .astore 6, 2), (1425, .goto 70, 3), (1428, .aload_n 1, 1), (1429, .aload_n 0, 1), (1430, .iload 4, 2), (1432, .iconst 1, 1), (1433, .iadd, 1)] := dcAll_of (by decide +kernel)
theorem dL_law_1397 : decode cL_law 1397 = .ok (.goto 98, 3) := qdL_law_1397_24.1
theorem dL_law_1400 : decode cL_law 1400 = .ok (.aload_n 1, 1) := qdL_law_1397_24.2.1
theorem dL_law_1401 : decode cL_law 1401 = .ok (.aload_n 0, 1) := qdL_law_1397_24.2.2.1
theorem dL_law_1402 : decode cL_law 1402 = .ok (.iload 4, 2) := qdL_law_1397_24.2.2.2.1
theorem dL_law_1404 : decode cL_law 1404 = .ok (.iconst 1, 1) := qdL_law_1397_24.2.2.2.2.1
theorem dL_law_1405 : decode cL_law 1405 = .ok (.iadd, 1) := qdL_law_1397_24.2.2.2.2.2.1
theorem dL_law_1406 : decode cL_law 1406 = .ok (.iaload, 1) := qdL_law_1397_24.2.2.2.2.2.2.1
theorem dL_law_1407 : decode cL_law 1407 = .ok (.aload_n 3, 1) := qdL_law_1397_24.2.2.2.2.2.2.2.1
theorem dL_law_1408 : decode cL_law 1408 = .ok (.invokestatic 206, 3) := qdL_law_1397_24.2.2.2.2.2.2.2.2.1
theorem dL_law_1411 : decode cL_law 1411 = .ok (.istore 5, 2) := qdL_law_1397_24.2.2.2.2.2.2.2.2.2.1
theorem dL_law_1413 : decode cL_law 1413 = .ok (.aload_n 2, 1) := qdL_law_1397_24.2.2.2.2.2.2.2.2.2.2.1
theorem dL_law_1414 : decode cL_law 1414 = .ok (.aload_n 0, 1) := qdL_law_1397_24.2.2.2.2.2.2.2.2.2.2.2.1
theorem dL_law_1415 : decode cL_law 1415 = .ok (.iload 4, 2) := qdL_law_1397_24.2.2.2.2.2.2.2.2.2.2.2.2.1
theorem dL_law_1417 : decode cL_law 1417 = .ok (.iconst 1, 1) := qdL_law_1397_24.2.2.2.2.2.2.2.2.2.2.2.2.2.1
theorem dL_law_1418 : decode cL_law 1418 = .ok (.iadd, 1) := qdL_law_1397_24.2.2.2.2.2.2.2.2.2.2.2.2.2.2.1
theorem dL_law_1419 : decode cL_law 1419 = .ok (.iaload, 1) := qdL_law_1397_24.2.2.2.2.2.2.2.2.2.2.2.2.2.2.2.1
theorem dL_law_1420 : decode cL_law 1420 = .ok (.invokevirtual 209, 3) := qdL_law_1397_24.2.2.2.2.2.2.2.2.2.2.2.2.2.2.2.2.1
theorem dL_law_1423 : decode cL_law 1423 = .ok (.astore 6, 2) := qdL_law_1397_24.2.2.2.2.2.2.2.2.2.2.2.2.2.2.2.2.2.1
theorem dL_law_1425 : decode cL_law 1425 = .ok (.goto 70, 3) := qdL_law_1397_24.2.2.2.2.2.2.2.2.2.2.2.2.2.2.2.2.2.2.1
theorem dL_law_1428 : decode cL_law 1428 = .ok (.aload_n 1, 1) := qdL_law_1397_24.2.2.2.2.2.2.2.2.2.2.2.2.2.2.2.2.2.2.2.1
theorem dL_law_1429 : decode cL_law 1429 = .ok (.aload_n 0, 1) := qdL_law_1397_24.2.2.2.2.2.2.2.2.2.2.2.2.2.2.2.2.2.2.2.2.1
theorem dL_law_1430 : decode cL_law 1430 = .ok (.iload 4, 2) := qdL_law_1397_24.2.2.2.2.2.2.2.2.2.2.2.2.2.2.2.2.2.2.2.2.2.1
theorem dL_law_1432 : decode cL_law 1432 = .ok (.iconst 1, 1) := qdL_law_1397_24.2.2.2.2.2.2.2.2.2.2.2.2.2.2.2.2.2.2.2.2.2.2.1
theorem dL_law_1433 : decode cL_law 1433 = .ok (.iadd, 1) := qdL_law_1397_24.2.2.2.2.2.2.2.2.2.2.2.2.2.2.2.2.2.2.2.2.2.2.2.1
theorem qdL_law_1434_24 : dcAll cL_law [(1434, .iaload, 1), (1435, .aload_n 3, 1), (1436, .invokestatic 210, 3), (1439, .istore 5, 2), (1441, .aload_n 2, 1), (1442, .aload_n 0, 1), (1443, .iload 4, 2), (1445, .iconst 1, 1), (1446, .iadd, 1), (1447, .iaload, 1), (1448, .invokevirtual 212, 3), (1451, .istore 6, 2), (1453, .goto 42, 3), (1456, .aload_n 1, 1), (1457, .invokevirtual 213, 3), (1460, .pop, 1), (1461, .aload_n 2, 1), (1462, .invokevirtual 216, 3), (1465, .pop, 1), (1466, .goto 29, 3), (1469, .aload_n 1, 1), (1470, .invokevirtual 217, 3), (1473, .pop, 1), (1474, .aload_n 2, 1)] := dcAll_of (by decide +kernel)
theorem dL_law_1434 : decode cL_law 1434 = .ok (.iaload, 1) := qdL_law_1434_24.1
theorem dL_law_1435 : decode cL_law 1435 = .ok (.aload_n 3, 1) := qdL_law_1434_24.2.1
theorem dL_law_1436 : decode cL_law 1436 = .ok (.invokestatic 210, 3) := qdL_law_1434_24.2.2.1
theorem dL_law_1439 : decode cL_law 1439 = .ok (.istore 5, 2) := qdL_law_1434_24.2.2.2.1
theorem dL_law_1441 : decode cL_law 1441 = .ok (.aload_n 2, 1) := qdL_law_1434_24.2.2.2.2.1
theorem dL_law_1442 : decode cL_law 1442 = .ok (.aload_n 0, 1) := qdL_law_1434_24.2.2.2.2.2.1
theorem dL_law_1443 : decode cL_law 1443 = .ok (.iload 4, 2) := qdL_law_1434_24.2.2.2.2.2.2.1
theorem dL_law_1445 : decode cL_law 1445 = .ok (.iconst 1, 1) := qdL_law_1434_24.2.2.2.2.2.2.2.1
theorem dL_law_1446 : decode cL_law 1446 = .ok (.iadd, 1) := qdL_law_1434_24.2.2.2.2.2.2.2.2.1
theorem dL_law_1447 : decode cL_law 1447 = .ok (.iaload, 1) := qdL_law_1434_24.2.2.2.2.2.2.2.2.2.1
theorem dL_law_1448 : decode cL_law 1448 = .ok (.invokevirtual 212, 3) := qdL_law_1434_24.2.2.2.2.2.2.2.2.2.2.1
theorem dL_law_1451 : decode cL_law 1451 = .ok (.istore 6, 2) := qdL_law_1434_24.2.2.2.2.2.2.2.2.2.2.2.1
theorem dL_law_1453 : decode cL_law 1453 = .ok (.goto 42, 3) := qdL_law_1434_24.2.2.2.2.2.2.2.2.2.2.2.2.1
theorem dL_law_1456 : decode cL_law 1456 = .ok (.aload_n 1, 1) := qdL_law_1434_24.2.2.2.2.2.2.2.2.2.2.2.2.2.1
theorem dL_law_1457 : decode cL_law 1457 = .ok (.invokevirtual 213, 3) := qdL_law_1434_24.2.2.2.2.2.2.2.2.2.2.2.2.2.2.1
theorem dL_law_1460 : decode cL_law 1460 = .ok (.pop, 1) := qdL_law_1434_24.2.2.2.2.2.2.2.2.2.2.2.2.2.2.2.1
theorem dL_law_1461 : decode cL_law 1461 = .ok (.aload_n 2, 1) := qdL_law_1434_24.2.2.2.2.2.2.2.2.2.2.2.2.2.2.2.2.1
theorem dL_law_1462 : decode cL_law 1462 = .ok (.invokevirtual 216, 3) := qdL_law_1434_24.2.2.2.2.2.2.2.2.2.2.2.2.2.2.2.2.2.1
theorem dL_law_1465 : decode cL_law 1465 = .ok (.pop, 1) := qdL_law_1434_24.2.2.2.2.2.2.2.2.2.2.2.2.2.2.2.2.2.2.1
theorem dL_law_1466 : decode cL_law 1466 = .ok (.goto 29, 3) := qdL_law_1434_24.2.2.2.2.2.2.2.2.2.2.2.2.2.2.2.2.2.2.2.1
theorem dL_law_1469 : decode cL_law 1469 = .ok (.aload_n 1, 1) := qdL_law_1434_24.2.2.2.2.2.2.2.2.2.2.2.2.2.2.2.2.2.2.2.2.1
theorem dL_law_1470 : decode cL_law 1470 = .ok (.invokevirtual 217, 3) := qdL_law_1434_24.2.2.2.2.2.2.2.2.2.2.2.2.2.2.2.2.2.2.2.2.2.1
theorem dL_law_1473 : decode cL_law 1473 = .ok (.pop, 1) := qdL_law_1434_24.2.2.2.2.2.2.2.2.2.2.2.2.2.2.2.2.2.2.2.2.2.2.1
theorem dL_law_1474 : decode cL_law 1474 = .ok (.aload_n 2, 1) := qdL_law_1434_24.2.2.2.2.2.2.2.2.2.2.2.2.2.2.2.2.2.2.2.2.2.2.2.1
theorem qdL_law_1475_14 : dcAll cL_law [(1475, .invokevirtual 221, 3), (1478, .pop, 1), (1479, .goto 16, 3), (1482, .aload_n 1, 1), (1483, .invokevirtual 222, 3), (1486, .pop2, 1), (1487, .aload_n 2, 1), (1488, .invokevirtual 226, 3), (1491, .pop2, 1), (1492, .goto 3, 3), (1495, .iinc 4 5, 3), (1498, .goto (-1471), 3), (1501, .iconst 1, 1), (1502, .ireturn, 1)] := dcAll_of (by decide +kernel)
theorem dL_law_1475 : decode cL_law 1475 = .ok (.invokevirtual 221, 3) := qdL_law_1475_14.1
theorem dL_law_1478 : decode cL_law 1478 = .ok (.pop, 1) := qdL_law_1475_14.2.1
theorem dL_law_1479 : decode cL_law 1479 = .ok (.goto 16, 3) := qdL_law_1475_14.2.2.1
theorem dL_law_1482 : decode cL_law 1482 = .ok (.aload_n 1, 1) := qdL_law_1475_14.2.2.2.1
theorem dL_law_1483 : decode cL_law 1483 = .ok (.invokevirtual 222, 3) := qdL_law_1475_14.2.2.2.2.1
theorem dL_law_1486 : decode cL_law 1486 = .ok (.pop2, 1) := qdL_law_1475_14.2.2.2.2.2.1
theorem dL_law_1487 : decode cL_law 1487 = .ok (.aload_n 2, 1) := qdL_law_1475_14.2.2.2.2.2.2.1
theorem dL_law_1488 : decode cL_law 1488 = .ok (.invokevirtual 226, 3) := qdL_law_1475_14.2.2.2.2.2.2.2.1
theorem dL_law_1491 : decode cL_law 1491 = .ok (.pop2, 1) := qdL_law_1475_14.2.2.2.2.2.2.2.2.1
theorem dL_law_1492 : decode cL_law 1492 = .ok (.goto 3, 3) := qdL_law_1475_14.2.2.2.2.2.2.2.2.2.1
theorem dL_law_1495 : decode cL_law 1495 = .ok (.iinc 4 5, 3) := qdL_law_1475_14.2.2.2.2.2.2.2.2.2.2.1
theorem dL_law_1498 : decode cL_law 1498 = .ok (.goto (-1471), 3) := qdL_law_1475_14.2.2.2.2.2.2.2.2.2.2.2.1
theorem dL_law_1501 : decode cL_law 1501 = .ok (.iconst 1, 1) := qdL_law_1475_14.2.2.2.2.2.2.2.2.2.2.2.2.1
theorem dL_law_1502 : decode cL_law 1502 = .ok (.ireturn, 1) := qdL_law_1475_14.2.2.2.2.2.2.2.2.2.2.2.2.2.1
