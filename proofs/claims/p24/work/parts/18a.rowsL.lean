theorem ggL_know_X7_know : GoodIn wsL_know wsX7_know := fun w h => ⟨List.mem_cons_of_mem _ (List.mem_append_right _ h), zq_X7_know w h⟩
set_option maxRecDepth 20000 in
theorem gL_know_X7_know : GoodIn wsL_know (wsV RL 7 RX7 yX7_know wsX7_know) := goodIn_app (goodIn_r _ [3, 4, 5, 6] rfl rfl) ggL_know_X7_know
theorem qdL_know_0_16 : dcAll cL_know [(0, .aload_n 3, 1), (1, .aload_n 0, 1), (2, .iload_n 1, 1), (3, .iload_n 2, 1), (4, .invokevirtual 7, 3), (7, .i2l, 1), (8, .putfield 13, 3), (11, .goto 11, 3), (14, .astore 4, 2), (16, .iconst 1, 1), (17, .ireturn, 1), (18, .astore 4, 2), (20, .iconst 2, 1), (21, .ireturn, 1), (22, .iconst 0, 1), (23, .ireturn, 1)] := dcAll_of (by decide +kernel)
theorem dL_know_0 : decode cL_know 0 = .ok (.aload_n 3, 1) := qdL_know_0_16.1
theorem dL_know_1 : decode cL_know 1 = .ok (.aload_n 0, 1) := qdL_know_0_16.2.1
theorem dL_know_2 : decode cL_know 2 = .ok (.iload_n 1, 1) := qdL_know_0_16.2.2.1
theorem dL_know_3 : decode cL_know 3 = .ok (.iload_n 2, 1) := qdL_know_0_16.2.2.2.1
theorem dL_know_4 : decode cL_know 4 = .ok (.invokevirtual 7, 3) := qdL_know_0_16.2.2.2.2.1
theorem dL_know_7 : decode cL_know 7 = .ok (.i2l, 1) := qdL_know_0_16.2.2.2.2.2.1
theorem dL_know_8 : decode cL_know 8 = .ok (.putfield 13, 3) := qdL_know_0_16.2.2.2.2.2.2.1
theorem dL_know_11 : decode cL_know 11 = .ok (.goto 11, 3) := qdL_know_0_16.2.2.2.2.2.2.2.1
theorem dL_know_14 : decode cL_know 14 = .ok (.astore 4, 2) := qdL_know_0_16.2.2.2.2.2.2.2.2.1
theorem dL_know_16 : decode cL_know 16 = .ok (.iconst 1, 1) := qdL_know_0_16.2.2.2.2.2.2.2.2.2.1
theorem dL_know_17 : decode cL_know 17 = .ok (.ireturn, 1) := qdL_know_0_16.2.2.2.2.2.2.2.2.2.2.1
theorem dL_know_18 : decode cL_know 18 = .ok (.astore 4, 2) := qdL_know_0_16.2.2.2.2.2.2.2.2.2.2.2.1
theorem dL_know_20 : decode cL_know 20 = .ok (.iconst 2, 1) := qdL_know_0_16.2.2.2.2.2.2.2.2.2.2.2.2.1
theorem dL_know_21 : decode cL_know 21 = .ok (.ireturn, 1) := qdL_know_0_16.2.2.2.2.2.2.2.2.2.2.2.2.2.1
theorem dL_know_22 : decode cL_know 22 = .ok (.iconst 0, 1) := qdL_know_0_16.2.2.2.2.2.2.2.2.2.2.2.2.2.2.1
theorem dL_know_23 : decode cL_know 23 = .ok (.ireturn, 1) := qdL_know_0_16.2.2.2.2.2.2.2.2.2.2.2.2.2.2.2.1
theorem ggL_put_X7_put : GoodIn wsL_put wsX7_put := fun w h => ⟨List.mem_cons_of_mem _ (List.mem_append_right _ h), zq_X7_put w h⟩
set_option maxRecDepth 20000 in
theorem gL_put_X7_put : GoodIn wsL_put (wsV RL 23 RX7 yX7_put wsX7_put) := goodIn_app (goodIn_r _ [3, 4, 5, 6] rfl rfl) ggL_put_X7_put
theorem qdL_put_0_17 : dcAll cL_put [(0, .aload 4, 2), (2, .aload_n 0, 1), (3, .iload_n 1, 1), (4, .iload_n 2, 1), (5, .iload_n 3, 1), (6, .invokevirtual 23, 3), (9, .i2l, 1), (10, .putfield 13, 3), (13, .goto 11, 3), (16, .astore 5, 2), (18, .iconst 1, 1), (19, .ireturn, 1), (20, .astore 5, 2), (22, .iconst 2, 1), (23, .ireturn, 1), (24, .iconst 0, 1), (25, .ireturn, 1)] := dcAll_of (by decide +kernel)
theorem dL_put_0 : decode cL_put 0 = .ok (.aload 4, 2) := qdL_put_0_17.1
theorem dL_put_2 : decode cL_put 2 = .ok (.aload_n 0, 1) := qdL_put_0_17.2.1
theorem dL_put_3 : decode cL_put 3 = .ok (.iload_n 1, 1) := qdL_put_0_17.2.2.1
theorem dL_put_4 : decode cL_put 4 = .ok (.iload_n 2, 1) := qdL_put_0_17.2.2.2.1
theorem dL_put_5 : decode cL_put 5 = .ok (.iload_n 3, 1) := qdL_put_0_17.2.2.2.2.1
theorem dL_put_6 : decode cL_put 6 = .ok (.invokevirtual 23, 3) := qdL_put_0_17.2.2.2.2.2.1
theorem dL_put_9 : decode cL_put 9 = .ok (.i2l, 1) := qdL_put_0_17.2.2.2.2.2.2.1
theorem dL_put_10 : decode cL_put 10 = .ok (.putfield 13, 3) := qdL_put_0_17.2.2.2.2.2.2.2.1
theorem dL_put_13 : decode cL_put 13 = .ok (.goto 11, 3) := qdL_put_0_17.2.2.2.2.2.2.2.2.1
theorem dL_put_16 : decode cL_put 16 = .ok (.astore 5, 2) := qdL_put_0_17.2.2.2.2.2.2.2.2.2.1
theorem dL_put_18 : decode cL_put 18 = .ok (.iconst 1, 1) := qdL_put_0_17.2.2.2.2.2.2.2.2.2.2.1
theorem dL_put_19 : decode cL_put 19 = .ok (.ireturn, 1) := qdL_put_0_17.2.2.2.2.2.2.2.2.2.2.2.1
theorem dL_put_20 : decode cL_put 20 = .ok (.astore 5, 2) := qdL_put_0_17.2.2.2.2.2.2.2.2.2.2.2.2.1
theorem dL_put_22 : decode cL_put 22 = .ok (.iconst 2, 1) := qdL_put_0_17.2.2.2.2.2.2.2.2.2.2.2.2.2.1
theorem dL_put_23 : decode cL_put 23 = .ok (.ireturn, 1) := qdL_put_0_17.2.2.2.2.2.2.2.2.2.2.2.2.2.2.1
theorem dL_put_24 : decode cL_put 24 = .ok (.iconst 0, 1) := qdL_put_0_17.2.2.2.2.2.2.2.2.2.2.2.2.2.2.2.1
theorem dL_put_25 : decode cL_put 25 = .ok (.ireturn, 1) := qdL_put_0_17.2.2.2.2.2.2.2.2.2.2.2.2.2.2.2.2.1
theorem ggL_putWide_X7_putWide : GoodIn wsL_putWide wsX7_putWide := fun w h => ⟨List.mem_cons_of_mem _ (List.mem_append_right _ h), zq_X7_putWide w h⟩
set_option maxRecDepth 20000 in
theorem gL_putWide_X7_putWide : GoodIn wsL_putWide (wsV RL 27 RX7 yX7_putWide wsX7_putWide) := goodIn_app (goodIn_r _ [3, 4, 5, 6] rfl rfl) ggL_putWide_X7_putWide
theorem qdL_putWide_0_18 : dcAll cL_putWide [(0, .aload 5, 2), (2, .aload_n 0, 1), (3, .iload_n 1, 1), (4, .iload_n 2, 1), (5, .iload_n 3, 1), (6, .iload 4, 2), (8, .invokevirtual 27, 3), (11, .i2l, 1), (12, .putfield 13, 3), (15, .goto 11, 3), (18, .astore 6, 2), (20, .iconst 1, 1), (21, .ireturn, 1), (22, .astore 6, 2), (24, .iconst 2, 1), (25, .ireturn, 1), (26, .iconst 0, 1), (27, .ireturn, 1)] := dcAll_of (by decide +kernel)
theorem dL_putWide_0 : decode cL_putWide 0 = .ok (.aload 5, 2) := qdL_putWide_0_18.1
theorem dL_putWide_2 : decode cL_putWide 2 = .ok (.aload_n 0, 1) := qdL_putWide_0_18.2.1
theorem dL_putWide_3 : decode cL_putWide 3 = .ok (.iload_n 1, 1) := qdL_putWide_0_18.2.2.1
theorem dL_putWide_4 : decode cL_putWide 4 = .ok (.iload_n 2, 1) := qdL_putWide_0_18.2.2.2.1
theorem dL_putWide_5 : decode cL_putWide 5 = .ok (.iload_n 3, 1) := qdL_putWide_0_18.2.2.2.2.1
theorem dL_putWide_6 : decode cL_putWide 6 = .ok (.iload 4, 2) := qdL_putWide_0_18.2.2.2.2.2.1
theorem dL_putWide_8 : decode cL_putWide 8 = .ok (.invokevirtual 27, 3) := qdL_putWide_0_18.2.2.2.2.2.2.1
theorem dL_putWide_11 : decode cL_putWide 11 = .ok (.i2l, 1) := qdL_putWide_0_18.2.2.2.2.2.2.2.1
theorem dL_putWide_12 : decode cL_putWide 12 = .ok (.putfield 13, 3) := qdL_putWide_0_18.2.2.2.2.2.2.2.2.1
theorem dL_putWide_15 : decode cL_putWide 15 = .ok (.goto 11, 3) := qdL_putWide_0_18.2.2.2.2.2.2.2.2.2.1
theorem dL_putWide_18 : decode cL_putWide 18 = .ok (.astore 6, 2) := qdL_putWide_0_18.2.2.2.2.2.2.2.2.2.2.1
theorem dL_putWide_20 : decode cL_putWide 20 = .ok (.iconst 1, 1) := qdL_putWide_0_18.2.2.2.2.2.2.2.2.2.2.2.1
theorem dL_putWide_21 : decode cL_putWide 21 = .ok (.ireturn, 1) := qdL_putWide_0_18.2.2.2.2.2.2.2.2.2.2.2.2.1
theorem dL_putWide_22 : decode cL_putWide 22 = .ok (.astore 6, 2) := qdL_putWide_0_18.2.2.2.2.2.2.2.2.2.2.2.2.2.1
theorem dL_putWide_24 : decode cL_putWide 24 = .ok (.iconst 2, 1) := qdL_putWide_0_18.2.2.2.2.2.2.2.2.2.2.2.2.2.2.1
theorem dL_putWide_25 : decode cL_putWide 25 = .ok (.ireturn, 1) := qdL_putWide_0_18.2.2.2.2.2.2.2.2.2.2.2.2.2.2.2.1
theorem dL_putWide_26 : decode cL_putWide 26 = .ok (.iconst 0, 1) := qdL_putWide_0_18.2.2.2.2.2.2.2.2.2.2.2.2.2.2.2.2.1
theorem dL_putWide_27 : decode cL_putWide 27 = .ok (.ireturn, 1) := qdL_putWide_0_18.2.2.2.2.2.2.2.2.2.2.2.2.2.2.2.2.2.1
theorem ggL_sow_X7_sow : GoodIn wsL_sow wsX7_sow := fun w h => ⟨List.mem_cons_of_mem _ (List.mem_append_right _ h), zq_X7_sow w h⟩
set_option maxRecDepth 20000 in
theorem gL_sow_X7_sow : GoodIn wsL_sow (wsV RL 31 RX7 yX7_sow wsX7_sow) := goodIn_app (goodIn_r _ [3, 4, 5, 6] rfl rfl) ggL_sow_X7_sow
theorem qdL_sow_0_17 : dcAll cL_sow [(0, .aload 4, 2), (2, .aload_n 0, 1), (3, .iload_n 1, 1), (4, .iload_n 2, 1), (5, .iload_n 3, 1), (6, .invokevirtual 31, 3), (9, .i2l, 1), (10, .putfield 13, 3), (13, .goto 11, 3), (16, .astore 5, 2), (18, .iconst 1, 1), (19, .ireturn, 1), (20, .astore 5, 2), (22, .iconst 2, 1), (23, .ireturn, 1), (24, .iconst 0, 1), (25, .ireturn, 1)] := dcAll_of (by decide +kernel)
theorem dL_sow_0 : decode cL_sow 0 = .ok (.aload 4, 2) := qdL_sow_0_17.1
theorem dL_sow_2 : decode cL_sow 2 = .ok (.aload_n 0, 1) := qdL_sow_0_17.2.1
theorem dL_sow_3 : decode cL_sow 3 = .ok (.iload_n 1, 1) := qdL_sow_0_17.2.2.1
theorem dL_sow_4 : decode cL_sow 4 = .ok (.iload_n 2, 1) := qdL_sow_0_17.2.2.2.1
theorem dL_sow_5 : decode cL_sow 5 = .ok (.iload_n 3, 1) := qdL_sow_0_17.2.2.2.2.1
theorem dL_sow_6 : decode cL_sow 6 = .ok (.invokevirtual 31, 3) := qdL_sow_0_17.2.2.2.2.2.1
theorem dL_sow_9 : decode cL_sow 9 = .ok (.i2l, 1) := qdL_sow_0_17.2.2.2.2.2.2.1
theorem dL_sow_10 : decode cL_sow 10 = .ok (.putfield 13, 3) := qdL_sow_0_17.2.2.2.2.2.2.2.1
theorem dL_sow_13 : decode cL_sow 13 = .ok (.goto 11, 3) := qdL_sow_0_17.2.2.2.2.2.2.2.2.1
theorem dL_sow_16 : decode cL_sow 16 = .ok (.astore 5, 2) := qdL_sow_0_17.2.2.2.2.2.2.2.2.2.1
theorem dL_sow_18 : decode cL_sow 18 = .ok (.iconst 1, 1) := qdL_sow_0_17.2.2.2.2.2.2.2.2.2.2.1
theorem dL_sow_19 : decode cL_sow 19 = .ok (.ireturn, 1) := qdL_sow_0_17.2.2.2.2.2.2.2.2.2.2.2.1
theorem dL_sow_20 : decode cL_sow 20 = .ok (.astore 5, 2) := qdL_sow_0_17.2.2.2.2.2.2.2.2.2.2.2.2.1
theorem dL_sow_22 : decode cL_sow 22 = .ok (.iconst 2, 1) := qdL_sow_0_17.2.2.2.2.2.2.2.2.2.2.2.2.2.1
theorem dL_sow_23 : decode cL_sow 23 = .ok (.ireturn, 1) := qdL_sow_0_17.2.2.2.2.2.2.2.2.2.2.2.2.2.2.1
theorem dL_sow_24 : decode cL_sow 24 = .ok (.iconst 0, 1) := qdL_sow_0_17.2.2.2.2.2.2.2.2.2.2.2.2.2.2.2.1
theorem dL_sow_25 : decode cL_sow 25 = .ok (.ireturn, 1) := qdL_sow_0_17.2.2.2.2.2.2.2.2.2.2.2.2.2.2.2.2.1
theorem ggL_copy_X7_copy : GoodIn wsL_copy wsX7_copy := fun w h => ⟨List.mem_cons_of_mem _ (List.mem_append_right _ h), zq_X7_copy w h⟩
set_option maxRecDepth 20000 in
theorem gL_copy_X7_copy : GoodIn wsL_copy (wsV RL 34 RX7 yX7_copy wsX7_copy) := goodIn_app (goodIn_r _ [2, 3, 4, 5] rfl rfl) ggL_copy_X7_copy
theorem qdL_copy_0_13 : dcAll cL_copy [(0, .aload_n 3, 1), (1, .aload_n 0, 1), (2, .iload_n 1, 1), (3, .iload_n 2, 1), (4, .invokevirtual 34, 3), (7, .i2l, 1), (8, .putfield 13, 3), (11, .goto 7, 3), (14, .astore 4, 2), (16, .iconst 1, 1), (17, .ireturn, 1), (18, .iconst 0, 1), (19, .ireturn, 1)] := dcAll_of (by decide +kernel)
theorem dL_copy_0 : decode cL_copy 0 = .ok (.aload_n 3, 1) := qdL_copy_0_13.1
theorem dL_copy_1 : decode cL_copy 1 = .ok (.aload_n 0, 1) := qdL_copy_0_13.2.1
theorem dL_copy_2 : decode cL_copy 2 = .ok (.iload_n 1, 1) := qdL_copy_0_13.2.2.1
theorem dL_copy_3 : decode cL_copy 3 = .ok (.iload_n 2, 1) := qdL_copy_0_13.2.2.2.1
theorem dL_copy_4 : decode cL_copy 4 = .ok (.invokevirtual 34, 3) := qdL_copy_0_13.2.2.2.2.1
theorem dL_copy_7 : decode cL_copy 7 = .ok (.i2l, 1) := qdL_copy_0_13.2.2.2.2.2.1
theorem dL_copy_8 : decode cL_copy 8 = .ok (.putfield 13, 3) := qdL_copy_0_13.2.2.2.2.2.2.1
theorem dL_copy_11 : decode cL_copy 11 = .ok (.goto 7, 3) := qdL_copy_0_13.2.2.2.2.2.2.2.1
theorem dL_copy_14 : decode cL_copy 14 = .ok (.astore 4, 2) := qdL_copy_0_13.2.2.2.2.2.2.2.2.1
theorem dL_copy_16 : decode cL_copy 16 = .ok (.iconst 1, 1) := qdL_copy_0_13.2.2.2.2.2.2.2.2.2.1
theorem dL_copy_17 : decode cL_copy 17 = .ok (.ireturn, 1) := qdL_copy_0_13.2.2.2.2.2.2.2.2.2.2.1
theorem dL_copy_18 : decode cL_copy 18 = .ok (.iconst 0, 1) := qdL_copy_0_13.2.2.2.2.2.2.2.2.2.2.2.1
theorem dL_copy_19 : decode cL_copy 19 = .ok (.ireturn, 1) := qdL_copy_0_13.2.2.2.2.2.2.2.2.2.2.2.2.1
theorem ggL_swap_X7_swap : GoodIn wsL_swap wsX7_swap := fun w h => ⟨List.mem_cons_of_mem _ (List.mem_append_right _ h), zq_X7_swap w h⟩
set_option maxRecDepth 20000 in
theorem gL_swap_X7_swap : GoodIn wsL_swap (wsV RL 37 RX7 yX7_swap wsX7_swap) := goodIn_app (goodIn_r _ [2, 3, 4, 5] rfl rfl) ggL_swap_X7_swap
theorem qdL_swap_0_13 : dcAll cL_swap [(0, .aload_n 3, 1), (1, .aload_n 0, 1), (2, .iload_n 1, 1), (3, .iload_n 2, 1), (4, .invokevirtual 37, 3), (7, .i2l, 1), (8, .putfield 13, 3), (11, .goto 7, 3), (14, .astore 4, 2), (16, .iconst 1, 1), (17, .ireturn, 1), (18, .iconst 0, 1), (19, .ireturn, 1)] := dcAll_of (by decide +kernel)
theorem dL_swap_0 : decode cL_swap 0 = .ok (.aload_n 3, 1) := qdL_swap_0_13.1
theorem dL_swap_1 : decode cL_swap 1 = .ok (.aload_n 0, 1) := qdL_swap_0_13.2.1
theorem dL_swap_2 : decode cL_swap 2 = .ok (.iload_n 1, 1) := qdL_swap_0_13.2.2.1
theorem dL_swap_3 : decode cL_swap 3 = .ok (.iload_n 2, 1) := qdL_swap_0_13.2.2.2.1
theorem dL_swap_4 : decode cL_swap 4 = .ok (.invokevirtual 37, 3) := qdL_swap_0_13.2.2.2.2.1
theorem dL_swap_7 : decode cL_swap 7 = .ok (.i2l, 1) := qdL_swap_0_13.2.2.2.2.2.1
theorem dL_swap_8 : decode cL_swap 8 = .ok (.putfield 13, 3) := qdL_swap_0_13.2.2.2.2.2.2.1
theorem dL_swap_11 : decode cL_swap 11 = .ok (.goto 7, 3) := qdL_swap_0_13.2.2.2.2.2.2.2.1
theorem dL_swap_14 : decode cL_swap 14 = .ok (.astore 4, 2) := qdL_swap_0_13.2.2.2.2.2.2.2.2.1
theorem dL_swap_16 : decode cL_swap 16 = .ok (.iconst 1, 1) := qdL_swap_0_13.2.2.2.2.2.2.2.2.2.1
theorem dL_swap_17 : decode cL_swap 17 = .ok (.ireturn, 1) := qdL_swap_0_13.2.2.2.2.2.2.2.2.2.2.1
theorem dL_swap_18 : decode cL_swap 18 = .ok (.iconst 0, 1) := qdL_swap_0_13.2.2.2.2.2.2.2.2.2.2.2.1
theorem dL_swap_19 : decode cL_swap 19 = .ok (.ireturn, 1) := qdL_swap_0_13.2.2.2.2.2.2.2.2.2.2.2.2.1
theorem ggL_meet_X7_meet : GoodIn wsL_meet wsX7_meet := fun w h => ⟨List.mem_cons_of_mem _ (List.mem_append_right _ h), zq_X7_meet w h⟩
set_option maxRecDepth 20000 in
theorem gL_meet_X7_meet : GoodIn wsL_meet (wsV RL 40 RX7 yX7_meet wsX7_meet) := goodIn_app (goodIn_r _ [3, 4, 5, 6] rfl rfl) ggL_meet_X7_meet
theorem qdL_meet_0_18 : dcAll cL_meet [(0, .aload 5, 2), (2, .aload_n 0, 1), (3, .iload_n 1, 1), (4, .iload_n 2, 1), (5, .iload_n 3, 1), (6, .iload 4, 2), (8, .invokevirtual 40, 3), (11, .i2l, 1), (12, .putfield 13, 3), (15, .goto 11, 3), (18, .astore 6, 2), (20, .iconst 1, 1), (21, .ireturn, 1), (22, .astore 6, 2), (24, .iconst 2, 1), (25, .ireturn, 1), (26, .iconst 0, 1), (27, .ireturn, 1)] := dcAll_of (by decide +kernel)
theorem dL_meet_0 : decode cL_meet 0 = .ok (.aload 5, 2) := qdL_meet_0_18.1
theorem dL_meet_2 : decode cL_meet 2 = .ok (.aload_n 0, 1) := qdL_meet_0_18.2.1
theorem dL_meet_3 : decode cL_meet 3 = .ok (.iload_n 1, 1) := qdL_meet_0_18.2.2.1
theorem dL_meet_4 : decode cL_meet 4 = .ok (.iload_n 2, 1) := qdL_meet_0_18.2.2.2.1
theorem dL_meet_5 : decode cL_meet 5 = .ok (.iload_n 3, 1) := qdL_meet_0_18.2.2.2.2.1
theorem dL_meet_6 : decode cL_meet 6 = .ok (.iload 4, 2) := qdL_meet_0_18.2.2.2.2.2.1
theorem dL_meet_8 : decode cL_meet 8 = .ok (.invokevirtual 40, 3) := qdL_meet_0_18.2.2.2.2.2.2.1
theorem dL_meet_11 : decode cL_meet 11 = .ok (.i2l, 1) := qdL_meet_0_18.2.2.2.2.2.2.2.1
theorem dL_meet_12 : decode cL_meet 12 = .ok (.putfield 13, 3) := qdL_meet_0_18.2.2.2.2.2.2.2.2.1
theorem dL_meet_15 : decode cL_meet 15 = .ok (.goto 11, 3) := qdL_meet_0_18.2.2.2.2.2.2.2.2.2.1
theorem dL_meet_18 : decode cL_meet 18 = .ok (.astore 6, 2) := qdL_meet_0_18.2.2.2.2.2.2.2.2.2.2.1
theorem dL_meet_20 : decode cL_meet 20 = .ok (.iconst 1, 1) := qdL_meet_0_18.2.2.2.2.2.2.2.2.2.2.2.1
theorem dL_meet_21 : decode cL_meet 21 = .ok (.ireturn, 1) := qdL_meet_0_18.2.2.2.2.2.2.2.2.2.2.2.2.1
theorem dL_meet_22 : decode cL_meet 22 = .ok (.astore 6, 2) := qdL_meet_0_18.2.2.2.2.2.2.2.2.2.2.2.2.2.1
theorem dL_meet_24 : decode cL_meet 24 = .ok (.iconst 2, 1) := qdL_meet_0_18.2.2.2.2.2.2.2.2.2.2.2.2.2.2.1
theorem dL_meet_25 : decode cL_meet 25 = .ok (.ireturn, 1) := qdL_meet_0_18.2.2.2.2.2.2.2.2.2.2.2.2.2.2.2.1
theorem dL_meet_26 : decode cL_meet 26 = .ok (.iconst 0, 1) := qdL_meet_0_18.2.2.2.2.2.2.2.2.2.2.2.2.2.2.2.2.1
theorem dL_meet_27 : decode cL_meet 27 = .ok (.ireturn, 1) := qdL_meet_0_18.2.2.2.2.2.2.2.2.2.2.2.2.2.2.2.2.2.1
theorem ggL_multiply_X7_multiply : GoodIn wsL_multiply wsX7_multiply := fun w h => ⟨List.mem_cons_of_mem _ (List.mem_append_right _ h), zq_X7_multiply w h⟩
set_option maxRecDepth 20000 in
theorem gL_multiply_X7_multiply : GoodIn wsL_multiply (wsV RL 43 RX7 yX7_multiply wsX7_multiply) := goodIn_app (goodIn_r _ [2, 3, 4, 5] rfl rfl) ggL_multiply_X7_multiply
theorem qdL_multiply_0_14 : dcAll cL_multiply [(0, .aload 4, 2), (2, .aload_n 0, 1), (3, .iload_n 1, 1), (4, .iload_n 2, 1), (5, .iload_n 3, 1), (6, .invokevirtual 43, 3), (9, .i2l, 1), (10, .putfield 13, 3), (13, .goto 7, 3), (16, .astore 5, 2), (18, .iconst 1, 1), (19, .ireturn, 1), (20, .iconst 0, 1), (21, .ireturn, 1)] := dcAll_of (by decide +kernel)
theorem dL_multiply_0 : decode cL_multiply 0 = .ok (.aload 4, 2) := qdL_multiply_0_14.1
theorem dL_multiply_2 : decode cL_multiply 2 = .ok (.aload_n 0, 1) := qdL_multiply_0_14.2.1
theorem dL_multiply_3 : decode cL_multiply 3 = .ok (.iload_n 1, 1) := qdL_multiply_0_14.2.2.1
theorem dL_multiply_4 : decode cL_multiply 4 = .ok (.iload_n 2, 1) := qdL_multiply_0_14.2.2.2.1
theorem dL_multiply_5 : decode cL_multiply 5 = .ok (.iload_n 3, 1) := qdL_multiply_0_14.2.2.2.2.1
theorem dL_multiply_6 : decode cL_multiply 6 = .ok (.invokevirtual 43, 3) := qdL_multiply_0_14.2.2.2.2.2.1
theorem dL_multiply_9 : decode cL_multiply 9 = .ok (.i2l, 1) := qdL_multiply_0_14.2.2.2.2.2.2.1
theorem dL_multiply_10 : decode cL_multiply 10 = .ok (.putfield 13, 3) := qdL_multiply_0_14.2.2.2.2.2.2.2.1
theorem dL_multiply_13 : decode cL_multiply 13 = .ok (.goto 7, 3) := qdL_multiply_0_14.2.2.2.2.2.2.2.2.1
theorem dL_multiply_16 : decode cL_multiply 16 = .ok (.astore 5, 2) := qdL_multiply_0_14.2.2.2.2.2.2.2.2.2.1
theorem dL_multiply_18 : decode cL_multiply 18 = .ok (.iconst 1, 1) := qdL_multiply_0_14.2.2.2.2.2.2.2.2.2.2.1
theorem dL_multiply_19 : decode cL_multiply 19 = .ok (.ireturn, 1) := qdL_multiply_0_14.2.2.2.2.2.2.2.2.2.2.2.1
theorem dL_multiply_20 : decode cL_multiply 20 = .ok (.iconst 0, 1) := qdL_multiply_0_14.2.2.2.2.2.2.2.2.2.2.2.2.1
theorem dL_multiply_21 : decode cL_multiply 21 = .ok (.ireturn, 1) := qdL_multiply_0_14.2.2.2.2.2.2.2.2.2.2.2.2.2.1
theorem ggL_make_X7_make : GoodIn wsL_make wsX7_make := fun w h => ⟨List.mem_cons_of_mem _ (List.mem_append_right _ h), zq_X7_make w h⟩
set_option maxRecDepth 20000 in
theorem gL_make_X7_make : GoodIn wsL_make (wsV RL 46 RX7 yX7_make wsX7_make) := goodIn_app (goodIn_r _ [3, 4, 5, 6] rfl rfl) ggL_make_X7_make
theorem qdL_make_0_17 : dcAll cL_make [(0, .aload 4, 2), (2, .aload_n 0, 1), (3, .iload_n 1, 1), (4, .iload_n 2, 1), (5, .iload_n 3, 1), (6, .invokevirtual 46, 3), (9, .i2l, 1), (10, .putfield 13, 3), (13, .goto 11, 3), (16, .astore 5, 2), (18, .iconst 1, 1), (19, .ireturn, 1), (20, .astore 5, 2), (22, .iconst 2, 1), (23, .ireturn, 1), (24, .iconst 0, 1), (25, .ireturn, 1)] := dcAll_of (by decide +kernel)
theorem dL_make_0 : decode cL_make 0 = .ok (.aload 4, 2) := qdL_make_0_17.1
theorem dL_make_2 : decode cL_make 2 = .ok (.aload_n 0, 1) := qdL_make_0_17.2.1
theorem dL_make_3 : decode cL_make 3 = .ok (.iload_n 1, 1) := qdL_make_0_17.2.2.1
theorem dL_make_4 : decode cL_make 4 = .ok (.iload_n 2, 1) := qdL_make_0_17.2.2.2.1
theorem dL_make_5 : decode cL_make 5 = .ok (.iload_n 3, 1) := qdL_make_0_17.2.2.2.2.1
theorem dL_make_6 : decode cL_make 6 = .ok (.invokevirtual 46, 3) := qdL_make_0_17.2.2.2.2.2.1
theorem dL_make_9 : decode cL_make 9 = .ok (.i2l, 1) := qdL_make_0_17.2.2.2.2.2.2.1
theorem dL_make_10 : decode cL_make 10 = .ok (.putfield 13, 3) := qdL_make_0_17.2.2.2.2.2.2.2.1
theorem dL_make_13 : decode cL_make 13 = .ok (.goto 11, 3) := qdL_make_0_17.2.2.2.2.2.2.2.2.1
theorem dL_make_16 : decode cL_make 16 = .ok (.astore 5, 2) := qdL_make_0_17.2.2.2.2.2.2.2.2.2.1
theorem dL_make_18 : decode cL_make 18 = .ok (.iconst 1, 1) := qdL_make_0_17.2.2.2.2.2.2.2.2.2.2.1
theorem dL_make_19 : decode cL_make 19 = .ok (.ireturn, 1) := qdL_make_0_17.2.2.2.2.2.2.2.2.2.2.2.1
theorem dL_make_20 : decode cL_make 20 = .ok (.astore 5, 2) := qdL_make_0_17.2.2.2.2.2.2.2.2.2.2.2.2.1
theorem dL_make_22 : decode cL_make 22 = .ok (.iconst 2, 1) := qdL_make_0_17.2.2.2.2.2.2.2.2.2.2.2.2.2.1
theorem dL_make_23 : decode cL_make 23 = .ok (.ireturn, 1) := qdL_make_0_17.2.2.2.2.2.2.2.2.2.2.2.2.2.2.1
theorem dL_make_24 : decode cL_make 24 = .ok (.iconst 0, 1) := qdL_make_0_17.2.2.2.2.2.2.2.2.2.2.2.2.2.2.2.1
theorem dL_make_25 : decode cL_make 25 = .ok (.ireturn, 1) := qdL_make_0_17.2.2.2.2.2.2.2.2.2.2.2.2.2.2.2.2.1
theorem ggL_value_X7_value : GoodIn wsL_value wsX7_value := fun w h => ⟨List.mem_cons_of_mem _ (List.mem_append_right _ h), zq_X7_value w h⟩
set_option maxRecDepth 20000 in
theorem gL_value_X7_value : GoodIn wsL_value (wsV RL 49 RX7 yX7_value wsX7_value) := goodIn_app (goodIn_r _ [3, 4, 5, 6] rfl rfl) ggL_value_X7_value
theorem qdL_value_0_15 : dcAll cL_value [(0, .aload_n 3, 1), (1, .aload_n 0, 1), (2, .iload_n 1, 1), (3, .iload_n 2, 1), (4, .invokevirtual 49, 3), (7, .putfield 53, 3), (10, .goto 11, 3), (13, .astore 4, 2), (15, .iconst 1, 1), (16, .ireturn, 1), (17, .astore 4, 2), (19, .iconst 2, 1), (20, .ireturn, 1), (21, .iconst 0, 1), (22, .ireturn, 1)] := dcAll_of (by decide +kernel)
theorem dL_value_0 : decode cL_value 0 = .ok (.aload_n 3, 1) := qdL_value_0_15.1
theorem dL_value_1 : decode cL_value 1 = .ok (.aload_n 0, 1) := qdL_value_0_15.2.1
theorem dL_value_2 : decode cL_value 2 = .ok (.iload_n 1, 1) := qdL_value_0_15.2.2.1
theorem dL_value_3 : decode cL_value 3 = .ok (.iload_n 2, 1) := qdL_value_0_15.2.2.2.1
theorem dL_value_4 : decode cL_value 4 = .ok (.invokevirtual 49, 3) := qdL_value_0_15.2.2.2.2.1
theorem dL_value_7 : decode cL_value 7 = .ok (.putfield 53, 3) := qdL_value_0_15.2.2.2.2.2.1
theorem dL_value_10 : decode cL_value 10 = .ok (.goto 11, 3) := qdL_value_0_15.2.2.2.2.2.2.1
theorem dL_value_13 : decode cL_value 13 = .ok (.astore 4, 2) := qdL_value_0_15.2.2.2.2.2.2.2.1
theorem dL_value_15 : decode cL_value 15 = .ok (.iconst 1, 1) := qdL_value_0_15.2.2.2.2.2.2.2.2.1
theorem dL_value_16 : decode cL_value 16 = .ok (.ireturn, 1) := qdL_value_0_15.2.2.2.2.2.2.2.2.2.1
theorem dL_value_17 : decode cL_value 17 = .ok (.astore 4, 2) := qdL_value_0_15.2.2.2.2.2.2.2.2.2.2.1
theorem dL_value_19 : decode cL_value 19 = .ok (.iconst 2, 1) := qdL_value_0_15.2.2.2.2.2.2.2.2.2.2.2.1
theorem dL_value_20 : decode cL_value 20 = .ok (.ireturn, 1) := qdL_value_0_15.2.2.2.2.2.2.2.2.2.2.2.2.1
theorem dL_value_21 : decode cL_value 21 = .ok (.iconst 0, 1) := qdL_value_0_15.2.2.2.2.2.2.2.2.2.2.2.2.2.1
theorem dL_value_22 : decode cL_value 22 = .ok (.ireturn, 1) := qdL_value_0_15.2.2.2.2.2.2.2.2.2.2.2.2.2.2.1
theorem ggL_half_X7_half : GoodIn wsL_half wsX7_half := fun w h => ⟨List.mem_cons_of_mem _ (List.mem_append_right _ h), zq_X7_half w h⟩
set_option maxRecDepth 20000 in
theorem gL_half_X7_half : GoodIn wsL_half (wsV RL 57 RX7 yX7_half wsX7_half) := goodIn_app (goodIn_r _ [3, 4, 5, 6] rfl rfl) ggL_half_X7_half
theorem qdL_half_0_17 : dcAll cL_half [(0, .aload 4, 2), (2, .aload_n 0, 1), (3, .iload_n 1, 1), (4, .iload_n 2, 1), (5, .iload_n 3, 1), (6, .invokevirtual 57, 3), (9, .i2l, 1), (10, .putfield 13, 3), (13, .goto 11, 3), (16, .astore 5, 2), (18, .iconst 1, 1), (19, .ireturn, 1), (20, .astore 5, 2), (22, .iconst 2, 1), (23, .ireturn, 1), (24, .iconst 0, 1), (25, .ireturn, 1)] := dcAll_of (by decide +kernel)
theorem dL_half_0 : decode cL_half 0 = .ok (.aload 4, 2) := qdL_half_0_17.1
theorem dL_half_2 : decode cL_half 2 = .ok (.aload_n 0, 1) := qdL_half_0_17.2.1
theorem dL_half_3 : decode cL_half 3 = .ok (.iload_n 1, 1) := qdL_half_0_17.2.2.1
theorem dL_half_4 : decode cL_half 4 = .ok (.iload_n 2, 1) := qdL_half_0_17.2.2.2.1
theorem dL_half_5 : decode cL_half 5 = .ok (.iload_n 3, 1) := qdL_half_0_17.2.2.2.2.1
theorem dL_half_6 : decode cL_half 6 = .ok (.invokevirtual 57, 3) := qdL_half_0_17.2.2.2.2.2.1
theorem dL_half_9 : decode cL_half 9 = .ok (.i2l, 1) := qdL_half_0_17.2.2.2.2.2.2.1
theorem dL_half_10 : decode cL_half 10 = .ok (.putfield 13, 3) := qdL_half_0_17.2.2.2.2.2.2.2.1
theorem dL_half_13 : decode cL_half 13 = .ok (.goto 11, 3) := qdL_half_0_17.2.2.2.2.2.2.2.2.1
theorem dL_half_16 : decode cL_half 16 = .ok (.astore 5, 2) := qdL_half_0_17.2.2.2.2.2.2.2.2.2.1
theorem dL_half_18 : decode cL_half 18 = .ok (.iconst 1, 1) := qdL_half_0_17.2.2.2.2.2.2.2.2.2.2.1
theorem dL_half_19 : decode cL_half 19 = .ok (.ireturn, 1) := qdL_half_0_17.2.2.2.2.2.2.2.2.2.2.2.1
theorem dL_half_20 : decode cL_half 20 = .ok (.astore 5, 2) := qdL_half_0_17.2.2.2.2.2.2.2.2.2.2.2.2.1
theorem dL_half_22 : decode cL_half 22 = .ok (.iconst 2, 1) := qdL_half_0_17.2.2.2.2.2.2.2.2.2.2.2.2.2.1
theorem dL_half_23 : decode cL_half 23 = .ok (.ireturn, 1) := qdL_half_0_17.2.2.2.2.2.2.2.2.2.2.2.2.2.2.1
theorem dL_half_24 : decode cL_half 24 = .ok (.iconst 0, 1) := qdL_half_0_17.2.2.2.2.2.2.2.2.2.2.2.2.2.2.2.1
theorem dL_half_25 : decode cL_half 25 = .ok (.ireturn, 1) := qdL_half_0_17.2.2.2.2.2.2.2.2.2.2.2.2.2.2.2.2.1
theorem ggL_differ_X7_differ : GoodIn wsL_differ wsX7_differ := fun w h => ⟨List.mem_cons_of_mem _ (List.mem_append_right _ h), zq_X7_differ w h⟩
set_option maxRecDepth 20000 in
theorem gL_differ_X7_differ : GoodIn wsL_differ (wsV RL 61 RX7 yX7_differ wsX7_differ) := goodIn_app (goodIn_r _ [2, 3, 4, 5] rfl rfl) ggL_differ_X7_differ
theorem qdL_differ_0_13 : dcAll cL_differ [(0, .aload_n 3, 1), (1, .aload_n 0, 1), (2, .iload_n 1, 1), (3, .iload_n 2, 1), (4, .invokevirtual 61, 3), (7, .i2l, 1), (8, .putfield 13, 3), (11, .goto 7, 3), (14, .astore 4, 2), (16, .iconst 1, 1), (17, .ireturn, 1), (18, .iconst 0, 1), (19, .ireturn, 1)] := dcAll_of (by decide +kernel)
theorem dL_differ_0 : decode cL_differ 0 = .ok (.aload_n 3, 1) := qdL_differ_0_13.1
theorem dL_differ_1 : decode cL_differ 1 = .ok (.aload_n 0, 1) := qdL_differ_0_13.2.1
theorem dL_differ_2 : decode cL_differ 2 = .ok (.iload_n 1, 1) := qdL_differ_0_13.2.2.1
theorem dL_differ_3 : decode cL_differ 3 = .ok (.iload_n 2, 1) := qdL_differ_0_13.2.2.2.1
theorem dL_differ_4 : decode cL_differ 4 = .ok (.invokevirtual 61, 3) := qdL_differ_0_13.2.2.2.2.1
theorem dL_differ_7 : decode cL_differ 7 = .ok (.i2l, 1) := qdL_differ_0_13.2.2.2.2.2.1
theorem dL_differ_8 : decode cL_differ 8 = .ok (.putfield 13, 3) := qdL_differ_0_13.2.2.2.2.2.2.1
theorem dL_differ_11 : decode cL_differ 11 = .ok (.goto 7, 3) := qdL_differ_0_13.2.2.2.2.2.2.2.1
theorem dL_differ_14 : decode cL_differ 14 = .ok (.astore 4, 2) := qdL_differ_0_13.2.2.2.2.2.2.2.2.1
theorem dL_differ_16 : decode cL_differ 16 = .ok (.iconst 1, 1) := qdL_differ_0_13.2.2.2.2.2.2.2.2.2.1
theorem dL_differ_17 : decode cL_differ 17 = .ok (.ireturn, 1) := qdL_differ_0_13.2.2.2.2.2.2.2.2.2.2.1
theorem dL_differ_18 : decode cL_differ 18 = .ok (.iconst 0, 1) := qdL_differ_0_13.2.2.2.2.2.2.2.2.2.2.2.1
theorem dL_differ_19 : decode cL_differ 19 = .ok (.ireturn, 1) := qdL_differ_0_13.2.2.2.2.2.2.2.2.2.2.2.2.1
theorem ggL_is_X7_is : GoodIn wsL_is wsX7_is := fun w h => ⟨List.mem_cons_of_mem _ (List.mem_append_right _ h), zq_X7_is w h⟩
set_option maxRecDepth 20000 in
theorem gL_is_X7_is : GoodIn wsL_is (wsV RL 64 RX7 yX7_is wsX7_is) := goodIn_app (goodIn_r _ [3, 4, 5, 6] rfl rfl) ggL_is_X7_is
theorem qdL_is_0_19 : dcAll cL_is [(0, .aload_n 3, 1), (1, .aload_n 0, 1), (2, .iload_n 1, 1), (3, .iload_n 2, 1), (4, .invokevirtual 64, 3), (7, .ifCond .eq 7, 3), (10, .lconst 1, 1), (11, .goto 4, 3), (14, .lconst 0, 1), (15, .putfield 13, 3), (18, .goto 11, 3), (21, .astore 4, 2), (23, .iconst 1, 1), (24, .ireturn, 1), (25, .astore 4, 2), (27, .iconst 2, 1), (28, .ireturn, 1), (29, .iconst 0, 1), (30, .ireturn, 1)] := dcAll_of (by decide +kernel)
theorem dL_is_0 : decode cL_is 0 = .ok (.aload_n 3, 1) := qdL_is_0_19.1
theorem dL_is_1 : decode cL_is 1 = .ok (.aload_n 0, 1) := qdL_is_0_19.2.1
theorem dL_is_2 : decode cL_is 2 = .ok (.iload_n 1, 1) := qdL_is_0_19.2.2.1
theorem dL_is_3 : decode cL_is 3 = .ok (.iload_n 2, 1) := qdL_is_0_19.2.2.2.1
theorem dL_is_4 : decode cL_is 4 = .ok (.invokevirtual 64, 3) := qdL_is_0_19.2.2.2.2.1
theorem dL_is_7 : decode cL_is 7 = .ok (.ifCond .eq 7, 3) := qdL_is_0_19.2.2.2.2.2.1
theorem dL_is_10 : decode cL_is 10 = .ok (.lconst 1, 1) := qdL_is_0_19.2.2.2.2.2.2.1
theorem dL_is_11 : decode cL_is 11 = .ok (.goto 4, 3) := qdL_is_0_19.2.2.2.2.2.2.2.1
theorem dL_is_14 : decode cL_is 14 = .ok (.lconst 0, 1) := qdL_is_0_19.2.2.2.2.2.2.2.2.1
theorem dL_is_15 : decode cL_is 15 = .ok (.putfield 13, 3) := qdL_is_0_19.2.2.2.2.2.2.2.2.2.1
theorem dL_is_18 : decode cL_is 18 = .ok (.goto 11, 3) := qdL_is_0_19.2.2.2.2.2.2.2.2.2.2.1
theorem dL_is_21 : decode cL_is 21 = .ok (.astore 4, 2) := qdL_is_0_19.2.2.2.2.2.2.2.2.2.2.2.1
theorem dL_is_23 : decode cL_is 23 = .ok (.iconst 1, 1) := qdL_is_0_19.2.2.2.2.2.2.2.2.2.2.2.2.1
theorem dL_is_24 : decode cL_is 24 = .ok (.ireturn, 1) := qdL_is_0_19.2.2.2.2.2.2.2.2.2.2.2.2.2.1
theorem dL_is_25 : decode cL_is 25 = .ok (.astore 4, 2) := qdL_is_0_19.2.2.2.2.2.2.2.2.2.2.2.2.2.2.1
theorem dL_is_27 : decode cL_is 27 = .ok (.iconst 2, 1) := qdL_is_0_19.2.2.2.2.2.2.2.2.2.2.2.2.2.2.2.1
theorem dL_is_28 : decode cL_is 28 = .ok (.ireturn, 1) := qdL_is_0_19.2.2.2.2.2.2.2.2.2.2.2.2.2.2.2.2.1
theorem dL_is_29 : decode cL_is 29 = .ok (.iconst 0, 1) := qdL_is_0_19.2.2.2.2.2.2.2.2.2.2.2.2.2.2.2.2.2.1
theorem dL_is_30 : decode cL_is 30 = .ok (.ireturn, 1) := qdL_is_0_19.2.2.2.2.2.2.2.2.2.2.2.2.2.2.2.2.2.2.1
theorem ggL_total_X7_total : GoodIn wsL_total wsX7_total := fun w h => ⟨List.mem_cons_of_mem _ (List.mem_append_right _ h), zq_X7_total w h⟩
set_option maxRecDepth 20000 in
theorem gL_total_X7_total : GoodIn wsL_total (wsV RL 68 RX7 yX7_total wsX7_total) := goodIn_app (goodIn_r _ [4, 5, 6, 7] rfl rfl) ggL_total_X7_total
theorem qdL_total_0_18 : dcAll cL_total [(0, .aload_n 3, 1), (1, .aload_n 0, 1), (2, .iload_n 1, 1), (3, .iload_n 2, 1), (4, .invokevirtual 68, 3), (7, .putfield 53, 3), (10, .goto 15, 3), (13, .astore 4, 2), (15, .iconst 1, 1), (16, .ireturn, 1), (17, .astore 4, 2), (19, .iconst 2, 1), (20, .ireturn, 1), (21, .astore 4, 2), (23, .iconst 3, 1), (24, .ireturn, 1), (25, .iconst 0, 1), (26, .ireturn, 1)] := dcAll_of (by decide +kernel)
theorem dL_total_0 : decode cL_total 0 = .ok (.aload_n 3, 1) := qdL_total_0_18.1
theorem dL_total_1 : decode cL_total 1 = .ok (.aload_n 0, 1) := qdL_total_0_18.2.1
theorem dL_total_2 : decode cL_total 2 = .ok (.iload_n 1, 1) := qdL_total_0_18.2.2.1
theorem dL_total_3 : decode cL_total 3 = .ok (.iload_n 2, 1) := qdL_total_0_18.2.2.2.1
theorem dL_total_4 : decode cL_total 4 = .ok (.invokevirtual 68, 3) := qdL_total_0_18.2.2.2.2.1
theorem dL_total_7 : decode cL_total 7 = .ok (.putfield 53, 3) := qdL_total_0_18.2.2.2.2.2.1
theorem dL_total_10 : decode cL_total 10 = .ok (.goto 15, 3) := qdL_total_0_18.2.2.2.2.2.2.1
theorem dL_total_13 : decode cL_total 13 = .ok (.astore 4, 2) := qdL_total_0_18.2.2.2.2.2.2.2.1
theorem dL_total_15 : decode cL_total 15 = .ok (.iconst 1, 1) := qdL_total_0_18.2.2.2.2.2.2.2.2.1
theorem dL_total_16 : decode cL_total 16 = .ok (.ireturn, 1) := qdL_total_0_18.2.2.2.2.2.2.2.2.2.1
theorem dL_total_17 : decode cL_total 17 = .ok (.astore 4, 2) := qdL_total_0_18.2.2.2.2.2.2.2.2.2.2.1
theorem dL_total_19 : decode cL_total 19 = .ok (.iconst 2, 1) := qdL_total_0_18.2.2.2.2.2.2.2.2.2.2.2.1
theorem dL_total_20 : decode cL_total 20 = .ok (.ireturn, 1) := qdL_total_0_18.2.2.2.2.2.2.2.2.2.2.2.2.1
theorem dL_total_21 : decode cL_total 21 = .ok (.astore 4, 2) := qdL_total_0_18.2.2.2.2.2.2.2.2.2.2.2.2.2.1
theorem dL_total_23 : decode cL_total 23 = .ok (.iconst 3, 1) := qdL_total_0_18.2.2.2.2.2.2.2.2.2.2.2.2.2.2.1
theorem dL_total_24 : decode cL_total 24 = .ok (.ireturn, 1) := qdL_total_0_18.2.2.2.2.2.2.2.2.2.2.2.2.2.2.2.1
theorem dL_total_25 : decode cL_total 25 = .ok (.iconst 0, 1) := qdL_total_0_18.2.2.2.2.2.2.2.2.2.2.2.2.2.2.2.2.1
theorem dL_total_26 : decode cL_total 26 = .ok (.ireturn, 1) := qdL_total_0_18.2.2.2.2.2.2.2.2.2.2.2.2.2.2.2.2.2.1
theorem ggL_totalOfProduct_X7_totalOfProduct : GoodIn wsL_totalOfProduct wsX7_totalOfProduct := fun w h => ⟨List.mem_cons_of_mem _ (List.mem_append_right _ h), zq_X7_totalOfProduct w h⟩
set_option maxRecDepth 20000 in
theorem gL_totalOfProduct_X7_totalOfProduct : GoodIn wsL_totalOfProduct (wsV RL 73 RX7 yX7_totalOfProduct wsX7_totalOfProduct) := goodIn_app (goodIn_r _ [4, 5, 6, 7] rfl rfl) ggL_totalOfProduct_X7_totalOfProduct
theorem qdL_totalOfProduct_0_20 : dcAll cL_totalOfProduct [(0, .aload 5, 2), (2, .aload_n 0, 1), (3, .iload_n 1, 1), (4, .iload_n 2, 1), (5, .iload_n 3, 1), (6, .iload 4, 2), (8, .invokevirtual 73, 3), (11, .putfield 53, 3), (14, .goto 15, 3), (17, .astore 6, 2), (19, .iconst 1, 1), (20, .ireturn, 1), (21, .astore 6, 2), (23, .iconst 2, 1), (24, .ireturn, 1), (25, .astore 6, 2), (27, .iconst 3, 1), (28, .ireturn, 1), (29, .iconst 0, 1), (30, .ireturn, 1)] := dcAll_of (by decide +kernel)
theorem dL_totalOfProduct_0 : decode cL_totalOfProduct 0 = .ok (.aload 5, 2) := qdL_totalOfProduct_0_20.1
theorem dL_totalOfProduct_2 : decode cL_totalOfProduct 2 = .ok (.aload_n 0, 1) := qdL_totalOfProduct_0_20.2.1
theorem dL_totalOfProduct_3 : decode cL_totalOfProduct 3 = .ok (.iload_n 1, 1) := qdL_totalOfProduct_0_20.2.2.1
theorem dL_totalOfProduct_4 : decode cL_totalOfProduct 4 = .ok (.iload_n 2, 1) := qdL_totalOfProduct_0_20.2.2.2.1
theorem dL_totalOfProduct_5 : decode cL_totalOfProduct 5 = .ok (.iload_n 3, 1) := qdL_totalOfProduct_0_20.2.2.2.2.1
theorem dL_totalOfProduct_6 : decode cL_totalOfProduct 6 = .ok (.iload 4, 2) := qdL_totalOfProduct_0_20.2.2.2.2.2.1
theorem dL_totalOfProduct_8 : decode cL_totalOfProduct 8 = .ok (.invokevirtual 73, 3) := qdL_totalOfProduct_0_20.2.2.2.2.2.2.1
theorem dL_totalOfProduct_11 : decode cL_totalOfProduct 11 = .ok (.putfield 53, 3) := qdL_totalOfProduct_0_20.2.2.2.2.2.2.2.1
theorem dL_totalOfProduct_14 : decode cL_totalOfProduct 14 = .ok (.goto 15, 3) := qdL_totalOfProduct_0_20.2.2.2.2.2.2.2.2.1
theorem dL_totalOfProduct_17 : decode cL_totalOfProduct 17 = .ok (.astore 6, 2) := qdL_totalOfProduct_0_20.2.2.2.2.2.2.2.2.2.1
theorem dL_totalOfProduct_19 : decode cL_totalOfProduct 19 = .ok (.iconst 1, 1) := qdL_totalOfProduct_0_20.2.2.2.2.2.2.2.2.2.2.1
theorem dL_totalOfProduct_20 : decode cL_totalOfProduct 20 = .ok (.ireturn, 1) := qdL_totalOfProduct_0_20.2.2.2.2.2.2.2.2.2.2.2.1
theorem dL_totalOfProduct_21 : decode cL_totalOfProduct 21 = .ok (.astore 6, 2) := qdL_totalOfProduct_0_20.2.2.2.2.2.2.2.2.2.2.2.2.1
theorem dL_totalOfProduct_23 : decode cL_totalOfProduct 23 = .ok (.iconst 2, 1) := qdL_totalOfProduct_0_20.2.2.2.2.2.2.2.2.2.2.2.2.2.1
theorem dL_totalOfProduct_24 : decode cL_totalOfProduct 24 = .ok (.ireturn, 1) := qdL_totalOfProduct_0_20.2.2.2.2.2.2.2.2.2.2.2.2.2.2.1
theorem dL_totalOfProduct_25 : decode cL_totalOfProduct 25 = .ok (.astore 6, 2) := qdL_totalOfProduct_0_20.2.2.2.2.2.2.2.2.2.2.2.2.2.2.2.1
theorem dL_totalOfProduct_27 : decode cL_totalOfProduct 27 = .ok (.iconst 3, 1) := qdL_totalOfProduct_0_20.2.2.2.2.2.2.2.2.2.2.2.2.2.2.2.2.1
theorem dL_totalOfProduct_28 : decode cL_totalOfProduct 28 = .ok (.ireturn, 1) := qdL_totalOfProduct_0_20.2.2.2.2.2.2.2.2.2.2.2.2.2.2.2.2.2.1
theorem dL_totalOfProduct_29 : decode cL_totalOfProduct 29 = .ok (.iconst 0, 1) := qdL_totalOfProduct_0_20.2.2.2.2.2.2.2.2.2.2.2.2.2.2.2.2.2.2.1
theorem dL_totalOfProduct_30 : decode cL_totalOfProduct 30 = .ok (.ireturn, 1) := qdL_totalOfProduct_0_20.2.2.2.2.2.2.2.2.2.2.2.2.2.2.2.2.2.2.2.1
theorem ggL_determinant_X7_determinant : GoodIn wsL_determinant wsX7_determinant := fun w h => ⟨List.mem_cons_of_mem _ (List.mem_append_right _ h), zq_X7_determinant w h⟩
set_option maxRecDepth 20000 in
theorem gL_determinant_X7_determinant : GoodIn wsL_determinant (wsV RL 77 RX7 yX7_determinant wsX7_determinant) := goodIn_app (goodIn_r _ [4, 5, 6, 7] rfl rfl) ggL_determinant_X7_determinant
theorem qdL_determinant_0_19 : dcAll cL_determinant [(0, .aload 4, 2), (2, .aload_n 0, 1), (3, .iload_n 1, 1), (4, .iload_n 2, 1), (5, .iload_n 3, 1), (6, .invokevirtual 77, 3), (9, .putfield 53, 3), (12, .goto 15, 3), (15, .astore 5, 2), (17, .iconst 1, 1), (18, .ireturn, 1), (19, .astore 5, 2), (21, .iconst 2, 1), (22, .ireturn, 1), (23, .astore 5, 2), (25, .iconst 3, 1), (26, .ireturn, 1), (27, .iconst 0, 1), (28, .ireturn, 1)] := dcAll_of (by decide +kernel)
theorem dL_determinant_0 : decode cL_determinant 0 = .ok (.aload 4, 2) := qdL_determinant_0_19.1
theorem dL_determinant_2 : decode cL_determinant 2 = .ok (.aload_n 0, 1) := qdL_determinant_0_19.2.1
theorem dL_determinant_3 : decode cL_determinant 3 = .ok (.iload_n 1, 1) := qdL_determinant_0_19.2.2.1
theorem dL_determinant_4 : decode cL_determinant 4 = .ok (.iload_n 2, 1) := qdL_determinant_0_19.2.2.2.1
theorem dL_determinant_5 : decode cL_determinant 5 = .ok (.iload_n 3, 1) := qdL_determinant_0_19.2.2.2.2.1
theorem dL_determinant_6 : decode cL_determinant 6 = .ok (.invokevirtual 77, 3) := qdL_determinant_0_19.2.2.2.2.2.1
theorem dL_determinant_9 : decode cL_determinant 9 = .ok (.putfield 53, 3) := qdL_determinant_0_19.2.2.2.2.2.2.1
theorem dL_determinant_12 : decode cL_determinant 12 = .ok (.goto 15, 3) := qdL_determinant_0_19.2.2.2.2.2.2.2.1
theorem dL_determinant_15 : decode cL_determinant 15 = .ok (.astore 5, 2) := qdL_determinant_0_19.2.2.2.2.2.2.2.2.1
theorem dL_determinant_17 : decode cL_determinant 17 = .ok (.iconst 1, 1) := qdL_determinant_0_19.2.2.2.2.2.2.2.2.2.1
theorem dL_determinant_18 : decode cL_determinant 18 = .ok (.ireturn, 1) := qdL_determinant_0_19.2.2.2.2.2.2.2.2.2.2.1
theorem dL_determinant_19 : decode cL_determinant 19 = .ok (.astore 5, 2) := qdL_determinant_0_19.2.2.2.2.2.2.2.2.2.2.2.1
theorem dL_determinant_21 : decode cL_determinant 21 = .ok (.iconst 2, 1) := qdL_determinant_0_19.2.2.2.2.2.2.2.2.2.2.2.2.1
theorem dL_determinant_22 : decode cL_determinant 22 = .ok (.ireturn, 1) := qdL_determinant_0_19.2.2.2.2.2.2.2.2.2.2.2.2.2.1
theorem dL_determinant_23 : decode cL_determinant 23 = .ok (.astore 5, 2) := qdL_determinant_0_19.2.2.2.2.2.2.2.2.2.2.2.2.2.2.1
theorem dL_determinant_25 : decode cL_determinant 25 = .ok (.iconst 3, 1) := qdL_determinant_0_19.2.2.2.2.2.2.2.2.2.2.2.2.2.2.2.1
theorem dL_determinant_26 : decode cL_determinant 26 = .ok (.ireturn, 1) := qdL_determinant_0_19.2.2.2.2.2.2.2.2.2.2.2.2.2.2.2.2.1
theorem dL_determinant_27 : decode cL_determinant 27 = .ok (.iconst 0, 1) := qdL_determinant_0_19.2.2.2.2.2.2.2.2.2.2.2.2.2.2.2.2.2.1
theorem dL_determinant_28 : decode cL_determinant 28 = .ok (.ireturn, 1) := qdL_determinant_0_19.2.2.2.2.2.2.2.2.2.2.2.2.2.2.2.2.2.2.1
theorem ggL_tau_X7_tau : GoodIn wsL_tau wsX7_tau := fun w h => ⟨List.mem_cons_of_mem _ (List.mem_append_right _ h), zq_X7_tau w h⟩
set_option maxRecDepth 20000 in
theorem gL_tau_X7_tau : GoodIn wsL_tau (wsV RL 81 RX7 yX7_tau wsX7_tau) := goodIn_app (goodIn_r _ [2, 3, 4, 5] rfl rfl) ggL_tau_X7_tau
theorem qdL_tau_0_13 : dcAll cL_tau [(0, .aload_n 3, 1), (1, .aload_n 0, 1), (2, .iload_n 1, 1), (3, .iload_n 2, 1), (4, .invokevirtual 81, 3), (7, .i2l, 1), (8, .putfield 13, 3), (11, .goto 7, 3), (14, .astore 4, 2), (16, .iconst 1, 1), (17, .ireturn, 1), (18, .iconst 0, 1), (19, .ireturn, 1)] := dcAll_of (by decide +kernel)
theorem dL_tau_0 : decode cL_tau 0 = .ok (.aload_n 3, 1) := qdL_tau_0_13.1
theorem dL_tau_1 : decode cL_tau 1 = .ok (.aload_n 0, 1) := qdL_tau_0_13.2.1
theorem dL_tau_2 : decode cL_tau 2 = .ok (.iload_n 1, 1) := qdL_tau_0_13.2.2.1
theorem dL_tau_3 : decode cL_tau 3 = .ok (.iload_n 2, 1) := qdL_tau_0_13.2.2.2.1
theorem dL_tau_4 : decode cL_tau 4 = .ok (.invokevirtual 81, 3) := qdL_tau_0_13.2.2.2.2.1
theorem dL_tau_7 : decode cL_tau 7 = .ok (.i2l, 1) := qdL_tau_0_13.2.2.2.2.2.1
theorem dL_tau_8 : decode cL_tau 8 = .ok (.putfield 13, 3) := qdL_tau_0_13.2.2.2.2.2.2.1
theorem dL_tau_11 : decode cL_tau 11 = .ok (.goto 7, 3) := qdL_tau_0_13.2.2.2.2.2.2.2.1
theorem dL_tau_14 : decode cL_tau 14 = .ok (.astore 4, 2) := qdL_tau_0_13.2.2.2.2.2.2.2.2.1
theorem dL_tau_16 : decode cL_tau 16 = .ok (.iconst 1, 1) := qdL_tau_0_13.2.2.2.2.2.2.2.2.2.1
theorem dL_tau_17 : decode cL_tau 17 = .ok (.ireturn, 1) := qdL_tau_0_13.2.2.2.2.2.2.2.2.2.2.1
theorem dL_tau_18 : decode cL_tau 18 = .ok (.iconst 0, 1) := qdL_tau_0_13.2.2.2.2.2.2.2.2.2.2.2.1
theorem dL_tau_19 : decode cL_tau 19 = .ok (.ireturn, 1) := qdL_tau_0_13.2.2.2.2.2.2.2.2.2.2.2.2.1
theorem ggL_sigma_X7_sigma : GoodIn wsL_sigma wsX7_sigma := fun w h => ⟨List.mem_cons_of_mem _ (List.mem_append_right _ h), zq_X7_sigma w h⟩
set_option maxRecDepth 20000 in
theorem gL_sigma_X7_sigma : GoodIn wsL_sigma (wsV RL 84 RX7 yX7_sigma wsX7_sigma) := goodIn_app (goodIn_r _ [2, 3, 4, 5] rfl rfl) ggL_sigma_X7_sigma
theorem qdL_sigma_0_13 : dcAll cL_sigma [(0, .aload_n 3, 1), (1, .aload_n 0, 1), (2, .iload_n 1, 1), (3, .iload_n 2, 1), (4, .invokevirtual 84, 3), (7, .i2l, 1), (8, .putfield 13, 3), (11, .goto 7, 3), (14, .astore 4, 2), (16, .iconst 1, 1), (17, .ireturn, 1), (18, .iconst 0, 1), (19, .ireturn, 1)] := dcAll_of (by decide +kernel)
theorem dL_sigma_0 : decode cL_sigma 0 = .ok (.aload_n 3, 1) := qdL_sigma_0_13.1
theorem dL_sigma_1 : decode cL_sigma 1 = .ok (.aload_n 0, 1) := qdL_sigma_0_13.2.1
theorem dL_sigma_2 : decode cL_sigma 2 = .ok (.iload_n 1, 1) := qdL_sigma_0_13.2.2.1
theorem dL_sigma_3 : decode cL_sigma 3 = .ok (.iload_n 2, 1) := qdL_sigma_0_13.2.2.2.1
theorem dL_sigma_4 : decode cL_sigma 4 = .ok (.invokevirtual 84, 3) := qdL_sigma_0_13.2.2.2.2.1
theorem dL_sigma_7 : decode cL_sigma 7 = .ok (.i2l, 1) := qdL_sigma_0_13.2.2.2.2.2.1
theorem dL_sigma_8 : decode cL_sigma 8 = .ok (.putfield 13, 3) := qdL_sigma_0_13.2.2.2.2.2.2.1
theorem dL_sigma_11 : decode cL_sigma 11 = .ok (.goto 7, 3) := qdL_sigma_0_13.2.2.2.2.2.2.2.1
theorem dL_sigma_14 : decode cL_sigma 14 = .ok (.astore 4, 2) := qdL_sigma_0_13.2.2.2.2.2.2.2.2.1
theorem dL_sigma_16 : decode cL_sigma 16 = .ok (.iconst 1, 1) := qdL_sigma_0_13.2.2.2.2.2.2.2.2.2.1
theorem dL_sigma_17 : decode cL_sigma 17 = .ok (.ireturn, 1) := qdL_sigma_0_13.2.2.2.2.2.2.2.2.2.2.1
theorem dL_sigma_18 : decode cL_sigma 18 = .ok (.iconst 0, 1) := qdL_sigma_0_13.2.2.2.2.2.2.2.2.2.2.2.1
theorem dL_sigma_19 : decode cL_sigma 19 = .ok (.ireturn, 1) := qdL_sigma_0_13.2.2.2.2.2.2.2.2.2.2.2.2.1
theorem ggL_phi_X7_phi : GoodIn wsL_phi wsX7_phi := fun w h => ⟨List.mem_cons_of_mem _ (List.mem_append_right _ h), zq_X7_phi w h⟩
set_option maxRecDepth 20000 in
theorem gL_phi_X7_phi : GoodIn wsL_phi (wsV RL 87 RX7 yX7_phi wsX7_phi) := goodIn_app (goodIn_r _ [2, 3, 4, 5] rfl rfl) ggL_phi_X7_phi
theorem qdL_phi_0_13 : dcAll cL_phi [(0, .aload_n 3, 1), (1, .aload_n 0, 1), (2, .iload_n 1, 1), (3, .iload_n 2, 1), (4, .invokevirtual 87, 3), (7, .i2l, 1), (8, .putfield 13, 3), (11, .goto 7, 3), (14, .astore 4, 2), (16, .iconst 1, 1), (17, .ireturn, 1), (18, .iconst 0, 1), (19, .ireturn, 1)] := dcAll_of (by decide +kernel)
theorem dL_phi_0 : decode cL_phi 0 = .ok (.aload_n 3, 1) := qdL_phi_0_13.1
theorem dL_phi_1 : decode cL_phi 1 = .ok (.aload_n 0, 1) := qdL_phi_0_13.2.1
theorem dL_phi_2 : decode cL_phi 2 = .ok (.iload_n 1, 1) := qdL_phi_0_13.2.2.1
theorem dL_phi_3 : decode cL_phi 3 = .ok (.iload_n 2, 1) := qdL_phi_0_13.2.2.2.1
theorem dL_phi_4 : decode cL_phi 4 = .ok (.invokevirtual 87, 3) := qdL_phi_0_13.2.2.2.2.1
theorem dL_phi_7 : decode cL_phi 7 = .ok (.i2l, 1) := qdL_phi_0_13.2.2.2.2.2.1
theorem dL_phi_8 : decode cL_phi 8 = .ok (.putfield 13, 3) := qdL_phi_0_13.2.2.2.2.2.2.1
theorem dL_phi_11 : decode cL_phi 11 = .ok (.goto 7, 3) := qdL_phi_0_13.2.2.2.2.2.2.2.1
theorem dL_phi_14 : decode cL_phi 14 = .ok (.astore 4, 2) := qdL_phi_0_13.2.2.2.2.2.2.2.2.1
theorem dL_phi_16 : decode cL_phi 16 = .ok (.iconst 1, 1) := qdL_phi_0_13.2.2.2.2.2.2.2.2.2.1
theorem dL_phi_17 : decode cL_phi 17 = .ok (.ireturn, 1) := qdL_phi_0_13.2.2.2.2.2.2.2.2.2.2.1
theorem dL_phi_18 : decode cL_phi 18 = .ok (.iconst 0, 1) := qdL_phi_0_13.2.2.2.2.2.2.2.2.2.2.2.1
theorem dL_phi_19 : decode cL_phi 19 = .ok (.ireturn, 1) := qdL_phi_0_13.2.2.2.2.2.2.2.2.2.2.2.2.1
theorem ggL_sign_X7_sign : GoodIn wsL_sign wsX7_sign := fun w h => ⟨List.mem_cons_of_mem _ (List.mem_append_right _ h), zq_X7_sign w h⟩
set_option maxRecDepth 20000 in
theorem gL_sign_X7_sign : GoodIn wsL_sign (wsV RL 90 RX7 yX7_sign wsX7_sign) := goodIn_app (goodIn_r _ [2, 3, 4, 5] rfl rfl) ggL_sign_X7_sign
theorem qdL_sign_0_13 : dcAll cL_sign [(0, .aload_n 3, 1), (1, .aload_n 0, 1), (2, .iload_n 1, 1), (3, .iload_n 2, 1), (4, .invokevirtual 90, 3), (7, .i2l, 1), (8, .putfield 13, 3), (11, .goto 7, 3), (14, .astore 4, 2), (16, .iconst 1, 1), (17, .ireturn, 1), (18, .iconst 0, 1), (19, .ireturn, 1)] := dcAll_of (by decide +kernel)
theorem dL_sign_0 : decode cL_sign 0 = .ok (.aload_n 3, 1) := qdL_sign_0_13.1
theorem dL_sign_1 : decode cL_sign 1 = .ok (.aload_n 0, 1) := qdL_sign_0_13.2.1
theorem dL_sign_2 : decode cL_sign 2 = .ok (.iload_n 1, 1) := qdL_sign_0_13.2.2.1
theorem dL_sign_3 : decode cL_sign 3 = .ok (.iload_n 2, 1) := qdL_sign_0_13.2.2.2.1
theorem dL_sign_4 : decode cL_sign 4 = .ok (.invokevirtual 90, 3) := qdL_sign_0_13.2.2.2.2.1
theorem dL_sign_7 : decode cL_sign 7 = .ok (.i2l, 1) := qdL_sign_0_13.2.2.2.2.2.1
theorem dL_sign_8 : decode cL_sign 8 = .ok (.putfield 13, 3) := qdL_sign_0_13.2.2.2.2.2.2.1
theorem dL_sign_11 : decode cL_sign 11 = .ok (.goto 7, 3) := qdL_sign_0_13.2.2.2.2.2.2.2.1
theorem dL_sign_14 : decode cL_sign 14 = .ok (.astore 4, 2) := qdL_sign_0_13.2.2.2.2.2.2.2.2.1
theorem dL_sign_16 : decode cL_sign 16 = .ok (.iconst 1, 1) := qdL_sign_0_13.2.2.2.2.2.2.2.2.2.1
theorem dL_sign_17 : decode cL_sign 17 = .ok (.ireturn, 1) := qdL_sign_0_13.2.2.2.2.2.2.2.2.2.2.1
theorem dL_sign_18 : decode cL_sign 18 = .ok (.iconst 0, 1) := qdL_sign_0_13.2.2.2.2.2.2.2.2.2.2.2.1
theorem dL_sign_19 : decode cL_sign 19 = .ok (.ireturn, 1) := qdL_sign_0_13.2.2.2.2.2.2.2.2.2.2.2.2.1
theorem ggL_square_X7_square : GoodIn wsL_square wsX7_square := fun w h => ⟨List.mem_cons_of_mem _ (List.mem_append_right _ h), zq_X7_square w h⟩
set_option maxRecDepth 20000 in
theorem gL_square_X7_square : GoodIn wsL_square (wsV RL 93 RX7 yX7_square wsX7_square) := goodIn_app (goodIn_r _ [2, 3, 4, 5] rfl rfl) ggL_square_X7_square
theorem qdL_square_0_13 : dcAll cL_square [(0, .aload_n 3, 1), (1, .aload_n 0, 1), (2, .iload_n 1, 1), (3, .iload_n 2, 1), (4, .invokevirtual 93, 3), (7, .i2l, 1), (8, .putfield 13, 3), (11, .goto 7, 3), (14, .astore 4, 2), (16, .iconst 1, 1), (17, .ireturn, 1), (18, .iconst 0, 1), (19, .ireturn, 1)] := dcAll_of (by decide +kernel)
theorem dL_square_0 : decode cL_square 0 = .ok (.aload_n 3, 1) := qdL_square_0_13.1
theorem dL_square_1 : decode cL_square 1 = .ok (.aload_n 0, 1) := qdL_square_0_13.2.1
theorem dL_square_2 : decode cL_square 2 = .ok (.iload_n 1, 1) := qdL_square_0_13.2.2.1
theorem dL_square_3 : decode cL_square 3 = .ok (.iload_n 2, 1) := qdL_square_0_13.2.2.2.1
theorem dL_square_4 : decode cL_square 4 = .ok (.invokevirtual 93, 3) := qdL_square_0_13.2.2.2.2.1
theorem dL_square_7 : decode cL_square 7 = .ok (.i2l, 1) := qdL_square_0_13.2.2.2.2.2.1
theorem dL_square_8 : decode cL_square 8 = .ok (.putfield 13, 3) := qdL_square_0_13.2.2.2.2.2.2.1
theorem dL_square_11 : decode cL_square 11 = .ok (.goto 7, 3) := qdL_square_0_13.2.2.2.2.2.2.2.1
theorem dL_square_14 : decode cL_square 14 = .ok (.astore 4, 2) := qdL_square_0_13.2.2.2.2.2.2.2.2.1
theorem dL_square_16 : decode cL_square 16 = .ok (.iconst 1, 1) := qdL_square_0_13.2.2.2.2.2.2.2.2.2.1
theorem dL_square_17 : decode cL_square 17 = .ok (.ireturn, 1) := qdL_square_0_13.2.2.2.2.2.2.2.2.2.2.1
theorem dL_square_18 : decode cL_square 18 = .ok (.iconst 0, 1) := qdL_square_0_13.2.2.2.2.2.2.2.2.2.2.2.1
theorem dL_square_19 : decode cL_square 19 = .ok (.ireturn, 1) := qdL_square_0_13.2.2.2.2.2.2.2.2.2.2.2.2.1
theorem ggL_squareless_X7_squareless : GoodIn wsL_squareless wsX7_squareless := fun w h => ⟨List.mem_cons_of_mem _ (List.mem_append_right _ h), zq_X7_squareless w h⟩
set_option maxRecDepth 20000 in
theorem gL_squareless_X7_squareless : GoodIn wsL_squareless (wsV RL 96 RX7 yX7_squareless wsX7_squareless) := goodIn_app (goodIn_r _ [2, 3, 4, 5] rfl rfl) ggL_squareless_X7_squareless
theorem qdL_squareless_0_13 : dcAll cL_squareless [(0, .aload_n 3, 1), (1, .aload_n 0, 1), (2, .iload_n 1, 1), (3, .iload_n 2, 1), (4, .invokevirtual 96, 3), (7, .i2l, 1), (8, .putfield 13, 3), (11, .goto 7, 3), (14, .astore 4, 2), (16, .iconst 1, 1), (17, .ireturn, 1), (18, .iconst 0, 1), (19, .ireturn, 1)] := dcAll_of (by decide +kernel)
theorem dL_squareless_0 : decode cL_squareless 0 = .ok (.aload_n 3, 1) := qdL_squareless_0_13.1
theorem dL_squareless_1 : decode cL_squareless 1 = .ok (.aload_n 0, 1) := qdL_squareless_0_13.2.1
theorem dL_squareless_2 : decode cL_squareless 2 = .ok (.iload_n 1, 1) := qdL_squareless_0_13.2.2.1
theorem dL_squareless_3 : decode cL_squareless 3 = .ok (.iload_n 2, 1) := qdL_squareless_0_13.2.2.2.1
theorem dL_squareless_4 : decode cL_squareless 4 = .ok (.invokevirtual 96, 3) := qdL_squareless_0_13.2.2.2.2.1
theorem dL_squareless_7 : decode cL_squareless 7 = .ok (.i2l, 1) := qdL_squareless_0_13.2.2.2.2.2.1
theorem dL_squareless_8 : decode cL_squareless 8 = .ok (.putfield 13, 3) := qdL_squareless_0_13.2.2.2.2.2.2.1
theorem dL_squareless_11 : decode cL_squareless 11 = .ok (.goto 7, 3) := qdL_squareless_0_13.2.2.2.2.2.2.2.1
theorem dL_squareless_14 : decode cL_squareless 14 = .ok (.astore 4, 2) := qdL_squareless_0_13.2.2.2.2.2.2.2.2.1
theorem dL_squareless_16 : decode cL_squareless 16 = .ok (.iconst 1, 1) := qdL_squareless_0_13.2.2.2.2.2.2.2.2.2.1
theorem dL_squareless_17 : decode cL_squareless 17 = .ok (.ireturn, 1) := qdL_squareless_0_13.2.2.2.2.2.2.2.2.2.2.1
theorem dL_squareless_18 : decode cL_squareless 18 = .ok (.iconst 0, 1) := qdL_squareless_0_13.2.2.2.2.2.2.2.2.2.2.2.1
theorem dL_squareless_19 : decode cL_squareless 19 = .ok (.ireturn, 1) := qdL_squareless_0_13.2.2.2.2.2.2.2.2.2.2.2.2.1
theorem ggL_apart_X7_apart : GoodIn wsL_apart wsX7_apart := fun w h => ⟨List.mem_cons_of_mem _ (List.mem_append_right _ h), zq_X7_apart w h⟩
set_option maxRecDepth 20000 in
theorem gL_apart_X7_apart : GoodIn wsL_apart (wsV RL 99 RX7 yX7_apart wsX7_apart) := goodIn_app (goodIn_r _ [2, 3, 4, 5] rfl rfl) ggL_apart_X7_apart
theorem qdL_apart_0_13 : dcAll cL_apart [(0, .aload_n 3, 1), (1, .aload_n 0, 1), (2, .iload_n 1, 1), (3, .iload_n 2, 1), (4, .invokevirtual 99, 3), (7, .i2l, 1), (8, .putfield 13, 3), (11, .goto 7, 3), (14, .astore 4, 2), (16, .iconst 1, 1), (17, .ireturn, 1), (18, .iconst 0, 1), (19, .ireturn, 1)] := dcAll_of (by decide +kernel)
theorem dL_apart_0 : decode cL_apart 0 = .ok (.aload_n 3, 1) := qdL_apart_0_13.1
theorem dL_apart_1 : decode cL_apart 1 = .ok (.aload_n 0, 1) := qdL_apart_0_13.2.1
theorem dL_apart_2 : decode cL_apart 2 = .ok (.iload_n 1, 1) := qdL_apart_0_13.2.2.1
theorem dL_apart_3 : decode cL_apart 3 = .ok (.iload_n 2, 1) := qdL_apart_0_13.2.2.2.1
theorem dL_apart_4 : decode cL_apart 4 = .ok (.invokevirtual 99, 3) := qdL_apart_0_13.2.2.2.2.1
theorem dL_apart_7 : decode cL_apart 7 = .ok (.i2l, 1) := qdL_apart_0_13.2.2.2.2.2.1
theorem dL_apart_8 : decode cL_apart 8 = .ok (.putfield 13, 3) := qdL_apart_0_13.2.2.2.2.2.2.1
theorem dL_apart_11 : decode cL_apart 11 = .ok (.goto 7, 3) := qdL_apart_0_13.2.2.2.2.2.2.2.1
theorem dL_apart_14 : decode cL_apart 14 = .ok (.astore 4, 2) := qdL_apart_0_13.2.2.2.2.2.2.2.2.1
theorem dL_apart_16 : decode cL_apart 16 = .ok (.iconst 1, 1) := qdL_apart_0_13.2.2.2.2.2.2.2.2.2.1
theorem dL_apart_17 : decode cL_apart 17 = .ok (.ireturn, 1) := qdL_apart_0_13.2.2.2.2.2.2.2.2.2.2.1
theorem dL_apart_18 : decode cL_apart 18 = .ok (.iconst 0, 1) := qdL_apart_0_13.2.2.2.2.2.2.2.2.2.2.2.1
theorem dL_apart_19 : decode cL_apart 19 = .ok (.ireturn, 1) := qdL_apart_0_13.2.2.2.2.2.2.2.2.2.2.2.2.1
theorem ggL_shared_X7_shared : GoodIn wsL_shared wsX7_shared := fun w h => ⟨List.mem_cons_of_mem _ (List.mem_append_right _ h), zq_X7_shared w h⟩
set_option maxRecDepth 20000 in
theorem gL_shared_X7_shared : GoodIn wsL_shared (wsV RL 102 RX7 yX7_shared wsX7_shared) := goodIn_app (goodIn_r _ [2, 3, 4, 5] rfl rfl) ggL_shared_X7_shared
theorem qdL_shared_0_14 : dcAll cL_shared [(0, .aload 4, 2), (2, .aload_n 0, 1), (3, .iload_n 1, 1), (4, .iload_n 2, 1), (5, .iload_n 3, 1), (6, .invokevirtual 102, 3), (9, .i2l, 1), (10, .putfield 13, 3), (13, .goto 7, 3), (16, .astore 5, 2), (18, .iconst 1, 1), (19, .ireturn, 1), (20, .iconst 0, 1), (21, .ireturn, 1)] := dcAll_of (by decide +kernel)
theorem dL_shared_0 : decode cL_shared 0 = .ok (.aload 4, 2) := qdL_shared_0_14.1
theorem dL_shared_2 : decode cL_shared 2 = .ok (.aload_n 0, 1) := qdL_shared_0_14.2.1
theorem dL_shared_3 : decode cL_shared 3 = .ok (.iload_n 1, 1) := qdL_shared_0_14.2.2.1
theorem dL_shared_4 : decode cL_shared 4 = .ok (.iload_n 2, 1) := qdL_shared_0_14.2.2.2.1
theorem dL_shared_5 : decode cL_shared 5 = .ok (.iload_n 3, 1) := qdL_shared_0_14.2.2.2.2.1
theorem dL_shared_6 : decode cL_shared 6 = .ok (.invokevirtual 102, 3) := qdL_shared_0_14.2.2.2.2.2.1
theorem dL_shared_9 : decode cL_shared 9 = .ok (.i2l, 1) := qdL_shared_0_14.2.2.2.2.2.2.1
theorem dL_shared_10 : decode cL_shared 10 = .ok (.putfield 13, 3) := qdL_shared_0_14.2.2.2.2.2.2.2.1
theorem dL_shared_13 : decode cL_shared 13 = .ok (.goto 7, 3) := qdL_shared_0_14.2.2.2.2.2.2.2.2.1
theorem dL_shared_16 : decode cL_shared 16 = .ok (.astore 5, 2) := qdL_shared_0_14.2.2.2.2.2.2.2.2.2.1
theorem dL_shared_18 : decode cL_shared 18 = .ok (.iconst 1, 1) := qdL_shared_0_14.2.2.2.2.2.2.2.2.2.2.1
theorem dL_shared_19 : decode cL_shared 19 = .ok (.ireturn, 1) := qdL_shared_0_14.2.2.2.2.2.2.2.2.2.2.2.1
theorem dL_shared_20 : decode cL_shared 20 = .ok (.iconst 0, 1) := qdL_shared_0_14.2.2.2.2.2.2.2.2.2.2.2.2.1
theorem dL_shared_21 : decode cL_shared 21 = .ok (.ireturn, 1) := qdL_shared_0_14.2.2.2.2.2.2.2.2.2.2.2.2.2.1
theorem ggL_divisor_X7_divisor : GoodIn wsL_divisor wsX7_divisor := fun w h => ⟨List.mem_cons_of_mem _ (List.mem_append_right _ h), zq_X7_divisor w h⟩
set_option maxRecDepth 20000 in
theorem gL_divisor_X7_divisor : GoodIn wsL_divisor (wsV RL 105 RX7 yX7_divisor wsX7_divisor) := goodIn_app (goodIn_r _ [2, 3, 4, 5] rfl rfl) ggL_divisor_X7_divisor
theorem qdL_divisor_0_13 : dcAll cL_divisor [(0, .aload_n 3, 1), (1, .aload_n 0, 1), (2, .iload_n 1, 1), (3, .iload_n 2, 1), (4, .invokevirtual 105, 3), (7, .i2l, 1), (8, .putfield 13, 3), (11, .goto 7, 3), (14, .astore 4, 2), (16, .iconst 1, 1), (17, .ireturn, 1), (18, .iconst 0, 1), (19, .ireturn, 1)] := dcAll_of (by decide +kernel)
theorem dL_divisor_0 : decode cL_divisor 0 = .ok (.aload_n 3, 1) := qdL_divisor_0_13.1
theorem dL_divisor_1 : decode cL_divisor 1 = .ok (.aload_n 0, 1) := qdL_divisor_0_13.2.1
theorem dL_divisor_2 : decode cL_divisor 2 = .ok (.iload_n 1, 1) := qdL_divisor_0_13.2.2.1
theorem dL_divisor_3 : decode cL_divisor 3 = .ok (.iload_n 2, 1) := qdL_divisor_0_13.2.2.2.1
theorem dL_divisor_4 : decode cL_divisor 4 = .ok (.invokevirtual 105, 3) := qdL_divisor_0_13.2.2.2.2.1
theorem dL_divisor_7 : decode cL_divisor 7 = .ok (.i2l, 1) := qdL_divisor_0_13.2.2.2.2.2.1
theorem dL_divisor_8 : decode cL_divisor 8 = .ok (.putfield 13, 3) := qdL_divisor_0_13.2.2.2.2.2.2.1
theorem dL_divisor_11 : decode cL_divisor 11 = .ok (.goto 7, 3) := qdL_divisor_0_13.2.2.2.2.2.2.2.1
theorem dL_divisor_14 : decode cL_divisor 14 = .ok (.astore 4, 2) := qdL_divisor_0_13.2.2.2.2.2.2.2.2.1
theorem dL_divisor_16 : decode cL_divisor 16 = .ok (.iconst 1, 1) := qdL_divisor_0_13.2.2.2.2.2.2.2.2.2.1
theorem dL_divisor_17 : decode cL_divisor 17 = .ok (.ireturn, 1) := qdL_divisor_0_13.2.2.2.2.2.2.2.2.2.2.1
theorem dL_divisor_18 : decode cL_divisor 18 = .ok (.iconst 0, 1) := qdL_divisor_0_13.2.2.2.2.2.2.2.2.2.2.2.1
theorem dL_divisor_19 : decode cL_divisor 19 = .ok (.ireturn, 1) := qdL_divisor_0_13.2.2.2.2.2.2.2.2.2.2.2.2.1
theorem ggL_powers_X7_powers : GoodIn wsL_powers wsX7_powers := fun w h => ⟨List.mem_cons_of_mem _ (List.mem_append_right _ h), zq_X7_powers w h⟩
set_option maxRecDepth 20000 in
theorem gL_powers_X7_powers : GoodIn wsL_powers (wsV RL 108 RX7 yX7_powers wsX7_powers) := goodIn_app (goodIn_r _ [2, 3, 4, 5] rfl rfl) ggL_powers_X7_powers
theorem qdL_powers_0_11 : dcAll cL_powers [(0, .aload_n 2, 1), (1, .aload_n 0, 1), (2, .iload_n 1, 1), (3, .invokevirtual 108, 3), (6, .putfield 53, 3), (9, .goto 6, 3), (12, .astore_n 3, 1), (13, .iconst 1, 1), (14, .ireturn, 1), (15, .iconst 0, 1), (16, .ireturn, 1)] := dcAll_of (by decide +kernel)
theorem dL_powers_0 : decode cL_powers 0 = .ok (.aload_n 2, 1) := qdL_powers_0_11.1
theorem dL_powers_1 : decode cL_powers 1 = .ok (.aload_n 0, 1) := qdL_powers_0_11.2.1
theorem dL_powers_2 : decode cL_powers 2 = .ok (.iload_n 1, 1) := qdL_powers_0_11.2.2.1
theorem dL_powers_3 : decode cL_powers 3 = .ok (.invokevirtual 108, 3) := qdL_powers_0_11.2.2.2.1
theorem dL_powers_6 : decode cL_powers 6 = .ok (.putfield 53, 3) := qdL_powers_0_11.2.2.2.2.1
theorem dL_powers_9 : decode cL_powers 9 = .ok (.goto 6, 3) := qdL_powers_0_11.2.2.2.2.2.1
theorem dL_powers_12 : decode cL_powers 12 = .ok (.astore_n 3, 1) := qdL_powers_0_11.2.2.2.2.2.2.1
theorem dL_powers_13 : decode cL_powers 13 = .ok (.iconst 1, 1) := qdL_powers_0_11.2.2.2.2.2.2.2.1
theorem dL_powers_14 : decode cL_powers 14 = .ok (.ireturn, 1) := qdL_powers_0_11.2.2.2.2.2.2.2.2.1
theorem dL_powers_15 : decode cL_powers 15 = .ok (.iconst 0, 1) := qdL_powers_0_11.2.2.2.2.2.2.2.2.2.1
theorem dL_powers_16 : decode cL_powers 16 = .ok (.ireturn, 1) := qdL_powers_0_11.2.2.2.2.2.2.2.2.2.2.1
theorem ggL_house_X7_house : GoodIn wsL_house wsX7_house := fun w h => ⟨List.mem_cons_of_mem _ (List.mem_append_right _ h), zq_X7_house w h⟩
set_option maxRecDepth 20000 in
theorem gL_house_X7_house : GoodIn wsL_house (wsV RL 112 RX7 yX7_house wsX7_house) := goodIn_app (goodIn_r _ [2, 3, 4, 5] rfl rfl) ggL_house_X7_house
theorem qdL_house_0_12 : dcAll cL_house [(0, .aload_n 2, 1), (1, .aload_n 0, 1), (2, .iload_n 1, 1), (3, .invokevirtual 112, 3), (6, .i2l, 1), (7, .putfield 13, 3), (10, .goto 6, 3), (13, .astore_n 3, 1), (14, .iconst 1, 1), (15, .ireturn, 1), (16, .iconst 0, 1), (17, .ireturn, 1)] := dcAll_of (by decide +kernel)
theorem dL_house_0 : decode cL_house 0 = .ok (.aload_n 2, 1) := qdL_house_0_12.1
theorem dL_house_1 : decode cL_house 1 = .ok (.aload_n 0, 1) := qdL_house_0_12.2.1
theorem dL_house_2 : decode cL_house 2 = .ok (.iload_n 1, 1) := qdL_house_0_12.2.2.1
theorem dL_house_3 : decode cL_house 3 = .ok (.invokevirtual 112, 3) := qdL_house_0_12.2.2.2.1
theorem dL_house_6 : decode cL_house 6 = .ok (.i2l, 1) := qdL_house_0_12.2.2.2.2.1
theorem dL_house_7 : decode cL_house 7 = .ok (.putfield 13, 3) := qdL_house_0_12.2.2.2.2.2.1
theorem dL_house_10 : decode cL_house 10 = .ok (.goto 6, 3) := qdL_house_0_12.2.2.2.2.2.2.1
theorem dL_house_13 : decode cL_house 13 = .ok (.astore_n 3, 1) := qdL_house_0_12.2.2.2.2.2.2.2.1
theorem dL_house_14 : decode cL_house 14 = .ok (.iconst 1, 1) := qdL_house_0_12.2.2.2.2.2.2.2.2.1
theorem dL_house_15 : decode cL_house 15 = .ok (.ireturn, 1) := qdL_house_0_12.2.2.2.2.2.2.2.2.2.1
theorem dL_house_16 : decode cL_house 16 = .ok (.iconst 0, 1) := qdL_house_0_12.2.2.2.2.2.2.2.2.2.2.1
theorem dL_house_17 : decode cL_house 17 = .ok (.ireturn, 1) := qdL_house_0_12.2.2.2.2.2.2.2.2.2.2.2.1
theorem qdL_law_0_24 : dcAll cL_law [(0, .new 8, 3), (3, .dup, 1), (4, .invokespecial 116, 3), (7, .astore_n 1, 1), (8, .new 117, 3), (11, .dup, 1), (12, .invokespecial 119, 3), (15, .astore_n 2, 1), (16, .new 14, 3), (19, .dup, 1), (20, .invokespecial 120, 3), (23, .astore_n 3, 1), (24, .iconst 0, 1), (25, .istore 4, 2), (27, .iload 4, 2), (29, .aload_n 0, 1), (30, .arraylength, 1), (31, .iconst 5, 1), (32, .isub, 1), (33, .if_icmp .gt 1461, 3), (36, .aload_n 0, 1), (37, .iload 4, 2), (39, .iaload, 1), (40, .bipush 31, 2)] := dcAll_of (by decide +kernel)
theorem dL_law_0 : decode cL_law 0 = .ok (.new 8, 3) := qdL_law_0_24.1
theorem dL_law_3 : decode cL_law 3 = .ok (.dup, 1) := qdL_law_0_24.2.1
theorem dL_law_4 : decode cL_law 4 = .ok (.invokespecial 116, 3) := qdL_law_0_24.2.2.1
theorem dL_law_7 : decode cL_law 7 = .ok (.astore_n 1, 1) := qdL_law_0_24.2.2.2.1
theorem dL_law_8 : decode cL_law 8 = .ok (.new 117, 3) := qdL_law_0_24.2.2.2.2.1
theorem dL_law_11 : decode cL_law 11 = .ok (.dup, 1) := qdL_law_0_24.2.2.2.2.2.1
theorem dL_law_12 : decode cL_law 12 = .ok (.invokespecial 119, 3) := qdL_law_0_24.2.2.2.2.2.2.1
theorem dL_law_15 : decode cL_law 15 = .ok (.astore_n 2, 1) := qdL_law_0_24.2.2.2.2.2.2.2.1
theorem dL_law_16 : decode cL_law 16 = .ok (.new 14, 3) := qdL_law_0_24.2.2.2.2.2.2.2.2.1
theorem dL_law_19 : decode cL_law 19 = .ok (.dup, 1) := qdL_law_0_24.2.2.2.2.2.2.2.2.2.1
theorem dL_law_20 : decode cL_law 20 = .ok (.invokespecial 120, 3) := qdL_law_0_24.2.2.2.2.2.2.2.2.2.2.1
theorem dL_law_23 : decode cL_law 23 = .ok (.astore_n 3, 1) := qdL_law_0_24.2.2.2.2.2.2.2.2.2.2.2.1
theorem dL_law_24 : decode cL_law 24 = .ok (.iconst 0, 1) := qdL_law_0_24.2.2.2.2.2.2.2.2.2.2.2.2.1
theorem dL_law_25 : decode cL_law 25 = .ok (.istore 4, 2) := qdL_law_0_24.2.2.2.2.2.2.2.2.2.2.2.2.2.1
theorem dL_law_27 : decode cL_law 27 = .ok (.iload 4, 2) := qdL_law_0_24.2.2.2.2.2.2.2.2.2.2.2.2.2.2.1
theorem dL_law_29 : decode cL_law 29 = .ok (.aload_n 0, 1) := qdL_law_0_24.2.2.2.2.2.2.2.2.2.2.2.2.2.2.2.1
theorem dL_law_30 : decode cL_law 30 = .ok (.arraylength, 1) := qdL_law_0_24.2.2.2.2.2.2.2.2.2.2.2.2.2.2.2.2.1
theorem dL_law_31 : decode cL_law 31 = .ok (.iconst 5, 1) := qdL_law_0_24.2.2.2.2.2.2.2.2.2.2.2.2.2.2.2.2.2.1
theorem dL_law_32 : decode cL_law 32 = .ok (.isub, 1) := qdL_law_0_24.2.2.2.2.2.2.2.2.2.2.2.2.2.2.2.2.2.2.1
theorem dL_law_33 : decode cL_law 33 = .ok (.if_icmp .gt 1461, 3) := qdL_law_0_24.2.2.2.2.2.2.2.2.2.2.2.2.2.2.2.2.2.2.2.1
theorem dL_law_36 : decode cL_law 36 = .ok (.aload_n 0, 1) := qdL_law_0_24.2.2.2.2.2.2.2.2.2.2.2.2.2.2.2.2.2.2.2.2.1
theorem dL_law_37 : decode cL_law 37 = .ok (.iload 4, 2) := qdL_law_0_24.2.2.2.2.2.2.2.2.2.2.2.2.2.2.2.2.2.2.2.2.2.1
theorem dL_law_39 : decode cL_law 39 = .ok (.iaload, 1) := qdL_law_0_24.2.2.2.2.2.2.2.2.2.2.2.2.2.2.2.2.2.2.2.2.2.2.1
theorem dL_law_40 : decode cL_law 40 = .ok (.bipush 31, 2) := qdL_law_0_24.2.2.2.2.2.2.2.2.2.2.2.2.2.2.2.2.2.2.2.2.2.2.2.1
theorem qdL_law_42_24 : dcAll cL_law [(42, .iand, 1), (43, .tableswitch 1445 0 29 #[133, 173, 225, 289, 341, 381, 421, 485, 537, 589, 629, 697, 737, 777, 817, 881, 933, 973, 1013, 1053, 1093, 1133, 1173, 1242, 1310, 1350, 1378, 1406, 1419, 1432], 133), (176, .aload_n 1, 1), (177, .aload_n 0, 1), (178, .iload 4, 2), (180, .iconst 1, 1), (181, .iadd, 1), (182, .iaload, 1), (183, .aload_n 0, 1), (184, .iload 4, 2), (186, .iconst 2, 1), (187, .iadd, 1), (188, .iaload, 1), (189, .aload_n 3, 1), (190, .invokestatic 121, 3), (193, .istore 5, 2), (195, .aload_n 2, 1), (196, .aload_n 0, 1), (197, .iload 4, 2), (199, .iconst 1, 1), (200, .iadd, 1), (201, .iaload, 1), (202, .aload_n 0, 1), (203, .iload 4, 2)] := dcAll_of (by decide +kernel)
theorem dL_law_42 : decode cL_law 42 = .ok (.iand, 1) := qdL_law_42_24.1
theorem dL_law_43 : decode cL_law 43 = .ok (.tableswitch 1445 0 29 #[133, 173, 225, 289, 341, 381, 421, 485, 537, 589, 629, 697, 737, 777, 817, 881, 933, 973, 1013, 1053, 1093, 1133, 1173, 1242, 1310, 1350, 1378, 1406, 1419, 1432], 133) := qdL_law_42_24.2.1
theorem dL_law_176 : decode cL_law 176 = .ok (.aload_n 1, 1) := qdL_law_42_24.2.2.1
theorem dL_law_177 : decode cL_law 177 = .ok (.aload_n 0, 1) := qdL_law_42_24.2.2.2.1
theorem dL_law_178 : decode cL_law 178 = .ok (.iload 4, 2) := qdL_law_42_24.2.2.2.2.1
theorem dL_law_180 : decode cL_law 180 = .ok (.iconst 1, 1) := qdL_law_42_24.2.2.2.2.2.1
theorem dL_law_181 : decode cL_law 181 = .ok (.iadd, 1) := qdL_law_42_24.2.2.2.2.2.2.1
theorem dL_law_182 : decode cL_law 182 = .ok (.iaload, 1) := qdL_law_42_24.2.2.2.2.2.2.2.1
theorem dL_law_183 : decode cL_law 183 = .ok (.aload_n 0, 1) := qdL_law_42_24.2.2.2.2.2.2.2.2.1
theorem dL_law_184 : decode cL_law 184 = .ok (.iload 4, 2) := qdL_law_42_24.2.2.2.2.2.2.2.2.2.1
theorem dL_law_186 : decode cL_law 186 = .ok (.iconst 2, 1) := qdL_law_42_24.2.2.2.2.2.2.2.2.2.2.1
theorem dL_law_187 : decode cL_law 187 = .ok (.iadd, 1) := qdL_law_42_24.2.2.2.2.2.2.2.2.2.2.2.1
theorem dL_law_188 : decode cL_law 188 = .ok (.iaload, 1) := qdL_law_42_24.2.2.2.2.2.2.2.2.2.2.2.2.1
theorem dL_law_189 : decode cL_law 189 = .ok (.aload_n 3, 1) := qdL_law_42_24.2.2.2.2.2.2.2.2.2.2.2.2.2.1
theorem dL_law_190 : decode cL_law 190 = .ok (.invokestatic 121, 3) := qdL_law_42_24.2.2.2.2.2.2.2.2.2.2.2.2.2.2.1
theorem dL_law_193 : decode cL_law 193 = .ok (.istore 5, 2) := qdL_law_42_24.2.2.2.2.2.2.2.2.2.2.2.2.2.2.2.1
theorem dL_law_195 : decode cL_law 195 = .ok (.aload_n 2, 1) := qdL_law_42_24.2.2.2.2.2.2.2.2.2.2.2.2.2.2.2.2.1
theorem dL_law_196 : decode cL_law 196 = .ok (.aload_n 0, 1) := qdL_law_42_24.2.2.2.2.2.2.2.2.2.2.2.2.2.2.2.2.2.1
theorem dL_law_197 : decode cL_law 197 = .ok (.iload 4, 2) := qdL_law_42_24.2.2.2.2.2.2.2.2.2.2.2.2.2.2.2.2.2.2.1
theorem dL_law_199 : decode cL_law 199 = .ok (.iconst 1, 1) := qdL_law_42_24.2.2.2.2.2.2.2.2.2.2.2.2.2.2.2.2.2.2.2.1
theorem dL_law_200 : decode cL_law 200 = .ok (.iadd, 1) := qdL_law_42_24.2.2.2.2.2.2.2.2.2.2.2.2.2.2.2.2.2.2.2.2.1
theorem dL_law_201 : decode cL_law 201 = .ok (.iaload, 1) := qdL_law_42_24.2.2.2.2.2.2.2.2.2.2.2.2.2.2.2.2.2.2.2.2.2.1
theorem dL_law_202 : decode cL_law 202 = .ok (.aload_n 0, 1) := qdL_law_42_24.2.2.2.2.2.2.2.2.2.2.2.2.2.2.2.2.2.2.2.2.2.2.1
theorem dL_law_203 : decode cL_law 203 = .ok (.iload 4, 2) := qdL_law_42_24.2.2.2.2.2.2.2.2.2.2.2.2.2.2.2.2.2.2.2.2.2.2.2.1
theorem qdL_law_205_24 : dcAll cL_law [(205, .iconst 2, 1), (206, .iadd, 1), (207, .iaload, 1), (208, .invokevirtual 126, 3), (211, .istore 6, 2), (213, .goto 1275, 3), (216, .aload_n 1, 1), (217, .aload_n 0, 1), (218, .iload 4, 2), (220, .iconst 1, 1), (221, .iadd, 1), (222, .iaload, 1), (223, .aload_n 0, 1), (224, .iload 4, 2), (226, .iconst 2, 1), (227, .iadd, 1), (228, .iaload, 1), (229, .aload_n 0, 1), (230, .iload 4, 2), (232, .iconst 3, 1), (233, .iadd, 1), (234, .iaload, 1), (235, .aload_n 3, 1), (236, .invokestatic 127, 3)] := dcAll_of (by decide +kernel)
theorem dL_law_205 : decode cL_law 205 = .ok (.iconst 2, 1) := qdL_law_205_24.1
theorem dL_law_206 : decode cL_law 206 = .ok (.iadd, 1) := qdL_law_205_24.2.1
theorem dL_law_207 : decode cL_law 207 = .ok (.iaload, 1) := qdL_law_205_24.2.2.1
theorem dL_law_208 : decode cL_law 208 = .ok (.invokevirtual 126, 3) := qdL_law_205_24.2.2.2.1
theorem dL_law_211 : decode cL_law 211 = .ok (.istore 6, 2) := qdL_law_205_24.2.2.2.2.1
theorem dL_law_213 : decode cL_law 213 = .ok (.goto 1275, 3) := qdL_law_205_24.2.2.2.2.2.1
theorem dL_law_216 : decode cL_law 216 = .ok (.aload_n 1, 1) := qdL_law_205_24.2.2.2.2.2.2.1
theorem dL_law_217 : decode cL_law 217 = .ok (.aload_n 0, 1) := qdL_law_205_24.2.2.2.2.2.2.2.1
theorem dL_law_218 : decode cL_law 218 = .ok (.iload 4, 2) := qdL_law_205_24.2.2.2.2.2.2.2.2.1
theorem dL_law_220 : decode cL_law 220 = .ok (.iconst 1, 1) := qdL_law_205_24.2.2.2.2.2.2.2.2.2.1
theorem dL_law_221 : decode cL_law 221 = .ok (.iadd, 1) := qdL_law_205_24.2.2.2.2.2.2.2.2.2.2.1
theorem dL_law_222 : decode cL_law 222 = .ok (.iaload, 1) := qdL_law_205_24.2.2.2.2.2.2.2.2.2.2.2.1
theorem dL_law_223 : decode cL_law 223 = .ok (.aload_n 0, 1) := qdL_law_205_24.2.2.2.2.2.2.2.2.2.2.2.2.1
theorem dL_law_224 : decode cL_law 224 = .ok (.iload 4, 2) := qdL_law_205_24.2.2.2.2.2.2.2.2.2.2.2.2.2.1
theorem dL_law_226 : decode cL_law 226 = .ok (.iconst 2, 1) := qdL_law_205_24.2.2.2.2.2.2.2.2.2.2.2.2.2.2.1
theorem dL_law_227 : decode cL_law 227 = .ok (.iadd, 1) := qdL_law_205_24.2.2.2.2.2.2.2.2.2.2.2.2.2.2.2.1
theorem dL_law_228 : decode cL_law 228 = .ok (.iaload, 1) := qdL_law_205_24.2.2.2.2.2.2.2.2.2.2.2.2.2.2.2.2.1
theorem dL_law_229 : decode cL_law 229 = .ok (.aload_n 0, 1) := qdL_law_205_24.2.2.2.2.2.2.2.2.2.2.2.2.2.2.2.2.2.1
theorem dL_law_230 : decode cL_law 230 = .ok (.iload 4, 2) := qdL_law_205_24.2.2.2.2.2.2.2.2.2.2.2.2.2.2.2.2.2.2.1
theorem dL_law_232 : decode cL_law 232 = .ok (.iconst 3, 1) := qdL_law_205_24.2.2.2.2.2.2.2.2.2.2.2.2.2.2.2.2.2.2.2.1
theorem dL_law_233 : decode cL_law 233 = .ok (.iadd, 1) := qdL_law_205_24.2.2.2.2.2.2.2.2.2.2.2.2.2.2.2.2.2.2.2.2.1
theorem dL_law_234 : decode cL_law 234 = .ok (.iaload, 1) := qdL_law_205_24.2.2.2.2.2.2.2.2.2.2.2.2.2.2.2.2.2.2.2.2.2.1
theorem dL_law_235 : decode cL_law 235 = .ok (.aload_n 3, 1) := qdL_law_205_24.2.2.2.2.2.2.2.2.2.2.2.2.2.2.2.2.2.2.2.2.2.2.1
theorem dL_law_236 : decode cL_law 236 = .ok (.invokestatic 127, 3) := qdL_law_205_24.2.2.2.2.2.2.2.2.2.2.2.2.2.2.2.2.2.2.2.2.2.2.2.1
theorem qdL_law_239_24 : dcAll cL_law [(239, .istore 5, 2), (241, .aload_n 2, 1), (242, .aload_n 0, 1), (243, .iload 4, 2), (245, .iconst 1, 1), (246, .iadd, 1), (247, .iaload, 1), (248, .aload_n 0, 1), (249, .iload 4, 2), (251, .iconst 2, 1), (252, .iadd, 1), (253, .iaload, 1), (254, .aload_n 0, 1), (255, .iload 4, 2), (257, .iconst 3, 1), (258, .iadd, 1), (259, .iaload, 1), (260, .invokevirtual 130, 3), (263, .istore 6, 2), (265, .goto 1223, 3), (268, .aload_n 1, 1), (269, .aload_n 0, 1), (270, .iload 4, 2), (272, .iconst 1, 1)] := dcAll_of (by decide +kernel)
theorem dL_law_239 : decode cL_law 239 = .ok (.istore 5, 2) := qdL_law_239_24.1
theorem dL_law_241 : decode cL_law 241 = .ok (.aload_n 2, 1) := qdL_law_239_24.2.1
theorem dL_law_242 : decode cL_law 242 = .ok (.aload_n 0, 1) := qdL_law_239_24.2.2.1
theorem dL_law_243 : decode cL_law 243 = .ok (.iload 4, 2) := qdL_law_239_24.2.2.2.1
theorem dL_law_245 : decode cL_law 245 = .ok (.iconst 1, 1) := qdL_law_239_24.2.2.2.2.1
theorem dL_law_246 : decode cL_law 246 = .ok (.iadd, 1) := qdL_law_239_24.2.2.2.2.2.1
theorem dL_law_247 : decode cL_law 247 = .ok (.iaload, 1) := qdL_law_239_24.2.2.2.2.2.2.1
theorem dL_law_248 : decode cL_law 248 = .ok (.aload_n 0, 1) := qdL_law_239_24.2.2.2.2.2.2.2.1
theorem dL_law_249 : decode cL_law 249 = .ok (.iload 4, 2) := qdL_law_239_24.2.2.2.2.2.2.2.2.1
theorem dL_law_251 : decode cL_law 251 = .ok (.iconst 2, 1) := qdL_law_239_24.2.2.2.2.2.2.2.2.2.1
theorem dL_law_252 : decode cL_law 252 = .ok (.iadd, 1) := qdL_law_239_24.2.2.2.2.2.2.2.2.2.2.1
theorem dL_law_253 : decode cL_law 253 = .ok (.iaload, 1) := qdL_law_239_24.2.2.2.2.2.2.2.2.2.2.2.1
theorem dL_law_254 : decode cL_law 254 = .ok (.aload_n 0, 1) := qdL_law_239_24.2.2.2.2.2.2.2.2.2.2.2.2.1
theorem dL_law_255 : decode cL_law 255 = .ok (.iload 4, 2) := qdL_law_239_24.2.2.2.2.2.2.2.2.2.2.2.2.2.1
theorem dL_law_257 : decode cL_law 257 = .ok (.iconst 3, 1) := qdL_law_239_24.2.2.2.2.2.2.2.2.2.2.2.2.2.2.1
theorem dL_law_258 : decode cL_law 258 = .ok (.iadd, 1) := qdL_law_239_24.2.2.2.2.2.2.2.2.2.2.2.2.2.2.2.1
theorem dL_law_259 : decode cL_law 259 = .ok (.iaload, 1) := qdL_law_239_24.2.2.2.2.2.2.2.2.2.2.2.2.2.2.2.2.1
theorem dL_law_260 : decode cL_law 260 = .ok (.invokevirtual 130, 3) := qdL_law_239_24.2.2.2.2.2.2.2.2.2.2.2.2.2.2.2.2.2.1
theorem dL_law_263 : decode cL_law 263 = .ok (.istore 6, 2) := qdL_law_239_24.2.2.2.2.2.2.2.2.2.2.2.2.2.2.2.2.2.2.1
theorem dL_law_265 : decode cL_law 265 = .ok (.goto 1223, 3) := qdL_law_239_24.2.2.2.2.2.2.2.2.2.2.2.2.2.2.2.2.2.2.2.1
theorem dL_law_268 : decode cL_law 268 = .ok (.aload_n 1, 1) := qdL_law_239_24.2.2.2.2.2.2.2.2.2.2.2.2.2.2.2.2.2.2.2.2.1
theorem dL_law_269 : decode cL_law 269 = .ok (.aload_n 0, 1) := qdL_law_239_24.2.2.2.2.2.2.2.2.2.2.2.2.2.2.2.2.2.2.2.2.2.1
theorem dL_law_270 : decode cL_law 270 = .ok (.iload 4, 2) := qdL_law_239_24.2.2.2.2.2.2.2.2.2.2.2.2.2.2.2.2.2.2.2.2.2.2.1
theorem dL_law_272 : decode cL_law 272 = .ok (.iconst 1, 1) := qdL_law_239_24.2.2.2.2.2.2.2.2.2.2.2.2.2.2.2.2.2.2.2.2.2.2.2.1
theorem qdL_law_273_24 : dcAll cL_law [(273, .iadd, 1), (274, .iaload, 1), (275, .aload_n 0, 1), (276, .iload 4, 2), (278, .iconst 2, 1), (279, .iadd, 1), (280, .iaload, 1), (281, .aload_n 0, 1), (282, .iload 4, 2), (284, .iconst 3, 1), (285, .iadd, 1), (286, .iaload, 1), (287, .aload_n 0, 1), (288, .iload 4, 2), (290, .iconst 4, 1), (291, .iadd, 1), (292, .iaload, 1), (293, .aload_n 3, 1), (294, .invokestatic 131, 3), (297, .istore 5, 2), (299, .aload_n 2, 1), (300, .aload_n 0, 1), (301, .iload 4, 2), (303, .iconst 1, 1)] := dcAll_of (by decide +kernel)
theorem dL_law_273 : decode cL_law 273 = .ok (.iadd, 1) := qdL_law_273_24.1
theorem dL_law_274 : decode cL_law 274 = .ok (.iaload, 1) := qdL_law_273_24.2.1
theorem dL_law_275 : decode cL_law 275 = .ok (.aload_n 0, 1) := qdL_law_273_24.2.2.1
theorem dL_law_276 : decode cL_law 276 = .ok (.iload 4, 2) := qdL_law_273_24.2.2.2.1
theorem dL_law_278 : decode cL_law 278 = .ok (.iconst 2, 1) := qdL_law_273_24.2.2.2.2.1
theorem dL_law_279 : decode cL_law 279 = .ok (.iadd, 1) := qdL_law_273_24.2.2.2.2.2.1
theorem dL_law_280 : decode cL_law 280 = .ok (.iaload, 1) := qdL_law_273_24.2.2.2.2.2.2.1
theorem dL_law_281 : decode cL_law 281 = .ok (.aload_n 0, 1) := qdL_law_273_24.2.2.2.2.2.2.2.1
theorem dL_law_282 : decode cL_law 282 = .ok (.iload 4, 2) := qdL_law_273_24.2.2.2.2.2.2.2.2.1
theorem dL_law_284 : decode cL_law 284 = .ok (.iconst 3, 1) := qdL_law_273_24.2.2.2.2.2.2.2.2.2.1
theorem dL_law_285 : decode cL_law 285 = .ok (.iadd, 1) := qdL_law_273_24.2.2.2.2.2.2.2.2.2.2.1
theorem dL_law_286 : decode cL_law 286 = .ok (.iaload, 1) := qdL_law_273_24.2.2.2.2.2.2.2.2.2.2.2.1
theorem dL_law_287 : decode cL_law 287 = .ok (.aload_n 0, 1) := qdL_law_273_24.2.2.2.2.2.2.2.2.2.2.2.2.1
theorem dL_law_288 : decode cL_law 288 = .ok (.iload 4, 2) := qdL_law_273_24.2.2.2.2.2.2.2.2.2.2.2.2.2.1
theorem dL_law_290 : decode cL_law 290 = .ok (.iconst 4, 1) := qdL_law_273_24.2.2.2.2.2.2.2.2.2.2.2.2.2.2.1
theorem dL_law_291 : decode cL_law 291 = .ok (.iadd, 1) := qdL_law_273_24.2.2.2.2.2.2.2.2.2.2.2.2.2.2.2.1
theorem dL_law_292 : decode cL_law 292 = .ok (.iaload, 1) := qdL_law_273_24.2.2.2.2.2.2.2.2.2.2.2.2.2.2.2.2.1
theorem dL_law_293 : decode cL_law 293 = .ok (.aload_n 3, 1) := qdL_law_273_24.2.2.2.2.2.2.2.2.2.2.2.2.2.2.2.2.2.1
theorem dL_law_294 : decode cL_law 294 = .ok (.invokestatic 131, 3) := qdL_law_273_24.2.2.2.2.2.2.2.2.2.2.2.2.2.2.2.2.2.2.1
theorem dL_law_297 : decode cL_law 297 = .ok (.istore 5, 2) := qdL_law_273_24.2.2.2.2.2.2.2.2.2.2.2.2.2.2.2.2.2.2.2.1
theorem dL_law_299 : decode cL_law 299 = .ok (.aload_n 2, 1) := qdL_law_273_24.2.2.2.2.2.2.2.2.2.2.2.2.2.2.2.2.2.2.2.2.1
theorem dL_law_300 : decode cL_law 300 = .ok (.aload_n 0, 1) := qdL_law_273_24.2.2.2.2.2.2.2.2.2.2.2.2.2.2.2.2.2.2.2.2.2.1
theorem dL_law_301 : decode cL_law 301 = .ok (.iload 4, 2) := qdL_law_273_24.2.2.2.2.2.2.2.2.2.2.2.2.2.2.2.2.2.2.2.2.2.2.1
theorem dL_law_303 : decode cL_law 303 = .ok (.iconst 1, 1) := qdL_law_273_24.2.2.2.2.2.2.2.2.2.2.2.2.2.2.2.2.2.2.2.2.2.2.2.1
theorem qdL_law_304_24 : dcAll cL_law [(304, .iadd, 1), (305, .iaload, 1), (306, .aload_n 0, 1), (307, .iload 4, 2), (309, .iconst 2, 1), (310, .iadd, 1), (311, .iaload, 1), (312, .aload_n 0, 1), (313, .iload 4, 2), (315, .iconst 3, 1), (316, .iadd, 1), (317, .iaload, 1), (318, .aload_n 0, 1), (319, .iload 4, 2), (321, .iconst 4, 1), (322, .iadd, 1), (323, .iaload, 1), (324, .invokevirtual 134, 3), (327, .istore 6, 2), (329, .goto 1159, 3), (332, .aload_n 1, 1), (333, .aload_n 0, 1), (334, .iload 4, 2), (336, .iconst 1, 1)] := dcAll_of (by decide +kernel)
theorem dL_law_304 : decode cL_law 304 = .ok (.iadd, 1) := qdL_law_304_24.1
theorem dL_law_305 : decode cL_law 305 = .ok (.iaload, 1) := qdL_law_304_24.2.1
theorem dL_law_306 : decode cL_law 306 = .ok (.aload_n 0, 1) := qdL_law_304_24.2.2.1
theorem dL_law_307 : decode cL_law 307 = .ok (.iload 4, 2) := qdL_law_304_24.2.2.2.1
theorem dL_law_309 : decode cL_law 309 = .ok (.iconst 2, 1) := qdL_law_304_24.2.2.2.2.1
theorem dL_law_310 : decode cL_law 310 = .ok (.iadd, 1) := qdL_law_304_24.2.2.2.2.2.1
theorem dL_law_311 : decode cL_law 311 = .ok (.iaload, 1) := qdL_law_304_24.2.2.2.2.2.2.1
theorem dL_law_312 : decode cL_law 312 = .ok (.aload_n 0, 1) := qdL_law_304_24.2.2.2.2.2.2.2.1
theorem dL_law_313 : decode cL_law 313 = .ok (.iload 4, 2) := qdL_law_304_24.2.2.2.2.2.2.2.2.1
theorem dL_law_315 : decode cL_law 315 = .ok (.iconst 3, 1) := qdL_law_304_24.2.2.2.2.2.2.2.2.2.1
theorem dL_law_316 : decode cL_law 316 = .ok (.iadd, 1) := qdL_law_304_24.2.2.2.2.2.2.2.2.2.2.1
theorem dL_law_317 : decode cL_law 317 = .ok (.iaload, 1) := qdL_law_304_24.2.2.2.2.2.2.2.2.2.2.2.1
theorem dL_law_318 : decode cL_law 318 = .ok (.aload_n 0, 1) := qdL_law_304_24.2.2.2.2.2.2.2.2.2.2.2.2.1
theorem dL_law_319 : decode cL_law 319 = .ok (.iload 4, 2) := qdL_law_304_24.2.2.2.2.2.2.2.2.2.2.2.2.2.1
theorem dL_law_321 : decode cL_law 321 = .ok (.iconst 4, 1) := qdL_law_304_24.2.2.2.2.2.2.2.2.2.2.2.2.2.2.1
theorem dL_law_322 : decode cL_law 322 = .ok (.iadd, 1) := qdL_law_304_24.2.2.2.2.2.2.2.2.2.2.2.2.2.2.2.1
theorem dL_law_323 : decode cL_law 323 = .ok (.iaload, 1) := qdL_law_304_24.2.2.2.2.2.2.2.2.2.2.2.2.2.2.2.2.1
theorem dL_law_324 : decode cL_law 324 = .ok (.invokevirtual 134, 3) := qdL_law_304_24.2.2.2.2.2.2.2.2.2.2.2.2.2.2.2.2.2.1
theorem dL_law_327 : decode cL_law 327 = .ok (.istore 6, 2) := qdL_law_304_24.2.2.2.2.2.2.2.2.2.2.2.2.2.2.2.2.2.2.1
theorem dL_law_329 : decode cL_law 329 = .ok (.goto 1159, 3) := qdL_law_304_24.2.2.2.2.2.2.2.2.2.2.2.2.2.2.2.2.2.2.2.1
theorem dL_law_332 : decode cL_law 332 = .ok (.aload_n 1, 1) := qdL_law_304_24.2.2.2.2.2.2.2.2.2.2.2.2.2.2.2.2.2.2.2.2.1
theorem dL_law_333 : decode cL_law 333 = .ok (.aload_n 0, 1) := qdL_law_304_24.2.2.2.2.2.2.2.2.2.2.2.2.2.2.2.2.2.2.2.2.2.1
theorem dL_law_334 : decode cL_law 334 = .ok (.iload 4, 2) := qdL_law_304_24.2.2.2.2.2.2.2.2.2.2.2.2.2.2.2.2.2.2.2.2.2.2.1
theorem dL_law_336 : decode cL_law 336 = .ok (.iconst 1, 1) := qdL_law_304_24.2.2.2.2.2.2.2.2.2.2.2.2.2.2.2.2.2.2.2.2.2.2.2.1
theorem qdL_law_337_24 : dcAll cL_law [(337, .iadd, 1), (338, .iaload, 1), (339, .aload_n 0, 1), (340, .iload 4, 2), (342, .iconst 2, 1), (343, .iadd, 1), (344, .iaload, 1), (345, .aload_n 0, 1), (346, .iload 4, 2), (348, .iconst 3, 1), (349, .iadd, 1), (350, .iaload, 1), (351, .aload_n 3, 1), (352, .invokestatic 135, 3), (355, .istore 5, 2), (357, .aload_n 2, 1), (358, .aload_n 0, 1), (359, .iload 4, 2), (361, .iconst 1, 1), (362, .iadd, 1), (363, .iaload, 1), (364, .aload_n 0, 1), (365, .iload 4, 2), (367, .iconst 2, 1)] := dcAll_of (by decide +kernel)
theorem dL_law_337 : decode cL_law 337 = .ok (.iadd, 1) := qdL_law_337_24.1
theorem dL_law_338 : decode cL_law 338 = .ok (.iaload, 1) := qdL_law_337_24.2.1
theorem dL_law_339 : decode cL_law 339 = .ok (.aload_n 0, 1) := qdL_law_337_24.2.2.1
theorem dL_law_340 : decode cL_law 340 = .ok (.iload 4, 2) := qdL_law_337_24.2.2.2.1
theorem dL_law_342 : decode cL_law 342 = .ok (.iconst 2, 1) := qdL_law_337_24.2.2.2.2.1
theorem dL_law_343 : decode cL_law 343 = .ok (.iadd, 1) := qdL_law_337_24.2.2.2.2.2.1
theorem dL_law_344 : decode cL_law 344 = .ok (.iaload, 1) := qdL_law_337_24.2.2.2.2.2.2.1
theorem dL_law_345 : decode cL_law 345 = .ok (.aload_n 0, 1) := qdL_law_337_24.2.2.2.2.2.2.2.1
theorem dL_law_346 : decode cL_law 346 = .ok (.iload 4, 2) := qdL_law_337_24.2.2.2.2.2.2.2.2.1
theorem dL_law_348 : decode cL_law 348 = .ok (.iconst 3, 1) := qdL_law_337_24.2.2.2.2.2.2.2.2.2.1
theorem dL_law_349 : decode cL_law 349 = .ok (.iadd, 1) := qdL_law_337_24.2.2.2.2.2.2.2.2.2.2.1
theorem dL_law_350 : decode cL_law 350 = .ok (.iaload, 1) := qdL_law_337_24.2.2.2.2.2.2.2.2.2.2.2.1
theorem dL_law_351 : decode cL_law 351 = .ok (.aload_n 3, 1) := qdL_law_337_24.2.2.2.2.2.2.2.2.2.2.2.2.1
theorem dL_law_352 : decode cL_law 352 = .ok (.invokestatic 135, 3) := qdL_law_337_24.2.2.2.2.2.2.2.2.2.2.2.2.2.1
theorem dL_law_355 : decode cL_law 355 = .ok (.istore 5, 2) := qdL_law_337_24.2.2.2.2.2.2.2.2.2.2.2.2.2.2.1
theorem dL_law_357 : decode cL_law 357 = .ok (.aload_n 2, 1) := qdL_law_337_24.2.2.2.2.2.2.2.2.2.2.2.2.2.2.2.1
theorem dL_law_358 : decode cL_law 358 = .ok (.aload_n 0, 1) := qdL_law_337_24.2.2.2.2.2.2.2.2.2.2.2.2.2.2.2.2.1
theorem dL_law_359 : decode cL_law 359 = .ok (.iload 4, 2) := qdL_law_337_24.2.2.2.2.2.2.2.2.2.2.2.2.2.2.2.2.2.1
theorem dL_law_361 : decode cL_law 361 = .ok (.iconst 1, 1) := qdL_law_337_24.2.2.2.2.2.2.2.2.2.2.2.2.2.2.2.2.2.2.1
theorem dL_law_362 : decode cL_law 362 = .ok (.iadd, 1) := qdL_law_337_24.2.2.2.2.2.2.2.2.2.2.2.2.2.2.2.2.2.2.2.1
theorem dL_law_363 : decode cL_law 363 = .ok (.iaload, 1) := qdL_law_337_24.2.2.2.2.2.2.2.2.2.2.2.2.2.2.2.2.2.2.2.2.1
theorem dL_law_364 : decode cL_law 364 = .ok (.aload_n 0, 1) := qdL_law_337_24.2.2.2.2.2.2.2.2.2.2.2.2.2.2.2.2.2.2.2.2.2.1
theorem dL_law_365 : decode cL_law 365 = .ok (.iload 4, 2) := qdL_law_337_24.2.2.2.2.2.2.2.2.2.2.2.2.2.2.2.2.2.2.2.2.2.2.1
theorem dL_law_367 : decode cL_law 367 = .ok (.iconst 2, 1) := qdL_law_337_24.2.2.2.2.2.2.2.2.2.2.2.2.2.2.2.2.2.2.2.2.2.2.2.1
theorem qdL_law_368_24 : dcAll cL_law [(368, .iadd, 1), (369, .iaload, 1), (370, .aload_n 0, 1), (371, .iload 4, 2), (373, .iconst 3, 1), (374, .iadd, 1), (375, .iaload, 1), (376, .invokevirtual 137, 3), (379, .istore 6, 2), (381, .goto 1107, 3), (384, .aload_n 1, 1), (385, .aload_n 0, 1), (386, .iload 4, 2), (388, .iconst 1, 1), (389, .iadd, 1), (390, .iaload, 1), (391, .aload_n 0, 1), (392, .iload 4, 2), (394, .iconst 2, 1), (395, .iadd, 1), (396, .iaload, 1), (397, .aload_n 3, 1), (398, .invokestatic 138, 3), (401, .istore 5, 2)] := dcAll_of (by decide +kernel)
theorem dL_law_368 : decode cL_law 368 = .ok (.iadd, 1) := qdL_law_368_24.1
theorem dL_law_369 : decode cL_law 369 = .ok (.iaload, 1) := qdL_law_368_24.2.1
theorem dL_law_370 : decode cL_law 370 = .ok (.aload_n 0, 1) := qdL_law_368_24.2.2.1
theorem dL_law_371 : decode cL_law 371 = .ok (.iload 4, 2) := qdL_law_368_24.2.2.2.1
theorem dL_law_373 : decode cL_law 373 = .ok (.iconst 3, 1) := qdL_law_368_24.2.2.2.2.1
theorem dL_law_374 : decode cL_law 374 = .ok (.iadd, 1) := qdL_law_368_24.2.2.2.2.2.1
theorem dL_law_375 : decode cL_law 375 = .ok (.iaload, 1) := qdL_law_368_24.2.2.2.2.2.2.1
theorem dL_law_376 : decode cL_law 376 = .ok (.invokevirtual 137, 3) := qdL_law_368_24.2.2.2.2.2.2.2.1
theorem dL_law_379 : decode cL_law 379 = .ok (.istore 6, 2) := qdL_law_368_24.2.2.2.2.2.2.2.2.1
theorem dL_law_381 : decode cL_law 381 = .ok (.goto 1107, 3) := qdL_law_368_24.2.2.2.2.2.2.2.2.2.1
theorem dL_law_384 : decode cL_law 384 = .ok (.aload_n 1, 1) := qdL_law_368_24.2.2.2.2.2.2.2.2.2.2.1
theorem dL_law_385 : decode cL_law 385 = .ok (.aload_n 0, 1) := qdL_law_368_24.2.2.2.2.2.2.2.2.2.2.2.1
theorem dL_law_386 : decode cL_law 386 = .ok (.iload 4, 2) := qdL_law_368_24.2.2.2.2.2.2.2.2.2.2.2.2.1
theorem dL_law_388 : decode cL_law 388 = .ok (.iconst 1, 1) := qdL_law_368_24.2.2.2.2.2.2.2.2.2.2.2.2.2.1
theorem dL_law_389 : decode cL_law 389 = .ok (.iadd, 1) := qdL_law_368_24.2.2.2.2.2.2.2.2.2.2.2.2.2.2.1
theorem dL_law_390 : decode cL_law 390 = .ok (.iaload, 1) := qdL_law_368_24.2.2.2.2.2.2.2.2.2.2.2.2.2.2.2.1
theorem dL_law_391 : decode cL_law 391 = .ok (.aload_n 0, 1) := qdL_law_368_24.2.2.2.2.2.2.2.2.2.2.2.2.2.2.2.2.1
theorem dL_law_392 : decode cL_law 392 = .ok (.iload 4, 2) := qdL_law_368_24.2.2.2.2.2.2.2.2.2.2.2.2.2.2.2.2.2.1
theorem dL_law_394 : decode cL_law 394 = .ok (.iconst 2, 1) := qdL_law_368_24.2.2.2.2.2.2.2.2.2.2.2.2.2.2.2.2.2.2.1
theorem dL_law_395 : decode cL_law 395 = .ok (.iadd, 1) := qdL_law_368_24.2.2.2.2.2.2.2.2.2.2.2.2.2.2.2.2.2.2.2.1
theorem dL_law_396 : decode cL_law 396 = .ok (.iaload, 1) := qdL_law_368_24.2.2.2.2.2.2.2.2.2.2.2.2.2.2.2.2.2.2.2.2.1
theorem dL_law_397 : decode cL_law 397 = .ok (.aload_n 3, 1) := qdL_law_368_24.2.2.2.2.2.2.2.2.2.2.2.2.2.2.2.2.2.2.2.2.2.1
theorem dL_law_398 : decode cL_law 398 = .ok (.invokestatic 138, 3) := qdL_law_368_24.2.2.2.2.2.2.2.2.2.2.2.2.2.2.2.2.2.2.2.2.2.2.1
theorem dL_law_401 : decode cL_law 401 = .ok (.istore 5, 2) := qdL_law_368_24.2.2.2.2.2.2.2.2.2.2.2.2.2.2.2.2.2.2.2.2.2.2.2.1
theorem qdL_law_403_24 : dcAll cL_law [(403, .aload_n 2, 1), (404, .aload_n 0, 1), (405, .iload 4, 2), (407, .iconst 1, 1), (408, .iadd, 1), (409, .iaload, 1), (410, .aload_n 0, 1), (411, .iload 4, 2), (413, .iconst 2, 1), (414, .iadd, 1), (415, .iaload, 1), (416, .invokevirtual 140, 3), (419, .istore 6, 2), (421, .goto 1067, 3), (424, .aload_n 1, 1), (425, .aload_n 0, 1), (426, .iload 4, 2), (428, .iconst 1, 1), (429, .iadd, 1), (430, .iaload, 1), (431, .aload_n 0, 1), (432, .iload 4, 2), (434, .iconst 2, 1), (435, .iadd, 1)] := dcAll_of (by decide +kernel)
theorem dL_law_403 : decode cL_law 403 = .ok (.aload_n 2, 1) := qdL_law_403_24.1
theorem dL_law_404 : decode cL_law 404 = .ok (.aload_n 0, 1) := qdL_law_403_24.2.1
theorem dL_law_405 : decode cL_law 405 = .ok (.iload 4, 2) := qdL_law_403_24.2.2.1
theorem dL_law_407 : decode cL_law 407 = .ok (.iconst 1, 1) := qdL_law_403_24.2.2.2.1
theorem dL_law_408 : decode cL_law 408 = .ok (.iadd, 1) := qdL_law_403_24.2.2.2.2.1
theorem dL_law_409 : decode cL_law 409 = .ok (.iaload, 1) := qdL_law_403_24.2.2.2.2.2.1
theorem dL_law_410 : decode cL_law 410 = .ok (.aload_n 0, 1) := qdL_law_403_24.2.2.2.2.2.2.1
theorem dL_law_411 : decode cL_law 411 = .ok (.iload 4, 2) := qdL_law_403_24.2.2.2.2.2.2.2.1
theorem dL_law_413 : decode cL_law 413 = .ok (.iconst 2, 1) := qdL_law_403_24.2.2.2.2.2.2.2.2.1
theorem dL_law_414 : decode cL_law 414 = .ok (.iadd, 1) := qdL_law_403_24.2.2.2.2.2.2.2.2.2.1
theorem dL_law_415 : decode cL_law 415 = .ok (.iaload, 1) := qdL_law_403_24.2.2.2.2.2.2.2.2.2.2.1
theorem dL_law_416 : decode cL_law 416 = .ok (.invokevirtual 140, 3) := qdL_law_403_24.2.2.2.2.2.2.2.2.2.2.2.1
theorem dL_law_419 : decode cL_law 419 = .ok (.istore 6, 2) := qdL_law_403_24.2.2.2.2.2.2.2.2.2.2.2.2.1
theorem dL_law_421 : decode cL_law 421 = .ok (.goto 1067, 3) := qdL_law_403_24.2.2.2.2.2.2.2.2.2.2.2.2.2.1
theorem dL_law_424 : decode cL_law 424 = .ok (.aload_n 1, 1) := qdL_law_403_24.2.2.2.2.2.2.2.2.2.2.2.2.2.2.1
theorem dL_law_425 : decode cL_law 425 = .ok (.aload_n 0, 1) := qdL_law_403_24.2.2.2.2.2.2.2.2.2.2.2.2.2.2.2.1
theorem dL_law_426 : decode cL_law 426 = .ok (.iload 4, 2) := qdL_law_403_24.2.2.2.2.2.2.2.2.2.2.2.2.2.2.2.2.1
theorem dL_law_428 : decode cL_law 428 = .ok (.iconst 1, 1) := qdL_law_403_24.2.2.2.2.2.2.2.2.2.2.2.2.2.2.2.2.2.1
theorem dL_law_429 : decode cL_law 429 = .ok (.iadd, 1) := qdL_law_403_24.2.2.2.2.2.2.2.2.2.2.2.2.2.2.2.2.2.2.1
theorem dL_law_430 : decode cL_law 430 = .ok (.iaload, 1) := qdL_law_403_24.2.2.2.2.2.2.2.2.2.2.2.2.2.2.2.2.2.2.2.1
theorem dL_law_431 : decode cL_law 431 = .ok (.aload_n 0, 1) := qdL_law_403_24.2.2.2.2.2.2.2.2.2.2.2.2.2.2.2.2.2.2.2.2.1
theorem dL_law_432 : decode cL_law 432 = .ok (.iload 4, 2) := qdL_law_403_24.2.2.2.2.2.2.2.2.2.2.2.2.2.2.2.2.2.2.2.2.2.1
theorem dL_law_434 : decode cL_law 434 = .ok (.iconst 2, 1) := qdL_law_403_24.2.2.2.2.2.2.2.2.2.2.2.2.2.2.2.2.2.2.2.2.2.2.1
theorem dL_law_435 : decode cL_law 435 = .ok (.iadd, 1) := qdL_law_403_24.2.2.2.2.2.2.2.2.2.2.2.2.2.2.2.2.2.2.2.2.2.2.2.1
theorem qdL_law_436_24 : dcAll cL_law [(436, .iaload, 1), (437, .aload_n 3, 1), (438, .invokestatic 141, 3), (441, .istore 5, 2), (443, .aload_n 2, 1), (444, .aload_n 0, 1), (445, .iload 4, 2), (447, .iconst 1, 1), (448, .iadd, 1), (449, .iaload, 1), (450, .aload_n 0, 1), (451, .iload 4, 2), (453, .iconst 2, 1), (454, .iadd, 1), (455, .iaload, 1), (456, .invokevirtual 143, 3), (459, .istore 6, 2), (461, .goto 1027, 3), (464, .aload_n 1, 1), (465, .aload_n 0, 1), (466, .iload 4, 2), (468, .iconst 1, 1), (469, .iadd, 1), (470, .iaload, 1)] := dcAll_of (by decide +kernel)
theorem dL_law_436 : decode cL_law 436 = .ok (.iaload, 1) := qdL_law_436_24.1
theorem dL_law_437 : decode cL_law 437 = .ok (.aload_n 3, 1) := qdL_law_436_24.2.1
theorem dL_law_438 : decode cL_law 438 = .ok (.invokestatic 141, 3) := qdL_law_436_24.2.2.1
theorem dL_law_441 : decode cL_law 441 = .ok (.istore 5, 2) := qdL_law_436_24.2.2.2.1
theorem dL_law_443 : decode cL_law 443 = .ok (.aload_n 2, 1) := qdL_law_436_24.2.2.2.2.1
theorem dL_law_444 : decode cL_law 444 = .ok (.aload_n 0, 1) := qdL_law_436_24.2.2.2.2.2.1
theorem dL_law_445 : decode cL_law 445 = .ok (.iload 4, 2) := qdL_law_436_24.2.2.2.2.2.2.1
theorem dL_law_447 : decode cL_law 447 = .ok (.iconst 1, 1) := qdL_law_436_24.2.2.2.2.2.2.2.1
theorem dL_law_448 : decode cL_law 448 = .ok (.iadd, 1) := qdL_law_436_24.2.2.2.2.2.2.2.2.1
theorem dL_law_449 : decode cL_law 449 = .ok (.iaload, 1) := qdL_law_436_24.2.2.2.2.2.2.2.2.2.1
theorem dL_law_450 : decode cL_law 450 = .ok (.aload_n 0, 1) := qdL_law_436_24.2.2.2.2.2.2.2.2.2.2.1
theorem dL_law_451 : decode cL_law 451 = .ok (.iload 4, 2) := qdL_law_436_24.2.2.2.2.2.2.2.2.2.2.2.1
theorem dL_law_453 : decode cL_law 453 = .ok (.iconst 2, 1) := qdL_law_436_24.2.2.2.2.2.2.2.2.2.2.2.2.1
theorem dL_law_454 : decode cL_law 454 = .ok (.iadd, 1) := qdL_law_436_24.2.2.2.2.2.2.2.2.2.2.2.2.2.1
theorem dL_law_455 : decode cL_law 455 = .ok (.iaload, 1) := qdL_law_436_24.2.2.2.2.2.2.2.2.2.2.2.2.2.2.1
theorem dL_law_456 : decode cL_law 456 = .ok (.invokevirtual 143, 3) := qdL_law_436_24.2.2.2.2.2.2.2.2.2.2.2.2.2.2.2.1
theorem dL_law_459 : decode cL_law 459 = .ok (.istore 6, 2) := qdL_law_436_24.2.2.2.2.2.2.2.2.2.2.2.2.2.2.2.2.1
theorem dL_law_461 : decode cL_law 461 = .ok (.goto 1027, 3) := qdL_law_436_24.2.2.2.2.2.2.2.2.2.2.2.2.2.2.2.2.2.1
theorem dL_law_464 : decode cL_law 464 = .ok (.aload_n 1, 1) := qdL_law_436_24.2.2.2.2.2.2.2.2.2.2.2.2.2.2.2.2.2.2.1
theorem dL_law_465 : decode cL_law 465 = .ok (.aload_n 0, 1) := qdL_law_436_24.2.2.2.2.2.2.2.2.2.2.2.2.2.2.2.2.2.2.2.1
theorem dL_law_466 : decode cL_law 466 = .ok (.iload 4, 2) := qdL_law_436_24.2.2.2.2.2.2.2.2.2.2.2.2.2.2.2.2.2.2.2.2.1
theorem dL_law_468 : decode cL_law 468 = .ok (.iconst 1, 1) := qdL_law_436_24.2.2.2.2.2.2.2.2.2.2.2.2.2.2.2.2.2.2.2.2.2.1
theorem dL_law_469 : decode cL_law 469 = .ok (.iadd, 1) := qdL_law_436_24.2.2.2.2.2.2.2.2.2.2.2.2.2.2.2.2.2.2.2.2.2.2.1
theorem dL_law_470 : decode cL_law 470 = .ok (.iaload, 1) := qdL_law_436_24.2.2.2.2.2.2.2.2.2.2.2.2.2.2.2.2.2.2.2.2.2.2.2.1
theorem qdL_law_471_24 : dcAll cL_law [(471, .aload_n 0, 1), (472, .iload 4, 2), (474, .iconst 2, 1), (475, .iadd, 1), (476, .iaload, 1), (477, .aload_n 0, 1), (478, .iload 4, 2), (480, .iconst 3, 1), (481, .iadd, 1), (482, .iaload, 1), (483, .aload_n 0, 1), (484, .iload 4, 2), (486, .iconst 4, 1), (487, .iadd, 1), (488, .iaload, 1), (489, .aload_n 3, 1), (490, .invokestatic 144, 3), (493, .istore 5, 2), (495, .aload_n 2, 1), (496, .aload_n 0, 1), (497, .iload 4, 2), (499, .iconst 1, 1), (500, .iadd, 1), (501, .iaload, 1)] := dcAll_of (by decide +kernel)
theorem dL_law_471 : decode cL_law 471 = .ok (.aload_n 0, 1) := qdL_law_471_24.1
theorem dL_law_472 : decode cL_law 472 = .ok (.iload 4, 2) := qdL_law_471_24.2.1
theorem dL_law_474 : decode cL_law 474 = .ok (.iconst 2, 1) := qdL_law_471_24.2.2.1
theorem dL_law_475 : decode cL_law 475 = .ok (.iadd, 1) := qdL_law_471_24.2.2.2.1
theorem dL_law_476 : decode cL_law 476 = .ok (.iaload, 1) := qdL_law_471_24.2.2.2.2.1
theorem dL_law_477 : decode cL_law 477 = .ok (.aload_n 0, 1) := qdL_law_471_24.2.2.2.2.2.1
theorem dL_law_478 : decode cL_law 478 = .ok (.iload 4, 2) := qdL_law_471_24.2.2.2.2.2.2.1
theorem dL_law_480 : decode cL_law 480 = .ok (.iconst 3, 1) := qdL_law_471_24.2.2.2.2.2.2.2.1
theorem dL_law_481 : decode cL_law 481 = .ok (.iadd, 1) := qdL_law_471_24.2.2.2.2.2.2.2.2.1
theorem dL_law_482 : decode cL_law 482 = .ok (.iaload, 1) := qdL_law_471_24.2.2.2.2.2.2.2.2.2.1
theorem dL_law_483 : decode cL_law 483 = .ok (.aload_n 0, 1) := qdL_law_471_24.2.2.2.2.2.2.2.2.2.2.1
theorem dL_law_484 : decode cL_law 484 = .ok (.iload 4, 2) := qdL_law_471_24.2.2.2.2.2.2.2.2.2.2.2.1
theorem dL_law_486 : decode cL_law 486 = .ok (.iconst 4, 1) := qdL_law_471_24.2.2.2.2.2.2.2.2.2.2.2.2.1
theorem dL_law_487 : decode cL_law 487 = .ok (.iadd, 1) := qdL_law_471_24.2.2.2.2.2.2.2.2.2.2.2.2.2.1
theorem dL_law_488 : decode cL_law 488 = .ok (.iaload, 1) := qdL_law_471_24.2.2.2.2.2.2.2.2.2.2.2.2.2.2.1
theorem dL_law_489 : decode cL_law 489 = .ok (.aload_n 3, 1) := qdL_law_471_24.2.2.2.2.2.2.2.2.2.2.2.2.2.2.2.1
theorem dL_law_490 : decode cL_law 490 = .ok (.invokestatic 144, 3) := qdL_law_471_24.2.2.2.2.2.2.2.2.2.2.2.2.2.2.2.2.1
theorem dL_law_493 : decode cL_law 493 = .ok (.istore 5, 2) := qdL_law_471_24.2.2.2.2.2.2.2.2.2.2.2.2.2.2.2.2.2.1
theorem dL_law_495 : decode cL_law 495 = .ok (.aload_n 2, 1) := qdL_law_471_24.2.2.2.2.2.2.2.2.2.2.2.2.2.2.2.2.2.2.1
theorem dL_law_496 : decode cL_law 496 = .ok (.aload_n 0, 1) := qdL_law_471_24.2.2.2.2.2.2.2.2.2.2.2.2.2.2.2.2.2.2.2.1
theorem dL_law_497 : decode cL_law 497 = .ok (.iload 4, 2) := qdL_law_471_24.2.2.2.2.2.2.2.2.2.2.2.2.2.2.2.2.2.2.2.2.1
theorem dL_law_499 : decode cL_law 499 = .ok (.iconst 1, 1) := qdL_law_471_24.2.2.2.2.2.2.2.2.2.2.2.2.2.2.2.2.2.2.2.2.2.1
theorem dL_law_500 : decode cL_law 500 = .ok (.iadd, 1) := qdL_law_471_24.2.2.2.2.2.2.2.2.2.2.2.2.2.2.2.2.2.2.2.2.2.2.1
theorem dL_law_501 : decode cL_law 501 = .ok (.iaload, 1) := qdL_law_471_24.2.2.2.2.2.2.2.2.2.2.2.2.2.2.2.2.2.2.2.2.2.2.2.1
theorem qdL_law_502_24 : dcAll cL_law [(502, .aload_n 0, 1), (503, .iload 4, 2), (505, .iconst 2, 1), (506, .iadd, 1), (507, .iaload, 1), (508, .aload_n 0, 1), (509, .iload 4, 2), (511, .iconst 3, 1), (512, .iadd, 1), (513, .iaload, 1), (514, .aload_n 0, 1), (515, .iload 4, 2), (517, .iconst 4, 1), (518, .iadd, 1), (519, .iaload, 1), (520, .invokevirtual 146, 3), (523, .istore 6, 2), (525, .goto 963, 3), (528, .aload_n 1, 1), (529, .aload_n 0, 1), (530, .iload 4, 2), (532, .iconst 1, 1), (533, .iadd, 1), (534, .iaload, 1)] := dcAll_of (by decide +kernel)
theorem dL_law_502 : decode cL_law 502 = .ok (.aload_n 0, 1) := qdL_law_502_24.1
theorem dL_law_503 : decode cL_law 503 = .ok (.iload 4, 2) := qdL_law_502_24.2.1
theorem dL_law_505 : decode cL_law 505 = .ok (.iconst 2, 1) := qdL_law_502_24.2.2.1
theorem dL_law_506 : decode cL_law 506 = .ok (.iadd, 1) := qdL_law_502_24.2.2.2.1
theorem dL_law_507 : decode cL_law 507 = .ok (.iaload, 1) := qdL_law_502_24.2.2.2.2.1
theorem dL_law_508 : decode cL_law 508 = .ok (.aload_n 0, 1) := qdL_law_502_24.2.2.2.2.2.1
theorem dL_law_509 : decode cL_law 509 = .ok (.iload 4, 2) := qdL_law_502_24.2.2.2.2.2.2.1
theorem dL_law_511 : decode cL_law 511 = .ok (.iconst 3, 1) := qdL_law_502_24.2.2.2.2.2.2.2.1
theorem dL_law_512 : decode cL_law 512 = .ok (.iadd, 1) := qdL_law_502_24.2.2.2.2.2.2.2.2.1
theorem dL_law_513 : decode cL_law 513 = .ok (.iaload, 1) := qdL_law_502_24.2.2.2.2.2.2.2.2.2.1
theorem dL_law_514 : decode cL_law 514 = .ok (.aload_n 0, 1) := qdL_law_502_24.2.2.2.2.2.2.2.2.2.2.1
theorem dL_law_515 : decode cL_law 515 = .ok (.iload 4, 2) := qdL_law_502_24.2.2.2.2.2.2.2.2.2.2.2.1
theorem dL_law_517 : decode cL_law 517 = .ok (.iconst 4, 1) := qdL_law_502_24.2.2.2.2.2.2.2.2.2.2.2.2.1
theorem dL_law_518 : decode cL_law 518 = .ok (.iadd, 1) := qdL_law_502_24.2.2.2.2.2.2.2.2.2.2.2.2.2.1
theorem dL_law_519 : decode cL_law 519 = .ok (.iaload, 1) := qdL_law_502_24.2.2.2.2.2.2.2.2.2.2.2.2.2.2.1
theorem dL_law_520 : decode cL_law 520 = .ok (.invokevirtual 146, 3) := qdL_law_502_24.2.2.2.2.2.2.2.2.2.2.2.2.2.2.2.1
theorem dL_law_523 : decode cL_law 523 = .ok (.istore 6, 2) := qdL_law_502_24.2.2.2.2.2.2.2.2.2.2.2.2.2.2.2.2.1
theorem dL_law_525 : decode cL_law 525 = .ok (.goto 963, 3) := qdL_law_502_24.2.2.2.2.2.2.2.2.2.2.2.2.2.2.2.2.2.1
theorem dL_law_528 : decode cL_law 528 = .ok (.aload_n 1, 1) := qdL_law_502_24.2.2.2.2.2.2.2.2.2.2.2.2.2.2.2.2.2.2.1
theorem dL_law_529 : decode cL_law 529 = .ok (.aload_n 0, 1) := qdL_law_502_24.2.2.2.2.2.2.2.2.2.2.2.2.2.2.2.2.2.2.2.1
theorem dL_law_530 : decode cL_law 530 = .ok (.iload 4, 2) := qdL_law_502_24.2.2.2.2.2.2.2.2.2.2.2.2.2.2.2.2.2.2.2.2.1
theorem dL_law_532 : decode cL_law 532 = .ok (.iconst 1, 1) := qdL_law_502_24.2.2.2.2.2.2.2.2.2.2.2.2.2.2.2.2.2.2.2.2.2.1
theorem dL_law_533 : decode cL_law 533 = .ok (.iadd, 1) := qdL_law_502_24.2.2.2.2.2.2.2.2.2.2.2.2.2.2.2.2.2.2.2.2.2.2.1
theorem dL_law_534 : decode cL_law 534 = .ok (.iaload, 1) := qdL_law_502_24.2.2.2.2.2.2.2.2.2.2.2.2.2.2.2.2.2.2.2.2.2.2.2.1
theorem qdL_law_535_24 : dcAll cL_law [(535, .aload_n 0, 1), (536, .iload 4, 2), (538, .iconst 2, 1), (539, .iadd, 1), (540, .iaload, 1), (541, .aload_n 0, 1), (542, .iload 4, 2), (544, .iconst 3, 1), (545, .iadd, 1), (546, .iaload, 1), (547, .aload_n 3, 1), (548, .invokestatic 147, 3), (551, .istore 5, 2), (553, .aload_n 2, 1), (554, .aload_n 0, 1), (555, .iload 4, 2), (557, .iconst 1, 1), (558, .iadd, 1), (559, .iaload, 1), (560, .aload_n 0, 1), (561, .iload 4, 2), (563, .iconst 2, 1), (564, .iadd, 1), (565, .iaload, 1)] := dcAll_of (by decide +kernel)
theorem dL_law_535 : decode cL_law 535 = .ok (.aload_n 0, 1) := qdL_law_535_24.1
theorem dL_law_536 : decode cL_law 536 = .ok (.iload 4, 2) := qdL_law_535_24.2.1
theorem dL_law_538 : decode cL_law 538 = .ok (.iconst 2, 1) := qdL_law_535_24.2.2.1
theorem dL_law_539 : decode cL_law 539 = .ok (.iadd, 1) := qdL_law_535_24.2.2.2.1
theorem dL_law_540 : decode cL_law 540 = .ok (.iaload, 1) := qdL_law_535_24.2.2.2.2.1
theorem dL_law_541 : decode cL_law 541 = .ok (.aload_n 0, 1) := qdL_law_535_24.2.2.2.2.2.1
theorem dL_law_542 : decode cL_law 542 = .ok (.iload 4, 2) := qdL_law_535_24.2.2.2.2.2.2.1
theorem dL_law_544 : decode cL_law 544 = .ok (.iconst 3, 1) := qdL_law_535_24.2.2.2.2.2.2.2.1
theorem dL_law_545 : decode cL_law 545 = .ok (.iadd, 1) := qdL_law_535_24.2.2.2.2.2.2.2.2.1
theorem dL_law_546 : decode cL_law 546 = .ok (.iaload, 1) := qdL_law_535_24.2.2.2.2.2.2.2.2.2.1
theorem dL_law_547 : decode cL_law 547 = .ok (.aload_n 3, 1) := qdL_law_535_24.2.2.2.2.2.2.2.2.2.2.1
theorem dL_law_548 : decode cL_law 548 = .ok (.invokestatic 147, 3) := qdL_law_535_24.2.2.2.2.2.2.2.2.2.2.2.1
theorem dL_law_551 : decode cL_law 551 = .ok (.istore 5, 2) := qdL_law_535_24.2.2.2.2.2.2.2.2.2.2.2.2.1
theorem dL_law_553 : decode cL_law 553 = .ok (.aload_n 2, 1) := qdL_law_535_24.2.2.2.2.2.2.2.2.2.2.2.2.2.1
theorem dL_law_554 : decode cL_law 554 = .ok (.aload_n 0, 1) := qdL_law_535_24.2.2.2.2.2.2.2.2.2.2.2.2.2.2.1
theorem dL_law_555 : decode cL_law 555 = .ok (.iload 4, 2) := qdL_law_535_24.2.2.2.2.2.2.2.2.2.2.2.2.2.2.2.1
theorem dL_law_557 : decode cL_law 557 = .ok (.iconst 1, 1) := qdL_law_535_24.2.2.2.2.2.2.2.2.2.2.2.2.2.2.2.2.1
theorem dL_law_558 : decode cL_law 558 = .ok (.iadd, 1) := qdL_law_535_24.2.2.2.2.2.2.2.2.2.2.2.2.2.2.2.2.2.1
theorem dL_law_559 : decode cL_law 559 = .ok (.iaload, 1) := qdL_law_535_24.2.2.2.2.2.2.2.2.2.2.2.2.2.2.2.2.2.2.1
theorem dL_law_560 : decode cL_law 560 = .ok (.aload_n 0, 1) := qdL_law_535_24.2.2.2.2.2.2.2.2.2.2.2.2.2.2.2.2.2.2.2.1
theorem dL_law_561 : decode cL_law 561 = .ok (.iload 4, 2) := qdL_law_535_24.2.2.2.2.2.2.2.2.2.2.2.2.2.2.2.2.2.2.2.2.1
theorem dL_law_563 : decode cL_law 563 = .ok (.iconst 2, 1) := qdL_law_535_24.2.2.2.2.2.2.2.2.2.2.2.2.2.2.2.2.2.2.2.2.2.1
theorem dL_law_564 : decode cL_law 564 = .ok (.iadd, 1) := qdL_law_535_24.2.2.2.2.2.2.2.2.2.2.2.2.2.2.2.2.2.2.2.2.2.2.1
theorem dL_law_565 : decode cL_law 565 = .ok (.iaload, 1) := qdL_law_535_24.2.2.2.2.2.2.2.2.2.2.2.2.2.2.2.2.2.2.2.2.2.2.2.1
theorem qdL_law_566_24 : dcAll cL_law [(566, .aload_n 0, 1), (567, .iload 4, 2), (569, .iconst 3, 1), (570, .iadd, 1), (571, .iaload, 1), (572, .invokevirtual 149, 3), (575, .istore 6, 2), (577, .goto 911, 3), (580, .aload_n 1, 1), (581, .aload_n 0, 1), (582, .iload 4, 2), (584, .iconst 1, 1), (585, .iadd, 1), (586, .iaload, 1), (587, .aload_n 0, 1), (588, .iload 4, 2), (590, .iconst 2, 1), (591, .iadd, 1), (592, .iaload, 1), (593, .aload_n 0, 1), (594, .iload 4, 2), (596, .iconst 3, 1), (597, .iadd, 1), (598, .iaload, 1)] := dcAll_of (by decide +kernel)
theorem dL_law_566 : decode cL_law 566 = .ok (.aload_n 0, 1) := qdL_law_566_24.1
theorem dL_law_567 : decode cL_law 567 = .ok (.iload 4, 2) := qdL_law_566_24.2.1
theorem dL_law_569 : decode cL_law 569 = .ok (.iconst 3, 1) := qdL_law_566_24.2.2.1
theorem dL_law_570 : decode cL_law 570 = .ok (.iadd, 1) := qdL_law_566_24.2.2.2.1
theorem dL_law_571 : decode cL_law 571 = .ok (.iaload, 1) := qdL_law_566_24.2.2.2.2.1
theorem dL_law_572 : decode cL_law 572 = .ok (.invokevirtual 149, 3) := qdL_law_566_24.2.2.2.2.2.1
theorem dL_law_575 : decode cL_law 575 = .ok (.istore 6, 2) := qdL_law_566_24.2.2.2.2.2.2.1
theorem dL_law_577 : decode cL_law 577 = .ok (.goto 911, 3) := qdL_law_566_24.2.2.2.2.2.2.2.1
theorem dL_law_580 : decode cL_law 580 = .ok (.aload_n 1, 1) := qdL_law_566_24.2.2.2.2.2.2.2.2.1
theorem dL_law_581 : decode cL_law 581 = .ok (.aload_n 0, 1) := qdL_law_566_24.2.2.2.2.2.2.2.2.2.1
theorem dL_law_582 : decode cL_law 582 = .ok (.iload 4, 2) := qdL_law_566_24.2.2.2.2.2.2.2.2.2.2.1
theorem dL_law_584 : decode cL_law 584 = .ok (.iconst 1, 1) := qdL_law_566_24.2.2.2.2.2.2.2.2.2.2.2.1
theorem dL_law_585 : decode cL_law 585 = .ok (.iadd, 1) := qdL_law_566_24.2.2.2.2.2.2.2.2.2.2.2.2.1
theorem dL_law_586 : decode cL_law 586 = .ok (.iaload, 1) := qdL_law_566_24.2.2.2.2.2.2.2.2.2.2.2.2.2.1
theorem dL_law_587 : decode cL_law 587 = .ok (.aload_n 0, 1) := qdL_law_566_24.2.2.2.2.2.2.2.2.2.2.2.2.2.2.1
theorem dL_law_588 : decode cL_law 588 = .ok (.iload 4, 2) := qdL_law_566_24.2.2.2.2.2.2.2.2.2.2.2.2.2.2.2.1
theorem dL_law_590 : decode cL_law 590 = .ok (.iconst 2, 1) := qdL_law_566_24.2.2.2.2.2.2.2.2.2.2.2.2.2.2.2.2.1
theorem dL_law_591 : decode cL_law 591 = .ok (.iadd, 1) := qdL_law_566_24.2.2.2.2.2.2.2.2.2.2.2.2.2.2.2.2.2.1
theorem dL_law_592 : decode cL_law 592 = .ok (.iaload, 1) := qdL_law_566_24.2.2.2.2.2.2.2.2.2.2.2.2.2.2.2.2.2.2.1
theorem dL_law_593 : decode cL_law 593 = .ok (.aload_n 0, 1) := qdL_law_566_24.2.2.2.2.2.2.2.2.2.2.2.2.2.2.2.2.2.2.2.1
theorem dL_law_594 : decode cL_law 594 = .ok (.iload 4, 2) := qdL_law_566_24.2.2.2.2.2.2.2.2.2.2.2.2.2.2.2.2.2.2.2.2.1
theorem dL_law_596 : decode cL_law 596 = .ok (.iconst 3, 1) := qdL_law_566_24.2.2.2.2.2.2.2.2.2.2.2.2.2.2.2.2.2.2.2.2.2.1
theorem dL_law_597 : decode cL_law 597 = .ok (.iadd, 1) := qdL_law_566_24.2.2.2.2.2.2.2.2.2.2.2.2.2.2.2.2.2.2.2.2.2.2.1
theorem dL_law_598 : decode cL_law 598 = .ok (.iaload, 1) := qdL_law_566_24.2.2.2.2.2.2.2.2.2.2.2.2.2.2.2.2.2.2.2.2.2.2.2.1
theorem qdL_law_599_24 : dcAll cL_law [(599, .aload_n 3, 1), (600, .invokestatic 150, 3), (603, .istore 5, 2), (605, .aload_n 2, 1), (606, .aload_n 0, 1), (607, .iload 4, 2), (609, .iconst 1, 1), (610, .iadd, 1), (611, .iaload, 1), (612, .aload_n 0, 1), (613, .iload 4, 2), (615, .iconst 2, 1), (616, .iadd, 1), (617, .iaload, 1), (618, .aload_n 0, 1), (619, .iload 4, 2), (621, .iconst 3, 1), (622, .iadd, 1), (623, .iaload, 1), (624, .invokevirtual 152, 3), (627, .istore 6, 2), (629, .goto 859, 3), (632, .aload_n 1, 1), (633, .aload_n 0, 1)] := dcAll_of (by decide +kernel)
theorem dL_law_599 : decode cL_law 599 = .ok (.aload_n 3, 1) := qdL_law_599_24.1
theorem dL_law_600 : decode cL_law 600 = .ok (.invokestatic 150, 3) := qdL_law_599_24.2.1
theorem dL_law_603 : decode cL_law 603 = .ok (.istore 5, 2) := qdL_law_599_24.2.2.1
theorem dL_law_605 : decode cL_law 605 = .ok (.aload_n 2, 1) := qdL_law_599_24.2.2.2.1
theorem dL_law_606 : decode cL_law 606 = .ok (.aload_n 0, 1) := qdL_law_599_24.2.2.2.2.1
theorem dL_law_607 : decode cL_law 607 = .ok (.iload 4, 2) := qdL_law_599_24.2.2.2.2.2.1
theorem dL_law_609 : decode cL_law 609 = .ok (.iconst 1, 1) := qdL_law_599_24.2.2.2.2.2.2.1
theorem dL_law_610 : decode cL_law 610 = .ok (.iadd, 1) := qdL_law_599_24.2.2.2.2.2.2.2.1
theorem dL_law_611 : decode cL_law 611 = .ok (.iaload, 1) := qdL_law_599_24.2.2.2.2.2.2.2.2.1
theorem dL_law_612 : decode cL_law 612 = .ok (.aload_n 0, 1) := qdL_law_599_24.2.2.2.2.2.2.2.2.2.1
theorem dL_law_613 : decode cL_law 613 = .ok (.iload 4, 2) := qdL_law_599_24.2.2.2.2.2.2.2.2.2.2.1
theorem dL_law_615 : decode cL_law 615 = .ok (.iconst 2, 1) := qdL_law_599_24.2.2.2.2.2.2.2.2.2.2.2.1
theorem dL_law_616 : decode cL_law 616 = .ok (.iadd, 1) := qdL_law_599_24.2.2.2.2.2.2.2.2.2.2.2.2.1
theorem dL_law_617 : decode cL_law 617 = .ok (.iaload, 1) := qdL_law_599_24.2.2.2.2.2.2.2.2.2.2.2.2.2.1
theorem dL_law_618 : decode cL_law 618 = .ok (.aload_n 0, 1) := qdL_law_599_24.2.2.2.2.2.2.2.2.2.2.2.2.2.2.1
theorem dL_law_619 : decode cL_law 619 = .ok (.iload 4, 2) := qdL_law_599_24.2.2.2.2.2.2.2.2.2.2.2.2.2.2.2.1
theorem dL_law_621 : decode cL_law 621 = .ok (.iconst 3, 1) := qdL_law_599_24.2.2.2.2.2.2.2.2.2.2.2.2.2.2.2.2.1
theorem dL_law_622 : decode cL_law 622 = .ok (.iadd, 1) := qdL_law_599_24.2.2.2.2.2.2.2.2.2.2.2.2.2.2.2.2.2.1
theorem dL_law_623 : decode cL_law 623 = .ok (.iaload, 1) := qdL_law_599_24.2.2.2.2.2.2.2.2.2.2.2.2.2.2.2.2.2.2.1
theorem dL_law_624 : decode cL_law 624 = .ok (.invokevirtual 152, 3) := qdL_law_599_24.2.2.2.2.2.2.2.2.2.2.2.2.2.2.2.2.2.2.2.1
theorem dL_law_627 : decode cL_law 627 = .ok (.istore 6, 2) := qdL_law_599_24.2.2.2.2.2.2.2.2.2.2.2.2.2.2.2.2.2.2.2.2.1
theorem dL_law_629 : decode cL_law 629 = .ok (.goto 859, 3) := qdL_law_599_24.2.2.2.2.2.2.2.2.2.2.2.2.2.2.2.2.2.2.2.2.2.1
theorem dL_law_632 : decode cL_law 632 = .ok (.aload_n 1, 1) := qdL_law_599_24.2.2.2.2.2.2.2.2.2.2.2.2.2.2.2.2.2.2.2.2.2.2.1
theorem dL_law_633 : decode cL_law 633 = .ok (.aload_n 0, 1) := qdL_law_599_24.2.2.2.2.2.2.2.2.2.2.2.2.2.2.2.2.2.2.2.2.2.2.2.1
theorem qdL_law_634_24 : dcAll cL_law [(634, .iload 4, 2), (636, .iconst 1, 1), (637, .iadd, 1), (638, .iaload, 1), (639, .aload_n 0, 1), (640, .iload 4, 2), (642, .iconst 2, 1), (643, .iadd, 1), (644, .iaload, 1), (645, .aload_n 3, 1), (646, .invokestatic 153, 3), (649, .istore 5, 2), (651, .aload_n 2, 1), (652, .aload_n 0, 1), (653, .iload 4, 2), (655, .iconst 1, 1), (656, .iadd, 1), (657, .iaload, 1), (658, .aload_n 0, 1), (659, .iload 4, 2), (661, .iconst 2, 1), (662, .iadd, 1), (663, .iaload, 1), (664, .invokevirtual 155, 3)] := dcAll_of (by decide +kernel)
theorem dL_law_634 : decode cL_law 634 = .ok (.iload 4, 2) := qdL_law_634_24.1
theorem dL_law_636 : decode cL_law 636 = .ok (.iconst 1, 1) := qdL_law_634_24.2.1
theorem dL_law_637 : decode cL_law 637 = .ok (.iadd, 1) := qdL_law_634_24.2.2.1
theorem dL_law_638 : decode cL_law 638 = .ok (.iaload, 1) := qdL_law_634_24.2.2.2.1
theorem dL_law_639 : decode cL_law 639 = .ok (.aload_n 0, 1) := qdL_law_634_24.2.2.2.2.1
theorem dL_law_640 : decode cL_law 640 = .ok (.iload 4, 2) := qdL_law_634_24.2.2.2.2.2.1
theorem dL_law_642 : decode cL_law 642 = .ok (.iconst 2, 1) := qdL_law_634_24.2.2.2.2.2.2.1
theorem dL_law_643 : decode cL_law 643 = .ok (.iadd, 1) := qdL_law_634_24.2.2.2.2.2.2.2.1
theorem dL_law_644 : decode cL_law 644 = .ok (.iaload, 1) := qdL_law_634_24.2.2.2.2.2.2.2.2.1
theorem dL_law_645 : decode cL_law 645 = .ok (.aload_n 3, 1) := qdL_law_634_24.2.2.2.2.2.2.2.2.2.1
theorem dL_law_646 : decode cL_law 646 = .ok (.invokestatic 153, 3) := qdL_law_634_24.2.2.2.2.2.2.2.2.2.2.1
theorem dL_law_649 : decode cL_law 649 = .ok (.istore 5, 2) := qdL_law_634_24.2.2.2.2.2.2.2.2.2.2.2.1
theorem dL_law_651 : decode cL_law 651 = .ok (.aload_n 2, 1) := qdL_law_634_24.2.2.2.2.2.2.2.2.2.2.2.2.1
theorem dL_law_652 : decode cL_law 652 = .ok (.aload_n 0, 1) := qdL_law_634_24.2.2.2.2.2.2.2.2.2.2.2.2.2.1
theorem dL_law_653 : decode cL_law 653 = .ok (.iload 4, 2) := qdL_law_634_24.2.2.2.2.2.2.2.2.2.2.2.2.2.2.1
theorem dL_law_655 : decode cL_law 655 = .ok (.iconst 1, 1) := qdL_law_634_24.2.2.2.2.2.2.2.2.2.2.2.2.2.2.2.1
theorem dL_law_656 : decode cL_law 656 = .ok (.iadd, 1) := qdL_law_634_24.2.2.2.2.2.2.2.2.2.2.2.2.2.2.2.2.1
theorem dL_law_657 : decode cL_law 657 = .ok (.iaload, 1) := qdL_law_634_24.2.2.2.2.2.2.2.2.2.2.2.2.2.2.2.2.2.1
theorem dL_law_658 : decode cL_law 658 = .ok (.aload_n 0, 1) := qdL_law_634_24.2.2.2.2.2.2.2.2.2.2.2.2.2.2.2.2.2.2.1
theorem dL_law_659 : decode cL_law 659 = .ok (.iload 4, 2) := qdL_law_634_24.2.2.2.2.2.2.2.2.2.2.2.2.2.2.2.2.2.2.2.1
theorem dL_law_661 : decode cL_law 661 = .ok (.iconst 2, 1) := qdL_law_634_24.2.2.2.2.2.2.2.2.2.2.2.2.2.2.2.2.2.2.2.2.1
theorem dL_law_662 : decode cL_law 662 = .ok (.iadd, 1) := qdL_law_634_24.2.2.2.2.2.2.2.2.2.2.2.2.2.2.2.2.2.2.2.2.2.1
theorem dL_law_663 : decode cL_law 663 = .ok (.iaload, 1) := qdL_law_634_24.2.2.2.2.2.2.2.2.2.2.2.2.2.2.2.2.2.2.2.2.2.2.1
theorem dL_law_664 : decode cL_law 664 = .ok (.invokevirtual 155, 3) := qdL_law_634_24.2.2.2.2.2.2.2.2.2.2.2.2.2.2.2.2.2.2.2.2.2.2.2.1
theorem qdL_law_667_24 : dcAll cL_law [(667, .astore 6, 2), (669, .goto 819, 3), (672, .aload_n 1, 1), (673, .aload_n 0, 1), (674, .iload 4, 2), (676, .iconst 1, 1), (677, .iadd, 1), (678, .iaload, 1), (679, .aload_n 0, 1), (680, .iload 4, 2), (682, .iconst 2, 1), (683, .iadd, 1), (684, .iaload, 1), (685, .aload_n 0, 1), (686, .iload 4, 2), (688, .iconst 3, 1), (689, .iadd, 1), (690, .iaload, 1), (691, .ifCond .eq 7, 3), (694, .iconst 1, 1), (695, .goto 4, 3), (698, .iconst 0, 1), (699, .aload_n 3, 1), (700, .invokestatic 156, 3)] := dcAll_of (by decide +kernel)
theorem dL_law_667 : decode cL_law 667 = .ok (.astore 6, 2) := qdL_law_667_24.1
theorem dL_law_669 : decode cL_law 669 = .ok (.goto 819, 3) := qdL_law_667_24.2.1
theorem dL_law_672 : decode cL_law 672 = .ok (.aload_n 1, 1) := qdL_law_667_24.2.2.1
theorem dL_law_673 : decode cL_law 673 = .ok (.aload_n 0, 1) := qdL_law_667_24.2.2.2.1
theorem dL_law_674 : decode cL_law 674 = .ok (.iload 4, 2) := qdL_law_667_24.2.2.2.2.1
theorem dL_law_676 : decode cL_law 676 = .ok (.iconst 1, 1) := qdL_law_667_24.2.2.2.2.2.1
theorem dL_law_677 : decode cL_law 677 = .ok (.iadd, 1) := qdL_law_667_24.2.2.2.2.2.2.1
theorem dL_law_678 : decode cL_law 678 = .ok (.iaload, 1) := qdL_law_667_24.2.2.2.2.2.2.2.1
theorem dL_law_679 : decode cL_law 679 = .ok (.aload_n 0, 1) := qdL_law_667_24.2.2.2.2.2.2.2.2.1
theorem dL_law_680 : decode cL_law 680 = .ok (.iload 4, 2) := qdL_law_667_24.2.2.2.2.2.2.2.2.2.1
theorem dL_law_682 : decode cL_law 682 = .ok (.iconst 2, 1) := qdL_law_667_24.2.2.2.2.2.2.2.2.2.2.1
theorem dL_law_683 : decode cL_law 683 = .ok (.iadd, 1) := qdL_law_667_24.2.2.2.2.2.2.2.2.2.2.2.1
theorem dL_law_684 : decode cL_law 684 = .ok (.iaload, 1) := qdL_law_667_24.2.2.2.2.2.2.2.2.2.2.2.2.1
theorem dL_law_685 : decode cL_law 685 = .ok (.aload_n 0, 1) := qdL_law_667_24.2.2.2.2.2.2.2.2.2.2.2.2.2.1
theorem dL_law_686 : decode cL_law 686 = .ok (.iload 4, 2) := qdL_law_667_24.2.2.2.2.2.2.2.2.2.2.2.2.2.2.1
theorem dL_law_688 : decode cL_law 688 = .ok (.iconst 3, 1) := qdL_law_667_24.2.2.2.2.2.2.2.2.2.2.2.2.2.2.2.1
theorem dL_law_689 : decode cL_law 689 = .ok (.iadd, 1) := qdL_law_667_24.2.2.2.2.2.2.2.2.2.2.2.2.2.2.2.2.1
theorem dL_law_690 : decode cL_law 690 = .ok (.iaload, 1) := qdL_law_667_24.2.2.2.2.2.2.2.2.2.2.2.2.2.2.2.2.2.1
theorem dL_law_691 : decode cL_law 691 = .ok (.ifCond .eq 7, 3) := qdL_law_667_24.2.2.2.2.2.2.2.2.2.2.2.2.2.2.2.2.2.2.1
theorem dL_law_694 : decode cL_law 694 = .ok (.iconst 1, 1) := qdL_law_667_24.2.2.2.2.2.2.2.2.2.2.2.2.2.2.2.2.2.2.2.1
theorem dL_law_695 : decode cL_law 695 = .ok (.goto 4, 3) := qdL_law_667_24.2.2.2.2.2.2.2.2.2.2.2.2.2.2.2.2.2.2.2.2.1
theorem dL_law_698 : decode cL_law 698 = .ok (.iconst 0, 1) := qdL_law_667_24.2.2.2.2.2.2.2.2.2.2.2.2.2.2.2.2.2.2.2.2.2.1
theorem dL_law_699 : decode cL_law 699 = .ok (.aload_n 3, 1) := qdL_law_667_24.2.2.2.2.2.2.2.2.2.2.2.2.2.2.2.2.2.2.2.2.2.2.1
theorem dL_law_700 : decode cL_law 700 = .ok (.invokestatic 156, 3) := qdL_law_667_24.2.2.2.2.2.2.2.2.2.2.2.2.2.2.2.2.2.2.2.2.2.2.2.1
theorem qdL_law_703_24 : dcAll cL_law [(703, .istore 5, 2), (705, .aload_n 2, 1), (706, .aload_n 0, 1), (707, .iload 4, 2), (709, .iconst 1, 1), (710, .iadd, 1), (711, .iaload, 1), (712, .aload_n 0, 1), (713, .iload 4, 2), (715, .iconst 2, 1), (716, .iadd, 1), (717, .iaload, 1), (718, .aload_n 0, 1), (719, .iload 4, 2), (721, .iconst 3, 1), (722, .iadd, 1), (723, .iaload, 1), (724, .ifCond .eq 7, 3), (727, .iconst 1, 1), (728, .goto 4, 3), (731, .iconst 0, 1), (732, .invokevirtual 159, 3), (735, .istore 6, 2), (737, .goto 751, 3)] := dcAll_of (by decide +kernel)
theorem dL_law_703 : decode cL_law 703 = .ok (.istore 5, 2) := qdL_law_703_24.1
theorem dL_law_705 : decode cL_law 705 = .ok (.aload_n 2, 1) := qdL_law_703_24.2.1
theorem dL_law_706 : decode cL_law 706 = .ok (.aload_n 0, 1) := qdL_law_703_24.2.2.1
theorem dL_law_707 : decode cL_law 707 = .ok (.iload 4, 2) := qdL_law_703_24.2.2.2.1
theorem dL_law_709 : decode cL_law 709 = .ok (.iconst 1, 1) := qdL_law_703_24.2.2.2.2.1
theorem dL_law_710 : decode cL_law 710 = .ok (.iadd, 1) := qdL_law_703_24.2.2.2.2.2.1
theorem dL_law_711 : decode cL_law 711 = .ok (.iaload, 1) := qdL_law_703_24.2.2.2.2.2.2.1
theorem dL_law_712 : decode cL_law 712 = .ok (.aload_n 0, 1) := qdL_law_703_24.2.2.2.2.2.2.2.1
theorem dL_law_713 : decode cL_law 713 = .ok (.iload 4, 2) := qdL_law_703_24.2.2.2.2.2.2.2.2.1
theorem dL_law_715 : decode cL_law 715 = .ok (.iconst 2, 1) := qdL_law_703_24.2.2.2.2.2.2.2.2.2.1
theorem dL_law_716 : decode cL_law 716 = .ok (.iadd, 1) := qdL_law_703_24.2.2.2.2.2.2.2.2.2.2.1
theorem dL_law_717 : decode cL_law 717 = .ok (.iaload, 1) := qdL_law_703_24.2.2.2.2.2.2.2.2.2.2.2.1
theorem dL_law_718 : decode cL_law 718 = .ok (.aload_n 0, 1) := qdL_law_703_24.2.2.2.2.2.2.2.2.2.2.2.2.1
theorem dL_law_719 : decode cL_law 719 = .ok (.iload 4, 2) := qdL_law_703_24.2.2.2.2.2.2.2.2.2.2.2.2.2.1
theorem dL_law_721 : decode cL_law 721 = .ok (.iconst 3, 1) := qdL_law_703_24.2.2.2.2.2.2.2.2.2.2.2.2.2.2.1
theorem dL_law_722 : decode cL_law 722 = .ok (.iadd, 1) := qdL_law_703_24.2.2.2.2.2.2.2.2.2.2.2.2.2.2.2.1
theorem dL_law_723 : decode cL_law 723 = .ok (.iaload, 1) := qdL_law_703_24.2.2.2.2.2.2.2.2.2.2.2.2.2.2.2.2.1
theorem dL_law_724 : decode cL_law 724 = .ok (.ifCond .eq 7, 3) := qdL_law_703_24.2.2.2.2.2.2.2.2.2.2.2.2.2.2.2.2.2.1
theorem dL_law_727 : decode cL_law 727 = .ok (.iconst 1, 1) := qdL_law_703_24.2.2.2.2.2.2.2.2.2.2.2.2.2.2.2.2.2.2.1
theorem dL_law_728 : decode cL_law 728 = .ok (.goto 4, 3) := qdL_law_703_24.2.2.2.2.2.2.2.2.2.2.2.2.2.2.2.2.2.2.2.1
theorem dL_law_731 : decode cL_law 731 = .ok (.iconst 0, 1) := qdL_law_703_24.2.2.2.2.2.2.2.2.2.2.2.2.2.2.2.2.2.2.2.2.1
theorem dL_law_732 : decode cL_law 732 = .ok (.invokevirtual 159, 3) := qdL_law_703_24.2.2.2.2.2.2.2.2.2.2.2.2.2.2.2.2.2.2.2.2.2.1
theorem dL_law_735 : decode cL_law 735 = .ok (.istore 6, 2) := qdL_law_703_24.2.2.2.2.2.2.2.2.2.2.2.2.2.2.2.2.2.2.2.2.2.2.1
theorem dL_law_737 : decode cL_law 737 = .ok (.goto 751, 3) := qdL_law_703_24.2.2.2.2.2.2.2.2.2.2.2.2.2.2.2.2.2.2.2.2.2.2.2.1
theorem qdL_law_740_24 : dcAll cL_law [(740, .aload_n 1, 1), (741, .aload_n 0, 1), (742, .iload 4, 2), (744, .iconst 1, 1), (745, .iadd, 1), (746, .iaload, 1), (747, .aload_n 0, 1), (748, .iload 4, 2), (750, .iconst 2, 1), (751, .iadd, 1), (752, .iaload, 1), (753, .aload_n 3, 1), (754, .invokestatic 160, 3), (757, .istore 5, 2), (759, .aload_n 2, 1), (760, .aload_n 0, 1), (761, .iload 4, 2), (763, .iconst 1, 1), (764, .iadd, 1), (765, .iaload, 1), (766, .aload_n 0, 1), (767, .iload 4, 2), (769, .iconst 2, 1), (770, .iadd, 1)] := dcAll_of (by decide +kernel)
theorem dL_law_740 : decode cL_law 740 = .ok (.aload_n 1, 1) := qdL_law_740_24.1
theorem dL_law_741 : decode cL_law 741 = .ok (.aload_n 0, 1) := qdL_law_740_24.2.1
theorem dL_law_742 : decode cL_law 742 = .ok (.iload 4, 2) := qdL_law_740_24.2.2.1
theorem dL_law_744 : decode cL_law 744 = .ok (.iconst 1, 1) := qdL_law_740_24.2.2.2.1
theorem dL_law_745 : decode cL_law 745 = .ok (.iadd, 1) := qdL_law_740_24.2.2.2.2.1
theorem dL_law_746 : decode cL_law 746 = .ok (.iaload, 1) := qdL_law_740_24.2.2.2.2.2.1
theorem dL_law_747 : decode cL_law 747 = .ok (.aload_n 0, 1) := qdL_law_740_24.2.2.2.2.2.2.1
theorem dL_law_748 : decode cL_law 748 = .ok (.iload 4, 2) := qdL_law_740_24.2.2.2.2.2.2.2.1
theorem dL_law_750 : decode cL_law 750 = .ok (.iconst 2, 1) := qdL_law_740_24.2.2.2.2.2.2.2.2.1
theorem dL_law_751 : decode cL_law 751 = .ok (.iadd, 1) := qdL_law_740_24.2.2.2.2.2.2.2.2.2.1
theorem dL_law_752 : decode cL_law 752 = .ok (.iaload, 1) := qdL_law_740_24.2.2.2.2.2.2.2.2.2.2.1
theorem dL_law_753 : decode cL_law 753 = .ok (.aload_n 3, 1) := qdL_law_740_24.2.2.2.2.2.2.2.2.2.2.2.1
theorem dL_law_754 : decode cL_law 754 = .ok (.invokestatic 160, 3) := qdL_law_740_24.2.2.2.2.2.2.2.2.2.2.2.2.1
theorem dL_law_757 : decode cL_law 757 = .ok (.istore 5, 2) := qdL_law_740_24.2.2.2.2.2.2.2.2.2.2.2.2.2.1
theorem dL_law_759 : decode cL_law 759 = .ok (.aload_n 2, 1) := qdL_law_740_24.2.2.2.2.2.2.2.2.2.2.2.2.2.2.1
theorem dL_law_760 : decode cL_law 760 = .ok (.aload_n 0, 1) := qdL_law_740_24.2.2.2.2.2.2.2.2.2.2.2.2.2.2.2.1
theorem dL_law_761 : decode cL_law 761 = .ok (.iload 4, 2) := qdL_law_740_24.2.2.2.2.2.2.2.2.2.2.2.2.2.2.2.2.1
theorem dL_law_763 : decode cL_law 763 = .ok (.iconst 1, 1) := qdL_law_740_24.2.2.2.2.2.2.2.2.2.2.2.2.2.2.2.2.2.1
theorem dL_law_764 : decode cL_law 764 = .ok (.iadd, 1) := qdL_law_740_24.2.2.2.2.2.2.2.2.2.2.2.2.2.2.2.2.2.2.1
theorem dL_law_765 : decode cL_law 765 = .ok (.iaload, 1) := qdL_law_740_24.2.2.2.2.2.2.2.2.2.2.2.2.2.2.2.2.2.2.2.1
theorem dL_law_766 : decode cL_law 766 = .ok (.aload_n 0, 1) := qdL_law_740_24.2.2.2.2.2.2.2.2.2.2.2.2.2.2.2.2.2.2.2.2.1
theorem dL_law_767 : decode cL_law 767 = .ok (.iload 4, 2) := qdL_law_740_24.2.2.2.2.2.2.2.2.2.2.2.2.2.2.2.2.2.2.2.2.2.1
theorem dL_law_769 : decode cL_law 769 = .ok (.iconst 2, 1) := qdL_law_740_24.2.2.2.2.2.2.2.2.2.2.2.2.2.2.2.2.2.2.2.2.2.2.1
theorem dL_law_770 : decode cL_law 770 = .ok (.iadd, 1) := qdL_law_740_24.2.2.2.2.2.2.2.2.2.2.2.2.2.2.2.2.2.2.2.2.2.2.2.1
theorem qdL_law_771_24 : dcAll cL_law [(771, .iaload, 1), (772, .invokevirtual 162, 3), (775, .istore 6, 2), (777, .goto 711, 3), (780, .aload_n 1, 1), (781, .aload_n 0, 1), (782, .iload 4, 2), (784, .iconst 1, 1), (785, .iadd, 1), (786, .iaload, 1), (787, .aload_n 0, 1), (788, .iload 4, 2), (790, .iconst 2, 1), (791, .iadd, 1), (792, .iaload, 1), (793, .aload_n 3, 1), (794, .invokestatic 163, 3), (797, .istore 5, 2), (799, .aload_n 2, 1), (800, .aload_n 0, 1), (801, .iload 4, 2), (803, .iconst 1, 1), (804, .iadd, 1), (805, .iaload, 1)] := dcAll_of (by decide +kernel)
theorem dL_law_771 : decode cL_law 771 = .ok (.iaload, 1) := qdL_law_771_24.1
theorem dL_law_772 : decode cL_law 772 = .ok (.invokevirtual 162, 3) := qdL_law_771_24.2.1
theorem dL_law_775 : decode cL_law 775 = .ok (.istore 6, 2) := qdL_law_771_24.2.2.1
theorem dL_law_777 : decode cL_law 777 = .ok (.goto 711, 3) := qdL_law_771_24.2.2.2.1
theorem dL_law_780 : decode cL_law 780 = .ok (.aload_n 1, 1) := qdL_law_771_24.2.2.2.2.1
theorem dL_law_781 : decode cL_law 781 = .ok (.aload_n 0, 1) := qdL_law_771_24.2.2.2.2.2.1
theorem dL_law_782 : decode cL_law 782 = .ok (.iload 4, 2) := qdL_law_771_24.2.2.2.2.2.2.1
theorem dL_law_784 : decode cL_law 784 = .ok (.iconst 1, 1) := qdL_law_771_24.2.2.2.2.2.2.2.1
theorem dL_law_785 : decode cL_law 785 = .ok (.iadd, 1) := qdL_law_771_24.2.2.2.2.2.2.2.2.1
theorem dL_law_786 : decode cL_law 786 = .ok (.iaload, 1) := qdL_law_771_24.2.2.2.2.2.2.2.2.2.1
theorem dL_law_787 : decode cL_law 787 = .ok (.aload_n 0, 1) := qdL_law_771_24.2.2.2.2.2.2.2.2.2.2.1
theorem dL_law_788 : decode cL_law 788 = .ok (.iload 4, 2) := qdL_law_771_24.2.2.2.2.2.2.2.2.2.2.2.1
theorem dL_law_790 : decode cL_law 790 = .ok (.iconst 2, 1) := qdL_law_771_24.2.2.2.2.2.2.2.2.2.2.2.2.1
theorem dL_law_791 : decode cL_law 791 = .ok (.iadd, 1) := qdL_law_771_24.2.2.2.2.2.2.2.2.2.2.2.2.2.1
theorem dL_law_792 : decode cL_law 792 = .ok (.iaload, 1) := qdL_law_771_24.2.2.2.2.2.2.2.2.2.2.2.2.2.2.1
theorem dL_law_793 : decode cL_law 793 = .ok (.aload_n 3, 1) := qdL_law_771_24.2.2.2.2.2.2.2.2.2.2.2.2.2.2.2.1
theorem dL_law_794 : decode cL_law 794 = .ok (.invokestatic 163, 3) := qdL_law_771_24.2.2.2.2.2.2.2.2.2.2.2.2.2.2.2.2.1
theorem dL_law_797 : decode cL_law 797 = .ok (.istore 5, 2) := qdL_law_771_24.2.2.2.2.2.2.2.2.2.2.2.2.2.2.2.2.2.1
theorem dL_law_799 : decode cL_law 799 = .ok (.aload_n 2, 1) := qdL_law_771_24.2.2.2.2.2.2.2.2.2.2.2.2.2.2.2.2.2.2.1
theorem dL_law_800 : decode cL_law 800 = .ok (.aload_n 0, 1) := qdL_law_771_24.2.2.2.2.2.2.2.2.2.2.2.2.2.2.2.2.2.2.2.1
theorem dL_law_801 : decode cL_law 801 = .ok (.iload 4, 2) := qdL_law_771_24.2.2.2.2.2.2.2.2.2.2.2.2.2.2.2.2.2.2.2.2.1
theorem dL_law_803 : decode cL_law 803 = .ok (.iconst 1, 1) := qdL_law_771_24.2.2.2.2.2.2.2.2.2.2.2.2.2.2.2.2.2.2.2.2.2.1
theorem dL_law_804 : decode cL_law 804 = .ok (.iadd, 1) := qdL_law_771_24.2.2.2.2.2.2.2.2.2.2.2.2.2.2.2.2.2.2.2.2.2.2.1
theorem dL_law_805 : decode cL_law 805 = .ok (.iaload, 1) := qdL_law_771_24.2.2.2.2.2.2.2.2.2.2.2.2.2.2.2.2.2.2.2.2.2.2.2.1
theorem qdL_law_806_24 : dcAll cL_law [(806, .aload_n 0, 1), (807, .iload 4, 2), (809, .iconst 2, 1), (810, .iadd, 1), (811, .iaload, 1), (812, .invokevirtual 165, 3), (815, .istore 6, 2), (817, .goto 671, 3), (820, .aload_n 1, 1), (821, .aload_n 0, 1), (822, .iload 4, 2), (824, .iconst 1, 1), (825, .iadd, 1), (826, .iaload, 1), (827, .aload_n 0, 1), (828, .iload 4, 2), (830, .iconst 2, 1), (831, .iadd, 1), (832, .iaload, 1), (833, .aload_n 3, 1), (834, .invokestatic 166, 3), (837, .istore 5, 2), (839, .aload_n 2, 1), (840, .aload_n 0, 1)] := dcAll_of (by decide +kernel)
theorem dL_law_806 : decode cL_law 806 = .ok (.aload_n 0, 1) := qdL_law_806_24.1
theorem dL_law_807 : decode cL_law 807 = .ok (.iload 4, 2) := qdL_law_806_24.2.1
theorem dL_law_809 : decode cL_law 809 = .ok (.iconst 2, 1) := qdL_law_806_24.2.2.1
theorem dL_law_810 : decode cL_law 810 = .ok (.iadd, 1) := qdL_law_806_24.2.2.2.1
theorem dL_law_811 : decode cL_law 811 = .ok (.iaload, 1) := qdL_law_806_24.2.2.2.2.1
theorem dL_law_812 : decode cL_law 812 = .ok (.invokevirtual 165, 3) := qdL_law_806_24.2.2.2.2.2.1
theorem dL_law_815 : decode cL_law 815 = .ok (.istore 6, 2) := qdL_law_806_24.2.2.2.2.2.2.1
theorem dL_law_817 : decode cL_law 817 = .ok (.goto 671, 3) := qdL_law_806_24.2.2.2.2.2.2.2.1
theorem dL_law_820 : decode cL_law 820 = .ok (.aload_n 1, 1) := qdL_law_806_24.2.2.2.2.2.2.2.2.1
theorem dL_law_821 : decode cL_law 821 = .ok (.aload_n 0, 1) := qdL_law_806_24.2.2.2.2.2.2.2.2.2.1
theorem dL_law_822 : decode cL_law 822 = .ok (.iload 4, 2) := qdL_law_806_24.2.2.2.2.2.2.2.2.2.2.1
theorem dL_law_824 : decode cL_law 824 = .ok (.iconst 1, 1) := qdL_law_806_24.2.2.2.2.2.2.2.2.2.2.2.1
theorem dL_law_825 : decode cL_law 825 = .ok (.iadd, 1) := qdL_law_806_24.2.2.2.2.2.2.2.2.2.2.2.2.1
theorem dL_law_826 : decode cL_law 826 = .ok (.iaload, 1) := qdL_law_806_24.2.2.2.2.2.2.2.2.2.2.2.2.2.1
theorem dL_law_827 : decode cL_law 827 = .ok (.aload_n 0, 1) := qdL_law_806_24.2.2.2.2.2.2.2.2.2.2.2.2.2.2.1
theorem dL_law_828 : decode cL_law 828 = .ok (.iload 4, 2) := qdL_law_806_24.2.2.2.2.2.2.2.2.2.2.2.2.2.2.2.1
theorem dL_law_830 : decode cL_law 830 = .ok (.iconst 2, 1) := qdL_law_806_24.2.2.2.2.2.2.2.2.2.2.2.2.2.2.2.2.1
theorem dL_law_831 : decode cL_law 831 = .ok (.iadd, 1) := qdL_law_806_24.2.2.2.2.2.2.2.2.2.2.2.2.2.2.2.2.2.1
theorem dL_law_832 : decode cL_law 832 = .ok (.iaload, 1) := qdL_law_806_24.2.2.2.2.2.2.2.2.2.2.2.2.2.2.2.2.2.2.1
theorem dL_law_833 : decode cL_law 833 = .ok (.aload_n 3, 1) := qdL_law_806_24.2.2.2.2.2.2.2.2.2.2.2.2.2.2.2.2.2.2.2.1
theorem dL_law_834 : decode cL_law 834 = .ok (.invokestatic 166, 3) := qdL_law_806_24.2.2.2.2.2.2.2.2.2.2.2.2.2.2.2.2.2.2.2.2.1
theorem dL_law_837 : decode cL_law 837 = .ok (.istore 5, 2) := qdL_law_806_24.2.2.2.2.2.2.2.2.2.2.2.2.2.2.2.2.2.2.2.2.2.1
theorem dL_law_839 : decode cL_law 839 = .ok (.aload_n 2, 1) := qdL_law_806_24.2.2.2.2.2.2.2.2.2.2.2.2.2.2.2.2.2.2.2.2.2.2.1
theorem dL_law_840 : decode cL_law 840 = .ok (.aload_n 0, 1) := qdL_law_806_24.2.2.2.2.2.2.2.2.2.2.2.2.2.2.2.2.2.2.2.2.2.2.2.1
theorem qdL_law_841_24 : dcAll cL_law [(841, .iload 4, 2), (843, .iconst 1, 1), (844, .iadd, 1), (845, .iaload, 1), (846, .aload_n 0, 1), (847, .iload 4, 2), (849, .iconst 2, 1), (850, .iadd, 1), (851, .iaload, 1), (852, .invokevirtual 168, 3), (855, .astore 6, 2), (857, .goto 631, 3), (860, .aload_n 1, 1), (861, .aload_n 0, 1), (862, .iload 4, 2), (864, .iconst 1, 1), (865, .iadd, 1), (866, .iaload, 1), (867, .aload_n 0, 1), (868, .iload 4, 2), (870, .iconst 2, 1), (871, .iadd, 1), (872, .iaload, 1), (873, .aload_n 0, 1)] := dcAll_of (by decide +kernel)
theorem dL_law_841 : decode cL_law 841 = .ok (.iload 4, 2) := qdL_law_841_24.1
theorem dL_law_843 : decode cL_law 843 = .ok (.iconst 1, 1) := qdL_law_841_24.2.1
theorem dL_law_844 : decode cL_law 844 = .ok (.iadd, 1) := qdL_law_841_24.2.2.1
theorem dL_law_845 : decode cL_law 845 = .ok (.iaload, 1) := qdL_law_841_24.2.2.2.1
theorem dL_law_846 : decode cL_law 846 = .ok (.aload_n 0, 1) := qdL_law_841_24.2.2.2.2.1
theorem dL_law_847 : decode cL_law 847 = .ok (.iload 4, 2) := qdL_law_841_24.2.2.2.2.2.1
theorem dL_law_849 : decode cL_law 849 = .ok (.iconst 2, 1) := qdL_law_841_24.2.2.2.2.2.2.1
theorem dL_law_850 : decode cL_law 850 = .ok (.iadd, 1) := qdL_law_841_24.2.2.2.2.2.2.2.1
theorem dL_law_851 : decode cL_law 851 = .ok (.iaload, 1) := qdL_law_841_24.2.2.2.2.2.2.2.2.1
theorem dL_law_852 : decode cL_law 852 = .ok (.invokevirtual 168, 3) := qdL_law_841_24.2.2.2.2.2.2.2.2.2.1
theorem dL_law_855 : decode cL_law 855 = .ok (.astore 6, 2) := qdL_law_841_24.2.2.2.2.2.2.2.2.2.2.1
theorem dL_law_857 : decode cL_law 857 = .ok (.goto 631, 3) := qdL_law_841_24.2.2.2.2.2.2.2.2.2.2.2.1
theorem dL_law_860 : decode cL_law 860 = .ok (.aload_n 1, 1) := qdL_law_841_24.2.2.2.2.2.2.2.2.2.2.2.2.1
theorem dL_law_861 : decode cL_law 861 = .ok (.aload_n 0, 1) := qdL_law_841_24.2.2.2.2.2.2.2.2.2.2.2.2.2.1
theorem dL_law_862 : decode cL_law 862 = .ok (.iload 4, 2) := qdL_law_841_24.2.2.2.2.2.2.2.2.2.2.2.2.2.2.1
theorem dL_law_864 : decode cL_law 864 = .ok (.iconst 1, 1) := qdL_law_841_24.2.2.2.2.2.2.2.2.2.2.2.2.2.2.2.1
theorem dL_law_865 : decode cL_law 865 = .ok (.iadd, 1) := qdL_law_841_24.2.2.2.2.2.2.2.2.2.2.2.2.2.2.2.2.1
theorem dL_law_866 : decode cL_law 866 = .ok (.iaload, 1) := qdL_law_841_24.2.2.2.2.2.2.2.2.2.2.2.2.2.2.2.2.2.1
theorem dL_law_867 : decode cL_law 867 = .ok (.aload_n 0, 1) := qdL_law_841_24.2.2.2.2.2.2.2.2.2.2.2.2.2.2.2.2.2.2.1
theorem dL_law_868 : decode cL_law 868 = .ok (.iload 4, 2) := qdL_law_841_24.2.2.2.2.2.2.2.2.2.2.2.2.2.2.2.2.2.2.2.1
theorem dL_law_870 : decode cL_law 870 = .ok (.iconst 2, 1) := qdL_law_841_24.2.2.2.2.2.2.2.2.2.2.2.2.2.2.2.2.2.2.2.2.1
theorem dL_law_871 : decode cL_law 871 = .ok (.iadd, 1) := qdL_law_841_24.2.2.2.2.2.2.2.2.2.2.2.2.2.2.2.2.2.2.2.2.2.1
theorem dL_law_872 : decode cL_law 872 = .ok (.iaload, 1) := qdL_law_841_24.2.2.2.2.2.2.2.2.2.2.2.2.2.2.2.2.2.2.2.2.2.2.1
theorem dL_law_873 : decode cL_law 873 = .ok (.aload_n 0, 1) := qdL_law_841_24.2.2.2.2.2.2.2.2.2.2.2.2.2.2.2.2.2.2.2.2.2.2.2.1
theorem qdL_law_874_24 : dcAll cL_law [(874, .iload 4, 2), (876, .iconst 3, 1), (877, .iadd, 1), (878, .iaload, 1), (879, .aload_n 0, 1), (880, .iload 4, 2), (882, .iconst 4, 1), (883, .iadd, 1), (884, .iaload, 1), (885, .aload_n 3, 1), (886, .invokestatic 169, 3), (889, .istore 5, 2), (891, .aload_n 2, 1), (892, .aload_n 0, 1), (893, .iload 4, 2), (895, .iconst 1, 1), (896, .iadd, 1), (897, .iaload, 1), (898, .aload_n 0, 1), (899, .iload 4, 2), (901, .iconst 2, 1), (902, .iadd, 1), (903, .iaload, 1), (904, .aload_n 0, 1)] := dcAll_of (by decide +kernel)
theorem dL_law_874 : decode cL_law 874 = .ok (.iload 4, 2) := qdL_law_874_24.1
theorem dL_law_876 : decode cL_law 876 = .ok (.iconst 3, 1) := qdL_law_874_24.2.1
theorem dL_law_877 : decode cL_law 877 = .ok (.iadd, 1) := qdL_law_874_24.2.2.1
theorem dL_law_878 : decode cL_law 878 = .ok (.iaload, 1) := qdL_law_874_24.2.2.2.1
theorem dL_law_879 : decode cL_law 879 = .ok (.aload_n 0, 1) := qdL_law_874_24.2.2.2.2.1
theorem dL_law_880 : decode cL_law 880 = .ok (.iload 4, 2) := qdL_law_874_24.2.2.2.2.2.1
theorem dL_law_882 : decode cL_law 882 = .ok (.iconst 4, 1) := qdL_law_874_24.2.2.2.2.2.2.1
theorem dL_law_883 : decode cL_law 883 = .ok (.iadd, 1) := qdL_law_874_24.2.2.2.2.2.2.2.1
theorem dL_law_884 : decode cL_law 884 = .ok (.iaload, 1) := qdL_law_874_24.2.2.2.2.2.2.2.2.1
theorem dL_law_885 : decode cL_law 885 = .ok (.aload_n 3, 1) := qdL_law_874_24.2.2.2.2.2.2.2.2.2.1
theorem dL_law_886 : decode cL_law 886 = .ok (.invokestatic 169, 3) := qdL_law_874_24.2.2.2.2.2.2.2.2.2.2.1
theorem dL_law_889 : decode cL_law 889 = .ok (.istore 5, 2) := qdL_law_874_24.2.2.2.2.2.2.2.2.2.2.2.1
theorem dL_law_891 : decode cL_law 891 = .ok (.aload_n 2, 1) := qdL_law_874_24.2.2.2.2.2.2.2.2.2.2.2.2.1
theorem dL_law_892 : decode cL_law 892 = .ok (.aload_n 0, 1) := qdL_law_874_24.2.2.2.2.2.2.2.2.2.2.2.2.2.1
theorem dL_law_893 : decode cL_law 893 = .ok (.iload 4, 2) := qdL_law_874_24.2.2.2.2.2.2.2.2.2.2.2.2.2.2.1
theorem dL_law_895 : decode cL_law 895 = .ok (.iconst 1, 1) := qdL_law_874_24.2.2.2.2.2.2.2.2.2.2.2.2.2.2.2.1
theorem dL_law_896 : decode cL_law 896 = .ok (.iadd, 1) := qdL_law_874_24.2.2.2.2.2.2.2.2.2.2.2.2.2.2.2.2.1
theorem dL_law_897 : decode cL_law 897 = .ok (.iaload, 1) := qdL_law_874_24.2.2.2.2.2.2.2.2.2.2.2.2.2.2.2.2.2.1
theorem dL_law_898 : decode cL_law 898 = .ok (.aload_n 0, 1) := qdL_law_874_24.2.2.2.2.2.2.2.2.2.2.2.2.2.2.2.2.2.2.1
theorem dL_law_899 : decode cL_law 899 = .ok (.iload 4, 2) := qdL_law_874_24.2.2.2.2.2.2.2.2.2.2.2.2.2.2.2.2.2.2.2.1
theorem dL_law_901 : decode cL_law 901 = .ok (.iconst 2, 1) := qdL_law_874_24.2.2.2.2.2.2.2.2.2.2.2.2.2.2.2.2.2.2.2.2.1
theorem dL_law_902 : decode cL_law 902 = .ok (.iadd, 1) := qdL_law_874_24.2.2.2.2.2.2.2.2.2.2.2.2.2.2.2.2.2.2.2.2.2.1
theorem dL_law_903 : decode cL_law 903 = .ok (.iaload, 1) := qdL_law_874_24.2.2.2.2.2.2.2.2.2.2.2.2.2.2.2.2.2.2.2.2.2.2.1
theorem dL_law_904 : decode cL_law 904 = .ok (.aload_n 0, 1) := qdL_law_874_24.2.2.2.2.2.2.2.2.2.2.2.2.2.2.2.2.2.2.2.2.2.2.2.1
theorem qdL_law_905_24 : dcAll cL_law [(905, .iload 4, 2), (907, .iconst 3, 1), (908, .iadd, 1), (909, .iaload, 1), (910, .aload_n 0, 1), (911, .iload 4, 2), (913, .iconst 4, 1), (914, .iadd, 1), (915, .iaload, 1), (916, .invokevirtual 171, 3), (919, .astore 6, 2), (921, .goto 567, 3), (924, .aload_n 1, 1), (925, .aload_n 0, 1), (926, .iload 4, 2), (928, .iconst 1, 1), (929, .iadd, 1), (930, .iaload, 1), (931, .aload_n 0, 1), (932, .iload 4, 2), (934, .iconst 2, 1), (935, .iadd, 1), (936, .iaload, 1), (937, .aload_n 0, 1)] := dcAll_of (by decide +kernel)
theorem dL_law_905 : decode cL_law 905 = .ok (.iload 4, 2) := qdL_law_905_24.1
theorem dL_law_907 : decode cL_law 907 = .ok (.iconst 3, 1) := qdL_law_905_24.2.1
theorem dL_law_908 : decode cL_law 908 = .ok (.iadd, 1) := qdL_law_905_24.2.2.1
theorem dL_law_909 : decode cL_law 909 = .ok (.iaload, 1) := qdL_law_905_24.2.2.2.1
theorem dL_law_910 : decode cL_law 910 = .ok (.aload_n 0, 1) := qdL_law_905_24.2.2.2.2.1
theorem dL_law_911 : decode cL_law 911 = .ok (.iload 4, 2) := qdL_law_905_24.2.2.2.2.2.1
theorem dL_law_913 : decode cL_law 913 = .ok (.iconst 4, 1) := qdL_law_905_24.2.2.2.2.2.2.1
theorem dL_law_914 : decode cL_law 914 = .ok (.iadd, 1) := qdL_law_905_24.2.2.2.2.2.2.2.1
theorem dL_law_915 : decode cL_law 915 = .ok (.iaload, 1) := qdL_law_905_24.2.2.2.2.2.2.2.2.1
theorem dL_law_916 : decode cL_law 916 = .ok (.invokevirtual 171, 3) := qdL_law_905_24.2.2.2.2.2.2.2.2.2.1
theorem dL_law_919 : decode cL_law 919 = .ok (.astore 6, 2) := qdL_law_905_24.2.2.2.2.2.2.2.2.2.2.1
theorem dL_law_921 : decode cL_law 921 = .ok (.goto 567, 3) := qdL_law_905_24.2.2.2.2.2.2.2.2.2.2.2.1
theorem dL_law_924 : decode cL_law 924 = .ok (.aload_n 1, 1) := qdL_law_905_24.2.2.2.2.2.2.2.2.2.2.2.2.1
theorem dL_law_925 : decode cL_law 925 = .ok (.aload_n 0, 1) := qdL_law_905_24.2.2.2.2.2.2.2.2.2.2.2.2.2.1
theorem dL_law_926 : decode cL_law 926 = .ok (.iload 4, 2) := qdL_law_905_24.2.2.2.2.2.2.2.2.2.2.2.2.2.2.1
theorem dL_law_928 : decode cL_law 928 = .ok (.iconst 1, 1) := qdL_law_905_24.2.2.2.2.2.2.2.2.2.2.2.2.2.2.2.1
theorem dL_law_929 : decode cL_law 929 = .ok (.iadd, 1) := qdL_law_905_24.2.2.2.2.2.2.2.2.2.2.2.2.2.2.2.2.1
theorem dL_law_930 : decode cL_law 930 = .ok (.iaload, 1) := qdL_law_905_24.2.2.2.2.2.2.2.2.2.2.2.2.2.2.2.2.2.1
theorem dL_law_931 : decode cL_law 931 = .ok (.aload_n 0, 1) := qdL_law_905_24.2.2.2.2.2.2.2.2.2.2.2.2.2.2.2.2.2.2.1
theorem dL_law_932 : decode cL_law 932 = .ok (.iload 4, 2) := qdL_law_905_24.2.2.2.2.2.2.2.2.2.2.2.2.2.2.2.2.2.2.2.1
theorem dL_law_934 : decode cL_law 934 = .ok (.iconst 2, 1) := qdL_law_905_24.2.2.2.2.2.2.2.2.2.2.2.2.2.2.2.2.2.2.2.2.1
theorem dL_law_935 : decode cL_law 935 = .ok (.iadd, 1) := qdL_law_905_24.2.2.2.2.2.2.2.2.2.2.2.2.2.2.2.2.2.2.2.2.2.1
theorem dL_law_936 : decode cL_law 936 = .ok (.iaload, 1) := qdL_law_905_24.2.2.2.2.2.2.2.2.2.2.2.2.2.2.2.2.2.2.2.2.2.2.1
theorem dL_law_937 : decode cL_law 937 = .ok (.aload_n 0, 1) := qdL_law_905_24.2.2.2.2.2.2.2.2.2.2.2.2.2.2.2.2.2.2.2.2.2.2.2.1
theorem qdL_law_938_24 : dcAll cL_law [(938, .iload 4, 2), (940, .iconst 3, 1), (941, .iadd, 1), (942, .iaload, 1), (943, .aload_n 3, 1), (944, .invokestatic 172, 3), (947, .istore 5, 2), (949, .aload_n 2, 1), (950, .aload_n 0, 1), (951, .iload 4, 2), (953, .iconst 1, 1), (954, .iadd, 1), (955, .iaload, 1), (956, .aload_n 0, 1), (957, .iload 4, 2), (959, .iconst 2, 1), (960, .iadd, 1), (961, .iaload, 1), (962, .aload_n 0, 1), (963, .iload 4, 2), (965, .iconst 3, 1), (966, .iadd, 1), (967, .iaload, 1), (968, .invokevirtual 174, 3)] := dcAll_of (by decide +kernel)
theorem dL_law_938 : decode cL_law 938 = .ok (.iload 4, 2) := qdL_law_938_24.1
theorem dL_law_940 : decode cL_law 940 = .ok (.iconst 3, 1) := qdL_law_938_24.2.1
theorem dL_law_941 : decode cL_law 941 = .ok (.iadd, 1) := qdL_law_938_24.2.2.1
theorem dL_law_942 : decode cL_law 942 = .ok (.iaload, 1) := qdL_law_938_24.2.2.2.1
theorem dL_law_943 : decode cL_law 943 = .ok (.aload_n 3, 1) := qdL_law_938_24.2.2.2.2.1
theorem dL_law_944 : decode cL_law 944 = .ok (.invokestatic 172, 3) := qdL_law_938_24.2.2.2.2.2.1
theorem dL_law_947 : decode cL_law 947 = .ok (.istore 5, 2) := qdL_law_938_24.2.2.2.2.2.2.1
theorem dL_law_949 : decode cL_law 949 = .ok (.aload_n 2, 1) := qdL_law_938_24.2.2.2.2.2.2.2.1
theorem dL_law_950 : decode cL_law 950 = .ok (.aload_n 0, 1) := qdL_law_938_24.2.2.2.2.2.2.2.2.1
theorem dL_law_951 : decode cL_law 951 = .ok (.iload 4, 2) := qdL_law_938_24.2.2.2.2.2.2.2.2.2.1
theorem dL_law_953 : decode cL_law 953 = .ok (.iconst 1, 1) := qdL_law_938_24.2.2.2.2.2.2.2.2.2.2.1
theorem dL_law_954 : decode cL_law 954 = .ok (.iadd, 1) := qdL_law_938_24.2.2.2.2.2.2.2.2.2.2.2.1
theorem dL_law_955 : decode cL_law 955 = .ok (.iaload, 1) := qdL_law_938_24.2.2.2.2.2.2.2.2.2.2.2.2.1
theorem dL_law_956 : decode cL_law 956 = .ok (.aload_n 0, 1) := qdL_law_938_24.2.2.2.2.2.2.2.2.2.2.2.2.2.1
theorem dL_law_957 : decode cL_law 957 = .ok (.iload 4, 2) := qdL_law_938_24.2.2.2.2.2.2.2.2.2.2.2.2.2.2.1
theorem dL_law_959 : decode cL_law 959 = .ok (.iconst 2, 1) := qdL_law_938_24.2.2.2.2.2.2.2.2.2.2.2.2.2.2.2.1
theorem dL_law_960 : decode cL_law 960 = .ok (.iadd, 1) := qdL_law_938_24.2.2.2.2.2.2.2.2.2.2.2.2.2.2.2.2.1
theorem dL_law_961 : decode cL_law 961 = .ok (.iaload, 1) := qdL_law_938_24.2.2.2.2.2.2.2.2.2.2.2.2.2.2.2.2.2.1
theorem dL_law_962 : decode cL_law 962 = .ok (.aload_n 0, 1) := qdL_law_938_24.2.2.2.2.2.2.2.2.2.2.2.2.2.2.2.2.2.2.1
theorem dL_law_963 : decode cL_law 963 = .ok (.iload 4, 2) := qdL_law_938_24.2.2.2.2.2.2.2.2.2.2.2.2.2.2.2.2.2.2.2.1
theorem dL_law_965 : decode cL_law 965 = .ok (.iconst 3, 1) := qdL_law_938_24.2.2.2.2.2.2.2.2.2.2.2.2.2.2.2.2.2.2.2.2.1
theorem dL_law_966 : decode cL_law 966 = .ok (.iadd, 1) := qdL_law_938_24.2.2.2.2.2.2.2.2.2.2.2.2.2.2.2.2.2.2.2.2.2.1
theorem dL_law_967 : decode cL_law 967 = .ok (.iaload, 1) := qdL_law_938_24.2.2.2.2.2.2.2.2.2.2.2.2.2.2.2.2.2.2.2.2.2.2.1
theorem dL_law_968 : decode cL_law 968 = .ok (.invokevirtual 174, 3) := qdL_law_938_24.2.2.2.2.2.2.2.2.2.2.2.2.2.2.2.2.2.2.2.2.2.2.2.1
theorem qdL_law_971_24 : dcAll cL_law [(971, .astore 6, 2), (973, .goto 515, 3), (976, .aload_n 1, 1), (977, .aload_n 0, 1), (978, .iload 4, 2), (980, .iconst 1, 1), (981, .iadd, 1), (982, .iaload, 1), (983, .aload_n 0, 1), (984, .iload 4, 2), (986, .iconst 2, 1), (987, .iadd, 1), (988, .iaload, 1), (989, .aload_n 3, 1), (990, .invokestatic 175, 3), (993, .istore 5, 2), (995, .aload_n 2, 1), (996, .aload_n 0, 1), (997, .iload 4, 2), (999, .iconst 1, 1), (1000, .iadd, 1), (1001, .iaload, 1), (1002, .aload_n 0, 1), (1003, .iload 4, 2)] := dcAll_of (by decide +kernel)
theorem dL_law_971 : decode cL_law 971 = .ok (.astore 6, 2) := qdL_law_971_24.1
theorem dL_law_973 : decode cL_law 973 = .ok (.goto 515, 3) := qdL_law_971_24.2.1
theorem dL_law_976 : decode cL_law 976 = .ok (.aload_n 1, 1) := qdL_law_971_24.2.2.1
theorem dL_law_977 : decode cL_law 977 = .ok (.aload_n 0, 1) := qdL_law_971_24.2.2.2.1
theorem dL_law_978 : decode cL_law 978 = .ok (.iload 4, 2) := qdL_law_971_24.2.2.2.2.1
theorem dL_law_980 : decode cL_law 980 = .ok (.iconst 1, 1) := qdL_law_971_24.2.2.2.2.2.1
theorem dL_law_981 : decode cL_law 981 = .ok (.iadd, 1) := qdL_law_971_24.2.2.2.2.2.2.1
theorem dL_law_982 : decode cL_law 982 = .ok (.iaload, 1) := qdL_law_971_24.2.2.2.2.2.2.2.1
theorem dL_law_983 : decode cL_law 983 = .ok (.aload_n 0, 1) := qdL_law_971_24.2.2.2.2.2.2.2.2.1
theorem dL_law_984 : decode cL_law 984 = .ok (.iload 4, 2) := qdL_law_971_24.2.2.2.2.2.2.2.2.2.1
theorem dL_law_986 : decode cL_law 986 = .ok (.iconst 2, 1) := qdL_law_971_24.2.2.2.2.2.2.2.2.2.2.1
theorem dL_law_987 : decode cL_law 987 = .ok (.iadd, 1) := qdL_law_971_24.2.2.2.2.2.2.2.2.2.2.2.1
theorem dL_law_988 : decode cL_law 988 = .ok (.iaload, 1) := qdL_law_971_24.2.2.2.2.2.2.2.2.2.2.2.2.1
theorem dL_law_989 : decode cL_law 989 = .ok (.aload_n 3, 1) := qdL_law_971_24.2.2.2.2.2.2.2.2.2.2.2.2.2.1
theorem dL_law_990 : decode cL_law 990 = .ok (.invokestatic 175, 3) := qdL_law_971_24.2.2.2.2.2.2.2.2.2.2.2.2.2.2.1
theorem dL_law_993 : decode cL_law 993 = .ok (.istore 5, 2) := qdL_law_971_24.2.2.2.2.2.2.2.2.2.2.2.2.2.2.2.1
theorem dL_law_995 : decode cL_law 995 = .ok (.aload_n 2, 1) := qdL_law_971_24.2.2.2.2.2.2.2.2.2.2.2.2.2.2.2.2.1
theorem dL_law_996 : decode cL_law 996 = .ok (.aload_n 0, 1) := qdL_law_971_24.2.2.2.2.2.2.2.2.2.2.2.2.2.2.2.2.2.1
theorem dL_law_997 : decode cL_law 997 = .ok (.iload 4, 2) := qdL_law_971_24.2.2.2.2.2.2.2.2.2.2.2.2.2.2.2.2.2.2.1
theorem dL_law_999 : decode cL_law 999 = .ok (.iconst 1, 1) := qdL_law_971_24.2.2.2.2.2.2.2.2.2.2.2.2.2.2.2.2.2.2.2.1
theorem dL_law_1000 : decode cL_law 1000 = .ok (.iadd, 1) := qdL_law_971_24.2.2.2.2.2.2.2.2.2.2.2.2.2.2.2.2.2.2.2.2.1
theorem dL_law_1001 : decode cL_law 1001 = .ok (.iaload, 1) := qdL_law_971_24.2.2.2.2.2.2.2.2.2.2.2.2.2.2.2.2.2.2.2.2.2.1
theorem dL_law_1002 : decode cL_law 1002 = .ok (.aload_n 0, 1) := qdL_law_971_24.2.2.2.2.2.2.2.2.2.2.2.2.2.2.2.2.2.2.2.2.2.2.1
theorem dL_law_1003 : decode cL_law 1003 = .ok (.iload 4, 2) := qdL_law_971_24.2.2.2.2.2.2.2.2.2.2.2.2.2.2.2.2.2.2.2.2.2.2.2.1
theorem qdL_law_1005_24 : dcAll cL_law [(1005, .iconst 2, 1), (1006, .iadd, 1), (1007, .iaload, 1), (1008, .invokevirtual 177, 3), (1011, .istore 6, 2), (1013, .goto 475, 3), (1016, .aload_n 1, 1), (1017, .aload_n 0, 1), (1018, .iload 4, 2), (1020, .iconst 1, 1), (1021, .iadd, 1), (1022, .iaload, 1), (1023, .aload_n 0, 1), (1024, .iload 4, 2), (1026, .iconst 2, 1), (1027, .iadd, 1), (1028, .iaload, 1), (1029, .aload_n 3, 1), (1030, .invokestatic 178, 3), (1033, .istore 5, 2), (1035, .aload_n 2, 1), (1036, .aload_n 0, 1), (1037, .iload 4, 2), (1039, .iconst 1, 1)] := dcAll_of (by decide +kernel)
theorem dL_law_1005 : decode cL_law 1005 = .ok (.iconst 2, 1) := qdL_law_1005_24.1
theorem dL_law_1006 : decode cL_law 1006 = .ok (.iadd, 1) := qdL_law_1005_24.2.1
theorem dL_law_1007 : decode cL_law 1007 = .ok (.iaload, 1) := qdL_law_1005_24.2.2.1
theorem dL_law_1008 : decode cL_law 1008 = .ok (.invokevirtual 177, 3) := qdL_law_1005_24.2.2.2.1
theorem dL_law_1011 : decode cL_law 1011 = .ok (.istore 6, 2) := qdL_law_1005_24.2.2.2.2.1
theorem dL_law_1013 : decode cL_law 1013 = .ok (.goto 475, 3) := qdL_law_1005_24.2.2.2.2.2.1
theorem dL_law_1016 : decode cL_law 1016 = .ok (.aload_n 1, 1) := qdL_law_1005_24.2.2.2.2.2.2.1
theorem dL_law_1017 : decode cL_law 1017 = .ok (.aload_n 0, 1) := qdL_law_1005_24.2.2.2.2.2.2.2.1
theorem dL_law_1018 : decode cL_law 1018 = .ok (.iload 4, 2) := qdL_law_1005_24.2.2.2.2.2.2.2.2.1
theorem dL_law_1020 : decode cL_law 1020 = .ok (.iconst 1, 1) := qdL_law_1005_24.2.2.2.2.2.2.2.2.2.1
theorem dL_law_1021 : decode cL_law 1021 = .ok (.iadd, 1) := qdL_law_1005_24.2.2.2.2.2.2.2.2.2.2.1
theorem dL_law_1022 : decode cL_law 1022 = .ok (.iaload, 1) := qdL_law_1005_24.2.2.2.2.2.2.2.2.2.2.2.1
theorem dL_law_1023 : decode cL_law 1023 = .ok (.aload_n 0, 1) := qdL_law_1005_24.2.2.2.2.2.2.2.2.2.2.2.2.1
theorem dL_law_1024 : decode cL_law 1024 = .ok (.iload 4, 2) := qdL_law_1005_24.2.2.2.2.2.2.2.2.2.2.2.2.2.1
theorem dL_law_1026 : decode cL_law 1026 = .ok (.iconst 2, 1) := qdL_law_1005_24.2.2.2.2.2.2.2.2.2.2.2.2.2.2.1
theorem dL_law_1027 : decode cL_law 1027 = .ok (.iadd, 1) := qdL_law_1005_24.2.2.2.2.2.2.2.2.2.2.2.2.2.2.2.1
theorem dL_law_1028 : decode cL_law 1028 = .ok (.iaload, 1) := qdL_law_1005_24.2.2.2.2.2.2.2.2.2.2.2.2.2.2.2.2.1
theorem dL_law_1029 : decode cL_law 1029 = .ok (.aload_n 3, 1) := qdL_law_1005_24.2.2.2.2.2.2.2.2.2.2.2.2.2.2.2.2.2.1
theorem dL_law_1030 : decode cL_law 1030 = .ok (.invokestatic 178, 3) := qdL_law_1005_24.2.2.2.2.2.2.2.2.2.2.2.2.2.2.2.2.2.2.1
theorem dL_law_1033 : decode cL_law 1033 = .ok (.istore 5, 2) := qdL_law_1005_24.2.2.2.2.2.2.2.2.2.2.2.2.2.2.2.2.2.2.2.1
theorem dL_law_1035 : decode cL_law 1035 = .ok (.aload_n 2, 1) := qdL_law_1005_24.2.2.2.2.2.2.2.2.2.2.2.2.2.2.2.2.2.2.2.2.1
theorem dL_law_1036 : decode cL_law 1036 = .ok (.aload_n 0, 1) := qdL_law_1005_24.2.2.2.2.2.2.2.2.2.2.2.2.2.2.2.2.2.2.2.2.2.1
theorem dL_law_1037 : decode cL_law 1037 = .ok (.iload 4, 2) := qdL_law_1005_24.2.2.2.2.2.2.2.2.2.2.2.2.2.2.2.2.2.2.2.2.2.2.1
theorem dL_law_1039 : decode cL_law 1039 = .ok (.iconst 1, 1) := qdL_law_1005_24.2.2.2.2.2.2.2.2.2.2.2.2.2.2.2.2.2.2.2.2.2.2.2.1
theorem qdL_law_1040_24 : dcAll cL_law [(1040, .iadd, 1), (1041, .iaload, 1), (1042, .aload_n 0, 1), (1043, .iload 4, 2), (1045, .iconst 2, 1), (1046, .iadd, 1), (1047, .iaload, 1), (1048, .invokevirtual 180, 3), (1051, .istore 6, 2), (1053, .goto 435, 3), (1056, .aload_n 1, 1), (1057, .aload_n 0, 1), (1058, .iload 4, 2), (1060, .iconst 1, 1), (1061, .iadd, 1), (1062, .iaload, 1), (1063, .aload_n 0, 1), (1064, .iload 4, 2), (1066, .iconst 2, 1), (1067, .iadd, 1), (1068, .iaload, 1), (1069, .aload_n 3, 1), (1070, .invokestatic 181, 3), (1073, .istore 5, 2)] := dcAll_of (by decide +kernel)
theorem dL_law_1040 : decode cL_law 1040 = .ok (.iadd, 1) := qdL_law_1040_24.1
theorem dL_law_1041 : decode cL_law 1041 = .ok (.iaload, 1) := qdL_law_1040_24.2.1
theorem dL_law_1042 : decode cL_law 1042 = .ok (.aload_n 0, 1) := qdL_law_1040_24.2.2.1
theorem dL_law_1043 : decode cL_law 1043 = .ok (.iload 4, 2) := qdL_law_1040_24.2.2.2.1
theorem dL_law_1045 : decode cL_law 1045 = .ok (.iconst 2, 1) := qdL_law_1040_24.2.2.2.2.1
theorem dL_law_1046 : decode cL_law 1046 = .ok (.iadd, 1) := qdL_law_1040_24.2.2.2.2.2.1
theorem dL_law_1047 : decode cL_law 1047 = .ok (.iaload, 1) := qdL_law_1040_24.2.2.2.2.2.2.1
theorem dL_law_1048 : decode cL_law 1048 = .ok (.invokevirtual 180, 3) := qdL_law_1040_24.2.2.2.2.2.2.2.1
theorem dL_law_1051 : decode cL_law 1051 = .ok (.istore 6, 2) := qdL_law_1040_24.2.2.2.2.2.2.2.2.1
theorem dL_law_1053 : decode cL_law 1053 = .ok (.goto 435, 3) := qdL_law_1040_24.2.2.2.2.2.2.2.2.2.1
theorem dL_law_1056 : decode cL_law 1056 = .ok (.aload_n 1, 1) := qdL_law_1040_24.2.2.2.2.2.2.2.2.2.2.1
theorem dL_law_1057 : decode cL_law 1057 = .ok (.aload_n 0, 1) := qdL_law_1040_24.2.2.2.2.2.2.2.2.2.2.2.1
theorem dL_law_1058 : decode cL_law 1058 = .ok (.iload 4, 2) := qdL_law_1040_24.2.2.2.2.2.2.2.2.2.2.2.2.1
theorem dL_law_1060 : decode cL_law 1060 = .ok (.iconst 1, 1) := qdL_law_1040_24.2.2.2.2.2.2.2.2.2.2.2.2.2.1
theorem dL_law_1061 : decode cL_law 1061 = .ok (.iadd, 1) := qdL_law_1040_24.2.2.2.2.2.2.2.2.2.2.2.2.2.2.1
theorem dL_law_1062 : decode cL_law 1062 = .ok (.iaload, 1) := qdL_law_1040_24.2.2.2.2.2.2.2.2.2.2.2.2.2.2.2.1
theorem dL_law_1063 : decode cL_law 1063 = .ok (.aload_n 0, 1) := qdL_law_1040_24.2.2.2.2.2.2.2.2.2.2.2.2.2.2.2.2.1
theorem dL_law_1064 : decode cL_law 1064 = .ok (.iload 4, 2) := qdL_law_1040_24.2.2.2.2.2.2.2.2.2.2.2.2.2.2.2.2.2.1
theorem dL_law_1066 : decode cL_law 1066 = .ok (.iconst 2, 1) := qdL_law_1040_24.2.2.2.2.2.2.2.2.2.2.2.2.2.2.2.2.2.2.1
theorem dL_law_1067 : decode cL_law 1067 = .ok (.iadd, 1) := qdL_law_1040_24.2.2.2.2.2.2.2.2.2.2.2.2.2.2.2.2.2.2.2.1
theorem dL_law_1068 : decode cL_law 1068 = .ok (.iaload, 1) := qdL_law_1040_24.2.2.2.2.2.2.2.2.2.2.2.2.2.2.2.2.2.2.2.2.1
theorem dL_law_1069 : decode cL_law 1069 = .ok (.aload_n 3, 1) := qdL_law_1040_24.2.2.2.2.2.2.2.2.2.2.2.2.2.2.2.2.2.2.2.2.2.1
theorem dL_law_1070 : decode cL_law 1070 = .ok (.invokestatic 181, 3) := qdL_law_1040_24.2.2.2.2.2.2.2.2.2.2.2.2.2.2.2.2.2.2.2.2.2.2.1
theorem dL_law_1073 : decode cL_law 1073 = .ok (.istore 5, 2) := qdL_law_1040_24.2.2.2.2.2.2.2.2.2.2.2.2.2.2.2.2.2.2.2.2.2.2.2.1
theorem qdL_law_1075_24 : dcAll cL_law [(1075, .aload_n 2, 1), (1076, .aload_n 0, 1), (1077, .iload 4, 2), (1079, .iconst 1, 1), (1080, .iadd, 1), (1081, .iaload, 1), (1082, .aload_n 0, 1), (1083, .iload 4, 2), (1085, .iconst 2, 1), (1086, .iadd, 1), (1087, .iaload, 1), (1088, .invokevirtual 183, 3), (1091, .istore 6, 2), (1093, .goto 395, 3), (1096, .aload_n 1, 1), (1097, .aload_n 0, 1), (1098, .iload 4, 2), (1100, .iconst 1, 1), (1101, .iadd, 1), (1102, .iaload, 1), (1103, .aload_n 0, 1), (1104, .iload 4, 2), (1106, .iconst 2, 1), (1107, .iadd, 1)] := dcAll_of (by decide +kernel)
theorem dL_law_1075 : decode cL_law 1075 = .ok (.aload_n 2, 1) := qdL_law_1075_24.1
theorem dL_law_1076 : decode cL_law 1076 = .ok (.aload_n 0, 1) := qdL_law_1075_24.2.1
theorem dL_law_1077 : decode cL_law 1077 = .ok (.iload 4, 2) := qdL_law_1075_24.2.2.1
theorem dL_law_1079 : decode cL_law 1079 = .ok (.iconst 1, 1) := qdL_law_1075_24.2.2.2.1
theorem dL_law_1080 : decode cL_law 1080 = .ok (.iadd, 1) := qdL_law_1075_24.2.2.2.2.1
theorem dL_law_1081 : decode cL_law 1081 = .ok (.iaload, 1) := qdL_law_1075_24.2.2.2.2.2.1
theorem dL_law_1082 : decode cL_law 1082 = .ok (.aload_n 0, 1) := qdL_law_1075_24.2.2.2.2.2.2.1
theorem dL_law_1083 : decode cL_law 1083 = .ok (.iload 4, 2) := qdL_law_1075_24.2.2.2.2.2.2.2.1
theorem dL_law_1085 : decode cL_law 1085 = .ok (.iconst 2, 1) := qdL_law_1075_24.2.2.2.2.2.2.2.2.1
theorem dL_law_1086 : decode cL_law 1086 = .ok (.iadd, 1) := qdL_law_1075_24.2.2.2.2.2.2.2.2.2.1
theorem dL_law_1087 : decode cL_law 1087 = .ok (.iaload, 1) := qdL_law_1075_24.2.2.2.2.2.2.2.2.2.2.1
theorem dL_law_1088 : decode cL_law 1088 = .ok (.invokevirtual 183, 3) := qdL_law_1075_24.2.2.2.2.2.2.2.2.2.2.2.1
theorem dL_law_1091 : decode cL_law 1091 = .ok (.istore 6, 2) := qdL_law_1075_24.2.2.2.2.2.2.2.2.2.2.2.2.1
theorem dL_law_1093 : decode cL_law 1093 = .ok (.goto 395, 3) := qdL_law_1075_24.2.2.2.2.2.2.2.2.2.2.2.2.2.1
theorem dL_law_1096 : decode cL_law 1096 = .ok (.aload_n 1, 1) := qdL_law_1075_24.2.2.2.2.2.2.2.2.2.2.2.2.2.2.1
theorem dL_law_1097 : decode cL_law 1097 = .ok (.aload_n 0, 1) := qdL_law_1075_24.2.2.2.2.2.2.2.2.2.2.2.2.2.2.2.1
theorem dL_law_1098 : decode cL_law 1098 = .ok (.iload 4, 2) := qdL_law_1075_24.2.2.2.2.2.2.2.2.2.2.2.2.2.2.2.2.1
theorem dL_law_1100 : decode cL_law 1100 = .ok (.iconst 1, 1) := qdL_law_1075_24.2.2.2.2.2.2.2.2.2.2.2.2.2.2.2.2.2.1
theorem dL_law_1101 : decode cL_law 1101 = .ok (.iadd, 1) := qdL_law_1075_24.2.2.2.2.2.2.2.2.2.2.2.2.2.2.2.2.2.2.1
theorem dL_law_1102 : decode cL_law 1102 = .ok (.iaload, 1) := qdL_law_1075_24.2.2.2.2.2.2.2.2.2.2.2.2.2.2.2.2.2.2.2.1
theorem dL_law_1103 : decode cL_law 1103 = .ok (.aload_n 0, 1) := qdL_law_1075_24.2.2.2.2.2.2.2.2.2.2.2.2.2.2.2.2.2.2.2.2.1
theorem dL_law_1104 : decode cL_law 1104 = .ok (.iload 4, 2) := qdL_law_1075_24.2.2.2.2.2.2.2.2.2.2.2.2.2.2.2.2.2.2.2.2.2.1
theorem dL_law_1106 : decode cL_law 1106 = .ok (.iconst 2, 1) := qdL_law_1075_24.2.2.2.2.2.2.2.2.2.2.2.2.2.2.2.2.2.2.2.2.2.2.1
theorem dL_law_1107 : decode cL_law 1107 = .ok (.iadd, 1) := qdL_law_1075_24.2.2.2.2.2.2.2.2.2.2.2.2.2.2.2.2.2.2.2.2.2.2.2.1
theorem qdL_law_1108_24 : dcAll cL_law [(1108, .iaload, 1), (1109, .aload_n 3, 1), (1110, .invokestatic 184, 3), (1113, .istore 5, 2), (1115, .aload_n 2, 1), (1116, .aload_n 0, 1), (1117, .iload 4, 2), (1119, .iconst 1, 1), (1120, .iadd, 1), (1121, .iaload, 1), (1122, .aload_n 0, 1), (1123, .iload 4, 2), (1125, .iconst 2, 1), (1126, .iadd, 1), (1127, .iaload, 1), (1128, .invokevirtual 186, 3), (1131, .istore 6, 2), (1133, .goto 355, 3), (1136, .aload_n 1, 1), (1137, .aload_n 0, 1), (1138, .iload 4, 2), (1140, .iconst 1, 1), (1141, .iadd, 1), (1142, .iaload, 1)] := dcAll_of (by decide +kernel)
theorem dL_law_1108 : decode cL_law 1108 = .ok (.iaload, 1) := qdL_law_1108_24.1
theorem dL_law_1109 : decode cL_law 1109 = .ok (.aload_n 3, 1) := qdL_law_1108_24.2.1
theorem dL_law_1110 : decode cL_law 1110 = .ok (.invokestatic 184, 3) := qdL_law_1108_24.2.2.1
theorem dL_law_1113 : decode cL_law 1113 = .ok (.istore 5, 2) := qdL_law_1108_24.2.2.2.1
theorem dL_law_1115 : decode cL_law 1115 = .ok (.aload_n 2, 1) := qdL_law_1108_24.2.2.2.2.1
theorem dL_law_1116 : decode cL_law 1116 = .ok (.aload_n 0, 1) := qdL_law_1108_24.2.2.2.2.2.1
theorem dL_law_1117 : decode cL_law 1117 = .ok (.iload 4, 2) := qdL_law_1108_24.2.2.2.2.2.2.1
theorem dL_law_1119 : decode cL_law 1119 = .ok (.iconst 1, 1) := qdL_law_1108_24.2.2.2.2.2.2.2.1
theorem dL_law_1120 : decode cL_law 1120 = .ok (.iadd, 1) := qdL_law_1108_24.2.2.2.2.2.2.2.2.1
theorem dL_law_1121 : decode cL_law 1121 = .ok (.iaload, 1) := qdL_law_1108_24.2.2.2.2.2.2.2.2.2.1
theorem dL_law_1122 : decode cL_law 1122 = .ok (.aload_n 0, 1) := qdL_law_1108_24.2.2.2.2.2.2.2.2.2.2.1
theorem dL_law_1123 : decode cL_law 1123 = .ok (.iload 4, 2) := qdL_law_1108_24.2.2.2.2.2.2.2.2.2.2.2.1
theorem dL_law_1125 : decode cL_law 1125 = .ok (.iconst 2, 1) := qdL_law_1108_24.2.2.2.2.2.2.2.2.2.2.2.2.1
theorem dL_law_1126 : decode cL_law 1126 = .ok (.iadd, 1) := qdL_law_1108_24.2.2.2.2.2.2.2.2.2.2.2.2.2.1
theorem dL_law_1127 : decode cL_law 1127 = .ok (.iaload, 1) := qdL_law_1108_24.2.2.2.2.2.2.2.2.2.2.2.2.2.2.1
theorem dL_law_1128 : decode cL_law 1128 = .ok (.invokevirtual 186, 3) := qdL_law_1108_24.2.2.2.2.2.2.2.2.2.2.2.2.2.2.2.1
theorem dL_law_1131 : decode cL_law 1131 = .ok (.istore 6, 2) := qdL_law_1108_24.2.2.2.2.2.2.2.2.2.2.2.2.2.2.2.2.1
theorem dL_law_1133 : decode cL_law 1133 = .ok (.goto 355, 3) := qdL_law_1108_24.2.2.2.2.2.2.2.2.2.2.2.2.2.2.2.2.2.1
theorem dL_law_1136 : decode cL_law 1136 = .ok (.aload_n 1, 1) := qdL_law_1108_24.2.2.2.2.2.2.2.2.2.2.2.2.2.2.2.2.2.2.1
theorem dL_law_1137 : decode cL_law 1137 = .ok (.aload_n 0, 1) := qdL_law_1108_24.2.2.2.2.2.2.2.2.2.2.2.2.2.2.2.2.2.2.2.1
theorem dL_law_1138 : decode cL_law 1138 = .ok (.iload 4, 2) := qdL_law_1108_24.2.2.2.2.2.2.2.2.2.2.2.2.2.2.2.2.2.2.2.2.1
theorem dL_law_1140 : decode cL_law 1140 = .ok (.iconst 1, 1) := qdL_law_1108_24.2.2.2.2.2.2.2.2.2.2.2.2.2.2.2.2.2.2.2.2.2.1
theorem dL_law_1141 : decode cL_law 1141 = .ok (.iadd, 1) := qdL_law_1108_24.2.2.2.2.2.2.2.2.2.2.2.2.2.2.2.2.2.2.2.2.2.2.1
theorem dL_law_1142 : decode cL_law 1142 = .ok (.iaload, 1) := qdL_law_1108_24.2.2.2.2.2.2.2.2.2.2.2.2.2.2.2.2.2.2.2.2.2.2.2.1
theorem qdL_law_1143_24 : dcAll cL_law [(1143, .aload_n 0, 1), (1144, .iload 4, 2), (1146, .iconst 2, 1), (1147, .iadd, 1), (1148, .iaload, 1), (1149, .aload_n 3, 1), (1150, .invokestatic 187, 3), (1153, .istore 5, 2), (1155, .aload_n 2, 1), (1156, .aload_n 0, 1), (1157, .iload 4, 2), (1159, .iconst 1, 1), (1160, .iadd, 1), (1161, .iaload, 1), (1162, .aload_n 0, 1), (1163, .iload 4, 2), (1165, .iconst 2, 1), (1166, .iadd, 1), (1167, .iaload, 1), (1168, .invokevirtual 189, 3), (1171, .istore 6, 2), (1173, .goto 315, 3), (1176, .aload_n 1, 1), (1177, .aload_n 0, 1)] := dcAll_of (by decide +kernel)
theorem dL_law_1143 : decode cL_law 1143 = .ok (.aload_n 0, 1) := qdL_law_1143_24.1
theorem dL_law_1144 : decode cL_law 1144 = .ok (.iload 4, 2) := qdL_law_1143_24.2.1
theorem dL_law_1146 : decode cL_law 1146 = .ok (.iconst 2, 1) := qdL_law_1143_24.2.2.1
theorem dL_law_1147 : decode cL_law 1147 = .ok (.iadd, 1) := qdL_law_1143_24.2.2.2.1
theorem dL_law_1148 : decode cL_law 1148 = .ok (.iaload, 1) := qdL_law_1143_24.2.2.2.2.1
theorem dL_law_1149 : decode cL_law 1149 = .ok (.aload_n 3, 1) := qdL_law_1143_24.2.2.2.2.2.1
theorem dL_law_1150 : decode cL_law 1150 = .ok (.invokestatic 187, 3) := qdL_law_1143_24.2.2.2.2.2.2.1
theorem dL_law_1153 : decode cL_law 1153 = .ok (.istore 5, 2) := qdL_law_1143_24.2.2.2.2.2.2.2.1
theorem dL_law_1155 : decode cL_law 1155 = .ok (.aload_n 2, 1) := qdL_law_1143_24.2.2.2.2.2.2.2.2.1
theorem dL_law_1156 : decode cL_law 1156 = .ok (.aload_n 0, 1) := qdL_law_1143_24.2.2.2.2.2.2.2.2.2.1
theorem dL_law_1157 : decode cL_law 1157 = .ok (.iload 4, 2) := qdL_law_1143_24.2.2.2.2.2.2.2.2.2.2.1
theorem dL_law_1159 : decode cL_law 1159 = .ok (.iconst 1, 1) := qdL_law_1143_24.2.2.2.2.2.2.2.2.2.2.2.1
theorem dL_law_1160 : decode cL_law 1160 = .ok (.iadd, 1) := qdL_law_1143_24.2.2.2.2.2.2.2.2.2.2.2.2.1
theorem dL_law_1161 : decode cL_law 1161 = .ok (.iaload, 1) := qdL_law_1143_24.2.2.2.2.2.2.2.2.2.2.2.2.2.1
theorem dL_law_1162 : decode cL_law 1162 = .ok (.aload_n 0, 1) := qdL_law_1143_24.2.2.2.2.2.2.2.2.2.2.2.2.2.2.1
theorem dL_law_1163 : decode cL_law 1163 = .ok (.iload 4, 2) := qdL_law_1143_24.2.2.2.2.2.2.2.2.2.2.2.2.2.2.2.1
theorem dL_law_1165 : decode cL_law 1165 = .ok (.iconst 2, 1) := qdL_law_1143_24.2.2.2.2.2.2.2.2.2.2.2.2.2.2.2.2.1
theorem dL_law_1166 : decode cL_law 1166 = .ok (.iadd, 1) := qdL_law_1143_24.2.2.2.2.2.2.2.2.2.2.2.2.2.2.2.2.2.1
theorem dL_law_1167 : decode cL_law 1167 = .ok (.iaload, 1) := qdL_law_1143_24.2.2.2.2.2.2.2.2.2.2.2.2.2.2.2.2.2.2.1
theorem dL_law_1168 : decode cL_law 1168 = .ok (.invokevirtual 189, 3) := qdL_law_1143_24.2.2.2.2.2.2.2.2.2.2.2.2.2.2.2.2.2.2.2.1
theorem dL_law_1171 : decode cL_law 1171 = .ok (.istore 6, 2) := qdL_law_1143_24.2.2.2.2.2.2.2.2.2.2.2.2.2.2.2.2.2.2.2.2.1
theorem dL_law_1173 : decode cL_law 1173 = .ok (.goto 315, 3) := qdL_law_1143_24.2.2.2.2.2.2.2.2.2.2.2.2.2.2.2.2.2.2.2.2.2.1
theorem dL_law_1176 : decode cL_law 1176 = .ok (.aload_n 1, 1) := qdL_law_1143_24.2.2.2.2.2.2.2.2.2.2.2.2.2.2.2.2.2.2.2.2.2.2.1
theorem dL_law_1177 : decode cL_law 1177 = .ok (.aload_n 0, 1) := qdL_law_1143_24.2.2.2.2.2.2.2.2.2.2.2.2.2.2.2.2.2.2.2.2.2.2.2.1
theorem qdL_law_1178_24 : dcAll cL_law [(1178, .iload 4, 2), (1180, .iconst 1, 1), (1181, .iadd, 1), (1182, .iaload, 1), (1183, .aload_n 0, 1), (1184, .iload 4, 2), (1186, .iconst 2, 1), (1187, .iadd, 1), (1188, .iaload, 1), (1189, .aload_n 3, 1), (1190, .invokestatic 190, 3), (1193, .istore 5, 2), (1195, .aload_n 2, 1), (1196, .aload_n 0, 1), (1197, .iload 4, 2), (1199, .iconst 1, 1), (1200, .iadd, 1), (1201, .iaload, 1), (1202, .aload_n 0, 1), (1203, .iload 4, 2), (1205, .iconst 2, 1), (1206, .iadd, 1), (1207, .iaload, 1), (1208, .invokevirtual 192, 3)] := dcAll_of (by decide +kernel)
theorem dL_law_1178 : decode cL_law 1178 = .ok (.iload 4, 2) := qdL_law_1178_24.1
theorem dL_law_1180 : decode cL_law 1180 = .ok (.iconst 1, 1) := qdL_law_1178_24.2.1
theorem dL_law_1181 : decode cL_law 1181 = .ok (.iadd, 1) := qdL_law_1178_24.2.2.1
theorem dL_law_1182 : decode cL_law 1182 = .ok (.iaload, 1) := qdL_law_1178_24.2.2.2.1
theorem dL_law_1183 : decode cL_law 1183 = .ok (.aload_n 0, 1) := qdL_law_1178_24.2.2.2.2.1
theorem dL_law_1184 : decode cL_law 1184 = .ok (.iload 4, 2) := qdL_law_1178_24.2.2.2.2.2.1
theorem dL_law_1186 : decode cL_law 1186 = .ok (.iconst 2, 1) := qdL_law_1178_24.2.2.2.2.2.2.1
theorem dL_law_1187 : decode cL_law 1187 = .ok (.iadd, 1) := qdL_law_1178_24.2.2.2.2.2.2.2.1
theorem dL_law_1188 : decode cL_law 1188 = .ok (.iaload, 1) := qdL_law_1178_24.2.2.2.2.2.2.2.2.1
theorem dL_law_1189 : decode cL_law 1189 = .ok (.aload_n 3, 1) := qdL_law_1178_24.2.2.2.2.2.2.2.2.2.1
theorem dL_law_1190 : decode cL_law 1190 = .ok (.invokestatic 190, 3) := qdL_law_1178_24.2.2.2.2.2.2.2.2.2.2.1
theorem dL_law_1193 : decode cL_law 1193 = .ok (.istore 5, 2) := qdL_law_1178_24.2.2.2.2.2.2.2.2.2.2.2.1
theorem dL_law_1195 : decode cL_law 1195 = .ok (.aload_n 2, 1) := qdL_law_1178_24.2.2.2.2.2.2.2.2.2.2.2.2.1
theorem dL_law_1196 : decode cL_law 1196 = .ok (.aload_n 0, 1) := qdL_law_1178_24.2.2.2.2.2.2.2.2.2.2.2.2.2.1
theorem dL_law_1197 : decode cL_law 1197 = .ok (.iload 4, 2) := qdL_law_1178_24.2.2.2.2.2.2.2.2.2.2.2.2.2.2.1
theorem dL_law_1199 : decode cL_law 1199 = .ok (.iconst 1, 1) := qdL_law_1178_24.2.2.2.2.2.2.2.2.2.2.2.2.2.2.2.1
theorem dL_law_1200 : decode cL_law 1200 = .ok (.iadd, 1) := qdL_law_1178_24.2.2.2.2.2.2.2.2.2.2.2.2.2.2.2.2.1
theorem dL_law_1201 : decode cL_law 1201 = .ok (.iaload, 1) := qdL_law_1178_24.2.2.2.2.2.2.2.2.2.2.2.2.2.2.2.2.2.1
theorem dL_law_1202 : decode cL_law 1202 = .ok (.aload_n 0, 1) := qdL_law_1178_24.2.2.2.2.2.2.2.2.2.2.2.2.2.2.2.2.2.2.1
theorem dL_law_1203 : decode cL_law 1203 = .ok (.iload 4, 2) := qdL_law_1178_24.2.2.2.2.2.2.2.2.2.2.2.2.2.2.2.2.2.2.2.1
theorem dL_law_1205 : decode cL_law 1205 = .ok (.iconst 2, 1) := qdL_law_1178_24.2.2.2.2.2.2.2.2.2.2.2.2.2.2.2.2.2.2.2.2.1
theorem dL_law_1206 : decode cL_law 1206 = .ok (.iadd, 1) := qdL_law_1178_24.2.2.2.2.2.2.2.2.2.2.2.2.2.2.2.2.2.2.2.2.2.1
theorem dL_law_1207 : decode cL_law 1207 = .ok (.iaload, 1) := qdL_law_1178_24.2.2.2.2.2.2.2.2.2.2.2.2.2.2.2.2.2.2.2.2.2.2.1
theorem dL_law_1208 : decode cL_law 1208 = .ok (.invokevirtual 192, 3) := qdL_law_1178_24.2.2.2.2.2.2.2.2.2.2.2.2.2.2.2.2.2.2.2.2.2.2.2.1
theorem qdL_law_1211_24 : dcAll cL_law [(1211, .istore 6, 2), (1213, .goto 275, 3), (1216, .aload_n 1, 1), (1217, .aload_n 0, 1), (1218, .iload 4, 2), (1220, .iconst 1, 1), (1221, .iadd, 1), (1222, .iaload, 1), (1223, .aload_n 0, 1), (1224, .iload 4, 2), (1226, .iconst 2, 1), (1227, .iadd, 1), (1228, .iaload, 1), (1229, .aload_n 3, 1), (1230, .invokestatic 193, 3), (1233, .istore 5, 2), (1235, .aload_n 2, 1), (1236, .aload_n 0, 1), (1237, .iload 4, 2), (1239, .iconst 1, 1), (1240, .iadd, 1), (1241, .iaload, 1), (1242, .aload_n 0, 1), (1243, .iload 4, 2)] := dcAll_of (by decide +kernel)
theorem dL_law_1211 : decode cL_law 1211 = .ok (.istore 6, 2) := qdL_law_1211_24.1
theorem dL_law_1213 : decode cL_law 1213 = .ok (.goto 275, 3) := qdL_law_1211_24.2.1
theorem dL_law_1216 : decode cL_law 1216 = .ok (.aload_n 1, 1) := qdL_law_1211_24.2.2.1
theorem dL_law_1217 : decode cL_law 1217 = .ok (.aload_n 0, 1) := qdL_law_1211_24.2.2.2.1
theorem dL_law_1218 : decode cL_law 1218 = .ok (.iload 4, 2) := qdL_law_1211_24.2.2.2.2.1
theorem dL_law_1220 : decode cL_law 1220 = .ok (.iconst 1, 1) := qdL_law_1211_24.2.2.2.2.2.1
theorem dL_law_1221 : decode cL_law 1221 = .ok (.iadd, 1) := qdL_law_1211_24.2.2.2.2.2.2.1
theorem dL_law_1222 : decode cL_law 1222 = .ok (.iaload, 1) := qdL_law_1211_24.2.2.2.2.2.2.2.1
theorem dL_law_1223 : decode cL_law 1223 = .ok (.aload_n 0, 1) := qdL_law_1211_24.2.2.2.2.2.2.2.2.1
theorem dL_law_1224 : decode cL_law 1224 = .ok (.iload 4, 2) := qdL_law_1211_24.2.2.2.2.2.2.2.2.2.1
theorem dL_law_1226 : decode cL_law 1226 = .ok (.iconst 2, 1) := qdL_law_1211_24.2.2.2.2.2.2.2.2.2.2.1
theorem dL_law_1227 : decode cL_law 1227 = .ok (.iadd, 1) := qdL_law_1211_24.2.2.2.2.2.2.2.2.2.2.2.1
theorem dL_law_1228 : decode cL_law 1228 = .ok (.iaload, 1) := qdL_law_1211_24.2.2.2.2.2.2.2.2.2.2.2.2.1
theorem dL_law_1229 : decode cL_law 1229 = .ok (.aload_n 3, 1) := qdL_law_1211_24.2.2.2.2.2.2.2.2.2.2.2.2.2.1
theorem dL_law_1230 : decode cL_law 1230 = .ok (.invokestatic 193, 3) := qdL_law_1211_24.2.2.2.2.2.2.2.2.2.2.2.2.2.2.1
theorem dL_law_1233 : decode cL_law 1233 = .ok (.istore 5, 2) := qdL_law_1211_24.2.2.2.2.2.2.2.2.2.2.2.2.2.2.2.1
theorem dL_law_1235 : decode cL_law 1235 = .ok (.aload_n 2, 1) := qdL_law_1211_24.2.2.2.2.2.2.2.2.2.2.2.2.2.2.2.2.1
theorem dL_law_1236 : decode cL_law 1236 = .ok (.aload_n 0, 1) := qdL_law_1211_24.2.2.2.2.2.2.2.2.2.2.2.2.2.2.2.2.2.1
theorem dL_law_1237 : decode cL_law 1237 = .ok (.iload 4, 2) := qdL_law_1211_24.2.2.2.2.2.2.2.2.2.2.2.2.2.2.2.2.2.2.1
theorem dL_law_1239 : decode cL_law 1239 = .ok (.iconst 1, 1) := qdL_law_1211_24.2.2.2.2.2.2.2.2.2.2.2.2.2.2.2.2.2.2.2.1
theorem dL_law_1240 : decode cL_law 1240 = .ok (.iadd, 1) := qdL_law_1211_24.2.2.2.2.2.2.2.2.2.2.2.2.2.2.2.2.2.2.2.2.1
theorem dL_law_1241 : decode cL_law 1241 = .ok (.iaload, 1) := qdL_law_1211_24.2.2.2.2.2.2.2.2.2.2.2.2.2.2.2.2.2.2.2.2.2.1
theorem dL_law_1242 : decode cL_law 1242 = .ok (.aload_n 0, 1) := qdL_law_1211_24.2.2.2.2.2.2.2.2.2.2.2.2.2.2.2.2.2.2.2.2.2.2.1
theorem dL_law_1243 : decode cL_law 1243 = .ok (.iload 4, 2) := qdL_law_1211_24.2.2.2.2.2.2.2.2.2.2.2.2.2.2.2.2.2.2.2.2.2.2.2.1
theorem qdL_law_1245_24 : dcAll cL_law [(1245, .iconst 2, 1), (1246, .iadd, 1), (1247, .iaload, 1), (1248, .invokevirtual 195, 3), (1251, .istore 6, 2), (1253, .aload_n 2, 1), (1254, .invokevirtual 196, 3), (1257, .iload 5, 2), (1259, .if_icmp .eq 5, 3), (1262, .iconst 0, 1), (1264, .iload 5, 2), (1266, .ifCond .ne 16, 3), (1269, .aload_n 3, 1), (1270, .getfield 13, 3), (1273, .iload 6, 2), (1275, .i2l, 1), (1276, .lcmp, 1), (1277, .ifCond .eq 5, 3), (1280, .iconst 0, 1), (1282, .goto 206, 3), (1285, .aload_n 1, 1), (1286, .aload_n 0, 1), (1287, .iload 4, 2), (1289, .iconst 1, 1)] := dcAll_of (by decide +kernel)
theorem dL_law_1245 : decode cL_law 1245 = .ok (.iconst 2, 1) := qdL_law_1245_24.1
theorem dL_law_1246 : decode cL_law 1246 = .ok (.iadd, 1) := qdL_law_1245_24.2.1
theorem dL_law_1247 : decode cL_law 1247 = .ok (.iaload, 1) := qdL_law_1245_24.2.2.1
theorem dL_law_1248 : decode cL_law 1248 = .ok (.invokevirtual 195, 3) := qdL_law_1245_24.2.2.2.1
theorem dL_law_1251 : decode cL_law 1251 = .ok (.istore 6, 2) := qdL_law_1245_24.2.2.2.2.1
theorem dL_law_1253 : decode cL_law 1253 = .ok (.aload_n 2, 1) := qdL_law_1245_24.2.2.2.2.2.1
theorem dL_law_1254 : decode cL_law 1254 = .ok (.invokevirtual 196, 3) := qdL_law_1245_24.2.2.2.2.2.2.1
theorem dL_law_1257 : decode cL_law 1257 = .ok (.iload 5, 2) := qdL_law_1245_24.2.2.2.2.2.2.2.1
theorem dL_law_1259 : decode cL_law 1259 = .ok (.if_icmp .eq 5, 3) := qdL_law_1245_24.2.2.2.2.2.2.2.2.1
theorem dL_law_1262 : decode cL_law 1262 = .ok (.iconst 0, 1) := qdL_law_1245_24.2.2.2.2.2.2.2.2.2.1
theorem dL_law_1264 : decode cL_law 1264 = .ok (.iload 5, 2) := qdL_law_1245_24.2.2.2.2.2.2.2.2.2.2.1
theorem dL_law_1266 : decode cL_law 1266 = .ok (.ifCond .ne 16, 3) := qdL_law_1245_24.2.2.2.2.2.2.2.2.2.2.2.1
theorem dL_law_1269 : decode cL_law 1269 = .ok (.aload_n 3, 1) := qdL_law_1245_24.2.2.2.2.2.2.2.2.2.2.2.2.1
theorem dL_law_1270 : decode cL_law 1270 = .ok (.getfield 13, 3) := qdL_law_1245_24.2.2.2.2.2.2.2.2.2.2.2.2.2.1
theorem dL_law_1273 : decode cL_law 1273 = .ok (.iload 6, 2) := qdL_law_1245_24.2.2.2.2.2.2.2.2.2.2.2.2.2.2.1
theorem dL_law_1275 : decode cL_law 1275 = .ok (.i2l, 1) := qdL_law_1245_24.2.2.2.2.2.2.2.2.2.2.2.2.2.2.2.1
theorem dL_law_1276 : decode cL_law 1276 = .ok (.lcmp, 1) := qdL_law_1245_24.2.2.2.2.2.2.2.2.2.2.2.2.2.2.2.2.1
theorem dL_law_1277 : decode cL_law 1277 = .ok (.ifCond .eq 5, 3) := qdL_law_1245_24.2.2.2.2.2.2.2.2.2.2.2.2.2.2.2.2.2.1
theorem dL_law_1280 : decode cL_law 1280 = .ok (.iconst 0, 1) := qdL_law_1245_24.2.2.2.2.2.2.2.2.2.2.2.2.2.2.2.2.2.2.1
theorem dL_law_1282 : decode cL_law 1282 = .ok (.goto 206, 3) := qdL_law_1245_24.2.2.2.2.2.2.2.2.2.2.2.2.2.2.2.2.2.2.2.1
theorem dL_law_1285 : decode cL_law 1285 = .ok (.aload_n 1, 1) := qdL_law_1245_24.2.2.2.2.2.2.2.2.2.2.2.2.2.2.2.2.2.2.2.2.1
theorem dL_law_1286 : decode cL_law 1286 = .ok (.aload_n 0, 1) := qdL_law_1245_24.2.2.2.2.2.2.2.2.2.2.2.2.2.2.2.2.2.2.2.2.2.1
theorem dL_law_1287 : decode cL_law 1287 = .ok (.iload 4, 2) := qdL_law_1245_24.2.2.2.2.2.2.2.2.2.2.2.2.2.2.2.2.2.2.2.2.2.2.1
theorem dL_law_1289 : decode cL_law 1289 = .ok (.iconst 1, 1) := qdL_law_1245_24.2.2.2.2.2.2.2.2.2.2.2.2.2.2.2.2.2.2.2.2.2.2.2.1
theorem qdL_law_1290_24 : dcAll cL_law [(1290, .iadd, 1), (1291, .iaload, 1), (1292, .aload_n 0, 1), (1293, .iload 4, 2), (1295, .iconst 2, 1), (1296, .iadd, 1), (1297, .iaload, 1), (1298, .aload_n 0, 1), (1299, .iload 4, 2), (1301, .iconst 3, 1), (1302, .iadd, 1), (1303, .iaload, 1), (1304, .ifCond .eq 7, 3), (1307, .iconst 1, 1), (1308, .goto 4, 3), (1311, .iconst 0, 1), (1312, .aload_n 3, 1), (1313, .invokestatic 200, 3), (1316, .istore 5, 2), (1318, .aload_n 2, 1), (1319, .aload_n 0, 1), (1320, .iload 4, 2), (1322, .iconst 1, 1), (1323, .iadd, 1)] := dcAll_of (by decide +kernel)
theorem dL_law_1290 : decode cL_law 1290 = .ok (.iadd, 1) := qdL_law_1290_24.1
theorem dL_law_1291 : decode cL_law 1291 = .ok (.iaload, 1) := qdL_law_1290_24.2.1
theorem dL_law_1292 : decode cL_law 1292 = .ok (.aload_n 0, 1) := qdL_law_1290_24.2.2.1
theorem dL_law_1293 : decode cL_law 1293 = .ok (.iload 4, 2) := qdL_law_1290_24.2.2.2.1
theorem dL_law_1295 : decode cL_law 1295 = .ok (.iconst 2, 1) := qdL_law_1290_24.2.2.2.2.1
theorem dL_law_1296 : decode cL_law 1296 = .ok (.iadd, 1) := qdL_law_1290_24.2.2.2.2.2.1
theorem dL_law_1297 : decode cL_law 1297 = .ok (.iaload, 1) := qdL_law_1290_24.2.2.2.2.2.2.1
theorem dL_law_1298 : decode cL_law 1298 = .ok (.aload_n 0, 1) := qdL_law_1290_24.2.2.2.2.2.2.2.1
theorem dL_law_1299 : decode cL_law 1299 = .ok (.iload 4, 2) := qdL_law_1290_24.2.2.2.2.2.2.2.2.1
theorem dL_law_1301 : decode cL_law 1301 = .ok (.iconst 3, 1) := qdL_law_1290_24.2.2.2.2.2.2.2.2.2.1
theorem dL_law_1302 : decode cL_law 1302 = .ok (.iadd, 1) := qdL_law_1290_24.2.2.2.2.2.2.2.2.2.2.1
theorem dL_law_1303 : decode cL_law 1303 = .ok (.iaload, 1) := qdL_law_1290_24.2.2.2.2.2.2.2.2.2.2.2.1
theorem dL_law_1304 : decode cL_law 1304 = .ok (.ifCond .eq 7, 3) := qdL_law_1290_24.2.2.2.2.2.2.2.2.2.2.2.2.1
theorem dL_law_1307 : decode cL_law 1307 = .ok (.iconst 1, 1) := qdL_law_1290_24.2.2.2.2.2.2.2.2.2.2.2.2.2.1
theorem dL_law_1308 : decode cL_law 1308 = .ok (.goto 4, 3) := qdL_law_1290_24.2.2.2.2.2.2.2.2.2.2.2.2.2.2.1
theorem dL_law_1311 : decode cL_law 1311 = .ok (.iconst 0, 1) := qdL_law_1290_24.2.2.2.2.2.2.2.2.2.2.2.2.2.2.2.1
theorem dL_law_1312 : decode cL_law 1312 = .ok (.aload_n 3, 1) := qdL_law_1290_24.2.2.2.2.2.2.2.2.2.2.2.2.2.2.2.2.1
theorem dL_law_1313 : decode cL_law 1313 = .ok (.invokestatic 200, 3) := qdL_law_1290_24.2.2.2.2.2.2.2.2.2.2.2.2.2.2.2.2.2.1
theorem dL_law_1316 : decode cL_law 1316 = .ok (.istore 5, 2) := qdL_law_1290_24.2.2.2.2.2.2.2.2.2.2.2.2.2.2.2.2.2.2.1
theorem dL_law_1318 : decode cL_law 1318 = .ok (.aload_n 2, 1) := qdL_law_1290_24.2.2.2.2.2.2.2.2.2.2.2.2.2.2.2.2.2.2.2.1
theorem dL_law_1319 : decode cL_law 1319 = .ok (.aload_n 0, 1) := qdL_law_1290_24.2.2.2.2.2.2.2.2.2.2.2.2.2.2.2.2.2.2.2.2.1
theorem dL_law_1320 : decode cL_law 1320 = .ok (.iload 4, 2) := qdL_law_1290_24.2.2.2.2.2.2.2.2.2.2.2.2.2.2.2.2.2.2.2.2.2.1
theorem dL_law_1322 : decode cL_law 1322 = .ok (.iconst 1, 1) := qdL_law_1290_24.2.2.2.2.2.2.2.2.2.2.2.2.2.2.2.2.2.2.2.2.2.2.1
theorem dL_law_1323 : decode cL_law 1323 = .ok (.iadd, 1) := qdL_law_1290_24.2.2.2.2.2.2.2.2.2.2.2.2.2.2.2.2.2.2.2.2.2.2.2.1
theorem qdL_law_1324_24 : dcAll cL_law [(1324, .iaload, 1), (1325, .aload_n 0, 1), (1326, .iload 4, 2), (1328, .iconst 2, 1), (1329, .iadd, 1), (1330, .iaload, 1), (1331, .aload_n 0, 1), (1332, .iload 4, 2), (1334, .iconst 3, 1), (1335, .iadd, 1), (1336, .iaload, 1), (1337, .ifCond .eq 7, 3), (1340, .iconst 1, 1), (1341, .goto 4, 3), (1344, .iconst 0, 1), (1345, .invokevirtual 202, 3), (1348, .istore 6, 2), (1350, .goto 138, 3), (1353, .aload_n 1, 1), (1354, .aload_n 0, 1), (1355, .iload 4, 2), (1357, .iconst 1, 1), (1358, .iadd, 1), (1359, .iaload, 1)] := dcAll_of (by decide +kernel)
theorem dL_law_1324 : decode cL_law 1324 = .ok (.iaload, 1) := qdL_law_1324_24.1
theorem dL_law_1325 : decode cL_law 1325 = .ok (.aload_n 0, 1) := qdL_law_1324_24.2.1
theorem dL_law_1326 : decode cL_law 1326 = .ok (.iload 4, 2) := qdL_law_1324_24.2.2.1
theorem dL_law_1328 : decode cL_law 1328 = .ok (.iconst 2, 1) := qdL_law_1324_24.2.2.2.1
theorem dL_law_1329 : decode cL_law 1329 = .ok (.iadd, 1) := qdL_law_1324_24.2.2.2.2.1
theorem dL_law_1330 : decode cL_law 1330 = .ok (.iaload, 1) := qdL_law_1324_24.2.2.2.2.2.1
theorem dL_law_1331 : decode cL_law 1331 = .ok (.aload_n 0, 1) := qdL_law_1324_24.2.2.2.2.2.2.1
theorem dL_law_1332 : decode cL_law 1332 = .ok (.iload 4, 2) := qdL_law_1324_24.2.2.2.2.2.2.2.1
theorem dL_law_1334 : decode cL_law 1334 = .ok (.iconst 3, 1) := qdL_law_1324_24.2.2.2.2.2.2.2.2.1
theorem dL_law_1335 : decode cL_law 1335 = .ok (.iadd, 1) := qdL_law_1324_24.2.2.2.2.2.2.2.2.2.1
theorem dL_law_1336 : decode cL_law 1336 = .ok (.iaload, 1) := qdL_law_1324_24.2.2.2.2.2.2.2.2.2.2.1
theorem dL_law_1337 : decode cL_law 1337 = .ok (.ifCond .eq 7, 3) := qdL_law_1324_24.2.2.2.2.2.2.2.2.2.2.2.1
theorem dL_law_1340 : decode cL_law 1340 = .ok (.iconst 1, 1) := qdL_law_1324_24.2.2.2.2.2.2.2.2.2.2.2.2.1
theorem dL_law_1341 : decode cL_law 1341 = .ok (.goto 4, 3) := qdL_law_1324_24.2.2.2.2.2.2.2.2.2.2.2.2.2.1
theorem dL_law_1344 : decode cL_law 1344 = .ok (.iconst 0, 1) := qdL_law_1324_24.2.2.2.2.2.2.2.2.2.2.2.2.2.2.1
theorem dL_law_1345 : decode cL_law 1345 = .ok (.invokevirtual 202, 3) := qdL_law_1324_24.2.2.2.2.2.2.2.2.2.2.2.2.2.2.2.1
theorem dL_law_1348 : decode cL_law 1348 = .ok (.istore 6, 2) := qdL_law_1324_24.2.2.2.2.2.2.2.2.2.2.2.2.2.2.2.2.1
theorem dL_law_1350 : decode cL_law 1350 = .ok (.goto 138, 3) := qdL_law_1324_24.2.2.2.2.2.2.2.2.2.2.2.2.2.2.2.2.2.1
theorem dL_law_1353 : decode cL_law 1353 = .ok (.aload_n 1, 1) := qdL_law_1324_24.2.2.2.2.2.2.2.2.2.2.2.2.2.2.2.2.2.2.1
theorem dL_law_1354 : decode cL_law 1354 = .ok (.aload_n 0, 1) := qdL_law_1324_24.2.2.2.2.2.2.2.2.2.2.2.2.2.2.2.2.2.2.2.1
theorem dL_law_1355 : decode cL_law 1355 = .ok (.iload 4, 2) := qdL_law_1324_24.2.2.2.2.2.2.2.2.2.2.2.2.2.2.2.2.2.2.2.2.1
theorem dL_law_1357 : decode cL_law 1357 = .ok (.iconst 1, 1) := qdL_law_1324_24.2.2.2.2.2.2.2.2.2.2.2.2.2.2.2.2.2.2.2.2.2.1
theorem dL_law_1358 : decode cL_law 1358 = .ok (.iadd, 1) := qdL_law_1324_24.2.2.2.2.2.2.2.2.2.2.2.2.2.2.2.2.2.2.2.2.2.2.1
theorem dL_law_1359 : decode cL_law 1359 = .ok (.iaload, 1) := qdL_law_1324_24.2.2.2.2.2.2.2.2.2.2.2.2.2.2.2.2.2.2.2.2.2.2.2.1
theorem qdL_law_1360_24 : dcAll cL_law [(1360, .aload_n 0, 1), (1361, .iload 4, 2), (1363, .iconst 2, 1), (1364, .iadd, 1), (1365, .iaload, 1), (1366, .aload_n 3, 1), (1367, .invokestatic 203, 3), (1370, .istore 5, 2), (1372, .aload_n 2, 1), (1373, .aload_n 0, 1), (1374, .iload 4, 2), (1376, .iconst 1, 1), (1377, .iadd, 1), (1378, .iaload, 1), (1379, .aload_n 0, 1), (1380, .iload 4, 2), (1382, .iconst 2, 1), (1383, .iadd, 1), (1384, .iaload, 1), (1385, .invokevirtual 205, 3), (1388, .istore 6, 2), (1390, .goto 98, 3), (1393, .aload_n 1, 1), (1394, .aload_n 0, 1)] := dcAll_of (by decide +kernel)
theorem dL_law_1360 : decode cL_law 1360 = .ok (.aload_n 0, 1) := qdL_law_1360_24.1
theorem dL_law_1361 : decode cL_law 1361 = .ok (.iload 4, 2) := qdL_law_1360_24.2.1
theorem dL_law_1363 : decode cL_law 1363 = .ok (.iconst 2, 1) := qdL_law_1360_24.2.2.1
theorem dL_law_1364 : decode cL_law 1364 = .ok (.iadd, 1) := qdL_law_1360_24.2.2.2.1
theorem dL_law_1365 : decode cL_law 1365 = .ok (.iaload, 1) := qdL_law_1360_24.2.2.2.2.1
theorem dL_law_1366 : decode cL_law 1366 = .ok (.aload_n 3, 1) := qdL_law_1360_24.2.2.2.2.2.1
theorem dL_law_1367 : decode cL_law 1367 = .ok (.invokestatic 203, 3) := qdL_law_1360_24.2.2.2.2.2.2.1
theorem dL_law_1370 : decode cL_law 1370 = .ok (.istore 5, 2) := qdL_law_1360_24.2.2.2.2.2.2.2.1
theorem dL_law_1372 : decode cL_law 1372 = .ok (.aload_n 2, 1) := qdL_law_1360_24.2.2.2.2.2.2.2.2.1
theorem dL_law_1373 : decode cL_law 1373 = .ok (.aload_n 0, 1) := qdL_law_1360_24.2.2.2.2.2.2.2.2.2.1
theorem dL_law_1374 : decode cL_law 1374 = .ok (.iload 4, 2) := qdL_law_1360_24.2.2.2.2.2.2.2.2.2.2.1
theorem dL_law_1376 : decode cL_law 1376 = .ok (.iconst 1, 1) := qdL_law_1360_24.2.2.2.2.2.2.2.2.2.2.2.1
theorem dL_law_1377 : decode cL_law 1377 = .ok (.iadd, 1) := qdL_law_1360_24.2.2.2.2.2.2.2.2.2.2.2.2.1
theorem dL_law_1378 : decode cL_law 1378 = .ok (.iaload, 1) := qdL_law_1360_24.2.2.2.2.2.2.2.2.2.2.2.2.2.1
theorem dL_law_1379 : decode cL_law 1379 = .ok (.aload_n 0, 1) := qdL_law_1360_24.2.2.2.2.2.2.2.2.2.2.2.2.2.2.1
theorem dL_law_1380 : decode cL_law 1380 = .ok (.iload 4, 2) := qdL_law_1360_24.2.2.2.2.2.2.2.2.2.2.2.2.2.2.2.1
theorem dL_law_1382 : decode cL_law 1382 = .ok (.iconst 2, 1) := qdL_law_1360_24.2.2.2.2.2.2.2.2.2.2.2.2.2.2.2.2.1
theorem dL_law_1383 : decode cL_law 1383 = .ok (.iadd, 1) := qdL_law_1360_24.2.2.2.2.2.2.2.2.2.2.2.2.2.2.2.2.2.1
theorem dL_law_1384 : decode cL_law 1384 = .ok (.iaload, 1) := qdL_law_1360_24.2.2.2.2.2.2.2.2.2.2.2.2.2.2.2.2.2.2.1
theorem dL_law_1385 : decode cL_law 1385 = .ok (.invokevirtual 205, 3) := qdL_law_1360_24.2.2.2.2.2.2.2.2.2.2.2.2.2.2.2.2.2.2.2.1
theorem dL_law_1388 : decode cL_law 1388 = .ok (.istore 6, 2) := qdL_law_1360_24.2.2.2.2.2.2.2.2.2.2.2.2.2.2.2.2.2.2.2.2.1
theorem dL_law_1390 : decode cL_law 1390 = .ok (.goto 98, 3) := qdL_law_1360_24.2.2.2.2.2.2.2.2.2.2.2.2.2.2.2.2.2.2.2.2.2.1
theorem dL_law_1393 : decode cL_law 1393 = .ok (.aload_n 1, 1) := qdL_law_1360_24.2.2.2.2.2.2.2.2.2.2.2.2.2.2.2.2.2.2.2.2.2.2.1
theorem dL_law_1394 : decode cL_law 1394 = .ok (.aload_n 0, 1) := qdL_law_1360_24.2.2.2.2.2.2.2.2.2.2.2.2.2.2.2.2.2.2.2.2.2.2.2.1
theorem qdL_law_1395_24 : dcAll cL_law [(1395, .iload 4, 2), (1397, .iconst 1, 1), (1398, .iadd, 1), (1399, .iaload, 1), (1400, .aload_n 3, 1), (1401, .invokestatic 206, 3), (1404, .istore 5, 2), (1406, .aload_n 2, 1), (1407, .aload_n 0, 1), (1408, .iload 4, 2), (1410, .iconst 1, 1), (1411, .iadd, 1), (1412, .iaload, 1), (1413, .invokevirtual 209, 3), (1416, .astore 6, 2), (1418, .goto 70, 3), (1421, .aload_n 1, 1), (1422, .aload_n 0, 1), (1423, .iload 4, 2), (1425, .iconst 1, 1), (1426, .iadd, 1), (1427, .iaload, 1), (1428, .aload_n 3, 1), (1429, .invokestatic 210, 3)] := dcAll_of (by decide +kernel)
theorem dL_law_1395 : decode cL_law 1395 = .ok (.iload 4, 2) := qdL_law_1395_24.1
theorem dL_law_1397 : decode cL_law 1397 = .ok (.iconst 1, 1) := qdL_law_1395_24.2.1
theorem dL_law_1398 : decode cL_law 1398 = .ok (.iadd, 1) := qdL_law_1395_24.2.2.1
theorem dL_law_1399 : decode cL_law 1399 = .ok (.iaload, 1) := qdL_law_1395_24.2.2.2.1
theorem dL_law_1400 : decode cL_law 1400 = .ok (.aload_n 3, 1) := qdL_law_1395_24.2.2.2.2.1
theorem dL_law_1401 : decode cL_law 1401 = .ok (.invokestatic 206, 3) := qdL_law_1395_24.2.2.2.2.2.1
theorem dL_law_1404 : decode cL_law 1404 = .ok (.istore 5, 2) := qdL_law_1395_24.2.2.2.2.2.2.1
theorem dL_law_1406 : decode cL_law 1406 = .ok (.aload_n 2, 1) := qdL_law_1395_24.2.2.2.2.2.2.2.1
theorem dL_law_1407 : decode cL_law 1407 = .ok (.aload_n 0, 1) := qdL_law_1395_24.2.2.2.2.2.2.2.2.1
theorem dL_law_1408 : decode cL_law 1408 = .ok (.iload 4, 2) := qdL_law_1395_24.2.2.2.2.2.2.2.2.2.1
theorem dL_law_1410 : decode cL_law 1410 = .ok (.iconst 1, 1) := qdL_law_1395_24.2.2.2.2.2.2.2.2.2.2.1
theorem dL_law_1411 : decode cL_law 1411 = .ok (.iadd, 1) := qdL_law_1395_24.2.2.2.2.2.2.2.2.2.2.2.1
theorem dL_law_1412 : decode cL_law 1412 = .ok (.iaload, 1) := qdL_law_1395_24.2.2.2.2.2.2.2.2.2.2.2.2.1
theorem dL_law_1413 : decode cL_law 1413 = .ok (.invokevirtual 209, 3) := qdL_law_1395_24.2.2.2.2.2.2.2.2.2.2.2.2.2.1
theorem dL_law_1416 : decode cL_law 1416 = .ok (.astore 6, 2) := qdL_law_1395_24.2.2.2.2.2.2.2.2.2.2.2.2.2.2.1
theorem dL_law_1418 : decode cL_law 1418 = .ok (.goto 70, 3) := qdL_law_1395_24.2.2.2.2.2.2.2.2.2.2.2.2.2.2.2.1
theorem dL_law_1421 : decode cL_law 1421 = .ok (.aload_n 1, 1) := qdL_law_1395_24.2.2.2.2.2.2.2.2.2.2.2.2.2.2.2.2.1
theorem dL_law_1422 : decode cL_law 1422 = .ok (.aload_n 0, 1) := qdL_law_1395_24.2.2.2.2.2.2.2.2.2.2.2.2.2.2.2.2.2.1
theorem dL_law_1423 : decode cL_law 1423 = .ok (.iload 4, 2) := qdL_law_1395_24.2.2.2.2.2.2.2.2.2.2.2.2.2.2.2.2.2.2.1
theorem dL_law_1425 : decode cL_law 1425 = .ok (.iconst 1, 1) := qdL_law_1395_24.2.2.2.2.2.2.2.2.2.2.2.2.2.2.2.2.2.2.2.1
theorem dL_law_1426 : decode cL_law 1426 = .ok (.iadd, 1) := qdL_law_1395_24.2.2.2.2.2.2.2.2.2.2.2.2.2.2.2.2.2.2.2.2.1
theorem dL_law_1427 : decode cL_law 1427 = .ok (.iaload, 1) := qdL_law_1395_24.2.2.2.2.2.2.2.2.2.2.2.2.2.2.2.2.2.2.2.2.2.1
theorem dL_law_1428 : decode cL_law 1428 = .ok (.aload_n 3, 1) := qdL_law_1395_24.2.2.2.2.2.2.2.2.2.2.2.2.2.2.2.2.2.2.2.2.2.2.1
theorem dL_law_1429 : decode cL_law 1429 = .ok (.invokestatic 210, 3) := qdL_law_1395_24.2.2.2.2.2.2.2.2.2.2.2.2.2.2.2.2.2.2.2.2.2.2.2.1
theorem qdL_law_1432_24 : dcAll cL_law [(1432, .istore 5, 2), (1434, .aload_n 2, 1), (1435, .aload_n 0, 1), (1436, .iload 4, 2), (1438, .iconst 1, 1), (1439, .iadd, 1), (1440, .iaload, 1), (1441, .invokevirtual 212, 3), (1444, .istore 6, 2), (1446, .goto 42, 3), (1449, .aload_n 1, 1), (1450, .invokevirtual 213, 3), (1453, .pop, 1), (1454, .aload_n 2, 1), (1455, .invokevirtual 216, 3), (1458, .pop, 1), (1459, .goto 29, 3), (1462, .aload_n 1, 1), (1463, .invokevirtual 217, 3), (1466, .pop, 1), (1467, .aload_n 2, 1), (1468, .invokevirtual 221, 3), (1471, .pop, 1), (1472, .goto 16, 3)] := dcAll_of (by decide +kernel)
theorem dL_law_1432 : decode cL_law 1432 = .ok (.istore 5, 2) := qdL_law_1432_24.1
theorem dL_law_1434 : decode cL_law 1434 = .ok (.aload_n 2, 1) := qdL_law_1432_24.2.1
theorem dL_law_1435 : decode cL_law 1435 = .ok (.aload_n 0, 1) := qdL_law_1432_24.2.2.1
theorem dL_law_1436 : decode cL_law 1436 = .ok (.iload 4, 2) := qdL_law_1432_24.2.2.2.1
theorem dL_law_1438 : decode cL_law 1438 = .ok (.iconst 1, 1) := qdL_law_1432_24.2.2.2.2.1
theorem dL_law_1439 : decode cL_law 1439 = .ok (.iadd, 1) := qdL_law_1432_24.2.2.2.2.2.1
theorem dL_law_1440 : decode cL_law 1440 = .ok (.iaload, 1) := qdL_law_1432_24.2.2.2.2.2.2.1
theorem dL_law_1441 : decode cL_law 1441 = .ok (.invokevirtual 212, 3) := qdL_law_1432_24.2.2.2.2.2.2.2.1
theorem dL_law_1444 : decode cL_law 1444 = .ok (.istore 6, 2) := qdL_law_1432_24.2.2.2.2.2.2.2.2.1
theorem dL_law_1446 : decode cL_law 1446 = .ok (.goto 42, 3) := qdL_law_1432_24.2.2.2.2.2.2.2.2.2.1
theorem dL_law_1449 : decode cL_law 1449 = .ok (.aload_n 1, 1) := qdL_law_1432_24.2.2.2.2.2.2.2.2.2.2.1
theorem dL_law_1450 : decode cL_law 1450 = .ok (.invokevirtual 213, 3) := qdL_law_1432_24.2.2.2.2.2.2.2.2.2.2.2.1
theorem dL_law_1453 : decode cL_law 1453 = .ok (.pop, 1) := qdL_law_1432_24.2.2.2.2.2.2.2.2.2.2.2.2.1
theorem dL_law_1454 : decode cL_law 1454 = .ok (.aload_n 2, 1) := qdL_law_1432_24.2.2.2.2.2.2.2.2.2.2.2.2.2.1
theorem dL_law_1455 : decode cL_law 1455 = .ok (.invokevirtual 216, 3) := qdL_law_1432_24.2.2.2.2.2.2.2.2.2.2.2.2.2.2.1
theorem dL_law_1458 : decode cL_law 1458 = .ok (.pop, 1) := qdL_law_1432_24.2.2.2.2.2.2.2.2.2.2.2.2.2.2.2.1
theorem dL_law_1459 : decode cL_law 1459 = .ok (.goto 29, 3) := qdL_law_1432_24.2.2.2.2.2.2.2.2.2.2.2.2.2.2.2.2.1
theorem dL_law_1462 : decode cL_law 1462 = .ok (.aload_n 1, 1) := qdL_law_1432_24.2.2.2.2.2.2.2.2.2.2.2.2.2.2.2.2.2.1
theorem dL_law_1463 : decode cL_law 1463 = .ok (.invokevirtual 217, 3) := qdL_law_1432_24.2.2.2.2.2.2.2.2.2.2.2.2.2.2.2.2.2.2.1
theorem dL_law_1466 : decode cL_law 1466 = .ok (.pop, 1) := qdL_law_1432_24.2.2.2.2.2.2.2.2.2.2.2.2.2.2.2.2.2.2.2.1
theorem dL_law_1467 : decode cL_law 1467 = .ok (.aload_n 2, 1) := qdL_law_1432_24.2.2.2.2.2.2.2.2.2.2.2.2.2.2.2.2.2.2.2.2.1
theorem dL_law_1468 : decode cL_law 1468 = .ok (.invokevirtual 221, 3) := qdL_law_1432_24.2.2.2.2.2.2.2.2.2.2.2.2.2.2.2.2.2.2.2.2.2.1
theorem dL_law_1471 : decode cL_law 1471 = .ok (.pop, 1) := qdL_law_1432_24.2.2.2.2.2.2.2.2.2.2.2.2.2.2.2.2.2.2.2.2.2.2.1
theorem dL_law_1472 : decode cL_law 1472 = .ok (.goto 16, 3) := qdL_law_1432_24.2.2.2.2.2.2.2.2.2.2.2.2.2.2.2.2.2.2.2.2.2.2.2.1
theorem qdL_law_1475_11 : dcAll cL_law [(1475, .aload_n 1, 1), (1476, .invokevirtual 222, 3), (1479, .pop2, 1), (1480, .aload_n 2, 1), (1481, .invokevirtual 226, 3), (1484, .pop2, 1), (1485, .goto 3, 3), (1488, .iinc 4 5, 3), (1491, .goto (-1464), 3), (1494, .iconst 1, 1), (1495, .ireturn, 1)] := dcAll_of (by decide +kernel)
theorem dL_law_1475 : decode cL_law 1475 = .ok (.aload_n 1, 1) := qdL_law_1475_11.1
theorem dL_law_1476 : decode cL_law 1476 = .ok (.invokevirtual 222, 3) := qdL_law_1475_11.2.1
theorem dL_law_1479 : decode cL_law 1479 = .ok (.pop2, 1) := qdL_law_1475_11.2.2.1
theorem dL_law_1480 : decode cL_law 1480 = .ok (.aload_n 2, 1) := qdL_law_1475_11.2.2.2.1
theorem dL_law_1481 : decode cL_law 1481 = .ok (.invokevirtual 226, 3) := qdL_law_1475_11.2.2.2.2.1
theorem dL_law_1484 : decode cL_law 1484 = .ok (.pop2, 1) := qdL_law_1475_11.2.2.2.2.2.1
theorem dL_law_1485 : decode cL_law 1485 = .ok (.goto 3, 3) := qdL_law_1475_11.2.2.2.2.2.2.1
theorem dL_law_1488 : decode cL_law 1488 = .ok (.iinc 4 5, 3) := qdL_law_1475_11.2.2.2.2.2.2.2.1
theorem dL_law_1491 : decode cL_law 1491 = .ok (.goto (-1464), 3) := qdL_law_1475_11.2.2.2.2.2.2.2.2.1
theorem dL_law_1494 : decode cL_law 1494 = .ok (.iconst 1, 1) := qdL_law_1475_11.2.2.2.2.2.2.2.2.2.1
theorem dL_law_1495 : decode cL_law 1495 = .ok (.ireturn, 1) := qdL_law_1475_11.2.2.2.2.2.2.2.2.2.2.1
