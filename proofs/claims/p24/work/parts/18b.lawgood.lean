theorem zin_zt {ws : List Cond} (ps : List (Nat × Nat)) (h : ws = ps.filterMap (fun q => (zt q.1)[q.2]?)) (hg : ws.all goodWord = true) : GoodIn lw_tbl ws := by
  intro w hw
  refine ⟨?_, good_of_word (List.all_eq_true.mp hg w hw)⟩
  rw [h] at hw
  obtain ⟨q, -, hi⟩ := List.mem_filterMap.mp hw
  exact zt_in _ _ (List.mem_of_getElem? hi)
set_option maxRecDepth 20000 in
theorem zg_X4_init : GoodIn lw_tbl wsX4_init := goodIn_ca (zin_zt [(1, 43), (1, 44), (1, 36), (1, 37), (1, 49), (1, 45)] rfl (by decide +kernel)) (fun w h => ⟨zlaw_w_X4 w h, zqt_X40 w h⟩)
set_option maxRecDepth 20000 in
theorem zg_X3_init : GoodIn lw_tbl wsX3_init := zin_zt [(1, 54), (1, 55), (1, 36), (1, 37)] rfl (by decide +kernel)
set_option maxRecDepth 20000 in
theorem zg_X2_init : GoodIn lw_tbl wsX2_init := goodIn_ca (zin_zt [(1, 70), (1, 71), (1, 36), (1, 37), (1, 82), (1, 72), (1, 73)] rfl (by decide +kernel)) (fun w h => ⟨zlaw_w_X2 w h, zqt_X20 w h⟩)
set_option maxRecDepth 20000 in
theorem zg_X1_init : GoodIn lw_tbl wsX1_init := goodIn_ca (goodIn_ca (zin_zt [(1, 64), (1, 65), (1, 66), (1, 67), (1, 5), (1, 83), (1, 84), (1, 69)] rfl (by decide +kernel)) (fun w h => ⟨zlaw_w_X1 w h, zqt_X10 w h⟩)) zg_X2_init
set_option maxRecDepth 20000 in
theorem zg_X0_init : GoodIn lw_tbl wsX0_init := goodIn_ca (zin_zt [(1, 94), (1, 95), (1, 36), (1, 37), (1, 96), (1, 97)] rfl (by decide +kernel)) (fun w h => ⟨zlaw_w_X0 w h, zqt_X00 w h⟩)
set_option maxRecDepth 20000 in
theorem zg_X7_init : GoodIn lw_tbl wsX7_init := goodIn_ca (goodIn_ca (goodIn_ca (goodIn_ca (goodIn_ca (goodIn_ca (zin_zt [(1, 34), (1, 35), (1, 38), (1, 103), (1, 40), (1, 2), (1, 104), (1, 105), (1, 50), (1, 51), (1, 3), (1, 106), (1, 60), (1, 61), (1, 4), (1, 107), (1, 90), (1, 91), (1, 6), (1, 108), (1, 42), (1, 53), (1, 63), (1, 5), (1, 92), (1, 93)] rfl (by decide +kernel)) (fun w h => ⟨zlaw_w_X7 w h, zqt_X70 w h⟩)) (fun w h => ⟨zlaw_w_X3 w h, zqt_X30 w h⟩)) zg_X4_init) zg_X3_init) zg_X1_init) zg_X0_init
theorem zl_X7_init : GoodIn lw_tbl (wsX7_init) := zg_X7_init
set_option maxRecDepth 20000 in
theorem zg_X9_init : GoodIn lw_tbl wsX9_init := goodIn_ca (zin_zt [(5, 100), (5, 101), (1, 36), (1, 37), (1, 49), (5, 102)] rfl (by decide +kernel)) (fun w h => ⟨zlaw_w_X9 w h, zqt_X90 w h⟩)
theorem zl_X9_init : GoodIn lw_tbl (wsX9_init) := zg_X9_init
set_option maxRecDepth 20000 in
theorem zg_X8_init : GoodIn lw_tbl wsX8_init := zin_zt [(2, 5), (2, 6), (1, 36), (1, 37)] rfl (by decide +kernel)
theorem zl_X8_init_n120 : GoodIn lw_tbl (wsX8_init) := zg_X8_init
set_option maxRecDepth 20000 in
theorem zg_X7_rowOf : GoodIn lw_tbl wsX7_rowOf := goodIn_ca (goodIn_ca (zin_zt [(2, 26), (2, 27), (1, 12), (1, 103)] rfl (by decide +kernel)) (fun w h => ⟨zlaw_w_X7 w h, zqt_X70 w h⟩)) (fun w h => ⟨wsL_law_x0 w h, zqf w h⟩)
set_option maxRecDepth 20000 in
theorem zg_X7_need : GoodIn lw_tbl wsX7_need := goodIn_ca (zin_zt [(2, 97), (2, 98), (1, 13)] rfl (by decide +kernel)) (fun w h => ⟨wsL_law_x1 w h, zqf w h⟩)
set_option maxRecDepth 20000 in
theorem zg_X2_lay : GoodIn lw_tbl wsX2_lay := goodIn_ca (zin_zt [(1, 178), (1, 74), (1, 72), (1, 73)] rfl (by decide +kernel)) (fun w h => ⟨zlaw_w_X2 w h, zqt_X20 w h⟩)
set_option maxRecDepth 20000 in
theorem zg_X2_count : GoodIn lw_tbl wsX2_count := goodIn_ca (zin_zt [(1, 182), (1, 74)] rfl (by decide +kernel)) (fun w h => ⟨zlaw_w_X2 w h, zqt_X20 w h⟩)
set_option maxRecDepth 20000 in
theorem zg_X2_timesAt : GoodIn lw_tbl wsX2_timesAt := goodIn_ca (zin_zt [(1, 186), (1, 73)] rfl (by decide +kernel)) (fun w h => ⟨zlaw_w_X2 w h, zqt_X20 w h⟩)
set_option maxRecDepth 20000 in
theorem zg_X1_signByPowers : GoodIn lw_tbl wsX1_signByPowers := goodIn_ca (goodIn_ca (goodIn_ca (goodIn_ca (zin_zt [(1, 174), (1, 83), (1, 175), (1, 176), (1, 177), (1, 5), (1, 179), (1, 180), (1, 181), (1, 183), (1, 184), (1, 185)] rfl (by decide +kernel)) (fun w h => ⟨zlaw_w_X1 w h, zqt_X10 w h⟩)) zg_X2_lay) zg_X2_count) zg_X2_timesAt
set_option maxRecDepth 20000 in
theorem zg_X2_primeAt : GoodIn lw_tbl wsX2_primeAt := goodIn_ca (zin_zt [(1, 232), (1, 72)] rfl (by decide +kernel)) (fun w h => ⟨zlaw_w_X2 w h, zqt_X20 w h⟩)
set_option maxRecDepth 20000 in
theorem zg_X1_phiByPowers : GoodIn lw_tbl wsX1_phiByPowers := goodIn_ca (goodIn_ca (goodIn_ca (goodIn_ca (goodIn_ca (zin_zt [(2, 122), (1, 83), (1, 175), (1, 176), (1, 177), (1, 5), (1, 179), (1, 180), (1, 181), (1, 183), (1, 184), (1, 185), (2, 123), (1, 230), (1, 231)] rfl (by decide +kernel)) (fun w h => ⟨zlaw_w_X1 w h, zqt_X10 w h⟩)) zg_X2_lay) zg_X2_count) zg_X2_timesAt) zg_X2_primeAt
set_option maxRecDepth 20000 in
theorem zg_X1_tauByPowers : GoodIn lw_tbl wsX1_tauByPowers := goodIn_ca (goodIn_ca (goodIn_ca (goodIn_ca (zin_zt [(2, 127), (1, 83), (1, 175), (1, 176), (1, 177), (1, 5), (1, 179), (1, 180), (1, 181), (1, 183), (1, 184), (1, 185)] rfl (by decide +kernel)) (fun w h => ⟨zlaw_w_X1 w h, zqt_X10 w h⟩)) zg_X2_lay) zg_X2_count) zg_X2_timesAt
set_option maxRecDepth 20000 in
theorem zg_X1_sigmaByPowers : GoodIn lw_tbl wsX1_sigmaByPowers := goodIn_ca (goodIn_ca (goodIn_ca (goodIn_ca (goodIn_ca (zin_zt [(2, 131), (1, 83), (1, 175), (1, 176), (1, 177), (1, 5), (1, 179), (1, 180), (1, 181), (1, 183), (1, 184), (1, 185), (2, 123), (1, 230), (1, 231)] rfl (by decide +kernel)) (fun w h => ⟨zlaw_w_X1 w h, zqt_X10 w h⟩)) zg_X2_lay) zg_X2_count) zg_X2_timesAt) zg_X2_primeAt
set_option maxRecDepth 20000 in
theorem zg_X1_squareOneByOne : GoodIn lw_tbl wsX1_squareOneByOne := zin_zt [(2, 135)] rfl (by decide +kernel)
set_option maxRecDepth 20000 in
theorem zg_X1_turnByPowers : GoodIn lw_tbl wsX1_turnByPowers := goodIn_ca (goodIn_ca (goodIn_ca (goodIn_ca (zin_zt [(2, 139), (1, 83), (1, 175), (1, 176), (1, 177), (1, 5), (1, 179), (1, 180), (1, 181), (1, 183), (1, 184), (1, 185)] rfl (by decide +kernel)) (fun w h => ⟨zlaw_w_X1 w h, zqt_X10 w h⟩)) zg_X2_lay) zg_X2_count) zg_X2_timesAt
set_option maxRecDepth 20000 in
theorem zg_X1_known : GoodIn lw_tbl wsX1_known := goodIn_ca (goodIn_ca (goodIn_ca (goodIn_ca (goodIn_ca (goodIn_ca (zin_zt [(2, 117), (2, 118), (1, 172), (1, 173), (1, 4), (1, 5), (2, 119), (2, 120), (2, 121), (2, 124), (2, 125), (2, 126), (2, 128), (2, 129), (2, 130), (2, 132), (2, 133), (2, 134), (2, 136), (2, 137), (2, 138)] rfl (by decide +kernel)) zg_X1_signByPowers) zg_X1_phiByPowers) zg_X1_tauByPowers) zg_X1_sigmaByPowers) zg_X1_squareOneByOne) zg_X1_turnByPowers
set_option maxRecDepth 20000 in
theorem zg_X4_lay : GoodIn lw_tbl wsX4_lay := goodIn_ca (zin_zt [(1, 158), (1, 45)] rfl (by decide +kernel)) (fun w h => ⟨zlaw_w_X4 w h, zqt_X40 w h⟩)
set_option maxRecDepth 20000 in
theorem zg_X4_countUnlike : GoodIn lw_tbl wsX4_countUnlike := goodIn_ca (zin_zt [(2, 152), (1, 45)] rfl (by decide +kernel)) (fun w h => ⟨zlaw_w_X4 w h, zqt_X40 w h⟩)
set_option maxRecDepth 20000 in
theorem zg_X4_takeFrom : GoodIn lw_tbl wsX4_takeFrom := goodIn_ca (zin_zt [(2, 148), (2, 149), (2, 150), (2, 151), (1, 2)] rfl (by decide +kernel)) zg_X4_countUnlike
set_option maxRecDepth 20000 in
theorem zg_X7_become : GoodIn lw_tbl wsX7_become := goodIn_ca (goodIn_ca (zin_zt [(2, 144), (1, 109), (1, 104), (2, 145), (2, 146), (2, 147), (1, 2)] rfl (by decide +kernel)) (fun w h => ⟨zlaw_w_X7 w h, zqt_X70 w h⟩)) zg_X4_takeFrom
set_option maxRecDepth 20000 in
theorem zg_X7_know : GoodIn lw_tbl wsX7_know := goodIn_ca (goodIn_ca (goodIn_ca (goodIn_ca (goodIn_ca (zin_zt [(2, 22), (1, 107), (2, 23), (2, 25), (0, 0), (1, 1), (1, 12), (2, 95), (2, 96), (1, 13), (2, 114), (2, 115), (2, 116), (1, 4), (1, 5), (2, 140), (1, 156), (1, 157), (1, 2), (2, 141), (2, 143), (0, 2)] rfl (by decide +kernel)) zg_X7_rowOf) zg_X7_need) zg_X1_known) zg_X4_lay) zg_X7_become
set_option maxRecDepth 20000 in
theorem zg_L_know : GoodIn lw_tbl wsL_know := goodIn_ca (goodIn_ca (zin_zt [(2, 16), (2, 17), (2, 18), (2, 19), (2, 20), (2, 21), (1, 1), (1, 12), (1, 13), (1, 4), (1, 5), (1, 2)] rfl (by decide +kernel)) (fun w h => ⟨zlaw_w_X8 w h, zqt_X80 w h⟩)) zg_X7_know
theorem zl_L_know : GoodIn lw_tbl (va_wsS RL 121 yL_know wsL_know) := goodIn_app (zin_zt (ws := [.methodLink RL 121 yL_know, .static yL_know, .initialized yL_know.cls]) [(2, 14), (2, 15), (1, 0)] rfl (by decide +kernel)) zg_L_know
set_option maxRecDepth 20000 in
theorem zg_X9_isOne : GoodIn lw_tbl wsX9_isOne := zin_zt [(5, 131)] rfl (by decide +kernel)
set_option maxRecDepth 20000 in
theorem zg_X9_isIn : GoodIn lw_tbl wsX9_isIn := zin_zt [(5, 134)] rfl (by decide +kernel)
set_option maxRecDepth 20000 in
theorem zg_X9_isThrown : GoodIn lw_tbl wsX9_isThrown := goodIn_ca (zin_zt [(5, 138), (5, 107)] rfl (by decide +kernel)) (fun w h => ⟨zlaw_w_X9 w h, zqt_X90 w h⟩)
set_option maxRecDepth 20000 in
theorem zg_X9_squareOf : GoodIn lw_tbl wsX9_squareOf := zin_zt [(5, 147)] rfl (by decide +kernel)
set_option maxRecDepth 20000 in
theorem zg_X9_least : GoodIn lw_tbl wsX9_least := zin_zt [(5, 153)] rfl (by decide +kernel)
set_option maxRecDepth 20000 in
theorem zg_X9_all : GoodIn lw_tbl wsX9_all := goodIn_ca (zin_zt [(5, 150), (5, 151), (5, 152), (1, 7)] rfl (by decide +kernel)) zg_X9_least
set_option maxRecDepth 20000 in
theorem zg_X9_signOf : GoodIn lw_tbl wsX9_signOf := goodIn_ca (goodIn_ca (zin_zt [(5, 144), (5, 145), (5, 146), (1, 7), (5, 148), (5, 149)] rfl (by decide +kernel)) zg_X9_squareOf) zg_X9_all
set_option maxRecDepth 20000 in
theorem zg_X9_common : GoodIn lw_tbl wsX9_common := zin_zt [(5, 159), (5, 160), (3, 96), (1, 14), (3, 97)] rfl (by decide +kernel)
set_option maxRecDepth 20000 in
theorem zg_X9_phiOf : GoodIn lw_tbl wsX9_phiOf := goodIn_ca (zin_zt [(5, 156), (5, 157), (5, 158), (1, 7), (1, 14)] rfl (by decide +kernel)) zg_X9_common
set_option maxRecDepth 20000 in
theorem zg_X9_tauOf : GoodIn lw_tbl wsX9_tauOf := zin_zt [(5, 163)] rfl (by decide +kernel)
set_option maxRecDepth 20000 in
theorem zg_X9_sigmaOf : GoodIn lw_tbl wsX9_sigmaOf := zin_zt [(5, 166)] rfl (by decide +kernel)
set_option maxRecDepth 20000 in
theorem zg_X9_known : GoodIn lw_tbl wsX9_known := goodIn_ca (goodIn_ca (goodIn_ca (goodIn_ca (goodIn_ca (goodIn_ca (zin_zt [(5, 141), (5, 167), (5, 142), (5, 143), (1, 7), (5, 145), (5, 146), (5, 148), (5, 149), (5, 154), (5, 155), (1, 14), (5, 161), (5, 162), (5, 164), (5, 165)] rfl (by decide +kernel)) zg_X9_signOf) zg_X9_phiOf) zg_X9_tauOf) zg_X9_sigmaOf) zg_X9_squareOf) zg_X9_all
set_option maxRecDepth 20000 in
theorem zg_X9_at : GoodIn lw_tbl wsX9_at := goodIn_ca (zin_zt [(5, 175), (5, 102)] rfl (by decide +kernel)) (fun w h => ⟨zlaw_w_X9 w h, zqt_X90 w h⟩)
set_option maxRecDepth 20000 in
theorem zg_X9_become : GoodIn lw_tbl wsX9_become := goodIn_ca (zin_zt [(5, 171), (5, 104), (5, 172), (5, 174), (0, 8), (1, 7)] rfl (by decide +kernel)) zg_X9_at
set_option maxRecDepth 20000 in
theorem zg_X9_know : GoodIn lw_tbl wsX9_know := goodIn_ca (goodIn_ca (goodIn_ca (goodIn_ca (goodIn_ca (zin_zt [(5, 128), (1, 49), (5, 129), (5, 130), (1, 7), (5, 132), (5, 133), (5, 135), (5, 137), (0, 6), (5, 139), (5, 140), (1, 14), (5, 168), (5, 170), (0, 7)] rfl (by decide +kernel)) zg_X9_isOne) zg_X9_isIn) zg_X9_isThrown) zg_X9_known) zg_X9_become
theorem zl_X9_know : GoodIn lw_tbl (wsV RL 126 RX9 yX9_know wsX9_know) := goodIn_app (zin_zt (ws := [.methodLink RL 126 yX9_know, .instanceMethod yX9_know, .selects RX9 yX9_know yX9_know, .initialized RX9]) [(5, 125), (5, 126), (5, 127), (1, 7)] rfl (by decide +kernel)) zg_X9_know
set_option maxRecDepth 20000 in
theorem zg_X4_at : GoodIn lw_tbl wsX4_at := goodIn_ca (zin_zt [(1, 150), (1, 45)] rfl (by decide +kernel)) (fun w h => ⟨zlaw_w_X4 w h, zqt_X40 w h⟩)
set_option maxRecDepth 20000 in
theorem zg_X7_putLong : GoodIn lw_tbl wsX7_putLong := goodIn_ca (goodIn_ca (goodIn_ca (zin_zt [(2, 163), (1, 109), (1, 239), (1, 148), (1, 149), (1, 2), (2, 140), (1, 156), (1, 157)] rfl (by decide +kernel)) (fun w h => ⟨zlaw_w_X7 w h, zqt_X70 w h⟩)) zg_X4_at) zg_X4_lay
set_option maxRecDepth 20000 in
theorem zg_X7_put : GoodIn lw_tbl wsX7_put := goodIn_ca (goodIn_ca (goodIn_ca (zin_zt [(2, 159), (2, 23), (2, 25), (0, 0), (1, 1), (1, 12), (2, 95), (2, 96), (1, 13), (2, 160), (2, 162), (0, 3), (1, 2)] rfl (by decide +kernel)) zg_X7_rowOf) zg_X7_need) zg_X7_putLong
set_option maxRecDepth 20000 in
theorem zg_L_put : GoodIn lw_tbl wsL_put := goodIn_ca (goodIn_ca (zin_zt [(2, 155), (2, 17), (2, 18), (2, 156), (2, 157), (2, 158), (1, 1), (1, 12), (1, 13), (1, 2)] rfl (by decide +kernel)) (fun w h => ⟨zlaw_w_X8 w h, zqt_X80 w h⟩)) zg_X7_put
theorem zl_L_put : GoodIn lw_tbl (va_wsS RL 127 yL_put wsL_put) := goodIn_app (zin_zt (ws := [.methodLink RL 127 yL_put, .static yL_put, .initialized yL_put.cls]) [(2, 153), (2, 154), (1, 0)] rfl (by decide +kernel)) zg_L_put
set_option maxRecDepth 20000 in
theorem zg_X9_putAt : GoodIn lw_tbl wsX9_putAt := goodIn_ca (goodIn_ca (goodIn_ca (goodIn_ca (zin_zt [(5, 183), (5, 104), (5, 129), (5, 130), (1, 7), (5, 132), (5, 133), (5, 135), (5, 137), (0, 6), (5, 172), (5, 174), (0, 8)] rfl (by decide +kernel)) zg_X9_isOne) zg_X9_isIn) zg_X9_isThrown) zg_X9_at
set_option maxRecDepth 20000 in
theorem zg_X9_put : GoodIn lw_tbl wsX9_put := goodIn_ca (zin_zt [(5, 179), (5, 180), (5, 182), (0, 9), (1, 7)] rfl (by decide +kernel)) zg_X9_putAt
theorem zl_X9_put : GoodIn lw_tbl (wsV RL 130 RX9 yX9_put wsX9_put) := goodIn_app (zin_zt (ws := [.methodLink RL 130 yX9_put, .instanceMethod yX9_put, .selects RX9 yX9_put yX9_put, .initialized RX9]) [(5, 176), (5, 177), (5, 178), (1, 7)] rfl (by decide +kernel)) zg_X9_put
set_option maxRecDepth 20000 in
theorem zg_X7_putWide : GoodIn lw_tbl wsX7_putWide := goodIn_ca (goodIn_ca (goodIn_ca (zin_zt [(2, 170), (2, 171), (2, 23), (2, 25), (0, 0), (1, 1), (1, 12), (2, 95), (2, 96), (1, 13), (2, 160), (2, 162), (0, 3), (1, 2)] rfl (by decide +kernel)) zg_X7_rowOf) zg_X7_need) zg_X7_putLong
set_option maxRecDepth 20000 in
theorem zg_L_putWide : GoodIn lw_tbl wsL_putWide := goodIn_ca (goodIn_ca (zin_zt [(2, 166), (2, 17), (2, 18), (2, 167), (2, 168), (2, 169), (1, 1), (1, 12), (1, 13), (1, 2)] rfl (by decide +kernel)) (fun w h => ⟨zlaw_w_X8 w h, zqt_X80 w h⟩)) zg_X7_putWide
theorem zl_L_putWide : GoodIn lw_tbl (va_wsS RL 131 yL_putWide wsL_putWide) := goodIn_app (zin_zt (ws := [.methodLink RL 131 yL_putWide, .static yL_putWide, .initialized yL_putWide.cls]) [(2, 164), (2, 165), (1, 0)] rfl (by decide +kernel)) zg_L_putWide
set_option maxRecDepth 20000 in
theorem zg_X9_putWide : GoodIn lw_tbl wsX9_putWide := goodIn_ca (zin_zt [(5, 187), (5, 188), (5, 189), (5, 180), (5, 182), (0, 9), (1, 7)] rfl (by decide +kernel)) zg_X9_putAt
theorem zl_X9_putWide : GoodIn lw_tbl (wsV RL 134 RX9 yX9_putWide wsX9_putWide) := goodIn_app (zin_zt (ws := [.methodLink RL 134 yX9_putWide, .instanceMethod yX9_putWide, .selects RX9 yX9_putWide yX9_putWide, .initialized RX9]) [(5, 184), (5, 185), (5, 186), (1, 7)] rfl (by decide +kernel)) zg_X9_putWide
set_option maxRecDepth 20000 in
theorem zg_X7_sow : GoodIn lw_tbl wsX7_sow := goodIn_ca (goodIn_ca (goodIn_ca (zin_zt [(2, 178), (2, 179), (2, 180), (1, 109), (2, 23), (2, 25), (0, 0), (1, 1), (1, 12), (2, 95), (2, 96), (1, 13), (2, 140), (1, 156), (1, 157), (1, 2)] rfl (by decide +kernel)) zg_X7_rowOf) zg_X7_need) zg_X4_lay
set_option maxRecDepth 20000 in
theorem zg_L_sow : GoodIn lw_tbl wsL_sow := goodIn_ca (goodIn_ca (zin_zt [(2, 174), (2, 17), (2, 18), (2, 175), (2, 176), (2, 177), (1, 1), (1, 12), (1, 13), (1, 2)] rfl (by decide +kernel)) (fun w h => ⟨zlaw_w_X8 w h, zqt_X80 w h⟩)) zg_X7_sow
theorem zl_L_sow : GoodIn lw_tbl (va_wsS RL 135 yL_sow wsL_sow) := goodIn_app (zin_zt (ws := [.methodLink RL 135 yL_sow, .static yL_sow, .initialized yL_sow.cls]) [(2, 172), (2, 173), (1, 0)] rfl (by decide +kernel)) zg_L_sow
set_option maxRecDepth 20000 in
theorem zg_X9_sow : GoodIn lw_tbl wsX9_sow := goodIn_ca (goodIn_ca (goodIn_ca (goodIn_ca (zin_zt [(5, 193), (5, 194), (1, 49), (5, 195), (5, 129), (5, 130), (1, 7), (5, 132), (5, 133), (5, 135), (5, 137), (0, 6), (5, 168), (5, 170), (0, 7)] rfl (by decide +kernel)) zg_X9_isOne) zg_X9_isIn) zg_X9_isThrown) zg_X9_become
theorem zl_X9_sow : GoodIn lw_tbl (wsV RL 137 RX9 yX9_sow wsX9_sow) := goodIn_app (zin_zt (ws := [.methodLink RL 137 yX9_sow, .instanceMethod yX9_sow, .selects RX9 yX9_sow yX9_sow, .initialized RX9]) [(5, 190), (5, 191), (5, 192), (1, 7)] rfl (by decide +kernel)) zg_X9_sow
set_option maxRecDepth 20000 in
theorem zg_X7_copy : GoodIn lw_tbl wsX7_copy := goodIn_ca (goodIn_ca (zin_zt [(2, 187), (1, 109), (2, 23), (2, 25), (0, 0), (1, 1), (1, 12), (2, 145), (2, 146), (2, 147), (1, 2)] rfl (by decide +kernel)) zg_X7_rowOf) zg_X4_takeFrom
set_option maxRecDepth 20000 in
theorem zg_L_copy : GoodIn lw_tbl wsL_copy := goodIn_ca (goodIn_ca (zin_zt [(2, 183), (2, 17), (2, 184), (2, 185), (2, 186), (1, 1), (1, 12), (1, 2)] rfl (by decide +kernel)) (fun w h => ⟨zlaw_w_X8 w h, zqt_X80 w h⟩)) zg_X7_copy
theorem zl_L_copy : GoodIn lw_tbl (va_wsS RL 138 yL_copy wsL_copy) := goodIn_app (zin_zt (ws := [.methodLink RL 138 yL_copy, .static yL_copy, .initialized yL_copy.cls]) [(2, 181), (2, 182), (1, 0)] rfl (by decide +kernel)) zg_L_copy
set_option maxRecDepth 20000 in
theorem zg_X9_of : GoodIn lw_tbl wsX9_of := goodIn_ca (zin_zt [(5, 203), (1, 49), (5, 172), (5, 174), (0, 8), (1, 7)] rfl (by decide +kernel)) zg_X9_at
set_option maxRecDepth 20000 in
theorem zg_X9_copy : GoodIn lw_tbl wsX9_copy := goodIn_ca (goodIn_ca (goodIn_ca (goodIn_ca (zin_zt [(5, 199), (5, 129), (5, 130), (1, 7), (5, 135), (5, 137), (0, 6), (5, 200), (5, 202), (0, 10), (5, 168), (5, 170), (0, 7)] rfl (by decide +kernel)) zg_X9_isOne) zg_X9_isThrown) zg_X9_of) zg_X9_become
theorem zl_X9_copy : GoodIn lw_tbl (wsV RL 140 RX9 yX9_copy wsX9_copy) := goodIn_app (zin_zt (ws := [.methodLink RL 140 yX9_copy, .instanceMethod yX9_copy, .selects RX9 yX9_copy yX9_copy, .initialized RX9]) [(5, 196), (5, 197), (5, 198), (1, 7)] rfl (by decide +kernel)) zg_X9_copy
set_option maxRecDepth 20000 in
theorem zg_X4_exchange : GoodIn lw_tbl wsX4_exchange := goodIn_ca (zin_zt [(2, 199), (1, 45)] rfl (by decide +kernel)) (fun w h => ⟨zlaw_w_X4 w h, zqt_X40 w h⟩)
set_option maxRecDepth 20000 in
theorem zg_X7_swap : GoodIn lw_tbl wsX7_swap := goodIn_ca (goodIn_ca (goodIn_ca (zin_zt [(2, 194), (1, 109), (2, 23), (2, 25), (0, 0), (1, 1), (1, 12), (2, 195), (2, 150), (2, 151), (1, 2), (2, 196), (2, 197), (2, 198)] rfl (by decide +kernel)) zg_X7_rowOf) zg_X4_countUnlike) zg_X4_exchange
set_option maxRecDepth 20000 in
theorem zg_L_swap : GoodIn lw_tbl wsL_swap := goodIn_ca (goodIn_ca (zin_zt [(2, 190), (2, 17), (2, 191), (2, 192), (2, 193), (1, 1), (1, 12), (1, 2)] rfl (by decide +kernel)) (fun w h => ⟨zlaw_w_X8 w h, zqt_X80 w h⟩)) zg_X7_swap
theorem zl_L_swap : GoodIn lw_tbl (va_wsS RL 141 yL_swap wsL_swap) := goodIn_app (zin_zt (ws := [.methodLink RL 141 yL_swap, .static yL_swap, .initialized yL_swap.cls]) [(2, 188), (2, 189), (1, 0)] rfl (by decide +kernel)) zg_L_swap
set_option maxRecDepth 20000 in
theorem zg_X9_swap : GoodIn lw_tbl wsX9_swap := goodIn_ca (goodIn_ca (goodIn_ca (goodIn_ca (zin_zt [(5, 207), (5, 129), (5, 130), (1, 7), (5, 135), (5, 137), (0, 6), (5, 200), (5, 202), (0, 10), (5, 168), (5, 170), (0, 7)] rfl (by decide +kernel)) zg_X9_isOne) zg_X9_isThrown) zg_X9_of) zg_X9_become
theorem zl_X9_swap : GoodIn lw_tbl (wsV RL 143 RX9 yX9_swap wsX9_swap) := goodIn_app (zin_zt (ws := [.methodLink RL 143 yX9_swap, .instanceMethod yX9_swap, .selects RX9 yX9_swap yX9_swap, .initialized RX9]) [(5, 204), (5, 205), (5, 206), (1, 7)] rfl (by decide +kernel)) zg_X9_swap
set_option maxRecDepth 20000 in
theorem zg_X3_begin : GoodIn lw_tbl wsX3_begin := goodIn_ca (zin_zt [(1, 146), (1, 56)] rfl (by decide +kernel)) (fun w h => ⟨zlaw_w_X3 w h, zqt_X30 w h⟩)
set_option maxRecDepth 20000 in
theorem zg_X3_plus : GoodIn lw_tbl wsX3_plus := goodIn_ca (zin_zt [(1, 154), (1, 56)] rfl (by decide +kernel)) (fun w h => ⟨zlaw_w_X3 w h, zqt_X30 w h⟩)
set_option maxRecDepth 20000 in
theorem zg_X3_minus : GoodIn lw_tbl wsX3_minus := goodIn_ca (zin_zt [(2, 214), (1, 56)] rfl (by decide +kernel)) (fun w h => ⟨zlaw_w_X3 w h, zqt_X30 w h⟩)
set_option maxRecDepth 20000 in
theorem zg_X3_isLetProduct : GoodIn lw_tbl wsX3_isLetProduct := zin_zt [(1, 193), (1, 194), (1, 195)] rfl (by decide +kernel)
set_option maxRecDepth 20000 in
theorem zg_X3_times : GoodIn lw_tbl wsX3_times := goodIn_ca (goodIn_ca (zin_zt [(1, 190), (1, 56), (1, 191), (1, 192), (1, 3)] rfl (by decide +kernel)) (fun w h => ⟨zlaw_w_X3 w h, zqt_X30 w h⟩)) zg_X3_isLetProduct
set_option maxRecDepth 20000 in
theorem zg_X3_isBeyond : GoodIn lw_tbl wsX3_isBeyond := goodIn_ca (zin_zt [(1, 162), (1, 56)] rfl (by decide +kernel)) (fun w h => ⟨zlaw_w_X3 w h, zqt_X30 w h⟩)
set_option maxRecDepth 20000 in
theorem zg_X0_layMet : GoodIn lw_tbl wsX0_layMet := goodIn_ca (goodIn_ca (goodIn_ca (goodIn_ca (goodIn_ca (goodIn_ca (goodIn_ca (goodIn_ca (zin_zt [(2, 210), (1, 96), (1, 143), (1, 144), (1, 145), (1, 3), (1, 147), (1, 148), (1, 149), (1, 2), (1, 151), (1, 152), (1, 153), (1, 155), (1, 156), (1, 157), (2, 211), (2, 212), (2, 213), (1, 187), (1, 188), (1, 189), (1, 159), (1, 160), (1, 161)] rfl (by decide +kernel)) (fun w h => ⟨zlaw_w_X0 w h, zqt_X00 w h⟩)) zg_X3_begin) zg_X4_at) zg_X3_plus) zg_X4_lay) zg_X3_minus) zg_X3_times) zg_X3_isBeyond
set_option maxRecDepth 20000 in
theorem zg_X7_refuse : GoodIn lw_tbl wsX7_refuse := goodIn_ca (zin_zt [(2, 218), (1, 110)] rfl (by decide +kernel)) (fun w h => ⟨zlaw_w_X7 w h, zqt_X70 w h⟩)
set_option maxRecDepth 20000 in
theorem zg_X7_meet : GoodIn lw_tbl wsX7_meet := goodIn_ca (goodIn_ca (goodIn_ca (goodIn_ca (goodIn_ca (zin_zt [(2, 206), (1, 108), (2, 23), (2, 25), (0, 0), (1, 1), (1, 12), (2, 95), (2, 96), (1, 13), (2, 207), (2, 208), (2, 209), (1, 6), (1, 3), (1, 2), (2, 141), (2, 143), (0, 2), (2, 215), (2, 217), (0, 4)] rfl (by decide +kernel)) zg_X7_rowOf) zg_X7_need) zg_X0_layMet) zg_X7_become) zg_X7_refuse
set_option maxRecDepth 20000 in
theorem zg_L_meet : GoodIn lw_tbl wsL_meet := goodIn_ca (goodIn_ca (zin_zt [(2, 202), (2, 17), (2, 18), (2, 203), (2, 204), (2, 205), (1, 1), (1, 12), (1, 13), (1, 6), (1, 3), (1, 2)] rfl (by decide +kernel)) (fun w h => ⟨zlaw_w_X8 w h, zqt_X80 w h⟩)) zg_X7_meet
theorem zl_L_meet : GoodIn lw_tbl (va_wsS RL 144 yL_meet wsL_meet) := goodIn_app (zin_zt (ws := [.methodLink RL 144 yL_meet, .static yL_meet, .initialized yL_meet.cls]) [(2, 200), (2, 201), (1, 0)] rfl (by decide +kernel)) zg_L_meet
set_option maxRecDepth 20000 in
theorem zg_X9_plus : GoodIn lw_tbl wsX9_plus := goodIn_ca (zin_zt [(5, 215), (5, 103)] rfl (by decide +kernel)) (fun w h => ⟨zlaw_w_X9 w h, zqt_X90 w h⟩)
set_option maxRecDepth 20000 in
theorem zg_X9_times : GoodIn lw_tbl wsX9_times := goodIn_ca (zin_zt [(5, 219), (5, 167), (5, 220), (5, 103)] rfl (by decide +kernel)) (fun w h => ⟨zlaw_w_X9 w h, zqt_X90 w h⟩)
set_option maxRecDepth 20000 in
theorem zg_X9_becomeOrNot : GoodIn lw_tbl wsX9_becomeOrNot := goodIn_ca (zin_zt [(5, 224), (5, 103), (5, 105), (5, 168), (5, 170), (0, 7), (1, 7)] rfl (by decide +kernel)) zg_X9_become
set_option maxRecDepth 20000 in
theorem zg_X9_meet : GoodIn lw_tbl wsX9_meet := goodIn_ca (goodIn_ca (goodIn_ca (goodIn_ca (goodIn_ca (goodIn_ca (goodIn_ca (zin_zt [(5, 211), (1, 49), (5, 129), (5, 130), (1, 7), (5, 132), (5, 133), (5, 135), (5, 137), (0, 6), (5, 172), (5, 174), (0, 8), (5, 212), (5, 214), (0, 11), (5, 216), (5, 218), (0, 12), (5, 221), (5, 223), (0, 13)] rfl (by decide +kernel)) zg_X9_isOne) zg_X9_isIn) zg_X9_isThrown) zg_X9_at) zg_X9_plus) zg_X9_times) zg_X9_becomeOrNot
theorem zl_X9_meet : GoodIn lw_tbl (wsV RL 146 RX9 yX9_meet wsX9_meet) := goodIn_app (zin_zt (ws := [.methodLink RL 146 yX9_meet, .instanceMethod yX9_meet, .selects RX9 yX9_meet yX9_meet, .initialized RX9]) [(5, 208), (5, 209), (5, 210), (1, 7)] rfl (by decide +kernel)) zg_X9_meet
set_option maxRecDepth 20000 in
theorem zg_X0_layProduct : GoodIn lw_tbl wsX0_layProduct := goodIn_ca (goodIn_ca (goodIn_ca (goodIn_ca (goodIn_ca (goodIn_ca (goodIn_ca (zin_zt [(1, 203), (1, 96), (1, 143), (1, 144), (1, 145), (1, 3), (1, 147), (1, 148), (1, 149), (1, 2), (1, 187), (1, 188), (1, 189), (1, 151), (1, 152), (1, 153), (1, 155), (1, 156), (1, 157), (1, 159), (1, 160), (1, 161)] rfl (by decide +kernel)) (fun w h => ⟨zlaw_w_X0 w h, zqt_X00 w h⟩)) zg_X3_begin) zg_X4_at) zg_X3_times) zg_X3_plus) zg_X4_lay) zg_X3_isBeyond
set_option maxRecDepth 20000 in
theorem zg_X7_multiply : GoodIn lw_tbl wsX7_multiply := goodIn_ca (goodIn_ca (goodIn_ca (goodIn_ca (zin_zt [(2, 225), (1, 108), (2, 23), (2, 25), (0, 0), (1, 1), (1, 12), (1, 200), (1, 201), (1, 202), (1, 6), (1, 3), (1, 2), (2, 141), (2, 143), (0, 2), (2, 215), (2, 217), (0, 4)] rfl (by decide +kernel)) zg_X7_rowOf) zg_X0_layProduct) zg_X7_become) zg_X7_refuse
set_option maxRecDepth 20000 in
theorem zg_L_multiply : GoodIn lw_tbl wsL_multiply := goodIn_ca (goodIn_ca (zin_zt [(2, 221), (2, 17), (2, 222), (2, 223), (2, 224), (1, 1), (1, 12), (1, 6), (1, 3), (1, 2)] rfl (by decide +kernel)) (fun w h => ⟨zlaw_w_X8 w h, zqt_X80 w h⟩)) zg_X7_multiply
theorem zl_L_multiply : GoodIn lw_tbl (va_wsS RL 147 yL_multiply wsL_multiply) := goodIn_app (zin_zt (ws := [.methodLink RL 147 yL_multiply, .static yL_multiply, .initialized yL_multiply.cls]) [(2, 219), (2, 220), (1, 0)] rfl (by decide +kernel)) zg_L_multiply
set_option maxRecDepth 20000 in
theorem zg_X9_product : GoodIn lw_tbl wsX9_product := goodIn_ca (goodIn_ca (zin_zt [(5, 232), (1, 49), (5, 216), (5, 218), (0, 12), (1, 7), (5, 212), (5, 214), (0, 11)] rfl (by decide +kernel)) zg_X9_times) zg_X9_plus
set_option maxRecDepth 20000 in
theorem zg_X9_multiply : GoodIn lw_tbl wsX9_multiply := goodIn_ca (goodIn_ca (goodIn_ca (goodIn_ca (goodIn_ca (zin_zt [(5, 228), (5, 129), (5, 130), (1, 7), (5, 135), (5, 137), (0, 6), (5, 200), (5, 202), (0, 10), (5, 229), (5, 231), (0, 14), (5, 221), (5, 223), (0, 13)] rfl (by decide +kernel)) zg_X9_isOne) zg_X9_isThrown) zg_X9_of) zg_X9_product) zg_X9_becomeOrNot
theorem zl_X9_multiply : GoodIn lw_tbl (wsV RL 149 RX9 yX9_multiply wsX9_multiply) := goodIn_app (zin_zt (ws := [.methodLink RL 149 yX9_multiply, .instanceMethod yX9_multiply, .selects RX9 yX9_multiply yX9_multiply, .initialized RX9]) [(5, 225), (5, 226), (5, 227), (1, 7)] rfl (by decide +kernel)) zg_X9_multiply
set_option maxRecDepth 20000 in
theorem zg_X0_hasInverse : GoodIn lw_tbl wsX0_hasInverse := goodIn_ca (zin_zt [(3, 4), (3, 5), (1, 147), (1, 148), (1, 149), (1, 2)] rfl (by decide +kernel)) zg_X4_at
set_option maxRecDepth 20000 in
theorem zg_X0_layInverse : GoodIn lw_tbl wsX0_layInverse := goodIn_ca (goodIn_ca (goodIn_ca (goodIn_ca (goodIn_ca (goodIn_ca (goodIn_ca (goodIn_ca (zin_zt [(3, 0), (1, 96), (3, 1), (3, 2), (3, 3), (1, 6), (1, 147), (1, 148), (1, 149), (1, 2), (1, 143), (1, 144), (1, 145), (1, 3), (1, 155), (1, 156), (1, 157), (1, 187), (1, 188), (1, 189), (1, 151), (1, 152), (1, 153), (1, 159), (1, 160), (1, 161)] rfl (by decide +kernel)) (fun w h => ⟨zlaw_w_X0 w h, zqt_X00 w h⟩)) zg_X0_hasInverse) zg_X3_begin) zg_X4_at) zg_X4_lay) zg_X3_times) zg_X3_plus) zg_X3_isBeyond
set_option maxRecDepth 20000 in
theorem zg_X0_laySummed : GoodIn lw_tbl wsX0_laySummed := goodIn_ca (goodIn_ca (goodIn_ca (goodIn_ca (goodIn_ca (goodIn_ca (zin_zt [(1, 142), (1, 96), (1, 143), (1, 144), (1, 145), (1, 3), (1, 147), (1, 148), (1, 149), (1, 2), (1, 151), (1, 152), (1, 153), (1, 155), (1, 156), (1, 157), (1, 159), (1, 160), (1, 161)] rfl (by decide +kernel)) (fun w h => ⟨zlaw_w_X0 w h, zqt_X00 w h⟩)) zg_X3_begin) zg_X4_at) zg_X3_plus) zg_X4_lay) zg_X3_isBeyond
set_option maxRecDepth 20000 in
theorem zg_X0_signedAt : GoodIn lw_tbl wsX0_signedAt := goodIn_ca (goodIn_ca (goodIn_ca (goodIn_ca (goodIn_ca (zin_zt [(1, 170), (1, 96), (1, 97), (1, 171), (1, 172), (1, 173), (1, 4), (1, 5), (1, 147), (1, 148), (1, 149), (1, 2), (1, 187), (1, 188), (1, 189), (1, 3), (1, 151), (1, 152), (1, 153)] rfl (by decide +kernel)) (fun w h => ⟨zlaw_w_X0 w h, zqt_X00 w h⟩)) zg_X1_signByPowers) zg_X4_at) zg_X3_times) zg_X3_plus
set_option maxRecDepth 20000 in
theorem zg_X0_laySigned : GoodIn lw_tbl wsX0_laySigned := goodIn_ca (goodIn_ca (goodIn_ca (goodIn_ca (zin_zt [(1, 166), (1, 143), (1, 144), (1, 145), (1, 3), (1, 167), (1, 168), (1, 169), (1, 6), (1, 4), (1, 5), (1, 2), (1, 155), (1, 156), (1, 157), (1, 159), (1, 160), (1, 161)] rfl (by decide +kernel)) zg_X3_begin) zg_X0_signedAt) zg_X4_lay) zg_X3_isBeyond
set_option maxRecDepth 20000 in
theorem zg_X1_powersOf : GoodIn lw_tbl wsX1_powersOf := goodIn_ca (goodIn_ca (zin_zt [(1, 222), (1, 83), (1, 175), (1, 176), (1, 177), (1, 5)] rfl (by decide +kernel)) (fun w h => ⟨zlaw_w_X1 w h, zqt_X10 w h⟩)) zg_X2_lay
set_option maxRecDepth 20000 in
theorem zg_X2_powerAt : GoodIn lw_tbl wsX2_powerAt := goodIn_ca (goodIn_ca (zin_zt [(1, 227), (1, 228), (1, 184), (1, 185), (1, 5), (1, 229), (1, 230), (1, 231)] rfl (by decide +kernel)) zg_X2_timesAt) zg_X2_primeAt
set_option maxRecDepth 20000 in
theorem zg_X0_layByPrimes : GoodIn lw_tbl wsX0_layByPrimes := goodIn_ca (goodIn_ca (goodIn_ca (goodIn_ca (goodIn_ca (goodIn_ca (goodIn_ca (goodIn_ca (goodIn_ca (zin_zt [(1, 218), (1, 96), (1, 97), (1, 143), (1, 144), (1, 145), (1, 3), (1, 219), (1, 220), (1, 221), (1, 4), (1, 5), (1, 223), (1, 180), (1, 181), (1, 224), (1, 225), (1, 226), (1, 147), (1, 148), (1, 149), (1, 2), (1, 187), (1, 188), (1, 189), (1, 155), (1, 156), (1, 157), (1, 159), (1, 160), (1, 161)] rfl (by decide +kernel)) (fun w h => ⟨zlaw_w_X0 w h, zqt_X00 w h⟩)) zg_X3_begin) zg_X1_powersOf) zg_X2_count) zg_X2_powerAt) zg_X4_at) zg_X3_times) zg_X4_lay) zg_X3_isBeyond
set_option maxRecDepth 20000 in
theorem zg_X0_layTurned : GoodIn lw_tbl wsX0_layTurned := goodIn_ca (goodIn_ca (goodIn_ca (goodIn_ca (goodIn_ca (goodIn_ca (zin_zt [(3, 12), (1, 96), (1, 143), (1, 144), (1, 145), (1, 3), (1, 147), (1, 148), (1, 149), (1, 2), (2, 211), (2, 212), (2, 213), (1, 155), (1, 156), (1, 157), (1, 159), (1, 160), (1, 161)] rfl (by decide +kernel)) (fun w h => ⟨zlaw_w_X0 w h, zqt_X00 w h⟩)) zg_X3_begin) zg_X4_at) zg_X3_minus) zg_X4_lay) zg_X3_isBeyond
set_option maxRecDepth 20000 in
theorem zg_X0_layByPlace : GoodIn lw_tbl wsX0_layByPlace := goodIn_ca (goodIn_ca (goodIn_ca (goodIn_ca (goodIn_ca (goodIn_ca (zin_zt [(3, 16), (1, 96), (1, 143), (1, 144), (1, 145), (1, 3), (1, 147), (1, 148), (1, 149), (1, 2), (1, 187), (1, 188), (1, 189), (1, 155), (1, 156), (1, 157), (1, 159), (1, 160), (1, 161)] rfl (by decide +kernel)) (fun w h => ⟨zlaw_w_X0 w h, zqt_X00 w h⟩)) zg_X3_begin) zg_X4_at) zg_X3_times) zg_X4_lay) zg_X3_isBeyond
set_option maxRecDepth 20000 in
theorem zg_X0_layMade : GoodIn lw_tbl wsX0_layMade := goodIn_ca (goodIn_ca (goodIn_ca (goodIn_ca (goodIn_ca (goodIn_ca (zin_zt [(2, 236), (2, 237), (2, 238), (2, 239), (1, 6), (1, 2), (1, 3), (3, 6), (1, 140), (1, 141), (3, 7), (1, 164), (1, 165), (1, 4), (1, 5), (3, 8), (1, 216), (1, 217), (3, 9), (3, 10), (3, 11), (3, 13), (3, 14), (3, 15)] rfl (by decide +kernel)) zg_X0_layInverse) zg_X0_laySummed) zg_X0_laySigned) zg_X0_layByPrimes) zg_X0_layTurned) zg_X0_layByPlace
set_option maxRecDepth 20000 in
theorem zg_X7_make : GoodIn lw_tbl wsX7_make := goodIn_ca (goodIn_ca (goodIn_ca (goodIn_ca (goodIn_ca (zin_zt [(2, 232), (1, 108), (2, 23), (2, 25), (0, 0), (1, 1), (1, 12), (2, 95), (2, 96), (1, 13), (2, 233), (2, 234), (2, 235), (1, 6), (1, 2), (1, 3), (1, 4), (1, 5), (2, 141), (2, 143), (0, 2), (2, 215), (2, 217), (0, 4)] rfl (by decide +kernel)) zg_X7_rowOf) zg_X7_need) zg_X0_layMade) zg_X7_become) zg_X7_refuse
set_option maxRecDepth 20000 in
theorem zg_L_make : GoodIn lw_tbl wsL_make := goodIn_ca (goodIn_ca (zin_zt [(2, 228), (2, 17), (2, 18), (2, 229), (2, 230), (2, 231), (1, 1), (1, 12), (1, 13), (1, 6), (1, 2), (1, 3), (1, 4), (1, 5)] rfl (by decide +kernel)) (fun w h => ⟨zlaw_w_X8 w h, zqt_X80 w h⟩)) zg_X7_make
theorem zl_L_make : GoodIn lw_tbl (va_wsS RL 150 yL_make wsL_make) := goodIn_app (zin_zt (ws := [.methodLink RL 150 yL_make, .static yL_make, .initialized yL_make.cls]) [(2, 226), (2, 227), (1, 0)] rfl (by decide +kernel)) zg_L_make
set_option maxRecDepth 20000 in
theorem zg_X9_hasInverse : GoodIn lw_tbl wsX9_hasInverse := zin_zt [(6, 0), (5, 167)] rfl (by decide +kernel)
set_option maxRecDepth 20000 in
theorem zg_X9_inverse : GoodIn lw_tbl wsX9_inverse := goodIn_ca (goodIn_ca (zin_zt [(6, 8), (1, 49), (5, 216), (5, 218), (0, 12), (1, 7), (5, 212), (5, 214), (0, 11)] rfl (by decide +kernel)) zg_X9_times) zg_X9_plus
set_option maxRecDepth 20000 in
theorem zg_X9_without : GoodIn lw_tbl wsX9_without := zin_zt [(6, 15)] rfl (by decide +kernel)
set_option maxRecDepth 20000 in
theorem zg_X9_byPrimes : GoodIn lw_tbl wsX9_byPrimes := goodIn_ca (goodIn_ca (goodIn_ca (zin_zt [(6, 12), (1, 49), (5, 151), (5, 152), (1, 7), (6, 13), (6, 14), (5, 216), (5, 218), (0, 12)] rfl (by decide +kernel)) zg_X9_least) zg_X9_without) zg_X9_times
set_option maxRecDepth 20000 in
theorem zg_X9_made : GoodIn lw_tbl wsX9_made := goodIn_ca (goodIn_ca (goodIn_ca (goodIn_ca (goodIn_ca (zin_zt [(6, 4), (6, 5), (6, 7), (0, 17), (1, 7), (5, 216), (5, 218), (0, 12), (5, 212), (5, 214), (0, 11), (6, 9), (6, 11), (0, 18), (5, 142), (5, 143)] rfl (by decide +kernel)) zg_X9_inverse) zg_X9_byPrimes) zg_X9_times) zg_X9_signOf) zg_X9_plus
set_option maxRecDepth 20000 in
theorem zg_X9_make : GoodIn lw_tbl wsX9_make := goodIn_ca (goodIn_ca (goodIn_ca (goodIn_ca (goodIn_ca (goodIn_ca (goodIn_ca (zin_zt [(5, 236), (5, 129), (5, 130), (1, 7), (5, 132), (5, 133), (5, 135), (5, 137), (0, 6), (5, 200), (5, 202), (0, 10), (5, 237), (5, 239), (0, 15), (5, 221), (5, 223), (0, 13), (6, 1), (6, 3), (0, 16)] rfl (by decide +kernel)) zg_X9_isOne) zg_X9_isIn) zg_X9_isThrown) zg_X9_of) zg_X9_hasInverse) zg_X9_becomeOrNot) zg_X9_made
theorem zl_X9_make : GoodIn lw_tbl (wsV RL 152 RX9 yX9_make wsX9_make) := goodIn_app (zin_zt (ws := [.methodLink RL 152 yX9_make, .instanceMethod yX9_make, .selects RX9 yX9_make yX9_make, .initialized RX9]) [(5, 233), (5, 234), (5, 235), (1, 7)] rfl (by decide +kernel)) zg_X9_make
set_option maxRecDepth 20000 in
theorem zg_J2_newBytesLength_0f7a4 : GoodIn lw_tbl wsJ2_newBytesLength_0f7a4 := zin_zt [(3, 43), (3, 44)] rfl (by decide +kernel)
set_option maxRecDepth 20000 in
theorem zg_J2_newBytesFor_77867 : GoodIn lw_tbl wsJ2_newBytesFor_77867 := goodIn_ca (zin_zt [(3, 40), (2, 94), (3, 41), (3, 42), (1, 18)] rfl (by decide +kernel)) zg_J2_newBytesLength_0f7a4
set_option maxRecDepth 20000 in
theorem zg_J5_init_d00df : GoodIn lw_tbl wsJ5_init_d00df := goodIn_ca (goodIn_ca (zin_zt [(3, 34), (3, 35), (1, 36), (1, 37), (3, 36), (3, 45), (3, 46), (3, 38), (3, 39), (1, 18)] rfl (by decide +kernel)) (fun w h => ⟨zlaw_w_J4 w h, zqt_J40 w h⟩)) zg_J2_newBytesFor_77867
set_option maxRecDepth 20000 in
theorem zg_J4_init_da8c8 : GoodIn lw_tbl wsJ4_init_da8c8 := goodIn_ca (zin_zt [(3, 31), (3, 32), (3, 33), (1, 15), (1, 18)] rfl (by decide +kernel)) zg_J5_init_d00df
set_option maxRecDepth 20000 in
theorem zg_J8_hugeLength_7cf53 : GoodIn lw_tbl wsJ8_hugeLength_7cf53 := zin_zt [(3, 83), (3, 80)] rfl (by decide +kernel)
set_option maxRecDepth 20000 in
theorem zg_J8_newLength_cabcc : GoodIn lw_tbl wsJ8_newLength_cabcc := goodIn_ca (zin_zt [(3, 76), (3, 77), (3, 78), (1, 14), (3, 79), (3, 81), (3, 82), (1, 19)] rfl (by decide +kernel)) zg_J8_hugeLength_7cf53
set_option maxRecDepth 20000 in
theorem zg_J5_newCapacity_0f7a4 : GoodIn lw_tbl wsJ5_newCapacity_0f7a4 := goodIn_ca (goodIn_ca (zin_zt [(3, 73), (3, 45), (3, 46), (3, 84), (3, 74), (3, 75), (1, 19), (1, 14)] rfl (by decide +kernel)) (fun w h => ⟨zlaw_w_J4 w h, zqt_J40 w h⟩)) zg_J8_newLength_cabcc
set_option maxRecDepth 20000 in
theorem zg_J7_copyOf_9075b : GoodIn lw_tbl wsJ7_copyOf_9075b := zin_zt [(3, 87), (3, 88), (3, 89), (3, 90), (3, 91), (3, 92), (3, 94), (2, 94), (3, 95), (3, 96), (1, 14), (3, 97), (3, 98), (3, 100), (3, 99), (1, 21)] rfl (by decide +kernel)
set_option maxRecDepth 20000 in
theorem zg_J5_ensureCapacityInternal_d00df : GoodIn lw_tbl wsJ5_ensureCapacityInternal_d00df := goodIn_ca (goodIn_ca (zin_zt [(3, 69), (3, 70), (6, 163), (0, 23), (3, 72), (1, 15), (1, 19), (1, 14), (3, 85), (3, 86), (1, 20), (3, 89), (1, 21)] rfl (by decide +kernel)) zg_J5_newCapacity_0f7a4) zg_J7_copyOf_9075b
set_option maxRecDepth 20000 in
theorem zg_J5_isLatin1_aae02 : GoodIn lw_tbl wsJ5_isLatin1_aae02 := goodIn_ca (zin_zt [(3, 105), (3, 36), (3, 46)] rfl (by decide +kernel)) (fun w h => ⟨zlaw_w_J4 w h, zqt_J40 w h⟩)
set_option maxRecDepth 20000 in
theorem zg_J1_canEncode_fc78d : GoodIn lw_tbl wsJ1_canEncode_fc78d := zin_zt [(3, 108)] rfl (by decide +kernel)
set_option maxRecDepth 20000 in
theorem zg_J2_length_9d52b : GoodIn lw_tbl wsJ2_length_9d52b := zin_zt [(3, 124)] rfl (by decide +kernel)
set_option maxRecDepth 20000 in
theorem zg_J3_checkFromIndexSize_8c36e : GoodIn lw_tbl wsJ3_checkFromIndexSize_8c36e := zin_zt [(3, 132)] rfl (by decide +kernel)
set_option maxRecDepth 20000 in
theorem zg_J0_checkBoundsOffCount_cabcc : GoodIn lw_tbl wsJ0_checkBoundsOffCount_cabcc := goodIn_ca (zin_zt [(3, 127), (3, 128), (3, 130), (3, 131), (1, 23)] rfl (by decide +kernel)) zg_J3_checkFromIndexSize_8c36e
set_option maxRecDepth 20000 in
theorem zg_J2_checkBoundsOffCount_d044e : GoodIn lw_tbl wsJ2_checkBoundsOffCount_d044e := goodIn_ca (goodIn_ca (zin_zt [(3, 121), (3, 122), (3, 123), (1, 18), (3, 125), (3, 126), (1, 17), (1, 23)] rfl (by decide +kernel)) zg_J2_length_9d52b) zg_J0_checkBoundsOffCount_cabcc
set_option maxRecDepth 20000 in
theorem zg_J2_putChar_b72d1 : GoodIn lw_tbl wsJ2_putChar_b72d1 := goodIn_ca (zin_zt [(3, 135), (3, 136), (3, 138), (3, 140), (3, 122), (3, 123), (1, 18)] rfl (by decide +kernel)) zg_J2_length_9d52b
set_option maxRecDepth 20000 in
theorem zg_J2_inflate_0e8fd : GoodIn lw_tbl wsJ2_inflate_0e8fd := goodIn_ca (goodIn_ca (zin_zt [(3, 118), (3, 119), (3, 120), (1, 18), (1, 17), (1, 23), (3, 133), (3, 134)] rfl (by decide +kernel)) zg_J2_checkBoundsOffCount_d044e) zg_J2_putChar_b72d1
set_option maxRecDepth 20000 in
theorem zg_J1_inflate_0e8fd : GoodIn lw_tbl wsJ1_inflate_0e8fd := goodIn_ca (zin_zt [(3, 115), (3, 116), (3, 117), (1, 18), (1, 17), (1, 23)] rfl (by decide +kernel)) zg_J2_inflate_0e8fd
set_option maxRecDepth 20000 in
theorem zg_J5_inflate_da8c8 : GoodIn lw_tbl wsJ5_inflate_da8c8 := goodIn_ca (goodIn_ca (goodIn_ca (zin_zt [(3, 112), (3, 45), (3, 48), (3, 101), (3, 103), (3, 104), (3, 102), (1, 15), (3, 38), (3, 39), (1, 18), (3, 113), (3, 114), (1, 22), (1, 17), (1, 23)] rfl (by decide +kernel)) zg_J5_isLatin1_aae02) zg_J2_newBytesFor_77867) zg_J1_inflate_0e8fd
set_option maxRecDepth 20000 in
theorem zg_J3_checkIndex_8e157 : GoodIn lw_tbl wsJ3_checkIndex_8e157 := zin_zt [(3, 153)] rfl (by decide +kernel)
set_option maxRecDepth 20000 in
theorem zg_J0_checkIndex_df160 : GoodIn lw_tbl wsJ0_checkIndex_df160 := goodIn_ca (zin_zt [(3, 150), (3, 128), (3, 151), (3, 152), (1, 23)] rfl (by decide +kernel)) zg_J3_checkIndex_8e157
set_option maxRecDepth 20000 in
theorem zg_J2_checkIndex_2214a : GoodIn lw_tbl wsJ2_checkIndex_2214a := goodIn_ca (goodIn_ca (zin_zt [(3, 147), (3, 122), (3, 123), (1, 18), (3, 148), (3, 149), (1, 17), (1, 23)] rfl (by decide +kernel)) zg_J2_length_9d52b) zg_J0_checkIndex_df160
set_option maxRecDepth 20000 in
theorem zg_J2_putCharSB_b72d1 : GoodIn lw_tbl wsJ2_putCharSB_b72d1 := goodIn_ca (goodIn_ca (zin_zt [(3, 144), (3, 145), (3, 146), (1, 18), (1, 17), (1, 23), (3, 133), (3, 134)] rfl (by decide +kernel)) zg_J2_checkIndex_2214a) zg_J2_putChar_b72d1
set_option maxRecDepth 20000 in
theorem zg_J5_append_3fe6f : GoodIn lw_tbl wsJ5_append_3fe6f := goodIn_ca (goodIn_ca (goodIn_ca (goodIn_ca (goodIn_ca (zin_zt [(3, 65), (3, 66), (6, 162), (0, 22), (3, 68), (1, 15), (6, 163), (1, 19), (1, 14), (1, 20), (3, 89), (1, 21), (3, 103), (3, 104), (3, 102), (3, 106), (3, 107), (1, 22), (3, 109), (6, 164), (0, 24), (3, 111), (1, 18), (1, 17), (1, 23), (3, 142), (3, 143)] rfl (by decide +kernel)) zg_J5_ensureCapacityInternal_d00df) zg_J5_isLatin1_aae02) zg_J1_canEncode_fc78d) zg_J5_inflate_da8c8) zg_J2_putCharSB_b72d1
set_option maxRecDepth 20000 in
theorem zg_J4_append_cf468 : GoodIn lw_tbl wsJ4_append_cf468 := goodIn_ca (zin_zt [(3, 62), (3, 63), (6, 161), (3, 57), (3, 64), (1, 15), (6, 162), (6, 163), (1, 19), (1, 14), (1, 20), (3, 89), (1, 21), (3, 103), (1, 22), (6, 164), (1, 18), (1, 17), (1, 23)] rfl (by decide +kernel)) zg_J5_append_3fe6f
set_option maxRecDepth 20000 in
theorem zg_J3_checkFromToIndex_8c36e : GoodIn lw_tbl wsJ3_checkFromToIndex_8c36e := zin_zt [(3, 172)] rfl (by decide +kernel)
set_option maxRecDepth 20000 in
theorem zg_J0_checkOffset_df160 : GoodIn lw_tbl wsJ0_checkOffset_df160 := goodIn_ca (zin_zt [(3, 169), (3, 128), (3, 170), (3, 171), (1, 23)] rfl (by decide +kernel)) zg_J3_checkFromToIndex_8c36e
set_option maxRecDepth 20000 in
theorem zg_J2_checkOffset_2214a : GoodIn lw_tbl wsJ2_checkOffset_2214a := goodIn_ca (goodIn_ca (zin_zt [(3, 166), (3, 122), (3, 123), (1, 18), (3, 167), (3, 168), (1, 17), (1, 23)] rfl (by decide +kernel)) zg_J2_length_9d52b) zg_J0_checkOffset_df160
set_option maxRecDepth 20000 in
theorem zg_J2_getChar_3b067 : GoodIn lw_tbl wsJ2_getChar_3b067 := goodIn_ca (zin_zt [(3, 175), (3, 136), (3, 138), (3, 140), (3, 122), (3, 123), (1, 18)] rfl (by decide +kernel)) zg_J2_length_9d52b
set_option maxRecDepth 20000 in
theorem zg_J11_isSurrogate_fc78d : GoodIn lw_tbl wsJ11_isSurrogate_fc78d := zin_zt [(3, 178), (3, 179), (3, 180)] rfl (by decide +kernel)
set_option maxRecDepth 20000 in
theorem zg_J11_isLowSurrogate_fc78d : GoodIn lw_tbl wsJ11_isLowSurrogate_fc78d := zin_zt [(3, 186), (3, 187), (3, 180)] rfl (by decide +kernel)
set_option maxRecDepth 20000 in
theorem zg_J11_isHighSurrogate_fc78d : GoodIn lw_tbl wsJ11_isHighSurrogate_fc78d := zin_zt [(3, 190), (3, 179), (3, 187)] rfl (by decide +kernel)
set_option maxRecDepth 20000 in
theorem zg_J2_reverseAllValidSurrogatePairs_db04f : GoodIn lw_tbl wsJ2_reverseAllValidSurrogatePairs_db04f := goodIn_ca (goodIn_ca (goodIn_ca (goodIn_ca (zin_zt [(3, 183), (3, 173), (3, 174), (1, 18), (3, 184), (3, 185), (1, 24), (3, 188), (3, 189), (3, 133), (3, 134)] rfl (by decide +kernel)) zg_J2_getChar_3b067) zg_J11_isLowSurrogate_fc78d) zg_J11_isHighSurrogate_fc78d) zg_J2_putChar_b72d1
set_option maxRecDepth 20000 in
theorem zg_J2_reverse_db04f : GoodIn lw_tbl wsJ2_reverse_db04f := goodIn_ca (goodIn_ca (goodIn_ca (goodIn_ca (goodIn_ca (zin_zt [(3, 163), (3, 164), (3, 165), (1, 18), (1, 17), (1, 23), (3, 173), (3, 174), (3, 133), (3, 134), (3, 176), (3, 177), (1, 24), (3, 181), (3, 182)] rfl (by decide +kernel)) zg_J2_checkOffset_2214a) zg_J2_getChar_3b067) zg_J2_putChar_b72d1) zg_J11_isSurrogate_fc78d) zg_J2_reverseAllValidSurrogatePairs_db04f
set_option maxRecDepth 20000 in
theorem zg_J5_reverse_278bc : GoodIn lw_tbl wsJ5_reverse_278bc := goodIn_ca (goodIn_ca (zin_zt [(3, 160), (3, 45), (3, 48), (3, 101), (3, 103), (3, 104), (3, 102), (1, 15), (3, 161), (3, 162), (1, 18), (1, 17), (1, 23), (1, 24)] rfl (by decide +kernel)) zg_J5_isLatin1_aae02) zg_J2_reverse_db04f
set_option maxRecDepth 20000 in
theorem zg_J4_reverse_43fcb : GoodIn lw_tbl wsJ4_reverse_43fcb := goodIn_ca (zin_zt [(3, 157), (3, 158), (6, 165), (3, 57), (3, 159), (1, 15), (3, 103), (1, 18), (1, 17), (1, 23), (1, 24)] rfl (by decide +kernel)) zg_J5_reverse_278bc
set_option maxRecDepth 20000 in
theorem zg_J5_getValue_6d5f1 : GoodIn lw_tbl wsJ5_getValue_6d5f1 := goodIn_ca (zin_zt [(3, 208), (3, 45)] rfl (by decide +kernel)) (fun w h => ⟨zlaw_w_J4 w h, zqt_J40 w h⟩)
set_option maxRecDepth 20000 in
theorem zg_J5_length_8abf5 : GoodIn lw_tbl wsJ5_length_8abf5 := goodIn_ca (zin_zt [(3, 216), (3, 48)] rfl (by decide +kernel)) (fun w h => ⟨zlaw_w_J4 w h, zqt_J40 w h⟩)
set_option maxRecDepth 20000 in
theorem zg_J4_length_8abf5 : GoodIn lw_tbl wsJ4_length_8abf5 := goodIn_ca (zin_zt [(3, 214), (3, 215), (3, 211), (3, 57), (3, 210), (1, 15)] rfl (by decide +kernel)) zg_J5_length_8abf5
set_option maxRecDepth 20000 in
theorem zg_J7_checkLength_df160 : GoodIn lw_tbl wsJ7_checkLength_df160 := goodIn_ca (zin_zt [(3, 226), (3, 228), (3, 28), (1, 16)] rfl (by decide +kernel)) (fun w h => ⟨zlaw_w_J4 w h, zqt_J40 w h⟩)
set_option maxRecDepth 20000 in
theorem zg_J7_copyOfRangeByte_39247 : GoodIn lw_tbl wsJ7_copyOfRangeByte_39247 := goodIn_ca (zin_zt [(3, 223), (2, 94), (3, 95), (3, 96), (1, 14), (3, 97), (3, 98), (3, 100), (3, 99), (1, 21), (3, 224), (3, 225), (1, 20), (1, 16)] rfl (by decide +kernel)) zg_J7_checkLength_df160
set_option maxRecDepth 20000 in
theorem zg_J7_copyOfRange_39247 : GoodIn lw_tbl wsJ7_copyOfRange_39247 := goodIn_ca (zin_zt [(3, 220), (3, 88), (3, 89), (3, 90), (3, 91), (3, 92), (3, 94), (3, 221), (3, 222), (1, 20), (1, 14), (1, 21), (1, 16)] rfl (by decide +kernel)) zg_J7_copyOfRangeByte_39247
set_option maxRecDepth 20000 in
theorem zg_J2_compress_5af95 : GoodIn lw_tbl wsJ2_compress_5af95 := goodIn_ca (goodIn_ca (zin_zt [(4, 67), (3, 119), (3, 120), (1, 18), (1, 17), (1, 23), (3, 173), (3, 174)] rfl (by decide +kernel)) zg_J2_checkBoundsOffCount_d044e) zg_J2_getChar_3b067
set_option maxRecDepth 20000 in
theorem zg_J2_compress_39247 : GoodIn lw_tbl wsJ2_compress_39247 := goodIn_ca (goodIn_ca (goodIn_ca (goodIn_ca (zin_zt [(4, 64), (4, 65), (4, 66), (1, 18), (1, 17), (1, 23), (3, 173), (3, 174), (3, 41), (3, 42), (4, 68), (3, 219), (1, 20), (3, 89), (1, 14), (1, 21), (1, 16)] rfl (by decide +kernel)) zg_J2_compress_5af95) zg_J2_newBytesLength_0f7a4) zg_J7_copyOfRange_39247) zg_J2_getChar_3b067
set_option maxRecDepth 20000 in
theorem zg_J2_coderFromArrayLen_85cad : GoodIn lw_tbl wsJ2_coderFromArrayLen_85cad := zin_zt [(4, 71)] rfl (by decide +kernel)
set_option maxRecDepth 20000 in
theorem zg_J0_init_db425 : GoodIn lw_tbl wsJ0_init_db425 := goodIn_ca (goodIn_ca (goodIn_ca (goodIn_ca (goodIn_ca (goodIn_ca (goodIn_ca (zin_zt [(3, 202), (3, 203), (1, 36), (1, 37), (4, 73), (4, 72), (4, 44), (3, 47), (3, 204), (3, 206), (3, 207), (3, 205), (1, 15), (3, 209), (3, 211), (3, 210), (3, 212), (3, 213), (1, 16), (3, 57), (3, 217), (3, 103), (3, 104), (3, 102), (3, 218), (3, 219), (1, 20), (3, 89), (1, 14), (1, 21), (4, 62), (4, 63), (1, 18), (1, 17), (1, 23), (4, 68), (4, 69), (4, 70)] rfl (by decide +kernel)) (fun w h => ⟨zlaw_w_J0 w h, zqt_J00 w h⟩)) zg_J5_getValue_6d5f1) zg_J4_length_8abf5) zg_J5_isLatin1_aae02) zg_J7_copyOfRange_39247) zg_J2_compress_39247) zg_J2_coderFromArrayLen_85cad
set_option maxRecDepth 20000 in
theorem zg_J0_init_81219 : GoodIn lw_tbl wsJ0_init_81219 := goodIn_ca (zin_zt [(3, 199), (3, 200), (3, 201), (1, 17), (3, 206), (1, 15), (3, 211), (1, 16), (3, 57), (3, 103), (1, 20), (3, 89), (1, 14), (1, 21), (1, 18), (1, 23)] rfl (by decide +kernel)) zg_J0_init_db425
set_option maxRecDepth 20000 in
theorem zg_J4_toString_0e30d : GoodIn lw_tbl wsJ4_toString_0e30d := goodIn_ca (zin_zt [(3, 194), (3, 195), (3, 196), (1, 17), (3, 197), (3, 198), (3, 206), (1, 15), (3, 211), (1, 16), (3, 57), (3, 103), (1, 20), (3, 89), (1, 14), (1, 21), (1, 18), (1, 23)] rfl (by decide +kernel)) zg_J0_init_81219
set_option maxRecDepth 20000 in
theorem zg_X7_textOf : GoodIn lw_tbl wsX7_textOf := goodIn_ca (goodIn_ca (goodIn_ca (goodIn_ca (zin_zt [(3, 26), (3, 27), (1, 16), (3, 58), (3, 29), (3, 30), (1, 15), (1, 18), (3, 59), (3, 60), (3, 61), (6, 161), (3, 57), (6, 162), (6, 163), (1, 19), (1, 14), (1, 20), (3, 89), (1, 21), (3, 103), (1, 22), (6, 164), (1, 17), (1, 23), (3, 154), (3, 155), (3, 156), (6, 165), (1, 24), (3, 191), (3, 192), (3, 193), (3, 206), (3, 211)] rfl (by decide +kernel)) zg_J4_init_da8c8) zg_J4_append_cf468) zg_J4_reverse_43fcb) zg_J4_toString_0e30d
set_option maxRecDepth 20000 in
theorem zg_X7_value : GoodIn lw_tbl wsX7_value := goodIn_ca (goodIn_ca (goodIn_ca (goodIn_ca (zin_zt [(3, 23), (2, 23), (2, 25), (0, 0), (1, 1), (1, 12), (2, 95), (2, 96), (1, 13), (1, 239), (1, 148), (1, 149), (1, 2), (3, 24), (3, 25), (1, 16), (1, 15), (1, 18), (6, 161), (3, 57), (6, 162), (6, 163), (1, 19), (1, 14), (1, 20), (3, 89), (1, 21), (3, 103), (1, 22), (6, 164), (1, 17), (1, 23), (6, 165), (1, 24), (3, 206), (3, 211)] rfl (by decide +kernel)) zg_X7_rowOf) zg_X7_need) zg_X4_at) zg_X7_textOf
set_option maxRecDepth 20000 in
theorem zg_L_value : GoodIn lw_tbl wsL_value := goodIn_ca (goodIn_ca (zin_zt [(3, 19), (2, 17), (2, 18), (3, 20), (3, 21), (3, 22), (1, 1), (1, 12), (1, 13), (1, 2), (1, 16), (1, 15), (1, 18), (6, 161), (3, 57), (6, 162), (6, 163), (1, 19), (1, 14), (1, 20), (3, 89), (1, 21), (3, 103), (1, 22), (6, 164), (1, 17), (1, 23), (6, 165), (1, 24), (3, 206), (3, 211)] rfl (by decide +kernel)) (fun w h => ⟨zlaw_w_X8 w h, zqt_X80 w h⟩)) zg_X7_value
theorem zl_L_value : GoodIn lw_tbl (va_wsS RL 153 yL_value wsL_value) := goodIn_app (zin_zt (ws := [.methodLink RL 153 yL_value, .static yL_value, .initialized yL_value.cls]) [(3, 17), (3, 18), (1, 0)] rfl (by decide +kernel)) zg_L_value
set_option maxRecDepth 20000 in
theorem zg_J0_checkBoundsBeginEnd_23922 : GoodIn lw_tbl wsJ0_checkBoundsBeginEnd_23922 := goodIn_ca (zin_zt [(4, 15), (3, 128), (3, 170), (3, 171), (1, 23)] rfl (by decide +kernel)) zg_J3_checkFromToIndex_8c36e
set_option maxRecDepth 20000 in
theorem zg_J2_checkBoundsBeginEnd_d044e : GoodIn lw_tbl wsJ2_checkBoundsBeginEnd_d044e := goodIn_ca (goodIn_ca (zin_zt [(4, 12), (3, 122), (3, 123), (1, 18), (4, 13), (4, 14), (1, 17), (1, 23)] rfl (by decide +kernel)) zg_J2_length_9d52b) zg_J0_checkBoundsBeginEnd_23922
set_option maxRecDepth 20000 in
theorem zg_J2_putCharsAt_cd4e5 : GoodIn lw_tbl wsJ2_putCharsAt_cd4e5 := goodIn_ca (goodIn_ca (zin_zt [(4, 35), (4, 10), (4, 11), (1, 18), (1, 17), (1, 23), (3, 133), (3, 134)] rfl (by decide +kernel)) zg_J2_checkBoundsBeginEnd_d044e) zg_J2_putChar_b72d1
set_option maxRecDepth 20000 in
theorem zg_J5_appendNull_278bc : GoodIn lw_tbl wsJ5_appendNull_278bc := goodIn_ca (goodIn_ca (goodIn_ca (zin_zt [(4, 32), (3, 48), (3, 66), (6, 162), (0, 22), (3, 68), (1, 15), (6, 163), (1, 19), (1, 14), (1, 20), (3, 89), (1, 21), (3, 101), (3, 103), (3, 104), (3, 102), (4, 33), (4, 34), (1, 18), (1, 17), (1, 23)] rfl (by decide +kernel)) zg_J5_ensureCapacityInternal_d00df) zg_J5_isLatin1_aae02) zg_J2_putCharsAt_cd4e5
set_option maxRecDepth 20000 in
theorem zg_J0_coder_7d493 : GoodIn lw_tbl wsJ0_coder_7d493 := goodIn_ca (zin_zt [(4, 43), (4, 44), (4, 73)] rfl (by decide +kernel)) (fun w h => ⟨zlaw_w_J0 w h, zqt_J00 w h⟩)
set_option maxRecDepth 20000 in
theorem zg_J0_length_8abf5 : GoodIn lw_tbl wsJ0_length_8abf5 := goodIn_ca (zin_zt [(4, 39), (4, 72), (4, 40), (4, 41), (4, 42), (1, 17)] rfl (by decide +kernel)) zg_J0_coder_7d493
set_option maxRecDepth 20000 in
theorem zg_J5_inflateIfNeededFor_a7421 : GoodIn lw_tbl wsJ5_inflateIfNeededFor_a7421 := goodIn_ca (goodIn_ca (zin_zt [(4, 52), (4, 53), (4, 41), (4, 42), (1, 17), (3, 109), (6, 164), (0, 24), (3, 111), (1, 15), (3, 103), (1, 18), (1, 22), (1, 23)] rfl (by decide +kernel)) zg_J0_coder_7d493) zg_J5_inflate_da8c8
set_option maxRecDepth 20000 in
theorem zg_J0_getBytes_840e7 : GoodIn lw_tbl wsJ0_getBytes_840e7 := goodIn_ca (goodIn_ca (zin_zt [(4, 57), (4, 72), (4, 58), (3, 100), (3, 99), (1, 21), (4, 40), (4, 41), (4, 42), (1, 17), (4, 59), (3, 114), (1, 22), (1, 18), (1, 23)] rfl (by decide +kernel)) zg_J0_coder_7d493) zg_J1_inflate_0e8fd
set_option maxRecDepth 20000 in
theorem zg_J5_putStringAt_47b60 : GoodIn lw_tbl wsJ5_putStringAt_47b60 := goodIn_ca (goodIn_ca (zin_zt [(4, 48), (4, 49), (6, 170), (0, 27), (4, 51), (1, 15), (1, 17), (6, 164), (3, 103), (1, 18), (1, 22), (1, 23), (4, 54), (4, 55), (4, 56), (1, 21)] rfl (by decide +kernel)) zg_J5_inflateIfNeededFor_a7421) zg_J0_getBytes_840e7
set_option maxRecDepth 20000 in
theorem zg_J5_append_cf1ce : GoodIn lw_tbl wsJ5_append_cf1ce := goodIn_ca (goodIn_ca (goodIn_ca (goodIn_ca (zin_zt [(4, 28), (4, 29), (6, 168), (0, 25), (4, 31), (1, 15), (6, 162), (0, 22), (3, 68), (6, 163), (1, 19), (1, 14), (1, 20), (3, 89), (1, 21), (3, 103), (1, 18), (1, 17), (1, 23), (4, 36), (4, 37), (4, 38), (4, 45), (6, 169), (0, 26), (4, 47), (6, 170), (6, 164), (1, 22)] rfl (by decide +kernel)) zg_J5_appendNull_278bc) zg_J0_length_8abf5) zg_J5_ensureCapacityInternal_d00df) zg_J5_putStringAt_47b60
set_option maxRecDepth 20000 in
theorem zg_J4_append_15ec4 : GoodIn lw_tbl wsJ4_append_15ec4 := goodIn_ca (zin_zt [(4, 25), (4, 26), (6, 167), (3, 57), (4, 27), (1, 15), (6, 168), (6, 162), (6, 163), (1, 19), (1, 14), (1, 20), (3, 89), (1, 21), (3, 103), (1, 18), (1, 17), (1, 23), (6, 169), (6, 170), (6, 164), (1, 22)] rfl (by decide +kernel)) zg_J5_append_cf1ce
set_option maxRecDepth 20000 in
theorem zg_J13_stringSize_95d88 : GoodIn lw_tbl wsJ13_stringSize_95d88 := zin_zt [(6, 33), (6, 34), (6, 35)] rfl (by decide +kernel)
set_option maxRecDepth 20000 in
theorem zg_J13_getChars_11360 : GoodIn lw_tbl wsJ13_getChars_11360 := zin_zt [(6, 38), (6, 39), (6, 40), (6, 41), (6, 42)] rfl (by decide +kernel)
set_option maxRecDepth 20000 in
theorem zg_J2_getChars_11360 : GoodIn lw_tbl wsJ2_getChars_11360 := goodIn_ca (zin_zt [(6, 48), (6, 49), (6, 50), (4, 19), (4, 20), (3, 133), (3, 134), (1, 18)] rfl (by decide +kernel)) zg_J2_putChar_b72d1
set_option maxRecDepth 20000 in
theorem zg_J2_getChars_1ba55 : GoodIn lw_tbl wsJ2_getChars_1ba55 := goodIn_ca (goodIn_ca (zin_zt [(6, 45), (4, 10), (4, 11), (1, 18), (1, 17), (1, 23), (6, 46), (6, 47)] rfl (by decide +kernel)) zg_J2_checkBoundsBeginEnd_d044e) zg_J2_getChars_11360
set_option maxRecDepth 20000 in
theorem zg_J5_append_66267 : GoodIn lw_tbl wsJ5_append_66267 := goodIn_ca (goodIn_ca (goodIn_ca (goodIn_ca (goodIn_ca (zin_zt [(6, 30), (3, 48), (6, 31), (6, 32), (1, 26), (3, 66), (6, 162), (0, 22), (3, 68), (1, 15), (6, 163), (1, 19), (1, 14), (1, 20), (3, 89), (1, 21), (3, 101), (3, 103), (3, 104), (3, 102), (6, 36), (6, 37), (6, 43), (6, 44), (1, 18), (1, 17), (1, 23)] rfl (by decide +kernel)) zg_J13_stringSize_95d88) zg_J5_ensureCapacityInternal_d00df) zg_J5_isLatin1_aae02) zg_J13_getChars_11360) zg_J2_getChars_1ba55
set_option maxRecDepth 20000 in
theorem zg_J4_append_f7089 : GoodIn lw_tbl wsJ4_append_f7089 := goodIn_ca (zin_zt [(6, 27), (6, 28), (6, 171), (3, 57), (6, 29), (1, 15), (1, 26), (6, 162), (6, 163), (1, 19), (1, 14), (1, 20), (3, 89), (1, 21), (3, 103), (1, 18), (1, 17), (1, 23)] rfl (by decide +kernel)) zg_J5_append_66267
set_option maxRecDepth 20000 in
theorem zg_X9_value : GoodIn lw_tbl wsX9_value := goodIn_ca (goodIn_ca (goodIn_ca (goodIn_ca (goodIn_ca (goodIn_ca (goodIn_ca (goodIn_ca (zin_zt [(6, 19), (6, 21), (1, 16), (5, 129), (5, 130), (1, 7), (5, 132), (5, 133), (5, 135), (5, 137), (0, 6), (6, 22), (3, 30), (1, 15), (1, 18), (6, 23), (4, 23), (4, 24), (6, 167), (3, 57), (6, 168), (6, 162), (6, 163), (1, 19), (1, 14), (1, 20), (3, 89), (1, 21), (3, 103), (1, 17), (1, 23), (6, 169), (6, 170), (6, 164), (1, 22), (5, 172), (5, 174), (0, 8), (6, 24), (6, 25), (6, 26), (6, 171), (1, 26), (6, 51), (3, 192), (3, 193), (3, 206), (3, 211)] rfl (by decide +kernel)) zg_X9_isOne) zg_X9_isIn) zg_X9_isThrown) zg_J4_init_da8c8) zg_J4_append_15ec4) zg_X9_at) zg_J4_append_f7089) zg_J4_toString_0e30d
theorem zl_X9_value : GoodIn lw_tbl (wsV RL 155 RX9 yX9_value wsX9_value) := goodIn_app (zin_zt (ws := [.methodLink RL 155 yX9_value, .instanceMethod yX9_value, .selects RX9 yX9_value yX9_value, .initialized RX9]) [(6, 16), (6, 17), (6, 18), (1, 7)] rfl (by decide +kernel)) zg_X9_value
set_option maxRecDepth 20000 in
theorem zg_X7_half : GoodIn lw_tbl wsX7_half := goodIn_ca (goodIn_ca (goodIn_ca (zin_zt [(4, 89), (2, 23), (2, 25), (0, 0), (1, 1), (1, 12), (2, 95), (2, 96), (1, 13), (1, 239), (1, 148), (1, 149), (1, 2)] rfl (by decide +kernel)) zg_X7_rowOf) zg_X7_need) zg_X4_at
set_option maxRecDepth 20000 in
theorem zg_L_half : GoodIn lw_tbl wsL_half := goodIn_ca (goodIn_ca (zin_zt [(4, 85), (2, 17), (2, 18), (4, 86), (4, 87), (4, 88), (1, 1), (1, 12), (1, 13), (1, 2)] rfl (by decide +kernel)) (fun w h => ⟨zlaw_w_X8 w h, zqt_X80 w h⟩)) zg_X7_half
theorem zl_L_half : GoodIn lw_tbl (va_wsS RL 156 yL_half wsL_half) := goodIn_app (zin_zt (ws := [.methodLink RL 156 yL_half, .static yL_half, .initialized yL_half.cls]) [(4, 83), (4, 84), (1, 0)] rfl (by decide +kernel)) zg_L_half
set_option maxRecDepth 20000 in
theorem zg_X9_half : GoodIn lw_tbl wsX9_half := goodIn_ca (goodIn_ca (goodIn_ca (goodIn_ca (zin_zt [(6, 55), (5, 129), (5, 130), (1, 7), (5, 132), (5, 133), (5, 135), (5, 137), (0, 6), (5, 172), (5, 174), (0, 8)] rfl (by decide +kernel)) zg_X9_isOne) zg_X9_isIn) zg_X9_isThrown) zg_X9_at
theorem zl_X9_half : GoodIn lw_tbl (wsV RL 159 RX9 yX9_half wsX9_half) := goodIn_app (zin_zt (ws := [.methodLink RL 159 yX9_half, .instanceMethod yX9_half, .selects RX9 yX9_half yX9_half, .initialized RX9]) [(6, 52), (6, 53), (6, 54), (1, 7)] rfl (by decide +kernel)) zg_X9_half
set_option maxRecDepth 20000 in
theorem zg_X4_firstUnlike : GoodIn lw_tbl wsX4_firstUnlike := goodIn_ca (zin_zt [(1, 199), (1, 45)] rfl (by decide +kernel)) (fun w h => ⟨zlaw_w_X4 w h, zqt_X40 w h⟩)
set_option maxRecDepth 20000 in
theorem zg_X7_differ : GoodIn lw_tbl wsX7_differ := goodIn_ca (goodIn_ca (zin_zt [(4, 96), (2, 23), (2, 25), (0, 0), (1, 1), (1, 12), (1, 196), (1, 197), (1, 198), (1, 2)] rfl (by decide +kernel)) zg_X7_rowOf) zg_X4_firstUnlike
set_option maxRecDepth 20000 in
theorem zg_L_differ : GoodIn lw_tbl wsL_differ := goodIn_ca (goodIn_ca (zin_zt [(4, 92), (2, 17), (4, 93), (4, 94), (4, 95), (1, 1), (1, 12), (1, 2)] rfl (by decide +kernel)) (fun w h => ⟨zlaw_w_X8 w h, zqt_X80 w h⟩)) zg_X7_differ
theorem zl_L_differ : GoodIn lw_tbl (va_wsS RL 160 yL_differ wsL_differ) := goodIn_app (zin_zt (ws := [.methodLink RL 160 yL_differ, .static yL_differ, .initialized yL_differ.cls]) [(4, 90), (4, 91), (1, 0)] rfl (by decide +kernel)) zg_L_differ
set_option maxRecDepth 20000 in
theorem zg_X9_differ : GoodIn lw_tbl wsX9_differ := goodIn_ca (goodIn_ca (goodIn_ca (zin_zt [(6, 59), (5, 129), (5, 130), (1, 7), (5, 135), (5, 137), (0, 6), (5, 172), (5, 174), (0, 8)] rfl (by decide +kernel)) zg_X9_isOne) zg_X9_isThrown) zg_X9_at
theorem zl_X9_differ : GoodIn lw_tbl (wsV RL 162 RX9 yX9_differ wsX9_differ) := goodIn_app (zin_zt (ws := [.methodLink RL 162 yX9_differ, .instanceMethod yX9_differ, .selects RX9 yX9_differ yX9_differ, .initialized RX9]) [(6, 56), (6, 57), (6, 58), (1, 7)] rfl (by decide +kernel)) zg_X9_differ
set_option maxRecDepth 20000 in
theorem zg_X1_commonOf : GoodIn lw_tbl wsX1_commonOf := zin_zt [(1, 210)] rfl (by decide +kernel)
set_option maxRecDepth 20000 in
theorem zg_X0_isProduct : GoodIn lw_tbl wsX0_isProduct := goodIn_ca (zin_zt [(1, 213), (1, 214), (1, 192), (1, 3)] rfl (by decide +kernel)) zg_X3_isLetProduct
set_option maxRecDepth 20000 in
theorem zg_X0_isByPrimes : GoodIn lw_tbl wsX0_isByPrimes := goodIn_ca (goodIn_ca (goodIn_ca (zin_zt [(1, 207), (1, 147), (1, 148), (1, 149), (1, 2), (1, 208), (1, 209), (1, 4), (1, 211), (1, 212), (1, 6), (1, 3)] rfl (by decide +kernel)) zg_X4_at) zg_X1_commonOf) zg_X0_isProduct
set_option maxRecDepth 20000 in
theorem zg_X7_is : GoodIn lw_tbl wsX7_is := goodIn_ca (goodIn_ca (goodIn_ca (goodIn_ca (goodIn_ca (zin_zt [(4, 103), (1, 108), (1, 104), (2, 23), (2, 25), (0, 0), (1, 1), (1, 12), (2, 95), (2, 96), (1, 13), (1, 204), (1, 205), (1, 206), (1, 6), (1, 2), (1, 4), (1, 3), (4, 104), (3, 2), (3, 3), (4, 105), (2, 238), (2, 239), (3, 1)] rfl (by decide +kernel)) zg_X7_rowOf) zg_X7_need) zg_X0_isByPrimes) zg_X0_hasInverse) zg_X0_layInverse
set_option maxRecDepth 20000 in
theorem zg_L_is : GoodIn lw_tbl wsL_is := goodIn_ca (goodIn_ca (zin_zt [(4, 99), (2, 17), (2, 18), (4, 100), (4, 101), (4, 102), (1, 1), (1, 12), (1, 13), (1, 6), (1, 2), (1, 4), (1, 3)] rfl (by decide +kernel)) (fun w h => ⟨zlaw_w_X8 w h, zqt_X80 w h⟩)) zg_X7_is
theorem zl_L_is : GoodIn lw_tbl (va_wsS RL 163 yL_is wsL_is) := goodIn_app (zin_zt (ws := [.methodLink RL 163 yL_is, .static yL_is, .initialized yL_is.cls]) [(4, 97), (4, 98), (1, 0)] rfl (by decide +kernel)) zg_L_is
set_option maxRecDepth 20000 in
theorem zg_X9_isByPrimes : GoodIn lw_tbl wsX9_isByPrimes := goodIn_ca (goodIn_ca (zin_zt [(6, 67), (5, 157), (5, 158), (1, 7), (1, 14), (5, 216), (5, 218), (0, 12)] rfl (by decide +kernel)) zg_X9_common) zg_X9_times
set_option maxRecDepth 20000 in
theorem zg_X9_is : GoodIn lw_tbl wsX9_is := goodIn_ca (goodIn_ca (goodIn_ca (goodIn_ca (goodIn_ca (goodIn_ca (goodIn_ca (zin_zt [(6, 63), (5, 129), (5, 130), (1, 7), (5, 132), (5, 133), (5, 135), (5, 137), (0, 6), (5, 200), (5, 202), (0, 10), (6, 64), (6, 66), (0, 19), (1, 14), (5, 237), (5, 239), (0, 15), (6, 5), (6, 7), (0, 17)] rfl (by decide +kernel)) zg_X9_isOne) zg_X9_isIn) zg_X9_isThrown) zg_X9_of) zg_X9_isByPrimes) zg_X9_hasInverse) zg_X9_inverse
theorem zl_X9_is : GoodIn lw_tbl (wsV RL 165 RX9 yX9_is wsX9_is) := goodIn_app (zin_zt (ws := [.methodLink RL 165 yX9_is, .instanceMethod yX9_is, .selects RX9 yX9_is yX9_is, .initialized RX9]) [(6, 60), (6, 61), (6, 62), (1, 7)] rfl (by decide +kernel)) zg_X9_is
set_option maxRecDepth 20000 in
theorem zg_X7_total : GoodIn lw_tbl wsX7_total := goodIn_ca (goodIn_ca (goodIn_ca (goodIn_ca (goodIn_ca (goodIn_ca (goodIn_ca (goodIn_ca (zin_zt [(4, 113), (4, 117), (1, 27), (1, 106), (2, 23), (2, 25), (0, 0), (1, 1), (1, 12), (2, 95), (2, 96), (1, 13), (4, 114), (1, 144), (1, 145), (1, 3), (1, 239), (1, 148), (1, 149), (1, 2), (4, 115), (1, 152), (1, 153), (4, 116), (1, 160), (1, 161), (3, 24), (3, 25), (1, 16), (1, 15), (1, 18), (6, 161), (3, 57), (6, 162), (6, 163), (1, 19), (1, 14), (1, 20), (3, 89), (1, 21), (3, 103), (1, 22), (6, 164), (1, 17), (1, 23), (6, 165), (1, 24), (3, 206), (3, 211)] rfl (by decide +kernel)) (fun w h => ⟨wsL_law_x2 w h, zqf w h⟩)) zg_X7_rowOf) zg_X7_need) zg_X3_begin) zg_X4_at) zg_X3_plus) zg_X3_isBeyond) zg_X7_textOf
set_option maxRecDepth 20000 in
theorem zg_L_total : GoodIn lw_tbl wsL_total := goodIn_ca (goodIn_ca (zin_zt [(4, 108), (2, 17), (2, 18), (4, 109), (4, 110), (4, 111), (4, 112), (1, 1), (1, 27), (1, 12), (1, 13), (1, 3), (1, 2), (1, 16), (1, 15), (1, 18), (6, 161), (3, 57), (6, 162), (6, 163), (1, 19), (1, 14), (1, 20), (3, 89), (1, 21), (3, 103), (1, 22), (6, 164), (1, 17), (1, 23), (6, 165), (1, 24), (3, 206), (3, 211)] rfl (by decide +kernel)) (fun w h => ⟨zlaw_w_X8 w h, zqt_X80 w h⟩)) zg_X7_total
theorem zl_L_total : GoodIn lw_tbl (va_wsS RL 166 yL_total wsL_total) := goodIn_app (zin_zt (ws := [.methodLink RL 166 yL_total, .static yL_total, .initialized yL_total.cls]) [(4, 106), (4, 107), (1, 0)] rfl (by decide +kernel)) zg_L_total
set_option maxRecDepth 20000 in
theorem zg_X9_totalOf : GoodIn lw_tbl wsX9_totalOf := goodIn_ca (zin_zt [(6, 75), (5, 212), (5, 214), (0, 11), (1, 7)] rfl (by decide +kernel)) zg_X9_plus
set_option maxRecDepth 20000 in
theorem zg_X9_total : GoodIn lw_tbl wsX9_total := goodIn_ca (goodIn_ca (goodIn_ca (goodIn_ca (goodIn_ca (goodIn_ca (goodIn_ca (goodIn_ca (goodIn_ca (zin_zt [(6, 71), (6, 21), (1, 16), (5, 129), (5, 130), (1, 7), (5, 132), (5, 133), (5, 135), (5, 137), (0, 6), (5, 200), (5, 202), (0, 10), (6, 72), (6, 74), (0, 20), (6, 22), (3, 30), (1, 15), (1, 18), (6, 23), (4, 23), (4, 24), (6, 167), (3, 57), (6, 168), (6, 162), (6, 163), (1, 19), (1, 14), (1, 20), (3, 89), (1, 21), (3, 103), (1, 17), (1, 23), (6, 169), (6, 170), (6, 164), (1, 22), (6, 24), (6, 25), (6, 26), (6, 171), (1, 26), (6, 51), (3, 192), (3, 193), (3, 206), (3, 211)] rfl (by decide +kernel)) zg_X9_isOne) zg_X9_isIn) zg_X9_isThrown) zg_X9_of) zg_X9_totalOf) zg_J4_init_da8c8) zg_J4_append_15ec4) zg_J4_append_f7089) zg_J4_toString_0e30d
theorem zl_X9_total : GoodIn lw_tbl (wsV RL 168 RX9 yX9_total wsX9_total) := goodIn_app (zin_zt (ws := [.methodLink RL 168 yX9_total, .instanceMethod yX9_total, .selects RX9 yX9_total yX9_total, .initialized RX9]) [(6, 68), (6, 69), (6, 70), (1, 7)] rfl (by decide +kernel)) zg_X9_total
set_option maxRecDepth 20000 in
theorem zg_X4_isWithin : GoodIn lw_tbl wsX4_isWithin := goodIn_ca (zin_zt [(4, 147), (4, 148), (1, 148), (1, 149), (1, 2)] rfl (by decide +kernel)) zg_X4_at
set_option maxRecDepth 20000 in
theorem zg_X7_needSizes : GoodIn lw_tbl wsX7_needSizes := goodIn_ca (goodIn_ca (zin_zt [(4, 143), (4, 117), (1, 27), (4, 144), (4, 145), (4, 146), (1, 2)] rfl (by decide +kernel)) (fun w h => ⟨wsL_law_x2 w h, zqf w h⟩)) zg_X4_isWithin
set_option maxRecDepth 20000 in
theorem zg_X6_plainly : GoodIn lw_tbl wsX6_plainly := goodIn_ca (zin_zt [(4, 152), (4, 153), (1, 148), (1, 149), (1, 2)] rfl (by decide +kernel)) zg_X4_at
set_option maxRecDepth 20000 in
theorem zg_X4_totalTo : GoodIn lw_tbl wsX4_totalTo := goodIn_ca (zin_zt [(4, 163), (4, 148), (1, 148), (1, 149), (1, 2)] rfl (by decide +kernel)) zg_X4_at
set_option maxRecDepth 20000 in
theorem zg_X6_byQuotientsTo : GoodIn lw_tbl wsX6_byQuotientsTo := goodIn_ca (goodIn_ca (zin_zt [(4, 159), (4, 153), (1, 148), (1, 149), (1, 2), (4, 160), (4, 161), (4, 162), (4, 148)] rfl (by decide +kernel)) zg_X4_at) zg_X4_totalTo
set_option maxRecDepth 20000 in
theorem zg_X6_byQuotients : GoodIn lw_tbl wsX6_byQuotients := goodIn_ca (zin_zt [(4, 156), (4, 157), (4, 158), (1, 28), (1, 2)] rfl (by decide +kernel)) zg_X6_byQuotientsTo
set_option maxRecDepth 20000 in
theorem zg_X6_byRoot : GoodIn lw_tbl wsX6_byRoot := goodIn_ca (goodIn_ca (zin_zt [(4, 166), (4, 157), (4, 158), (1, 28), (1, 2), (4, 160), (4, 161), (4, 162)] rfl (by decide +kernel)) zg_X6_byQuotientsTo) zg_X4_totalTo
set_option maxRecDepth 20000 in
theorem zg_X7_totalOfProduct : GoodIn lw_tbl wsX7_totalOfProduct := goodIn_ca (goodIn_ca (goodIn_ca (goodIn_ca (goodIn_ca (goodIn_ca (goodIn_ca (zin_zt [(4, 139), (4, 140), (2, 23), (2, 25), (0, 0), (1, 1), (1, 12), (2, 95), (2, 96), (1, 13), (4, 141), (4, 142), (1, 27), (1, 2), (4, 150), (4, 151), (1, 28), (3, 24), (3, 25), (1, 16), (1, 15), (1, 18), (6, 161), (3, 57), (6, 162), (6, 163), (1, 19), (1, 14), (1, 20), (3, 89), (1, 21), (3, 103), (1, 22), (6, 164), (1, 17), (1, 23), (6, 165), (1, 24), (3, 206), (3, 211), (4, 154), (4, 155), (4, 164), (4, 165)] rfl (by decide +kernel)) zg_X7_rowOf) zg_X7_need) zg_X7_needSizes) zg_X6_plainly) zg_X7_textOf) zg_X6_byQuotients) zg_X6_byRoot
set_option maxRecDepth 20000 in
theorem zg_L_totalOfProduct : GoodIn lw_tbl wsL_totalOfProduct := goodIn_ca (goodIn_ca (zin_zt [(4, 135), (2, 17), (2, 18), (4, 109), (4, 136), (4, 137), (4, 138), (1, 1), (1, 12), (1, 13), (1, 27), (1, 2), (1, 28), (1, 16), (1, 15), (1, 18), (6, 161), (3, 57), (6, 162), (6, 163), (1, 19), (1, 14), (1, 20), (3, 89), (1, 21), (3, 103), (1, 22), (6, 164), (1, 17), (1, 23), (6, 165), (1, 24), (3, 206), (3, 211)] rfl (by decide +kernel)) (fun w h => ⟨zlaw_w_X8 w h, zqt_X80 w h⟩)) zg_X7_totalOfProduct
theorem zl_L_totalOfProduct : GoodIn lw_tbl (va_wsS RL 169 yL_totalOfProduct wsL_totalOfProduct) := goodIn_app (zin_zt (ws := [.methodLink RL 169 yL_totalOfProduct, .static yL_totalOfProduct, .initialized yL_totalOfProduct.cls]) [(4, 133), (4, 134), (1, 0)] rfl (by decide +kernel)) zg_L_totalOfProduct
set_option maxRecDepth 20000 in
theorem zg_X9_isGreat : GoodIn lw_tbl wsX9_isGreat := zin_zt [(6, 83)] rfl (by decide +kernel)
set_option maxRecDepth 20000 in
theorem zg_X9_totalOfProduct : GoodIn lw_tbl wsX9_totalOfProduct := goodIn_ca (goodIn_ca (goodIn_ca (goodIn_ca (goodIn_ca (goodIn_ca (goodIn_ca (goodIn_ca (goodIn_ca (goodIn_ca (goodIn_ca (zin_zt [(6, 79), (6, 80), (6, 21), (1, 16), (5, 129), (5, 130), (1, 7), (5, 132), (5, 133), (5, 135), (5, 137), (0, 6), (5, 200), (5, 202), (0, 10), (6, 81), (6, 82), (6, 22), (3, 30), (1, 15), (1, 18), (6, 23), (4, 23), (4, 24), (6, 167), (3, 57), (6, 168), (6, 162), (6, 163), (1, 19), (1, 14), (1, 20), (3, 89), (1, 21), (3, 103), (1, 17), (1, 23), (6, 169), (6, 170), (6, 164), (1, 22), (5, 229), (5, 231), (0, 14), (6, 72), (6, 74), (0, 20), (6, 24), (6, 25), (6, 26), (6, 171), (1, 26), (6, 51), (3, 192), (3, 193), (3, 206), (3, 211)] rfl (by decide +kernel)) zg_X9_isOne) zg_X9_isIn) zg_X9_isThrown) zg_X9_of) zg_X9_isGreat) zg_J4_init_da8c8) zg_J4_append_15ec4) zg_X9_product) zg_X9_totalOf) zg_J4_append_f7089) zg_J4_toString_0e30d
theorem zl_X9_totalOfProduct : GoodIn lw_tbl (wsV RL 171 RX9 yX9_totalOfProduct wsX9_totalOfProduct) := goodIn_app (zin_zt (ws := [.methodLink RL 171 yX9_totalOfProduct, .instanceMethod yX9_totalOfProduct, .selects RX9 yX9_totalOfProduct yX9_totalOfProduct, .initialized RX9]) [(6, 76), (6, 77), (6, 78), (1, 7)] rfl (by decide +kernel)) zg_X9_totalOfProduct
set_option maxRecDepth 20000 in
theorem zg_J6_bitCount_0f7a4 : GoodIn lw_tbl wsJ6_bitCount_0f7a4 := zin_zt [(4, 182), (4, 183), (4, 184), (4, 185)] rfl (by decide +kernel)
set_option maxRecDepth 20000 in
theorem zg_X5_sumOfSequences : GoodIn lw_tbl wsX5_sumOfSequences := goodIn_ca (goodIn_ca (goodIn_ca (zin_zt [(4, 176), (4, 177), (1, 209), (1, 4), (4, 178), (1, 148), (1, 149), (1, 2), (4, 179), (4, 175), (1, 29), (4, 180), (4, 181), (1, 25)] rfl (by decide +kernel)) zg_X1_commonOf) zg_X4_at) zg_J6_bitCount_0f7a4
set_option maxRecDepth 20000 in
theorem zg_X7_determinant : GoodIn lw_tbl wsX7_determinant := goodIn_ca (goodIn_ca (goodIn_ca (goodIn_ca (goodIn_ca (goodIn_ca (zin_zt [(4, 173), (1, 108), (2, 23), (2, 25), (0, 0), (1, 1), (1, 12), (2, 95), (2, 96), (1, 13), (4, 141), (4, 142), (1, 27), (1, 2), (4, 175), (1, 29), (1, 4), (4, 179), (1, 25), (3, 24), (3, 25), (1, 16), (1, 15), (1, 18), (6, 161), (3, 57), (6, 162), (6, 163), (1, 19), (1, 14), (1, 20), (3, 89), (1, 21), (3, 103), (1, 22), (6, 164), (1, 17), (1, 23), (6, 165), (1, 24), (3, 206), (3, 211), (4, 186), (1, 168), (1, 169), (1, 6), (1, 5), (1, 3)] rfl (by decide +kernel)) zg_X7_rowOf) zg_X7_need) zg_X7_needSizes) zg_X5_sumOfSequences) zg_X7_textOf) zg_X0_signedAt
set_option maxRecDepth 20000 in
theorem zg_L_determinant : GoodIn lw_tbl wsL_determinant := goodIn_ca (goodIn_ca (zin_zt [(4, 169), (2, 17), (2, 18), (4, 109), (4, 170), (4, 171), (4, 172), (1, 1), (1, 12), (1, 13), (1, 27), (1, 2), (1, 29), (1, 4), (1, 25), (1, 16), (1, 15), (1, 18), (6, 161), (3, 57), (6, 162), (6, 163), (1, 19), (1, 14), (1, 20), (3, 89), (1, 21), (3, 103), (1, 22), (6, 164), (1, 17), (1, 23), (6, 165), (1, 24), (3, 206), (3, 211), (1, 6), (1, 5), (1, 3)] rfl (by decide +kernel)) (fun w h => ⟨zlaw_w_X8 w h, zqt_X80 w h⟩)) zg_X7_determinant
theorem zl_L_determinant : GoodIn lw_tbl (va_wsS RL 172 yL_determinant wsL_determinant) := goodIn_app (zin_zt (ws := [.methodLink RL 172 yL_determinant, .static yL_determinant, .initialized yL_determinant.cls]) [(4, 167), (4, 168), (1, 0)] rfl (by decide +kernel)) zg_L_determinant
set_option maxRecDepth 20000 in
theorem zg_X9_determinantOf : GoodIn lw_tbl wsX9_determinantOf := goodIn_ca (zin_zt [(6, 90), (5, 157), (5, 158), (1, 7), (1, 14), (6, 88), (6, 89)] rfl (by decide +kernel)) zg_X9_common
set_option maxRecDepth 20000 in
theorem zg_X9_determinant : GoodIn lw_tbl wsX9_determinant := goodIn_ca (goodIn_ca (goodIn_ca (goodIn_ca (goodIn_ca (goodIn_ca (goodIn_ca (goodIn_ca (goodIn_ca (goodIn_ca (zin_zt [(6, 87), (6, 21), (1, 16), (5, 129), (5, 130), (1, 7), (5, 132), (5, 133), (5, 135), (5, 137), (0, 6), (5, 200), (5, 202), (0, 10), (6, 81), (6, 82), (6, 22), (3, 30), (1, 15), (1, 18), (6, 23), (4, 23), (4, 24), (6, 167), (3, 57), (6, 168), (6, 162), (6, 163), (1, 19), (1, 14), (1, 20), (3, 89), (1, 21), (3, 103), (1, 17), (1, 23), (6, 169), (6, 170), (6, 164), (1, 22), (6, 88), (6, 89), (6, 24), (6, 25), (6, 26), (6, 171), (1, 26), (6, 51), (3, 192), (3, 193), (3, 206), (3, 211)] rfl (by decide +kernel)) zg_X9_isOne) zg_X9_isIn) zg_X9_isThrown) zg_X9_of) zg_X9_isGreat) zg_J4_init_da8c8) zg_J4_append_15ec4) zg_X9_determinantOf) zg_J4_append_f7089) zg_J4_toString_0e30d
theorem zl_X9_determinant : GoodIn lw_tbl (wsV RL 174 RX9 yX9_determinant wsX9_determinant) := goodIn_app (zin_zt (ws := [.methodLink RL 174 yX9_determinant, .instanceMethod yX9_determinant, .selects RX9 yX9_determinant yX9_determinant, .initialized RX9]) [(6, 84), (6, 85), (6, 86), (1, 7)] rfl (by decide +kernel)) zg_X9_determinant
set_option maxRecDepth 20000 in
theorem zg_X1_tauOneByOne : GoodIn lw_tbl wsX1_tauOneByOne := zin_zt [(4, 197)] rfl (by decide +kernel)
set_option maxRecDepth 20000 in
theorem zg_X1_tauByPairs : GoodIn lw_tbl wsX1_tauByPairs := zin_zt [(4, 202)] rfl (by decide +kernel)
set_option maxRecDepth 20000 in
theorem zg_X7_tau : GoodIn lw_tbl wsX7_tau := goodIn_ca (goodIn_ca (goodIn_ca (goodIn_ca (goodIn_ca (zin_zt [(4, 193), (1, 107), (2, 95), (2, 96), (1, 1), (1, 13), (4, 194), (4, 195), (4, 196), (1, 4), (4, 198), (2, 125), (2, 126), (1, 5), (4, 199), (4, 200), (4, 201)] rfl (by decide +kernel)) (fun w h => ⟨zlaw_w_X7 w h, zqt_X70 w h⟩)) zg_X7_need) zg_X1_tauOneByOne) zg_X1_tauByPowers) zg_X1_tauByPairs
set_option maxRecDepth 20000 in
theorem zg_L_tau : GoodIn lw_tbl wsL_tau := goodIn_ca (goodIn_ca (zin_zt [(4, 189), (2, 18), (4, 190), (4, 191), (4, 192), (1, 1), (1, 13), (1, 4), (1, 5)] rfl (by decide +kernel)) (fun w h => ⟨zlaw_w_X8 w h, zqt_X80 w h⟩)) zg_X7_tau
theorem zl_L_tau : GoodIn lw_tbl (va_wsS RL 175 yL_tau wsL_tau) := goodIn_app (zin_zt (ws := [.methodLink RL 175 yL_tau, .static yL_tau, .initialized yL_tau.cls]) [(4, 187), (4, 188), (1, 0)] rfl (by decide +kernel)) zg_L_tau
set_option maxRecDepth 20000 in
theorem zg_X9_isNo : GoodIn lw_tbl wsX9_isNo := goodIn_ca (zin_zt [(6, 98), (5, 107)] rfl (by decide +kernel)) (fun w h => ⟨zlaw_w_X9 w h, zqt_X90 w h⟩)
set_option maxRecDepth 20000 in
theorem zg_X9_tau : GoodIn lw_tbl wsX9_tau := goodIn_ca (goodIn_ca (goodIn_ca (zin_zt [(6, 94), (5, 132), (5, 133), (1, 7), (6, 95), (6, 97), (0, 21), (5, 161), (5, 162)] rfl (by decide +kernel)) zg_X9_isIn) zg_X9_isNo) zg_X9_tauOf
theorem zl_X9_tau : GoodIn lw_tbl (wsV RL 177 RX9 yX9_tau wsX9_tau) := goodIn_app (zin_zt (ws := [.methodLink RL 177 yX9_tau, .instanceMethod yX9_tau, .selects RX9 yX9_tau yX9_tau, .initialized RX9]) [(6, 91), (6, 92), (6, 93), (1, 7)] rfl (by decide +kernel)) zg_X9_tau
set_option maxRecDepth 20000 in
theorem zg_X1_sigmaOneByOne : GoodIn lw_tbl wsX1_sigmaOneByOne := zin_zt [(4, 213)] rfl (by decide +kernel)
set_option maxRecDepth 20000 in
theorem zg_X7_sigma : GoodIn lw_tbl wsX7_sigma := goodIn_ca (goodIn_ca (goodIn_ca (goodIn_ca (zin_zt [(4, 209), (1, 107), (2, 95), (2, 96), (1, 1), (1, 13), (4, 210), (4, 211), (4, 212), (1, 4), (4, 214), (2, 129), (2, 130), (1, 5)] rfl (by decide +kernel)) (fun w h => ⟨zlaw_w_X7 w h, zqt_X70 w h⟩)) zg_X7_need) zg_X1_sigmaOneByOne) zg_X1_sigmaByPowers
set_option maxRecDepth 20000 in
theorem zg_L_sigma : GoodIn lw_tbl wsL_sigma := goodIn_ca (goodIn_ca (zin_zt [(4, 205), (2, 18), (4, 206), (4, 207), (4, 208), (1, 1), (1, 13), (1, 4), (1, 5)] rfl (by decide +kernel)) (fun w h => ⟨zlaw_w_X8 w h, zqt_X80 w h⟩)) zg_X7_sigma
theorem zl_L_sigma : GoodIn lw_tbl (va_wsS RL 178 yL_sigma wsL_sigma) := goodIn_app (zin_zt (ws := [.methodLink RL 178 yL_sigma, .static yL_sigma, .initialized yL_sigma.cls]) [(4, 203), (4, 204), (1, 0)] rfl (by decide +kernel)) zg_L_sigma
set_option maxRecDepth 20000 in
theorem zg_X9_sigma : GoodIn lw_tbl wsX9_sigma := goodIn_ca (goodIn_ca (goodIn_ca (zin_zt [(6, 102), (5, 132), (5, 133), (1, 7), (6, 95), (6, 97), (0, 21), (5, 164), (5, 165)] rfl (by decide +kernel)) zg_X9_isIn) zg_X9_isNo) zg_X9_sigmaOf
theorem zl_X9_sigma : GoodIn lw_tbl (wsV RL 180 RX9 yX9_sigma wsX9_sigma) := goodIn_app (zin_zt (ws := [.methodLink RL 180 yX9_sigma, .instanceMethod yX9_sigma, .selects RX9 yX9_sigma yX9_sigma, .initialized RX9]) [(6, 99), (6, 100), (6, 101), (1, 7)] rfl (by decide +kernel)) zg_X9_sigma
set_option maxRecDepth 20000 in
theorem zg_X1_phiOneByOne : GoodIn lw_tbl wsX1_phiOneByOne := goodIn_ca (zin_zt [(4, 225), (4, 226), (1, 209), (1, 4)] rfl (by decide +kernel)) zg_X1_commonOf
set_option maxRecDepth 20000 in
theorem zg_X1_phiBySigns : GoodIn lw_tbl wsX1_phiBySigns := goodIn_ca (zin_zt [(4, 231), (2, 118), (1, 172), (1, 173), (1, 4), (1, 5)] rfl (by decide +kernel)) zg_X1_signByPowers
set_option maxRecDepth 20000 in
theorem zg_X7_phi : GoodIn lw_tbl wsX7_phi := goodIn_ca (goodIn_ca (goodIn_ca (goodIn_ca (goodIn_ca (zin_zt [(4, 221), (1, 107), (2, 95), (2, 96), (1, 1), (1, 13), (4, 222), (4, 223), (4, 224), (1, 4), (4, 227), (2, 120), (2, 121), (1, 5), (4, 228), (4, 229), (4, 230)] rfl (by decide +kernel)) (fun w h => ⟨zlaw_w_X7 w h, zqt_X70 w h⟩)) zg_X7_need) zg_X1_phiOneByOne) zg_X1_phiByPowers) zg_X1_phiBySigns
set_option maxRecDepth 20000 in
theorem zg_L_phi : GoodIn lw_tbl wsL_phi := goodIn_ca (goodIn_ca (zin_zt [(4, 217), (2, 18), (4, 218), (4, 219), (4, 220), (1, 1), (1, 13), (1, 4), (1, 5)] rfl (by decide +kernel)) (fun w h => ⟨zlaw_w_X8 w h, zqt_X80 w h⟩)) zg_X7_phi
theorem zl_L_phi : GoodIn lw_tbl (va_wsS RL 181 yL_phi wsL_phi) := goodIn_app (zin_zt (ws := [.methodLink RL 181 yL_phi, .static yL_phi, .initialized yL_phi.cls]) [(4, 215), (4, 216), (1, 0)] rfl (by decide +kernel)) zg_L_phi
set_option maxRecDepth 20000 in
theorem zg_X9_phi : GoodIn lw_tbl wsX9_phi := goodIn_ca (goodIn_ca (goodIn_ca (zin_zt [(6, 106), (5, 132), (5, 133), (1, 7), (6, 95), (6, 97), (0, 21), (5, 154), (5, 155), (1, 14)] rfl (by decide +kernel)) zg_X9_isIn) zg_X9_isNo) zg_X9_phiOf
theorem zl_X9_phi : GoodIn lw_tbl (wsV RL 183 RX9 yX9_phi wsX9_phi) := goodIn_app (zin_zt (ws := [.methodLink RL 183 yX9_phi, .instanceMethod yX9_phi, .selects RX9 yX9_phi yX9_phi, .initialized RX9]) [(6, 103), (6, 104), (6, 105), (1, 7)] rfl (by decide +kernel)) zg_X9_phi
set_option maxRecDepth 20000 in
theorem zg_X1_sumOfSmallerDivisors : GoodIn lw_tbl wsX1_sumOfSmallerDivisors := goodIn_ca (zin_zt [(5, 7), (1, 84)] rfl (by decide +kernel)) (fun w h => ⟨zlaw_w_X1 w h, zqt_X10 w h⟩)
set_option maxRecDepth 20000 in
theorem zg_X1_signBySums : GoodIn lw_tbl wsX1_signBySums := goodIn_ca (zin_zt [(5, 3), (5, 4), (5, 6), (0, 5), (1, 4)] rfl (by decide +kernel)) zg_X1_sumOfSmallerDivisors
set_option maxRecDepth 20000 in
theorem zg_X7_sign : GoodIn lw_tbl wsX7_sign := goodIn_ca (goodIn_ca (goodIn_ca (goodIn_ca (zin_zt [(4, 238), (1, 107), (2, 95), (2, 96), (1, 1), (1, 13), (4, 239), (1, 172), (1, 173), (1, 4), (1, 5), (5, 0), (5, 1), (5, 2)] rfl (by decide +kernel)) (fun w h => ⟨zlaw_w_X7 w h, zqt_X70 w h⟩)) zg_X7_need) zg_X1_signByPowers) zg_X1_signBySums
set_option maxRecDepth 20000 in
theorem zg_L_sign : GoodIn lw_tbl wsL_sign := goodIn_ca (goodIn_ca (zin_zt [(4, 234), (2, 18), (4, 235), (4, 236), (4, 237), (1, 1), (1, 13), (1, 4), (1, 5)] rfl (by decide +kernel)) (fun w h => ⟨zlaw_w_X8 w h, zqt_X80 w h⟩)) zg_X7_sign
theorem zl_L_sign : GoodIn lw_tbl (va_wsS RL 184 yL_sign wsL_sign) := goodIn_app (zin_zt (ws := [.methodLink RL 184 yL_sign, .static yL_sign, .initialized yL_sign.cls]) [(4, 232), (4, 233), (1, 0)] rfl (by decide +kernel)) zg_L_sign
set_option maxRecDepth 20000 in
theorem zg_X9_sign : GoodIn lw_tbl wsX9_sign := goodIn_ca (goodIn_ca (goodIn_ca (zin_zt [(6, 110), (5, 132), (5, 133), (1, 7), (6, 95), (6, 97), (0, 21), (5, 142), (5, 143)] rfl (by decide +kernel)) zg_X9_isIn) zg_X9_isNo) zg_X9_signOf
theorem zl_X9_sign : GoodIn lw_tbl (wsV RL 186 RX9 yX9_sign wsX9_sign) := goodIn_app (zin_zt (ws := [.methodLink RL 186 yX9_sign, .instanceMethod yX9_sign, .selects RX9 yX9_sign yX9_sign, .initialized RX9]) [(6, 107), (6, 108), (6, 109), (1, 7)] rfl (by decide +kernel)) zg_X9_sign
set_option maxRecDepth 20000 in
theorem zg_X1_squareByPowers : GoodIn lw_tbl wsX1_squareByPowers := goodIn_ca (goodIn_ca (goodIn_ca (goodIn_ca (goodIn_ca (zin_zt [(5, 19), (1, 83), (1, 175), (1, 176), (1, 177), (1, 5), (1, 179), (1, 180), (1, 181), (1, 183), (1, 184), (1, 185), (2, 123), (1, 230), (1, 231)] rfl (by decide +kernel)) (fun w h => ⟨zlaw_w_X1 w h, zqt_X10 w h⟩)) zg_X2_lay) zg_X2_count) zg_X2_timesAt) zg_X2_primeAt
set_option maxRecDepth 20000 in
theorem zg_X7_square : GoodIn lw_tbl wsX7_square := goodIn_ca (goodIn_ca (goodIn_ca (goodIn_ca (zin_zt [(5, 14), (1, 107), (2, 95), (2, 96), (1, 1), (1, 13), (5, 15), (2, 133), (2, 134), (1, 4), (5, 16), (5, 17), (5, 18), (1, 5)] rfl (by decide +kernel)) (fun w h => ⟨zlaw_w_X7 w h, zqt_X70 w h⟩)) zg_X7_need) zg_X1_squareOneByOne) zg_X1_squareByPowers
set_option maxRecDepth 20000 in
theorem zg_L_square : GoodIn lw_tbl wsL_square := goodIn_ca (goodIn_ca (zin_zt [(5, 10), (2, 18), (5, 11), (5, 12), (5, 13), (1, 1), (1, 13), (1, 4), (1, 5)] rfl (by decide +kernel)) (fun w h => ⟨zlaw_w_X8 w h, zqt_X80 w h⟩)) zg_X7_square
theorem zl_L_square : GoodIn lw_tbl (va_wsS RL 187 yL_square wsL_square) := goodIn_app (zin_zt (ws := [.methodLink RL 187 yL_square, .static yL_square, .initialized yL_square.cls]) [(5, 8), (5, 9), (1, 0)] rfl (by decide +kernel)) zg_L_square
set_option maxRecDepth 20000 in
theorem zg_X9_square : GoodIn lw_tbl wsX9_square := goodIn_ca (goodIn_ca (goodIn_ca (zin_zt [(6, 114), (5, 132), (5, 133), (1, 7), (6, 95), (6, 97), (0, 21), (5, 145), (5, 146)] rfl (by decide +kernel)) zg_X9_isIn) zg_X9_isNo) zg_X9_squareOf
theorem zl_X9_square : GoodIn lw_tbl (wsV RL 189 RX9 yX9_square wsX9_square) := goodIn_app (zin_zt (ws := [.methodLink RL 189 yX9_square, .instanceMethod yX9_square, .selects RX9 yX9_square yX9_square, .initialized RX9]) [(6, 111), (6, 112), (6, 113), (1, 7)] rfl (by decide +kernel)) zg_X9_square
set_option maxRecDepth 20000 in
theorem zg_X1_squarelessOneByOne : GoodIn lw_tbl wsX1_squarelessOneByOne := goodIn_ca (zin_zt [(5, 30), (2, 132), (2, 133), (2, 134), (1, 4)] rfl (by decide +kernel)) zg_X1_squareOneByOne
set_option maxRecDepth 20000 in
theorem zg_X1_squarelessBySigns : GoodIn lw_tbl wsX1_squarelessBySigns := goodIn_ca (zin_zt [(5, 34), (2, 118), (1, 172), (1, 173), (1, 4), (1, 5)] rfl (by decide +kernel)) zg_X1_signByPowers
set_option maxRecDepth 20000 in
theorem zg_X7_squareless : GoodIn lw_tbl wsX7_squareless := goodIn_ca (goodIn_ca (goodIn_ca (goodIn_ca (zin_zt [(5, 26), (1, 107), (2, 95), (2, 96), (1, 1), (1, 13), (5, 27), (5, 28), (5, 29), (1, 4), (5, 31), (5, 32), (5, 33), (1, 5)] rfl (by decide +kernel)) (fun w h => ⟨zlaw_w_X7 w h, zqt_X70 w h⟩)) zg_X7_need) zg_X1_squarelessOneByOne) zg_X1_squarelessBySigns
set_option maxRecDepth 20000 in
theorem zg_L_squareless : GoodIn lw_tbl wsL_squareless := goodIn_ca (goodIn_ca (zin_zt [(5, 22), (2, 18), (5, 23), (5, 24), (5, 25), (1, 1), (1, 13), (1, 4), (1, 5)] rfl (by decide +kernel)) (fun w h => ⟨zlaw_w_X8 w h, zqt_X80 w h⟩)) zg_X7_squareless
theorem zl_L_squareless : GoodIn lw_tbl (va_wsS RL 190 yL_squareless wsL_squareless) := goodIn_app (zin_zt (ws := [.methodLink RL 190 yL_squareless, .static yL_squareless, .initialized yL_squareless.cls]) [(5, 20), (5, 21), (1, 0)] rfl (by decide +kernel)) zg_L_squareless
set_option maxRecDepth 20000 in
theorem zg_X9_squareless : GoodIn lw_tbl wsX9_squareless := goodIn_ca (goodIn_ca (goodIn_ca (zin_zt [(6, 118), (5, 132), (5, 133), (1, 7), (6, 95), (6, 97), (0, 21), (5, 145), (5, 146)] rfl (by decide +kernel)) zg_X9_isIn) zg_X9_isNo) zg_X9_squareOf
theorem zl_X9_squareless : GoodIn lw_tbl (wsV RL 192 RX9 yX9_squareless wsX9_squareless) := goodIn_app (zin_zt (ws := [.methodLink RL 192 yX9_squareless, .instanceMethod yX9_squareless, .selects RX9 yX9_squareless yX9_squareless, .initialized RX9]) [(6, 115), (6, 116), (6, 117), (1, 7)] rfl (by decide +kernel)) zg_X9_squareless
set_option maxRecDepth 20000 in
theorem zg_X1_apartOneByOne : GoodIn lw_tbl wsX1_apartOneByOne := goodIn_ca (zin_zt [(5, 45), (4, 226), (1, 209), (1, 4)] rfl (by decide +kernel)) zg_X1_commonOf
set_option maxRecDepth 20000 in
theorem zg_X1_apartBySigns : GoodIn lw_tbl wsX1_apartBySigns := goodIn_ca (zin_zt [(5, 49), (2, 118), (1, 172), (1, 173), (1, 4), (1, 5)] rfl (by decide +kernel)) zg_X1_signByPowers
set_option maxRecDepth 20000 in
theorem zg_X1_apartByPhi : GoodIn lw_tbl wsX1_apartByPhi := goodIn_ca (zin_zt [(5, 53), (2, 119), (2, 120), (2, 121), (1, 4), (1, 5)] rfl (by decide +kernel)) zg_X1_phiByPowers
set_option maxRecDepth 20000 in
theorem zg_X7_apart : GoodIn lw_tbl wsX7_apart := goodIn_ca (goodIn_ca (goodIn_ca (goodIn_ca (goodIn_ca (zin_zt [(5, 41), (1, 107), (2, 95), (2, 96), (1, 1), (1, 13), (5, 42), (5, 43), (5, 44), (1, 4), (5, 46), (5, 47), (5, 48), (1, 5), (5, 50), (5, 51), (5, 52)] rfl (by decide +kernel)) (fun w h => ⟨zlaw_w_X7 w h, zqt_X70 w h⟩)) zg_X7_need) zg_X1_apartOneByOne) zg_X1_apartBySigns) zg_X1_apartByPhi
set_option maxRecDepth 20000 in
theorem zg_L_apart : GoodIn lw_tbl wsL_apart := goodIn_ca (goodIn_ca (zin_zt [(5, 37), (2, 18), (5, 38), (5, 39), (5, 40), (1, 1), (1, 13), (1, 4), (1, 5)] rfl (by decide +kernel)) (fun w h => ⟨zlaw_w_X8 w h, zqt_X80 w h⟩)) zg_X7_apart
theorem zl_L_apart : GoodIn lw_tbl (va_wsS RL 193 yL_apart wsL_apart) := goodIn_app (zin_zt (ws := [.methodLink RL 193 yL_apart, .static yL_apart, .initialized yL_apart.cls]) [(5, 35), (5, 36), (1, 0)] rfl (by decide +kernel)) zg_L_apart
set_option maxRecDepth 20000 in
theorem zg_X9_apart : GoodIn lw_tbl wsX9_apart := goodIn_ca (goodIn_ca (goodIn_ca (zin_zt [(6, 122), (5, 132), (5, 133), (1, 7), (6, 95), (6, 97), (0, 21), (5, 157), (5, 158), (1, 14)] rfl (by decide +kernel)) zg_X9_isIn) zg_X9_isNo) zg_X9_common
theorem zl_X9_apart : GoodIn lw_tbl (wsV RL 195 RX9 yX9_apart wsX9_apart) := goodIn_app (zin_zt (ws := [.methodLink RL 195 yX9_apart, .instanceMethod yX9_apart, .selects RX9 yX9_apart yX9_apart, .initialized RX9]) [(6, 119), (6, 120), (6, 121), (1, 7)] rfl (by decide +kernel)) zg_X9_apart
set_option maxRecDepth 20000 in
theorem zg_X9_thrown : GoodIn lw_tbl wsX9_thrown := goodIn_ca (zin_zt [(5, 124), (5, 107)] rfl (by decide +kernel)) (fun w h => ⟨zlaw_w_X9 w h, zqt_X90 w h⟩)
theorem zl_X9_thrown : GoodIn lw_tbl (wsV RL 196 RX9 yX9_thrown wsX9_thrown) := goodIn_app (zin_zt (ws := [.methodLink RL 196 yX9_thrown, .instanceMethod yX9_thrown, .selects RX9 yX9_thrown yX9_thrown, .initialized RX9]) [(5, 121), (5, 122), (5, 123), (1, 7)] rfl (by decide +kernel)) zg_X9_thrown
set_option maxRecDepth 20000 in
theorem zg_X1_leastOf : GoodIn lw_tbl wsX1_leastOf := zin_zt [(5, 63)] rfl (by decide +kernel)
set_option maxRecDepth 20000 in
theorem zg_X7_shared : GoodIn lw_tbl wsX7_shared := goodIn_ca (goodIn_ca (goodIn_ca (zin_zt [(5, 60), (2, 95), (2, 96), (1, 1), (1, 13), (5, 61), (5, 62), (1, 4), (5, 64), (1, 209)] rfl (by decide +kernel)) zg_X7_need) zg_X1_leastOf) zg_X1_commonOf
set_option maxRecDepth 20000 in
theorem zg_L_shared : GoodIn lw_tbl wsL_shared := goodIn_ca (goodIn_ca (zin_zt [(5, 56), (2, 18), (5, 57), (5, 58), (5, 59), (1, 1), (1, 13), (1, 4)] rfl (by decide +kernel)) (fun w h => ⟨zlaw_w_X8 w h, zqt_X80 w h⟩)) zg_X7_shared
theorem zl_L_shared : GoodIn lw_tbl (va_wsS RL 200 yL_shared wsL_shared) := goodIn_app (zin_zt (ws := [.methodLink RL 200 yL_shared, .static yL_shared, .initialized yL_shared.cls]) [(5, 54), (5, 55), (1, 0)] rfl (by decide +kernel)) zg_L_shared
set_option maxRecDepth 20000 in
theorem zg_X9_shared : GoodIn lw_tbl wsX9_shared := goodIn_ca (goodIn_ca (goodIn_ca (zin_zt [(6, 126), (5, 132), (5, 133), (1, 7), (6, 95), (6, 97), (0, 21), (5, 157), (5, 158), (1, 14)] rfl (by decide +kernel)) zg_X9_isIn) zg_X9_isNo) zg_X9_common
theorem zl_X9_shared : GoodIn lw_tbl (wsV RL 202 RX9 yX9_shared wsX9_shared) := goodIn_app (zin_zt (ws := [.methodLink RL 202 yX9_shared, .instanceMethod yX9_shared, .selects RX9 yX9_shared yX9_shared, .initialized RX9]) [(6, 123), (6, 124), (6, 125), (1, 7)] rfl (by decide +kernel)) zg_X9_shared
set_option maxRecDepth 20000 in
theorem zg_X7_divisor : GoodIn lw_tbl wsX7_divisor := goodIn_ca (zin_zt [(5, 71), (1, 13), (2, 95), (2, 96), (1, 1)] rfl (by decide +kernel)) zg_X7_need
set_option maxRecDepth 20000 in
theorem zg_L_divisor : GoodIn lw_tbl wsL_divisor := goodIn_ca (goodIn_ca (zin_zt [(5, 67), (2, 18), (5, 68), (5, 69), (5, 70), (1, 1), (1, 13)] rfl (by decide +kernel)) (fun w h => ⟨zlaw_w_X8 w h, zqt_X80 w h⟩)) zg_X7_divisor
theorem zl_L_divisor : GoodIn lw_tbl (va_wsS RL 203 yL_divisor wsL_divisor) := goodIn_app (zin_zt (ws := [.methodLink RL 203 yL_divisor, .static yL_divisor, .initialized yL_divisor.cls]) [(5, 65), (5, 66), (1, 0)] rfl (by decide +kernel)) zg_L_divisor
set_option maxRecDepth 20000 in
theorem zg_X9_divisor : GoodIn lw_tbl wsX9_divisor := goodIn_ca (goodIn_ca (zin_zt [(6, 130), (5, 132), (5, 133), (1, 7), (6, 95), (6, 97), (0, 21)] rfl (by decide +kernel)) zg_X9_isIn) zg_X9_isNo
theorem zl_X9_divisor : GoodIn lw_tbl (wsV RL 205 RX9 yX9_divisor wsX9_divisor) := goodIn_app (zin_zt (ws := [.methodLink RL 205 yX9_divisor, .instanceMethod yX9_divisor, .selects RX9 yX9_divisor yX9_divisor, .initialized RX9]) [(6, 127), (6, 128), (6, 129), (1, 7)] rfl (by decide +kernel)) zg_X9_divisor
set_option maxRecDepth 20000 in
theorem zg_J6_stringSize_0f7a4 : GoodIn lw_tbl wsJ6_stringSize_0f7a4 := zin_zt [(3, 239)] rfl (by decide +kernel)
set_option maxRecDepth 20000 in
theorem zg_J6_getChars_ba4f3 : GoodIn lw_tbl wsJ6_getChars_ba4f3 := zin_zt [(4, 2), (4, 3), (4, 5)] rfl (by decide +kernel)
set_option maxRecDepth 20000 in
theorem zg_J2_getChars_ba4f3 : GoodIn lw_tbl wsJ2_getChars_ba4f3 := goodIn_ca (zin_zt [(4, 18), (4, 19), (4, 20), (3, 133), (3, 134), (1, 18)] rfl (by decide +kernel)) zg_J2_putChar_b72d1
set_option maxRecDepth 20000 in
theorem zg_J2_getChars_46870 : GoodIn lw_tbl wsJ2_getChars_46870 := goodIn_ca (goodIn_ca (zin_zt [(4, 9), (4, 10), (4, 11), (1, 18), (1, 17), (1, 23), (4, 16), (4, 17)] rfl (by decide +kernel)) zg_J2_checkBoundsBeginEnd_d044e) zg_J2_getChars_ba4f3
set_option maxRecDepth 20000 in
theorem zg_J5_append_c97b9 : GoodIn lw_tbl wsJ5_append_c97b9 := goodIn_ca (goodIn_ca (goodIn_ca (goodIn_ca (goodIn_ca (zin_zt [(3, 236), (3, 48), (3, 237), (3, 238), (1, 25), (3, 66), (6, 162), (0, 22), (3, 68), (1, 15), (6, 163), (1, 19), (1, 14), (1, 20), (3, 89), (1, 21), (3, 101), (3, 103), (3, 104), (3, 102), (4, 0), (4, 1), (4, 7), (4, 8), (1, 18), (1, 17), (1, 23)] rfl (by decide +kernel)) zg_J6_stringSize_0f7a4) zg_J5_ensureCapacityInternal_d00df) zg_J5_isLatin1_aae02) zg_J6_getChars_ba4f3) zg_J2_getChars_46870
set_option maxRecDepth 20000 in
theorem zg_J4_append_bf812 : GoodIn lw_tbl wsJ4_append_bf812 := goodIn_ca (zin_zt [(3, 233), (3, 234), (6, 166), (3, 57), (3, 235), (1, 15), (1, 25), (6, 162), (6, 163), (1, 19), (1, 14), (1, 20), (3, 89), (1, 21), (3, 103), (1, 18), (1, 17), (1, 23)] rfl (by decide +kernel)) zg_J5_append_c97b9
set_option maxRecDepth 20000 in
theorem zg_X1_textOfPowers : GoodIn lw_tbl wsX1_textOfPowers := goodIn_ca (goodIn_ca (goodIn_ca (goodIn_ca (goodIn_ca (goodIn_ca (goodIn_ca (goodIn_ca (goodIn_ca (zin_zt [(5, 83), (1, 83), (5, 84), (1, 16), (1, 175), (1, 176), (1, 177), (1, 5), (5, 85), (3, 30), (1, 15), (1, 18), (1, 179), (1, 180), (1, 181), (5, 86), (3, 60), (3, 61), (6, 161), (3, 57), (6, 162), (6, 163), (1, 19), (1, 14), (1, 20), (3, 89), (1, 21), (3, 103), (1, 22), (6, 164), (1, 17), (1, 23), (2, 123), (1, 230), (1, 231), (5, 87), (3, 231), (3, 232), (6, 166), (1, 25), (1, 183), (1, 184), (1, 185), (5, 88), (3, 192), (3, 193), (3, 206), (3, 211)] rfl (by decide +kernel)) (fun w h => ⟨zlaw_w_X1 w h, zqt_X10 w h⟩)) zg_X2_lay) zg_J4_init_da8c8) zg_X2_count) zg_J4_append_cf468) zg_X2_primeAt) zg_J4_append_bf812) zg_X2_timesAt) zg_J4_toString_0e30d
set_option maxRecDepth 20000 in
theorem zg_X7_powers : GoodIn lw_tbl wsX7_powers := goodIn_ca (goodIn_ca (goodIn_ca (zin_zt [(5, 79), (1, 107), (2, 95), (2, 96), (1, 1), (1, 13), (5, 80), (5, 81), (5, 82), (1, 4), (1, 16), (1, 5), (1, 15), (1, 18), (6, 161), (3, 57), (6, 162), (6, 163), (1, 19), (1, 14), (1, 20), (3, 89), (1, 21), (3, 103), (1, 22), (6, 164), (1, 17), (1, 23), (6, 166), (1, 25), (3, 206), (3, 211)] rfl (by decide +kernel)) (fun w h => ⟨zlaw_w_X7 w h, zqt_X70 w h⟩)) zg_X7_need) zg_X1_textOfPowers
set_option maxRecDepth 20000 in
theorem zg_L_powers : GoodIn lw_tbl wsL_powers := goodIn_ca (goodIn_ca (zin_zt [(5, 75), (2, 18), (5, 76), (5, 77), (5, 78), (1, 1), (1, 13), (1, 4), (1, 16), (1, 5), (1, 15), (1, 18), (6, 161), (3, 57), (6, 162), (6, 163), (1, 19), (1, 14), (1, 20), (3, 89), (1, 21), (3, 103), (1, 22), (6, 164), (1, 17), (1, 23), (6, 166), (1, 25), (3, 206), (3, 211)] rfl (by decide +kernel)) (fun w h => ⟨zlaw_w_X8 w h, zqt_X80 w h⟩)) zg_X7_powers
theorem zl_L_powers : GoodIn lw_tbl (va_wsS RL 206 yL_powers wsL_powers) := goodIn_app (zin_zt (ws := [.methodLink RL 206 yL_powers, .static yL_powers, .initialized yL_powers.cls]) [(5, 73), (5, 74), (1, 0)] rfl (by decide +kernel)) zg_L_powers
set_option maxRecDepth 20000 in
theorem zg_J0_isEmpty_aae02 : GoodIn lw_tbl wsJ0_isEmpty_aae02 := goodIn_ca (zin_zt [(6, 138), (4, 72)] rfl (by decide +kernel)) (fun w h => ⟨zlaw_w_J0 w h, zqt_J00 w h⟩)
set_option maxRecDepth 20000 in
theorem zg_X9_powers : GoodIn lw_tbl wsX9_powers := goodIn_ca (goodIn_ca (goodIn_ca (goodIn_ca (goodIn_ca (goodIn_ca (goodIn_ca (goodIn_ca (goodIn_ca (goodIn_ca (zin_zt [(6, 134), (6, 21), (1, 16), (5, 132), (5, 133), (1, 7), (6, 95), (6, 97), (0, 21), (5, 151), (5, 152), (6, 22), (3, 30), (1, 15), (1, 18), (6, 23), (4, 23), (4, 24), (6, 167), (3, 57), (6, 168), (6, 162), (6, 163), (1, 19), (1, 14), (1, 20), (3, 89), (1, 21), (3, 103), (1, 17), (1, 23), (6, 169), (6, 170), (6, 164), (1, 22), (6, 135), (6, 136), (6, 137), (6, 140), (3, 231), (3, 232), (6, 166), (1, 25), (6, 13), (6, 14), (5, 148), (5, 149), (6, 51), (3, 192), (3, 193), (3, 206), (3, 211)] rfl (by decide +kernel)) zg_X9_isIn) zg_X9_isNo) zg_X9_least) zg_J4_init_da8c8) zg_J4_append_15ec4) zg_J0_isEmpty_aae02) zg_J4_append_bf812) zg_X9_without) zg_X9_all) zg_J4_toString_0e30d
theorem zl_X9_powers : GoodIn lw_tbl (wsV RL 209 RX9 yX9_powers wsX9_powers) := goodIn_app (zin_zt (ws := [.methodLink RL 209 yX9_powers, .instanceMethod yX9_powers, .selects RX9 yX9_powers yX9_powers, .initialized RX9]) [(6, 131), (6, 132), (6, 133), (1, 7)] rfl (by decide +kernel)) zg_X9_powers
set_option maxRecDepth 20000 in
theorem zg_X7_house : GoodIn lw_tbl wsX7_house := goodIn_ca (goodIn_ca (zin_zt [(5, 95), (1, 109), (1, 110), (1, 111), (2, 95), (2, 96), (1, 1), (1, 13)] rfl (by decide +kernel)) (fun w h => ⟨zlaw_w_X7 w h, zqt_X70 w h⟩)) zg_X7_need
set_option maxRecDepth 20000 in
theorem zg_L_house : GoodIn lw_tbl wsL_house := goodIn_ca (goodIn_ca (zin_zt [(5, 91), (2, 18), (5, 92), (5, 93), (5, 94), (1, 1), (1, 13)] rfl (by decide +kernel)) (fun w h => ⟨zlaw_w_X8 w h, zqt_X80 w h⟩)) zg_X7_house
theorem zl_L_house : GoodIn lw_tbl (va_wsS RL 210 yL_house wsL_house) := goodIn_app (zin_zt (ws := [.methodLink RL 210 yL_house, .static yL_house, .initialized yL_house.cls]) [(5, 89), (5, 90), (1, 0)] rfl (by decide +kernel)) zg_L_house
set_option maxRecDepth 20000 in
theorem zg_X9_house : GoodIn lw_tbl wsX9_house := goodIn_ca (goodIn_ca (zin_zt [(6, 145), (5, 104), (5, 105), (5, 106), (5, 132), (5, 133), (1, 7), (6, 95), (6, 97), (0, 21)] rfl (by decide +kernel)) zg_X9_isIn) zg_X9_isNo
theorem zl_X9_house : GoodIn lw_tbl (wsV RL 212 RX9 yX9_house wsX9_house) := goodIn_app (zin_zt (ws := [.methodLink RL 212 yX9_house, .instanceMethod yX9_house, .selects RX9 yX9_house yX9_house, .initialized RX9]) [(6, 142), (6, 143), (6, 144), (1, 7)] rfl (by decide +kernel)) zg_X9_house
set_option maxRecDepth 20000 in
theorem zg_X7_knock : GoodIn lw_tbl wsX7_knock := goodIn_ca (zin_zt [(1, 134), (1, 111)] rfl (by decide +kernel)) (fun w h => ⟨zlaw_w_X7 w h, zqt_X70 w h⟩)
theorem zl_X7_knock : GoodIn lw_tbl (wsV RL 213 RX7 yX7_knock wsX7_knock) := goodIn_app (zin_zt (ws := [.methodLink RL 213 yX7_knock, .instanceMethod yX7_knock, .selects RX7 yX7_knock yX7_knock, .initialized RX7]) [(1, 131), (1, 132), (1, 133), (1, 1)] rfl (by decide +kernel)) zg_X7_knock
set_option maxRecDepth 20000 in
theorem zg_X9_knock : GoodIn lw_tbl wsX9_knock := goodIn_ca (zin_zt [(6, 149), (5, 107), (5, 106)] rfl (by decide +kernel)) (fun w h => ⟨zlaw_w_X9 w h, zqt_X90 w h⟩)
theorem zl_X9_knock : GoodIn lw_tbl (wsV RL 216 RX9 yX9_knock wsX9_knock) := goodIn_app (zin_zt (ws := [.methodLink RL 216 yX9_knock, .instanceMethod yX9_knock, .selects RX9 yX9_knock yX9_knock, .initialized RX9]) [(6, 146), (6, 147), (6, 148), (1, 7)] rfl (by decide +kernel)) zg_X9_knock
set_option maxRecDepth 20000 in
theorem zg_X7_isSound : GoodIn lw_tbl wsX7_isSound := goodIn_ca (goodIn_ca (goodIn_ca (goodIn_ca (goodIn_ca (goodIn_ca (goodIn_ca (zin_zt [(1, 138), (1, 103), (1, 108), (1, 104), (1, 105), (1, 139), (1, 140), (1, 141), (1, 6), (1, 3), (1, 2), (1, 163), (1, 164), (1, 165), (1, 4), (1, 5), (1, 196), (1, 197), (1, 198), (1, 200), (1, 201), (1, 202), (1, 204), (1, 205), (1, 206), (1, 215), (1, 216), (1, 217)] rfl (by decide +kernel)) (fun w h => ⟨zlaw_w_X7 w h, zqt_X70 w h⟩)) zg_X0_laySummed) zg_X0_laySigned) zg_X4_firstUnlike) zg_X0_layProduct) zg_X0_isByPrimes) zg_X0_layByPrimes
theorem zl_X7_isSound : GoodIn lw_tbl (wsV RL 217 RX7 yX7_isSound wsX7_isSound) := goodIn_app (zin_zt (ws := [.methodLink RL 217 yX7_isSound, .instanceMethod yX7_isSound, .selects RX7 yX7_isSound yX7_isSound, .initialized RX7]) [(1, 135), (1, 136), (1, 137), (1, 1)] rfl (by decide +kernel)) zg_X7_isSound
set_option maxRecDepth 20000 in
theorem zg_X9_isSound : GoodIn lw_tbl wsX9_isSound := goodIn_ca (zin_zt [(6, 153), (5, 107)] rfl (by decide +kernel)) (fun w h => ⟨zlaw_w_X9 w h, zqt_X90 w h⟩)
theorem zl_X9_isSound : GoodIn lw_tbl (wsV RL 221 RX9 yX9_isSound wsX9_isSound) := goodIn_app (zin_zt (ws := [.methodLink RL 221 yX9_isSound, .instanceMethod yX9_isSound, .selects RX9 yX9_isSound yX9_isSound, .initialized RX9]) [(6, 150), (6, 151), (6, 152), (1, 7)] rfl (by decide +kernel)) zg_X9_isSound
set_option maxRecDepth 20000 in
theorem zg_X7_digest : GoodIn lw_tbl wsX7_digest := goodIn_ca (goodIn_ca (zin_zt [(1, 236), (1, 237), (1, 238), (1, 109), (1, 110), (1, 111), (1, 239), (1, 148), (1, 149), (1, 2), (2, 0), (1, 136), (1, 137), (1, 1), (1, 6), (1, 3), (1, 147), (1, 4), (1, 5)] rfl (by decide +kernel)) zg_X4_at) zg_X7_isSound
theorem zl_X7_digest : GoodIn lw_tbl (wsV RL 222 RX7 yX7_digest wsX7_digest) := goodIn_app (zin_zt (ws := [.methodLink RL 222 yX7_digest, .instanceMethod yX7_digest, .selects RX7 yX7_digest yX7_digest, .initialized RX7]) [(1, 233), (1, 234), (1, 235), (1, 1)] rfl (by decide +kernel)) zg_X7_digest
set_option maxRecDepth 20000 in
theorem zg_X9_digest : GoodIn lw_tbl wsX9_digest := goodIn_ca (zin_zt [(6, 157), (5, 107), (6, 158), (6, 159), (5, 104), (5, 105), (5, 106), (5, 172), (5, 174), (0, 8), (1, 7)] rfl (by decide +kernel)) zg_X9_at
theorem zl_X9_digest : GoodIn lw_tbl (wsV RL 226 RX9 yX9_digest wsX9_digest) := goodIn_app (zin_zt (ws := [.methodLink RL 226 yX9_digest, .instanceMethod yX9_digest, .selects RX9 yX9_digest yX9_digest, .initialized RX9]) [(6, 154), (6, 155), (6, 156), (1, 7)] rfl (by decide +kernel)) zg_X9_digest
