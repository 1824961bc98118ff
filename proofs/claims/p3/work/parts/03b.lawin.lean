def zt (k : Nat) : List Cond := match k with
  | 0 => (k2_sels lw_privs ++ zs_priv.map (fun q => Cond.selects zs_SB q q))
  | 1 => tables_1_1
  | 2 => tables_1_2
  | 3 => tables_1_3
  | 4 => tables_1_4
  | 5 => tables_1_5
  | _ => tables_1_6
theorem zt_in : ∀ (k : Nat) (w : Cond), w ∈ zt k → w ∈ lw_tbl := by
  intro k w h
  match k, h with
  | 0, h => exact List.mem_append_left _ h
  | 1, h => exact List.mem_append_right _ (List.mem_append_left _ h)
  | 2, h => exact List.mem_append_right _ (List.mem_append_right _ (List.mem_append_left _ h))
  | 3, h => exact List.mem_append_right _ (List.mem_append_right _ (List.mem_append_right _ (List.mem_append_left _ h)))
  | 4, h => exact List.mem_append_right _ (List.mem_append_right _ (List.mem_append_right _ (List.mem_append_right _ (List.mem_append_left _ h))))
  | 5, h => exact List.mem_append_right _ (List.mem_append_right _ (List.mem_append_right _ (List.mem_append_right _ (List.mem_append_right _ (List.mem_append_left _ h)))))
  | k + 6, h => exact List.mem_append_right _ (List.mem_append_right _ (List.mem_append_right _ (List.mem_append_right _ (List.mem_append_right _ (List.mem_append_right _ (h))))))
theorem zin_ztp {ws : List Cond} (ps : List (Nat × Nat)) (h : ws = ps.filterMap (fun q => (zt q.1)[q.2]?)) : ∀ w ∈ ws, w ∈ lw_tbl := by
  intro w hw
  rw [h] at hw
  obtain ⟨q, -, hi⟩ := List.mem_filterMap.mp hw
  exact zt_in _ _ (List.mem_of_getElem? hi)
set_option maxRecDepth 20000 in
theorem zlaw_in_1 : ∀ w ∈ wsL_law0_r1, w ∈ lw_tbl := zin_ztp [(1, 30), (1, 31), (1, 1), (5, 96), (5, 97), (1, 7), (2, 1), (2, 2), (1, 8), (1, 32), (1, 33), (1, 34), (1, 35), (1, 36), (1, 37), (1, 38), (1, 103), (1, 40), (1, 2), (1, 104), (1, 105), (1, 50), (1, 51), (1, 3)] rfl
set_option maxRecDepth 20000 in
theorem zlaw_in_2 : ∀ w ∈ wsL_law0_r2, w ∈ lw_tbl := zin_ztp [(1, 106), (1, 60), (1, 61), (1, 4), (1, 107), (1, 90), (1, 91), (1, 6), (1, 108), (1, 42), (1, 43), (1, 44), (1, 49), (1, 45), (1, 53), (1, 54), (1, 55), (1, 63), (1, 64), (1, 65), (1, 66), (1, 67), (1, 5), (1, 83)] rfl
set_option maxRecDepth 20000 in
theorem zlaw_in_3 : ∀ w ∈ wsL_law0_r3, w ∈ lw_tbl := zin_ztp [(1, 82), (1, 84), (1, 69), (1, 70), (1, 71), (1, 72), (1, 73), (1, 92), (1, 93), (1, 94), (1, 95), (1, 96), (1, 97), (5, 98), (5, 99), (5, 100), (5, 101), (5, 102), (2, 4), (2, 5), (2, 6), (2, 14), (2, 15), (1, 0)] rfl
set_option maxRecDepth 20000 in
theorem zlaw_in_4 : ∀ w ∈ wsL_law0_r4, w ∈ lw_tbl := zin_ztp [(2, 16), (2, 17), (2, 18), (2, 19), (2, 20), (2, 21), (2, 22), (2, 23), (2, 25), (0, 0), (2, 26), (2, 27), (1, 12), (2, 95), (2, 96), (2, 97), (2, 98), (1, 13), (2, 114), (2, 115), (2, 116), (2, 117), (2, 118), (1, 172)] rfl
set_option maxRecDepth 20000 in
theorem zlaw_in_5 : ∀ w ∈ wsL_law0_r5, w ∈ lw_tbl := zin_ztp [(1, 173), (1, 174), (1, 175), (1, 176), (1, 177), (1, 178), (1, 74), (1, 179), (1, 180), (1, 181), (1, 182), (1, 183), (1, 184), (1, 185), (1, 186), (2, 119), (2, 120), (2, 121), (2, 122), (2, 123), (1, 230), (1, 231), (1, 232), (2, 124)] rfl
set_option maxRecDepth 20000 in
theorem zlaw_in_6 : ∀ w ∈ wsL_law0_r6, w ∈ lw_tbl := zin_ztp [(2, 125), (2, 126), (2, 127), (2, 128), (2, 129), (2, 130), (2, 131), (2, 132), (2, 133), (2, 134), (2, 135), (2, 136), (2, 137), (2, 138), (2, 139), (2, 140), (1, 156), (1, 157), (1, 158), (2, 141), (2, 143), (0, 2), (2, 144), (1, 109)] rfl
set_option maxRecDepth 20000 in
theorem zlaw_in_7 : ∀ w ∈ wsL_law0_r7, w ∈ lw_tbl := zin_ztp [(2, 145), (2, 146), (2, 147), (2, 148), (2, 149), (2, 150), (2, 151), (2, 152), (5, 125), (5, 126), (5, 127), (5, 128), (5, 129), (5, 130), (5, 131), (5, 132), (5, 133), (5, 134), (5, 135), (5, 137), (0, 6), (5, 138), (5, 107), (5, 139)] rfl
set_option maxRecDepth 20000 in
theorem zlaw_in_8 : ∀ w ∈ wsL_law0_r8, w ∈ lw_tbl := zin_ztp [(5, 140), (5, 141), (5, 167), (5, 142), (5, 143), (5, 144), (5, 145), (5, 146), (5, 147), (5, 148), (5, 149), (5, 150), (5, 151), (5, 152), (5, 153), (5, 154), (5, 155), (5, 156), (5, 157), (5, 158), (5, 159), (5, 160), (3, 96), (1, 14)] rfl
set_option maxRecDepth 20000 in
theorem zlaw_in_9 : ∀ w ∈ wsL_law0_r9, w ∈ lw_tbl := zin_ztp [(3, 97), (5, 161), (5, 162), (5, 163), (5, 164), (5, 165), (5, 166), (5, 168), (5, 170), (0, 7), (5, 171), (5, 104), (5, 172), (5, 174), (0, 8), (5, 175), (2, 153), (2, 154), (2, 155), (2, 156), (2, 157), (2, 158), (2, 159), (2, 160)] rfl
set_option maxRecDepth 20000 in
theorem zlaw_in_10 : ∀ w ∈ wsL_law0_r10, w ∈ lw_tbl := zin_ztp [(2, 162), (0, 3), (2, 163), (1, 239), (1, 148), (1, 149), (1, 150), (5, 176), (5, 177), (5, 178), (5, 179), (5, 180), (5, 182), (0, 9), (5, 183), (5, 121), (5, 122), (5, 123), (5, 124), (2, 164), (2, 165), (2, 166), (2, 167), (2, 168)] rfl
set_option maxRecDepth 20000 in
theorem zlaw_in_11 : ∀ w ∈ wsL_law0_r11, w ∈ lw_tbl := zin_ztp [(2, 169), (2, 170), (2, 171), (5, 184), (5, 185), (5, 186), (5, 187), (5, 188), (5, 189), (2, 172), (2, 173), (2, 174), (2, 175), (2, 176), (2, 177), (2, 178), (2, 179), (2, 180), (5, 190), (5, 191), (5, 192), (5, 193), (5, 194), (5, 195)] rfl
set_option maxRecDepth 20000 in
theorem zlaw_in_12 : ∀ w ∈ wsL_law0_r12, w ∈ lw_tbl := zin_ztp [(2, 181), (2, 182), (2, 183), (2, 184), (2, 185), (2, 186), (2, 187), (5, 196), (5, 197), (5, 198), (5, 199), (5, 200), (5, 202), (0, 10), (5, 203), (2, 188), (2, 189), (2, 190), (2, 191), (2, 192), (2, 193), (2, 194), (2, 195), (2, 196)] rfl
set_option maxRecDepth 20000 in
theorem zlaw_in_13 : ∀ w ∈ wsL_law0_r13, w ∈ lw_tbl := zin_ztp [(2, 197), (2, 198), (2, 199), (5, 204), (5, 205), (5, 206), (5, 207), (2, 200), (2, 201), (2, 202), (2, 203), (2, 204), (2, 205), (2, 206), (2, 207), (2, 208), (2, 209), (2, 210), (1, 143), (1, 144), (1, 145), (1, 146), (1, 56), (1, 147)] rfl
set_option maxRecDepth 20000 in
theorem zlaw_in_14 : ∀ w ∈ wsL_law0_r14, w ∈ lw_tbl := zin_ztp [(1, 151), (1, 152), (1, 153), (1, 154), (1, 155), (2, 211), (2, 212), (2, 213), (2, 214), (1, 187), (1, 188), (1, 189), (1, 190), (1, 191), (1, 192), (1, 193), (1, 194), (1, 195), (1, 159), (1, 160), (1, 161), (1, 162), (2, 215), (2, 217)] rfl
set_option maxRecDepth 20000 in
theorem zlaw_in_15 : ∀ w ∈ wsL_law0_r15, w ∈ lw_tbl := zin_ztp [(0, 4), (2, 218), (1, 110), (5, 208), (5, 209), (5, 210), (5, 211), (5, 103), (5, 212), (5, 214), (0, 11), (5, 215), (5, 216), (5, 218), (0, 12), (5, 219), (5, 220), (5, 221), (5, 223), (0, 13), (5, 224), (5, 105), (2, 219), (2, 220)] rfl
set_option maxRecDepth 20000 in
theorem zlaw_in_16 : ∀ w ∈ wsL_law0_r16, w ∈ lw_tbl := zin_ztp [(2, 221), (2, 222), (2, 223), (2, 224), (2, 225), (1, 200), (1, 201), (1, 202), (1, 203), (5, 225), (5, 226), (5, 227), (5, 228), (5, 229), (5, 231), (0, 14), (5, 232), (2, 226), (2, 227), (2, 228), (2, 229), (2, 230), (2, 231), (2, 232)] rfl
set_option maxRecDepth 20000 in
theorem zlaw_in_17 : ∀ w ∈ wsL_law0_r17, w ∈ lw_tbl := zin_ztp [(2, 233), (2, 234), (2, 235), (2, 236), (2, 237), (2, 238), (2, 239), (3, 0), (3, 1), (3, 2), (3, 3), (3, 4), (3, 5), (3, 6), (1, 140), (1, 141), (1, 142), (3, 7), (1, 164), (1, 165), (1, 166), (1, 167), (1, 168), (1, 169)] rfl
set_option maxRecDepth 20000 in
theorem zlaw_in_18 : ∀ w ∈ wsL_law0_r18, w ∈ lw_tbl := zin_ztp [(1, 170), (1, 171), (3, 8), (1, 216), (1, 217), (1, 218), (1, 219), (1, 220), (1, 221), (1, 222), (1, 223), (1, 224), (1, 225), (1, 226), (1, 227), (1, 228), (1, 229), (3, 9), (3, 10), (3, 11), (3, 12), (3, 13), (3, 14), (3, 15)] rfl
set_option maxRecDepth 20000 in
theorem zlaw_in_19 : ∀ w ∈ wsL_law0_r19, w ∈ lw_tbl := zin_ztp [(3, 16), (5, 233), (5, 234), (5, 235), (5, 236), (5, 237), (5, 239), (0, 15), (6, 0), (6, 1), (6, 3), (0, 16), (6, 4), (6, 5), (6, 7), (0, 17), (6, 8), (6, 9), (6, 11), (0, 18), (6, 12), (6, 13), (6, 14), (6, 15)] rfl
set_option maxRecDepth 20000 in
theorem zlaw_in_20 : ∀ w ∈ wsL_law0_r20, w ∈ lw_tbl := zin_ztp [(3, 17), (3, 18), (3, 19), (3, 20), (3, 21), (3, 22), (3, 23), (3, 24), (3, 25), (3, 26), (3, 27), (3, 28), (1, 16), (3, 58), (3, 29), (3, 30), (3, 31), (3, 32), (3, 33), (1, 15), (3, 34), (3, 35), (3, 36), (2, 94)] rfl
set_option maxRecDepth 20000 in
theorem zlaw_in_21 : ∀ w ∈ wsL_law0_r21, w ∈ lw_tbl := zin_ztp [(3, 45), (3, 46), (3, 38), (3, 39), (1, 18), (3, 40), (3, 41), (3, 42), (3, 43), (3, 44), (3, 59), (3, 60), (3, 61), (3, 62), (3, 63), (6, 161), (3, 57), (3, 64), (3, 65), (3, 48), (3, 66), (6, 162), (0, 22), (3, 68)] rfl
set_option maxRecDepth 20000 in
theorem zlaw_in_22 : ∀ w ∈ wsL_law0_r22, w ∈ lw_tbl := zin_ztp [(3, 69), (3, 70), (6, 163), (0, 23), (3, 72), (3, 73), (3, 84), (3, 74), (3, 75), (1, 19), (3, 76), (3, 77), (3, 78), (3, 79), (3, 80), (3, 81), (3, 82), (3, 83), (3, 85), (3, 86), (1, 20), (3, 87), (3, 88), (3, 89)] rfl
set_option maxRecDepth 20000 in
theorem zlaw_in_23 : ∀ w ∈ wsL_law0_r23, w ∈ lw_tbl := zin_ztp [(3, 90), (3, 91), (3, 92), (3, 94), (3, 95), (3, 98), (3, 100), (3, 99), (1, 21), (3, 101), (3, 103), (3, 104), (3, 102), (3, 105), (3, 106), (3, 107), (1, 22), (3, 108), (3, 109), (6, 164), (0, 24), (3, 111), (3, 112), (3, 113)] rfl
set_option maxRecDepth 20000 in
theorem zlaw_in_24 : ∀ w ∈ wsL_law0_r24, w ∈ lw_tbl := zin_ztp [(3, 114), (3, 115), (3, 116), (3, 117), (3, 118), (3, 119), (3, 120), (3, 121), (3, 122), (3, 123), (3, 124), (3, 125), (3, 126), (1, 17), (3, 127), (3, 128), (3, 130), (3, 131), (1, 23), (3, 132), (3, 133), (3, 134), (3, 135), (3, 136)] rfl
set_option maxRecDepth 20000 in
theorem zlaw_in_25 : ∀ w ∈ wsL_law0_r25, w ∈ lw_tbl := zin_ztp [(3, 138), (3, 140), (3, 142), (3, 143), (3, 144), (3, 145), (3, 146), (3, 147), (3, 148), (3, 149), (3, 150), (3, 151), (3, 152), (3, 153), (3, 154), (3, 155), (3, 156), (3, 157), (3, 158), (6, 165), (3, 159), (3, 160), (3, 161), (3, 162)] rfl
set_option maxRecDepth 20000 in
theorem zlaw_in_26 : ∀ w ∈ wsL_law0_r26, w ∈ lw_tbl := zin_ztp [(3, 163), (3, 164), (3, 165), (3, 166), (3, 167), (3, 168), (3, 169), (3, 170), (3, 171), (3, 172), (3, 173), (3, 174), (3, 175), (3, 176), (3, 177), (1, 24), (3, 178), (3, 179), (3, 180), (3, 181), (3, 182), (3, 183), (3, 184), (3, 185)] rfl
set_option maxRecDepth 20000 in
theorem zlaw_in_27 : ∀ w ∈ wsL_law0_r27, w ∈ lw_tbl := zin_ztp [(3, 186), (3, 187), (3, 188), (3, 189), (3, 190), (3, 191), (3, 192), (3, 193), (3, 194), (3, 195), (3, 196), (3, 197), (3, 198), (3, 199), (3, 200), (3, 201), (3, 202), (3, 203), (4, 73), (4, 72), (4, 44), (3, 47), (3, 204), (3, 206)] rfl
set_option maxRecDepth 20000 in
theorem zlaw_in_28 : ∀ w ∈ wsL_law0_r28, w ∈ lw_tbl := zin_ztp [(3, 207), (3, 205), (3, 208), (3, 209), (3, 211), (3, 210), (3, 212), (3, 213), (3, 214), (3, 215), (3, 210), (3, 216), (3, 217), (3, 218), (3, 219), (3, 220), (3, 221), (3, 222), (3, 223), (3, 224), (3, 225), (3, 226), (3, 228), (4, 62)] rfl
set_option maxRecDepth 20000 in
theorem zlaw_in_29 : ∀ w ∈ wsL_law0_r29, w ∈ lw_tbl := zin_ztp [(4, 63), (4, 64), (4, 65), (4, 66), (4, 67), (4, 68), (4, 69), (4, 70), (4, 71), (6, 16), (6, 17), (6, 18), (6, 19), (6, 21), (6, 22), (6, 23), (4, 23), (4, 24), (4, 25), (4, 26), (6, 167), (4, 27), (4, 28), (4, 29)] rfl
set_option maxRecDepth 20000 in
theorem zlaw_in_30 : ∀ w ∈ wsL_law0_r30, w ∈ lw_tbl := zin_ztp [(6, 168), (0, 25), (4, 31), (4, 32), (4, 33), (4, 34), (4, 35), (4, 10), (4, 11), (4, 12), (4, 13), (4, 14), (4, 15), (4, 36), (4, 37), (4, 38), (4, 39), (4, 40), (4, 41), (4, 42), (4, 43), (4, 45), (6, 169), (0, 26)] rfl
set_option maxRecDepth 20000 in
theorem zlaw_in_31 : ∀ w ∈ wsL_law0_r31, w ∈ lw_tbl := zin_ztp [(4, 47), (4, 48), (4, 49), (6, 170), (0, 27), (4, 51), (4, 52), (4, 53), (4, 54), (4, 55), (4, 56), (4, 57), (4, 58), (4, 59), (6, 24), (6, 25), (6, 26), (6, 27), (6, 28), (6, 171), (6, 29), (6, 30), (6, 31), (6, 32)] rfl
set_option maxRecDepth 20000 in
theorem zlaw_in_32 : ∀ w ∈ wsL_law0_r32, w ∈ lw_tbl := zin_ztp [(1, 26), (6, 33), (6, 34), (6, 35), (6, 36), (6, 37), (6, 38), (6, 39), (6, 40), (6, 41), (6, 42), (6, 43), (6, 44), (6, 45), (6, 46), (6, 47), (6, 48), (6, 49), (6, 50), (4, 19), (4, 20), (6, 51), (4, 83), (4, 84)] rfl
set_option maxRecDepth 20000 in
theorem zlaw_in_33 : ∀ w ∈ wsL_law0_r33, w ∈ lw_tbl := zin_ztp [(4, 85), (4, 86), (4, 87), (4, 88), (4, 89), (6, 52), (6, 53), (6, 54), (6, 55), (4, 90), (4, 91), (4, 92), (4, 93), (4, 94), (4, 95), (4, 96), (1, 196), (1, 197), (1, 198), (1, 199), (6, 56), (6, 57), (6, 58), (6, 59)] rfl
set_option maxRecDepth 20000 in
theorem zlaw_in_34 : ∀ w ∈ wsL_law0_r34, w ∈ lw_tbl := zin_ztp [(4, 97), (4, 98), (4, 99), (4, 100), (4, 101), (4, 102), (4, 103), (1, 204), (1, 205), (1, 206), (1, 207), (1, 208), (1, 209), (1, 210), (1, 211), (1, 212), (1, 213), (1, 214), (4, 104), (4, 105), (6, 60), (6, 61), (6, 62), (6, 63)] rfl
set_option maxRecDepth 20000 in
theorem zlaw_in_35 : ∀ w ∈ wsL_law0_r35, w ∈ lw_tbl := zin_ztp [(6, 64), (6, 66), (0, 19), (6, 67), (4, 106), (4, 107), (4, 108), (4, 109), (4, 110), (4, 111), (4, 112), (4, 113), (4, 117), (1, 27), (4, 114), (4, 115), (4, 116), (6, 68), (6, 69), (6, 70), (6, 71), (6, 72), (6, 74), (0, 20)] rfl
set_option maxRecDepth 20000 in
theorem zlaw_in_36 : ∀ w ∈ wsL_law0_r36, w ∈ lw_tbl := zin_ztp [(6, 75), (4, 133), (4, 134), (4, 135), (4, 136), (4, 137), (4, 138), (4, 139), (4, 140), (4, 141), (4, 142), (4, 143), (4, 144), (4, 145), (4, 146), (4, 147), (4, 148), (4, 150), (4, 151), (1, 28), (4, 152), (4, 153), (4, 154), (4, 155)] rfl
set_option maxRecDepth 20000 in
theorem zlaw_in_37 : ∀ w ∈ wsL_law0_r37, w ∈ lw_tbl := zin_ztp [(4, 156), (4, 157), (4, 158), (4, 159), (4, 160), (4, 161), (4, 162), (4, 163), (4, 164), (4, 165), (4, 166), (6, 76), (6, 77), (6, 78), (6, 79), (6, 80), (6, 81), (6, 82), (6, 83), (4, 167), (4, 168), (4, 169), (4, 170), (4, 171)] rfl
set_option maxRecDepth 20000 in
theorem zlaw_in_38 : ∀ w ∈ wsL_law0_r38, w ∈ lw_tbl := zin_ztp [(4, 172), (4, 173), (4, 175), (1, 29), (4, 176), (4, 177), (4, 178), (4, 179), (4, 180), (4, 181), (1, 25), (4, 182), (4, 183), (4, 184), (4, 185), (4, 186), (6, 84), (6, 85), (6, 86), (6, 87), (6, 88), (6, 89), (6, 90), (4, 187)] rfl
set_option maxRecDepth 20000 in
theorem zlaw_in_39 : ∀ w ∈ wsL_law0_r39, w ∈ lw_tbl := zin_ztp [(4, 188), (4, 189), (4, 190), (4, 191), (4, 192), (4, 193), (4, 194), (4, 195), (4, 196), (4, 197), (4, 198), (4, 199), (4, 200), (4, 201), (4, 202), (6, 91), (6, 92), (6, 93), (6, 94), (6, 95), (6, 97), (0, 21), (6, 98), (4, 203)] rfl
set_option maxRecDepth 20000 in
theorem zlaw_in_40 : ∀ w ∈ wsL_law0_r40, w ∈ lw_tbl := zin_ztp [(4, 204), (4, 205), (4, 206), (4, 207), (4, 208), (4, 209), (4, 210), (4, 211), (4, 212), (4, 213), (4, 214), (6, 99), (6, 100), (6, 101), (6, 102), (4, 215), (4, 216), (4, 217), (4, 218), (4, 219), (4, 220), (4, 221), (4, 222), (4, 223)] rfl
set_option maxRecDepth 20000 in
theorem zlaw_in_41 : ∀ w ∈ wsL_law0_r41, w ∈ lw_tbl := zin_ztp [(4, 224), (4, 225), (4, 226), (4, 227), (4, 228), (4, 229), (4, 230), (4, 231), (6, 103), (6, 104), (6, 105), (6, 106), (4, 232), (4, 233), (4, 234), (4, 235), (4, 236), (4, 237), (4, 238), (4, 239), (5, 0), (5, 1), (5, 2), (5, 3)] rfl
set_option maxRecDepth 20000 in
theorem zlaw_in_42 : ∀ w ∈ wsL_law0_r42, w ∈ lw_tbl := zin_ztp [(5, 4), (5, 6), (0, 5), (5, 7), (6, 107), (6, 108), (6, 109), (6, 110), (5, 8), (5, 9), (5, 10), (5, 11), (5, 12), (5, 13), (5, 14), (5, 15), (5, 16), (5, 17), (5, 18), (5, 19), (6, 111), (6, 112), (6, 113), (6, 114)] rfl
set_option maxRecDepth 20000 in
theorem zlaw_in_43 : ∀ w ∈ wsL_law0_r43, w ∈ lw_tbl := zin_ztp [(5, 20), (5, 21), (5, 22), (5, 23), (5, 24), (5, 25), (5, 26), (5, 27), (5, 28), (5, 29), (5, 30), (5, 31), (5, 32), (5, 33), (5, 34), (6, 115), (6, 116), (6, 117), (6, 118), (5, 35), (5, 36), (5, 37), (5, 38), (5, 39)] rfl
set_option maxRecDepth 20000 in
theorem zlaw_in_44 : ∀ w ∈ wsL_law0_r44, w ∈ lw_tbl := zin_ztp [(5, 40), (5, 41), (5, 42), (5, 43), (5, 44), (5, 45), (5, 46), (5, 47), (5, 48), (5, 49), (5, 50), (5, 51), (5, 52), (5, 53), (6, 119), (6, 120), (6, 121), (6, 122), (5, 54), (5, 55), (5, 56), (5, 57), (5, 58), (5, 59)] rfl
set_option maxRecDepth 20000 in
theorem zlaw_in_45 : ∀ w ∈ wsL_law0_r45, w ∈ lw_tbl := zin_ztp [(5, 60), (5, 61), (5, 62), (5, 63), (5, 64), (6, 123), (6, 124), (6, 125), (6, 126), (5, 65), (5, 66), (5, 67), (5, 68), (5, 69), (5, 70), (5, 71), (6, 127), (6, 128), (6, 129), (6, 130), (5, 73), (5, 74), (5, 75), (5, 76)] rfl
set_option maxRecDepth 20000 in
theorem zlaw_in_46 : ∀ w ∈ wsL_law0_r46, w ∈ lw_tbl := zin_ztp [(5, 77), (5, 78), (5, 79), (5, 80), (5, 81), (5, 82), (5, 83), (5, 84), (5, 85), (5, 86), (5, 87), (3, 231), (3, 232), (3, 233), (3, 234), (6, 166), (3, 235), (3, 236), (3, 237), (3, 238), (3, 239), (4, 0), (4, 1), (4, 2)] rfl
set_option maxRecDepth 20000 in
theorem zlaw_in_47 : ∀ w ∈ wsL_law0_r47, w ∈ lw_tbl := zin_ztp [(4, 3), (4, 5), (4, 7), (4, 8), (4, 9), (4, 16), (4, 17), (4, 18), (5, 88), (6, 131), (6, 132), (6, 133), (6, 134), (6, 135), (6, 136), (6, 137), (6, 138), (6, 140), (5, 89), (5, 90), (5, 91), (5, 92), (5, 93), (5, 94)] rfl
set_option maxRecDepth 20000 in
theorem zlaw_in_48 : ∀ w ∈ wsL_law0_r48, w ∈ lw_tbl := zin_ztp [(5, 95), (1, 111), (6, 142), (6, 143), (6, 144), (6, 145), (5, 106), (1, 131), (1, 132), (1, 133), (1, 134), (6, 146), (6, 147), (6, 148), (6, 149), (1, 135), (1, 136), (1, 137), (1, 138), (1, 139), (1, 163), (1, 215), (6, 150), (6, 151)] rfl
set_option maxRecDepth 20000 in
theorem zlaw_in_49 : ∀ w ∈ wsL_law0_r49, w ∈ lw_tbl := zin_ztp [(6, 152), (6, 153), (1, 233), (1, 234), (1, 235), (1, 236), (1, 237), (1, 238), (2, 0), (6, 154), (6, 155), (6, 156), (6, 157), (6, 158), (6, 159)] rfl
theorem zapp {a b big : List Cond} (ha : ∀ w ∈ a, w ∈ big) (hb : ∀ w ∈ b, w ∈ big) : ∀ w ∈ a ++ b, w ∈ big := fun w h => (List.mem_append.mp h).elim (ha w) (hb w)
theorem zlaw_w_X7 : ∀ w ∈ wsX70, w ∈ lw_tbl := by decide +kernel
theorem zlaw_w_X9 : ∀ w ∈ wsX90, w ∈ lw_tbl := by decide +kernel
theorem zlaw_w_X8 : ∀ w ∈ wsX80, w ∈ lw_tbl := by decide +kernel
theorem zlaw_w_X4 : ∀ w ∈ wsX40, w ∈ lw_tbl := by decide +kernel
theorem zlaw_w_X3 : ∀ w ∈ wsX30, w ∈ lw_tbl := by decide +kernel
theorem zlaw_w_X1 : ∀ w ∈ wsX10, w ∈ lw_tbl := by decide +kernel
theorem zlaw_w_X0 : ∀ w ∈ wsX00, w ∈ lw_tbl := by decide +kernel
theorem zlaw_w_X2 : ∀ w ∈ wsX20, w ∈ lw_tbl := by decide +kernel
theorem zlaw_w_J4 : ∀ w ∈ wsJ40, w ∈ lw_tbl := by decide +kernel
theorem zlaw_w_J0 : ∀ w ∈ wsJ00, w ∈ lw_tbl := by decide +kernel
set_option maxRecDepth 20000 in
theorem wsL_law_in0 : ∀ w ∈ wsL_law0, w ∈ lw_tbl := zapp (zapp (zapp (zapp (zapp (zapp (zapp (zapp (zapp (zapp (zapp (zapp zlaw_in_1 (zapp zlaw_in_2 (zapp zlaw_in_3 (zapp zlaw_in_4 (zapp zlaw_in_5 (zapp zlaw_in_6 (zapp zlaw_in_7 (zapp zlaw_in_8 (zapp zlaw_in_9 (zapp zlaw_in_10 (zapp zlaw_in_11 (zapp zlaw_in_12 (zapp zlaw_in_13 (zapp zlaw_in_14 (zapp zlaw_in_15 (zapp zlaw_in_16 (zapp zlaw_in_17 (zapp zlaw_in_18 (zapp zlaw_in_19 (zapp zlaw_in_20 (zapp zlaw_in_21 (zapp zlaw_in_22 (zapp zlaw_in_23 (zapp zlaw_in_24 (zapp zlaw_in_25 (zapp zlaw_in_26 (zapp zlaw_in_27 (zapp zlaw_in_28 (zapp zlaw_in_29 (zapp zlaw_in_30 (zapp zlaw_in_31 (zapp zlaw_in_32 (zapp zlaw_in_33 (zapp zlaw_in_34 (zapp zlaw_in_35 (zapp zlaw_in_36 (zapp zlaw_in_37 (zapp zlaw_in_38 (zapp zlaw_in_39 (zapp zlaw_in_40 (zapp zlaw_in_41 (zapp zlaw_in_42 (zapp zlaw_in_43 (zapp zlaw_in_44 (zapp zlaw_in_45 (zapp zlaw_in_46 (zapp zlaw_in_47 (zapp zlaw_in_48 (zlaw_in_49))))))))))))))))))))))))))))))))))))))))))))))))) zlaw_w_X7) zlaw_w_X9) zlaw_w_X8) zlaw_w_X4) zlaw_w_X3) zlaw_w_X1) zlaw_w_X0) zlaw_w_X2) zlaw_w_J4) zlaw_w_J0) (fun _ h => absurd h List.not_mem_nil)
theorem wsL_law_x0 : ∀ w ∈ (vx_atS RX7 266 "java/lang/IndexOutOfBoundsException" ["java/lang/RuntimeException", "java/lang/Exception"]).filter goodWord, w ∈ lw_tbl := by decide +kernel
theorem wsL_law_x1 : ∀ w ∈ (vx_atS RX7 235 "java/lang/IllegalArgumentException" ["java/lang/RuntimeException", "java/lang/Exception"]).filter goodWord, w ∈ lw_tbl := by decide +kernel
theorem wsL_law_x2 : ∀ w ∈ (vx_atS RX7 142 "java/lang/IllegalStateException" ["java/lang/RuntimeException", "java/lang/Exception"]).filter goodWord, w ∈ lw_tbl := by decide +kernel
theorem wsL_law_in : ∀ w ∈ wsL_law, w ∈ lw_tbl := fun w h => (List.mem_append.mp h).elim (fun h => (List.mem_append.mp h).elim (fun h => (List.mem_append.mp h).elim (fun h => wsL_law_in0 w h) (fun h => wsL_law_x0 w h)) (fun h => wsL_law_x1 w h)) (fun h => wsL_law_x2 w h)
theorem inlX0 : ∀ w ∈ wsX00, w ∈ wsL_law := fun _ h => List.mem_append_left _ (List.mem_append_left _ (List.mem_append_left _ (List.mem_append_left _ (List.mem_append_left _ (List.mem_append_left _ (List.mem_append_left _ (List.mem_append_right _ h)))))))
theorem inX0 : ∀ w ∈ wsX00, w ∈ lw_tbl := fun w h => wsL_law_in w (inlX0 w h)
theorem inlX1 : ∀ w ∈ wsX10, w ∈ wsL_law := fun _ h => List.mem_append_left _ (List.mem_append_left _ (List.mem_append_left _ (List.mem_append_left _ (List.mem_append_left _ (List.mem_append_left _ (List.mem_append_left _ (List.mem_append_left _ (List.mem_append_right _ h))))))))
theorem inX1 : ∀ w ∈ wsX10, w ∈ lw_tbl := fun w h => wsL_law_in w (inlX1 w h)
theorem inlX2 : ∀ w ∈ wsX20, w ∈ wsL_law := fun _ h => List.mem_append_left _ (List.mem_append_left _ (List.mem_append_left _ (List.mem_append_left _ (List.mem_append_left _ (List.mem_append_left _ (List.mem_append_right _ h))))))
theorem inX2 : ∀ w ∈ wsX20, w ∈ lw_tbl := fun w h => wsL_law_in w (inlX2 w h)
theorem inlX3 : ∀ w ∈ wsX30, w ∈ wsL_law := fun _ h => List.mem_append_left _ (List.mem_append_left _ (List.mem_append_left _ (List.mem_append_left _ (List.mem_append_left _ (List.mem_append_left _ (List.mem_append_left _ (List.mem_append_left _ (List.mem_append_left _ (List.mem_append_right _ h)))))))))
theorem inX3 : ∀ w ∈ wsX30, w ∈ lw_tbl := fun w h => wsL_law_in w (inlX3 w h)
theorem inlX4 : ∀ w ∈ wsX40, w ∈ wsL_law := fun _ h => List.mem_append_left _ (List.mem_append_left _ (List.mem_append_left _ (List.mem_append_left _ (List.mem_append_left _ (List.mem_append_left _ (List.mem_append_left _ (List.mem_append_left _ (List.mem_append_left _ (List.mem_append_left _ (List.mem_append_right _ h))))))))))
theorem inX4 : ∀ w ∈ wsX40, w ∈ lw_tbl := fun w h => wsL_law_in w (inlX4 w h)
theorem inX5 : ∀ w ∈ wsX50, w ∈ lw_tbl := by decide +kernel
theorem inX6 : ∀ w ∈ wsX60, w ∈ lw_tbl := by decide +kernel
theorem inlX7 : ∀ w ∈ wsX70, w ∈ wsL_law := fun _ h => List.mem_append_left _ (List.mem_append_left _ (List.mem_append_left _ (List.mem_append_left _ (List.mem_append_left _ (List.mem_append_left _ (List.mem_append_left _ (List.mem_append_left _ (List.mem_append_left _ (List.mem_append_left _ (List.mem_append_left _ (List.mem_append_left _ (List.mem_append_left _ (List.mem_append_right _ h)))))))))))))
theorem inX7 : ∀ w ∈ wsX70, w ∈ lw_tbl := fun w h => wsL_law_in w (inlX7 w h)
theorem inlX8 : ∀ w ∈ wsX80, w ∈ wsL_law := fun _ h => List.mem_append_left _ (List.mem_append_left _ (List.mem_append_left _ (List.mem_append_left _ (List.mem_append_left _ (List.mem_append_left _ (List.mem_append_left _ (List.mem_append_left _ (List.mem_append_left _ (List.mem_append_left _ (List.mem_append_left _ (List.mem_append_right _ h)))))))))))
theorem inX8 : ∀ w ∈ wsX80, w ∈ lw_tbl := fun w h => wsL_law_in w (inlX8 w h)
theorem inlX9 : ∀ w ∈ wsX90, w ∈ wsL_law := fun _ h => List.mem_append_left _ (List.mem_append_left _ (List.mem_append_left _ (List.mem_append_left _ (List.mem_append_left _ (List.mem_append_left _ (List.mem_append_left _ (List.mem_append_left _ (List.mem_append_left _ (List.mem_append_left _ (List.mem_append_left _ (List.mem_append_left _ (List.mem_append_right _ h))))))))))))
theorem inX9 : ∀ w ∈ wsX90, w ∈ lw_tbl := fun w h => wsL_law_in w (inlX9 w h)
theorem inJ5 : ∀ w ∈ wsJ50, w ∈ lw_tbl := by decide +kernel
theorem inJ11 : ∀ w ∈ wsJ110, w ∈ lw_tbl := by decide +kernel
theorem inJx8e188 : ∀ w ∈ wsJx8e1880, w ∈ lw_tbl := by decide +kernel
theorem inJ6 : ∀ w ∈ wsJ60, w ∈ lw_tbl := by decide +kernel
theorem inJ13 : ∀ w ∈ wsJ130, w ∈ lw_tbl := by decide +kernel
theorem inJ9 : ∀ w ∈ wsJ90, w ∈ lw_tbl := by decide +kernel
theorem inlJ0 : ∀ w ∈ wsJ00, w ∈ wsL_law := fun _ h => List.mem_append_left _ (List.mem_append_left _ (List.mem_append_left _ (List.mem_append_left _ (List.mem_append_right _ h))))
theorem inJ0 : ∀ w ∈ wsJ00, w ∈ lw_tbl := fun w h => wsL_law_in w (inlJ0 w h)
theorem inlJ4 : ∀ w ∈ wsJ40, w ∈ wsL_law := fun _ h => List.mem_append_left _ (List.mem_append_left _ (List.mem_append_left _ (List.mem_append_left _ (List.mem_append_left _ (List.mem_append_right _ h)))))
theorem inJ4 : ∀ w ∈ wsJ40, w ∈ lw_tbl := fun w h => wsL_law_in w (inlJ4 w h)
theorem inJ1 : ∀ w ∈ wsJ10, w ∈ lw_tbl := by decide +kernel
theorem inJ2 : ∀ w ∈ wsJ20, w ∈ lw_tbl := by decide +kernel
theorem inJ10 : ∀ w ∈ wsJ100, w ∈ lw_tbl := by decide +kernel
theorem inJ7 : ∀ w ∈ wsJ70, w ∈ lw_tbl := by decide +kernel
theorem inJ8 : ∀ w ∈ wsJ80, w ∈ lw_tbl := by decide +kernel
theorem inJ3 : ∀ w ∈ wsJ30, w ∈ lw_tbl := by decide +kernel
