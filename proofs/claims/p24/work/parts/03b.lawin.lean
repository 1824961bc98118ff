def zt (k : Nat) : List Cond := match k with
  | 0 => (k2_sels lw_privs ++ zs_priv.map (fun q => Cond.selects zs_SB q q))
  | 1 => tables_1_1
  | 2 => tables_1_2
  | 3 => tables_1_3
  | 4 => tables_1_4
  | 5 => tables_1_5
  | _ => tables_1_6
theorem zt_in : ∀ (k : Nat) (w : Cond), w ∈ zt k → w ∈ lw_tbl := by
  intro k w h
  match k, h with
  | 0, h => exact List.mem_append_left _ h
  | 1, h => exact List.mem_append_right _ (List.mem_append_left _ h)
  | 2, h => exact List.mem_append_right _ (List.mem_append_right _ (List.mem_append_left _ h))
  | 3, h => exact List.mem_append_right _ (List.mem_append_right _ (List.mem_append_right _ (List.mem_append_left _ h)))
  | 4, h => exact List.mem_append_right _ (List.mem_append_right _ (List.mem_append_right _ (List.mem_append_right _ (List.mem_append_left _ h))))
  | 5, h => exact List.mem_append_right _ (List.mem_append_right _ (List.mem_append_right _ (List.mem_append_right _ (List.mem_append_right _ (List.mem_append_left _ h)))))
  | k + 6, h => exact List.mem_append_right _ (List.mem_append_right _ (List.mem_append_right _ (List.mem_append_right _ (List.mem_append_right _ (List.mem_append_right _ (h))))))
theorem zlaw_w_X7 : ∀ w ∈ wsX70, w ∈ lw_tbl := by decide +kernel
theorem zlaw_w_X9 : ∀ w ∈ wsX90, w ∈ lw_tbl := by decide +kernel
theorem zlaw_w_X8 : ∀ w ∈ wsX80, w ∈ lw_tbl := by decide +kernel
theorem zlaw_w_X4 : ∀ w ∈ wsX40, w ∈ lw_tbl := by decide +kernel
theorem zlaw_w_X3 : ∀ w ∈ wsX30, w ∈ lw_tbl := by decide +kernel
theorem zlaw_w_X1 : ∀ w ∈ wsX10, w ∈ lw_tbl := by decide +kernel
theorem zlaw_w_X0 : ∀ w ∈ wsX00, w ∈ lw_tbl := by decide +kernel
theorem zlaw_w_X2 : ∀ w ∈ wsX20, w ∈ lw_tbl := by decide +kernel
theorem zlaw_w_J4 : ∀ w ∈ wsJ40, w ∈ lw_tbl := by decide +kernel
theorem zlaw_w_J0 : ∀ w ∈ wsJ00, w ∈ lw_tbl := by decide +kernel
theorem wsL_law_x0 : ∀ w ∈ (vx_atS RX7 266 "java/lang/IndexOutOfBoundsException" ["java/lang/RuntimeException", "java/lang/Exception"]).filter goodWord, w ∈ lw_tbl := by decide +kernel
theorem wsL_law_x1 : ∀ w ∈ (vx_atS RX7 235 "java/lang/IllegalArgumentException" ["java/lang/RuntimeException", "java/lang/Exception"]).filter goodWord, w ∈ lw_tbl := by decide +kernel
theorem wsL_law_x2 : ∀ w ∈ (vx_atS RX7 142 "java/lang/IllegalStateException" ["java/lang/RuntimeException", "java/lang/Exception"]).filter goodWord, w ∈ lw_tbl := by decide +kernel
