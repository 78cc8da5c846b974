/-! the law's words are among the tables' -/
theorem lwr_1 : ∀ w ∈ wsL_law_r1, w ∈ lw_tbl := by decide +kernel
theorem lwr_2 : ∀ w ∈ wsL_law_r2, w ∈ lw_tbl := by decide +kernel
theorem lwr_3 : ∀ w ∈ wsL_law_r3, w ∈ lw_tbl := by decide +kernel
theorem lwr_4 : ∀ w ∈ wsL_law_r4, w ∈ lw_tbl := by decide +kernel
theorem lwr_5 : ∀ w ∈ wsL_law_r5, w ∈ lw_tbl := by decide +kernel
theorem lwr_6 : ∀ w ∈ wsL_law_r6, w ∈ lw_tbl := by decide +kernel
theorem lwr_7 : ∀ w ∈ wsL_law_r7, w ∈ lw_tbl := by decide +kernel
theorem lwr_8 : ∀ w ∈ wsL_law_r8, w ∈ lw_tbl := by decide +kernel
theorem lwr_9 : ∀ w ∈ wsL_law_r9, w ∈ lw_tbl := by decide +kernel
theorem lwr_10 : ∀ w ∈ wsL_law_r10, w ∈ lw_tbl := by decide +kernel
theorem lwr_11 : ∀ w ∈ wsL_law_r11, w ∈ lw_tbl := by decide +kernel
theorem lwr_12 : ∀ w ∈ wsL_law_r12, w ∈ lw_tbl := by decide +kernel
theorem lwr_13 : ∀ w ∈ wsL_law_r13, w ∈ lw_tbl := by decide +kernel
theorem lwr_14 : ∀ w ∈ wsL_law_r14, w ∈ lw_tbl := by decide +kernel
theorem lwr_15 : ∀ w ∈ wsL_law_r15, w ∈ lw_tbl := by decide +kernel
theorem lwr_16 : ∀ w ∈ wsL_law_r16, w ∈ lw_tbl := by decide +kernel
theorem lwr_17 : ∀ w ∈ wsL_law_r17, w ∈ lw_tbl := by decide +kernel
theorem lwr_18 : ∀ w ∈ wsL_law_r18, w ∈ lw_tbl := by decide +kernel
theorem lwr_19 : ∀ w ∈ wsL_law_r19, w ∈ lw_tbl := by decide +kernel
theorem lwr_20 : ∀ w ∈ wsL_law_r20, w ∈ lw_tbl := by decide +kernel
theorem lwr_21 : ∀ w ∈ wsL_law_r21, w ∈ lw_tbl := by decide +kernel
theorem lwr_22 : ∀ w ∈ wsL_law_r22, w ∈ lw_tbl := by decide +kernel
theorem lwx_0 : ∀ w ∈ wsX00, w ∈ lw_tbl := by decide +kernel
theorem lwx_1 : ∀ w ∈ wsX10, w ∈ lw_tbl := by decide +kernel
theorem lwx_2 : ∀ w ∈ wsX20, w ∈ lw_tbl := by decide +kernel
theorem lwx_3 : ∀ w ∈ wsX30, w ∈ lw_tbl := by decide +kernel
theorem lwx_4 : ∀ w ∈ wsX40, w ∈ lw_tbl := by decide +kernel
theorem lwx_5 : ∀ w ∈ wsX50, w ∈ lw_tbl := by decide +kernel
theorem lwx_6 : ∀ w ∈ wsX60, w ∈ lw_tbl := by decide +kernel
theorem lwx_7 : ∀ w ∈ wsX70, w ∈ lw_tbl := by decide +kernel
theorem lw_app {a b c : List Cond} (h1 : ∀ w ∈ a, w ∈ c) (h2 : ∀ w ∈ b, w ∈ c) : ∀ w ∈ a ++ b, w ∈ c := fun w h => (List.mem_append.mp h).elim (h1 w) (h2 w)
theorem law_in : ∀ w ∈ wsL_law, w ∈ lw_tbl := lw_app (lw_app (lw_app (lw_app (lw_app (lw_app (lw_app (lw_app (lw_app (lw_app lwr_1 (lw_app lwr_2 (lw_app lwr_3 (lw_app lwr_4 (lw_app lwr_5 (lw_app lwr_6 (lw_app lwr_7 (lw_app lwr_8 (lw_app lwr_9 (lw_app lwr_10 (lw_app lwr_11 (lw_app lwr_12 (lw_app lwr_13 (lw_app lwr_14 (lw_app lwr_15 (lw_app lwr_16 (lw_app lwr_17 (lw_app lwr_18 (lw_app lwr_19 (lw_app lwr_20 (lw_app lwr_21 lwr_22))))))))))))))))))))) lwx_6) lwx_7) lwx_1) lwx_5) lwx_4) lwx_0) lwx_2) lwx_3) (fun _ h => absurd h List.not_mem_nil)
theorem zN_in : ∀ w ∈ zN, w ∈ lw_tbl := by decide +kernel
