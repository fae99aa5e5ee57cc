theorem inL_wsL_law_r18 : ∀ w ∈ wsL_law_r18, w ∈ lw_tbl := fun w h => (goodIn_p wsL_law_r18 [526, 530, 533, 537, 541, 547] (by decide +kernel) (by decide +kernel) w h).1
theorem inL_wsL_law_r19 : ∀ w ∈ wsL_law_r19, w ∈ lw_tbl := fun w h => (goodIn_p wsL_law_r19 [551, 555, 559] (by decide +kernel) (by decide +kernel) w h).1
theorem inX0 : ∀ w ∈ wsX00, w ∈ lw_tbl := by decide +kernel
theorem inX1 : ∀ w ∈ wsX10, w ∈ lw_tbl := by decide +kernel
theorem inX2 : ∀ w ∈ wsX20, w ∈ lw_tbl := by decide +kernel
theorem inX3 : ∀ w ∈ wsX30, w ∈ lw_tbl := by decide +kernel
theorem inX4 : ∀ w ∈ wsX40, w ∈ lw_tbl := by decide +kernel
theorem inX5 : ∀ w ∈ wsX50, w ∈ lw_tbl := by decide +kernel
theorem inX6 : ∀ w ∈ wsX60, w ∈ lw_tbl := by decide +kernel
theorem inX7 : ∀ w ∈ wsX70, w ∈ lw_tbl := by decide +kernel
theorem wsL_law_in : ∀ w ∈ wsL_law, w ∈ lw_tbl := (in_appL (in_appL (in_appL (in_appL (in_appL (in_appL (in_appL (in_appL (in_appL (in_appL inL_wsL_law_r1 (in_appL inL_wsL_law_r2 (in_appL inL_wsL_law_r3 (in_appL inL_wsL_law_r4 (in_appL inL_wsL_law_r5 (in_appL inL_wsL_law_r6 (in_appL inL_wsL_law_r7 (in_appL inL_wsL_law_r8 (in_appL inL_wsL_law_r9 (in_appL inL_wsL_law_r10 (in_appL inL_wsL_law_r11 (in_appL inL_wsL_law_r12 (in_appL inL_wsL_law_r13 (in_appL inL_wsL_law_r14 (in_appL inL_wsL_law_r15 (in_appL inL_wsL_law_r16 (in_appL inL_wsL_law_r17 (in_appL inL_wsL_law_r18 inL_wsL_law_r19)))))))))))))))))) inX7) inX2) inX3) inX6) inX4) inX1) inX0) inX5) (fun _ h => absurd h List.not_mem_nil))
