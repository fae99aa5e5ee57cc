theorem inL_wsL_law_r7 : ∀ w ∈ wsL_law_r7, w ∈ lw_tbl := fun w h => (goodIn_p wsL_law_r7 [259, 243, 247, 251, 263] (by decide +kernel) (by decide +kernel) w h).1
theorem inL_wsL_law_r8 : ∀ w ∈ wsL_law_r8, w ∈ lw_tbl := fun w h => (goodIn_p wsL_law_r8 [267, 271, 275, 279, 286] (by decide +kernel) (by decide +kernel) w h).1
theorem inL_wsL_law_r9 : ∀ w ∈ wsL_law_r9, w ∈ lw_tbl := fun w h => (goodIn_p wsL_law_r9 [307, 311, 315, 298, 302] (by decide +kernel) (by decide +kernel) w h).1
theorem inL_wsL_law_r10 : ∀ w ∈ wsL_law_r10, w ∈ lw_tbl := fun w h => (goodIn_p wsL_law_r10 [290, 294, 429, 435, 438, 319] (by decide +kernel) (by decide +kernel) w h).1
theorem inL_wsL_law_r11 : ∀ w ∈ wsL_law_r11, w ∈ lw_tbl := fun w h => (goodIn_p wsL_law_r11 [379, 323, 326, 330, 335] (by decide +kernel) (by decide +kernel) w h).1
theorem inL_wsL_law_r12 : ∀ w ∈ wsL_law_r12, w ∈ lw_tbl := fun w h => (goodIn_p wsL_law_r12 [338, 342, 345, 350, 353, 358] (by decide +kernel) (by decide +kernel) w h).1
