theorem inlX0 : ∀ w ∈ wsX00, w ∈ wsL_law := fun _ h => List.mem_append_left _ (List.mem_append_left _ (List.mem_append_right _ h))
theorem inlX1 : ∀ w ∈ wsX10, w ∈ wsL_law := fun _ h => List.mem_append_left _ (List.mem_append_left _ (List.mem_append_left _ (List.mem_append_right _ h)))
theorem inlX2 : ∀ w ∈ wsX20, w ∈ wsL_law := fun _ h => List.mem_append_left _ (List.mem_append_left _ (List.mem_append_left _ (List.mem_append_left _ (List.mem_append_left _ (List.mem_append_left _ (List.mem_append_left _ (List.mem_append_right _ h)))))))
theorem inlX3 : ∀ w ∈ wsX30, w ∈ wsL_law := fun _ h => List.mem_append_left _ (List.mem_append_left _ (List.mem_append_left _ (List.mem_append_left _ (List.mem_append_left _ (List.mem_append_left _ (List.mem_append_right _ h))))))
theorem inlX4 : ∀ w ∈ wsX40, w ∈ wsL_law := fun _ h => List.mem_append_left _ (List.mem_append_left _ (List.mem_append_left _ (List.mem_append_left _ (List.mem_append_right _ h))))
theorem inlX5 : ∀ w ∈ wsX50, w ∈ wsL_law := fun _ h => List.mem_append_left _ (List.mem_append_right _ h)
theorem inlX6 : ∀ w ∈ wsX60, w ∈ wsL_law := fun _ h => List.mem_append_left _ (List.mem_append_left _ (List.mem_append_left _ (List.mem_append_left _ (List.mem_append_left _ (List.mem_append_right _ h)))))
theorem inlX7 : ∀ w ∈ wsX70, w ∈ wsL_law := fun _ h => List.mem_append_left _ (List.mem_append_left _ (List.mem_append_left _ (List.mem_append_left _ (List.mem_append_left _ (List.mem_append_left _ (List.mem_append_left _ (List.mem_append_left _ (List.mem_append_right _ h))))))))
set_option maxRecDepth 20000 in
theorem ggL_law_X7_init : GoodIn wsL_law wsX7_init := goodIn_r _ [6, 7, 8, 9, 10, 11, 12, 13, 14, 15, 16, 17, 18, 19, 20, 21, 22, 23, 24, 25, 26, 27, 28, 29, 30, 31, 32, 33, 34, 35, 36, 37, 38, 39, 40, 41, 3, 42, 43, 44, 45, 46, 47, 48, 49, 50, 51, 52, 53, 54, 55, 56, 57, 58, 59, 60, 61, 62, 63, 64, 65, 66, 67, 68, 69, 70, 71, 72, 73, 74, 75, 76, 77, 78, 79, 80, 81, 82, 83, 84, 85, 86, 87, 88, 89, 90, 91, 457, 458, 459, 460, 461, 462, 463, 464, 445, 446, 447, 448, 449, 450, 451, 452, 453, 454, 455, 456, 465, 466, 467, 468, 469, 470, 471, 472, 473, 474, 475, 476, 477, 478, 479, 480, 481, 482, 483, 484, 485, 486, 487, 488] (by decide +kernel) (by decide +kernel)
set_option maxRecDepth 20000 in
theorem gL_law_X7_init : GoodIn wsL_law (wsX7_init) := ggL_law_X7_init
set_option maxRecDepth 20000 in
theorem ggL_law_L_cell : GoodIn wsL_law wsL_cell := goodIn_r _ [95, 96, 97] (by decide +kernel) (by decide +kernel)
set_option maxRecDepth 20000 in
theorem gL_law_L_cell : GoodIn wsL_law (va_wsS RL 103 yL_cell wsL_cell) := goodIn_app (goodIn_of _ (by decide +kernel)) ggL_law_L_cell
set_option maxRecDepth 20000 in
theorem ggL_law_L_low : GoodIn wsL_law wsL_low := goodIn_r _ [100, 101] (by decide +kernel) (by decide +kernel)
set_option maxRecDepth 20000 in
theorem gL_law_L_low : GoodIn wsL_law (va_wsS RL 99 yL_low wsL_low) := goodIn_app (goodIn_of _ (by decide +kernel)) ggL_law_L_low
set_option maxRecDepth 20000 in
theorem ggL_law_L_text : GoodIn wsL_law wsL_text := goodIn_r _ [104, 98, 99, 94, 100, 101] (by decide +kernel) (by decide +kernel)
set_option maxRecDepth 20000 in
theorem gL_law_L_text : GoodIn wsL_law (va_wsS RL 107 yL_text wsL_text) := goodIn_app (goodIn_of _ (by decide +kernel)) ggL_law_L_text
set_option maxRecDepth 20000 in
theorem ggL_law_L_piece : GoodIn wsL_law wsL_piece := goodIn_r _ [107] (by decide +kernel) (by decide +kernel)
set_option maxRecDepth 20000 in
theorem gL_law_L_piece : GoodIn wsL_law (va_wsS RL 23 yL_piece wsL_piece) := goodIn_app (goodIn_of _ (by decide +kernel)) ggL_law_L_piece
set_option maxRecDepth 20000 in
theorem ggL_law_L_puts : GoodIn wsL_law wsL_puts := goodIn_r _ [110, 111, 112, 113, 2, 114, 25, 115, 116, 117, 94, 118, 119, 120, 121, 122, 123, 124, 125, 126, 127, 128, 129, 130, 131, 132, 24, 133, 134, 62, 135, 136, 137, 138, 139, 140, 141, 142, 143, 144, 145, 146, 445, 446, 447, 448, 449, 450, 451, 452, 453, 454, 455, 456, 467, 468] (by decide +kernel) (by decide +kernel)
set_option maxRecDepth 20000 in
theorem gL_law_L_puts : GoodIn wsL_law (va_wsS RL 110 yL_puts wsL_puts) := goodIn_app (goodIn_of _ (by decide +kernel)) ggL_law_L_puts
set_option maxRecDepth 20000 in
theorem ggL_law_X7_piece : GoodIn wsL_law wsX7_piece := goodIn_r _ [150, 21, 13, 25, 115, 151, 152, 153, 154, 2, 155, 156, 157, 158, 24, 159, 134, 160, 140, 141, 142, 143, 144, 145, 146, 62, 161, 162, 163, 164, 165, 166, 167, 12, 168, 169, 47, 170, 171, 172, 20, 173, 174, 58, 175, 176, 177, 178, 179, 180, 181, 182, 183, 184, 185, 186, 48, 49, 187, 50, 51, 52, 188, 189, 190, 191, 445, 446, 447, 448, 449, 450, 451, 452, 453, 454, 455, 456, 467, 468, 457, 458, 459, 460, 461, 462, 463, 464, 465, 466] (by decide +kernel) (by decide +kernel)
set_option maxRecDepth 20000 in
theorem gL_law_X7_piece : GoodIn wsL_law (wsV RL 114 RX7 yX7_piece wsX7_piece) := goodIn_app (goodIn_of _ (by decide +kernel)) ggL_law_X7_piece
set_option maxRecDepth 20000 in
theorem ggL_law_X7_forget : GoodIn wsL_law wsX7_forget := goodIn_r _ [195, 21, 13, 196, 197, 198, 199, 2, 200, 170, 171, 172, 20, 173, 174, 58, 175, 176, 177, 178, 179, 180, 181, 12, 182, 169, 47, 183, 184, 185, 186, 48, 49, 187, 50, 51, 52, 201, 202, 203, 204, 445, 446, 447, 448, 449, 450, 451, 452, 453, 454, 455, 456, 457, 458, 459, 460, 461, 462, 463, 464, 465, 466] (by decide +kernel) (by decide +kernel)
set_option maxRecDepth 20000 in
theorem gL_law_X7_forget : GoodIn wsL_law (wsV RL 116 RX7 yX7_forget wsX7_forget) := goodIn_app (goodIn_of _ (by decide +kernel)) ggL_law_X7_forget
set_option maxRecDepth 20000 in
theorem ggL_law_X7_word : GoodIn wsL_law wsX7_word := goodIn_r _ [208, 25, 13, 196, 21, 115, 156, 157, 158, 24, 159, 134, 160, 140, 141, 142, 143, 144, 145, 146, 62, 170, 171, 172, 20, 173, 174, 58, 175, 176, 177, 178, 179, 180, 181, 12, 182, 169, 47, 183, 184, 185, 186, 48, 49, 187, 50, 51, 52, 209, 210, 211, 212, 213, 214, 445, 446, 447, 448, 449, 450, 451, 452, 453, 454, 455, 456, 457, 458, 459, 460, 461, 462, 463, 464, 467, 468, 465, 466] (by decide +kernel) (by decide +kernel)
set_option maxRecDepth 20000 in
theorem gL_law_X7_word : GoodIn wsL_law (wsV RL 119 RX7 yX7_word wsX7_word) := goodIn_app (goodIn_of _ (by decide +kernel)) ggL_law_X7_word
set_option maxRecDepth 20000 in
theorem ggL_law_X7_weigh : GoodIn wsL_law wsX7_weigh := goodIn_r _ [218, 21, 13, 219, 220, 221, 222, 2, 223, 151, 170, 171, 172, 20, 173, 174, 58, 175, 176, 177, 178, 179, 180, 181, 12, 182, 169, 47, 183, 184, 185, 186, 48, 49, 187, 50, 51, 52, 445, 446, 447, 448, 449, 450, 451, 452, 453, 454, 455, 456, 457, 458, 459, 460, 461, 462, 463, 464, 465, 466] (by decide +kernel) (by decide +kernel)
set_option maxRecDepth 20000 in
theorem gL_law_X7_weigh : GoodIn wsL_law (wsV RL 122 RX7 yX7_weigh wsX7_weigh) := goodIn_app (goodIn_of _ (by decide +kernel)) ggL_law_X7_weigh
set_option maxRecDepth 20000 in
theorem ggL_law_L_share : GoodIn wsL_law wsL_share := goodIn_r _ [226, 227, 116, 117, 94, 118, 228, 229, 230, 231, 232, 233, 119, 120, 121, 105, 106, 107] (by decide +kernel) (by decide +kernel)
set_option maxRecDepth 20000 in
theorem gL_law_L_share : GoodIn wsL_law (va_wsS RL 81 yL_share wsL_share) := goodIn_app (goodIn_of _ (by decide +kernel)) ggL_law_L_share
set_option maxRecDepth 20000 in
theorem ggL_law_X7_tune : GoodIn wsL_law wsX7_tune := goodIn_r _ [237, 21, 13, 151, 42, 238, 239, 240, 241, 219, 170, 171, 172, 20, 173, 174, 58, 175, 176, 177, 178, 179, 180, 181, 12, 182, 169, 47, 183, 184, 185, 186, 48, 49, 187, 50, 51, 52, 242, 243, 244, 2, 245, 196, 29, 37, 246, 247, 248, 249, 250, 251, 252, 253, 28, 254, 255, 256, 257, 68, 258, 66, 67, 259, 260, 261, 262, 263, 264, 265, 266, 267, 268, 269, 270, 271, 272, 273, 166, 167, 168, 274, 275, 276, 36, 277, 82, 278, 83, 84, 279, 280, 281, 282, 283, 284, 285, 286, 287, 288, 289, 290, 291, 292, 293, 294, 295, 296, 297, 298, 299, 300, 301, 302, 303, 304, 445, 446, 447, 448, 449, 450, 451, 452, 453, 454, 455, 456, 457, 458, 459, 460, 461, 462, 463, 464, 465, 466, 469, 470, 471, 472, 481, 482, 483] (by decide +kernel) (by decide +kernel)
set_option maxRecDepth 20000 in
theorem gL_law_X7_tune : GoodIn wsL_law (wsV RL 125 RX7 yX7_tune wsX7_tune) := goodIn_app (goodIn_of _ (by decide +kernel)) ggL_law_X7_tune
set_option maxRecDepth 20000 in
theorem ggL_law_L_least : GoodIn wsL_law wsL_least := goodIn_r _ [307, 308, 309, 94, 310, 311, 312, 313, 314, 315, 316, 317, 318, 319, 116, 117, 118, 228, 229, 230, 231, 232, 233, 119, 120, 121, 105, 106, 107, 320, 321, 322, 323, 324, 325] (by decide +kernel) (by decide +kernel)
set_option maxRecDepth 20000 in
theorem gL_law_L_least : GoodIn wsL_law (va_wsS RL 93 yL_least wsL_least) := goodIn_app (goodIn_of _ (by decide +kernel)) ggL_law_L_least
set_option maxRecDepth 20000 in
theorem ggL_law_L_drop : GoodIn wsL_law wsL_drop := goodIn_r _ [313] (by decide +kernel) (by decide +kernel)
set_option maxRecDepth 20000 in
theorem gL_law_L_drop : GoodIn wsL_law (va_wsS RL 43 yL_drop wsL_drop) := goodIn_app (goodIn_of _ (by decide +kernel)) ggL_law_L_drop
set_option maxRecDepth 20000 in
theorem ggL_law_X7_shrink : GoodIn wsL_law wsX7_shrink := goodIn_r _ [329, 21, 13, 151, 170, 171, 172, 20, 173, 174, 58, 175, 176, 177, 178, 179, 180, 181, 12, 182, 169, 47, 183, 184, 185, 186, 48, 49, 187, 50, 51, 52, 330, 331, 332, 2, 333, 43, 219, 334, 335, 336, 337, 196, 29, 33, 246, 247, 248, 249, 250, 251, 252, 253, 28, 254, 255, 256, 257, 68, 258, 66, 67, 259, 260, 261, 262, 263, 264, 240, 265, 266, 267, 268, 269, 270, 271, 272, 273, 166, 167, 168, 338, 339, 340, 32, 341, 73, 342, 74, 343, 344, 345, 346, 75, 347, 348, 284, 285, 286, 287, 288, 289, 290, 349, 350, 351, 352, 353, 354, 76, 77, 78, 355, 356, 357, 358, 359, 360, 361, 362, 363, 445, 446, 447, 448, 449, 450, 451, 452, 453, 454, 455, 456, 457, 458, 459, 460, 461, 462, 463, 464, 465, 466, 469, 470, 471, 472, 473, 474, 475, 476, 477, 478, 479, 480] (by decide +kernel) (by decide +kernel)
set_option maxRecDepth 20000 in
theorem gL_law_X7_shrink : GoodIn wsL_law (wsV RL 128 RX7 yX7_shrink wsX7_shrink) := goodIn_app (goodIn_of _ (by decide +kernel)) ggL_law_X7_shrink
set_option maxRecDepth 100000 in
theorem in_same_law : Cond.code yL_same cL_same 20 (some .boolean) ∈ wsL_law := List.mem_append_left _ (List.mem_append_left _ (List.mem_append_left _ (List.mem_append_left _ (List.mem_append_left _ (List.mem_append_left _ (List.mem_append_left _ (List.mem_append_left _ (List.mem_append_left _ (List.mem_append_right _ (List.mem_append_right _ (List.mem_append_right _ (List.mem_append_right _ (List.mem_append_right _ (List.mem_append_right _ (List.mem_append_right _ (List.mem_append_right _ (List.mem_append_right _ (List.mem_append_right _ (List.mem_append_right _ (List.mem_append_right _ (List.mem_append_right _ (List.mem_append_right _ (List.mem_append_right _ (List.mem_append_left _ (List.mem_of_getElem? (i := 6) rfl)))))))))))))))))))))))))
theorem goodIn_c {big ws : List Cond} {a : Cond} (ha : a ∈ big) (hg : goodWord a = true) (h : GoodIn big ws) : GoodIn big (a :: ws) := fun w hw => by
  rcases List.mem_cons.mp hw with rfl | hw
  · exact ⟨ha, good_of_word hg⟩
  · exact h w hw
set_option maxRecDepth 20000 in
theorem ggL_same_tail : GoodIn wsL_law ((wsL_same_r1 ++ (wsL_same_r2 ++ (wsL_same_r3 ++ (wsL_same_r4 ++ (wsL_same_r5 ++ (wsL_same_r6 ++ (wsL_same_r7 ++ (wsL_same_r8 ++ (wsL_same_r9 ++ (wsL_same_r10 ++ wsL_same_r11)))))))))) ++ wsX70 ++ wsX10 ++ wsX20 ++ wsX40 ++ wsX00 ++ wsX60 ++ wsX30) := goodIn_r _ [367, 116, 117, 94, 118, 317, 318, 319, 228, 229, 230, 231, 232, 233, 119, 120, 121, 105, 106, 107, 320, 321, 322, 368, 369, 370, 2, 371, 13, 33, 372, 373, 374, 375, 197, 198, 199, 200, 196, 376, 377, 378, 379, 29, 251, 252, 253, 28, 254, 255, 256, 257, 68, 258, 184, 185, 186, 66, 67, 259, 260, 261, 262, 263, 264, 240, 265, 266, 267, 268, 12, 269, 52, 270, 271, 272, 273, 166, 167, 168, 169, 47, 338, 339, 340, 32, 341, 73, 342, 74, 343, 344, 345, 346, 75, 347, 348, 284, 285, 286, 287, 288, 289, 290, 349, 350, 351, 352, 353, 354, 76, 77, 78, 355, 380, 381, 382, 383, 384, 246, 385, 37, 356, 357, 358, 359, 274, 275, 276, 36, 277, 82, 278, 83, 84, 279, 280, 249, 281, 282, 283, 291, 292, 293, 294, 386, 387, 388, 389, 323, 324, 325, 390, 391, 392, 393, 394, 395, 396, 302, 303, 304, 397, 398, 399, 400, 401, 402, 403, 404, 405, 224, 225, 226, 227, 406, 407, 408, 409, 220, 221, 222, 223, 151, 295, 296, 297, 298, 299, 300, 301, 410, 411, 412, 413, 414, 219, 415, 43, 416, 42, 417, 418, 419, 420, 421, 422, 423, 334, 335, 336, 337, 247, 248, 250, 424, 425, 426, 427, 242, 243, 244, 245, 308, 309, 310, 311, 312, 313, 314, 315, 316, 428, 429, 430, 431, 330, 331, 332, 333, 305, 306, 307, 432, 433, 434, 435, 25, 115, 21, 436, 437, 438, 439, 440, 441, 442, 443, 444, 445, 446, 447, 448, 449, 450, 451, 452, 453, 454, 455, 456, 473, 474, 475, 476, 477, 478, 479, 480, 457, 458, 459, 460, 461, 462, 463, 464, 469, 470, 471, 472, 481, 482, 483, 467, 468, 465, 466] (by decide +kernel) (by decide +kernel)
theorem ggL_law_L_same : GoodIn wsL_law wsL_same := goodIn_c in_same_law (by decide +kernel) ggL_same_tail
set_option maxRecDepth 20000 in
theorem gL_law_L_same : GoodIn wsL_law (va_wsS RL 131 yL_same wsL_same) := goodIn_app (goodIn_of _ (by decide +kernel)) ggL_law_L_same
theorem dL_law_0 : decode cL_law 0 = .ok (.new 56, 3) := by decide +kernel
theorem dL_law_3 : decode cL_law 3 = .ok (.dup, 1) := by decide +kernel
theorem dL_law_4 : decode cL_law 4 = .ok (.invokespecial 102, 3) := by decide +kernel
theorem dL_law_7 : decode cL_law 7 = .ok (.astore_n 1, 1) := by decide +kernel
theorem dL_law_8 : decode cL_law 8 = .ok (.iconst 2, 1) := by decide +kernel
theorem dL_law_9 : decode cL_law 9 = .ok (.newarray .int, 2) := by decide +kernel
theorem dL_law_11 : decode cL_law 11 = .ok (.astore_n 2, 1) := by decide +kernel
theorem dL_law_12 : decode cL_law 12 = .ok (.bipush 16, 2) := by decide +kernel
theorem dL_law_14 : decode cL_law 14 = .ok (.newarray .int, 2) := by decide +kernel
theorem dL_law_16 : decode cL_law 16 = .ok (.astore_n 3, 1) := by decide +kernel
theorem dL_law_17 : decode cL_law 17 = .ok (.bipush 6, 2) := by decide +kernel
theorem dL_law_19 : decode cL_law 19 = .ok (.newarray .int, 2) := by decide +kernel
theorem dL_law_21 : decode cL_law 21 = .ok (.astore 4, 2) := by decide +kernel
theorem dL_law_23 : decode cL_law 23 = .ok (.iconst 2, 1) := by decide +kernel
theorem dL_law_24 : decode cL_law 24 = .ok (.newarray .int, 2) := by decide +kernel
theorem dL_law_26 : decode cL_law 26 = .ok (.astore 5, 2) := by decide +kernel
theorem dL_law_28 : decode cL_law 28 = .ok (.bipush 16, 2) := by decide +kernel
theorem dL_law_30 : decode cL_law 30 = .ok (.newarray .int, 2) := by decide +kernel
theorem dL_law_32 : decode cL_law 32 = .ok (.astore 6, 2) := by decide +kernel
theorem dL_law_34 : decode cL_law 34 = .ok (.iconst 2, 1) := by decide +kernel
theorem dL_law_35 : decode cL_law 35 = .ok (.aload_n 0, 1) := by decide +kernel
theorem dL_law_36 : decode cL_law 36 = .ok (.iconst 0, 1) := by decide +kernel
theorem dL_law_37 : decode cL_law 37 = .ok (.invokestatic 103, 3) := by decide +kernel
theorem dL_law_40 : decode cL_law 40 = .ok (.iconst 2, 1) := by decide +kernel
theorem dL_law_41 : decode cL_law 41 = .ok (.invokestatic 99, 3) := by decide +kernel
theorem dL_law_44 : decode cL_law 44 = .ok (.iadd, 1) := by decide +kernel
theorem dL_law_45 : decode cL_law 45 = .ok (.istore 7, 2) := by decide +kernel
theorem dL_law_47 : decode cL_law 47 = .ok (.iconst 0, 1) := by decide +kernel
theorem dL_law_48 : decode cL_law 48 = .ok (.istore 8, 2) := by decide +kernel
theorem dL_law_50 : decode cL_law 50 = .ok (.iload 8, 2) := by decide +kernel
theorem dL_law_52 : decode cL_law 52 = .ok (.bipush 16, 2) := by decide +kernel
theorem dL_law_54 : decode cL_law 54 = .ok (.if_icmp .ge 683, 3) := by decide +kernel
theorem dL_law_57 : decode cL_law 57 = .ok (.aload_n 0, 1) := by decide +kernel
theorem dL_law_58 : decode cL_law 58 = .ok (.iconst 1, 1) := by decide +kernel
theorem dL_law_59 : decode cL_law 59 = .ok (.iload 8, 2) := by decide +kernel
theorem dL_law_61 : decode cL_law 61 = .ok (.iadd, 1) := by decide +kernel
theorem dL_law_62 : decode cL_law 62 = .ok (.invokestatic 103, 3) := by decide +kernel
theorem dL_law_65 : decode cL_law 65 = .ok (.istore 9, 2) := by decide +kernel
theorem dL_law_67 : decode cL_law 67 = .ok (.iload 9, 2) := by decide +kernel
theorem dL_law_69 : decode cL_law 69 = .ok (.bipush 8, 2) := by decide +kernel
theorem dL_law_71 : decode cL_law 71 = .ok (.invokestatic 99, 3) := by decide +kernel
theorem dL_law_74 : decode cL_law 74 = .ok (.istore 10, 2) := by decide +kernel
theorem dL_law_76 : decode cL_law 76 = .ok (.iload 10, 2) := by decide +kernel
theorem dL_law_78 : decode cL_law 78 = .ok (.iconst 3, 1) := by decide +kernel
theorem dL_law_79 : decode cL_law 79 = .ok (.if_icmp .ge 132, 3) := by decide +kernel
theorem dL_law_82 : decode cL_law 82 = .ok (.iload 9, 2) := by decide +kernel
theorem dL_law_84 : decode cL_law 84 = .ok (.iconst 5, 1) := by decide +kernel
theorem dL_law_85 : decode cL_law 85 = .ok (.ishr, 1) := by decide +kernel
theorem dL_law_86 : decode cL_law 86 = .ok (.iconst 1, 1) := by decide +kernel
theorem dL_law_87 : decode cL_law 87 = .ok (.iload 9, 2) := by decide +kernel
theorem dL_law_89 : decode cL_law 89 = .ok (.iconst 3, 1) := by decide +kernel
theorem dL_law_90 : decode cL_law 90 = .ok (.ishr, 1) := by decide +kernel
theorem dL_law_91 : decode cL_law 91 = .ok (.iconst 4, 1) := by decide +kernel
theorem dL_law_92 : decode cL_law 92 = .ok (.invokestatic 99, 3) := by decide +kernel
theorem dL_law_95 : decode cL_law 95 = .ok (.iadd, 1) := by decide +kernel
theorem dL_law_96 : decode cL_law 96 = .ok (.iload 7, 2) := by decide +kernel
theorem dL_law_98 : decode cL_law 98 = .ok (.invokestatic 107, 3) := by decide +kernel
theorem dL_law_101 : decode cL_law 101 = .ok (.istore 11, 2) := by decide +kernel
theorem dL_law_103 : decode cL_law 103 = .ok (.iconst 1, 1) := by decide +kernel
theorem dL_law_104 : decode cL_law 104 = .ok (.iload 9, 2) := by decide +kernel
theorem dL_law_106 : decode cL_law 106 = .ok (.bipush 13, 2) := by decide +kernel
theorem dL_law_108 : decode cL_law 108 = .ok (.ishr, 1) := by decide +kernel
theorem dL_law_109 : decode cL_law 109 = .ok (.bipush 9, 2) := by decide +kernel
theorem dL_law_111 : decode cL_law 111 = .ok (.invokestatic 99, 3) := by decide +kernel
theorem dL_law_114 : decode cL_law 114 = .ok (.iadd, 1) := by decide +kernel
theorem dL_law_115 : decode cL_law 115 = .ok (.istore 12, 2) := by decide +kernel
theorem dL_law_117 : decode cL_law 117 = .ok (.aload_n 2, 1) := by decide +kernel
theorem dL_law_118 : decode cL_law 118 = .ok (.iconst 0, 1) := by decide +kernel
theorem dL_law_119 : decode cL_law 119 = .ok (.iaload, 1) := by decide +kernel
theorem dL_law_120 : decode cL_law 120 = .ok (.bipush 8, 2) := by decide +kernel
theorem dL_law_122 : decode cL_law 122 = .ok (.if_icmp .ne 6, 3) := by decide +kernel
theorem dL_law_125 : decode cL_law 125 = .ok (.goto 606, 3) := by decide +kernel
theorem dL_law_128 : decode cL_law 128 = .ok (.iload 11, 2) := by decide +kernel
theorem dL_law_130 : decode cL_law 130 = .ok (.aload_n 2, 1) := by decide +kernel
theorem dL_law_131 : decode cL_law 131 = .ok (.aload_n 3, 1) := by decide +kernel
theorem dL_law_132 : decode cL_law 132 = .ok (.invokestatic 23, 3) := by decide +kernel
theorem dL_law_135 : decode cL_law 135 = .ok (.ifCond .lt 7, 3) := by decide +kernel
theorem dL_law_138 : decode cL_law 138 = .ok (.iconst 1, 1) := by decide +kernel
theorem dL_law_139 : decode cL_law 139 = .ok (.goto 4, 3) := by decide +kernel
theorem dL_law_142 : decode cL_law 142 = .ok (.iconst 0, 1) := by decide +kernel
theorem dL_law_143 : decode cL_law 143 = .ok (.istore 13, 2) := by decide +kernel
