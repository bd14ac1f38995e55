set_option maxRecDepth 100000 in
theorem in_wsL_law_r1 : ∀ w ∈ wsL_law_r1, w ∈ lw_tbl := fun w h => (goodIn_p wsL_law_r1 [57, 60] (by decide +kernel) (by decide +kernel) w h).1
set_option maxRecDepth 100000 in
theorem in_wsL_law_r2 : ∀ w ∈ wsL_law_r2, w ∈ lw_tbl := fun w h => (goodIn_p wsL_law_r2 [66] (by decide +kernel) (by decide +kernel) w h).1
set_option maxRecDepth 100000 in
theorem in_wsL_law_r3 : ∀ w ∈ wsL_law_r3, w ∈ lw_tbl := fun w h => (goodIn_p wsL_law_r3 [86, 114, 133] (by decide +kernel) (by decide +kernel) w h).1
set_option maxRecDepth 100000 in
theorem in_wsL_law_r4 : ∀ w ∈ wsL_law_r4, w ∈ lw_tbl := fun w h => (goodIn_p wsL_law_r4 [147, 166, 200] (by decide +kernel) (by decide +kernel) w h).1
set_option maxRecDepth 100000 in
theorem in_wsL_law_r5 : ∀ w ∈ wsL_law_r5, w ∈ lw_tbl := fun w h => (goodIn_p wsL_law_r5 [765] (by decide +kernel) (by decide +kernel) w h).1
set_option maxRecDepth 100000 in
theorem in_wsL_law_r6 : ∀ w ∈ wsL_law_r6, w ∈ lw_tbl := fun w h => (goodIn_p wsL_law_r6 [264, 267, 270] (by decide +kernel) (by decide +kernel) w h).1
set_option maxRecDepth 100000 in
theorem in_wsL_law_r7 : ∀ w ∈ wsL_law_r7, w ∈ lw_tbl := fun w h => (goodIn_p wsL_law_r7 [274, 280, 285, 289, 293] (by decide +kernel) (by decide +kernel) w h).1
set_option maxRecDepth 100000 in
theorem in_wsL_law_r8 : ∀ w ∈ wsL_law_r8, w ∈ lw_tbl := fun w h => (goodIn_p wsL_law_r8 [853, 856, 859, 866, 298, 302] (by decide +kernel) (by decide +kernel) w h).1
set_option maxRecDepth 100000 in
theorem in_wsL_law_r9 : ∀ w ∈ wsL_law_r9, w ∈ lw_tbl := fun w h => (goodIn_p wsL_law_r9 [871, 306, 310, 314, 875, 879] (by decide +kernel) (by decide +kernel) w h).1
set_option maxRecDepth 100000 in
theorem in_wsL_law_r10 : ∀ w ∈ wsL_law_r10, w ∈ lw_tbl := fun w h => (goodIn_p wsL_law_r10 [319, 323, 327, 331, 336] (by decide +kernel) (by decide +kernel) w h).1
set_option maxRecDepth 100000 in
theorem in_wsL_law_r11 : ∀ w ∈ wsL_law_r11, w ∈ lw_tbl := fun w h => (goodIn_p wsL_law_r11 [883, 340, 344, 348, 352, 356] (by decide +kernel) (by decide +kernel) w h).1
