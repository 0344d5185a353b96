set_option maxRecDepth 20000 in
theorem ggX11_compile_X7_link : GoodIn wsX11_compile wsX7_link := goodIn_r _ [452, 241, 242, 331, 453, 124, 364, 454, 455, 456, 125, 274, 457, 458, 206, 161, 194, 484, 485, 486, 487, 488, 489, 490, 491, 492, 493, 494, 495, 496, 497, 498, 499, 500, 501, 544, 545, 546, 547, 548, 549, 550, 551, 552, 553, 472, 473, 474, 475, 476, 477, 478, 479, 480, 481, 482, 483, 512, 513, 514, 515, 516, 517, 518, 519, 520, 521, 522, 523, 524, 525, 526, 527, 528, 529, 502, 503, 504, 505, 506, 507, 508, 509, 510, 511] (by decide +kernel) (by decide +kernel)
set_option maxRecDepth 20000 in
theorem gX11_compile_X7_link : GoodIn wsX11_compile (wsV RX11 121 RX7 yX7_link wsX7_link) := goodIn_app (goodIn_of _ (by decide +kernel)) ggX11_compile_X7_link
set_option maxRecDepth 20000 in
theorem ggX11_count_X11_needWhat : GoodIn wsX11_count wsX11_needWhat := goodIn_ca (goodIn_r _ [11, 12, 13] (by decide +kernel) (by decide +kernel)) (goodIn_sub (fun _ h => List.mem_cons_of_mem _ (List.mem_append_right _ h)) (by decide +kernel))
set_option maxRecDepth 20000 in
theorem gX11_count_X11_needWhat : GoodIn wsX11_count (va_wsS RX11 132 yX11_needWhat wsX11_needWhat) := goodIn_app (goodIn_of _ (by decide +kernel)) ggX11_count_X11_needWhat
set_option maxRecDepth 20000 in
theorem ggX11_begin_X11_needCompiled : GoodIn wsX11_begin wsX11_needCompiled := goodIn_ca (goodIn_r _ [7, 8, 9, 10, 167, 168, 169, 170, 171, 172, 173, 174, 175, 176, 177, 178, 179] (by decide +kernel) (by decide +kernel)) (goodIn_sub (fun _ h => List.mem_cons_of_mem _ (List.mem_append_left _ (List.mem_append_right _ h))) (by decide +kernel))
set_option maxRecDepth 20000 in
theorem gX11_begin_X11_needCompiled : GoodIn wsX11_begin (wsV RX11 148 RX11 yX11_needCompiled wsX11_needCompiled) := goodIn_app (goodIn_of _ (by decide +kernel)) ggX11_begin_X11_needCompiled
set_option maxRecDepth 20000 in
theorem ggX11_choices_X11_needRun : GoodIn wsX11_choices wsX11_needRun := goodIn_ca (goodIn_r _ [7, 8, 9, 10, 11, 12, 13, 14, 15, 16, 17, 18, 19, 20, 21, 22, 23] (by decide +kernel) (by decide +kernel)) (goodIn_sub (fun _ h => List.mem_cons_of_mem _ (List.mem_append_right _ h)) (by decide +kernel))
set_option maxRecDepth 20000 in
theorem gX11_choices_X11_needRun : GoodIn wsX11_choices (wsV RX11 160 RX11 yX11_needRun wsX11_needRun) := goodIn_app (goodIn_of _ (by decide +kernel)) ggX11_choices_X11_needRun
set_option maxRecDepth 20000 in
theorem ggX11_choice_X11_needRun : GoodIn wsX11_choice wsX11_needRun := goodIn_ca (goodIn_r _ [10, 11, 12, 13, 74, 75, 76, 77, 78, 79, 80, 81, 82, 83, 84, 85, 86] (by decide +kernel) (by decide +kernel)) (goodIn_sub (fun _ h => List.mem_cons_of_mem _ (List.mem_append_left _ (List.mem_append_right _ h))) (by decide +kernel))
set_option maxRecDepth 20000 in
theorem gX11_choice_X11_needRun : GoodIn wsX11_choice (wsV RX11 160 RX11 yX11_needRun wsX11_needRun) := goodIn_app (goodIn_of _ (by decide +kernel)) ggX11_choice_X11_needRun
set_option maxRecDepth 20000 in
theorem ggX11_go_X11_needRun : GoodIn wsX11_go wsX11_needRun := goodIn_ca (goodIn_r _ [11, 1, 2, 12, 300, 301, 302, 303, 304, 305, 306, 307, 308, 309, 310, 311, 312] (by decide +kernel) (by decide +kernel)) (goodIn_sub (fun _ h => List.mem_cons_of_mem _ (List.mem_append_left _ (List.mem_append_right _ h))) (by decide +kernel))
set_option maxRecDepth 20000 in
theorem gX11_go_X11_needRun : GoodIn wsX11_go (wsV RX11 160 RX11 yX11_needRun wsX11_needRun) := goodIn_app (goodIn_of _ (by decide +kernel)) ggX11_go_X11_needRun
set_option maxRecDepth 20000 in
theorem ggX11_draw_X11_needRun : GoodIn wsX11_draw wsX11_needRun := goodIn_ca (goodIn_r _ [12, 13, 14, 15, 298, 299, 300, 301, 302, 303, 304, 305, 306, 307, 308, 309, 310] (by decide +kernel) (by decide +kernel)) (goodIn_sub (fun _ h => List.mem_cons_of_mem _ (List.mem_append_right _ h)) (by decide +kernel))
set_option maxRecDepth 20000 in
theorem gX11_draw_X11_needRun : GoodIn wsX11_draw (wsV RX11 160 RX11 yX11_needRun wsX11_needRun) := goodIn_app (goodIn_of _ (by decide +kernel)) ggX11_draw_X11_needRun
set_option maxRecDepth 20000 in
theorem ggX11_again_X11_needRun : GoodIn wsX11_again wsX11_needRun := goodIn_ca (goodIn_r _ [13, 14, 15, 16, 321, 322, 323, 324, 325, 326, 327, 328, 329, 330, 331, 332, 333] (by decide +kernel) (by decide +kernel)) (goodIn_sub (fun _ h => List.mem_cons_of_mem _ (List.mem_append_right _ h)) (by decide +kernel))
set_option maxRecDepth 20000 in
theorem gX11_again_X11_needRun : GoodIn wsX11_again (wsV RX11 160 RX11 yX11_needRun wsX11_needRun) := goodIn_app (goodIn_of _ (by decide +kernel)) ggX11_again_X11_needRun
set_option maxRecDepth 20000 in
theorem ggX11_run_X11_needRun : GoodIn wsX11_run wsX11_needRun := goodIn_ca (goodIn_r _ [12, 13, 14, 15, 55, 56, 57, 58, 59, 60, 61, 62, 63, 64, 65, 66, 67] (by decide +kernel) (by decide +kernel)) (goodIn_sub (fun _ h => List.mem_cons_of_mem _ (List.mem_append_left _ (List.mem_append_right _ h))) (by decide +kernel))
set_option maxRecDepth 20000 in
theorem gX11_run_X11_needRun : GoodIn wsX11_run (wsV RX11 160 RX11 yX11_needRun wsX11_needRun) := goodIn_app (goodIn_of _ (by decide +kernel)) ggX11_run_X11_needRun
set_option maxRecDepth 20000 in
theorem ggX11_cell_X11_needRun : GoodIn wsX11_cell wsX11_needRun := goodIn_ca (goodIn_r _ [9, 10, 11, 12, 18, 19, 20, 21, 22, 23, 24, 25, 26, 27, 28, 29, 30] (by decide +kernel) (by decide +kernel)) (goodIn_sub (fun _ h => List.mem_cons_of_mem _ (List.mem_append_left _ (List.mem_append_right _ h))) (by decide +kernel))
set_option maxRecDepth 20000 in
theorem gX11_cell_X11_needRun : GoodIn wsX11_cell (wsV RX11 160 RX11 yX11_needRun wsX11_needRun) := goodIn_app (goodIn_of _ (by decide +kernel)) ggX11_cell_X11_needRun
