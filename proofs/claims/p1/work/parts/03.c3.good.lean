set_option maxRecDepth 20000 in
theorem ggX11_seen_X11_needRun : GoodIn wsX11_seen wsX11_needRun := goodIn_ca (goodIn_r _ [9, 10, 11, 12, 39, 40, 41, 42, 43, 44, 45, 46, 47, 48, 49, 50, 51] (by decide +kernel) (by decide +kernel)) (goodIn_sub (fun _ h => List.mem_cons_of_mem _ (List.mem_append_left _ (List.mem_append_right _ h))) (by decide +kernel))
set_option maxRecDepth 20000 in
theorem gX11_seen_X11_needRun : GoodIn wsX11_seen (wsV RX11 160 RX11 yX11_needRun wsX11_needRun) := goodIn_app (goodIn_of _ (by decide +kernel)) ggX11_seen_X11_needRun
set_option maxRecDepth 20000 in
theorem ggX11_lock_X11_needRun : GoodIn wsX11_lock wsX11_needRun := goodIn_ca (goodIn_r _ [8, 9, 10, 11, 50, 51, 52, 53, 54, 55, 56, 57, 58, 59, 60, 61, 62] (by decide +kernel) (by decide +kernel)) (goodIn_sub (fun _ h => List.mem_cons_of_mem _ (List.mem_append_left _ (List.mem_append_right _ h))) (by decide +kernel))
set_option maxRecDepth 20000 in
theorem gX11_lock_X11_needRun : GoodIn wsX11_lock (wsV RX11 160 RX11 yX11_needRun wsX11_needRun) := goodIn_app (goodIn_of _ (by decide +kernel)) ggX11_lock_X11_needRun
set_option maxRecDepth 20000 in
theorem ggX11_thread_X11_needRun : GoodIn wsX11_thread wsX11_needRun := goodIn_ca (goodIn_r _ [8, 9, 10, 11, 44, 45, 46, 47, 48, 49, 50, 51, 52, 53, 54, 55, 56] (by decide +kernel) (by decide +kernel)) (goodIn_sub (fun _ h => List.mem_cons_of_mem _ (List.mem_append_left _ (List.mem_append_right _ h))) (by decide +kernel))
set_option maxRecDepth 20000 in
theorem gX11_thread_X11_needRun : GoodIn wsX11_thread (wsV RX11 160 RX11 yX11_needRun wsX11_needRun) := goodIn_app (goodIn_of _ (by decide +kernel)) ggX11_thread_X11_needRun
set_option maxRecDepth 20000 in
theorem ggX11_local_X11_needRun : GoodIn wsX11_local wsX11_needRun := goodIn_ca (goodIn_r _ [8, 9, 10, 11, 32, 33, 34, 35, 36, 37, 38, 39, 40, 41, 42, 43, 44] (by decide +kernel) (by decide +kernel)) (goodIn_sub (fun _ h => List.mem_cons_of_mem _ (List.mem_append_left _ (List.mem_append_right _ h))) (by decide +kernel))
set_option maxRecDepth 20000 in
theorem gX11_local_X11_needRun : GoodIn wsX11_local (wsV RX11 160 RX11 yX11_needRun wsX11_needRun) := goodIn_app (goodIn_of _ (by decide +kernel)) ggX11_local_X11_needRun
set_option maxRecDepth 20000 in
theorem ggX11_act_X11_needRun : GoodIn wsX11_act wsX11_needRun := goodIn_ca (goodIn_r _ [12, 13, 14, 15, 24, 25, 26, 27, 28, 29, 30, 31, 32, 33, 34, 35, 36] (by decide +kernel) (by decide +kernel)) (goodIn_sub (fun _ h => List.mem_cons_of_mem _ (List.mem_append_left _ (List.mem_append_right _ h))) (by decide +kernel))
set_option maxRecDepth 20000 in
theorem gX11_act_X11_needRun : GoodIn wsX11_act (wsV RX11 160 RX11 yX11_needRun wsX11_needRun) := goodIn_app (goodIn_of _ (by decide +kernel)) ggX11_act_X11_needRun
set_option maxRecDepth 20000 in
theorem ggX11_before_X11_needRun : GoodIn wsX11_before wsX11_needRun := goodIn_ca (goodIn_r _ [7, 8, 9, 10, 23, 24, 25, 26, 27, 28, 29, 30, 31, 32, 33, 34, 35] (by decide +kernel) (by decide +kernel)) (goodIn_sub (fun _ h => List.mem_cons_of_mem _ (List.mem_append_left _ (List.mem_append_right _ h))) (by decide +kernel))
set_option maxRecDepth 20000 in
theorem gX11_before_X11_needRun : GoodIn wsX11_before (wsV RX11 160 RX11 yX11_needRun wsX11_needRun) := goodIn_app (goodIn_of _ (by decide +kernel)) ggX11_before_X11_needRun
set_option maxRecDepth 20000 in
theorem ggX11_race_X11_needRun : GoodIn wsX11_race wsX11_needRun := goodIn_ca (goodIn_r _ [6, 7, 8, 9, 55, 56, 57, 58, 59, 60, 61, 62, 63, 64, 65, 66, 67] (by decide +kernel) (by decide +kernel)) (goodIn_sub (fun _ h => List.mem_cons_of_mem _ (List.mem_append_left _ (List.mem_append_right _ h))) (by decide +kernel))
set_option maxRecDepth 20000 in
theorem gX11_race_X11_needRun : GoodIn wsX11_race (wsV RX11 160 RX11 yX11_needRun wsX11_needRun) := goodIn_app (goodIn_of _ (by decide +kernel)) ggX11_race_X11_needRun
set_option maxRecDepth 20000 in
theorem ggX11_linear_X11_needRun : GoodIn wsX11_linear wsX11_needRun := goodIn_ca (goodIn_r _ [13, 14, 15, 16, 100, 101, 102, 103, 104, 105, 106, 107, 108, 109, 110, 111, 112] (by decide +kernel) (by decide +kernel)) (goodIn_sub (fun _ h => List.mem_cons_of_mem _ (List.mem_append_right _ h)) (by decide +kernel))
set_option maxRecDepth 20000 in
theorem gX11_linear_X11_needRun : GoodIn wsX11_linear (wsV RX11 160 RX11 yX11_needRun wsX11_needRun) := goodIn_app (goodIn_of _ (by decide +kernel)) ggX11_linear_X11_needRun
set_option maxRecDepth 20000 in
theorem ggX11_attempt_X11_needCompiled : GoodIn wsX11_attempt wsX11_needCompiled := goodIn_ca (goodIn_r _ [17, 18, 19, 20, 440, 441, 442, 443, 444, 445, 446, 447, 448, 449, 450, 451, 452] (by decide +kernel) (by decide +kernel)) (goodIn_sub (fun _ h => List.mem_cons_of_mem _ (List.mem_append_right _ h)) (by decide +kernel))
set_option maxRecDepth 20000 in
theorem gX11_attempt_X11_needCompiled : GoodIn wsX11_attempt (wsV RX11 148 RX11 yX11_needCompiled wsX11_needCompiled) := goodIn_app (goodIn_of _ (by decide +kernel)) ggX11_attempt_X11_needCompiled
set_option maxRecDepth 20000 in
theorem ggX11_tried_X11_needWay : GoodIn wsX11_tried wsX11_needWay := goodIn_ca (goodIn_r _ [11, 12, 13] (by decide +kernel) (by decide +kernel)) (goodIn_sub (fun _ h => List.mem_cons_of_mem _ (List.mem_append_left _ (List.mem_append_right _ h))) (by decide +kernel))
set_option maxRecDepth 20000 in
theorem gX11_tried_X11_needWay : GoodIn wsX11_tried (va_wsS RX11 151 yX11_needWay wsX11_needWay) := goodIn_app (goodIn_of _ (by decide +kernel)) ggX11_tried_X11_needWay
