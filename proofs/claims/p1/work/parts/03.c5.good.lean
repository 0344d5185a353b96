set_option maxRecDepth 20000 in
theorem ggX11_show_X11_firstState : GoodIn wsX11_show wsX11_firstState := goodIn_r _ [19, 3, 20, 21, 22, 23, 9, 24, 25, 342, 343, 344, 345, 346, 347, 348, 349, 350, 351, 352, 353, 354, 355, 356, 357, 358, 359, 360, 361, 362, 363, 364, 365, 366, 367, 368] (by decide +kernel) (by decide +kernel)
set_option maxRecDepth 20000 in
theorem gX11_show_X11_firstState : GoodIn wsX11_show (wsV RX11 334 RX11 yX11_firstState wsX11_firstState) := goodIn_app (goodIn_of _ (by decide +kernel)) ggX11_show_X11_firstState
set_option maxRecDepth 20000 in
theorem ggX11_common_X11_needWay : GoodIn wsX11_common wsX11_needWay := goodIn_ca (goodIn_r _ [10, 11, 12] (by decide +kernel) (by decide +kernel)) (goodIn_sub (fun _ h => List.mem_cons_of_mem _ (List.mem_append_left _ (List.mem_append_right _ h))) (by decide +kernel))
set_option maxRecDepth 20000 in
theorem gX11_common_X11_needWay : GoodIn wsX11_common (va_wsS RX11 151 yX11_needWay wsX11_needWay) := goodIn_app (goodIn_of _ (by decide +kernel)) ggX11_common_X11_needWay
set_option maxRecDepth 20000 in
theorem ggX11_common_X11_needIndex : GoodIn wsX11_common wsX11_needIndex := goodIn_ca (goodIn_r _ [15, 16, 17] (by decide +kernel) (by decide +kernel)) (goodIn_sub (fun _ h => List.mem_cons_of_mem _ (List.mem_append_right _ h)) (by decide +kernel))
set_option maxRecDepth 20000 in
theorem gX11_common_X11_needIndex : GoodIn wsX11_common (va_wsS RX11 163 yX11_needIndex wsX11_needIndex) := goodIn_app (goodIn_of _ (by decide +kernel)) ggX11_common_X11_needIndex
set_option maxRecDepth 20000 in
theorem ggX11_ring_X11_needWay : GoodIn wsX11_ring wsX11_needWay := goodIn_ca (goodIn_r _ [5, 6, 7] (by decide +kernel) (by decide +kernel)) (goodIn_sub (fun _ h => List.mem_cons_of_mem _ (List.mem_append_right _ h)) (by decide +kernel))
set_option maxRecDepth 20000 in
theorem gX11_ring_X11_needWay : GoodIn wsX11_ring (va_wsS RX11 151 yX11_needWay wsX11_needWay) := goodIn_app (goodIn_of _ (by decide +kernel)) ggX11_ring_X11_needWay
set_option maxRecDepth 20000 in
theorem ggX11_ring_X11_wasTried : GoodIn wsX11_ring wsX11_wasTried := goodIn_r _ [11, 1, 12, 23, 24, 25, 26, 27, 28, 29, 30, 31, 32, 33, 34, 35, 36, 37, 38, 39, 40, 41, 42, 43, 44, 45, 46, 47, 48, 49] (by decide +kernel) (by decide +kernel)
set_option maxRecDepth 20000 in
theorem gX11_ring_X11_wasTried : GoodIn wsX11_ring (wsV RX11 309 RX11 yX11_wasTried wsX11_wasTried) := goodIn_app (goodIn_of _ (by decide +kernel)) ggX11_ring_X11_wasTried
set_option maxRecDepth 20000 in
theorem ggX11_alike_X11_wasTried : GoodIn wsX11_alike wsX11_wasTried := goodIn_r _ [9, 1, 10, 22, 23, 24, 25, 26, 27, 28, 29, 30, 31, 32, 33, 34, 35, 36, 37, 38, 39, 40, 41, 42, 43, 44, 45, 46, 47, 48] (by decide +kernel) (by decide +kernel)
set_option maxRecDepth 20000 in
theorem gX11_alike_X11_wasTried : GoodIn wsX11_alike (wsV RX11 309 RX11 yX11_wasTried wsX11_wasTried) := goodIn_app (goodIn_of _ (by decide +kernel)) ggX11_alike_X11_wasTried
set_option maxRecDepth 20000 in
theorem ggX11_firstState_X11_wasTried : GoodIn wsX11_firstState wsX11_wasTried := goodIn_r _ [7, 1, 8, 9, 10, 11, 12, 13, 14, 15, 16, 17, 18, 19, 20, 21, 22, 23, 24, 25, 26, 27, 28, 29, 30, 31, 32, 33, 34, 35] (by decide +kernel) (by decide +kernel)
set_option maxRecDepth 20000 in
theorem gX11_firstState_X11_wasTried : GoodIn wsX11_firstState (wsV RX11 309 RX11 yX11_wasTried wsX11_wasTried) := goodIn_app (goodIn_of _ (by decide +kernel)) ggX11_firstState_X11_wasTried
set_option maxRecDepth 20000 in
theorem ggL_feed_X11_feed : GoodIn wsL_feed wsX11_feed := goodIn_ca (goodIn_r _ [6, 7, 8, 9, 10, 11, 12, 13, 14, 15, 16, 17, 18, 19, 20, 5, 21, 22, 23, 24, 25, 26, 27, 28, 29, 30, 31, 32, 33, 34, 35, 36, 37, 38, 39, 40, 41, 42, 43, 44, 45, 46, 47, 48, 49, 50, 51, 52, 53, 54, 55, 56, 57, 58, 59, 60, 61, 62] (by decide +kernel) (by decide +kernel)) (goodIn_sub (fun _ h => List.mem_cons_of_mem _ (List.mem_append_right _ h)) (by decide +kernel))
set_option maxRecDepth 20000 in
theorem gL_feed_X11_feed : GoodIn wsL_feed (wsV RL 7 RX11 yX11_feed wsX11_feed) := goodIn_app (goodIn_of _ (by decide +kernel)) ggL_feed_X11_feed
set_option maxRecDepth 20000 in
theorem ggL_fault_X11_fault : GoodIn wsL_fault wsX11_fault := goodIn_ca (goodIn_r _ [6, 7, 8, 9, 10, 11, 12, 13, 14, 15, 16, 17, 18, 19, 20, 21, 22, 23] (by decide +kernel) (by decide +kernel)) (goodIn_sub (fun _ h => List.mem_cons_of_mem _ (List.mem_append_right _ h)) (by decide +kernel))
set_option maxRecDepth 20000 in
theorem gL_fault_X11_fault : GoodIn wsL_fault (wsV RL 15 RX11 yX11_fault wsX11_fault) := goodIn_app (goodIn_of _ (by decide +kernel)) ggL_fault_X11_fault
set_option maxRecDepth 20000 in
theorem ggL_count_X11_count : GoodIn wsL_count wsX11_count := goodIn_ca (goodIn_r _ [6, 7, 8, 9, 10, 11, 12, 13, 14, 15, 5, 16, 17, 18, 19, 20, 21, 22, 23, 24, 25, 26, 27, 28, 29, 30, 31, 32, 33, 34, 35, 36, 37, 38, 39, 40, 41, 42, 43, 44, 45, 46, 47, 48, 49] (by decide +kernel) (by decide +kernel)) (goodIn_sub (fun _ h => List.mem_cons_of_mem _ (List.mem_append_right _ h)) (by decide +kernel))
set_option maxRecDepth 20000 in
theorem gL_count_X11_count : GoodIn wsL_count (wsV RL 21 RX11 yX11_count wsX11_count) := goodIn_app (goodIn_of _ (by decide +kernel)) ggL_count_X11_count
