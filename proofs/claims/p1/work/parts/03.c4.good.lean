set_option maxRecDepth 20000 in
theorem ggX11_tried_X11_needWhat : GoodIn wsX11_tried wsX11_needWhat := goodIn_ca (goodIn_r _ [16, 17, 18] (by decide +kernel) (by decide +kernel)) (goodIn_sub (fun _ h => List.mem_cons_of_mem _ (List.mem_append_right _ h)) (by decide +kernel))
set_option maxRecDepth 20000 in
theorem gX11_tried_X11_needWhat : GoodIn wsX11_tried (va_wsS RX11 132 yX11_needWhat wsX11_needWhat) := goodIn_app (goodIn_of _ (by decide +kernel)) ggX11_tried_X11_needWhat
set_option maxRecDepth 20000 in
theorem ggX11_tried_X11_wasTried : GoodIn wsX11_tried wsX11_wasTried := goodIn_r _ [22, 1, 2, 23, 24, 25, 26, 27, 28, 29, 30, 31, 32, 33, 34, 35, 36, 37, 38, 39, 40, 41, 42, 43, 44, 45, 46, 47, 48, 49] (by decide +kernel) (by decide +kernel)
set_option maxRecDepth 20000 in
theorem gX11_tried_X11_wasTried : GoodIn wsX11_tried (wsV RX11 309 RX11 yX11_wasTried wsX11_wasTried) := goodIn_app (goodIn_of _ (by decide +kernel)) ggX11_tried_X11_wasTried
set_option maxRecDepth 20000 in
theorem ggX11_outcome_X11_needWay : GoodIn wsX11_outcome wsX11_needWay := goodIn_ca (goodIn_r _ [8, 9, 10] (by decide +kernel) (by decide +kernel)) (goodIn_sub (fun _ h => List.mem_cons_of_mem _ (List.mem_append_left _ (List.mem_append_right _ h))) (by decide +kernel))
set_option maxRecDepth 20000 in
theorem gX11_outcome_X11_needWay : GoodIn wsX11_outcome (va_wsS RX11 151 yX11_needWay wsX11_needWay) := goodIn_app (goodIn_of _ (by decide +kernel)) ggX11_outcome_X11_needWay
set_option maxRecDepth 20000 in
theorem ggX11_outcome_X11_wasTried : GoodIn wsX11_outcome wsX11_wasTried := goodIn_r _ [14, 1, 15, 28, 29, 30, 31, 32, 33, 34, 35, 36, 37, 38, 39, 40, 41, 42, 43, 44, 45, 46, 47, 48, 49, 50, 51, 52, 53, 54] (by decide +kernel) (by decide +kernel)
set_option maxRecDepth 20000 in
theorem gX11_outcome_X11_wasTried : GoodIn wsX11_outcome (wsV RX11 309 RX11 yX11_wasTried wsX11_wasTried) := goodIn_app (goodIn_of _ (by decide +kernel)) ggX11_outcome_X11_wasTried
set_option maxRecDepth 20000 in
theorem ggX11_outcome_X11_needIndex : GoodIn wsX11_outcome wsX11_needIndex := goodIn_ca (goodIn_r _ [18, 19, 20] (by decide +kernel) (by decide +kernel)) (goodIn_sub (fun _ h => List.mem_cons_of_mem _ (List.mem_append_right _ h)) (by decide +kernel))
set_option maxRecDepth 20000 in
theorem gX11_outcome_X11_needIndex : GoodIn wsX11_outcome (va_wsS RX11 163 yX11_needIndex wsX11_needIndex) := goodIn_app (goodIn_of _ (by decide +kernel)) ggX11_outcome_X11_needIndex
set_option maxRecDepth 20000 in
theorem ggX11_finding_X11_needWay : GoodIn wsX11_finding wsX11_needWay := goodIn_ca (goodIn_r _ [6, 7, 8] (by decide +kernel) (by decide +kernel)) (goodIn_sub (fun _ h => List.mem_cons_of_mem _ (List.mem_append_right _ h)) (by decide +kernel))
set_option maxRecDepth 20000 in
theorem gX11_finding_X11_needWay : GoodIn wsX11_finding (va_wsS RX11 151 yX11_needWay wsX11_needWay) := goodIn_app (goodIn_of _ (by decide +kernel)) ggX11_finding_X11_needWay
set_option maxRecDepth 20000 in
theorem ggX11_finding_X11_needFinding : GoodIn wsX11_finding wsX11_needFinding := goodIn_ca (goodIn_r _ [11, 7, 8] (by decide +kernel) (by decide +kernel)) (goodIn_sub (fun _ h => List.mem_cons_of_mem _ (List.mem_append_right _ h)) (by decide +kernel))
set_option maxRecDepth 20000 in
theorem gX11_finding_X11_needFinding : GoodIn wsX11_finding (va_wsS RX11 331 yX11_needFinding wsX11_needFinding) := goodIn_app (goodIn_of _ (by decide +kernel)) ggX11_finding_X11_needFinding
set_option maxRecDepth 20000 in
theorem ggX11_finding_X11_firstState : GoodIn wsX11_finding wsX11_firstState := goodIn_r _ [15, 1, 16, 17, 18, 19, 5, 20, 21, 22, 23, 24, 25, 26, 27, 28, 29, 30, 31, 32, 33, 34, 35, 36, 37, 38, 39, 40, 41, 42, 43, 44, 45, 46, 47, 48] (by decide +kernel) (by decide +kernel)
set_option maxRecDepth 20000 in
theorem gX11_finding_X11_firstState : GoodIn wsX11_finding (wsV RX11 334 RX11 yX11_firstState wsX11_firstState) := goodIn_app (goodIn_of _ (by decide +kernel)) ggX11_finding_X11_firstState
set_option maxRecDepth 20000 in
theorem ggX11_show_X11_needWay : GoodIn wsX11_show wsX11_needWay := goodIn_ca (goodIn_r _ [10, 11, 12] (by decide +kernel) (by decide +kernel)) (goodIn_sub (fun _ h => List.mem_cons_of_mem _ (List.mem_append_right _ h)) (by decide +kernel))
set_option maxRecDepth 20000 in
theorem gX11_show_X11_needWay : GoodIn wsX11_show (va_wsS RX11 151 yX11_needWay wsX11_needWay) := goodIn_app (goodIn_of _ (by decide +kernel)) ggX11_show_X11_needWay
set_option maxRecDepth 20000 in
theorem ggX11_show_X11_needFinding : GoodIn wsX11_show wsX11_needFinding := goodIn_ca (goodIn_r _ [15, 11, 12] (by decide +kernel) (by decide +kernel)) (goodIn_sub (fun _ h => List.mem_cons_of_mem _ (List.mem_append_right _ h)) (by decide +kernel))
set_option maxRecDepth 20000 in
theorem gX11_show_X11_needFinding : GoodIn wsX11_show (va_wsS RX11 331 yX11_needFinding wsX11_needFinding) := goodIn_app (goodIn_of _ (by decide +kernel)) ggX11_show_X11_needFinding
