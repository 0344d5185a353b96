theorem dX11_needRun_0 : decode cX11_needRun 0 = .ok (.aload_n 0, 1) := by decide +kernel
theorem dX11_needRun_1 : decode cX11_needRun 1 = .ok (.getfield 358, 3) := by decide +kernel
theorem dX11_needRun_4 : decode cX11_needRun 4 = .ok (.ifCond .ne 14, 3) := by decide +kernel
theorem dX11_needRun_7 : decode cX11_needRun 7 = .ok (.new 102, 3) := by decide +kernel
theorem dX11_needRun_10 : decode cX11_needRun 10 = .ok (.dup, 1) := by decide +kernel
theorem dX11_needRun_11 : decode cX11_needRun 11 = .ok (.ldc_w 386, 3) := by decide +kernel
theorem dX11_needRun_14 : decode cX11_needRun 14 = .ok (.invokespecial 191, 3) := by decide +kernel
theorem dX11_needRun_17 : decode cX11_needRun 17 = .ok (.athrow, 1) := by decide +kernel
