abbrev iSE : String := "java/lang/IllegalStateException"
abbrev iAE : String := "java/lang/IllegalArgumentException"
abbrev iOE : String := "java/lang/IndexOutOfBoundsException"
abbrev up2 : List String := ["java/lang/RuntimeException", "java/lang/Exception"]
theorem tw_l {C : String} {U : u_T} {N : Nat} {ps : List Nat} (h : ∀ k, k < N → lw_tbl[ps.getD k 0]? = some (u_lay C U k)) : ∀ w ∈ u_ws C U N, w ∈ lw_tbl := by
  intro w hw
  obtain ⟨k, hk, e⟩ := List.mem_map.mp hw
  rw [← e]
  exact List.mem_of_getElem? (h k (List.mem_range.mp hk))
theorem tw_X0 : ∀ w ∈ wsX00, w ∈ lw_tbl := tw_l (ps := [455, 457, 459, 461, 463, 465, 467, 469, 471, 473, 475, 477, 479, 481, 483, 485, 487, 489]) (by decide +kernel)
theorem tw_X1 : ∀ w ∈ wsX10, w ∈ lw_tbl := tw_l (ps := [586, 588, 590, 592, 594, 596, 598]) (by decide +kernel)
theorem tw_X2 : ∀ w ∈ wsX20, w ∈ lw_tbl := tw_l (ps := [1798, 1800, 1802, 1804, 1806, 1808, 1810, 1812, 1814, 1816]) (by decide +kernel)
theorem tw_X3 : ∀ w ∈ wsX30, w ∈ lw_tbl := tw_l (ps := [1692, 1694, 1696, 1698, 1700, 1702, 1704, 1706, 1708, 1710, 1712, 1714, 1716]) (by decide +kernel)
theorem tw_X4 : ∀ w ∈ wsX40, w ∈ lw_tbl := tw_l (ps := [698, 700, 702, 704, 706, 708, 710, 712, 714, 716, 718, 720, 722, 724, 726, 728, 730, 732]) (by decide +kernel)
theorem tw_X5 : ∀ w ∈ wsX50, w ∈ lw_tbl := tw_l (ps := [628, 630, 632, 634, 636, 638, 640, 642, 644, 646, 648, 650, 652, 654, 656]) (by decide +kernel)
theorem tw_X6 : ∀ w ∈ wsX60, w ∈ lw_tbl := tw_l (ps := [311, 313, 315, 317, 319, 321, 323, 325, 327, 329, 331, 333]) (by decide +kernel)
theorem tw_X7 : ∀ w ∈ wsX70, w ∈ lw_tbl := tw_l (ps := [518, 520, 522, 524, 526, 528, 530, 532, 534, 536, 538, 540, 542, 544, 546, 548, 550, 552]) (by decide +kernel)
theorem tw_X8 : ∀ w ∈ wsX80, w ∈ lw_tbl := tw_l (ps := [377, 379, 381, 383, 385, 387, 389, 391, 393, 395]) (by decide +kernel)
theorem tw_X9 : ∀ w ∈ wsX90, w ∈ lw_tbl := tw_l (ps := [265, 267, 269, 271, 273, 275, 277, 279, 281, 283]) (by decide +kernel)
theorem tw_X10 : ∀ w ∈ wsX100, w ∈ lw_tbl := tw_l (ps := [1854, 1856, 1858, 1860, 1862, 1864, 1866, 1868, 1870, 1872, 1874, 1876, 1878, 1880]) (by decide +kernel)
theorem tw_X11 : ∀ w ∈ wsX110, w ∈ lw_tbl := tw_l (ps := [750, 752, 754, 756, 758, 760, 762, 764, 766, 768, 770, 772, 774]) (by decide +kernel)
theorem tw_X12 : ∀ w ∈ wsX120, w ∈ lw_tbl := tw_l (ps := [2210, 2212, 2214, 2216, 2218, 2220, 2222, 2224, 2226, 2228, 2230, 2232, 2234, 2236, 2238, 2240, 2242, 2244, 2246, 2248, 2250, 2252, 2254, 2256, 2258, 2260, 2262, 2264, 2266, 2268, 2270, 2272, 2274, 2276, 2278, 2280, 2282, 2284, 2286, 2288, 2290, 2292, 2294, 2296, 2298, 2300, 2302, 2304, 2306, 2308, 2310, 2312, 2314, 2316, 2318, 2320, 2322, 2324, 2326, 2328, 2330, 2332, 2334, 2336, 2338, 2340, 2342, 2344, 2346, 2348, 2350, 2352, 2354, 2356, 2358, 2360, 2362, 2364, 2366, 2368, 2370, 2372, 2374, 2376, 2378, 2380, 2382, 2384, 2386, 2388, 2390, 2392, 2394, 2396, 2398, 2400, 2402, 2404, 2406, 2408, 2410, 2412, 2414, 2416, 2418, 2420, 2422, 2424, 2426, 2428, 2430, 2432, 2434, 2436, 2438, 2440, 2442, 2444, 2446, 2448, 2450, 2452, 2454, 2456, 2458, 2460, 2462, 2464, 2466, 2468, 2470, 2472, 2474, 2476, 2478, 2480, 2482, 2484, 2486]) (by decide +kernel)
