set_option maxRecDepth 20000 in
theorem ggX11_init_X7_init : GoodIn wsX11_init wsX7_init := goodIn_r _ [89, 90, 2, 3, 91, 92, 93, 94, 95, 38, 96, 97, 98, 99, 100, 101, 102, 193, 194, 195, 196, 197, 198, 199, 200, 201, 202, 203, 204, 205, 206, 207, 208, 209, 210, 175, 176, 177, 178, 179, 180, 181, 182, 183, 184, 185, 186, 187, 188, 189, 190, 191, 192] (by decide +kernel) (by decide +kernel)
set_option maxRecDepth 20000 in
theorem gX11_init_X7_init : GoodIn wsX11_init (wsX7_init) := ggX11_init_X7_init
set_option maxRecDepth 20000 in
theorem ggX11_init_X5_init : GoodIn wsX11_init wsX5_init := goodIn_r _ [105, 106, 2, 3, 107, 108, 109, 110, 111, 112, 113, 38, 114, 115, 116, 117, 118, 119, 120, 211, 212, 213, 214, 215, 216, 217, 218, 219, 220, 221, 222, 223, 224, 225, 175, 176, 177, 178, 179, 180, 181, 182, 183, 184, 185, 186, 187, 188, 189, 190, 191, 192, 254, 255, 256, 257, 258, 259, 260] (by decide +kernel) (by decide +kernel)
set_option maxRecDepth 20000 in
theorem gX11_init_X5_init : GoodIn wsX11_init (wsX5_init) := ggX11_init_X5_init
set_option maxRecDepth 20000 in
theorem ggX11_init_X4_init : GoodIn wsX11_init wsX4_init := goodIn_r _ [123, 124, 2, 3, 125, 38, 126, 127, 128, 129, 130, 131, 68, 132, 133, 134, 135, 136, 137, 138, 139, 226, 227, 228, 229, 230, 231, 232, 233, 234, 235, 236, 237, 238, 239, 240, 241, 242, 243] (by decide +kernel) (by decide +kernel)
set_option maxRecDepth 20000 in
theorem gX11_init_X4_init : GoodIn wsX11_init (wsX4_init) := ggX11_init_X4_init
set_option maxRecDepth 20000 in
theorem ggX11_feed_X9_addByte : GoodIn wsX11_feed wsX9_addByte := goodIn_r _ [9, 10, 11, 34, 35, 36, 37, 38, 39, 40, 41, 42, 43] (by decide +kernel) (by decide +kernel)
set_option maxRecDepth 20000 in
theorem gX11_feed_X9_addByte : GoodIn wsX11_feed (wsV RX11 82 RX9 yX9_addByte wsX9_addByte) := goodIn_app (goodIn_of _ (by decide +kernel)) ggX11_feed_X9_addByte
set_option maxRecDepth 20000 in
theorem ggX11_feed_X11_forgetAll : GoodIn wsX11_feed wsX11_forgetAll := goodIn_r _ [16, 17, 18, 19, 20, 21, 22, 23, 24, 25, 26, 27, 28, 29, 30, 31, 32, 33, 44, 45, 46, 47, 48, 49, 50, 51, 52, 53, 54, 55, 56, 57] (by decide +kernel) (by decide +kernel)
set_option maxRecDepth 20000 in
theorem gX11_feed_X11_forgetAll : GoodIn wsX11_feed (wsV RX11 86 RX11 yX11_forgetAll wsX11_forgetAll) := goodIn_app (goodIn_of _ (by decide +kernel)) ggX11_feed_X11_forgetAll
set_option maxRecDepth 20000 in
theorem ggX11_wipe_X11_forgetAll : GoodIn wsX11_wipe wsX11_forgetAll := goodIn_r _ [7, 8, 9, 10, 11, 12, 13, 14, 15, 16, 17, 18, 19, 20, 21, 22, 23, 24, 35, 36, 37, 38, 39, 40, 41, 42, 43, 44, 45, 46, 47, 48] (by decide +kernel) (by decide +kernel)
set_option maxRecDepth 20000 in
theorem gX11_wipe_X11_forgetAll : GoodIn wsX11_wipe (wsV RX11 86 RX11 yX11_forgetAll wsX11_forgetAll) := goodIn_app (goodIn_of _ (by decide +kernel)) ggX11_wipe_X11_forgetAll
set_option maxRecDepth 20000 in
theorem ggX11_compile_X11_forgetAll : GoodIn wsX11_compile wsX11_forgetAll := goodIn_r _ [18, 7, 19, 20, 21, 459, 460, 461, 462, 463, 464, 465, 466, 467, 468, 469, 470, 471, 530, 531, 532, 533, 534, 535, 536, 537, 538, 539, 540, 541, 542, 543] (by decide +kernel) (by decide +kernel)
set_option maxRecDepth 20000 in
theorem gX11_compile_X11_forgetAll : GoodIn wsX11_compile (wsV RX11 86 RX11 yX11_forgetAll wsX11_forgetAll) := goodIn_app (goodIn_of _ (by decide +kernel)) ggX11_compile_X11_forgetAll
set_option maxRecDepth 20000 in
theorem ggX11_compile_X9_cut : GoodIn wsX11_compile wsX9_cut := goodIn_r _ [26, 27, 28, 29, 30, 31, 32, 33, 34, 35, 36, 25, 37, 38, 39, 40, 41, 42, 43, 44, 45, 46, 47, 48, 49, 50, 51, 52, 53, 54, 55, 56, 57, 58, 59, 60, 61, 62, 63, 64, 65, 66, 67, 68, 69, 70, 71, 72, 73, 74, 75, 76, 77, 78, 79, 80, 81, 82, 83, 84, 85, 86, 87, 88, 89, 90, 91, 92, 93, 94, 95, 96, 97, 98, 99, 100, 101, 102, 103, 104, 105, 106, 107, 108, 109, 110, 111, 112, 113, 114, 115, 116, 117, 118, 502, 503, 504, 505, 506, 507, 508, 509, 510, 511] (by decide +kernel) (by decide +kernel)
set_option maxRecDepth 20000 in
theorem gX11_compile_X9_cut : GoodIn wsX11_compile (wsV RX11 89 RX9 yX9_cut wsX9_cut) := goodIn_app (goodIn_of _ (by decide +kernel)) ggX11_compile_X9_cut
set_option maxRecDepth 20000 in
theorem ggX11_compile_X7_readAll : GoodIn wsX11_compile wsX7_readAll := goodIn_ca (goodIn_r _ [123, 124, 125, 126, 127, 128, 129, 130, 131, 132, 133, 134, 135, 136, 137, 138, 139, 140, 141, 142, 143, 144, 145, 146, 147, 148, 149, 150, 151, 152, 153, 154, 155, 156, 157, 158, 159, 122, 160, 161, 162, 163, 164, 165, 166, 167, 168, 169, 170, 171, 172, 173, 174, 175, 176, 177, 178, 179, 180, 181, 182, 183, 184, 185, 186, 187, 188, 189, 190, 191, 192, 193, 194, 195, 196, 197, 198, 199, 200, 201, 202, 203, 204, 205, 206, 207, 208, 209, 210, 211, 212, 213, 214, 215, 216, 217, 218, 219, 220, 221, 222, 223, 224, 225, 226, 227, 228, 229, 230, 231, 232, 233, 234, 235, 236, 237, 238, 239, 240, 241, 242, 243, 244, 245, 246, 247, 248, 249, 250, 251, 252, 253, 254, 255, 256, 257, 258, 259, 260, 261, 262, 263, 264, 265, 266, 267, 268, 269, 270, 271, 272, 273, 274, 275, 276, 277, 278, 279, 280, 281, 282, 283, 284, 285, 286, 287, 288, 289, 290, 291, 292, 293, 294, 295, 296, 297, 298, 299, 300, 301, 302, 303, 304, 305, 306, 307, 308, 309, 310, 311, 312, 313, 314, 315, 316, 25, 317, 62, 54, 42, 31, 318, 319, 320, 321, 322, 323, 324, 325, 326, 327, 328, 329, 330, 331, 332, 333, 334, 335, 336, 337, 338, 339, 340, 341, 342, 343, 344, 345, 346, 347, 348, 349, 350, 351, 352, 353, 354, 355, 356, 357, 358, 359, 360, 361, 362, 363, 364, 365, 366, 367, 368, 369, 370, 371, 372, 373, 374, 375, 376, 377, 378, 379, 380, 381, 382, 383, 384, 385, 386, 387, 388, 389, 390, 391, 392, 393, 394, 395, 396, 397, 398, 399, 400, 401, 402, 403, 404, 405, 406, 407, 408, 409, 410, 484, 485, 486, 487, 488, 489, 490, 491, 492, 493, 494, 495, 496, 497, 498, 499, 500, 501, 472, 473, 474, 475, 476, 477, 478, 479, 480, 481, 482, 483, 512, 513, 514, 515, 516, 517, 518, 519, 520, 521, 522, 523, 524, 525, 526, 527, 528, 529, 544, 545, 546, 547, 548, 549, 550, 551, 552, 553, 502, 503, 504, 505, 506, 507, 508, 509, 510, 511] (by decide +kernel) (by decide +kernel)) (goodIn_sub (fun _ h => List.mem_cons_of_mem _ (List.mem_append_right _ h)) (by decide +kernel))
set_option maxRecDepth 20000 in
theorem gX11_compile_X7_readAll : GoodIn wsX11_compile (wsV RX11 92 RX7 yX7_readAll wsX7_readAll) := goodIn_app (goodIn_of _ (by decide +kernel)) ggX11_compile_X7_readAll
set_option maxRecDepth 20000 in
theorem ggX11_compile_X6_judge : GoodIn wsX11_compile wsX6_judge := goodIn_r _ [414, 415, 416, 137, 417, 418, 419, 420, 132, 421, 138, 233, 135, 250, 136, 422, 217, 423, 424, 425, 426, 215, 134, 427, 428, 429, 430, 431, 315, 316, 25, 317, 62, 54, 42, 31, 432, 433, 434, 435, 436, 200, 201, 437, 438, 439, 440, 441, 442, 443, 444, 472, 473, 474, 475, 476, 477, 478, 479, 480, 481, 482, 483, 502, 503, 504, 505, 506, 507, 508, 509, 510, 511] (by decide +kernel) (by decide +kernel)
set_option maxRecDepth 20000 in
theorem gX11_compile_X6_judge : GoodIn wsX11_compile (wsV RX11 95 RX6 yX6_judge wsX6_judge) := goodIn_app (goodIn_of _ (by decide +kernel)) ggX11_compile_X6_judge
