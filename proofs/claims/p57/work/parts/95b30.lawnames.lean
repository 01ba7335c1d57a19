/-! ===== the law's names, words 30 ===== -/
set_option maxRecDepth 20000 in
theorem ggL_law_L_undone_p12 : GoodIn wsL_law wsL_undone_r12 := goodIn_r _ [234, 235, 236, 237, 415, 416, 417, 418, 419, 420, 421, 422, 423, 424, 425, 426, 427, 428, 429, 430, 431, 432, 433, 434] (by decide +kernel) (by decide +kernel)
set_option maxRecDepth 20000 in
theorem ggL_law_L_undone_p13 : GoodIn wsL_law wsL_undone_r13 := goodIn_r _ [238, 239, 240, 241, 242, 243, 244, 245, 246, 247, 248, 249, 250, 44, 251, 252, 253, 43, 254, 255, 256, 257, 81, 258] (by decide +kernel) (by decide +kernel)
set_option maxRecDepth 20000 in
theorem ggL_law_L_undone_p14 : GoodIn wsL_law wsL_undone_r14 := goodIn_r _ [259, 260, 261, 262, 263, 264, 265, 266, 267, 268, 269, 270, 271, 272, 273, 274, 275, 395, 396, 397, 398, 399, 400, 401] (by decide +kernel) (by decide +kernel)
set_option maxRecDepth 20000 in
theorem ggL_law_L_undone_p15 : GoodIn wsL_law wsL_undone_r15 := goodIn_r _ [402, 403, 404, 405, 387, 406, 407, 408, 409, 353, 410, 411, 412, 413, 414, 376, 377, 378, 379, 380, 381, 382, 383, 384] (by decide +kernel) (by decide +kernel)
set_option maxRecDepth 20000 in
theorem ggL_law_L_undone_p16 : GoodIn wsL_law wsL_undone_r16 := goodIn_r _ [385, 386, 391, 392, 393, 394, 360, 361, 362, 363, 364, 365, 366, 367, 368, 369, 370, 371, 372, 373, 374, 375, 295, 811] (by decide +kernel) (by decide +kernel)
set_option maxRecDepth 20000 in
theorem ggL_law_L_undone_p17 : GoodIn wsL_law wsL_undone_r17 := goodIn_r _ [106, 107, 108, 109, 110, 111, 112, 11, 12, 113, 114, 115, 116, 117, 118, 119, 120, 121, 122, 123, 124, 897, 898, 899] (by decide +kernel) (by decide +kernel)
