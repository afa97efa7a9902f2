set_option maxRecDepth 20000 in
theorem ggL_law_X3_hoist : GoodIn wsL_law wsX3_hoist := goodIn_r _ [294, 295, 89, 58, 61, 296, 297, 298, 5, 299, 300, 301, 302, 303, 62, 304, 305, 306, 307, 65, 308, 309, 310, 311, 312, 313, 314, 315, 316, 317, 318, 319, 320, 321, 322, 323, 324, 325, 326, 327, 328, 329, 330, 331, 332, 333, 334, 335, 336, 337, 338, 339, 340, 341, 342, 343, 344, 345, 346, 347, 348, 349, 350, 351, 352, 353, 354, 355, 356, 357, 358, 359, 360, 361, 362, 363, 364, 365, 366, 367, 945, 946, 947, 948, 949, 950, 951, 952, 953, 954, 955, 956, 957] (by decide +kernel) (by decide +kernel)
set_option maxRecDepth 20000 in
theorem gL_law_X3_hoist : GoodIn wsL_law (wsV RL 22 RX3 yX3_hoist wsX3_hoist) := goodIn_app (goodIn_of _ (by decide +kernel)) ggL_law_X3_hoist
set_option maxRecDepth 20000 in
theorem ggL_law_X2_thing : GoodIn wsL_law wsX2_thing := goodIn_r _ [371, 15, 372, 230, 231, 14, 232, 42, 72, 73, 74, 2, 75, 31, 373, 374, 375, 376, 44, 229, 377, 378, 379, 380, 45, 381, 382, 383, 384, 46, 385, 386, 387, 388, 47, 389, 273, 274, 275, 41, 276, 151, 148, 152, 277, 147, 149, 931, 932, 933, 934, 935, 936, 937, 938, 939, 940, 941, 942, 943, 944, 958, 959, 960, 961, 962, 963, 964, 965, 966] (by decide +kernel) (by decide +kernel)
set_option maxRecDepth 20000 in
theorem gL_law_X2_thing : GoodIn wsL_law (wsV RL 23 RX2 yX2_thing wsX2_thing) := goodIn_app (goodIn_of _ (by decide +kernel)) ggL_law_X2_thing
set_option maxRecDepth 20000 in
theorem ggL_law_X3_thing : GoodIn wsL_law wsX3_thing := goodIn_r _ [393, 58, 331, 332, 333, 5, 334, 315, 316, 317, 90, 91, 92, 93, 64, 325, 326, 327, 353, 354, 355, 356, 357, 358, 359, 360, 361, 362, 363, 364, 945, 946, 947, 948, 949, 950, 951, 952, 953, 954, 955, 956, 957] (by decide +kernel) (by decide +kernel)
set_option maxRecDepth 20000 in
theorem gL_law_X3_thing : GoodIn wsL_law (wsV RL 27 RX3 yX3_thing wsX3_thing) := goodIn_app (goodIn_of _ (by decide +kernel)) ggL_law_X3_thing
set_option maxRecDepth 20000 in
theorem ggL_law_X2_side : GoodIn wsL_law wsX2_side := goodIn_r _ [397, 15, 398, 399, 247, 14, 248, 72, 73, 74, 2, 75, 31, 400, 401, 402, 403, 404, 405, 406, 43, 246, 407, 408, 409, 410, 42, 411, 412, 382, 383, 384, 46, 229, 230, 231, 232, 272, 273, 274, 275, 41, 45, 47, 276, 151, 148, 152, 44, 277, 147, 149, 413, 414, 415, 416, 417, 418, 419, 420, 38, 284, 285, 286, 421, 422, 423, 424, 425, 40, 253, 254, 255, 426, 427, 428, 429, 430, 931, 932, 933, 934, 935, 936, 937, 938, 939, 940, 941, 942, 943, 944, 958, 959, 960, 961, 962, 963, 964, 965, 966] (by decide +kernel) (by decide +kernel)
set_option maxRecDepth 20000 in
theorem gL_law_X2_side : GoodIn wsL_law (wsV RL 28 RX2 yX2_side wsX2_side) := goodIn_app (goodIn_of _ (by decide +kernel)) ggL_law_X2_side
set_option maxRecDepth 20000 in
theorem ggL_law_X3_side : GoodIn wsL_law wsX3_side := goodIn_r _ [434, 58, 335, 336, 5, 337, 315, 316, 317, 90, 91, 92, 93, 64, 435, 436, 437, 438, 439, 440, 441, 442, 443, 444, 365, 366, 367, 350, 351, 352, 325, 326, 327, 353, 354, 355, 356, 357, 358, 359, 360, 361, 362, 363, 364, 445, 446, 447, 448, 945, 946, 947, 948, 949, 950, 951, 952, 953, 954, 955, 956, 957] (by decide +kernel) (by decide +kernel)
set_option maxRecDepth 20000 in
theorem gL_law_X3_side : GoodIn wsL_law (wsV RL 31 RX3 yX3_side wsX3_side) := goodIn_app (goodIn_of _ (by decide +kernel)) ggL_law_X3_side
set_option maxRecDepth 20000 in
theorem ggL_law_X2_hangs : GoodIn wsL_law wsX2_hangs := goodIn_r _ [452, 15, 372, 230, 231, 14, 232, 42, 72, 73, 74, 2, 75, 31, 453, 223, 224, 381, 382, 383, 384, 46, 229, 454, 234, 235, 236, 47, 41, 222, 931, 932, 933, 934, 935, 936, 937, 938, 939, 940, 941, 942, 943, 944, 958, 959, 960, 961, 962, 963, 964, 965, 966] (by decide +kernel) (by decide +kernel)
set_option maxRecDepth 20000 in
theorem gL_law_X2_hangs : GoodIn wsL_law (wsV RL 32 RX2 yX2_hangs wsX2_hangs) := goodIn_app (goodIn_of _ (by decide +kernel)) ggL_law_X2_hangs
set_option maxRecDepth 20000 in
theorem ggL_law_X3_hangs : GoodIn wsL_law wsX3_hangs := goodIn_r _ [458, 58, 331, 332, 333, 5, 334, 315, 316, 317, 90, 91, 92, 93, 64, 325, 326, 327, 328, 329, 330, 945, 946, 947, 948, 949, 950, 951, 952, 953, 954, 955, 956, 957] (by decide +kernel) (by decide +kernel)
set_option maxRecDepth 20000 in
theorem gL_law_X3_hangs : GoodIn wsL_law (wsV RL 35 RX3 yX3_hangs wsX3_hangs) := goodIn_app (goodIn_of _ (by decide +kernel)) ggL_law_X3_hangs
set_option maxRecDepth 20000 in
theorem ggL_law_X2_loads : GoodIn wsL_law wsX2_loads := goodIn_r _ [462, 15, 399, 247, 14, 248, 72, 73, 74, 2, 75, 31, 463, 464, 465, 403, 404, 405, 406, 43, 246, 466, 243, 244, 245, 931, 932, 933, 934, 935, 936, 937, 938, 939, 940, 941, 942, 943, 944, 958, 959, 960, 961, 962, 963, 964, 965, 966] (by decide +kernel) (by decide +kernel)
set_option maxRecDepth 20000 in
theorem gL_law_X2_loads : GoodIn wsL_law (wsV RL 36 RX2 yX2_loads wsX2_loads) := goodIn_app (goodIn_of _ (by decide +kernel)) ggL_law_X2_loads
set_option maxRecDepth 20000 in
theorem ggL_law_X3_loads : GoodIn wsL_law wsX3_loads := goodIn_r _ [470, 335, 336, 5, 337, 315, 316, 317, 471, 472, 473, 90, 91, 92, 93, 64, 474, 475, 476, 477, 58, 945, 946, 947, 948, 949, 950, 951, 952, 953, 954, 955, 956, 957] (by decide +kernel) (by decide +kernel)
set_option maxRecDepth 20000 in
theorem gL_law_X3_loads : GoodIn wsL_law (wsV RL 39 RX3 yX3_loads wsX3_loads) := goodIn_app (goodIn_of _ (by decide +kernel)) ggL_law_X3_loads
set_option maxRecDepth 20000 in
theorem ggL_law_X2_lifts : GoodIn wsL_law wsX2_lifts := goodIn_r _ [481, 15, 398, 482, 254, 14, 255, 72, 73, 74, 2, 75, 31, 483, 250, 251, 252, 38, 253, 931, 932, 933, 934, 935, 936, 937, 938, 939, 940, 941, 942, 943, 944, 958, 959, 960, 961, 962, 963, 964, 965, 966] (by decide +kernel) (by decide +kernel)
set_option maxRecDepth 20000 in
theorem gL_law_X2_lifts : GoodIn wsL_law (wsV RL 40 RX2 yX2_lifts wsX2_lifts) := goodIn_app (goodIn_of _ (by decide +kernel)) ggL_law_X2_lifts
set_option maxRecDepth 20000 in
theorem ggL_law_X3_lifts : GoodIn wsL_law wsX3_lifts := goodIn_r _ [487, 338, 339, 5, 340, 315, 316, 317, 474, 475, 476, 477, 58, 90, 91, 92, 93, 64, 945, 946, 947, 948, 949, 950, 951, 952, 953, 954, 955, 956, 957] (by decide +kernel) (by decide +kernel)
set_option maxRecDepth 20000 in
theorem gL_law_X3_lifts : GoodIn wsL_law (wsV RL 43 RX3 yX3_lifts wsX3_lifts) := goodIn_app (goodIn_of _ (by decide +kernel)) ggL_law_X3_lifts
set_option maxRecDepth 20000 in
theorem ggL_law_X2_doors : GoodIn wsL_law wsX2_doors := goodIn_r _ [491, 15, 482, 254, 14, 255, 72, 73, 74, 2, 75, 31, 492, 257, 258, 259, 40, 253, 493, 423, 424, 425, 931, 932, 933, 934, 935, 936, 937, 938, 939, 940, 941, 942, 943, 944, 958, 959, 960, 961, 962, 963, 964, 965, 966] (by decide +kernel) (by decide +kernel)
set_option maxRecDepth 20000 in
theorem gL_law_X2_doors : GoodIn wsL_law (wsV RL 44 RX2 yX2_doors wsX2_doors) := goodIn_app (goodIn_of _ (by decide +kernel)) ggL_law_X2_doors
set_option maxRecDepth 20000 in
theorem ggL_law_X3_doors : GoodIn wsL_law wsX3_doors := goodIn_r _ [497, 58, 338, 339, 5, 340, 315, 316, 317, 90, 91, 92, 93, 64, 945, 946, 947, 948, 949, 950, 951, 952, 953, 954, 955, 956, 957] (by decide +kernel) (by decide +kernel)
set_option maxRecDepth 20000 in
theorem gL_law_X3_doors : GoodIn wsL_law (wsV RL 47 RX3 yX3_doors wsX3_doors) := goodIn_app (goodIn_of _ (by decide +kernel)) ggL_law_X3_doors
set_option maxRecDepth 20000 in
theorem ggL_law_X2_turn : GoodIn wsL_law wsX2_turn := goodIn_r _ [501, 15, 372, 230, 231, 14, 232, 42, 72, 73, 74, 2, 75, 31, 502, 503, 504, 463, 464, 465, 373, 374, 375, 376, 44, 229, 377, 378, 379, 380, 45, 505, 226, 227, 228, 931, 932, 933, 934, 935, 936, 937, 938, 939, 940, 941, 942, 943, 944, 958, 959, 960, 961, 962, 963, 964, 965, 966] (by decide +kernel) (by decide +kernel)
set_option maxRecDepth 20000 in
theorem gL_law_X2_turn : GoodIn wsL_law (wsV RL 48 RX2 yX2_turn wsX2_turn) := goodIn_app (goodIn_of _ (by decide +kernel)) ggL_law_X2_turn
set_option maxRecDepth 20000 in
theorem ggL_law_X3_turn : GoodIn wsL_law wsX3_turn := goodIn_r _ [509, 58, 331, 332, 333, 5, 334, 315, 316, 317, 471, 472, 473, 90, 91, 92, 93, 64, 325, 326, 327, 945, 946, 947, 948, 949, 950, 951, 952, 953, 954, 955, 956, 957] (by decide +kernel) (by decide +kernel)
set_option maxRecDepth 20000 in
theorem gL_law_X3_turn : GoodIn wsL_law (wsV RL 52 RX3 yX3_turn wsX3_turn) := goodIn_app (goodIn_of _ (by decide +kernel)) ggL_law_X3_turn
set_option maxRecDepth 20000 in
theorem ggL_law_X2_days : GoodIn wsL_law wsX2_days := goodIn_r _ [513, 15, 398, 463, 464, 2, 465, 72, 73, 74, 75, 31, 514, 265, 266, 14, 267, 41, 515, 261, 262, 263, 38, 264, 268, 269, 270, 271, 43, 42, 46, 272, 273, 274, 275, 45, 47, 276, 151, 148, 152, 44, 277, 147, 149, 229, 230, 231, 232, 278, 279, 280, 281, 282, 283, 284, 285, 286, 931, 932, 933, 934, 935, 936, 937, 938, 939, 940, 941, 942, 943, 944, 958, 959, 960, 961, 962, 963, 964, 965, 966] (by decide +kernel) (by decide +kernel)
set_option maxRecDepth 20000 in
theorem gL_law_X2_days : GoodIn wsL_law (wsV RL 53 RX2 yX2_days wsX2_days) := goodIn_app (goodIn_of _ (by decide +kernel)) ggL_law_X2_days
set_option maxRecDepth 20000 in
theorem ggL_law_X3_days : GoodIn wsL_law wsX3_days := goodIn_r _ [519, 58, 90, 91, 92, 5, 93, 64, 341, 342, 343, 344, 345, 346, 347, 348, 349, 350, 351, 352, 325, 326, 327, 353, 354, 355, 356, 357, 358, 359, 360, 361, 362, 363, 364, 365, 366, 367, 945, 946, 947, 948, 949, 950, 951, 952, 953, 954, 955, 956, 957] (by decide +kernel) (by decide +kernel)
set_option maxRecDepth 20000 in
theorem gL_law_X3_days : GoodIn wsL_law (wsV RL 56 RX3 yX3_days wsX3_days) := goodIn_app (goodIn_of _ (by decide +kernel)) ggL_law_X3_days
set_option maxRecDepth 20000 in
theorem ggL_law_X2_floorThen : GoodIn wsL_law wsX2_floorThen := goodIn_r _ [523, 15, 399, 247, 14, 248, 72, 73, 74, 2, 75, 31, 463, 464, 465, 524, 525, 526, 527, 38, 268, 269, 270, 271, 43, 42, 46, 272, 273, 274, 275, 41, 45, 47, 276, 151, 148, 152, 44, 277, 147, 149, 229, 230, 231, 232, 278, 279, 280, 281, 282, 283, 284, 285, 286, 400, 401, 402, 931, 932, 933, 934, 935, 936, 937, 938, 939, 940, 941, 942, 943, 944, 958, 959, 960, 961, 962, 963, 964, 965, 966] (by decide +kernel) (by decide +kernel)
set_option maxRecDepth 20000 in
theorem gL_law_X2_floorThen : GoodIn wsL_law (wsV RL 57 RX2 yX2_floorThen wsX2_floorThen) := goodIn_app (goodIn_of _ (by decide +kernel)) ggL_law_X2_floorThen
set_option maxRecDepth 20000 in
theorem ggL_law_X3_floorThen : GoodIn wsL_law wsX3_floorThen := goodIn_r _ [531, 59, 335, 336, 5, 337, 315, 316, 317, 471, 472, 473, 90, 91, 92, 93, 64, 532, 533, 534, 535, 58, 318, 319, 320, 341, 342, 343, 344, 345, 346, 347, 348, 349, 350, 351, 352, 325, 326, 327, 353, 354, 355, 356, 357, 358, 359, 360, 361, 362, 363, 364, 365, 366, 367, 435, 436, 437, 945, 946, 947, 948, 949, 950, 951, 952, 953, 954, 955, 956, 957] (by decide +kernel) (by decide +kernel)
set_option maxRecDepth 20000 in
theorem gL_law_X3_floorThen : GoodIn wsL_law (wsV RL 60 RX3 yX3_floorThen wsX3_floorThen) := goodIn_app (goodIn_of _ (by decide +kernel)) ggL_law_X3_floorThen
set_option maxRecDepth 20000 in
theorem ggL_law_X2_weighsThen : GoodIn wsL_law wsX2_weighsThen := goodIn_r _ [539, 15, 372, 230, 231, 14, 232, 42, 72, 73, 74, 2, 75, 31, 463, 464, 465, 389, 273, 274, 275, 41, 45, 47, 276, 151, 148, 152, 44, 277, 147, 149, 229, 931, 932, 933, 934, 935, 936, 937, 938, 939, 940, 941, 942, 943, 944, 958, 959, 960, 961, 962, 963, 964, 965, 966] (by decide +kernel) (by decide +kernel)
set_option maxRecDepth 20000 in
theorem gL_law_X2_weighsThen : GoodIn wsL_law (wsV RL 61 RX2 yX2_weighsThen wsX2_weighsThen) := goodIn_app (goodIn_of _ (by decide +kernel)) ggL_law_X2_weighsThen
set_option maxRecDepth 20000 in
theorem ggL_law_X3_weighsThen : GoodIn wsL_law wsX3_weighsThen := goodIn_r _ [543, 58, 331, 332, 333, 5, 334, 315, 316, 317, 471, 472, 473, 90, 91, 92, 93, 64, 356, 357, 358, 325, 326, 327, 359, 360, 361, 362, 363, 364, 945, 946, 947, 948, 949, 950, 951, 952, 953, 954, 955, 956, 957] (by decide +kernel) (by decide +kernel)
set_option maxRecDepth 20000 in
theorem gL_law_X3_weighsThen : GoodIn wsL_law (wsV RL 64 RX3 yX3_weighsThen wsX3_weighsThen) := goodIn_app (goodIn_of _ (by decide +kernel)) ggL_law_X3_weighsThen
set_option maxRecDepth 20000 in
theorem ggL_law_X2_pull : GoodIn wsL_law wsX2_pull := goodIn_r _ [547, 548, 15, 463, 464, 2, 465, 72, 73, 74, 75, 31, 549, 269, 270, 14, 271, 43, 42, 46, 272, 273, 274, 275, 41, 45, 47, 276, 151, 148, 152, 44, 277, 147, 149, 229, 230, 231, 232, 931, 932, 933, 934, 935, 936, 937, 938, 939, 940, 941, 942, 943, 944, 958, 959, 960, 961, 962, 963, 964, 965, 966] (by decide +kernel) (by decide +kernel)
set_option maxRecDepth 20000 in
theorem gL_law_X2_pull : GoodIn wsL_law (wsV RL 65 RX2 yX2_pull wsX2_pull) := goodIn_app (goodIn_of _ (by decide +kernel)) ggL_law_X2_pull
set_option maxRecDepth 20000 in
theorem ggL_law_X3_pull : GoodIn wsL_law wsX3_pull := goodIn_r _ [553, 59, 471, 472, 5, 473, 554, 555, 556, 557, 558, 90, 91, 92, 93, 64, 532, 533, 534, 535, 58, 318, 319, 320, 341, 342, 343, 344, 345, 346, 347, 348, 349, 350, 351, 352, 325, 326, 327, 353, 354, 355, 356, 357, 358, 359, 360, 361, 362, 363, 364, 365, 366, 367, 945, 946, 947, 948, 949, 950, 951, 952, 953, 954, 955, 956, 957] (by decide +kernel) (by decide +kernel)
set_option maxRecDepth 20000 in
theorem gL_law_X3_pull : GoodIn wsL_law (wsV RL 68 RX3 yX3_pull wsX3_pull) := goodIn_app (goodIn_of _ (by decide +kernel)) ggL_law_X3_pull
set_option maxRecDepth 20000 in
theorem ggL_law_X2_meets : GoodIn wsL_law wsX2_meets := goodIn_r _ [562, 563, 564, 565, 2, 566, 15, 23, 567, 568, 569, 14, 570, 38, 268, 269, 270, 271, 43, 42, 46, 272, 273, 274, 275, 41, 45, 47, 276, 151, 148, 152, 44, 277, 147, 149, 229, 230, 231, 232, 278, 279, 280, 281, 282, 283, 284, 285, 286, 400, 401, 402, 931, 932, 933, 934, 935, 936, 937, 938, 939, 940, 941, 942, 943, 944, 958, 959, 960, 961, 962, 963, 964, 965, 966] (by decide +kernel) (by decide +kernel)
set_option maxRecDepth 20000 in
theorem gL_law_X2_meets : GoodIn wsL_law (wsV RL 69 RX2 yX2_meets wsX2_meets) := goodIn_app (goodIn_of _ (by decide +kernel)) ggL_law_X2_meets
set_option maxRecDepth 20000 in
theorem ggL_law_X3_meets : GoodIn wsL_law wsX3_meets := goodIn_r _ [574, 575, 576, 577, 5, 578, 58, 59, 318, 319, 320, 435, 436, 437, 442, 443, 444, 344, 345, 346, 347, 348, 349, 350, 351, 352, 325, 326, 327, 353, 354, 355, 356, 357, 358, 359, 360, 361, 362, 363, 364, 365, 366, 367, 945, 946, 947, 948, 949, 950, 951, 952, 953, 954, 955, 956, 957] (by decide +kernel) (by decide +kernel)
set_option maxRecDepth 20000 in
theorem gL_law_X3_meets : GoodIn wsL_law (wsV RL 72 RX3 yX3_meets wsX3_meets) := goodIn_app (goodIn_of _ (by decide +kernel)) ggL_law_X3_meets
set_option maxRecDepth 20000 in
theorem ggL_law_X2_comes : GoodIn wsL_law wsX2_comes := goodIn_r _ [582, 399, 247, 14, 248, 482, 254, 255, 72, 73, 74, 2, 75, 31, 563, 564, 565, 566, 15, 23, 567, 568, 569, 570, 38, 268, 269, 270, 271, 43, 42, 46, 272, 273, 274, 275, 41, 45, 47, 276, 151, 148, 152, 44, 277, 147, 149, 229, 230, 231, 232, 278, 279, 280, 281, 282, 283, 284, 285, 286, 400, 401, 402, 931, 932, 933, 934, 935, 936, 937, 938, 939, 940, 941, 942, 943, 944, 958, 959, 960, 961, 962, 963, 964, 965, 966] (by decide +kernel) (by decide +kernel)
set_option maxRecDepth 20000 in
theorem gL_law_X2_comes : GoodIn wsL_law (wsV RL 73 RX2 yX2_comes wsX2_comes) := goodIn_app (goodIn_of _ (by decide +kernel)) ggL_law_X2_comes
set_option maxRecDepth 20000 in
theorem ggL_law_X3_comes : GoodIn wsL_law wsX3_comes := goodIn_r _ [586, 335, 336, 5, 337, 315, 316, 317, 338, 339, 340, 575, 576, 577, 578, 58, 59, 318, 319, 320, 435, 436, 437, 442, 443, 444, 344, 345, 346, 347, 348, 349, 350, 351, 352, 325, 326, 327, 353, 354, 355, 356, 357, 358, 359, 360, 361, 362, 363, 364, 365, 366, 367, 90, 91, 92, 93, 64, 945, 946, 947, 948, 949, 950, 951, 952, 953, 954, 955, 956, 957] (by decide +kernel) (by decide +kernel)
set_option maxRecDepth 20000 in
theorem gL_law_X3_comes : GoodIn wsL_law (wsV RL 76 RX3 yX3_comes wsX3_comes) := goodIn_app (goodIn_of _ (by decide +kernel)) ggL_law_X3_comes
set_option maxRecDepth 20000 in
theorem ggL_law_X2_strikes : GoodIn wsL_law wsX2_strikes := goodIn_r _ [590, 591, 592, 593, 2, 594, 15, 23, 567, 568, 569, 14, 570, 38, 268, 269, 270, 271, 43, 42, 46, 272, 273, 274, 275, 41, 45, 47, 276, 151, 148, 152, 44, 277, 147, 149, 229, 230, 231, 232, 278, 279, 280, 281, 282, 283, 284, 285, 286, 595, 596, 597, 598, 72, 73, 74, 75, 31, 931, 932, 933, 934, 935, 936, 937, 938, 939, 940, 941, 942, 943, 944, 958, 959, 960, 961, 962, 963, 964, 965, 966] (by decide +kernel) (by decide +kernel)
set_option maxRecDepth 20000 in
theorem gL_law_X2_strikes : GoodIn wsL_law (wsV RL 77 RX2 yX2_strikes wsX2_strikes) := goodIn_app (goodIn_of _ (by decide +kernel)) ggL_law_X2_strikes
set_option maxRecDepth 20000 in
theorem ggL_law_X3_strikes : GoodIn wsL_law wsX3_strikes := goodIn_r _ [602, 603, 575, 576, 577, 5, 578, 58, 59, 318, 319, 320, 435, 436, 437, 442, 443, 444, 344, 345, 346, 347, 348, 349, 350, 351, 352, 325, 326, 327, 353, 354, 355, 356, 357, 358, 359, 360, 361, 362, 363, 364, 365, 366, 367, 604, 605, 606, 607, 90, 91, 92, 93, 64, 945, 946, 947, 948, 949, 950, 951, 952, 953, 954, 955, 956, 957] (by decide +kernel) (by decide +kernel)
set_option maxRecDepth 20000 in
theorem gL_law_X3_strikes : GoodIn wsL_law (wsV RL 80 RX3 yX3_strikes wsX3_strikes) := goodIn_app (goodIn_of _ (by decide +kernel)) ggL_law_X3_strikes
set_option maxRecDepth 20000 in
theorem ggL_law_X2_door : GoodIn wsL_law wsX2_door := goodIn_r _ [611, 15, 23, 399, 247, 14, 248, 72, 73, 74, 2, 75, 31, 567, 568, 569, 570, 38, 268, 269, 270, 271, 43, 42, 46, 272, 273, 274, 275, 41, 45, 47, 276, 151, 148, 152, 44, 277, 147, 149, 229, 230, 231, 232, 278, 279, 280, 281, 282, 283, 284, 285, 286, 400, 401, 402, 493, 423, 424, 425, 40, 253, 254, 255, 931, 932, 933, 934, 935, 936, 937, 938, 939, 940, 941, 942, 943, 944, 958, 959, 960, 961, 962, 963, 964, 965, 966] (by decide +kernel) (by decide +kernel)
set_option maxRecDepth 20000 in
theorem gL_law_X2_door : GoodIn wsL_law (wsV RL 81 RX2 yX2_door wsX2_door) := goodIn_app (goodIn_of _ (by decide +kernel)) ggL_law_X2_door
set_option maxRecDepth 20000 in
theorem ggL_law_X3_door : GoodIn wsL_law wsX3_door := goodIn_r _ [615, 58, 335, 336, 5, 337, 315, 316, 317, 575, 576, 577, 578, 59, 318, 319, 320, 435, 436, 437, 442, 443, 444, 344, 345, 346, 347, 348, 349, 350, 351, 352, 325, 326, 327, 353, 354, 355, 356, 357, 358, 359, 360, 361, 362, 363, 364, 365, 366, 367, 90, 91, 92, 93, 64, 945, 946, 947, 948, 949, 950, 951, 952, 953, 954, 955, 956, 957] (by decide +kernel) (by decide +kernel)
set_option maxRecDepth 20000 in
theorem gL_law_X3_door : GoodIn wsL_law (wsV RL 84 RX3 yX3_door wsX3_door) := goodIn_app (goodIn_of _ (by decide +kernel)) ggL_law_X3_door
set_option maxRecDepth 20000 in
theorem ggL_law_X2_level : GoodIn wsL_law wsX2_level := goodIn_r _ [619, 15, 23, 463, 464, 2, 465, 72, 73, 74, 75, 31, 567, 568, 569, 14, 570, 38, 268, 269, 270, 271, 43, 42, 46, 272, 273, 274, 275, 41, 45, 47, 276, 151, 148, 152, 44, 277, 147, 149, 229, 230, 231, 232, 278, 279, 280, 281, 282, 283, 284, 285, 286, 931, 932, 933, 934, 935, 936, 937, 938, 939, 940, 941, 942, 943, 944, 958, 959, 960, 961, 962, 963, 964, 965, 966] (by decide +kernel) (by decide +kernel)
set_option maxRecDepth 20000 in
theorem gL_law_X2_level : GoodIn wsL_law (wsV RL 85 RX2 yX2_level wsX2_level) := goodIn_app (goodIn_of _ (by decide +kernel)) ggL_law_X2_level
set_option maxRecDepth 20000 in
theorem ggL_law_X3_level : GoodIn wsL_law wsX3_level := goodIn_r _ [623, 58, 59, 471, 472, 5, 473, 90, 91, 92, 93, 64, 318, 319, 320, 344, 345, 346, 347, 348, 349, 350, 351, 352, 325, 326, 327, 353, 354, 355, 356, 357, 358, 359, 360, 361, 362, 363, 364, 365, 366, 367, 945, 946, 947, 948, 949, 950, 951, 952, 953, 954, 955, 956, 957] (by decide +kernel) (by decide +kernel)
set_option maxRecDepth 20000 in
theorem gL_law_X3_level : GoodIn wsL_law (wsV RL 88 RX3 yX3_level wsX3_level) := goodIn_app (goodIn_of _ (by decide +kernel)) ggL_law_X3_level
set_option maxRecDepth 20000 in
theorem ggL_law_X2_take : GoodIn wsL_law wsX2_take := goodIn_r _ [627, 15, 628, 463, 464, 2, 465, 72, 73, 74, 75, 31, 629, 630, 631, 14, 632, 633, 525, 526, 527, 38, 268, 269, 270, 271, 43, 42, 46, 272, 273, 274, 275, 41, 45, 47, 276, 151, 148, 152, 44, 277, 147, 149, 229, 230, 231, 232, 278, 279, 280, 281, 282, 283, 284, 285, 286, 634, 635, 636, 381, 382, 383, 384, 637, 638, 639, 640, 16, 98, 99, 100, 101, 40, 454, 234, 235, 236, 222, 223, 224, 931, 932, 933, 934, 935, 936, 937, 938, 939, 940, 941, 942, 943, 944, 958, 959, 960, 961, 962, 963, 964, 965, 966] (by decide +kernel) (by decide +kernel)
set_option maxRecDepth 20000 in
theorem gL_law_X2_take : GoodIn wsL_law (wsV RL 89 RX2 yX2_take wsX2_take) := goodIn_app (goodIn_of _ (by decide +kernel)) ggL_law_X2_take
set_option maxRecDepth 20000 in
theorem ggL_law_X3_take : GoodIn wsL_law wsX3_take := goodIn_r _ [644, 58, 558, 471, 472, 5, 473, 90, 91, 92, 93, 64, 645, 646, 647, 648, 59, 318, 319, 320, 649, 650, 651, 652, 341, 342, 343, 344, 345, 346, 347, 348, 349, 350, 351, 352, 325, 326, 327, 353, 354, 355, 356, 357, 358, 359, 360, 361, 362, 363, 364, 365, 366, 367, 653, 654, 655, 656, 657, 658, 659, 328, 329, 330, 945, 946, 947, 948, 949, 950, 951, 952, 953, 954, 955, 956, 957] (by decide +kernel) (by decide +kernel)
set_option maxRecDepth 20000 in
theorem gL_law_X3_take : GoodIn wsL_law (wsV RL 92 RX3 yX3_take wsX3_take) := goodIn_app (goodIn_of _ (by decide +kernel)) ggL_law_X3_take
set_option maxRecDepth 20000 in
theorem ggL_law_X2_hang : GoodIn wsL_law wsX2_hang := goodIn_r _ [663, 15, 628, 463, 464, 2, 465, 72, 73, 74, 75, 31, 629, 630, 631, 14, 632, 633, 525, 526, 527, 38, 268, 269, 270, 271, 43, 42, 46, 272, 273, 274, 275, 41, 45, 47, 276, 151, 148, 152, 44, 277, 147, 149, 229, 230, 231, 232, 278, 279, 280, 281, 282, 283, 284, 285, 286, 634, 635, 636, 381, 382, 383, 384, 637, 638, 639, 640, 16, 98, 99, 100, 101, 40, 454, 234, 235, 236, 222, 223, 224, 931, 932, 933, 934, 935, 936, 937, 938, 939, 940, 941, 942, 943, 944, 958, 959, 960, 961, 962, 963, 964, 965, 966] (by decide +kernel) (by decide +kernel)
set_option maxRecDepth 20000 in
theorem gL_law_X2_hang : GoodIn wsL_law (wsV RL 93 RX2 yX2_hang wsX2_hang) := goodIn_app (goodIn_of _ (by decide +kernel)) ggL_law_X2_hang
set_option maxRecDepth 20000 in
theorem ggL_law_X3_hang : GoodIn wsL_law wsX3_hang := goodIn_r _ [667, 58, 558, 471, 472, 5, 473, 90, 91, 92, 93, 64, 645, 646, 647, 648, 59, 318, 319, 320, 649, 650, 651, 652, 341, 342, 343, 344, 345, 346, 347, 348, 349, 350, 351, 352, 325, 326, 327, 353, 354, 355, 356, 357, 358, 359, 360, 361, 362, 363, 364, 365, 366, 367, 653, 654, 655, 656, 657, 658, 659, 328, 329, 330, 945, 946, 947, 948, 949, 950, 951, 952, 953, 954, 955, 956, 957] (by decide +kernel) (by decide +kernel)
set_option maxRecDepth 20000 in
theorem gL_law_X3_hang : GoodIn wsL_law (wsV RL 96 RX3 yX3_hang wsX3_hang) := goodIn_app (goodIn_of _ (by decide +kernel)) ggL_law_X3_hang
set_option maxRecDepth 20000 in
theorem ggL_law_X2_change : GoodIn wsL_law wsX2_change := goodIn_r _ [671, 15, 628, 672, 673, 674, 2, 675, 16, 25, 98, 99, 100, 14, 101, 38, 40, 41, 42, 43, 44, 45, 46, 47, 381, 382, 383, 384, 229, 230, 231, 232, 454, 234, 235, 236, 222, 223, 224, 389, 273, 274, 275, 276, 151, 148, 152, 277, 147, 149, 549, 269, 270, 271, 272, 413, 414, 415, 416, 412, 676, 677, 678, 679, 680, 681, 682, 683, 684, 685, 686, 687, 282, 283, 284, 285, 286, 931, 932, 933, 934, 935, 936, 937, 938, 939, 940, 941, 942, 943, 944, 958, 959, 960, 961, 962, 963, 964, 965, 966] (by decide +kernel) (by decide +kernel)
set_option maxRecDepth 20000 in
theorem gL_law_X2_change : GoodIn wsL_law (wsV RL 97 RX2 yX2_change wsX2_change) := goodIn_app (goodIn_of _ (by decide +kernel)) ggL_law_X2_change
set_option maxRecDepth 20000 in
theorem ggL_law_X3_change : GoodIn wsL_law wsX3_change := goodIn_r _ [691, 58, 59, 445, 446, 447, 5, 448, 325, 326, 327, 692, 693, 694, 318, 319, 320, 442, 443, 444, 328, 329, 330, 347, 348, 349, 350, 351, 352, 353, 354, 355, 356, 357, 358, 359, 360, 361, 362, 363, 364, 945, 946, 947, 948, 949, 950, 951, 952, 953, 954, 955, 956, 957] (by decide +kernel) (by decide +kernel)
set_option maxRecDepth 20000 in
theorem gL_law_X3_change : GoodIn wsL_law (wsV RL 100 RX3 yX3_change wsX3_change) := goodIn_app (goodIn_of _ (by decide +kernel)) ggL_law_X3_change
set_option maxRecDepth 20000 in
theorem ggL_law_X2_ballast : GoodIn wsL_law wsX2_ballast := goodIn_r _ [698, 15, 399, 247, 14, 248, 72, 73, 74, 2, 75, 31, 463, 464, 465, 699, 700, 701, 702, 24, 549, 269, 270, 271, 43, 42, 46, 272, 273, 274, 275, 41, 45, 47, 276, 151, 148, 152, 44, 277, 147, 149, 229, 230, 231, 232, 403, 404, 405, 406, 246, 703, 704, 705, 706, 398, 707, 279, 280, 281, 282, 283, 284, 285, 286, 708, 635, 636, 931, 932, 933, 934, 935, 936, 937, 938, 939, 940, 941, 942, 943, 944, 958, 959, 960, 961, 962, 963, 964, 965, 966] (by decide +kernel) (by decide +kernel)
set_option maxRecDepth 20000 in
theorem gL_law_X2_ballast : GoodIn wsL_law (wsV RL 101 RX2 yX2_ballast wsX2_ballast) := goodIn_app (goodIn_of _ (by decide +kernel)) ggL_law_X2_ballast
set_option maxRecDepth 20000 in
theorem ggL_law_X3_ballast : GoodIn wsL_law wsX3_ballast := goodIn_r _ [712, 558, 58, 59, 335, 336, 5, 337, 315, 316, 317, 471, 472, 473, 90, 91, 92, 93, 64, 318, 319, 320, 649, 650, 651, 652, 341, 342, 343, 344, 345, 346, 347, 348, 349, 350, 351, 352, 325, 326, 327, 353, 354, 355, 356, 357, 358, 359, 360, 361, 362, 363, 364, 365, 366, 367, 653, 654, 655, 945, 946, 947, 948, 949, 950, 951, 952, 953, 954, 955, 956, 957] (by decide +kernel) (by decide +kernel)
set_option maxRecDepth 20000 in
theorem gL_law_X3_ballast : GoodIn wsL_law (wsV RL 104 RX3 yX3_ballast wsX3_ballast) := goodIn_app (goodIn_of _ (by decide +kernel)) ggL_law_X3_ballast
set_option maxRecDepth 20000 in
theorem ggL_law_X2_mustWeigh : GoodIn wsL_law wsX2_mustWeigh := goodIn_r _ [716, 15, 16, 372, 230, 231, 14, 232, 42, 399, 247, 248, 72, 73, 74, 2, 75, 31, 463, 464, 465, 98, 99, 100, 101, 38, 40, 41, 43, 44, 45, 46, 47, 373, 374, 375, 376, 229, 505, 226, 227, 228, 524, 525, 526, 527, 268, 269, 270, 271, 272, 273, 274, 275, 276, 151, 148, 152, 277, 147, 149, 278, 279, 280, 281, 282, 283, 284, 285, 286, 400, 401, 402, 493, 423, 424, 425, 253, 254, 255, 931, 932, 933, 934, 935, 936, 937, 938, 939, 940, 941, 942, 943, 944, 958, 959, 960, 961, 962, 963, 964, 965, 966] (by decide +kernel) (by decide +kernel)
set_option maxRecDepth 20000 in
theorem gL_law_X2_mustWeigh : GoodIn wsL_law (wsV RL 105 RX2 yX2_mustWeigh wsX2_mustWeigh) := goodIn_app (goodIn_of _ (by decide +kernel)) ggL_law_X2_mustWeigh
set_option maxRecDepth 20000 in
theorem ggL_law_X3_mustWeigh : GoodIn wsL_law wsX3_mustWeigh := goodIn_r _ [720, 58, 59, 331, 332, 333, 5, 334, 315, 316, 317, 335, 336, 337, 471, 472, 473, 90, 91, 92, 93, 64, 318, 319, 320, 325, 326, 327, 341, 342, 343, 344, 345, 346, 347, 348, 349, 350, 351, 352, 353, 354, 355, 356, 357, 358, 359, 360, 361, 362, 363, 364, 365, 366, 367, 721, 722, 723, 435, 436, 437, 442, 443, 444, 945, 946, 947, 948, 949, 950, 951, 952, 953, 954, 955, 956, 957] (by decide +kernel) (by decide +kernel)
set_option maxRecDepth 20000 in
theorem gL_law_X3_mustWeigh : GoodIn wsL_law (wsV RL 108 RX3 yX3_mustWeigh wsX3_mustWeigh) := goodIn_app (goodIn_of _ (by decide +kernel)) ggL_law_X3_mustWeigh
set_option maxRecDepth 20000 in
theorem ggL_law_X2_bestKind : GoodIn wsL_law wsX2_bestKind := goodIn_r _ [727, 15, 16, 372, 230, 231, 14, 232, 42, 72, 73, 74, 2, 75, 31, 463, 464, 465, 98, 99, 100, 101, 38, 40, 41, 43, 44, 45, 46, 47, 377, 378, 379, 380, 229, 505, 226, 227, 228, 629, 630, 631, 632, 633, 525, 526, 527, 268, 269, 270, 271, 272, 273, 274, 275, 276, 151, 148, 152, 277, 147, 149, 278, 279, 280, 281, 282, 283, 284, 285, 286, 634, 635, 636, 931, 932, 933, 934, 935, 936, 937, 938, 939, 940, 941, 942, 943, 944, 958, 959, 960, 961, 962, 963, 964, 965, 966] (by decide +kernel) (by decide +kernel)
set_option maxRecDepth 20000 in
theorem gL_law_X2_bestKind : GoodIn wsL_law (wsV RL 109 RX2 yX2_bestKind wsX2_bestKind) := goodIn_app (goodIn_of _ (by decide +kernel)) ggL_law_X2_bestKind
set_option maxRecDepth 20000 in
theorem ggL_law_X3_bestKind : GoodIn wsL_law wsX3_bestKind := goodIn_r _ [731, 558, 58, 59, 331, 332, 333, 5, 334, 315, 316, 317, 471, 472, 473, 90, 91, 92, 93, 64, 318, 319, 320, 325, 326, 327, 649, 650, 651, 652, 341, 342, 343, 344, 345, 346, 347, 348, 349, 350, 351, 352, 353, 354, 355, 356, 357, 358, 359, 360, 361, 362, 363, 364, 365, 366, 367, 653, 654, 655, 945, 946, 947, 948, 949, 950, 951, 952, 953, 954, 955, 956, 957] (by decide +kernel) (by decide +kernel)
set_option maxRecDepth 20000 in
theorem gL_law_X3_bestKind : GoodIn wsL_law (wsV RL 112 RX3 yX3_bestKind wsX3_bestKind) := goodIn_app (goodIn_of _ (by decide +kernel)) ggL_law_X3_bestKind
set_option maxRecDepth 20000 in
theorem ggL_law_X2_heaviest : GoodIn wsL_law wsX2_heaviest := goodIn_r _ [735, 15, 398, 736, 737, 738, 2, 739, 628, 389, 273, 274, 14, 275, 41, 45, 47, 276, 151, 148, 152, 44, 277, 147, 149, 229, 230, 231, 232, 42, 740, 741, 742, 743, 421, 401, 402, 422, 423, 424, 425, 40, 253, 254, 255, 744, 745, 746, 747, 72, 73, 74, 75, 31, 931, 932, 933, 934, 935, 936, 937, 938, 939, 940, 941, 942, 943, 944, 958, 959, 960, 961, 962, 963, 964, 965, 966] (by decide +kernel) (by decide +kernel)
set_option maxRecDepth 20000 in
theorem gL_law_X2_heaviest : GoodIn wsL_law (wsV RL 113 RX2 yX2_heaviest wsX2_heaviest) := goodIn_app (goodIn_of _ (by decide +kernel)) ggL_law_X2_heaviest
set_option maxRecDepth 20000 in
theorem ggL_law_X3_heaviest : GoodIn wsL_law wsX3_heaviest := goodIn_r _ [751, 58, 315, 316, 5, 317, 90, 91, 92, 93, 64, 353, 354, 355, 356, 357, 358, 325, 326, 327, 359, 360, 361, 362, 363, 364, 721, 722, 723, 435, 436, 437, 442, 443, 444, 945, 946, 947, 948, 949, 950, 951, 952, 953, 954, 955, 956, 957] (by decide +kernel) (by decide +kernel)
set_option maxRecDepth 20000 in
theorem gL_law_X3_heaviest : GoodIn wsL_law (wsV RL 116 RX3 yX3_heaviest wsX3_heaviest) := goodIn_app (goodIn_of _ (by decide +kernel)) ggL_law_X3_heaviest
set_option maxRecDepth 20000 in
theorem ggL_law_X2_two : GoodIn wsL_law wsX2_two := goodIn_r _ [755, 15, 26, 372, 230, 231, 14, 232, 42, 72, 73, 74, 2, 75, 31, 463, 464, 465, 381, 382, 383, 384, 46, 229, 756, 757, 758, 759, 16, 98, 99, 100, 101, 38, 40, 41, 43, 44, 45, 47, 454, 234, 235, 236, 222, 223, 224, 524, 525, 526, 527, 268, 269, 270, 271, 272, 273, 274, 275, 276, 151, 148, 152, 277, 147, 149, 278, 279, 280, 281, 282, 283, 284, 285, 286, 760, 761, 762, 763, 764, 765, 766, 767, 400, 401, 402, 931, 932, 933, 934, 935, 936, 937, 938, 939, 940, 941, 942, 943, 944, 958, 959, 960, 961, 962, 963, 964, 965, 966] (by decide +kernel) (by decide +kernel)
set_option maxRecDepth 20000 in
theorem gL_law_X2_two : GoodIn wsL_law (wsV RL 117 RX2 yX2_two wsX2_two) := goodIn_app (goodIn_of _ (by decide +kernel)) ggL_law_X2_two
set_option maxRecDepth 20000 in
theorem ggL_law_X3_two : GoodIn wsL_law wsX3_two := goodIn_r _ [771, 58, 331, 332, 333, 5, 334, 315, 316, 317, 471, 472, 473, 325, 326, 327, 90, 91, 92, 93, 64, 772, 773, 774, 775, 59, 318, 319, 320, 328, 329, 330, 341, 342, 343, 344, 345, 346, 347, 348, 349, 350, 351, 352, 353, 354, 355, 356, 357, 358, 359, 360, 361, 362, 363, 364, 365, 366, 367, 435, 436, 437, 945, 946, 947, 948, 949, 950, 951, 952, 953, 954, 955, 956, 957] (by decide +kernel) (by decide +kernel)
set_option maxRecDepth 20000 in
theorem gL_law_X3_two : GoodIn wsL_law (wsV RL 120 RX3 yX3_two wsX3_two) := goodIn_app (goodIn_of _ (by decide +kernel)) ggL_law_X3_two
set_option maxRecDepth 20000 in
theorem ggL_law_X2_draught : GoodIn wsL_law wsX2_draught := goodIn_r _ [779, 780, 28, 72, 73, 74, 2, 75, 31, 781, 782, 783, 784, 15, 398, 549, 269, 270, 14, 271, 43, 42, 46, 272, 273, 274, 275, 41, 45, 47, 276, 151, 148, 152, 44, 277, 147, 149, 229, 230, 231, 232, 785, 786, 787, 788, 29, 707, 279, 280, 281, 282, 283, 284, 285, 286, 789, 790, 791, 792, 793, 794, 795, 796, 797, 798, 931, 932, 933, 934, 935, 936, 937, 938, 939, 940, 941, 942, 943, 944, 958, 959, 960, 961, 962, 963, 964, 965, 966] (by decide +kernel) (by decide +kernel)
set_option maxRecDepth 20000 in
theorem gL_law_X2_draught : GoodIn wsL_law (wsV RL 121 RX2 yX2_draught wsX2_draught) := goodIn_app (goodIn_of _ (by decide +kernel)) ggL_law_X2_draught
set_option maxRecDepth 20000 in
theorem ggL_law_X3_draught : GoodIn wsL_law wsX3_draught := goodIn_r _ [802, 58, 59, 803, 804, 805, 5, 806, 807, 90, 91, 92, 93, 64, 315, 316, 317, 318, 319, 320, 442, 443, 444, 344, 345, 346, 347, 348, 349, 350, 351, 352, 325, 326, 327, 353, 354, 355, 356, 357, 358, 359, 360, 361, 362, 363, 364, 365, 366, 367, 808, 809, 810, 811, 812, 813, 945, 946, 947, 948, 949, 950, 951, 952, 953, 954, 955, 956, 957] (by decide +kernel) (by decide +kernel)
set_option maxRecDepth 20000 in
theorem gL_law_X3_draught : GoodIn wsL_law (wsV RL 125 RX3 yX3_draught wsX3_draught) := goodIn_app (goodIn_of _ (by decide +kernel)) ggL_law_X3_draught
set_option maxRecDepth 20000 in
theorem ggL_law_X2_mean : GoodIn wsL_law wsX2_mean := goodIn_r _ [817, 780, 15, 628, 72, 73, 74, 2, 75, 31, 818, 819, 820, 14, 821, 42, 272, 273, 274, 275, 41, 45, 47, 276, 151, 148, 152, 44, 277, 147, 149, 229, 230, 231, 232, 793, 794, 795, 796, 797, 798, 931, 932, 933, 934, 935, 936, 937, 938, 939, 940, 941, 942, 943, 944, 958, 959, 960, 961, 962, 963, 964, 965, 966] (by decide +kernel) (by decide +kernel)
set_option maxRecDepth 20000 in
theorem gL_law_X2_mean : GoodIn wsL_law (wsV RL 126 RX2 yX2_mean wsX2_mean) := goodIn_app (goodIn_of _ (by decide +kernel)) ggL_law_X2_mean
set_option maxRecDepth 20000 in
theorem ggL_law_X3_mean : GoodIn wsL_law wsX3_mean := goodIn_r _ [825, 58, 315, 316, 5, 317, 826, 827, 828, 829, 353, 354, 355, 356, 357, 358, 325, 326, 327, 359, 360, 361, 362, 363, 364, 808, 809, 810, 811, 812, 813, 803, 804, 805, 806, 807, 90, 91, 92, 93, 64, 945, 946, 947, 948, 949, 950, 951, 952, 953, 954, 955, 956, 957] (by decide +kernel) (by decide +kernel)
set_option maxRecDepth 20000 in
theorem gL_law_X3_mean : GoodIn wsL_law (wsV RL 130 RX3 yX3_mean wsX3_mean) := goodIn_app (goodIn_of _ (by decide +kernel)) ggL_law_X3_mean
set_option maxRecDepth 20000 in
theorem ggL_law_X2_whatIs : GoodIn wsL_law wsX2_whatIs := goodIn_r _ [833, 15, 372, 230, 231, 14, 232, 42, 72, 73, 74, 2, 75, 31, 834, 835, 836, 837, 16, 98, 99, 100, 101, 38, 40, 41, 43, 44, 45, 46, 47, 377, 378, 379, 380, 229, 505, 226, 227, 228, 838, 839, 840, 841, 23, 32, 30, 567, 568, 569, 570, 268, 269, 270, 271, 272, 273, 274, 275, 276, 151, 148, 152, 277, 147, 149, 278, 279, 280, 281, 282, 283, 284, 285, 286, 842, 843, 844, 845, 373, 374, 375, 376, 931, 932, 933, 934, 935, 936, 937, 938, 939, 940, 941, 942, 943, 944, 958, 959, 960, 961, 962, 963, 964, 965, 966] (by decide +kernel) (by decide +kernel)
set_option maxRecDepth 20000 in
theorem gL_law_X2_whatIs : GoodIn wsL_law (wsV RL 131 RX2 yX2_whatIs wsX2_whatIs) := goodIn_app (goodIn_of _ (by decide +kernel)) ggL_law_X2_whatIs
set_option maxRecDepth 20000 in
theorem ggL_law_X3_whatIs : GoodIn wsL_law wsX3_whatIs := goodIn_r _ [849, 58, 59, 850, 63, 331, 332, 333, 5, 334, 315, 316, 317, 90, 91, 92, 93, 64, 318, 319, 320, 325, 326, 327, 344, 345, 346, 347, 348, 349, 350, 351, 352, 353, 354, 355, 356, 357, 358, 359, 360, 361, 362, 363, 364, 365, 366, 367, 945, 946, 947, 948, 949, 950, 951, 952, 953, 954, 955, 956, 957] (by decide +kernel) (by decide +kernel)
set_option maxRecDepth 20000 in
theorem gL_law_X3_whatIs : GoodIn wsL_law (wsV RL 134 RX3 yX3_whatIs wsX3_whatIs) := goodIn_app (goodIn_of _ (by decide +kernel)) ggL_law_X3_whatIs
set_option maxRecDepth 20000 in
theorem ggL_law_X2_row : GoodIn wsL_law wsX2_row := goodIn_r _ [854, 32, 30, 463, 464, 2, 465, 72, 73, 74, 75, 31, 931, 932, 933, 934, 935, 936, 937, 938, 939, 940, 941, 942, 943, 944] (by decide +kernel) (by decide +kernel)
set_option maxRecDepth 20000 in
theorem gL_law_X2_row : GoodIn wsL_law (wsV RL 135 RX2 yX2_row wsX2_row) := goodIn_app (goodIn_of _ (by decide +kernel)) ggL_law_X2_row
set_option maxRecDepth 20000 in
theorem ggL_law_X3_row : GoodIn wsL_law wsX3_row := goodIn_r _ [858, 850, 63, 471, 472, 5, 473, 90, 91, 92, 93, 64, 945, 946, 947, 948, 949, 950, 951, 952, 953, 954, 955, 956, 957] (by decide +kernel) (by decide +kernel)
set_option maxRecDepth 20000 in
theorem gL_law_X3_row : GoodIn wsL_law (wsV RL 138 RX3 yX3_row wsX3_row) := goodIn_app (goodIn_of _ (by decide +kernel)) ggL_law_X3_row
set_option maxRecDepth 20000 in
theorem ggL_law_X2_judge : GoodIn wsL_law wsX2_judge := goodIn_r _ [862, 32, 30, 15, 372, 230, 231, 14, 232, 42, 389, 273, 274, 275, 41, 45, 47, 276, 151, 148, 152, 44, 277, 147, 149, 229, 931, 932, 933, 934, 935, 936, 937, 938, 939, 940, 941, 942, 943, 944, 958, 959, 960, 961, 962, 963, 964, 965, 966] (by decide +kernel) (by decide +kernel)
set_option maxRecDepth 20000 in
theorem gL_law_X2_judge : GoodIn wsL_law (wsV RL 139 RX2 yX2_judge wsX2_judge) := goodIn_app (goodIn_of _ (by decide +kernel)) ggL_law_X2_judge
set_option maxRecDepth 20000 in
theorem ggL_law_X3_judge : GoodIn wsL_law wsX3_judge := goodIn_r _ [866, 850, 58, 63, 331, 332, 333, 5, 334, 315, 316, 317, 353, 354, 355, 356, 357, 358, 325, 326, 327, 359, 360, 361, 362, 363, 364, 945, 946, 947, 948, 949, 950, 951, 952, 953, 954, 955, 956, 957] (by decide +kernel) (by decide +kernel)
set_option maxRecDepth 20000 in
theorem gL_law_X3_judge : GoodIn wsL_law (wsV RL 142 RX3 yX3_judge wsX3_judge) := goodIn_app (goodIn_of _ (by decide +kernel)) ggL_law_X3_judge
set_option maxRecDepth 20000 in
theorem ggL_law_X2_clear : GoodIn wsL_law wsX2_clear := goodIn_r _ [870, 32, 931, 932, 933, 934, 935, 936, 937, 938, 939, 940, 941, 942, 943, 944] (by decide +kernel) (by decide +kernel)
set_option maxRecDepth 20000 in
theorem gL_law_X2_clear : GoodIn wsL_law (wsV RL 143 RX2 yX2_clear wsX2_clear) := goodIn_app (goodIn_of _ (by decide +kernel)) ggL_law_X2_clear
set_option maxRecDepth 20000 in
theorem ggL_law_X3_clear : GoodIn wsL_law wsX3_clear := goodIn_r _ [874, 850, 945, 946, 947, 948, 949, 950, 951, 952, 953, 954, 955, 956, 957] (by decide +kernel) (by decide +kernel)
set_option maxRecDepth 20000 in
theorem gL_law_X3_clear : GoodIn wsL_law (wsV RL 146 RX3 yX3_clear wsX3_clear) := goodIn_app (goodIn_of _ (by decide +kernel)) ggL_law_X3_clear
set_option maxRecDepth 20000 in
theorem ggL_law_X2_lots : GoodIn wsL_law wsX2_lots := goodIn_r _ [878, 16, 15, 628, 463, 464, 2, 465, 72, 73, 74, 75, 31, 98, 99, 100, 14, 101, 38, 40, 41, 42, 43, 44, 45, 46, 47, 879, 880, 881, 882, 883, 884, 885, 886, 887, 454, 234, 235, 236, 229, 230, 231, 232, 222, 223, 224, 524, 525, 526, 527, 268, 269, 270, 271, 272, 273, 274, 275, 276, 151, 148, 152, 277, 147, 149, 278, 279, 280, 281, 282, 283, 284, 285, 286, 740, 741, 742, 743, 421, 401, 402, 422, 423, 424, 425, 253, 254, 255, 676, 677, 678, 679, 680, 681, 682, 931, 932, 933, 934, 935, 936, 937, 938, 939, 940, 941, 942, 943, 944, 958, 959, 960, 961, 962, 963, 964, 965, 966] (by decide +kernel) (by decide +kernel)
set_option maxRecDepth 20000 in
theorem gL_law_X2_lots : GoodIn wsL_law (wsV RL 147 RX2 yX2_lots wsX2_lots) := goodIn_app (goodIn_of _ (by decide +kernel)) ggL_law_X2_lots
set_option maxRecDepth 20000 in
theorem ggL_law_X3_lots : GoodIn wsL_law wsX3_lots := goodIn_r _ [891, 892, 58, 59, 90, 91, 92, 5, 93, 64, 315, 316, 317, 318, 319, 320, 893, 894, 895, 896, 897, 898, 899, 328, 329, 330, 325, 326, 327, 341, 342, 343, 344, 345, 346, 347, 348, 349, 350, 351, 352, 353, 354, 355, 356, 357, 358, 359, 360, 361, 362, 363, 364, 365, 366, 367, 721, 722, 723, 435, 436, 437, 442, 443, 444, 945, 946, 947, 948, 949, 950, 951, 952, 953, 954, 955, 956, 957] (by decide +kernel) (by decide +kernel)
set_option maxRecDepth 20000 in
theorem gL_law_X3_lots : GoodIn wsL_law (wsV RL 150 RX3 yX3_lots wsX3_lots) := goodIn_app (goodIn_of _ (by decide +kernel)) ggL_law_X3_lots
set_option maxRecDepth 20000 in
theorem ggL_law_X2_image : GoodIn wsL_law wsX2_image := goodIn_r _ [903, 17, 15, 33, 904, 98, 99, 100, 14, 101, 38, 40, 41, 42, 43, 44, 45, 46, 47, 931, 932, 933, 934, 935, 936, 937, 938, 939, 940, 941, 942, 943, 944, 958, 959, 960, 961, 962, 963, 964, 965, 966] (by decide +kernel) (by decide +kernel)
set_option maxRecDepth 20000 in
theorem gL_law_X2_image : GoodIn wsL_law (wsV RL 151 RX2 yX2_image wsX2_image) := goodIn_app (goodIn_of _ (by decide +kernel)) ggL_law_X2_image
set_option maxRecDepth 20000 in
theorem ggL_law_X3_image : GoodIn wsL_law wsX3_image := goodIn_r _ [908, 58, 60, 909, 318, 319, 5, 320, 945, 946, 947, 948, 949, 950, 951, 952, 953, 954, 955, 956, 957] (by decide +kernel) (by decide +kernel)
set_option maxRecDepth 20000 in
theorem gL_law_X3_image : GoodIn wsL_law (wsV RL 154 RX3 yX3_image wsX3_image) := goodIn_app (goodIn_of _ (by decide +kernel)) ggL_law_X3_image
set_option maxRecDepth 20000 in
theorem ggL_law_X2_on : GoodIn wsL_law wsX2_on := goodIn_r _ [913, 33, 15, 17, 904, 72, 73, 74, 2, 75, 31, 98, 99, 100, 14, 101, 38, 40, 41, 42, 43, 44, 45, 46, 47, 931, 932, 933, 934, 935, 936, 937, 938, 939, 940, 941, 942, 943, 944, 958, 959, 960, 961, 962, 963, 964, 965, 966] (by decide +kernel) (by decide +kernel)
set_option maxRecDepth 20000 in
theorem gL_law_X2_on : GoodIn wsL_law (wsV RL 155 RX2 yX2_on wsX2_on) := goodIn_app (goodIn_of _ (by decide +kernel)) ggL_law_X2_on
set_option maxRecDepth 20000 in
theorem ggL_law_X3_on : GoodIn wsL_law wsX3_on := goodIn_r _ [917, 909, 60, 58, 90, 91, 92, 5, 93, 64, 318, 319, 320, 945, 946, 947, 948, 949, 950, 951, 952, 953, 954, 955, 956, 957] (by decide +kernel) (by decide +kernel)
set_option maxRecDepth 20000 in
theorem gL_law_X3_on : GoodIn wsL_law (wsV RL 158 RX3 yX3_on wsX3_on) := goodIn_app (goodIn_of _ (by decide +kernel)) ggL_law_X3_on
set_option maxRecDepth 20000 in
theorem ggL_law_X2_count : GoodIn wsL_law wsX2_count := goodIn_r _ [921, 15, 628, 904, 398, 922, 32, 21, 71, 413, 414, 415, 14, 416, 42, 412, 382, 383, 384, 46, 229, 230, 231, 232, 818, 819, 820, 821, 272, 273, 274, 275, 41, 45, 47, 276, 151, 148, 152, 44, 277, 147, 149, 923, 924, 925, 2, 926, 31, 931, 932, 933, 934, 935, 936, 937, 938, 939, 940, 941, 942, 943, 944, 958, 959, 960, 961, 962, 963, 964, 965, 966, 967, 968] (by decide +kernel) (by decide +kernel)
set_option maxRecDepth 20000 in
theorem gL_law_X2_count : GoodIn wsL_law (wsV RL 159 RX2 yX2_count wsX2_count) := goodIn_app (goodIn_of _ (by decide +kernel)) ggL_law_X2_count
set_option maxRecDepth 20000 in
theorem ggL_law_X3_count : GoodIn wsL_law wsX3_count := goodIn_r _ [930, 64, 58, 850, 89, 315, 316, 5, 317, 445, 446, 447, 448, 325, 326, 327, 826, 827, 828, 829, 353, 354, 355, 356, 357, 358, 359, 360, 361, 362, 363, 364, 945, 946, 947, 948, 949, 950, 951, 952, 953, 954, 955, 956, 957] (by decide +kernel) (by decide +kernel)
set_option maxRecDepth 20000 in
theorem gL_law_X3_count : GoodIn wsL_law (wsV RL 162 RX3 yX3_count wsX3_count) := goodIn_app (goodIn_of _ (by decide +kernel)) ggL_law_X3_count
