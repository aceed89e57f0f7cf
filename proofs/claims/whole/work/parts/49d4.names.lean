set_option maxRecDepth 20000 in
theorem ggL_law_X7_init : GoodIn wsL_law wsX7_init := goodIn_r _ [9, 10, 11, 12, 13, 14, 15, 16, 17, 18, 19, 20, 21, 22, 23, 24, 25, 26, 27, 28, 29, 30, 31, 32, 33, 34, 35, 36, 37, 38, 39, 40, 41, 42, 43, 44, 45, 46, 47, 48, 49, 50, 51, 52, 53, 54, 55, 56, 57, 58, 59, 60, 61, 62, 63, 64, 65, 66, 67, 68, 69, 70, 71, 72, 73, 74, 75, 76, 77, 78, 79, 80, 81, 82, 83, 84, 85, 86, 87, 88, 894, 895, 896, 897, 898, 899, 900, 901, 902, 903, 904, 905, 906, 907, 940, 941, 942, 943, 944, 945, 946, 947, 948, 949, 950, 951, 952, 953, 954, 955, 956, 957, 958, 959, 960, 961, 962, 963, 964, 965, 966, 967, 968, 969, 970, 971, 972, 973, 974, 975, 976] rfl (by decide +kernel)
set_option maxRecDepth 20000 in
theorem gL_law_X7_init : GoodIn wsL_law (wsX7_init) := ggL_law_X7_init
set_option maxRecDepth 20000 in
theorem ggL_law_X9_init : GoodIn wsL_law wsX9_init := goodIn_r _ [91, 92, 11, 12, 93, 94, 95, 96, 97, 98, 99, 100, 101, 34, 102, 103, 104, 40, 105, 106, 107, 108, 109, 110, 111, 112, 113, 114, 115, 116, 117, 118, 119, 120, 121, 122, 123, 124, 125, 126, 127, 977, 978, 979, 980, 981, 908, 909, 910, 911, 912, 913, 914, 915, 916, 917, 918, 919, 920, 921, 922, 923, 924, 925, 926, 927, 928, 929, 930, 931, 932, 933, 934, 935, 936, 937, 938, 939] rfl (by decide +kernel)
set_option maxRecDepth 20000 in
theorem gL_law_X9_init : GoodIn wsL_law (wsX9_init) := ggL_law_X9_init
set_option maxRecDepth 20000 in
theorem ggL_law_X7_board : GoodIn wsL_law wsX7_board := goodIn_r _ [131, 14, 132, 133, 134, 2, 135, 136, 137, 138, 139, 140, 141, 142, 143, 16, 144, 145, 146, 41, 147, 148, 149, 150, 894, 895, 896, 897, 898, 899, 900, 901, 902, 903, 904, 905, 906, 907, 940, 941, 942] rfl (by decide +kernel)
set_option maxRecDepth 20000 in
theorem gL_law_X7_board : GoodIn wsL_law (wsV RL 13 RX7 yX7_board wsX7_board) := goodIn_app (goodIn_of _ (by decide +kernel)) ggL_law_X7_board
set_option maxRecDepth 20000 in
theorem ggL_law_X9_board : GoodIn wsL_law wsX9_board := goodIn_r _ [154, 103, 104, 105, 155, 156, 5, 157, 158, 159, 160, 161, 162, 163, 164, 165, 166, 908, 909, 910, 911, 912, 913, 914, 915, 916, 917, 918, 919, 920, 921, 922, 923, 924, 925, 926, 927, 928, 929, 930, 931, 932, 933, 934, 935, 936, 937, 938, 939] rfl (by decide +kernel)
set_option maxRecDepth 20000 in
theorem gL_law_X9_board : GoodIn wsL_law (wsV RL 17 RX9 yX9_board wsX9_board) := goodIn_app (goodIn_of _ (by decide +kernel)) ggL_law_X9_board
set_option maxRecDepth 20000 in
theorem ggL_law_X7_put : GoodIn wsL_law wsX7_put := goodIn_r _ [170, 14, 133, 134, 2, 135, 136, 137, 138, 139, 140, 171, 172, 173, 16, 174, 145, 175, 176, 177, 178, 146, 179, 180, 181, 182, 41, 894, 895, 896, 897, 898, 899, 900, 901, 902, 903, 904, 905, 906, 907, 940, 941, 942] rfl (by decide +kernel)
set_option maxRecDepth 20000 in
theorem gL_law_X7_put : GoodIn wsL_law (wsV RL 20 RX7 yX7_put wsX7_put) := goodIn_app (goodIn_of _ (by decide +kernel)) ggL_law_X7_put
set_option maxRecDepth 20000 in
theorem ggL_law_X9_put : GoodIn wsL_law wsX9_put := goodIn_r _ [186, 103, 104, 105, 155, 156, 5, 157, 158, 159, 160, 161, 162, 163, 164, 165, 166, 908, 909, 910, 911, 912, 913, 914, 915, 916, 917, 918, 919, 920, 921, 922, 923, 924, 925, 926, 927, 928, 929, 930, 931, 932, 933, 934, 935, 936, 937, 938, 939] rfl (by decide +kernel)
set_option maxRecDepth 20000 in
theorem gL_law_X9_put : GoodIn wsL_law (wsV RL 24 RX9 yX9_put wsX9_put) := goodIn_app (goodIn_of _ (by decide +kernel)) ggL_law_X9_put
set_option maxRecDepth 20000 in
theorem ggL_law_X7_copy : GoodIn wsL_law wsX7_copy := goodIn_r _ [190, 14, 191, 192, 193, 194, 195, 196, 133, 134, 2, 135, 136, 137, 138, 139, 140, 171, 172, 173, 16, 174, 145, 175, 176, 177, 178, 146, 894, 895, 896, 897, 898, 899, 900, 901, 902, 903, 904, 905, 906, 907, 940, 941, 942] rfl (by decide +kernel)
set_option maxRecDepth 20000 in
theorem gL_law_X7_copy : GoodIn wsL_law (wsV RL 25 RX7 yX7_copy wsX7_copy) := goodIn_app (goodIn_of _ (by decide +kernel)) ggL_law_X7_copy
set_option maxRecDepth 20000 in
theorem ggL_law_X9_copy : GoodIn wsL_law wsX9_copy := goodIn_r _ [200, 103, 104, 106, 105, 155, 156, 5, 157, 158, 159, 160, 161, 162, 163, 164, 165, 166, 908, 909, 910, 911, 912, 913, 914, 915, 916, 917, 918, 919, 920, 921, 922, 923, 924, 925, 926, 927, 928, 929, 930, 931, 932, 933, 934, 935, 936, 937, 938, 939] rfl (by decide +kernel)
set_option maxRecDepth 20000 in
theorem gL_law_X9_copy : GoodIn wsL_law (wsV RL 29 RX9 yX9_copy wsX9_copy) := goodIn_app (goodIn_of _ (by decide +kernel)) ggL_law_X9_copy
set_option maxRecDepth 20000 in
theorem ggL_law_X7_task : GoodIn wsL_law wsX7_task := goodIn_r _ [204, 14, 205, 20, 206, 25, 207, 208, 2, 209, 133, 134, 135, 136, 137, 138, 139, 140, 171, 172, 173, 16, 174, 145, 175, 176, 177, 178, 146, 210, 211, 212, 213, 214, 41, 215, 216, 217, 218, 219, 220, 221, 222, 19, 223, 224, 45, 46, 225, 47, 48, 49, 50, 51, 52, 226, 227, 228, 24, 229, 230, 56, 231, 194, 195, 196, 57, 58, 232, 233, 234, 235, 236, 33, 237, 894, 895, 896, 897, 898, 899, 900, 901, 902, 903, 904, 905, 906, 907, 943, 944, 945, 946, 947, 948, 949, 950, 951, 940, 941, 942, 952, 953, 954, 955, 959, 960, 961] rfl (by decide +kernel)
set_option maxRecDepth 20000 in
theorem gL_law_X7_task : GoodIn wsL_law (wsV RL 30 RX7 yX7_task wsX7_task) := goodIn_app (goodIn_of _ (by decide +kernel)) ggL_law_X7_task
set_option maxRecDepth 20000 in
theorem ggL_law_X9_task : GoodIn wsL_law wsX9_task := goodIn_r _ [241, 242, 103, 104, 106, 105, 243, 244, 96, 245, 246, 247, 248, 249, 159, 160, 5, 161, 155, 156, 157, 158, 162, 163, 164, 165, 166, 250, 251, 252, 253, 254, 255, 256, 257, 98, 100, 258, 259, 260, 95, 261, 262, 124, 127, 125, 126, 263, 264, 265, 266, 267, 268, 908, 909, 910, 911, 912, 913, 914, 915, 916, 917, 918, 919, 920, 921, 922, 923, 924, 925, 926, 927, 928, 929, 930, 931, 932, 933, 934, 935, 936, 937, 938, 939, 977, 978, 979, 980, 981] rfl (by decide +kernel)
set_option maxRecDepth 20000 in
theorem gL_law_X9_task : GoodIn wsL_law (wsV RL 33 RX9 yX9_task wsX9_task) := goodIn_app (goodIn_of _ (by decide +kernel)) ggL_law_X9_task
set_option maxRecDepth 20000 in
theorem ggL_law_X7_after : GoodIn wsL_law wsX7_after := goodIn_r _ [272, 20, 273, 274, 275, 276, 277, 19, 278, 224, 136, 137, 138, 2, 139, 140, 279, 280, 281, 282, 283, 284, 285, 286, 52, 287, 288, 289, 290, 291, 292, 25, 226, 227, 228, 24, 229, 230, 56, 231, 194, 195, 196, 57, 58, 232, 233, 234, 235, 236, 33, 237, 293, 294, 295, 296, 297, 298, 299, 894, 895, 896, 897, 898, 899, 900, 901, 902, 903, 904, 905, 906, 907, 943, 944, 945, 946, 947, 948, 949, 950, 951, 952, 953, 954, 955, 959, 960, 961] rfl (by decide +kernel)
set_option maxRecDepth 20000 in
theorem gL_law_X7_after : GoodIn wsL_law (wsV RL 34 RX7 yX7_after wsX7_after) := goodIn_app (goodIn_of _ (by decide +kernel)) ggL_law_X7_after
set_option maxRecDepth 20000 in
theorem ggL_law_X9_after : GoodIn wsL_law wsX9_after := goodIn_r _ [303, 96, 248, 245, 304, 305, 306, 307, 5, 308, 159, 160, 161, 162, 163, 164, 165, 166, 309, 310, 311, 312, 253, 254, 255, 256, 257, 98, 100, 258, 259, 260, 95, 261, 262, 124, 127, 125, 126, 263, 264, 265, 266, 267, 268, 313, 314, 315, 316, 908, 909, 910, 911, 912, 913, 914, 915, 916, 917, 918, 919, 920, 921, 922, 923, 924, 925, 926, 927, 928, 929, 930, 931, 932, 933, 934, 935, 936, 937, 938, 939, 977, 978, 979, 980, 981] rfl (by decide +kernel)
set_option maxRecDepth 20000 in
theorem gL_law_X9_after : GoodIn wsL_law (wsV RL 38 RX9 yX9_after wsX9_after) := goodIn_app (goodIn_of _ (by decide +kernel)) ggL_law_X9_after
set_option maxRecDepth 20000 in
theorem ggL_law_X7_away : GoodIn wsL_law wsX7_away := goodIn_r _ [320, 20, 274, 275, 276, 277, 19, 278, 224, 136, 137, 138, 2, 139, 140, 321, 287, 288, 289, 290, 291, 292, 25, 226, 227, 228, 24, 229, 230, 56, 231, 194, 195, 196, 57, 58, 232, 233, 234, 235, 236, 33, 237, 293, 294, 295, 296, 297, 298, 299, 894, 895, 896, 897, 898, 899, 900, 901, 902, 903, 904, 905, 906, 907, 943, 944, 945, 946, 947, 948, 949, 950, 951, 952, 953, 954, 955, 959, 960, 961] rfl (by decide +kernel)
set_option maxRecDepth 20000 in
theorem gL_law_X7_away : GoodIn wsL_law (wsV RL 39 RX7 yX7_away wsX7_away) := goodIn_app (goodIn_of _ (by decide +kernel)) ggL_law_X7_away
set_option maxRecDepth 20000 in
theorem ggL_law_X9_away : GoodIn wsL_law wsX9_away := goodIn_r _ [325, 96, 248, 305, 306, 307, 5, 308, 245, 159, 160, 161, 162, 163, 164, 165, 166, 253, 254, 255, 256, 257, 98, 100, 258, 259, 260, 95, 261, 262, 124, 127, 125, 126, 263, 264, 265, 266, 267, 268, 313, 314, 315, 316, 908, 909, 910, 911, 912, 913, 914, 915, 916, 917, 918, 919, 920, 921, 922, 923, 924, 925, 926, 927, 928, 929, 930, 931, 932, 933, 934, 935, 936, 937, 938, 939, 977, 978, 979, 980, 981] rfl (by decide +kernel)
set_option maxRecDepth 20000 in
theorem gL_law_X9_away : GoodIn wsL_law (wsV RL 42 RX9 yX9_away wsX9_away) := goodIn_app (goodIn_of _ (by decide +kernel)) ggL_law_X9_away
set_option maxRecDepth 20000 in
theorem ggL_law_X7_as : GoodIn wsL_law wsX7_as := goodIn_r _ [329, 20, 330, 275, 276, 277, 19, 278, 224, 207, 208, 2, 209, 205, 136, 137, 138, 139, 140, 331, 332, 333, 334, 894, 895, 896, 897, 898, 899, 900, 901, 902, 903, 904, 905, 906, 907, 943, 944, 945, 946, 947, 948, 949, 950, 951] rfl (by decide +kernel)
set_option maxRecDepth 20000 in
theorem gL_law_X7_as : GoodIn wsL_law (wsV RL 43 RX7 yX7_as wsX7_as) := goodIn_app (goodIn_of _ (by decide +kernel)) ggL_law_X7_as
set_option maxRecDepth 20000 in
theorem ggL_law_X9_as : GoodIn wsL_law wsX9_as := goodIn_r _ [338, 242, 96, 246, 305, 306, 307, 5, 308, 245, 159, 160, 161, 162, 163, 164, 165, 166, 339, 340, 341, 908, 909, 910, 911, 912, 913, 914, 915, 916, 917, 918, 919, 920, 921, 922, 923, 924, 925, 926, 927, 928, 929, 930, 931, 932, 933, 934, 935, 936, 937, 938, 939, 977, 978, 979, 980, 981] rfl (by decide +kernel)
set_option maxRecDepth 20000 in
theorem gL_law_X9_as : GoodIn wsL_law (wsV RL 46 RX9 yX9_as wsX9_as) := goodIn_app (goodIn_of _ (by decide +kernel)) ggL_law_X9_as
set_option maxRecDepth 20000 in
theorem ggL_law_X7_ask : GoodIn wsL_law wsX7_ask := goodIn_r _ [345, 20, 330, 346, 347, 348, 349, 350, 275, 276, 277, 19, 278, 224, 136, 137, 138, 2, 139, 140, 894, 895, 896, 897, 898, 899, 900, 901, 902, 903, 904, 905, 906, 907, 943, 944, 945, 946, 947, 948, 949, 950, 951] rfl (by decide +kernel)
set_option maxRecDepth 20000 in
theorem gL_law_X7_ask : GoodIn wsL_law (wsV RL 47 RX7 yX7_ask wsX7_ask) := goodIn_app (goodIn_of _ (by decide +kernel)) ggL_law_X7_ask
set_option maxRecDepth 20000 in
theorem ggL_law_X9_ask : GoodIn wsL_law wsX9_ask := goodIn_r _ [354, 355, 96, 246, 305, 306, 307, 5, 308, 245, 159, 160, 161, 162, 163, 164, 165, 166, 356, 357, 358, 359, 247, 908, 909, 910, 911, 912, 913, 914, 915, 916, 917, 918, 919, 920, 921, 922, 923, 924, 925, 926, 927, 928, 929, 930, 931, 932, 933, 934, 935, 936, 937, 938, 939, 977, 978, 979, 980, 981] rfl (by decide +kernel)
set_option maxRecDepth 20000 in
theorem gL_law_X9_ask : GoodIn wsL_law (wsV RL 50 RX9 yX9_ask wsX9_ask) := goodIn_app (goodIn_of _ (by decide +kernel)) ggL_law_X9_ask
set_option maxRecDepth 20000 in
theorem ggL_law_X7_follows : GoodIn wsL_law wsX7_follows := goodIn_r _ [363, 20, 274, 275, 276, 277, 19, 278, 224, 136, 137, 138, 2, 139, 140, 321, 287, 288, 364, 284, 285, 286, 52, 894, 895, 896, 897, 898, 899, 900, 901, 902, 903, 904, 905, 906, 907, 943, 944, 945, 946, 947, 948, 949, 950, 951] rfl (by decide +kernel)
set_option maxRecDepth 20000 in
theorem gL_law_X7_follows : GoodIn wsL_law (wsV RL 51 RX7 yX7_follows wsX7_follows) := goodIn_app (goodIn_of _ (by decide +kernel)) ggL_law_X7_follows
set_option maxRecDepth 20000 in
theorem ggL_law_X9_follows : GoodIn wsL_law wsX9_follows := goodIn_r _ [368, 96, 248, 305, 306, 307, 5, 308, 245, 159, 160, 161, 162, 163, 164, 165, 166, 309, 310, 311, 312, 908, 909, 910, 911, 912, 913, 914, 915, 916, 917, 918, 919, 920, 921, 922, 923, 924, 925, 926, 927, 928, 929, 930, 931, 932, 933, 934, 935, 936, 937, 938, 939, 977, 978, 979, 980, 981] rfl (by decide +kernel)
set_option maxRecDepth 20000 in
theorem gL_law_X9_follows : GoodIn wsL_law (wsV RL 54 RX9 yX9_follows wsX9_follows) := goodIn_app (goodIn_of _ (by decide +kernel)) ggL_law_X9_follows
set_option maxRecDepth 20000 in
theorem ggL_law_X7_order : GoodIn wsL_law wsX7_order := goodIn_r _ [372, 20, 29, 373, 275, 276, 277, 19, 278, 224, 136, 137, 138, 2, 139, 140, 374, 375, 376, 377, 52, 287, 288, 894, 895, 896, 897, 898, 899, 900, 901, 902, 903, 904, 905, 906, 907, 956, 957, 958, 943, 944, 945, 946, 947, 948, 949, 950, 951] rfl (by decide +kernel)
set_option maxRecDepth 20000 in
theorem gL_law_X7_order : GoodIn wsL_law (wsV RL 55 RX7 yX7_order wsX7_order) := goodIn_app (goodIn_of _ (by decide +kernel)) ggL_law_X7_order
set_option maxRecDepth 20000 in
theorem ggL_law_X9_order : GoodIn wsL_law wsX9_order := goodIn_r _ [381, 96, 245, 107, 159, 160, 5, 161, 162, 163, 164, 165, 166, 382, 383, 384, 385, 386, 387, 388, 389, 248, 908, 909, 910, 911, 912, 913, 914, 915, 916, 917, 918, 919, 920, 921, 922, 923, 924, 925, 926, 927, 928, 929, 930, 931, 932, 933, 934, 935, 936, 937, 938, 939, 977, 978, 979, 980, 981] rfl (by decide +kernel)
set_option maxRecDepth 20000 in
theorem gL_law_X9_order : GoodIn wsL_law (wsV RL 59 RX9 yX9_order wsX9_order) := goodIn_app (goodIn_of _ (by decide +kernel)) ggL_law_X9_order
set_option maxRecDepth 20000 in
theorem ggL_law_X7_span : GoodIn wsL_law wsX7_span := goodIn_r _ [393, 20, 394, 25, 275, 276, 277, 19, 278, 224, 395, 396, 397, 398, 47, 46, 136, 137, 138, 2, 139, 140, 226, 227, 228, 24, 229, 230, 56, 231, 194, 195, 196, 57, 58, 894, 895, 896, 897, 898, 899, 900, 901, 902, 903, 904, 905, 906, 907, 943, 944, 945, 946, 947, 948, 949, 950, 951, 952, 953, 954, 955] rfl (by decide +kernel)
set_option maxRecDepth 20000 in
theorem gL_law_X7_span : GoodIn wsL_law (wsV RL 60 RX7 yX7_span wsX7_span) := goodIn_app (goodIn_of _ (by decide +kernel)) ggL_law_X7_span
set_option maxRecDepth 20000 in
theorem ggL_law_X9_span : GoodIn wsL_law wsX9_span := goodIn_r _ [402, 96, 249, 305, 306, 307, 5, 308, 245, 159, 160, 161, 356, 357, 358, 359, 247, 162, 163, 164, 165, 166, 253, 254, 255, 256, 257, 98, 100, 258, 259, 260, 95, 261, 262, 124, 127, 125, 126, 263, 264, 265, 266, 267, 268, 908, 909, 910, 911, 912, 913, 914, 915, 916, 917, 918, 919, 920, 921, 922, 923, 924, 925, 926, 927, 928, 929, 930, 931, 932, 933, 934, 935, 936, 937, 938, 939, 977, 978, 979, 980, 981] rfl (by decide +kernel)
set_option maxRecDepth 20000 in
theorem gL_law_X9_span : GoodIn wsL_law (wsV RL 63 RX9 yX9_span wsX9_span) := goodIn_app (goodIn_of _ (by decide +kernel)) ggL_law_X9_span
set_option maxRecDepth 20000 in
theorem ggL_law_X7_length : GoodIn wsL_law wsX7_length := goodIn_r _ [406, 29, 20, 394, 407, 408, 409, 28, 410, 62, 411, 412, 63, 413, 414, 415, 416, 417, 375, 376, 19, 377, 224, 52, 287, 2, 288, 894, 895, 896, 897, 898, 899, 900, 901, 902, 903, 904, 905, 906, 907, 943, 944, 945, 946, 947, 948, 949, 950, 951, 956, 957, 958] rfl (by decide +kernel)
set_option maxRecDepth 20000 in
theorem gL_law_X7_length : GoodIn wsL_law (wsV RL 64 RX7 yX7_length wsX7_length) := goodIn_app (goodIn_of _ (by decide +kernel)) ggL_law_X7_length
set_option maxRecDepth 20000 in
theorem ggL_law_X9_length : GoodIn wsL_law wsX9_length := goodIn_r _ [421, 422, 423, 424, 5, 425, 96, 245, 108, 249, 426, 427, 428, 429, 107, 109, 248, 430, 414, 415, 416, 382, 383, 384, 385, 386, 387, 388, 389, 908, 909, 910, 911, 912, 913, 914, 915, 916, 917, 918, 919, 920, 921, 922, 923, 924, 925, 926, 927, 928, 929, 930, 931, 932, 933, 934, 935, 936, 937, 938, 939, 977, 978, 979, 980, 981] rfl (by decide +kernel)
set_option maxRecDepth 20000 in
theorem gL_law_X9_length : GoodIn wsL_law (wsV RL 68 RX9 yX9_length wsX9_length) := goodIn_app (goodIn_of _ (by decide +kernel)) ggL_law_X9_length
set_option maxRecDepth 20000 in
theorem ggL_law_X7_early : GoodIn wsL_law wsX7_early := goodIn_r _ [434, 20, 29, 394, 435, 436, 275, 276, 277, 19, 278, 224, 136, 137, 138, 2, 139, 140, 437, 438, 439, 28, 440, 411, 62, 412, 64, 441, 442, 415, 443, 444, 408, 409, 410, 63, 413, 414, 416, 417, 375, 376, 377, 52, 287, 288, 894, 895, 896, 897, 898, 899, 900, 901, 902, 903, 904, 905, 906, 907, 943, 944, 945, 946, 947, 948, 949, 950, 951, 956, 957, 958] rfl (by decide +kernel)
set_option maxRecDepth 20000 in
theorem gL_law_X7_early : GoodIn wsL_law (wsV RL 69 RX7 yX7_early wsX7_early) := goodIn_app (goodIn_of _ (by decide +kernel)) ggL_law_X7_early
set_option maxRecDepth 20000 in
theorem ggL_law_X9_early_ : GoodIn wsL_law wsX9_early_ := goodIn_r _ [448, 110, 109, 305, 306, 307, 5, 308, 96, 245, 159, 160, 161, 162, 163, 164, 165, 166, 449, 450, 451, 452, 107, 248, 453, 442, 415, 443, 108, 422, 423, 424, 425, 249, 426, 427, 428, 429, 430, 414, 416, 382, 383, 384, 385, 386, 387, 388, 389, 908, 909, 910, 911, 912, 913, 914, 915, 916, 917, 918, 919, 920, 921, 922, 923, 924, 925, 926, 927, 928, 929, 930, 931, 932, 933, 934, 935, 936, 937, 938, 939, 977, 978, 979, 980, 981] rfl (by decide +kernel)
set_option maxRecDepth 20000 in
theorem gL_law_X9_early_ : GoodIn wsL_law (wsV RL 73 RX9 yX9_early_ wsX9_early_) := goodIn_app (goodIn_of _ (by decide +kernel)) ggL_law_X9_early_
set_option maxRecDepth 20000 in
theorem ggL_law_X7_tight : GoodIn wsL_law wsX7_tight := goodIn_r _ [457, 29, 20, 394, 206, 436, 435, 437, 438, 439, 28, 440, 411, 62, 412, 64, 441, 442, 415, 443, 444, 408, 409, 410, 63, 413, 414, 416, 417, 375, 376, 19, 377, 224, 52, 287, 2, 288, 894, 895, 896, 897, 898, 899, 900, 901, 902, 903, 904, 905, 906, 907, 943, 944, 945, 946, 947, 948, 949, 950, 951, 956, 957, 958] rfl (by decide +kernel)
set_option maxRecDepth 20000 in
theorem gL_law_X7_tight : GoodIn wsL_law (wsV RL 74 RX7 yX7_tight wsX7_tight) := goodIn_app (goodIn_of _ (by decide +kernel)) ggL_law_X7_tight
set_option maxRecDepth 20000 in
theorem ggL_law_X9_tight : GoodIn wsL_law wsX9_tight := goodIn_r _ [461, 96, 245, 109, 110, 449, 450, 451, 5, 452, 107, 248, 453, 442, 415, 443, 108, 422, 423, 424, 425, 249, 426, 427, 428, 429, 430, 414, 416, 382, 383, 384, 385, 386, 387, 388, 389, 908, 909, 910, 911, 912, 913, 914, 915, 916, 917, 918, 919, 920, 921, 922, 923, 924, 925, 926, 927, 928, 929, 930, 931, 932, 933, 934, 935, 936, 937, 938, 939, 977, 978, 979, 980, 981] rfl (by decide +kernel)
set_option maxRecDepth 20000 in
theorem gL_law_X9_tight : GoodIn wsL_law (wsV RL 77 RX9 yX9_tight wsX9_tight) := goodIn_app (goodIn_of _ (by decide +kernel)) ggL_law_X9_tight
set_option maxRecDepth 20000 in
theorem ggL_law_X7_toldCost : GoodIn wsL_law wsX7_toldCost := goodIn_r _ [465, 20, 206, 394, 466, 467, 468, 19, 469, 48, 46, 45, 50, 49, 470, 414, 415, 416, 894, 895, 896, 897, 898, 899, 900, 901, 902, 903, 904, 905, 906, 907, 943, 944, 945, 946, 947, 948, 949, 950, 951] rfl (by decide +kernel)
set_option maxRecDepth 20000 in
theorem gL_law_X7_toldCost : GoodIn wsL_law (wsV RL 78 RX7 yX7_toldCost wsX7_toldCost) := goodIn_app (goodIn_of _ (by decide +kernel)) ggL_law_X7_toldCost
set_option maxRecDepth 20000 in
theorem ggL_law_X9_toldCost : GoodIn wsL_law wsX9_toldCost := goodIn_r _ [474, 96, 245, 249, 475, 476, 477, 5, 478, 479, 246, 430, 414, 415, 416, 356, 357, 358, 359, 247, 159, 160, 161, 908, 909, 910, 911, 912, 913, 914, 915, 916, 917, 918, 919, 920, 921, 922, 923, 924, 925, 926, 927, 928, 929, 930, 931, 932, 933, 934, 935, 936, 937, 938, 939, 977, 978, 979, 980, 981] rfl (by decide +kernel)
set_option maxRecDepth 20000 in
theorem gL_law_X9_toldCost : GoodIn wsL_law (wsV RL 82 RX9 yX9_toldCost wsX9_toldCost) := goodIn_app (goodIn_of _ (by decide +kernel)) ggL_law_X9_toldCost
