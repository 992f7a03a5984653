set_option maxRecDepth 20000 in
theorem ggL_law_X7_init : GoodIn wsL_law wsX7_init := goodIn_r _ [9, 10, 11, 12, 13, 14, 15, 16, 17, 18, 19, 20, 21, 22, 23, 24, 25, 26, 27, 28, 29, 30, 31, 32, 33, 34, 35, 36, 37, 38, 39, 40, 41, 42, 43, 44, 45, 46, 47, 48, 49, 50, 51, 52, 53, 54, 55, 56, 57, 58, 59, 60, 61, 62, 63, 64, 65, 66, 67, 68, 69, 70, 71, 72, 73, 74, 75, 76, 77, 78, 79, 80, 81, 82, 83, 84, 85, 86, 87, 88, 89, 90, 91, 92, 93, 94, 95, 96, 97, 98, 99, 100, 101, 102, 103, 104, 105, 928, 929, 930, 931, 932, 933, 934, 935, 936, 879, 880, 881, 882, 883, 884, 885, 886, 887, 888, 889, 890, 891, 892, 893, 937, 938, 939, 940, 941, 942, 943, 944, 945, 946, 947, 948, 949, 950, 951, 952, 953, 954, 955, 956, 957, 958] (by decide +kernel) (by decide +kernel)
set_option maxRecDepth 20000 in
theorem gL_law_X7_init : GoodIn wsL_law (wsX7_init) := ggL_law_X7_init
set_option maxRecDepth 20000 in
theorem ggL_law_X8_init : GoodIn wsL_law wsX8_init := goodIn_r _ [108, 109, 11, 12, 110, 111, 41, 112, 113, 114, 115, 116, 117, 118, 44, 119, 120, 121, 122, 123, 124, 125, 126, 127, 894, 895, 896, 897, 898, 899, 900, 901, 902, 903, 904, 905, 906, 907, 908, 909, 910, 911, 912, 913, 914, 915, 916, 917, 918, 919, 920, 921, 922, 923, 924, 925, 926, 927] (by decide +kernel) (by decide +kernel)
set_option maxRecDepth 20000 in
theorem gL_law_X8_init : GoodIn wsL_law (wsX8_init) := ggL_law_X8_init
set_option maxRecDepth 20000 in
theorem ggL_law_X7_write : GoodIn wsL_law wsX7_write := goodIn_r _ [131, 20, 132, 133, 134, 135, 136, 19, 137, 138, 61, 879, 880, 881, 882, 883, 884, 885, 886, 887, 888, 889, 890, 891, 892, 893, 937, 938, 939, 940] (by decide +kernel) (by decide +kernel)
set_option maxRecDepth 20000 in
theorem gL_law_X7_write : GoodIn wsL_law (wsV RL 15 RX7 yX7_write wsX7_write) := goodIn_app (goodIn_of _ (by decide +kernel)) ggL_law_X7_write
set_option maxRecDepth 20000 in
theorem ggL_law_X8_write : GoodIn wsL_law wsX8_write := goodIn_r _ [142, 143, 113, 144, 145, 146, 5, 147, 894, 895, 896, 897, 898, 899, 900, 901, 902, 903, 904, 905, 906, 907, 908, 909, 910, 911, 912, 913, 914, 915, 916, 917, 918, 919, 920, 921, 922, 923, 924, 925, 926, 927] (by decide +kernel) (by decide +kernel)
set_option maxRecDepth 20000 in
theorem gL_law_X8_write : GoodIn wsL_law (wsV RL 19 RX8 yX8_write wsX8_write) := goodIn_app (goodIn_of _ (by decide +kernel)) ggL_law_X8_write
set_option maxRecDepth 20000 in
theorem ggL_law_X7_erase : GoodIn wsL_law wsX7_erase := goodIn_r _ [151, 20, 132, 879, 880, 881, 882, 883, 884, 885, 886, 887, 888, 889, 890, 891, 892, 893, 937, 938, 939, 940] (by decide +kernel) (by decide +kernel)
set_option maxRecDepth 20000 in
theorem gL_law_X7_erase : GoodIn wsL_law (wsV RL 20 RX7 yX7_erase wsX7_erase) := goodIn_app (goodIn_of _ (by decide +kernel)) ggL_law_X7_erase
set_option maxRecDepth 20000 in
theorem ggL_law_X8_erase : GoodIn wsL_law wsX8_erase := goodIn_r _ [155, 143, 894, 895, 896, 897, 898, 899, 900, 901, 902, 903, 904, 905, 906, 907, 908, 909, 910, 911, 912, 913, 914, 915, 916, 917, 918, 919, 920, 921, 922, 923, 924, 925, 926, 927] (by decide +kernel) (by decide +kernel)
set_option maxRecDepth 20000 in
theorem gL_law_X8_erase : GoodIn wsL_law (wsV RL 24 RX8 yX8_erase wsX8_erase) := goodIn_app (goodIn_of _ (by decide +kernel)) ggL_law_X8_erase
set_option maxRecDepth 20000 in
theorem ggL_law_X7_fault : GoodIn wsL_law wsX7_fault := goodIn_r _ [159, 24, 16, 160, 161, 162, 163, 23, 164, 67, 165, 166, 68, 167, 168, 169, 15, 170, 56, 57, 171, 172, 173, 174, 175, 54, 176, 177, 178, 179, 55, 180, 181, 182, 19, 183, 184, 185, 186, 187, 188, 189, 138, 61, 190, 191, 192, 193, 194, 195, 196, 197, 198, 199, 200, 201, 202, 203, 204, 205, 206, 207, 208, 209, 210, 211, 212, 213, 214, 215, 216, 217, 218, 219, 220, 221, 222, 223, 224, 225, 226, 227, 228, 229, 230, 231, 232, 233, 234, 235, 236, 237, 238, 239, 240, 241, 242, 243, 244, 245, 246, 247, 248, 249, 250, 251, 252, 253, 254, 255, 256, 257, 258, 259, 260, 261, 262, 263, 264, 265, 266, 267, 268, 269, 270, 271, 272, 273, 274, 275, 276, 277, 278, 279, 280, 281, 282, 283, 284, 285, 286, 287, 288, 289, 290, 291, 292, 293, 294, 295, 296, 297, 298, 299, 300, 301, 2, 302, 303, 304, 305, 306, 307, 308, 309, 310, 311, 312, 313, 314, 315, 316, 317, 318, 319, 320, 321, 322, 323, 324, 325, 879, 880, 881, 882, 883, 884, 885, 886, 887, 888, 889, 890, 891, 892, 893, 941, 942, 943, 944, 928, 929, 930, 931, 932, 933, 934, 935, 936, 937, 938, 939, 940] (by decide +kernel) (by decide +kernel)
set_option maxRecDepth 20000 in
theorem gL_law_X7_fault : GoodIn wsL_law (wsV RL 25 RX7 yX7_fault wsX7_fault) := goodIn_app (goodIn_of _ (by decide +kernel)) ggL_law_X7_fault
set_option maxRecDepth 20000 in
theorem ggL_law_X8_fault : GoodIn wsL_law wsX8_fault := goodIn_r _ [329, 330, 331, 332, 333, 5, 334, 335, 336, 110, 111, 337, 338, 339, 340, 341, 114, 112, 115, 342, 343, 344, 345, 346, 347, 348, 349, 350, 351, 352, 353, 354, 355, 356, 357, 358, 116, 359, 360, 361, 362, 143, 113, 363, 364, 365, 366, 367, 368, 369, 145, 146, 147, 370, 371, 372, 373, 374, 375, 376, 377, 378, 379, 380, 381, 382, 383, 384, 385, 386, 387, 388, 389, 390, 391, 392, 393, 394, 395, 894, 895, 896, 897, 898, 899, 900, 901, 902, 903, 904, 905, 906, 907, 908, 909, 910, 911, 912, 913, 914, 915, 916, 917, 918, 919, 920, 921, 922, 923, 924, 925, 926, 927] (by decide +kernel) (by decide +kernel)
set_option maxRecDepth 20000 in
theorem gL_law_X8_fault : GoodIn wsL_law (wsV RL 28 RX8 yX8_fault wsX8_fault) := goodIn_app (goodIn_of _ (by decide +kernel)) ggL_law_X8_fault
set_option maxRecDepth 20000 in
theorem ggL_law_X7_board : GoodIn wsL_law wsX7_board := goodIn_r _ [399, 24, 16, 160, 400, 20, 132, 401, 161, 162, 163, 23, 164, 67, 165, 166, 68, 167, 168, 169, 15, 170, 56, 57, 171, 172, 173, 174, 175, 54, 176, 177, 178, 179, 55, 180, 181, 182, 19, 183, 184, 185, 186, 187, 188, 189, 138, 61, 190, 191, 192, 193, 194, 195, 196, 197, 198, 199, 200, 201, 202, 203, 204, 205, 206, 207, 208, 209, 210, 211, 212, 213, 214, 215, 216, 217, 218, 219, 220, 221, 222, 223, 224, 225, 226, 227, 228, 229, 230, 231, 232, 233, 234, 235, 236, 237, 238, 239, 240, 241, 242, 243, 244, 245, 246, 247, 248, 249, 250, 251, 252, 253, 254, 255, 256, 257, 258, 259, 260, 261, 262, 263, 264, 265, 266, 267, 268, 269, 270, 271, 272, 273, 274, 275, 276, 277, 278, 279, 280, 281, 282, 283, 284, 285, 286, 287, 288, 289, 290, 291, 292, 293, 294, 295, 296, 297, 298, 299, 300, 301, 2, 302, 303, 304, 305, 306, 307, 308, 309, 310, 311, 312, 313, 314, 315, 316, 317, 318, 319, 320, 321, 322, 323, 324, 325, 402, 403, 404, 405, 406, 28, 48, 49, 40, 407, 408, 409, 410, 45, 96, 97, 98, 27, 99, 73, 100, 101, 102, 103, 104, 105, 411, 412, 413, 39, 414, 415, 879, 880, 881, 882, 883, 884, 885, 886, 887, 888, 889, 890, 891, 892, 893, 941, 942, 943, 944, 937, 938, 939, 940, 928, 929, 930, 931, 932, 933, 934, 935, 936, 945, 951, 952, 953, 954, 955, 956, 957, 958] (by decide +kernel) (by decide +kernel)
set_option maxRecDepth 20000 in
theorem gL_law_X7_board : GoodIn wsL_law (wsV RL 29 RX7 yX7_board wsX7_board) := goodIn_app (goodIn_of _ (by decide +kernel)) ggL_law_X7_board
set_option maxRecDepth 20000 in
theorem ggL_law_X8_board : GoodIn wsL_law wsX8_board := goodIn_r _ [419, 336, 143, 340, 117, 112, 420, 421, 119, 331, 332, 333, 5, 334, 335, 110, 111, 337, 338, 339, 341, 114, 115, 342, 343, 344, 345, 346, 347, 348, 349, 350, 351, 352, 353, 354, 355, 356, 357, 358, 116, 359, 360, 361, 362, 113, 363, 364, 365, 366, 367, 368, 369, 145, 146, 147, 370, 371, 372, 373, 374, 375, 376, 377, 330, 378, 379, 380, 381, 382, 383, 384, 385, 386, 387, 388, 389, 390, 391, 392, 393, 394, 395, 422, 423, 424, 425, 426, 894, 895, 896, 897, 898, 899, 900, 901, 902, 903, 904, 905, 906, 907, 908, 909, 910, 911, 912, 913, 914, 915, 916, 917, 918, 919, 920, 921, 922, 923, 924, 925, 926, 927] (by decide +kernel) (by decide +kernel)
set_option maxRecDepth 20000 in
theorem gL_law_X8_board : GoodIn wsL_law (wsV RL 32 RX8 yX8_board wsX8_board) := goodIn_app (goodIn_of _ (by decide +kernel)) ggL_law_X8_board
set_option maxRecDepth 20000 in
theorem ggL_law_X7_square : GoodIn wsL_law wsX7_square := goodIn_r _ [430, 16, 431, 408, 432, 433, 434, 435, 2, 436, 437, 294, 295, 15, 296, 56, 57, 438, 301, 302, 439, 304, 305, 306, 173, 307, 308, 879, 880, 881, 882, 883, 884, 885, 886, 887, 888, 889, 890, 891, 892, 893, 928, 929, 930, 931, 932, 933, 934, 935, 936] (by decide +kernel) (by decide +kernel)
set_option maxRecDepth 20000 in
theorem gL_law_X7_square : GoodIn wsL_law (wsV RL 33 RX7 yX7_square wsX7_square) := goodIn_app (goodIn_of _ (by decide +kernel)) ggL_law_X7_square
set_option maxRecDepth 20000 in
theorem ggL_law_X8_square : GoodIn wsL_law wsX8_square := goodIn_r _ [443, 340, 117, 112, 338, 444, 445, 446, 5, 447, 110, 111, 145, 146, 147, 894, 895, 896, 897, 898, 899, 900, 901, 902, 903, 904, 905, 906, 907, 908, 909, 910, 911, 912, 913, 914, 915, 916, 917, 918, 919, 920, 921, 922, 923, 924, 925, 926, 927] (by decide +kernel) (by decide +kernel)
set_option maxRecDepth 20000 in
theorem gL_law_X8_square : GoodIn wsL_law (wsV RL 37 RX8 yX8_square wsX8_square) := goodIn_app (goodIn_of _ (by decide +kernel)) ggL_law_X8_square
set_option maxRecDepth 20000 in
theorem ggL_law_X7_man : GoodIn wsL_law wsX7_man := goodIn_r _ [451, 16, 452, 453, 408, 432, 454, 455, 456, 2, 457, 458, 459, 307, 308, 879, 880, 881, 882, 883, 884, 885, 886, 887, 888, 889, 890, 891, 892, 893, 928, 929, 930, 931, 932, 933, 934, 935, 936] (by decide +kernel) (by decide +kernel)
set_option maxRecDepth 20000 in
theorem gL_law_X7_man : GoodIn wsL_law (wsV RL 38 RX7 yX7_man wsX7_man) := goodIn_app (goodIn_of _ (by decide +kernel)) ggL_law_X7_man
set_option maxRecDepth 20000 in
theorem ggL_law_X8_man : GoodIn wsL_law wsX8_man := goodIn_r _ [463, 117, 112, 464, 465, 466, 5, 467, 340, 145, 146, 147, 894, 895, 896, 897, 898, 899, 900, 901, 902, 903, 904, 905, 906, 907, 908, 909, 910, 911, 912, 913, 914, 915, 916, 917, 918, 919, 920, 921, 922, 923, 924, 925, 926, 927] (by decide +kernel) (by decide +kernel)
set_option maxRecDepth 20000 in
theorem gL_law_X8_man : GoodIn wsL_law (wsV RL 41 RX8 yX8_man wsX8_man) := goodIn_app (goodIn_of _ (by decide +kernel)) ggL_law_X8_man
set_option maxRecDepth 20000 in
theorem ggL_law_X7_as : GoodIn wsL_law wsX7_as := goodIn_r _ [471, 16, 452, 28, 408, 431, 454, 455, 456, 2, 457, 458, 472, 473, 474, 475, 476, 477, 478, 479, 459, 307, 308, 480, 481, 482, 15, 483, 173, 484, 485, 486, 27, 487, 488, 489, 73, 490, 301, 302, 879, 880, 881, 882, 883, 884, 885, 886, 887, 888, 889, 890, 891, 892, 893, 928, 929, 930, 931, 932, 933, 934, 935, 936, 945] (by decide +kernel) (by decide +kernel)
set_option maxRecDepth 20000 in
theorem gL_law_X7_as : GoodIn wsL_law (wsV RL 42 RX7 yX7_as wsX7_as) := goodIn_app (goodIn_of _ (by decide +kernel)) ggL_law_X7_as
set_option maxRecDepth 20000 in
theorem ggL_law_X8_as : GoodIn wsL_law wsX8_as := goodIn_r _ [494, 112, 117, 464, 465, 466, 5, 467, 340, 145, 146, 147, 495, 496, 497, 498, 499, 500, 501, 502, 110, 503, 504, 505, 506, 111, 338, 382, 383, 384, 507, 508, 509, 510, 894, 895, 896, 897, 898, 899, 900, 901, 902, 903, 904, 905, 906, 907, 908, 909, 910, 911, 912, 913, 914, 915, 916, 917, 918, 919, 920, 921, 922, 923, 924, 925, 926, 927] (by decide +kernel) (by decide +kernel)
set_option maxRecDepth 20000 in
theorem gL_law_X8_as : GoodIn wsL_law (wsV RL 45 RX8 yX8_as wsX8_as) := goodIn_app (goodIn_of _ (by decide +kernel)) ggL_law_X8_as
set_option maxRecDepth 20000 in
theorem ggL_law_X7_may : GoodIn wsL_law wsX7_may := goodIn_r _ [514, 32, 408, 409, 16, 431, 454, 455, 456, 2, 457, 458, 515, 516, 517, 31, 518, 519, 520, 521, 522, 78, 523, 524, 79, 525, 526, 481, 482, 15, 483, 173, 307, 308, 527, 485, 486, 27, 487, 488, 489, 73, 490, 478, 479, 301, 302, 318, 319, 528, 529, 530, 531, 532, 533, 534, 535, 536, 879, 880, 881, 882, 883, 884, 885, 886, 887, 888, 889, 890, 891, 892, 893, 928, 929, 930, 931, 932, 933, 934, 935, 936, 946, 947, 945] (by decide +kernel) (by decide +kernel)
set_option maxRecDepth 20000 in
theorem gL_law_X7_may : GoodIn wsL_law (wsV RL 46 RX7 yX7_may wsX7_may) := goodIn_app (goodIn_of _ (by decide +kernel)) ggL_law_X7_may
set_option maxRecDepth 20000 in
theorem ggL_law_X8_may : GoodIn wsL_law wsX8_may := goodIn_r _ [540, 117, 420, 464, 465, 466, 5, 467, 340, 145, 146, 147, 541, 542, 543, 544, 426, 112, 110, 111, 495, 496, 497, 498, 499, 500, 501, 502, 503, 504, 505, 506, 338, 382, 383, 384, 507, 508, 509, 510, 545, 546, 547, 548, 894, 895, 896, 897, 898, 899, 900, 901, 902, 903, 904, 905, 906, 907, 908, 909, 910, 911, 912, 913, 914, 915, 916, 917, 918, 919, 920, 921, 922, 923, 924, 925, 926, 927] (by decide +kernel) (by decide +kernel)
set_option maxRecDepth 20000 in
theorem gL_law_X8_may : GoodIn wsL_law (wsV RL 50 RX8 yX8_may wsX8_may) := goodIn_app (goodIn_of _ (by decide +kernel)) ggL_law_X8_may
set_option maxRecDepth 20000 in
theorem ggL_law_X7_hop : GoodIn wsL_law wsX7_hop := goodIn_r _ [552, 32, 408, 409, 16, 431, 454, 455, 456, 2, 457, 458, 433, 434, 435, 436, 437, 294, 295, 15, 296, 56, 57, 515, 516, 517, 31, 518, 519, 520, 521, 522, 78, 523, 524, 79, 525, 526, 481, 482, 483, 173, 307, 308, 527, 485, 486, 27, 487, 488, 489, 73, 490, 478, 479, 301, 302, 318, 319, 528, 529, 530, 531, 532, 533, 534, 535, 536, 438, 553, 879, 880, 881, 882, 883, 884, 885, 886, 887, 888, 889, 890, 891, 892, 893, 928, 929, 930, 931, 932, 933, 934, 935, 936, 946, 947, 945] (by decide +kernel) (by decide +kernel)
set_option maxRecDepth 20000 in
theorem gL_law_X7_hop : GoodIn wsL_law (wsV RL 51 RX7 yX7_hop wsX7_hop) := goodIn_app (goodIn_of _ (by decide +kernel)) ggL_law_X7_hop
set_option maxRecDepth 20000 in
theorem ggL_law_X8_hop : GoodIn wsL_law wsX8_hop := goodIn_r _ [557, 117, 420, 464, 465, 466, 5, 467, 340, 145, 146, 147, 444, 445, 446, 447, 110, 111, 541, 542, 543, 544, 426, 112, 495, 496, 497, 498, 499, 500, 501, 502, 503, 504, 505, 506, 338, 382, 383, 384, 507, 508, 509, 510, 545, 546, 547, 548, 894, 895, 896, 897, 898, 899, 900, 901, 902, 903, 904, 905, 906, 907, 908, 909, 910, 911, 912, 913, 914, 915, 916, 917, 918, 919, 920, 921, 922, 923, 924, 925, 926, 927] (by decide +kernel) (by decide +kernel)
set_option maxRecDepth 20000 in
theorem gL_law_X8_hop : GoodIn wsL_law (wsV RL 54 RX8 yX8_hop wsX8_hop) := goodIn_app (goodIn_of _ (by decide +kernel)) ggL_law_X8_hop
set_option maxRecDepth 20000 in
theorem ggL_law_X7_attacked : GoodIn wsL_law wsX7_attacked := goodIn_r _ [561, 32, 408, 16, 431, 562, 533, 534, 31, 535, 78, 536, 79, 525, 524, 526, 481, 482, 15, 483, 173, 307, 2, 308, 527, 485, 486, 27, 487, 488, 489, 73, 490, 478, 479, 301, 302, 879, 880, 881, 882, 883, 884, 885, 886, 887, 888, 889, 890, 891, 892, 893, 928, 929, 930, 931, 932, 933, 934, 935, 936, 946, 947, 945] (by decide +kernel) (by decide +kernel)
set_option maxRecDepth 20000 in
theorem gL_law_X7_attacked : GoodIn wsL_law (wsV RL 55 RX7 yX7_attacked wsX7_attacked) := goodIn_app (goodIn_of _ (by decide +kernel)) ggL_law_X7_attacked
set_option maxRecDepth 20000 in
theorem ggL_law_X8_attacked : GoodIn wsL_law wsX8_attacked := goodIn_r _ [566, 117, 545, 546, 547, 5, 548, 340, 112, 495, 496, 497, 498, 499, 500, 501, 502, 110, 503, 504, 505, 506, 111, 338, 145, 146, 147, 382, 383, 384, 507, 508, 509, 510, 894, 895, 896, 897, 898, 899, 900, 901, 902, 903, 904, 905, 906, 907, 908, 909, 910, 911, 912, 913, 914, 915, 916, 917, 918, 919, 920, 921, 922, 923, 924, 925, 926, 927] (by decide +kernel) (by decide +kernel)
set_option maxRecDepth 20000 in
theorem gL_law_X8_attacked : GoodIn wsL_law (wsV RL 58 RX8 yX8_attacked wsX8_attacked) := goodIn_app (goodIn_of _ (by decide +kernel)) ggL_law_X8_attacked
set_option maxRecDepth 20000 in
theorem ggL_law_X7_keep : GoodIn wsL_law wsX7_keep := goodIn_r _ [570, 42, 408, 43, 409, 45, 879, 880, 881, 882, 883, 884, 885, 886, 887, 888, 889, 890, 891, 892, 893] (by decide +kernel) (by decide +kernel)
set_option maxRecDepth 20000 in
theorem gL_law_X7_keep : GoodIn wsL_law (wsV RL 59 RX7 yX7_keep wsX7_keep) := goodIn_app (goodIn_of _ (by decide +kernel)) ggL_law_X7_keep
set_option maxRecDepth 20000 in
theorem ggL_law_X8_keep : GoodIn wsL_law wsX8_keep := goodIn_r _ [574, 118, 117, 420, 119, 145, 146, 5, 147, 894, 895, 896, 897, 898, 899, 900, 901, 902, 903, 904, 905, 906, 907, 908, 909, 910, 911, 912, 913, 914, 915, 916, 917, 918, 919, 920, 921, 922, 923, 924, 925, 926, 927] (by decide +kernel) (by decide +kernel)
set_option maxRecDepth 20000 in
theorem gL_law_X8_keep : GoodIn wsL_law (wsV RL 62 RX8 yX8_keep wsX8_keep) := goodIn_app (goodIn_of _ (by decide +kernel)) ggL_law_X8_keep
set_option maxRecDepth 20000 in
theorem ggL_law_X7_back : GoodIn wsL_law wsX7_back := goodIn_r _ [578, 45, 42, 408, 43, 409, 879, 880, 881, 882, 883, 884, 885, 886, 887, 888, 889, 890, 891, 892, 893] (by decide +kernel) (by decide +kernel)
set_option maxRecDepth 20000 in
theorem gL_law_X7_back : GoodIn wsL_law (wsV RL 63 RX7 yX7_back wsX7_back) := goodIn_app (goodIn_of _ (by decide +kernel)) ggL_law_X7_back
set_option maxRecDepth 20000 in
theorem ggL_law_X8_back : GoodIn wsL_law wsX8_back := goodIn_r _ [582, 119, 117, 118, 420, 145, 146, 5, 147, 894, 895, 896, 897, 898, 899, 900, 901, 902, 903, 904, 905, 906, 907, 908, 909, 910, 911, 912, 913, 914, 915, 916, 917, 918, 919, 920, 921, 922, 923, 924, 925, 926, 927] (by decide +kernel) (by decide +kernel)
set_option maxRecDepth 20000 in
theorem gL_law_X8_back : GoodIn wsL_law (wsV RL 66 RX8 yX8_back wsX8_back) := goodIn_app (goodIn_of _ (by decide +kernel)) ggL_law_X8_back
set_option maxRecDepth 20000 in
theorem ggL_law_X7_net : GoodIn wsL_law wsX7_net := goodIn_r _ [586, 36, 16, 431, 587, 433, 434, 435, 2, 436, 437, 294, 295, 15, 296, 56, 57, 477, 478, 479, 588, 589, 590, 35, 591, 592, 84, 85, 301, 302, 593, 485, 486, 27, 487, 488, 489, 73, 490, 879, 880, 881, 882, 883, 884, 885, 886, 887, 888, 889, 890, 891, 892, 893, 928, 929, 930, 931, 932, 933, 934, 935, 936, 948, 949, 950, 945] (by decide +kernel) (by decide +kernel)
set_option maxRecDepth 20000 in
theorem gL_law_X7_net : GoodIn wsL_law (wsV RL 67 RX7 yX7_net wsX7_net) := goodIn_app (goodIn_of _ (by decide +kernel)) ggL_law_X7_net
set_option maxRecDepth 20000 in
theorem ggL_law_X8_net : GoodIn wsL_law wsX8_net := goodIn_r _ [597, 444, 445, 446, 5, 447, 110, 111, 145, 146, 147, 598, 599, 600, 601, 338, 382, 383, 384, 499, 500, 501, 502, 503, 504, 505, 506, 507, 508, 509, 510, 894, 895, 896, 897, 898, 899, 900, 901, 902, 903, 904, 905, 906, 907, 908, 909, 910, 911, 912, 913, 914, 915, 916, 917, 918, 919, 920, 921, 922, 923, 924, 925, 926, 927] (by decide +kernel) (by decide +kernel)
