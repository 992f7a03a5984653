set_option maxRecDepth 20000 in
theorem gL_law_X8_net : GoodIn wsL_law (wsV RL 70 RX8 yX8_net wsX8_net) := goodIn_app (goodIn_of _ (by decide +kernel)) ggL_law_X8_net
set_option maxRecDepth 20000 in
theorem ggL_law_X7_part : GoodIn wsL_law wsX7_part := goodIn_r _ [605, 36, 16, 431, 433, 434, 435, 2, 436, 437, 294, 295, 15, 296, 56, 57, 477, 478, 479, 588, 589, 590, 35, 591, 592, 84, 85, 301, 302, 593, 485, 486, 27, 487, 488, 489, 73, 490, 606, 607, 608, 609, 879, 880, 881, 882, 883, 884, 885, 886, 887, 888, 889, 890, 891, 892, 893, 928, 929, 930, 931, 932, 933, 934, 935, 936, 948, 949, 950, 945] (by decide +kernel) (by decide +kernel)
set_option maxRecDepth 20000 in
theorem gL_law_X7_part : GoodIn wsL_law (wsV RL 71 RX7 yX7_part wsX7_part) := goodIn_app (goodIn_of _ (by decide +kernel)) ggL_law_X7_part
set_option maxRecDepth 20000 in
theorem ggL_law_X8_part : GoodIn wsL_law wsX8_part := goodIn_r _ [613, 444, 445, 446, 5, 447, 110, 111, 145, 146, 147, 614, 615, 616, 617, 338, 382, 383, 384, 598, 599, 600, 601, 499, 500, 501, 502, 503, 504, 505, 506, 507, 508, 509, 510, 894, 895, 896, 897, 898, 899, 900, 901, 902, 903, 904, 905, 906, 907, 908, 909, 910, 911, 912, 913, 914, 915, 916, 917, 918, 919, 920, 921, 922, 923, 924, 925, 926, 927] (by decide +kernel) (by decide +kernel)
set_option maxRecDepth 20000 in
theorem gL_law_X8_part : GoodIn wsL_law (wsV RL 74 RX8 yX8_part wsX8_part) := goodIn_app (goodIn_of _ (by decide +kernel)) ggL_law_X8_part
set_option maxRecDepth 20000 in
theorem ggL_law_X7_shape : GoodIn wsL_law wsX7_shape := goodIn_r _ [621, 16, 431, 36, 433, 434, 435, 2, 436, 437, 294, 295, 15, 296, 56, 57, 477, 478, 479, 438, 301, 302, 588, 589, 590, 35, 591, 592, 84, 85, 593, 485, 486, 27, 487, 488, 489, 73, 490, 606, 607, 608, 609, 622, 623, 624, 625, 626, 627, 628, 629, 630, 631, 632, 633, 634, 635, 636, 637, 638, 639, 640, 879, 880, 881, 882, 883, 884, 885, 886, 887, 888, 889, 890, 891, 892, 893, 928, 929, 930, 931, 932, 933, 934, 935, 936, 948, 949, 950, 945] (by decide +kernel) (by decide +kernel)
set_option maxRecDepth 20000 in
theorem gL_law_X7_shape : GoodIn wsL_law (wsV RL 75 RX7 yX7_shape wsX7_shape) := goodIn_app (goodIn_of _ (by decide +kernel)) ggL_law_X7_shape
set_option maxRecDepth 20000 in
theorem ggL_law_X8_shape : GoodIn wsL_law wsX8_shape := goodIn_r _ [644, 338, 444, 445, 446, 5, 447, 110, 111, 145, 146, 147, 382, 383, 384, 645, 646, 647, 648, 614, 615, 616, 617, 598, 599, 600, 601, 499, 500, 501, 502, 503, 504, 505, 506, 507, 508, 509, 510, 649, 650, 651, 894, 895, 896, 897, 898, 899, 900, 901, 902, 903, 904, 905, 906, 907, 908, 909, 910, 911, 912, 913, 914, 915, 916, 917, 918, 919, 920, 921, 922, 923, 924, 925, 926, 927] (by decide +kernel) (by decide +kernel)
set_option maxRecDepth 20000 in
theorem gL_law_X8_shape : GoodIn wsL_law (wsV RL 78 RX8 yX8_shape wsX8_shape) := goodIn_app (goodIn_of _ (by decide +kernel)) ggL_law_X8_shape
set_option maxRecDepth 20000 in
theorem ggL_law_X7_ring : GoodIn wsL_law wsX7_ring := goodIn_r _ [655, 36, 16, 431, 433, 434, 435, 2, 436, 437, 294, 295, 15, 296, 56, 57, 477, 478, 479, 588, 589, 590, 35, 591, 592, 84, 85, 301, 302, 593, 485, 486, 27, 487, 488, 489, 73, 490, 606, 607, 608, 609, 622, 623, 624, 625, 626, 627, 628, 629, 630, 631, 632, 633, 634, 635, 636, 637, 638, 639, 640, 656, 657, 658, 659, 660, 661, 662, 663, 664, 879, 880, 881, 882, 883, 884, 885, 886, 887, 888, 889, 890, 891, 892, 893, 928, 929, 930, 931, 932, 933, 934, 935, 936, 948, 949, 950, 945] (by decide +kernel) (by decide +kernel)
set_option maxRecDepth 20000 in
theorem gL_law_X7_ring : GoodIn wsL_law (wsV RL 79 RX7 yX7_ring wsX7_ring) := goodIn_app (goodIn_of _ (by decide +kernel)) ggL_law_X7_ring
set_option maxRecDepth 20000 in
theorem ggL_law_X8_ring : GoodIn wsL_law wsX8_ring := goodIn_r _ [668, 338, 127, 444, 445, 446, 5, 447, 110, 111, 145, 146, 147, 382, 383, 384, 645, 646, 647, 648, 614, 615, 616, 617, 598, 599, 600, 601, 499, 500, 501, 502, 503, 504, 505, 506, 507, 508, 509, 510, 649, 650, 651, 669, 670, 671, 672, 673, 674, 675, 894, 895, 896, 897, 898, 899, 900, 901, 902, 903, 904, 905, 906, 907, 908, 909, 910, 911, 912, 913, 914, 915, 916, 917, 918, 919, 920, 921, 922, 923, 924, 925, 926, 927] (by decide +kernel) (by decide +kernel)
set_option maxRecDepth 20000 in
theorem gL_law_X8_ring : GoodIn wsL_law (wsV RL 83 RX8 yX8_ring wsX8_ring) := goodIn_app (goodIn_of _ (by decide +kernel)) ggL_law_X8_ring
set_option maxRecDepth 20000 in
theorem ggL_law_X7_turned : GoodIn wsL_law wsX7_turned := goodIn_r _ [679, 16, 458, 36, 431, 408, 432, 477, 478, 2, 479, 680, 681, 682, 683, 452, 588, 589, 590, 35, 591, 592, 84, 85, 301, 302, 593, 485, 486, 27, 487, 488, 489, 73, 490, 459, 307, 308, 606, 607, 608, 609, 480, 481, 482, 15, 483, 173, 622, 623, 624, 625, 626, 627, 628, 629, 630, 631, 632, 633, 634, 635, 636, 637, 638, 639, 640, 656, 684, 685, 686, 687, 688, 689, 690, 691, 692, 693, 694, 695, 696, 658, 659, 660, 661, 662, 663, 664, 879, 880, 881, 882, 883, 884, 885, 886, 887, 888, 889, 890, 891, 892, 893, 928, 929, 930, 931, 932, 933, 934, 935, 936, 948, 949, 950, 945] (by decide +kernel) (by decide +kernel)
set_option maxRecDepth 20000 in
theorem gL_law_X7_turned : GoodIn wsL_law (wsV RL 84 RX7 yX7_turned wsX7_turned) := goodIn_app (goodIn_of _ (by decide +kernel)) ggL_law_X7_turned
set_option maxRecDepth 20000 in
theorem ggL_law_X8_turned : GoodIn wsL_law wsX8_turned := goodIn_r _ [700, 340, 117, 112, 127, 145, 146, 5, 147, 645, 646, 647, 648, 110, 111, 614, 615, 616, 617, 338, 382, 383, 384, 598, 599, 600, 601, 499, 500, 501, 502, 503, 504, 505, 506, 507, 508, 509, 510, 649, 650, 651, 669, 670, 671, 672, 673, 674, 675, 894, 895, 896, 897, 898, 899, 900, 901, 902, 903, 904, 905, 906, 907, 908, 909, 910, 911, 912, 913, 914, 915, 916, 917, 918, 919, 920, 921, 922, 923, 924, 925, 926, 927] (by decide +kernel) (by decide +kernel)
set_option maxRecDepth 20000 in
theorem gL_law_X8_turned : GoodIn wsL_law (wsV RL 87 RX8 yX8_turned wsX8_turned) := goodIn_app (goodIn_of _ (by decide +kernel)) ggL_law_X8_turned
set_option maxRecDepth 20000 in
theorem ggL_law_X7_fewest : GoodIn wsL_law wsX7_fewest := goodIn_r _ [704, 40, 408, 409, 16, 431, 705, 706, 707, 39, 708, 415, 91, 709, 90, 94, 710, 93, 95, 711, 712, 713, 714, 715, 716, 717, 103, 104, 105, 718, 719, 720, 721, 301, 2, 302, 722, 723, 724, 725, 92, 726, 520, 521, 31, 522, 78, 523, 524, 79, 525, 526, 481, 482, 15, 483, 173, 307, 308, 527, 485, 486, 27, 487, 488, 489, 73, 490, 478, 479, 727, 728, 729, 730, 318, 319, 731, 529, 530, 531, 532, 533, 534, 535, 536, 732, 733, 734, 735, 736, 737, 738, 739, 740, 879, 880, 881, 882, 883, 884, 885, 886, 887, 888, 889, 890, 891, 892, 893, 928, 929, 930, 931, 932, 933, 934, 935, 936, 951, 952, 953, 954, 955, 956, 957, 958, 946, 947, 945] (by decide +kernel) (by decide +kernel)
set_option maxRecDepth 20000 in
theorem gL_law_X7_fewest : GoodIn wsL_law (wsV RL 88 RX7 yX7_fewest wsX7_fewest) := goodIn_app (goodIn_of _ (by decide +kernel)) ggL_law_X7_fewest
set_option maxRecDepth 20000 in
theorem ggL_law_X8_fewest : GoodIn wsL_law wsX8_fewest := goodIn_r _ [744, 745, 746, 747, 5, 748, 122, 749, 750, 751, 752, 753, 123, 754, 755, 756, 757, 121, 117, 420, 340, 126, 110, 111, 124, 125, 758, 759, 760, 761, 426, 762, 763, 764, 765, 541, 542, 543, 544, 112, 495, 496, 497, 498, 499, 500, 501, 502, 503, 504, 505, 506, 338, 145, 146, 147, 382, 383, 384, 507, 508, 509, 510, 545, 546, 547, 548, 766, 767, 768, 769, 894, 895, 896, 897, 898, 899, 900, 901, 902, 903, 904, 905, 906, 907, 908, 909, 910, 911, 912, 913, 914, 915, 916, 917, 918, 919, 920, 921, 922, 923, 924, 925, 926, 927] (by decide +kernel) (by decide +kernel)
set_option maxRecDepth 20000 in
theorem gL_law_X8_fewest : GoodIn wsL_law (wsV RL 91 RX8 yX8_fewest wsX8_fewest) := goodIn_app (goodIn_of _ (by decide +kernel)) ggL_law_X8_fewest
set_option maxRecDepth 20000 in
theorem ggL_law_X7_way : GoodIn wsL_law wsX7_way := goodIn_r _ [773, 40, 408, 409, 16, 431, 705, 706, 707, 39, 708, 415, 91, 709, 90, 94, 710, 93, 95, 711, 712, 713, 714, 715, 716, 717, 103, 104, 105, 718, 719, 720, 721, 301, 2, 302, 722, 723, 724, 725, 92, 726, 520, 521, 31, 522, 78, 523, 524, 79, 525, 526, 481, 482, 15, 483, 173, 307, 308, 527, 485, 486, 27, 487, 488, 489, 73, 490, 478, 479, 727, 728, 729, 730, 318, 319, 731, 529, 530, 531, 532, 533, 534, 535, 536, 732, 733, 734, 735, 736, 774, 775, 776, 777, 778, 738, 739, 740, 879, 880, 881, 882, 883, 884, 885, 886, 887, 888, 889, 890, 891, 892, 893, 928, 929, 930, 931, 932, 933, 934, 935, 936, 951, 952, 953, 954, 955, 956, 957, 958, 946, 947, 945] (by decide +kernel) (by decide +kernel)
set_option maxRecDepth 20000 in
theorem gL_law_X7_way : GoodIn wsL_law (wsV RL 92 RX7 yX7_way wsX7_way) := goodIn_app (goodIn_of _ (by decide +kernel)) ggL_law_X7_way
set_option maxRecDepth 20000 in
theorem ggL_law_X8_way : GoodIn wsL_law wsX8_way := goodIn_r _ [782, 122, 124, 125, 145, 146, 5, 147, 749, 750, 751, 752, 753, 123, 754, 755, 756, 757, 121, 117, 420, 340, 126, 110, 111, 758, 759, 760, 761, 426, 762, 763, 764, 765, 541, 542, 543, 544, 112, 495, 496, 497, 498, 499, 500, 501, 502, 503, 504, 505, 506, 338, 382, 383, 384, 507, 508, 509, 510, 545, 546, 547, 548, 766, 767, 768, 769, 894, 895, 896, 897, 898, 899, 900, 901, 902, 903, 904, 905, 906, 907, 908, 909, 910, 911, 912, 913, 914, 915, 916, 917, 918, 919, 920, 921, 922, 923, 924, 925, 926, 927] (by decide +kernel) (by decide +kernel)
set_option maxRecDepth 20000 in
theorem gL_law_X8_way : GoodIn wsL_law (wsV RL 95 RX8 yX8_way wsX8_way) := goodIn_app (goodIn_of _ (by decide +kernel)) ggL_law_X8_way
set_option maxRecDepth 20000 in
theorem ggL_law_X7_alike : GoodIn wsL_law wsX7_alike := goodIn_r _ [786, 40, 408, 409, 16, 431, 705, 706, 707, 39, 708, 415, 91, 709, 90, 94, 710, 93, 95, 711, 712, 713, 714, 715, 716, 717, 103, 104, 105, 718, 719, 720, 721, 301, 2, 302, 722, 723, 724, 725, 92, 726, 520, 521, 31, 522, 78, 523, 524, 79, 525, 526, 481, 482, 15, 483, 173, 307, 308, 527, 485, 486, 27, 487, 488, 489, 73, 490, 478, 479, 727, 728, 729, 730, 318, 319, 731, 529, 530, 531, 532, 533, 534, 535, 536, 787, 788, 789, 790, 791, 792, 793, 794, 736, 795, 796, 797, 304, 305, 306, 737, 738, 739, 740, 879, 880, 881, 882, 883, 884, 885, 886, 887, 888, 889, 890, 891, 892, 893, 928, 929, 930, 931, 932, 933, 934, 935, 936, 951, 952, 953, 954, 955, 956, 957, 958, 946, 947, 945] (by decide +kernel) (by decide +kernel)
set_option maxRecDepth 20000 in
theorem gL_law_X7_alike : GoodIn wsL_law (wsV RL 96 RX7 yX7_alike wsX7_alike) := goodIn_app (goodIn_of _ (by decide +kernel)) ggL_law_X7_alike
set_option maxRecDepth 20000 in
theorem ggL_law_X8_alike : GoodIn wsL_law wsX8_alike := goodIn_r _ [801, 745, 746, 747, 5, 748, 122, 749, 750, 751, 752, 753, 123, 754, 755, 756, 757, 121, 117, 420, 340, 126, 110, 111, 124, 125, 758, 759, 760, 761, 426, 762, 763, 764, 765, 541, 542, 543, 544, 112, 495, 496, 497, 498, 499, 500, 501, 502, 503, 504, 505, 506, 338, 145, 146, 147, 382, 383, 384, 507, 508, 509, 510, 545, 546, 547, 548, 766, 767, 768, 769, 894, 895, 896, 897, 898, 899, 900, 901, 902, 903, 904, 905, 906, 907, 908, 909, 910, 911, 912, 913, 914, 915, 916, 917, 918, 919, 920, 921, 922, 923, 924, 925, 926, 927] (by decide +kernel) (by decide +kernel)
set_option maxRecDepth 20000 in
theorem gL_law_X8_alike : GoodIn wsL_law (wsV RL 99 RX8 yX8_alike wsX8_alike) := goodIn_app (goodIn_of _ (by decide +kernel)) ggL_law_X8_alike
set_option maxRecDepth 20000 in
theorem ggL_law_X7_many : GoodIn wsL_law wsX7_many := goodIn_r _ [805, 40, 408, 409, 16, 431, 705, 706, 707, 39, 708, 415, 91, 709, 90, 94, 710, 93, 95, 711, 712, 713, 714, 715, 716, 717, 103, 104, 105, 718, 719, 720, 721, 301, 2, 302, 722, 723, 724, 725, 92, 726, 520, 521, 31, 522, 78, 523, 524, 79, 525, 526, 481, 482, 15, 483, 173, 307, 308, 527, 485, 486, 27, 487, 488, 489, 73, 490, 478, 479, 727, 728, 729, 730, 318, 319, 731, 529, 530, 531, 532, 533, 534, 535, 536, 806, 807, 808, 809, 879, 880, 881, 882, 883, 884, 885, 886, 887, 888, 889, 890, 891, 892, 893, 928, 929, 930, 931, 932, 933, 934, 935, 936, 951, 952, 953, 954, 955, 956, 957, 958, 946, 947, 945] (by decide +kernel) (by decide +kernel)
set_option maxRecDepth 20000 in
theorem gL_law_X7_many : GoodIn wsL_law (wsV RL 100 RX7 yX7_many wsX7_many) := goodIn_app (goodIn_of _ (by decide +kernel)) ggL_law_X7_many
set_option maxRecDepth 20000 in
theorem ggL_law_X8_many : GoodIn wsL_law wsX8_many := goodIn_r _ [813, 753, 122, 123, 754, 755, 756, 5, 757, 121, 117, 420, 340, 126, 110, 111, 124, 125, 758, 759, 760, 761, 426, 762, 763, 764, 765, 541, 542, 543, 544, 112, 495, 496, 497, 498, 499, 500, 501, 502, 503, 504, 505, 506, 338, 145, 146, 147, 382, 383, 384, 507, 508, 509, 510, 545, 546, 547, 548, 894, 895, 896, 897, 898, 899, 900, 901, 902, 903, 904, 905, 906, 907, 908, 909, 910, 911, 912, 913, 914, 915, 916, 917, 918, 919, 920, 921, 922, 923, 924, 925, 926, 927] (by decide +kernel) (by decide +kernel)
set_option maxRecDepth 20000 in
theorem gL_law_X8_many : GoodIn wsL_law (wsV RL 103 RX8 yX8_many wsX8_many) := goodIn_app (goodIn_of _ (by decide +kernel)) ggL_law_X8_many
set_option maxRecDepth 20000 in
theorem ggL_law_X7_farthest : GoodIn wsL_law wsX7_farthest := goodIn_r _ [817, 40, 408, 409, 16, 431, 705, 706, 707, 39, 708, 415, 91, 709, 90, 94, 710, 93, 95, 711, 712, 713, 714, 715, 716, 717, 103, 104, 105, 718, 719, 720, 721, 301, 2, 302, 722, 723, 724, 725, 92, 726, 520, 521, 31, 522, 78, 523, 524, 79, 525, 526, 481, 482, 15, 483, 173, 307, 308, 527, 485, 486, 27, 487, 488, 489, 73, 490, 478, 479, 727, 728, 729, 730, 318, 319, 731, 529, 530, 531, 532, 533, 534, 535, 536, 818, 819, 820, 821, 778, 738, 739, 740, 806, 807, 808, 809, 879, 880, 881, 882, 883, 884, 885, 886, 887, 888, 889, 890, 891, 892, 893, 928, 929, 930, 931, 932, 933, 934, 935, 936, 951, 952, 953, 954, 955, 956, 957, 958, 946, 947, 945] (by decide +kernel) (by decide +kernel)
set_option maxRecDepth 20000 in
theorem gL_law_X7_farthest : GoodIn wsL_law (wsV RL 104 RX7 yX7_farthest wsX7_farthest) := goodIn_app (goodIn_of _ (by decide +kernel)) ggL_law_X7_farthest
set_option maxRecDepth 20000 in
theorem ggL_law_X8_farthest : GoodIn wsL_law wsX8_farthest := goodIn_r _ [825, 122, 123, 753, 145, 146, 5, 147, 754, 755, 756, 757, 121, 117, 420, 340, 126, 110, 111, 124, 125, 758, 759, 760, 761, 426, 762, 763, 764, 765, 541, 542, 543, 544, 112, 495, 496, 497, 498, 499, 500, 501, 502, 503, 504, 505, 506, 338, 382, 383, 384, 507, 508, 509, 510, 545, 546, 547, 548, 894, 895, 896, 897, 898, 899, 900, 901, 902, 903, 904, 905, 906, 907, 908, 909, 910, 911, 912, 913, 914, 915, 916, 917, 918, 919, 920, 921, 922, 923, 924, 925, 926, 927] (by decide +kernel) (by decide +kernel)
set_option maxRecDepth 20000 in
theorem gL_law_X8_farthest : GoodIn wsL_law (wsV RL 107 RX8 yX8_farthest wsX8_farthest) := goodIn_app (goodIn_of _ (by decide +kernel)) ggL_law_X8_farthest
set_option maxRecDepth 20000 in
theorem ggL_law_X7_left : GoodIn wsL_law wsX7_left := goodIn_r _ [829, 16, 431, 408, 432, 40, 409, 433, 434, 435, 2, 436, 437, 294, 295, 15, 296, 56, 57, 480, 481, 482, 483, 173, 307, 308, 438, 301, 302, 705, 706, 707, 39, 708, 415, 91, 709, 90, 94, 710, 93, 95, 711, 712, 713, 714, 715, 716, 717, 103, 104, 105, 718, 719, 720, 721, 722, 723, 724, 725, 92, 726, 520, 521, 31, 522, 78, 523, 524, 79, 525, 526, 527, 485, 486, 27, 487, 488, 489, 73, 490, 478, 479, 727, 728, 729, 730, 318, 319, 731, 529, 530, 531, 532, 533, 534, 535, 536, 732, 733, 734, 735, 736, 737, 738, 739, 740, 879, 880, 881, 882, 883, 884, 885, 886, 887, 888, 889, 890, 891, 892, 893, 928, 929, 930, 931, 932, 933, 934, 935, 936, 951, 952, 953, 954, 955, 956, 957, 958, 946, 947, 945] (by decide +kernel) (by decide +kernel)
set_option maxRecDepth 20000 in
theorem gL_law_X7_left : GoodIn wsL_law (wsV RL 108 RX7 yX7_left wsX7_left) := goodIn_app (goodIn_of _ (by decide +kernel)) ggL_law_X7_left
set_option maxRecDepth 20000 in
theorem ggL_law_X8_left : GoodIn wsL_law wsX8_left := goodIn_r _ [833, 338, 340, 117, 112, 444, 445, 446, 5, 447, 110, 111, 145, 146, 147, 382, 383, 384, 745, 746, 747, 748, 122, 749, 750, 751, 752, 753, 123, 754, 755, 756, 757, 121, 420, 126, 124, 125, 758, 759, 760, 761, 426, 762, 763, 764, 765, 541, 542, 543, 544, 495, 496, 497, 498, 499, 500, 501, 502, 503, 504, 505, 506, 507, 508, 509, 510, 545, 546, 547, 548, 766, 767, 768, 769, 894, 895, 896, 897, 898, 899, 900, 901, 902, 903, 904, 905, 906, 907, 908, 909, 910, 911, 912, 913, 914, 915, 916, 917, 918, 919, 920, 921, 922, 923, 924, 925, 926, 927] (by decide +kernel) (by decide +kernel)
set_option maxRecDepth 20000 in
theorem gL_law_X8_left : GoodIn wsL_law (wsV RL 111 RX8 yX8_left wsX8_left) := goodIn_app (goodIn_of _ (by decide +kernel)) ggL_law_X8_left
set_option maxRecDepth 20000 in
theorem ggL_law_X7_added : GoodIn wsL_law wsX7_added := goodIn_r _ [837, 16, 431, 40, 408, 409, 433, 434, 435, 2, 436, 437, 294, 295, 15, 296, 56, 57, 438, 301, 302, 705, 706, 707, 39, 708, 415, 91, 709, 90, 94, 710, 93, 95, 711, 712, 713, 714, 715, 716, 717, 103, 104, 105, 718, 719, 720, 721, 722, 723, 724, 725, 92, 726, 520, 521, 31, 522, 78, 523, 524, 79, 525, 526, 481, 482, 483, 173, 307, 308, 527, 485, 486, 27, 487, 488, 489, 73, 490, 478, 479, 727, 728, 729, 730, 318, 319, 731, 529, 530, 531, 532, 533, 534, 535, 536, 732, 733, 734, 735, 736, 737, 738, 739, 740, 879, 880, 881, 882, 883, 884, 885, 886, 887, 888, 889, 890, 891, 892, 893, 928, 929, 930, 931, 932, 933, 934, 935, 936, 951, 952, 953, 954, 955, 956, 957, 958, 946, 947, 945] (by decide +kernel) (by decide +kernel)
set_option maxRecDepth 20000 in
theorem gL_law_X7_added : GoodIn wsL_law (wsV RL 112 RX7 yX7_added wsX7_added) := goodIn_app (goodIn_of _ (by decide +kernel)) ggL_law_X7_added
set_option maxRecDepth 20000 in
theorem ggL_law_X8_added : GoodIn wsL_law wsX8_added := goodIn_r _ [841, 338, 444, 445, 446, 5, 447, 110, 111, 145, 146, 147, 382, 383, 384, 745, 746, 747, 748, 122, 749, 750, 751, 752, 753, 123, 754, 755, 756, 757, 121, 117, 420, 340, 126, 124, 125, 758, 759, 760, 761, 426, 762, 763, 764, 765, 541, 542, 543, 544, 112, 495, 496, 497, 498, 499, 500, 501, 502, 503, 504, 505, 506, 507, 508, 509, 510, 545, 546, 547, 548, 766, 767, 768, 769, 894, 895, 896, 897, 898, 899, 900, 901, 902, 903, 904, 905, 906, 907, 908, 909, 910, 911, 912, 913, 914, 915, 916, 917, 918, 919, 920, 921, 922, 923, 924, 925, 926, 927] (by decide +kernel) (by decide +kernel)
set_option maxRecDepth 20000 in
theorem gL_law_X8_added : GoodIn wsL_law (wsV RL 115 RX8 yX8_added wsX8_added) := goodIn_app (goodIn_of _ (by decide +kernel)) ggL_law_X8_added
set_option maxRecDepth 20000 in
theorem ggL_law_X7_row : GoodIn wsL_law wsX7_row := goodIn_r _ [845, 410, 46, 47, 454, 455, 456, 2, 457, 16, 458, 433, 434, 435, 436, 437, 294, 295, 15, 296, 56, 57, 879, 880, 881, 882, 883, 884, 885, 886, 887, 888, 889, 890, 891, 892, 893, 928, 929, 930, 931, 932, 933, 934, 935, 936] (by decide +kernel) (by decide +kernel)
set_option maxRecDepth 20000 in
theorem gL_law_X7_row : GoodIn wsL_law (wsV RL 116 RX7 yX7_row wsX7_row) := goodIn_app (goodIn_of _ (by decide +kernel)) ggL_law_X7_row
set_option maxRecDepth 20000 in
theorem ggL_law_X8_row : GoodIn wsL_law wsX8_row := goodIn_r _ [849, 421, 120, 464, 465, 466, 5, 467, 340, 145, 146, 147, 444, 445, 446, 447, 110, 111, 894, 895, 896, 897, 898, 899, 900, 901, 902, 903, 904, 905, 906, 907, 908, 909, 910, 911, 912, 913, 914, 915, 916, 917, 918, 919, 920, 921, 922, 923, 924, 925, 926, 927] (by decide +kernel) (by decide +kernel)
set_option maxRecDepth 20000 in
theorem gL_law_X8_row : GoodIn wsL_law (wsV RL 119 RX8 yX8_row wsX8_row) := goodIn_app (goodIn_of _ (by decide +kernel)) ggL_law_X8_row
set_option maxRecDepth 20000 in
theorem ggL_law_X7_burn : GoodIn wsL_law wsX7_burn := goodIn_r _ [853, 410, 879, 880, 881, 882, 883, 884, 885, 886, 887, 888, 889, 890, 891, 892, 893] (by decide +kernel) (by decide +kernel)
set_option maxRecDepth 20000 in
theorem gL_law_X7_burn : GoodIn wsL_law (wsV RL 120 RX7 yX7_burn wsX7_burn) := goodIn_app (goodIn_of _ (by decide +kernel)) ggL_law_X7_burn
set_option maxRecDepth 20000 in
theorem ggL_law_X8_burn : GoodIn wsL_law wsX8_burn := goodIn_r _ [857, 421, 894, 895, 896, 897, 898, 899, 900, 901, 902, 903, 904, 905, 906, 907, 908, 909, 910, 911, 912, 913, 914, 915, 916, 917, 918, 919, 920, 921, 922, 923, 924, 925, 926, 927] (by decide +kernel) (by decide +kernel)
set_option maxRecDepth 20000 in
theorem gL_law_X8_burn : GoodIn wsL_law (wsV RL 123 RX8 yX8_burn wsX8_burn) := goodIn_app (goodIn_of _ (by decide +kernel)) ggL_law_X8_burn
set_option maxRecDepth 20000 in
theorem ggL_law_X7_judge : GoodIn wsL_law wsX7_judge := goodIn_r _ [861, 408, 410, 32, 46, 409, 16, 431, 47, 515, 516, 517, 31, 518, 519, 520, 521, 522, 78, 523, 524, 79, 525, 526, 481, 482, 15, 483, 173, 307, 2, 308, 527, 485, 486, 27, 487, 488, 489, 73, 490, 478, 479, 301, 302, 318, 319, 528, 529, 530, 531, 532, 533, 534, 535, 536, 438, 553, 879, 880, 881, 882, 883, 884, 885, 886, 887, 888, 889, 890, 891, 892, 893, 928, 929, 930, 931, 932, 933, 934, 935, 936, 946, 947, 945] (by decide +kernel) (by decide +kernel)
set_option maxRecDepth 20000 in
theorem gL_law_X7_judge : GoodIn wsL_law (wsV RL 124 RX7 yX7_judge wsX7_judge) := goodIn_app (goodIn_of _ (by decide +kernel)) ggL_law_X7_judge
