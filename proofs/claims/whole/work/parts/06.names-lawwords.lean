set_option maxRecDepth 20000 in
theorem wsL_law_in : ∀ w ∈ wsL_law, w ∈ lw_tbl := fun w h => (goodIn_p wsL_law [67, 70, 75, 102, 154, 189, 208, 243, 305, 322, 348, 787, 792, 796, 800, 402, 406, 900, 903, 410, 907, 414, 418, 422, 426, 430, 434, 438, 442, 446, 450, 454, 458, 462, 466, 470, 473, 477, 481, 911, 915, 919, 923, 927, 931, 935, 485, 489, 493, 939, 943, 497, 501, 947, 951, 505, 955, 959, 510, 514, 518, 522, 526, 530, 535, 539, 543, 547, 963, 967, 971, 975, 552, 555, 979, 982, 562, 566, 986, 570, 574, 578, 990, 994, 582, 586, 590, 596, 601, 607, 611, 626, 615, 622, 631, 635, 998, 1002, 1006, 1010, 1014, 1018, 1022, 1027, 639, 1031, 643, 647, 1035, 651, 655, 1039, 659, 1043, 663, 667, 671, 674, 1047, 1051, 678, 682, 1055, 686, 1059, 690, 694, 698, 702, 1063, 1067, 708, 712, 716, 719, 1071, 723, 728, 732, 737, 742, 747, 752, 1075, 757, 761, 766, 1085, 770, 774, 1089, 778, 1093, 782, 1097] (by decide +kernel) (by decide +kernel) w h).1
theorem inlX0 : ∀ w ∈ wsX00, w ∈ wsL_law := fun _ h => List.mem_append_left _ (List.mem_append_left _ (List.mem_append_left _ (List.mem_append_left _ (List.mem_append_left _ (List.mem_append_left _ (List.mem_append_left _ (List.mem_append_left _ (List.mem_append_right _ h))))))))
theorem inX0 : ∀ w ∈ wsX00, w ∈ lw_tbl := fun w h => wsL_law_in w (inlX0 w h)
theorem inlX1 : ∀ w ∈ wsX10, w ∈ wsL_law := fun _ h => List.mem_append_left _ (List.mem_append_left _ (List.mem_append_left _ (List.mem_append_left _ (List.mem_append_left _ (List.mem_append_left _ (List.mem_append_right _ h))))))
theorem inX1 : ∀ w ∈ wsX10, w ∈ lw_tbl := fun w h => wsL_law_in w (inlX1 w h)
theorem inlX2 : ∀ w ∈ wsX20, w ∈ wsL_law := fun _ h => List.mem_append_left _ (List.mem_append_right _ h)
theorem inX2 : ∀ w ∈ wsX20, w ∈ lw_tbl := fun w h => wsL_law_in w (inlX2 w h)
theorem inlX3 : ∀ w ∈ wsX30, w ∈ wsL_law := fun _ h => List.mem_append_left _ (List.mem_append_left _ (List.mem_append_left _ (List.mem_append_left _ (List.mem_append_left _ (List.mem_append_left _ (List.mem_append_left _ (List.mem_append_right _ h)))))))
theorem inX3 : ∀ w ∈ wsX30, w ∈ lw_tbl := fun w h => wsL_law_in w (inlX3 w h)
theorem inlX4 : ∀ w ∈ wsX40, w ∈ wsL_law := fun _ h => List.mem_append_left _ (List.mem_append_left _ (List.mem_append_left _ (List.mem_append_left _ (List.mem_append_right _ h))))
theorem inX4 : ∀ w ∈ wsX40, w ∈ lw_tbl := fun w h => wsL_law_in w (inlX4 w h)
theorem inlX5 : ∀ w ∈ wsX50, w ∈ wsL_law := fun _ h => List.mem_append_left _ (List.mem_append_left _ (List.mem_append_right _ h))
theorem inX5 : ∀ w ∈ wsX50, w ∈ lw_tbl := fun w h => wsL_law_in w (inlX5 w h)
theorem inlX6 : ∀ w ∈ wsX60, w ∈ wsL_law := fun _ h => List.mem_append_left _ (List.mem_append_left _ (List.mem_append_left _ (List.mem_append_left _ (List.mem_append_left _ (List.mem_append_right _ h)))))
theorem inX6 : ∀ w ∈ wsX60, w ∈ lw_tbl := fun w h => wsL_law_in w (inlX6 w h)
theorem inlX7 : ∀ w ∈ wsX70, w ∈ wsL_law := fun _ h => List.mem_append_left _ (List.mem_append_left _ (List.mem_append_left _ (List.mem_append_right _ h)))
theorem inX7 : ∀ w ∈ wsX70, w ∈ lw_tbl := fun w h => wsL_law_in w (inlX7 w h)
theorem inlX8 : ∀ w ∈ wsX80, w ∈ wsL_law := fun _ h => List.mem_append_left _ (List.mem_append_left _ (List.mem_append_left _ (List.mem_append_left _ (List.mem_append_left _ (List.mem_append_left _ (List.mem_append_left _ (List.mem_append_left _ (List.mem_append_left _ (List.mem_append_right _ h)))))))))
theorem inX8 : ∀ w ∈ wsX80, w ∈ lw_tbl := fun w h => wsL_law_in w (inlX8 w h)
theorem inlX9 : ∀ w ∈ wsX90, w ∈ wsL_law := fun _ h => List.mem_append_left _ (List.mem_append_left _ (List.mem_append_left _ (List.mem_append_left _ (List.mem_append_left _ (List.mem_append_left _ (List.mem_append_left _ (List.mem_append_left _ (List.mem_append_left _ (List.mem_append_left _ (List.mem_append_left _ (List.mem_append_right _ h)))))))))))
theorem inX9 : ∀ w ∈ wsX90, w ∈ lw_tbl := fun w h => wsL_law_in w (inlX9 w h)
theorem inlX10 : ∀ w ∈ wsX100, w ∈ wsL_law := fun _ h => List.mem_append_left _ (List.mem_append_left _ (List.mem_append_left _ (List.mem_append_left _ (List.mem_append_left _ (List.mem_append_left _ (List.mem_append_left _ (List.mem_append_left _ (List.mem_append_left _ (List.mem_append_left _ (List.mem_append_right _ h))))))))))
theorem inX10 : ∀ w ∈ wsX100, w ∈ lw_tbl := fun w h => wsL_law_in w (inlX10 w h)
theorem inJ6 : ∀ w ∈ wsJ60, w ∈ lw_tbl := by decide +kernel
theorem inJ9 : ∀ w ∈ wsJ90, w ∈ lw_tbl := by decide +kernel
theorem inJ10 : ∀ w ∈ wsJ100, w ∈ lw_tbl := by decide +kernel
set_option maxRecDepth 20000 in
theorem ggL_law_X9_init : GoodIn wsL_law wsX9_init := goodIn_r _ [8, 9, 10, 11, 12, 13, 14, 15, 16, 17, 18, 19, 20, 21, 22, 23, 24, 25, 26, 27, 28, 29, 30, 31, 32, 33, 34, 35, 36, 37, 38, 39, 40, 41, 42, 43, 44, 45, 46, 47, 48, 49, 50, 51, 52, 53, 54, 55, 56, 57, 58, 59, 60, 61, 62, 63, 64, 65, 66, 67, 68, 69, 70, 71, 72, 73, 74, 75, 76, 77, 78, 79, 80, 81, 82, 83, 84, 85, 86, 87, 88, 89, 90, 91, 92, 93, 94, 95, 96, 97, 98, 99, 100, 101, 102, 103, 104, 105, 873, 874, 875, 876, 877, 878, 831, 832, 833, 834, 835, 836, 837, 838, 839, 840, 841, 879, 880, 881, 882, 883, 884, 885, 886, 887, 888, 889, 890, 891, 892, 893, 894, 895, 896, 897, 898, 899, 900, 901, 902, 903, 904, 905, 906, 907, 908, 909, 910, 911, 912, 913, 914, 915, 916, 917, 918, 919, 920, 921, 922, 923, 924, 925, 926] rfl (by decide +kernel)
set_option maxRecDepth 20000 in
theorem gL_law_X9_init : GoodIn wsL_law (wsX9_init) := ggL_law_X9_init
set_option maxRecDepth 20000 in
theorem ggL_law_X10_init : GoodIn wsL_law wsX10_init := goodIn_r _ [108, 109, 10, 11, 110, 111, 52, 112, 113, 114, 115, 116, 117, 118, 119, 120, 121, 122, 123, 124, 125, 126, 127, 128, 129, 130, 131, 132, 133, 5, 134, 135, 136, 137, 138, 139, 140, 141, 142, 143, 144, 842, 843, 844, 845, 846, 847, 848, 849, 850, 851, 852, 853, 854, 855, 856, 857, 858, 859, 860, 861, 862, 863, 864, 865, 866, 867, 868, 869, 870, 871, 872] rfl (by decide +kernel)
set_option maxRecDepth 20000 in
theorem gL_law_X10_init : GoodIn wsL_law (wsX10_init) := ggL_law_X10_init
set_option maxRecDepth 20000 in
theorem ggL_law_X9_type : GoodIn wsL_law wsX9_type := goodIn_r _ [148, 15, 149, 150, 151, 152, 14, 153, 154, 53, 831, 832, 833, 834, 835, 836, 837, 838, 839, 840, 841, 873, 874, 875, 876, 877, 878] rfl (by decide +kernel)
set_option maxRecDepth 20000 in
theorem gL_law_X9_type : GoodIn wsL_law (wsV RL 13 RX9 yX9_type wsX9_type) := goodIn_app (goodIn_r _ [145, 146, 147, 2] rfl (by decide +kernel)) ggL_law_X9_type
set_option maxRecDepth 20000 in
theorem ggL_law_X10_type : GoodIn wsL_law wsX10_type := goodIn_r _ [158, 159, 111, 160, 161, 5, 162, 842, 843, 844, 845, 846, 847, 848, 849, 850, 851, 852, 853, 854, 855, 856, 857, 858, 859, 860, 861, 862, 863, 864, 865, 866, 867, 868, 869, 870, 871, 872] rfl (by decide +kernel)
set_option maxRecDepth 20000 in
theorem gL_law_X10_type : GoodIn wsL_law (wsV RL 17 RX10 yX10_type wsX10_type) := goodIn_app (goodIn_r _ [155, 156, 157, 5] rfl (by decide +kernel)) ggL_law_X10_type
set_option maxRecDepth 20000 in
theorem ggL_law_X9_clear : GoodIn wsL_law wsX9_clear := goodIn_r _ [166, 15, 149, 831, 832, 833, 834, 835, 836, 837, 838, 839, 840, 841, 873, 874, 875, 876, 877, 878] rfl (by decide +kernel)
set_option maxRecDepth 20000 in
theorem gL_law_X9_clear : GoodIn wsL_law (wsV RL 18 RX9 yX9_clear wsX9_clear) := goodIn_app (goodIn_r _ [163, 164, 165, 2] rfl (by decide +kernel)) ggL_law_X9_clear
set_option maxRecDepth 20000 in
theorem ggL_law_X10_clear : GoodIn wsL_law wsX10_clear := goodIn_r _ [170, 159, 842, 843, 844, 845, 846, 847, 848, 849, 850, 851, 852, 853, 854, 855, 856, 857, 858, 859, 860, 861, 862, 863, 864, 865, 866, 867, 868, 869, 870, 871, 872] rfl (by decide +kernel)
set_option maxRecDepth 20000 in
theorem gL_law_X10_clear : GoodIn wsL_law (wsV RL 22 RX10 yX10_clear wsX10_clear) := goodIn_app (goodIn_r _ [167, 168, 169, 5] rfl (by decide +kernel)) ggL_law_X10_clear
set_option maxRecDepth 20000 in
theorem ggL_law_X9_city : GoodIn wsL_law wsX9_city := goodIn_r _ [174, 15, 20, 19, 149, 175, 176, 177, 14, 178, 179, 180, 181, 182, 183, 184, 18, 185, 186, 187, 188, 189, 190, 191, 192, 53, 193, 154, 194, 195, 196, 197, 198, 199, 200, 201, 202, 203, 204, 205, 206, 207, 208, 209, 210, 211, 212, 213, 214, 215, 216, 217, 218, 219, 220, 221, 222, 223, 224, 57, 58, 59, 225, 226, 227, 228, 229, 230, 231, 232, 233, 234, 235, 236, 60, 61, 237, 238, 239, 240, 63, 241, 242, 243, 244, 245, 246, 247, 2, 248, 24, 28, 249, 30, 250, 42, 251, 46, 252, 38, 253, 254, 255, 256, 23, 257, 258, 259, 260, 261, 262, 263, 831, 832, 833, 834, 835, 836, 837, 838, 839, 840, 841, 873, 874, 875, 876, 877, 878, 879, 880, 881, 882, 883, 884, 885, 886, 887, 894, 895, 924, 925, 926, 916, 917, 918, 919, 920, 921, 922, 923, 902, 903, 904, 905, 906, 907, 908, 909, 910, 911, 912, 913, 914, 915, 888, 889, 890, 891, 892, 893] rfl (by decide +kernel)
set_option maxRecDepth 20000 in
theorem gL_law_X9_city : GoodIn wsL_law (wsV RL 23 RX9 yX9_city wsX9_city) := goodIn_app (goodIn_r _ [171, 172, 173, 2] rfl (by decide +kernel)) ggL_law_X9_city
set_option maxRecDepth 20000 in
theorem ggL_law_X10_city : GoodIn wsL_law wsX10_city := goodIn_r _ [267, 268, 269, 270, 159, 131, 132, 133, 5, 134, 112, 113, 116, 271, 272, 273, 274, 275, 276, 277, 278, 279, 280, 111, 160, 161, 162, 281, 282, 283, 284, 285, 286, 287, 288, 289, 290, 291, 292, 114, 115, 117, 118, 293, 294, 295, 296, 135, 136, 137, 138, 120, 139, 140, 122, 141, 142, 143, 144, 119, 842, 843, 844, 845, 846, 847, 848, 849, 850, 851, 852, 853, 854, 855, 856, 857, 858, 859, 860, 861, 862, 863, 864, 865, 866, 867, 868, 869, 870, 871, 872] rfl (by decide +kernel)
set_option maxRecDepth 20000 in
theorem gL_law_X10_city : GoodIn wsL_law (wsV RL 26 RX10 yX10_city wsX10_city) := goodIn_app (goodIn_r _ [264, 265, 266, 5] rfl (by decide +kernel)) ggL_law_X10_city
set_option maxRecDepth 20000 in
theorem ggL_law_X9_street : GoodIn wsL_law wsX9_street := goodIn_r _ [300, 19, 301, 302, 303, 24, 304, 305, 306, 307, 18, 308, 187, 309, 310, 311, 23, 312, 262, 831, 832, 833, 834, 835, 836, 837, 838, 839, 840, 841, 879, 880, 881, 882, 883, 884, 885, 886, 887, 888, 889, 890, 891, 892, 893] rfl (by decide +kernel)
set_option maxRecDepth 20000 in
theorem gL_law_X9_street : GoodIn wsL_law (wsV RL 27 RX9 yX9_street wsX9_street) := goodIn_app (goodIn_r _ [297, 298, 299, 2] rfl (by decide +kernel)) ggL_law_X9_street
set_option maxRecDepth 20000 in
theorem ggL_law_X10_street : GoodIn wsL_law wsX10_street := goodIn_r _ [316, 114, 115, 120, 317, 318, 319, 5, 320, 113, 160, 161, 162, 842, 843, 844, 845, 846, 847, 848, 849, 850, 851, 852, 853, 854, 855, 856, 857, 858, 859, 860, 861, 862, 863, 864, 865, 866, 867, 868, 869, 870, 871, 872] rfl (by decide +kernel)
set_option maxRecDepth 20000 in
theorem gL_law_X10_street : GoodIn wsL_law (wsV RL 31 RX10 yX10_street wsX10_street) := goodIn_app (goodIn_r _ [313, 314, 315, 5] rfl (by decide +kernel)) ggL_law_X10_street
set_option maxRecDepth 20000 in
theorem ggL_law_X9_leader : GoodIn wsL_law wsX9_leader := goodIn_r _ [324, 19, 325, 326, 24, 327, 328, 329, 330, 18, 331, 188, 831, 832, 833, 834, 835, 836, 837, 838, 839, 840, 841, 879, 880, 881, 882, 883, 884, 885, 886, 887, 888, 889, 890, 891, 892, 893] rfl (by decide +kernel)
set_option maxRecDepth 20000 in
theorem gL_law_X9_leader : GoodIn wsL_law (wsV RL 32 RX9 yX9_leader wsX9_leader) := goodIn_app (goodIn_r _ [321, 322, 323, 2] rfl (by decide +kernel)) ggL_law_X9_leader
set_option maxRecDepth 20000 in
theorem ggL_law_X10_leader : GoodIn wsL_law wsX10_leader := goodIn_r _ [335, 117, 118, 120, 336, 337, 338, 5, 339, 116, 160, 161, 162, 842, 843, 844, 845, 846, 847, 848, 849, 850, 851, 852, 853, 854, 855, 856, 857, 858, 859, 860, 861, 862, 863, 864, 865, 866, 867, 868, 869, 870, 871, 872] rfl (by decide +kernel)
set_option maxRecDepth 20000 in
theorem gL_law_X10_leader : GoodIn wsL_law (wsV RL 35 RX10 yX10_leader wsX10_leader) := goodIn_app (goodIn_r _ [332, 333, 334, 5] rfl (by decide +kernel)) ggL_law_X10_leader
set_option maxRecDepth 20000 in
theorem ggL_law_X9_far : GoodIn wsL_law wsX9_far := goodIn_r _ [343, 19, 344, 345, 226, 227, 18, 228, 186, 831, 832, 833, 834, 835, 836, 837, 838, 839, 840, 841, 879, 880, 881, 882, 883, 884, 885, 886, 887] rfl (by decide +kernel)
set_option maxRecDepth 20000 in
theorem gL_law_X9_far : GoodIn wsL_law (wsV RL 36 RX9 yX9_far wsX9_far) := goodIn_app (goodIn_r _ [340, 341, 342, 2] rfl (by decide +kernel)) ggL_law_X9_far
set_option maxRecDepth 20000 in
theorem ggL_law_X10_far : GoodIn wsL_law wsX10_far := goodIn_r _ [349, 119, 350, 351, 352, 5, 353, 112, 160, 161, 162, 842, 843, 844, 845, 846, 847, 848, 849, 850, 851, 852, 853, 854, 855, 856, 857, 858, 859, 860, 861, 862, 863, 864, 865, 866, 867, 868, 869, 870, 871, 872] rfl (by decide +kernel)
set_option maxRecDepth 20000 in
theorem gL_law_X10_far : GoodIn wsL_law (wsV RL 39 RX10 yX10_far wsX10_far) := goodIn_app (goodIn_r _ [346, 347, 348, 5] rfl (by decide +kernel)) ggL_law_X10_far
set_option maxRecDepth 20000 in
theorem ggL_law_X9_leads : GoodIn wsL_law wsX9_leads := goodIn_r _ [357, 19, 24, 28, 38, 253, 358, 328, 329, 330, 18, 331, 188, 359, 360, 361, 23, 362, 261, 363, 364, 365, 27, 366, 367, 72, 368, 369, 370, 371, 372, 373, 374, 375, 258, 259, 260, 262, 263, 376, 377, 378, 379, 380, 381, 382, 383, 384, 385, 386, 187, 63, 59, 387, 388, 389, 390, 57, 58, 391, 392, 393, 394, 395, 396, 397, 398, 399, 831, 832, 833, 834, 835, 836, 837, 838, 839, 840, 841, 902, 903, 904, 905, 906, 907, 908, 909, 910, 911, 912, 913, 914, 915, 888, 889, 890, 891, 892, 893, 879, 880, 881, 882, 883, 884, 885, 886, 887, 894, 895] rfl (by decide +kernel)
set_option maxRecDepth 20000 in
theorem gL_law_X9_leads : GoodIn wsL_law (wsV RL 40 RX9 yX9_leads wsX9_leads) := goodIn_app (goodIn_r _ [354, 355, 356, 2] rfl (by decide +kernel)) ggL_law_X9_leads
set_option maxRecDepth 20000 in
theorem ggL_law_X10_leads : GoodIn wsL_law wsX10_leads := goodIn_r _ [403, 120, 336, 337, 338, 5, 339, 116, 160, 161, 162, 404, 405, 406, 407, 408, 409, 410, 411, 118, 114, 115, 117, 412, 413, 414, 415, 113, 119, 842, 843, 844, 845, 846, 847, 848, 849, 850, 851, 852, 853, 854, 855, 856, 857, 858, 859, 860, 861, 862, 863, 864, 865, 866, 867, 868, 869, 870, 871, 872] rfl (by decide +kernel)
set_option maxRecDepth 20000 in
theorem gL_law_X10_leads : GoodIn wsL_law (wsV RL 43 RX10 yX10_leads wsX10_leads) := goodIn_app (goodIn_r _ [400, 401, 402, 5] rfl (by decide +kernel)) ggL_law_X10_leads
set_option maxRecDepth 20000 in
theorem ggL_law_X9_shuts : GoodIn wsL_law wsX9_shuts := goodIn_r _ [419, 19, 24, 304, 28, 38, 253, 305, 306, 307, 18, 308, 187, 363, 364, 365, 27, 366, 367, 72, 368, 369, 370, 371, 372, 373, 374, 23, 375, 258, 259, 260, 261, 262, 263, 420, 421, 422, 423, 424, 425, 426, 831, 832, 833, 834, 835, 836, 837, 838, 839, 840, 841, 888, 889, 890, 891, 892, 893, 902, 903, 904, 905, 906, 907, 908, 909, 910, 911, 912, 913, 914, 915, 879, 880, 881, 882, 883, 884, 885, 886, 887, 894, 895] rfl (by decide +kernel)
set_option maxRecDepth 20000 in
theorem gL_law_X9_shuts : GoodIn wsL_law (wsV RL 44 RX9 yX9_shuts wsX9_shuts) := goodIn_app (goodIn_r _ [416, 417, 418, 2] rfl (by decide +kernel)) ggL_law_X9_shuts
set_option maxRecDepth 20000 in
theorem ggL_law_X10_shuts : GoodIn wsL_law wsX10_shuts := goodIn_r _ [430, 120, 317, 318, 319, 5, 320, 113, 160, 161, 162, 404, 405, 406, 407, 431, 432, 433, 842, 843, 844, 845, 846, 847, 848, 849, 850, 851, 852, 853, 854, 855, 856, 857, 858, 859, 860, 861, 862, 863, 864, 865, 866, 867, 868, 869, 870, 871, 872] rfl (by decide +kernel)
set_option maxRecDepth 20000 in
theorem gL_law_X10_shuts : GoodIn wsL_law (wsV RL 47 RX10 yX10_shuts wsX10_shuts) := goodIn_app (goodIn_r _ [427, 428, 429, 5] rfl (by decide +kernel)) ggL_law_X10_shuts
set_option maxRecDepth 20000 in
theorem ggL_law_X9_undo : GoodIn wsL_law wsX9_undo := goodIn_r _ [437, 28, 249, 24, 38, 253, 438, 439, 440, 27, 441, 367, 72, 372, 373, 374, 23, 375, 258, 259, 260, 261, 262, 263, 831, 832, 833, 834, 835, 836, 837, 838, 839, 840, 841, 894, 895, 902, 903, 904, 905, 906, 907, 908, 909, 910, 911, 912, 913, 914, 915, 888, 889, 890, 891, 892, 893] rfl (by decide +kernel)
set_option maxRecDepth 20000 in
theorem gL_law_X9_undo : GoodIn wsL_law (wsV RL 48 RX9 yX9_undo wsX9_undo) := goodIn_app (goodIn_r _ [434, 435, 436, 2] rfl (by decide +kernel)) ggL_law_X9_undo
set_option maxRecDepth 20000 in
theorem ggL_law_X10_undo : GoodIn wsL_law wsX10_undo := goodIn_r _ [445, 120, 842, 843, 844, 845, 846, 847, 848, 849, 850, 851, 852, 853, 854, 855, 856, 857, 858, 859, 860, 861, 862, 863, 864, 865, 866, 867, 868, 869, 870, 871, 872] rfl (by decide +kernel)
set_option maxRecDepth 20000 in
theorem gL_law_X10_undo : GoodIn wsL_law (wsV RL 51 RX10 yX10_undo wsX10_undo) := goodIn_app (goodIn_r _ [442, 443, 444, 5] rfl (by decide +kernel)) ggL_law_X10_undo
set_option maxRecDepth 20000 in
theorem ggL_law_X9_now : GoodIn wsL_law wsX9_now := goodIn_r _ [449, 24, 450, 451, 327, 304, 452, 453, 454, 2, 455, 19, 456, 358, 457, 458, 459, 23, 460, 262, 831, 832, 833, 834, 835, 836, 837, 838, 839, 840, 841, 888, 889, 890, 891, 892, 893, 879, 880, 881, 882, 883, 884, 885, 886, 887] rfl (by decide +kernel)
set_option maxRecDepth 20000 in
theorem gL_law_X9_now : GoodIn wsL_law (wsV RL 52 RX9 yX9_now wsX9_now) := goodIn_app (goodIn_r _ [446, 447, 448, 2] rfl (by decide +kernel)) ggL_law_X9_now
set_option maxRecDepth 20000 in
theorem ggL_law_X10_now : GoodIn wsL_law wsX10_now := goodIn_r _ [464, 112, 120, 465, 466, 467, 5, 468, 113, 842, 843, 844, 845, 846, 847, 848, 849, 850, 851, 852, 853, 854, 855, 856, 857, 858, 859, 860, 861, 862, 863, 864, 865, 866, 867, 868, 869, 870, 871, 872] rfl (by decide +kernel)
set_option maxRecDepth 20000 in
theorem gL_law_X10_now : GoodIn wsL_law (wsV RL 55 RX10 yX10_now wsX10_now) := goodIn_app (goodIn_r _ [461, 462, 463, 5] rfl (by decide +kernel)) ggL_law_X10_now
set_option maxRecDepth 20000 in
theorem ggL_law_X9_order : GoodIn wsL_law wsX9_order := goodIn_r _ [472, 38, 473, 474, 475, 476, 477, 478, 479, 480, 2, 481, 253, 24, 34, 19, 482, 456, 483, 484, 485, 486, 37, 487, 488, 489, 490, 491, 492, 493, 494, 495, 496, 497, 498, 458, 459, 23, 460, 262, 499, 500, 501, 33, 502, 503, 504, 76, 505, 360, 361, 362, 261, 506, 507, 508, 509, 80, 510, 77, 78, 511, 512, 513, 373, 374, 375, 258, 259, 260, 263, 514, 377, 378, 379, 380, 381, 382, 329, 330, 18, 331, 188, 383, 384, 385, 386, 187, 63, 59, 387, 388, 389, 390, 57, 58, 391, 392, 393, 394, 395, 396, 397, 398, 399, 515, 516, 517, 518, 358, 519, 520, 521, 522, 523, 524, 525, 526, 527, 528, 529, 530, 243, 531, 532, 242, 244, 533, 534, 535, 536, 537, 538, 539, 540, 84, 541, 542, 543, 544, 545, 546, 547, 548, 85, 549, 421, 422, 423, 424, 425, 426, 550, 551, 552, 553, 554, 555, 556, 557, 831, 832, 833, 834, 835, 836, 837, 838, 839, 840, 841, 902, 903, 904, 905, 906, 907, 908, 909, 910, 911, 912, 913, 914, 915, 896, 897, 898, 899, 900, 901, 879, 880, 881, 882, 883, 884, 885, 886, 887, 888, 889, 890, 891, 892, 893] rfl (by decide +kernel)
set_option maxRecDepth 20000 in
theorem gL_law_X9_order : GoodIn wsL_law (wsV RL 56 RX9 yX9_order wsX9_order) := goodIn_app (goodIn_r _ [469, 470, 471, 2] rfl (by decide +kernel)) ggL_law_X9_order
set_option maxRecDepth 20000 in
theorem ggL_law_X10_order : GoodIn wsL_law wsX10_order := goodIn_r _ [561, 562, 563, 564, 127, 160, 161, 5, 162, 565, 566, 567, 568, 123, 120, 124, 569, 570, 571, 572, 116, 573, 574, 575, 576, 577, 125, 126, 117, 578, 579, 580, 581, 408, 409, 410, 411, 118, 114, 115, 412, 413, 414, 415, 113, 119, 582, 583, 584, 585, 586, 587, 588, 589, 112, 590, 591, 592, 593, 842, 843, 844, 845, 846, 847, 848, 849, 850, 851, 852, 853, 854, 855, 856, 857, 858, 859, 860, 861, 862, 863, 864, 865, 866, 867, 868, 869, 870, 871, 872] rfl (by decide +kernel)
set_option maxRecDepth 20000 in
theorem gL_law_X10_order : GoodIn wsL_law (wsV RL 59 RX10 yX10_order wsX10_order) := goodIn_app (goodIn_r _ [558, 559, 560, 5] rfl (by decide +kernel)) ggL_law_X10_order
set_option maxRecDepth 20000 in
theorem ggL_law_X9_most : GoodIn wsL_law wsX9_most := goodIn_r _ [597, 38, 598, 476, 599, 478, 479, 480, 2, 481, 253, 24, 34, 19, 482, 456, 483, 484, 485, 486, 37, 487, 488, 489, 490, 491, 492, 493, 494, 495, 496, 497, 498, 458, 459, 23, 460, 262, 499, 500, 501, 33, 502, 503, 504, 76, 505, 360, 361, 362, 261, 506, 507, 508, 509, 80, 510, 77, 78, 511, 512, 513, 373, 374, 375, 258, 259, 260, 263, 514, 377, 378, 379, 380, 381, 382, 329, 330, 18, 331, 188, 383, 384, 385, 386, 187, 63, 59, 387, 388, 389, 390, 57, 58, 391, 392, 393, 394, 395, 396, 397, 398, 399, 515, 516, 517, 518, 358, 519, 520, 521, 522, 523, 524, 525, 526, 527, 528, 529, 530, 243, 531, 532, 242, 244, 533, 534, 535, 536, 537, 538, 539, 540, 84, 541, 542, 543, 544, 545, 546, 547, 548, 85, 549, 421, 422, 423, 424, 425, 426, 550, 551, 552, 553, 554, 555, 556, 557, 831, 832, 833, 834, 835, 836, 837, 838, 839, 840, 841, 902, 903, 904, 905, 906, 907, 908, 909, 910, 911, 912, 913, 914, 915, 896, 897, 898, 899, 900, 901, 879, 880, 881, 882, 883, 884, 885, 886, 887, 888, 889, 890, 891, 892, 893] rfl (by decide +kernel)
set_option maxRecDepth 20000 in
theorem gL_law_X9_most : GoodIn wsL_law (wsV RL 60 RX9 yX9_most wsX9_most) := goodIn_app (goodIn_r _ [594, 595, 596, 2] rfl (by decide +kernel)) ggL_law_X9_most
set_option maxRecDepth 20000 in
theorem ggL_law_X10_most : GoodIn wsL_law wsX10_most := goodIn_r _ [603, 123, 564, 127, 124, 160, 161, 5, 162, 569, 570, 571, 572, 116, 120, 573, 574, 575, 576, 577, 125, 126, 117, 578, 579, 580, 581, 408, 409, 410, 411, 118, 114, 115, 412, 413, 414, 415, 113, 119, 582, 583, 584, 585, 465, 466, 467, 468, 431, 432, 433, 590, 591, 592, 593, 842, 843, 844, 845, 846, 847, 848, 849, 850, 851, 852, 853, 854, 855, 856, 857, 858, 859, 860, 861, 862, 863, 864, 865, 866, 867, 868, 869, 870, 871, 872] rfl (by decide +kernel)
set_option maxRecDepth 20000 in
theorem gL_law_X10_most : GoodIn wsL_law (wsV RL 63 RX10 yX10_most wsX10_most) := goodIn_app (goodIn_r _ [600, 601, 602, 5] rfl (by decide +kernel)) ggL_law_X10_most
set_option maxRecDepth 20000 in
theorem ggL_law_X9_rows : GoodIn wsL_law wsX9_rows := goodIn_r _ [607, 19, 38, 608, 483, 609, 610, 611, 612, 478, 479, 480, 2, 481, 253, 24, 34, 482, 456, 484, 485, 486, 37, 487, 488, 489, 490, 491, 492, 493, 494, 495, 496, 497, 498, 458, 459, 23, 460, 262, 499, 500, 501, 33, 502, 503, 504, 76, 505, 360, 361, 362, 261, 506, 507, 508, 509, 80, 510, 77, 78, 511, 512, 513, 373, 374, 375, 258, 259, 260, 263, 514, 377, 378, 379, 380, 381, 382, 329, 330, 18, 331, 188, 383, 384, 385, 386, 187, 63, 59, 387, 388, 389, 390, 57, 58, 391, 392, 393, 394, 395, 396, 397, 398, 399, 515, 516, 517, 518, 358, 519, 520, 521, 522, 523, 524, 525, 526, 527, 528, 529, 530, 243, 531, 532, 242, 244, 533, 534, 535, 536, 537, 538, 539, 540, 84, 541, 542, 543, 544, 545, 546, 547, 548, 85, 549, 421, 422, 423, 424, 425, 426, 550, 551, 552, 553, 554, 555, 556, 557, 613, 614, 615, 616, 831, 832, 833, 834, 835, 836, 837, 838, 839, 840, 841, 902, 903, 904, 905, 906, 907, 908, 909, 910, 911, 912, 913, 914, 915, 896, 897, 898, 899, 900, 901, 879, 880, 881, 882, 883, 884, 885, 886, 887, 888, 889, 890, 891, 892, 893] rfl (by decide +kernel)
set_option maxRecDepth 20000 in
theorem gL_law_X9_rows : GoodIn wsL_law (wsV RL 64 RX9 yX9_rows wsX9_rows) := goodIn_app (goodIn_r _ [604, 605, 606, 2] rfl (by decide +kernel)) ggL_law_X9_rows
set_option maxRecDepth 20000 in
theorem ggL_law_X10_rows : GoodIn wsL_law wsX10_rows := goodIn_r _ [620, 113, 123, 120, 112, 577, 564, 125, 160, 161, 5, 162, 569, 570, 571, 572, 116, 124, 573, 574, 575, 576, 126, 117, 578, 579, 580, 581, 408, 409, 410, 411, 118, 114, 115, 412, 413, 414, 415, 119, 582, 583, 584, 585, 465, 466, 467, 468, 586, 587, 588, 589, 590, 591, 592, 593, 842, 843, 844, 845, 846, 847, 848, 849, 850, 851, 852, 853, 854, 855, 856, 857, 858, 859, 860, 861, 862, 863, 864, 865, 866, 867, 868, 869, 870, 871, 872] rfl (by decide +kernel)
set_option maxRecDepth 20000 in
theorem gL_law_X10_rows : GoodIn wsL_law (wsV RL 67 RX10 yX10_rows wsX10_rows) := goodIn_app (goodIn_r _ [617, 618, 619, 5] rfl (by decide +kernel)) ggL_law_X10_rows
set_option maxRecDepth 20000 in
theorem ggL_law_X9_saw : GoodIn wsL_law wsX9_saw := goodIn_r _ [624, 19, 42, 251, 345, 226, 227, 18, 228, 186, 625, 626, 627, 41, 628, 629, 89, 90, 831, 832, 833, 834, 835, 836, 837, 838, 839, 840, 841, 916, 917, 918, 879, 880, 881, 882, 883, 884, 885, 886, 887] rfl (by decide +kernel)
set_option maxRecDepth 20000 in
theorem gL_law_X9_saw : GoodIn wsL_law (wsV RL 68 RX9 yX9_saw wsX9_saw) := goodIn_app (goodIn_r _ [621, 622, 623, 2] rfl (by decide +kernel)) ggL_law_X9_saw
set_option maxRecDepth 20000 in
theorem ggL_law_X10_saw : GoodIn wsL_law wsX10_saw := goodIn_r _ [633, 139, 128, 129, 160, 161, 5, 162, 350, 351, 352, 353, 112, 842, 843, 844, 845, 846, 847, 848, 849, 850, 851, 852, 853, 854, 855, 856, 857, 858, 859, 860, 861, 862, 863, 864, 865, 866, 867, 868, 869, 870, 871, 872] rfl (by decide +kernel)
set_option maxRecDepth 20000 in
theorem gL_law_X10_saw : GoodIn wsL_law (wsV RL 71 RX10 yX10_saw wsX10_saw) := goodIn_app (goodIn_r _ [630, 631, 632, 5] rfl (by decide +kernel)) ggL_law_X10_saw
set_option maxRecDepth 20000 in
theorem ggL_law_X9_forget : GoodIn wsL_law wsX9_forget := goodIn_r _ [637, 42, 251, 831, 832, 833, 834, 835, 836, 837, 838, 839, 840, 841, 916, 917, 918] rfl (by decide +kernel)
set_option maxRecDepth 20000 in
theorem gL_law_X9_forget : GoodIn wsL_law (wsV RL 72 RX9 yX9_forget wsX9_forget) := goodIn_app (goodIn_r _ [634, 635, 636, 2] rfl (by decide +kernel)) ggL_law_X9_forget
set_option maxRecDepth 20000 in
theorem ggL_law_X10_forget : GoodIn wsL_law wsX10_forget := goodIn_r _ [641, 139, 842, 843, 844, 845, 846, 847, 848, 849, 850, 851, 852, 853, 854, 855, 856, 857, 858, 859, 860, 861, 862, 863, 864, 865, 866, 867, 868, 869, 870, 871, 872] rfl (by decide +kernel)
set_option maxRecDepth 20000 in
theorem gL_law_X10_forget : GoodIn wsL_law (wsV RL 75 RX10 yX10_forget wsX10_forget) := goodIn_app (goodIn_r _ [638, 639, 640, 5] rfl (by decide +kernel)) ggL_law_X10_forget
set_option maxRecDepth 20000 in
theorem ggL_law_X9_fits : GoodIn wsL_law wsX9_fits := goodIn_r _ [645, 34, 19, 24, 42, 499, 500, 501, 33, 502, 503, 504, 76, 505, 360, 361, 23, 362, 261, 506, 507, 508, 509, 80, 510, 77, 78, 511, 512, 513, 373, 374, 375, 258, 259, 260, 262, 263, 514, 377, 378, 379, 380, 381, 382, 329, 330, 18, 331, 188, 383, 384, 385, 386, 187, 63, 59, 387, 388, 389, 390, 57, 58, 391, 392, 393, 394, 395, 396, 397, 398, 399, 646, 647, 648, 41, 649, 629, 89, 650, 651, 90, 652, 653, 654, 655, 656, 657, 2, 658, 550, 551, 552, 553, 554, 555, 556, 557, 831, 832, 833, 834, 835, 836, 837, 838, 839, 840, 841, 896, 897, 898, 899, 900, 901, 879, 880, 881, 882, 883, 884, 885, 886, 887, 888, 889, 890, 891, 892, 893, 916, 917, 918] rfl (by decide +kernel)
set_option maxRecDepth 20000 in
theorem gL_law_X9_fits : GoodIn wsL_law (wsV RL 76 RX9 yX9_fits wsX9_fits) := goodIn_app (goodIn_r _ [642, 643, 644, 2] rfl (by decide +kernel)) ggL_law_X9_fits
set_option maxRecDepth 20000 in
theorem ggL_law_X10_fits : GoodIn wsL_law wsX10_fits := goodIn_r _ [662, 564, 125, 160, 161, 5, 162, 569, 570, 571, 572, 116, 120, 124, 573, 574, 575, 576, 577, 123, 126, 117, 578, 579, 580, 581, 408, 409, 410, 411, 118, 114, 115, 412, 413, 414, 415, 113, 119, 582, 583, 584, 585, 663, 664, 665, 666, 139, 128, 129, 590, 591, 592, 593, 842, 843, 844, 845, 846, 847, 848, 849, 850, 851, 852, 853, 854, 855, 856, 857, 858, 859, 860, 861, 862, 863, 864, 865, 866, 867, 868, 869, 870, 871, 872] rfl (by decide +kernel)
set_option maxRecDepth 20000 in
theorem gL_law_X10_fits : GoodIn wsL_law (wsV RL 79 RX10 yX10_fits wsX10_fits) := goodIn_app (goodIn_r _ [659, 660, 661, 5] rfl (by decide +kernel)) ggL_law_X10_fits
set_option maxRecDepth 20000 in
theorem ggL_law_X9_plans : GoodIn wsL_law wsX9_plans := goodIn_r _ [670, 19, 46, 252, 328, 329, 330, 18, 331, 188, 671, 672, 673, 45, 674, 675, 94, 831, 832, 833, 834, 835, 836, 837, 838, 839, 840, 841, 919, 920, 921, 922, 923, 879, 880, 881, 882, 883, 884, 885, 886, 887] rfl (by decide +kernel)
set_option maxRecDepth 20000 in
theorem gL_law_X9_plans : GoodIn wsL_law (wsV RL 80 RX9 yX9_plans wsX9_plans) := goodIn_app (goodIn_r _ [667, 668, 669, 2] rfl (by decide +kernel)) ggL_law_X9_plans
set_option maxRecDepth 20000 in
theorem ggL_law_X10_plans : GoodIn wsL_law wsX10_plans := goodIn_r _ [679, 140, 130, 336, 337, 338, 5, 339, 116, 160, 161, 162, 842, 843, 844, 845, 846, 847, 848, 849, 850, 851, 852, 853, 854, 855, 856, 857, 858, 859, 860, 861, 862, 863, 864, 865, 866, 867, 868, 869, 870, 871, 872] rfl (by decide +kernel)
set_option maxRecDepth 20000 in
theorem gL_law_X10_plans : GoodIn wsL_law (wsV RL 83 RX10 yX10_plans wsX10_plans) := goodIn_app (goodIn_r _ [676, 677, 678, 5] rfl (by decide +kernel)) ggL_law_X10_plans
set_option maxRecDepth 20000 in
theorem ggL_law_X9_drops : GoodIn wsL_law wsX9_drops := goodIn_r _ [683, 46, 252, 831, 832, 833, 834, 835, 836, 837, 838, 839, 840, 841, 919, 920, 921, 922, 923] rfl (by decide +kernel)
set_option maxRecDepth 20000 in
theorem gL_law_X9_drops : GoodIn wsL_law (wsV RL 84 RX9 yX9_drops wsX9_drops) := goodIn_app (goodIn_r _ [680, 681, 682, 2] rfl (by decide +kernel)) ggL_law_X9_drops
set_option maxRecDepth 20000 in
theorem ggL_law_X10_drops : GoodIn wsL_law wsX10_drops := goodIn_r _ [687, 140, 842, 843, 844, 845, 846, 847, 848, 849, 850, 851, 852, 853, 854, 855, 856, 857, 858, 859, 860, 861, 862, 863, 864, 865, 866, 867, 868, 869, 870, 871, 872] rfl (by decide +kernel)
set_option maxRecDepth 20000 in
theorem gL_law_X10_drops : GoodIn wsL_law (wsV RL 87 RX10 yX10_drops wsX10_drops) := goodIn_app (goodIn_r _ [684, 685, 686, 5] rfl (by decide +kernel)) ggL_law_X10_drops
set_option maxRecDepth 20000 in
theorem ggL_law_X9_planned : GoodIn wsL_law wsX9_planned := goodIn_r _ [691, 46, 24, 19, 692, 450, 451, 693, 694, 695, 696, 45, 697, 698, 699, 675, 94, 95, 700, 701, 702, 703, 704, 705, 706, 707, 97, 708, 373, 374, 23, 375, 258, 259, 260, 261, 262, 263, 709, 377, 378, 379, 380, 381, 382, 329, 330, 18, 331, 188, 383, 384, 385, 386, 187, 63, 59, 387, 388, 389, 390, 57, 58, 391, 392, 393, 394, 395, 396, 397, 398, 399, 452, 453, 454, 2, 455, 456, 358, 831, 832, 833, 834, 835, 836, 837, 838, 839, 840, 841, 919, 920, 921, 922, 923, 888, 889, 890, 891, 892, 893, 879, 880, 881, 882, 883, 884, 885, 886, 887] rfl (by decide +kernel)
set_option maxRecDepth 20000 in
theorem gL_law_X9_planned : GoodIn wsL_law (wsV RL 88 RX9 yX9_planned wsX9_planned) := goodIn_app (goodIn_r _ [688, 689, 690, 2] rfl (by decide +kernel)) ggL_law_X9_planned
set_option maxRecDepth 20000 in
theorem ggL_law_X10_planned : GoodIn wsL_law wsX10_planned := goodIn_r _ [713, 112, 123, 120, 160, 161, 5, 162, 714, 715, 716, 717, 140, 130, 578, 579, 580, 581, 408, 409, 410, 411, 118, 114, 115, 117, 412, 413, 414, 415, 113, 119, 842, 843, 844, 845, 846, 847, 848, 849, 850, 851, 852, 853, 854, 855, 856, 857, 858, 859, 860, 861, 862, 863, 864, 865, 866, 867, 868, 869, 870, 871, 872] rfl (by decide +kernel)
set_option maxRecDepth 20000 in
theorem gL_law_X10_planned : GoodIn wsL_law (wsV RL 91 RX10 yX10_planned wsX10_planned) := goodIn_app (goodIn_r _ [710, 711, 712, 5] rfl (by decide +kernel)) ggL_law_X10_planned
set_option maxRecDepth 20000 in
theorem ggL_law_X9_odds : GoodIn wsL_law wsX9_odds := goodIn_r _ [721, 46, 24, 19, 692, 694, 695, 696, 45, 697, 698, 699, 675, 94, 95, 722, 723, 724, 725, 700, 701, 702, 703, 704, 705, 706, 707, 97, 708, 373, 374, 23, 375, 258, 259, 260, 261, 262, 263, 709, 377, 378, 379, 380, 381, 382, 329, 330, 18, 331, 188, 383, 384, 385, 386, 187, 63, 59, 387, 388, 389, 390, 57, 58, 391, 392, 393, 394, 395, 396, 397, 398, 399, 515, 516, 517, 2, 518, 456, 358, 726, 727, 728, 729, 730, 731, 732, 831, 832, 833, 834, 835, 836, 837, 838, 839, 840, 841, 919, 920, 921, 922, 923, 888, 889, 890, 891, 892, 893, 879, 880, 881, 882, 883, 884, 885, 886, 887] rfl (by decide +kernel)
set_option maxRecDepth 20000 in
theorem gL_law_X9_odds : GoodIn wsL_law (wsV RL 92 RX9 yX9_odds wsX9_odds) := goodIn_app (goodIn_r _ [718, 719, 720, 2] rfl (by decide +kernel)) ggL_law_X9_odds
set_option maxRecDepth 20000 in
theorem ggL_law_X10_odds : GoodIn wsL_law wsX10_odds := goodIn_r _ [736, 160, 161, 5, 162, 714, 715, 716, 717, 120, 140, 130, 123, 578, 579, 580, 581, 408, 409, 410, 411, 118, 114, 115, 117, 412, 413, 414, 415, 113, 119, 586, 587, 588, 589, 112, 842, 843, 844, 845, 846, 847, 848, 849, 850, 851, 852, 853, 854, 855, 856, 857, 858, 859, 860, 861, 862, 863, 864, 865, 866, 867, 868, 869, 870, 871, 872] rfl (by decide +kernel)
set_option maxRecDepth 20000 in
theorem gL_law_X10_odds : GoodIn wsL_law (wsV RL 95 RX10 yX10_odds wsX10_odds) := goodIn_app (goodIn_r _ [733, 734, 735, 5] rfl (by decide +kernel)) ggL_law_X10_odds
set_option maxRecDepth 20000 in
theorem ggL_law_X9_mark : GoodIn wsL_law wsX9_mark := goodIn_r _ [740, 19, 741, 305, 306, 307, 18, 308, 187, 742, 743, 744, 2, 745, 746, 303, 747, 748, 749, 750, 751, 24, 309, 310, 311, 23, 312, 262, 420, 421, 422, 423, 424, 425, 426, 752, 753, 754, 755, 756, 302, 757, 758, 759, 760, 761, 762, 763, 764, 765, 766, 451, 767, 768, 769, 770, 771, 450, 831, 832, 833, 834, 835, 836, 837, 838, 839, 840, 841, 879, 880, 881, 882, 883, 884, 885, 886, 887, 888, 889, 890, 891, 892, 893] rfl (by decide +kernel)
set_option maxRecDepth 20000 in
theorem gL_law_X9_mark : GoodIn wsL_law (wsV RL 96 RX9 yX9_mark wsX9_mark) := goodIn_app (goodIn_r _ [737, 738, 739, 2] rfl (by decide +kernel)) ggL_law_X9_mark
set_option maxRecDepth 20000 in
theorem ggL_law_X10_mark : GoodIn wsL_law wsX10_mark := goodIn_r _ [775, 776, 120, 115, 114, 777, 778, 779, 780, 781, 782, 160, 161, 5, 162, 317, 318, 319, 320, 113, 431, 432, 433, 842, 843, 844, 845, 846, 847, 848, 849, 850, 851, 852, 853, 854, 855, 856, 857, 858, 859, 860, 861, 862, 863, 864, 865, 866, 867, 868, 869, 870, 871, 872] rfl (by decide +kernel)
set_option maxRecDepth 20000 in
theorem gL_law_X10_mark : GoodIn wsL_law (wsV RL 99 RX10 yX10_mark wsX10_mark) := goodIn_app (goodIn_r _ [772, 773, 774, 5] rfl (by decide +kernel)) ggL_law_X10_mark
set_option maxRecDepth 20000 in
theorem ggL_law_X9_keep : GoodIn wsL_law wsX9_keep := goodIn_r _ [786, 30, 24, 28, 450, 787, 788, 789, 48, 790, 102, 104, 791, 792, 373, 374, 23, 375, 258, 259, 260, 261, 262, 263, 793, 794, 795, 27, 796, 367, 72, 372, 831, 832, 833, 834, 835, 836, 837, 838, 839, 840, 841, 888, 889, 890, 891, 892, 893, 924, 925, 926, 894, 895] rfl (by decide +kernel)
set_option maxRecDepth 20000 in
theorem gL_law_X9_keep : GoodIn wsL_law (wsV RL 100 RX9 yX9_keep wsX9_keep) := goodIn_app (goodIn_r _ [783, 784, 785, 2] rfl (by decide +kernel)) ggL_law_X9_keep
set_option maxRecDepth 20000 in
theorem ggL_law_X10_keep : GoodIn wsL_law wsX10_keep := goodIn_r _ [800, 120, 122, 160, 161, 5, 162, 842, 843, 844, 845, 846, 847, 848, 849, 850, 851, 852, 853, 854, 855, 856, 857, 858, 859, 860, 861, 862, 863, 864, 865, 866, 867, 868, 869, 870, 871, 872] rfl (by decide +kernel)
set_option maxRecDepth 20000 in
theorem gL_law_X10_keep : GoodIn wsL_law (wsV RL 103 RX10 yX10_keep wsX10_keep) := goodIn_app (goodIn_r _ [797, 798, 799, 5] rfl (by decide +kernel)) ggL_law_X10_keep
set_option maxRecDepth 20000 in
theorem ggL_law_X9_back : GoodIn wsL_law wsX9_back := goodIn_r _ [804, 30, 250, 24, 28, 38, 253, 450, 805, 806, 807, 48, 808, 102, 104, 792, 373, 374, 23, 375, 258, 259, 260, 261, 262, 263, 793, 794, 795, 27, 796, 367, 72, 372, 831, 832, 833, 834, 835, 836, 837, 838, 839, 840, 841, 924, 925, 926, 902, 903, 904, 905, 906, 907, 908, 909, 910, 911, 912, 913, 914, 915, 888, 889, 890, 891, 892, 893, 894, 895] rfl (by decide +kernel)
set_option maxRecDepth 20000 in
theorem gL_law_X9_back : GoodIn wsL_law (wsV RL 104 RX9 yX9_back wsX9_back) := goodIn_app (goodIn_r _ [801, 802, 803, 2] rfl (by decide +kernel)) ggL_law_X9_back
set_option maxRecDepth 20000 in
theorem ggL_law_X10_back : GoodIn wsL_law wsX10_back := goodIn_r _ [812, 122, 120, 160, 161, 5, 162, 842, 843, 844, 845, 846, 847, 848, 849, 850, 851, 852, 853, 854, 855, 856, 857, 858, 859, 860, 861, 862, 863, 864, 865, 866, 867, 868, 869, 870, 871, 872] rfl (by decide +kernel)
set_option maxRecDepth 20000 in
theorem gL_law_X10_back : GoodIn wsL_law (wsV RL 107 RX10 yX10_back wsX10_back) := goodIn_app (goodIn_r _ [809, 810, 811, 5] rfl (by decide +kernel)) ggL_law_X10_back
set_option maxRecDepth 20000 in
theorem ggL_law_X9_count : GoodIn wsL_law wsX9_count := goodIn_r _ [816, 19, 456, 817, 818, 42, 251, 46, 252, 28, 249, 15, 149, 831, 832, 833, 834, 835, 836, 837, 838, 839, 840, 841, 879, 880, 881, 882, 883, 884, 885, 886, 887, 916, 917, 918, 919, 920, 921, 922, 923, 894, 895, 873, 874, 875, 876, 877, 878] rfl (by decide +kernel)
set_option maxRecDepth 20000 in
theorem gL_law_X9_count : GoodIn wsL_law (wsV RL 108 RX9 yX9_count wsX9_count) := goodIn_app (goodIn_r _ [813, 814, 815, 2] rfl (by decide +kernel)) ggL_law_X9_count
set_option maxRecDepth 20000 in
theorem ggL_law_X10_count : GoodIn wsL_law wsX10_count := goodIn_r _ [822, 112, 113, 116, 139, 140, 120, 159, 842, 843, 844, 845, 846, 847, 848, 849, 850, 851, 852, 853, 854, 855, 856, 857, 858, 859, 860, 861, 862, 863, 864, 865, 866, 867, 868, 869, 870, 871, 872] rfl (by decide +kernel)
set_option maxRecDepth 20000 in
theorem gL_law_X10_count : GoodIn wsL_law (wsV RL 111 RX10 yX10_count wsX10_count) := goodIn_app (goodIn_r _ [819, 820, 821, 5] rfl (by decide +kernel)) ggL_law_X10_count
set_option maxRecDepth 20000 in
theorem ggL_law_X9_trace : GoodIn wsL_law wsX9_trace := goodIn_r _ [826, 746, 831, 832, 833, 834, 835, 836, 837, 838, 839, 840, 841] rfl (by decide +kernel)
set_option maxRecDepth 20000 in
theorem gL_law_X9_trace : GoodIn wsL_law (wsV RL 112 RX9 yX9_trace wsX9_trace) := goodIn_app (goodIn_r _ [823, 824, 825, 2] rfl (by decide +kernel)) ggL_law_X9_trace
set_option maxRecDepth 20000 in
theorem ggL_law_X10_trace : GoodIn wsL_law wsX10_trace := goodIn_r _ [830, 777, 842, 843, 844, 845, 846, 847, 848, 849, 850, 851, 852, 853, 854, 855, 856, 857, 858, 859, 860, 861, 862, 863, 864, 865, 866, 867, 868, 869, 870, 871, 872] rfl (by decide +kernel)
set_option maxRecDepth 20000 in
theorem gL_law_X10_trace : GoodIn wsL_law (wsV RL 116 RX10 yX10_trace wsX10_trace) := goodIn_app (goodIn_r _ [827, 828, 829, 5] rfl (by decide +kernel)) ggL_law_X10_trace
