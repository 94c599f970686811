set_option maxRecDepth 20000 in
theorem ggL_law_X10_init : GoodIn wsL_law wsX10_init := goodIn_r _ [8, 9, 10, 11, 12, 13, 14, 15, 16, 17, 18, 19, 20, 21, 22, 23, 24, 25, 26, 27, 28, 29, 30, 31, 32, 33, 34, 35, 36, 37, 38, 39, 40, 41, 42, 43, 44, 45, 46, 47, 48, 49, 50, 51, 52, 53, 54, 55, 56, 57, 58, 59, 60, 61, 62, 63, 64, 65, 66, 67, 68, 69, 70, 71, 72, 73, 74, 75, 76, 77, 78, 79, 80, 81, 82, 83, 84, 85, 86, 87, 88, 89, 90, 91, 92, 93, 94, 95, 96, 97, 98, 99, 100, 101, 102, 103, 104, 105, 106, 107, 108, 109, 110, 111, 112, 113, 114, 115, 116, 117, 118, 119, 120, 121, 122, 123, 124, 125, 126, 127, 128, 129, 130, 131, 132, 133, 134, 135, 136, 137, 138, 139, 851, 852, 818, 819, 820, 821, 822, 823, 824, 825, 826, 827, 853, 854, 855, 856, 857, 858, 859, 860, 861, 862, 863, 864, 865, 866, 867, 868, 869, 870, 871, 872, 873, 874, 875, 876, 877, 878, 879, 880, 881, 882, 883, 884, 885, 886, 887] rfl (by decide +kernel)
set_option maxRecDepth 20000 in
theorem gL_law_X10_init : GoodIn wsL_law (wsX10_init) := ggL_law_X10_init
set_option maxRecDepth 20000 in
theorem ggL_law_X11_init : GoodIn wsL_law wsX11_init := goodIn_r _ [142, 143, 10, 11, 52, 144, 145, 146, 147, 148, 92, 149, 150, 151, 152, 153, 154, 155, 156, 157, 5, 158, 159, 160, 161, 162, 163, 164, 165, 166, 167, 828, 829, 830, 831, 832, 833, 834, 835, 836, 837, 838, 839, 840, 841, 842, 843, 844, 845, 846, 847, 848, 849, 850] rfl (by decide +kernel)
set_option maxRecDepth 20000 in
theorem gL_law_X11_init : GoodIn wsL_law (wsX11_init) := ggL_law_X11_init
set_option maxRecDepth 20000 in
theorem ggL_law_X10_type : GoodIn wsL_law wsX10_type := goodIn_r _ [171, 15, 172, 173, 174, 2, 175, 176, 177, 178, 14, 179, 54, 53, 818, 819, 820, 821, 822, 823, 824, 825, 826, 827, 851, 852] rfl (by decide +kernel)
set_option maxRecDepth 20000 in
theorem gL_law_X10_type : GoodIn wsL_law (wsV RL 13 RX10 yX10_type wsX10_type) := goodIn_app (goodIn_r _ [168, 169, 170, 2] rfl (by decide +kernel)) ggL_law_X10_type
set_option maxRecDepth 20000 in
theorem ggL_law_X11_type : GoodIn wsL_law wsX11_type := goodIn_r _ [183, 184, 165, 144, 185, 186, 5, 187, 828, 829, 830, 831, 832, 833, 834, 835, 836, 837, 838, 839, 840, 841, 842, 843, 844, 845, 846, 847, 848, 849, 850] rfl (by decide +kernel)
set_option maxRecDepth 20000 in
theorem gL_law_X11_type : GoodIn wsL_law (wsV RL 17 RX11 yX11_type wsX11_type) := goodIn_app (goodIn_r _ [180, 181, 182, 5] rfl (by decide +kernel)) ggL_law_X11_type
set_option maxRecDepth 20000 in
theorem ggL_law_X10_clear : GoodIn wsL_law wsX10_clear := goodIn_r _ [191, 15, 172, 818, 819, 820, 821, 822, 823, 824, 825, 826, 827, 851, 852] rfl (by decide +kernel)
set_option maxRecDepth 20000 in
theorem gL_law_X10_clear : GoodIn wsL_law (wsV RL 18 RX10 yX10_clear wsX10_clear) := goodIn_app (goodIn_r _ [188, 189, 190, 2] rfl (by decide +kernel)) ggL_law_X10_clear
set_option maxRecDepth 20000 in
theorem ggL_law_X11_clear : GoodIn wsL_law wsX11_clear := goodIn_r _ [195, 184, 165, 828, 829, 830, 831, 832, 833, 834, 835, 836, 837, 838, 839, 840, 841, 842, 843, 844, 845, 846, 847, 848, 849, 850] rfl (by decide +kernel)
set_option maxRecDepth 20000 in
theorem gL_law_X11_clear : GoodIn wsL_law (wsV RL 22 RX11 yX11_clear wsX11_clear) := goodIn_app (goodIn_r _ [192, 193, 194, 5] rfl (by decide +kernel)) ggL_law_X11_clear
set_option maxRecDepth 20000 in
theorem ggL_law_X10_file : GoodIn wsL_law wsX10_file := goodIn_r _ [199, 19, 23, 27, 200, 39, 201, 31, 15, 172, 202, 203, 204, 205, 18, 206, 68, 60, 61, 62, 63, 64, 207, 208, 209, 210, 211, 67, 212, 76, 213, 214, 215, 216, 74, 77, 217, 73, 218, 219, 220, 14, 221, 54, 53, 222, 223, 224, 174, 2, 175, 225, 226, 227, 228, 229, 230, 231, 232, 233, 234, 235, 236, 237, 238, 239, 240, 241, 242, 243, 244, 245, 246, 247, 248, 249, 250, 251, 252, 253, 254, 255, 256, 257, 258, 259, 260, 261, 262, 263, 264, 265, 266, 267, 268, 269, 270, 271, 272, 273, 274, 275, 276, 277, 278, 279, 280, 281, 282, 283, 284, 285, 286, 287, 288, 75, 289, 290, 291, 292, 293, 294, 295, 296, 297, 298, 299, 300, 301, 302, 303, 304, 305, 306, 307, 308, 59, 309, 310, 311, 312, 313, 314, 123, 124, 125, 22, 126, 81, 127, 128, 129, 130, 131, 132, 133, 134, 135, 136, 137, 138, 139, 315, 316, 317, 30, 318, 93, 818, 819, 820, 821, 822, 823, 824, 825, 826, 827, 861, 862, 863, 873, 874, 875, 851, 852, 853, 854, 855, 856, 857, 858, 859, 883, 884, 885, 886, 887, 860, 864, 865] rfl (by decide +kernel)
set_option maxRecDepth 20000 in
theorem gL_law_X10_file : GoodIn wsL_law (wsV RL 23 RX10 yX10_file wsX10_file) := goodIn_app (goodIn_r _ [196, 197, 198, 2] rfl (by decide +kernel)) ggL_law_X10_file
set_option maxRecDepth 20000 in
theorem ggL_law_X11_file : GoodIn wsL_law wsX11_file := goodIn_r _ [322, 184, 323, 324, 325, 145, 165, 155, 156, 157, 5, 158, 159, 326, 327, 328, 329, 330, 331, 332, 333, 334, 335, 144, 185, 186, 187, 336, 337, 338, 339, 340, 341, 342, 343, 344, 345, 346, 347, 348, 349, 350, 351, 352, 353, 354, 355, 356, 357, 358, 359, 360, 361, 362, 363, 364, 365, 366, 367, 368, 369, 160, 161, 162, 163, 164, 146, 166, 167, 149, 828, 829, 830, 831, 832, 833, 834, 835, 836, 837, 838, 839, 840, 841, 842, 843, 844, 845, 846, 847, 848, 849, 850] rfl (by decide +kernel)
set_option maxRecDepth 20000 in
theorem gL_law_X11_file : GoodIn wsL_law (wsV RL 26 RX11 yX11_file wsX11_file) := goodIn_app (goodIn_r _ [319, 320, 321, 5] rfl (by decide +kernel)) ggL_law_X11_file
set_option maxRecDepth 20000 in
theorem ggL_law_X10_reads : GoodIn wsL_law wsX10_reads := goodIn_r _ [373, 35, 374, 48, 375, 376, 377, 378, 2, 379, 23, 380, 381, 382, 383, 173, 174, 175, 384, 385, 386, 34, 387, 97, 98, 99, 100, 101, 388, 389, 291, 390, 102, 103, 391, 392, 393, 22, 394, 81, 395, 396, 397, 398, 399, 400, 401, 402, 403, 404, 405, 406, 407, 408, 409, 410, 411, 412, 413, 414, 415, 416, 417, 418, 419, 420, 421, 422, 423, 424, 425, 426, 427, 428, 429, 430, 431, 432, 433, 434, 435, 436, 437, 438, 439, 818, 819, 820, 821, 822, 823, 824, 825, 826, 827, 866, 867, 868, 869, 870, 871, 872, 860] rfl (by decide +kernel)
set_option maxRecDepth 20000 in
theorem gL_law_X10_reads : GoodIn wsL_law (wsV RL 27 RX10 yX10_reads wsX10_reads) := goodIn_app (goodIn_r _ [370, 371, 372, 2] rfl (by decide +kernel)) ggL_law_X10_reads
set_option maxRecDepth 20000 in
theorem ggL_law_X11_reads_ : GoodIn wsL_law wsX11_reads_ := goodIn_r _ [443, 184, 444, 445, 446, 5, 447, 185, 186, 187, 448, 449, 450, 451, 164, 146, 452, 453, 454, 455, 456, 457, 458, 459, 460, 461, 462, 463, 464, 465, 466, 467, 468, 469, 470, 471, 472, 473, 828, 829, 830, 831, 832, 833, 834, 835, 836, 837, 838, 839, 840, 841, 842, 843, 844, 845, 846, 847, 848, 849, 850] rfl (by decide +kernel)
set_option maxRecDepth 20000 in
theorem gL_law_X11_reads_ : GoodIn wsL_law (wsV RL 30 RX11 yX11_reads_ wsX11_reads_) := goodIn_app (goodIn_r _ [440, 441, 442, 5] rfl (by decide +kernel)) ggL_law_X11_reads_
set_option maxRecDepth 20000 in
theorem ggL_law_X10_writes : GoodIn wsL_law wsX10_writes := goodIn_r _ [477, 35, 23, 478, 27, 479, 480, 375, 381, 382, 2, 383, 173, 174, 175, 384, 385, 386, 34, 387, 97, 98, 99, 100, 101, 388, 389, 291, 390, 102, 103, 391, 392, 393, 22, 394, 81, 395, 396, 397, 398, 399, 400, 401, 402, 403, 404, 405, 406, 407, 408, 409, 410, 411, 412, 413, 414, 415, 416, 417, 418, 419, 420, 421, 422, 423, 424, 425, 426, 427, 428, 429, 430, 431, 432, 433, 434, 435, 436, 437, 438, 439, 481, 482, 483, 26, 484, 85, 86, 87, 485, 290, 292, 486, 487, 488, 489, 490, 491, 492, 493, 494, 495, 496, 497, 498, 499, 500, 501, 818, 819, 820, 821, 822, 823, 824, 825, 826, 827, 866, 867, 868, 869, 870, 871, 872, 860, 861, 862, 863] rfl (by decide +kernel)
set_option maxRecDepth 20000 in
theorem gL_law_X10_writes : GoodIn wsL_law (wsV RL 31 RX10 yX10_writes wsX10_writes) := goodIn_app (goodIn_r _ [474, 475, 476, 2] rfl (by decide +kernel)) ggL_law_X10_writes
set_option maxRecDepth 20000 in
theorem ggL_law_X11_writes : GoodIn wsL_law wsX11_writes := goodIn_r _ [505, 184, 445, 446, 5, 447, 185, 186, 187, 448, 449, 450, 451, 164, 146, 452, 453, 454, 455, 456, 457, 458, 459, 460, 461, 462, 463, 464, 465, 466, 467, 468, 469, 506, 507, 508, 509, 167, 147, 510, 511, 512, 513, 828, 829, 830, 831, 832, 833, 834, 835, 836, 837, 838, 839, 840, 841, 842, 843, 844, 845, 846, 847, 848, 849, 850] rfl (by decide +kernel)
set_option maxRecDepth 20000 in
theorem gL_law_X11_writes : GoodIn wsL_law (wsV RL 35 RX11 yX11_writes wsX11_writes) := goodIn_app (goodIn_r _ [502, 503, 504, 5] rfl (by decide +kernel)) ggL_law_X11_writes
set_option maxRecDepth 20000 in
theorem ggL_law_X10_mends : GoodIn wsL_law wsX10_mends := goodIn_r _ [517, 27, 23, 35, 479, 480, 375, 374, 376, 377, 378, 2, 379, 380, 381, 382, 383, 173, 174, 175, 384, 385, 386, 34, 387, 97, 98, 99, 100, 101, 388, 389, 291, 390, 102, 103, 391, 392, 393, 22, 394, 81, 395, 396, 397, 398, 399, 400, 401, 402, 403, 404, 405, 406, 407, 408, 409, 410, 411, 412, 413, 414, 415, 416, 417, 418, 419, 420, 421, 422, 423, 424, 425, 426, 427, 428, 429, 430, 431, 432, 433, 434, 435, 436, 437, 438, 439, 481, 482, 483, 26, 484, 85, 86, 87, 485, 290, 292, 486, 487, 488, 489, 490, 491, 492, 493, 494, 495, 496, 497, 498, 499, 500, 501, 818, 819, 820, 821, 822, 823, 824, 825, 826, 827, 866, 867, 868, 869, 870, 871, 872, 860, 861, 862, 863] rfl (by decide +kernel)
set_option maxRecDepth 20000 in
theorem gL_law_X10_mends : GoodIn wsL_law (wsV RL 36 RX10 yX10_mends wsX10_mends) := goodIn_app (goodIn_r _ [514, 515, 516, 2] rfl (by decide +kernel)) ggL_law_X10_mends
set_option maxRecDepth 20000 in
theorem ggL_law_X11_mends : GoodIn wsL_law wsX11_mends := goodIn_r _ [521, 184, 164, 146, 445, 446, 5, 447, 185, 186, 187, 448, 449, 450, 451, 452, 453, 454, 455, 456, 457, 458, 459, 460, 461, 462, 463, 464, 465, 466, 467, 468, 469, 470, 471, 472, 473, 506, 507, 508, 509, 167, 147, 510, 511, 512, 513, 828, 829, 830, 831, 832, 833, 834, 835, 836, 837, 838, 839, 840, 841, 842, 843, 844, 845, 846, 847, 848, 849, 850] rfl (by decide +kernel)
set_option maxRecDepth 20000 in
theorem gL_law_X11_mends : GoodIn wsL_law (wsV RL 39 RX11 yX11_mends wsX11_mends) := goodIn_app (goodIn_r _ [518, 519, 520, 5] rfl (by decide +kernel)) ggL_law_X11_mends
set_option maxRecDepth 20000 in
theorem ggL_law_X10_votes : GoodIn wsL_law wsX10_votes := goodIn_r _ [525, 23, 35, 479, 480, 478, 27, 375, 374, 381, 382, 2, 383, 173, 174, 175, 526, 527, 528, 529, 530, 392, 393, 22, 394, 81, 531, 532, 533, 534, 384, 385, 386, 34, 387, 97, 98, 99, 100, 101, 388, 389, 291, 390, 102, 103, 391, 395, 396, 397, 398, 399, 400, 401, 402, 403, 404, 405, 406, 407, 408, 409, 410, 411, 412, 413, 414, 415, 416, 417, 418, 419, 420, 421, 422, 423, 424, 425, 426, 427, 428, 429, 430, 431, 432, 433, 434, 435, 535, 536, 537, 538, 539, 540, 541, 542, 543, 544, 545, 313, 314, 436, 437, 438, 439, 481, 482, 483, 26, 484, 85, 86, 87, 485, 290, 292, 486, 487, 488, 489, 490, 491, 492, 493, 546, 547, 548, 549, 550, 133, 134, 135, 551, 137, 138, 139, 494, 495, 496, 497, 498, 499, 500, 501, 818, 819, 820, 821, 822, 823, 824, 825, 826, 827, 866, 867, 868, 869, 870, 871, 872, 860, 861, 862, 863] rfl (by decide +kernel)
set_option maxRecDepth 20000 in
theorem gL_law_X10_votes : GoodIn wsL_law (wsV RL 40 RX10 yX10_votes wsX10_votes) := goodIn_app (goodIn_r _ [522, 523, 524, 2] rfl (by decide +kernel)) ggL_law_X10_votes
set_option maxRecDepth 20000 in
theorem ggL_law_X11_votes : GoodIn wsL_law wsX11_votes := goodIn_r _ [555, 184, 146, 445, 446, 5, 447, 185, 186, 187, 556, 557, 558, 559, 164, 448, 449, 450, 451, 456, 457, 458, 459, 460, 461, 462, 463, 464, 465, 364, 365, 366, 367, 368, 369, 452, 453, 454, 455, 466, 467, 468, 469, 470, 471, 472, 473, 506, 507, 508, 509, 167, 147, 510, 511, 512, 513, 828, 829, 830, 831, 832, 833, 834, 835, 836, 837, 838, 839, 840, 841, 842, 843, 844, 845, 846, 847, 848, 849, 850] rfl (by decide +kernel)
set_option maxRecDepth 20000 in
theorem gL_law_X11_votes : GoodIn wsL_law (wsV RL 44 RX11 yX11_votes wsX11_votes) := goodIn_app (goodIn_r _ [552, 553, 554, 5] rfl (by decide +kernel)) ggL_law_X11_votes
set_option maxRecDepth 20000 in
theorem ggL_law_X10_flips : GoodIn wsL_law wsX10_flips := goodIn_r _ [563, 27, 23, 526, 527, 528, 2, 529, 530, 392, 393, 22, 394, 81, 173, 174, 175, 481, 482, 483, 26, 484, 85, 86, 87, 485, 290, 291, 292, 486, 487, 488, 489, 490, 491, 492, 493, 564, 565, 566, 567, 818, 819, 820, 821, 822, 823, 824, 825, 826, 827, 860, 861, 862, 863] rfl (by decide +kernel)
set_option maxRecDepth 20000 in
theorem gL_law_X10_flips : GoodIn wsL_law (wsV RL 45 RX10 yX10_flips wsX10_flips) := goodIn_app (goodIn_r _ [560, 561, 562, 2] rfl (by decide +kernel)) ggL_law_X10_flips
set_option maxRecDepth 20000 in
theorem ggL_law_X11_flips : GoodIn wsL_law wsX11_flips := goodIn_r _ [571, 184, 146, 556, 557, 558, 5, 559, 164, 185, 186, 187, 506, 507, 508, 509, 167, 147, 828, 829, 830, 831, 832, 833, 834, 835, 836, 837, 838, 839, 840, 841, 842, 843, 844, 845, 846, 847, 848, 849, 850] rfl (by decide +kernel)
set_option maxRecDepth 20000 in
theorem gL_law_X11_flips : GoodIn wsL_law (wsV RL 48 RX11 yX11_flips wsX11_flips) := goodIn_app (goodIn_r _ [568, 569, 570, 5] rfl (by decide +kernel)) ggL_law_X11_flips
set_option maxRecDepth 20000 in
theorem ggL_law_X10_moves : GoodIn wsL_law wsX10_moves := goodIn_r _ [575, 23, 27, 526, 527, 528, 2, 529, 530, 392, 393, 22, 394, 81, 173, 174, 175, 381, 382, 383, 576, 400, 401, 402, 481, 482, 483, 26, 484, 85, 86, 87, 485, 290, 291, 292, 486, 487, 488, 489, 490, 491, 492, 493, 577, 578, 579, 580, 818, 819, 820, 821, 822, 823, 824, 825, 826, 827, 860, 861, 862, 863] rfl (by decide +kernel)
set_option maxRecDepth 20000 in
theorem gL_law_X10_moves : GoodIn wsL_law (wsV RL 49 RX10 yX10_moves wsX10_moves) := goodIn_app (goodIn_r _ [572, 573, 574, 2] rfl (by decide +kernel)) ggL_law_X10_moves
set_option maxRecDepth 20000 in
theorem ggL_law_X11_moves : GoodIn wsL_law wsX11_moves := goodIn_r _ [584, 184, 146, 556, 557, 558, 5, 559, 164, 185, 186, 187, 445, 446, 447, 506, 507, 508, 509, 167, 147, 828, 829, 830, 831, 832, 833, 834, 835, 836, 837, 838, 839, 840, 841, 842, 843, 844, 845, 846, 847, 848, 849, 850] rfl (by decide +kernel)
set_option maxRecDepth 20000 in
theorem gL_law_X11_moves : GoodIn wsL_law (wsV RL 52 RX11 yX11_moves wsX11_moves) := goodIn_app (goodIn_r _ [581, 582, 583, 5] rfl (by decide +kernel)) ggL_law_X11_moves
set_option maxRecDepth 20000 in
theorem ggL_law_X10_undo : GoodIn wsL_law wsX10_undo := goodIn_r _ [588, 27, 23, 200, 589, 590, 591, 26, 592, 87, 86, 85, 593, 594, 595, 22, 596, 81, 490, 491, 492, 493, 818, 819, 820, 821, 822, 823, 824, 825, 826, 827, 861, 862, 863, 860] rfl (by decide +kernel)
set_option maxRecDepth 20000 in
theorem gL_law_X10_undo : GoodIn wsL_law (wsV RL 53 RX10 yX10_undo wsX10_undo) := goodIn_app (goodIn_r _ [585, 586, 587, 2] rfl (by decide +kernel)) ggL_law_X10_undo
set_option maxRecDepth 20000 in
theorem ggL_law_X11_undo : GoodIn wsL_law wsX11_undo := goodIn_r _ [600, 184, 167, 146, 147, 828, 829, 830, 831, 832, 833, 834, 835, 836, 837, 838, 839, 840, 841, 842, 843, 844, 845, 846, 847, 848, 849, 850] rfl (by decide +kernel)
set_option maxRecDepth 20000 in
theorem gL_law_X11_undo : GoodIn wsL_law (wsV RL 56 RX11 yX11_undo wsX11_undo) := goodIn_app (goodIn_r _ [597, 598, 599, 5] rfl (by decide +kernel)) ggL_law_X11_undo
set_option maxRecDepth 20000 in
theorem ggL_law_X10_copy : GoodIn wsL_law wsX10_copy := goodIn_r _ [604, 23, 526, 527, 528, 2, 529, 530, 392, 393, 22, 394, 81, 173, 174, 175, 605, 396, 397, 398, 576, 400, 401, 402, 606, 408, 409, 410, 607, 433, 434, 435, 608, 404, 405, 406, 609, 610, 611, 612, 544, 417, 418, 419, 613, 499, 500, 501, 818, 819, 820, 821, 822, 823, 824, 825, 826, 827, 860] rfl (by decide +kernel)
set_option maxRecDepth 20000 in
theorem gL_law_X10_copy : GoodIn wsL_law (wsV RL 57 RX10 yX10_copy wsX10_copy) := goodIn_app (goodIn_r _ [601, 602, 603, 2] rfl (by decide +kernel)) ggL_law_X10_copy
set_option maxRecDepth 20000 in
theorem ggL_law_X11_copy : GoodIn wsL_law wsX11_copy := goodIn_r _ [617, 184, 146, 556, 557, 558, 5, 559, 164, 185, 186, 187, 618, 619, 620, 621, 463, 464, 465, 828, 829, 830, 831, 832, 833, 834, 835, 836, 837, 838, 839, 840, 841, 842, 843, 844, 845, 846, 847, 848, 849, 850] rfl (by decide +kernel)
set_option maxRecDepth 20000 in
theorem gL_law_X11_copy : GoodIn wsL_law (wsV RL 60 RX11 yX11_copy wsX11_copy) := goodIn_app (goodIn_r _ [614, 615, 616, 5] rfl (by decide +kernel)) ggL_law_X11_copy
set_option maxRecDepth 20000 in
theorem ggL_law_X10_group : GoodIn wsL_law wsX10_group := goodIn_r _ [625, 35, 23, 479, 480, 626, 375, 374, 380, 478, 381, 382, 2, 383, 173, 174, 175, 384, 385, 386, 34, 387, 97, 98, 99, 100, 101, 388, 389, 291, 390, 102, 103, 391, 392, 393, 22, 394, 81, 395, 396, 397, 398, 399, 400, 401, 402, 403, 404, 405, 406, 407, 408, 409, 410, 411, 412, 413, 414, 415, 416, 417, 418, 419, 420, 421, 422, 423, 424, 425, 426, 427, 428, 429, 430, 431, 432, 433, 434, 435, 627, 628, 629, 630, 631, 437, 438, 439, 531, 532, 533, 534, 818, 819, 820, 821, 822, 823, 824, 825, 826, 827, 866, 867, 868, 869, 870, 871, 872, 860] rfl (by decide +kernel)
set_option maxRecDepth 20000 in
theorem gL_law_X10_group : GoodIn wsL_law (wsV RL 61 RX10 yX10_group wsX10_group) := goodIn_app (goodIn_r _ [622, 623, 624, 2] rfl (by decide +kernel)) ggL_law_X10_group
set_option maxRecDepth 20000 in
theorem ggL_law_X11_group : GoodIn wsL_law wsX11_group := goodIn_r _ [635, 184, 146, 445, 446, 5, 447, 185, 186, 187, 448, 449, 450, 451, 164, 470, 471, 472, 473, 456, 457, 458, 459, 460, 461, 462, 463, 464, 465, 466, 467, 468, 469, 452, 453, 454, 455, 828, 829, 830, 831, 832, 833, 834, 835, 836, 837, 838, 839, 840, 841, 842, 843, 844, 845, 846, 847, 848, 849, 850] rfl (by decide +kernel)
set_option maxRecDepth 20000 in
theorem gL_law_X11_group : GoodIn wsL_law (wsV RL 64 RX11 yX11_group wsX11_group) := goodIn_app (goodIn_r _ [632, 633, 634, 5] rfl (by decide +kernel)) ggL_law_X11_group
set_option maxRecDepth 20000 in
theorem ggL_law_X10_asked : GoodIn wsL_law wsX10_asked := goodIn_r _ [639, 48, 818, 819, 820, 821, 822, 823, 824, 825, 826, 827] rfl (by decide +kernel)
set_option maxRecDepth 20000 in
theorem gL_law_X10_asked : GoodIn wsL_law (wsV RL 65 RX10 yX10_asked wsX10_asked) := goodIn_app (goodIn_r _ [636, 637, 638, 2] rfl (by decide +kernel)) ggL_law_X10_asked
set_option maxRecDepth 20000 in
theorem ggL_law_X11_asked : GoodIn wsL_law wsX11_asked := goodIn_r _ [643, 184, 444, 828, 829, 830, 831, 832, 833, 834, 835, 836, 837, 838, 839, 840, 841, 842, 843, 844, 845, 846, 847, 848, 849, 850] rfl (by decide +kernel)
set_option maxRecDepth 20000 in
theorem gL_law_X11_asked : GoodIn wsL_law (wsV RL 68 RX11 yX11_asked wsX11_asked) := goodIn_app (goodIn_r _ [640, 641, 642, 5] rfl (by decide +kernel)) ggL_law_X11_asked
set_option maxRecDepth 20000 in
theorem ggL_law_X10_chance : GoodIn wsL_law wsX10_chance := goodIn_r _ [647, 43, 23, 648, 649, 173, 174, 2, 175, 650, 651, 652, 42, 653, 113, 114, 530, 392, 393, 22, 394, 81, 609, 610, 611, 612, 544, 417, 418, 419, 654, 655, 656, 657, 658, 290, 291, 292, 659, 660, 661, 662, 663, 421, 422, 423, 664, 425, 426, 427, 665, 666, 667, 668, 115, 116, 669, 670, 671, 672, 673, 389, 390, 818, 819, 820, 821, 822, 823, 824, 825, 826, 827, 876, 877, 878, 879, 860] rfl (by decide +kernel)
set_option maxRecDepth 20000 in
theorem gL_law_X10_chance : GoodIn wsL_law (wsV RL 69 RX10 yX10_chance wsX10_chance) := goodIn_app (goodIn_r _ [644, 645, 646, 2] rfl (by decide +kernel)) ggL_law_X10_chance
set_option maxRecDepth 20000 in
theorem ggL_law_X11_chance : GoodIn wsL_law wsX11_chance := goodIn_r _ [677, 184, 164, 185, 186, 5, 187, 678, 679, 680, 681, 146, 618, 619, 620, 621, 463, 464, 465, 466, 467, 468, 469, 460, 461, 462, 682, 683, 684, 685, 686, 687, 688, 689, 690, 691, 692, 828, 829, 830, 831, 832, 833, 834, 835, 836, 837, 838, 839, 840, 841, 842, 843, 844, 845, 846, 847, 848, 849, 850] rfl (by decide +kernel)
set_option maxRecDepth 20000 in
theorem gL_law_X11_chance : GoodIn wsL_law (wsV RL 73 RX11 yX11_chance wsX11_chance) := goodIn_app (goodIn_r _ [674, 675, 676, 5] rfl (by decide +kernel)) ggL_law_X11_chance
set_option maxRecDepth 20000 in
theorem ggL_law_X10_least : GoodIn wsL_law wsX10_least := goodIn_r _ [696, 23, 173, 174, 2, 175, 609, 610, 611, 22, 612, 81, 659, 660, 661, 662, 663, 421, 422, 423, 664, 425, 426, 427, 697, 540, 541, 542, 698, 699, 700, 701, 702, 703, 704, 705, 412, 413, 414, 415, 392, 393, 394, 416, 417, 418, 419, 818, 819, 820, 821, 822, 823, 824, 825, 826, 827, 860] rfl (by decide +kernel)
set_option maxRecDepth 20000 in
theorem gL_law_X10_least : GoodIn wsL_law (wsV RL 74 RX10 yX10_least wsX10_least) := goodIn_app (goodIn_r _ [693, 694, 695, 2] rfl (by decide +kernel)) ggL_law_X10_least
set_option maxRecDepth 20000 in
theorem ggL_law_X11_least : GoodIn wsL_law wsX11_least := goodIn_r _ [709, 184, 164, 185, 186, 5, 187, 678, 679, 680, 681, 146, 618, 619, 620, 621, 463, 464, 465, 466, 467, 468, 469, 460, 461, 462, 710, 711, 712, 828, 829, 830, 831, 832, 833, 834, 835, 836, 837, 838, 839, 840, 841, 842, 843, 844, 845, 846, 847, 848, 849, 850] rfl (by decide +kernel)
set_option maxRecDepth 20000 in
theorem gL_law_X11_least : GoodIn wsL_law (wsV RL 77 RX11 yX11_least wsX11_least) := goodIn_app (goodIn_r _ [706, 707, 708, 5] rfl (by decide +kernel)) ggL_law_X11_least
set_option maxRecDepth 20000 in
theorem ggL_law_X10_best : GoodIn wsL_law wsX10_best := goodIn_r _ [716, 23, 47, 43, 717, 718, 719, 173, 174, 2, 175, 530, 392, 393, 22, 394, 81, 720, 721, 722, 46, 723, 120, 724, 725, 726, 727, 728, 729, 730, 651, 652, 42, 653, 113, 114, 731, 655, 656, 657, 658, 290, 291, 292, 732, 733, 734, 735, 736, 121, 122, 737, 670, 671, 672, 673, 389, 390, 818, 819, 820, 821, 822, 823, 824, 825, 826, 827, 880, 881, 882, 860, 876, 877, 878, 879] rfl (by decide +kernel)
set_option maxRecDepth 20000 in
theorem gL_law_X10_best : GoodIn wsL_law (wsV RL 78 RX10 yX10_best wsX10_best) := goodIn_app (goodIn_r _ [713, 714, 715, 2] rfl (by decide +kernel)) ggL_law_X10_best
set_option maxRecDepth 20000 in
theorem ggL_law_X11_best : GoodIn wsL_law wsX11_best := goodIn_r _ [741, 184, 164, 153, 152, 185, 186, 5, 187, 682, 683, 684, 685, 460, 461, 462, 742, 743, 744, 745, 154, 828, 829, 830, 831, 832, 833, 834, 835, 836, 837, 838, 839, 840, 841, 842, 843, 844, 845, 846, 847, 848, 849, 850] rfl (by decide +kernel)
set_option maxRecDepth 20000 in
theorem gL_law_X11_best : GoodIn wsL_law (wsV RL 81 RX11 yX11_best wsX11_best) := goodIn_app (goodIn_r _ [738, 739, 740, 5] rfl (by decide +kernel)) ggL_law_X11_best
set_option maxRecDepth 20000 in
theorem ggL_law_X10_sees : GoodIn wsL_law wsX10_sees := goodIn_r _ [749, 39, 201, 173, 174, 2, 175, 750, 751, 752, 38, 753, 109, 107, 108, 818, 819, 820, 821, 822, 823, 824, 825, 826, 827, 873, 874, 875] rfl (by decide +kernel)
set_option maxRecDepth 20000 in
theorem gL_law_X10_sees : GoodIn wsL_law (wsV RL 82 RX10 yX10_sees wsX10_sees) := goodIn_app (goodIn_r _ [746, 747, 748, 2] rfl (by decide +kernel)) ggL_law_X10_sees
set_option maxRecDepth 20000 in
theorem ggL_law_X11_sees : GoodIn wsL_law wsX11_sees := goodIn_r _ [757, 184, 166, 150, 151, 185, 186, 5, 187, 828, 829, 830, 831, 832, 833, 834, 835, 836, 837, 838, 839, 840, 841, 842, 843, 844, 845, 846, 847, 848, 849, 850] rfl (by decide +kernel)
set_option maxRecDepth 20000 in
theorem gL_law_X11_sees : GoodIn wsL_law (wsV RL 85 RX11 yX11_sees wsX11_sees) := goodIn_app (goodIn_r _ [754, 755, 756, 5] rfl (by decide +kernel)) ggL_law_X11_sees
set_option maxRecDepth 20000 in
theorem ggL_law_X10_forget : GoodIn wsL_law wsX10_forget := goodIn_r _ [761, 39, 201, 818, 819, 820, 821, 822, 823, 824, 825, 826, 827, 873, 874, 875] rfl (by decide +kernel)
set_option maxRecDepth 20000 in
theorem gL_law_X10_forget : GoodIn wsL_law (wsV RL 86 RX10 yX10_forget wsX10_forget) := goodIn_app (goodIn_r _ [758, 759, 760, 2] rfl (by decide +kernel)) ggL_law_X10_forget
set_option maxRecDepth 20000 in
theorem ggL_law_X11_forget : GoodIn wsL_law wsX11_forget := goodIn_r _ [765, 184, 166, 828, 829, 830, 831, 832, 833, 834, 835, 836, 837, 838, 839, 840, 841, 842, 843, 844, 845, 846, 847, 848, 849, 850] rfl (by decide +kernel)
set_option maxRecDepth 20000 in
theorem gL_law_X11_forget : GoodIn wsL_law (wsV RL 89 RX11 yX11_forget wsX11_forget) := goodIn_app (goodIn_r _ [762, 763, 764, 5] rfl (by decide +kernel)) ggL_law_X11_forget
set_option maxRecDepth 20000 in
theorem ggL_law_X10_unseen : GoodIn wsL_law wsX10_unseen := goodIn_r _ [769, 23, 39, 173, 174, 2, 175, 697, 540, 541, 22, 542, 81, 770, 771, 772, 38, 773, 109, 107, 108, 774, 610, 611, 612, 775, 776, 412, 413, 414, 415, 392, 393, 394, 416, 417, 418, 419, 777, 660, 661, 662, 663, 421, 422, 423, 664, 425, 426, 427, 818, 819, 820, 821, 822, 823, 824, 825, 826, 827, 860, 873, 874, 875] rfl (by decide +kernel)
set_option maxRecDepth 20000 in
theorem gL_law_X10_unseen : GoodIn wsL_law (wsV RL 90 RX10 yX10_unseen wsX10_unseen) := goodIn_app (goodIn_r _ [766, 767, 768, 2] rfl (by decide +kernel)) ggL_law_X10_unseen
set_option maxRecDepth 20000 in
theorem ggL_law_X11_unseen : GoodIn wsL_law wsX11_unseen := goodIn_r _ [781, 184, 164, 166, 150, 151, 185, 186, 5, 187, 678, 679, 680, 681, 146, 618, 619, 620, 621, 463, 464, 465, 466, 467, 468, 469, 460, 461, 462, 828, 829, 830, 831, 832, 833, 834, 835, 836, 837, 838, 839, 840, 841, 842, 843, 844, 845, 846, 847, 848, 849, 850] rfl (by decide +kernel)
set_option maxRecDepth 20000 in
theorem gL_law_X11_unseen : GoodIn wsL_law (wsV RL 93 RX11 yX11_unseen wsX11_unseen) := goodIn_app (goodIn_r _ [778, 779, 780, 5] rfl (by decide +kernel)) ggL_law_X11_unseen
set_option maxRecDepth 20000 in
theorem ggL_law_X10_keep : GoodIn wsL_law wsX10_keep := goodIn_r _ [785, 31, 23, 173, 174, 2, 175, 786, 787, 788, 30, 789, 91, 93, 790, 487, 488, 22, 489, 81, 490, 491, 492, 493, 530, 392, 393, 394, 818, 819, 820, 821, 822, 823, 824, 825, 826, 827, 864, 865, 860] rfl (by decide +kernel)
set_option maxRecDepth 20000 in
theorem gL_law_X10_keep : GoodIn wsL_law (wsV RL 94 RX10 yX10_keep wsX10_keep) := goodIn_app (goodIn_r _ [782, 783, 784, 2] rfl (by decide +kernel)) ggL_law_X10_keep
set_option maxRecDepth 20000 in
theorem ggL_law_X11_keep : GoodIn wsL_law wsX11_keep := goodIn_r _ [794, 184, 148, 146, 149, 164, 185, 186, 5, 187, 828, 829, 830, 831, 832, 833, 834, 835, 836, 837, 838, 839, 840, 841, 842, 843, 844, 845, 846, 847, 848, 849, 850] rfl (by decide +kernel)
set_option maxRecDepth 20000 in
theorem gL_law_X11_keep : GoodIn wsL_law (wsV RL 97 RX11 yX11_keep wsX11_keep) := goodIn_app (goodIn_r _ [791, 792, 793, 5] rfl (by decide +kernel)) ggL_law_X11_keep
set_option maxRecDepth 20000 in
theorem ggL_law_X10_back : GoodIn wsL_law wsX10_back := goodIn_r _ [798, 31, 23, 27, 200, 173, 174, 2, 175, 799, 800, 801, 30, 802, 93, 91, 803, 594, 595, 22, 596, 81, 490, 491, 492, 493, 530, 392, 393, 394, 818, 819, 820, 821, 822, 823, 824, 825, 826, 827, 861, 862, 863, 864, 865, 860] rfl (by decide +kernel)
set_option maxRecDepth 20000 in
theorem gL_law_X10_back : GoodIn wsL_law (wsV RL 98 RX10 yX10_back wsX10_back) := goodIn_app (goodIn_r _ [795, 796, 797, 2] rfl (by decide +kernel)) ggL_law_X10_back
set_option maxRecDepth 20000 in
theorem ggL_law_X11_back : GoodIn wsL_law wsX11_back := goodIn_r _ [807, 184, 149, 146, 148, 167, 164, 185, 186, 5, 187, 828, 829, 830, 831, 832, 833, 834, 835, 836, 837, 838, 839, 840, 841, 842, 843, 844, 845, 846, 847, 848, 849, 850] rfl (by decide +kernel)
set_option maxRecDepth 20000 in
theorem gL_law_X11_back : GoodIn wsL_law (wsV RL 101 RX11 yX11_back wsX11_back) := goodIn_app (goodIn_r _ [804, 805, 806, 5] rfl (by decide +kernel)) ggL_law_X11_back
set_option maxRecDepth 20000 in
theorem ggL_law_X10_count : GoodIn wsL_law wsX10_count := goodIn_r _ [811, 23, 39, 201, 15, 172, 27, 200, 530, 392, 393, 22, 394, 81, 531, 532, 533, 534, 609, 610, 611, 612, 812, 421, 422, 423, 813, 425, 426, 427, 535, 536, 537, 538, 539, 540, 541, 542, 543, 412, 413, 414, 415, 416, 417, 418, 419, 818, 819, 820, 821, 822, 823, 824, 825, 826, 827, 873, 874, 875, 851, 852, 861, 862, 863, 860] rfl (by decide +kernel)
set_option maxRecDepth 20000 in
theorem gL_law_X10_count : GoodIn wsL_law (wsV RL 102 RX10 yX10_count wsX10_count) := goodIn_app (goodIn_r _ [808, 809, 810, 2] rfl (by decide +kernel)) ggL_law_X10_count
set_option maxRecDepth 20000 in
theorem ggL_law_X11_count : GoodIn wsL_law wsX11_count := goodIn_r _ [817, 184, 164, 146, 166, 165, 167, 185, 186, 5, 187, 618, 619, 620, 621, 463, 464, 465, 364, 365, 366, 828, 829, 830, 831, 832, 833, 834, 835, 836, 837, 838, 839, 840, 841, 842, 843, 844, 845, 846, 847, 848, 849, 850] rfl (by decide +kernel)
set_option maxRecDepth 20000 in
theorem gL_law_X11_count : GoodIn wsL_law (wsV RL 105 RX11 yX11_count wsX11_count) := goodIn_app (goodIn_r _ [814, 815, 816, 5] rfl (by decide +kernel)) ggL_law_X11_count

