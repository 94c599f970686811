theorem mem_r {big : List Cond} (ws : List Cond) (ps : List Nat) (hp : ws = ps.filterMap (fun i => big[i]?)) : ∀ w ∈ ws, w ∈ big := by
  intro w hw
  rw [hp] at hw
  obtain ⟨i, -, hi⟩ := List.mem_filterMap.mp hw
  first | exact List.mem_of_getElem? hi | exact List.getElem?_mem hi
set_option maxRecDepth 20000 in
theorem in_wsL_law_r1 : ∀ w ∈ wsL_law_r1, w ∈ lw_tbl := mem_r _ [55, 56, 36, 741, 742, 47, 57, 58, 59, 60, 61, 62, 63, 64, 37, 284, 79, 80, 38, 285, 138, 139, 40, 286] rfl
set_option maxRecDepth 20000 in
theorem in_wsL_law_r2 : ∀ w ∈ wsL_law_r2, w ∈ lw_tbl := mem_r _ [148, 149, 41, 287, 165, 166, 42, 288, 179, 180, 43, 289, 214, 215, 44, 290, 231, 232, 45, 291, 253, 254, 46, 292] rfl
set_option maxRecDepth 20000 in
theorem in_wsL_law_r3 : ∀ w ∈ wsL_law_r3, w ∈ lw_tbl := mem_r _ [293, 66, 67, 68, 78, 69, 70, 81, 82, 83, 84, 111, 113, 115, 117, 119, 121, 85, 86, 39, 110, 87, 88, 89] rfl
set_option maxRecDepth 20000 in
theorem in_wsL_law_r4 : ∀ w ∈ wsL_law_r4, w ∈ lw_tbl := mem_r _ [90, 92, 94, 96, 98, 91, 141, 142, 143, 144, 151, 152, 153, 154, 155, 156, 168, 169, 170, 171, 178, 172, 182, 183] rfl
set_option maxRecDepth 20000 in
theorem in_wsL_law_r5 : ∀ w ∈ wsL_law_r5, w ∈ lw_tbl := mem_r _ [184, 185, 187, 189, 191, 193, 195, 197, 217, 218, 219, 220, 221, 222, 234, 235, 236, 237, 238, 240, 242, 256, 257, 258] rfl
set_option maxRecDepth 20000 in
theorem in_wsL_law_r6 : ∀ w ∈ wsL_law_r6, w ∈ lw_tbl := mem_r _ [259, 261, 263, 272, 273, 274, 275, 116, 118, 120, 114, 112, 276, 277, 278, 279, 280, 281, 282, 283, 743, 744, 745, 746] rfl
set_option maxRecDepth 20000 in
theorem in_wsL_law_r7 : ∀ w ∈ wsL_law_r7, w ∈ lw_tbl := mem_r _ [756, 765, 766, 767, 769, 770, 771, 772, 775, 776, 777, 747, 749, 11, 750, 764, 751, 753, 12, 754, 763, 757, 773, 768] rfl
set_option maxRecDepth 20000 in
theorem in_wsL_law_r8 : ∀ w ∈ wsL_law_r8, w ∈ lw_tbl := mem_r _ [315, 316, 317, 318, 71, 319, 320, 321, 322, 323, 324, 325, 825, 826, 827, 828, 755, 829, 830, 831, 326, 327, 328, 329] rfl
set_option maxRecDepth 20000 in
theorem in_wsL_law_r9 : ∀ w ∈ wsL_law_r9, w ∈ lw_tbl := mem_r _ [832, 833, 834, 835, 330, 331, 332, 333, 157, 223, 122, 334, 335, 336, 337, 93, 95, 338, 339, 340, 341, 342, 343, 344] rfl
set_option maxRecDepth 20000 in
theorem in_wsL_law_r10 : ∀ w ∈ wsL_law_r10, w ∈ lw_tbl := mem_r _ [345, 72, 346, 347, 348, 349, 350, 351, 352, 354, 356, 0, 357, 359, 361, 1, 362, 363, 364, 365, 48, 366, 1025, 367] rfl
set_option maxRecDepth 20000 in
theorem in_wsL_law_r11 : ∀ w ∈ wsL_law_r11, w ∈ lw_tbl := mem_r _ [368, 369, 370, 371, 1026, 373, 374, 375, 376, 377, 378, 379, 380, 381, 382, 49, 383, 384, 385, 386, 387, 389, 390, 50] rfl
set_option maxRecDepth 20000 in
theorem in_wsL_law_r12 : ∀ w ∈ wsL_law_r12, w ∈ lw_tbl := mem_r _ [391, 392, 393, 51, 394, 395, 396, 397, 398, 399, 400, 401, 402, 403, 404, 405, 407, 409, 414, 415, 416, 417, 419, 2] rfl
set_option maxRecDepth 20000 in
theorem in_wsL_law_r13 : ∀ w ∈ wsL_law_r13, w ∈ lw_tbl := mem_r _ [420, 421, 422, 52, 423, 424, 426, 3, 427, 97, 428, 430, 4, 431, 432, 433, 434, 436, 438, 5, 439, 440, 442, 6] rfl
set_option maxRecDepth 20000 in
theorem in_wsL_law_r14 : ∀ w ∈ wsL_law_r14, w ∈ lw_tbl := mem_r _ [443, 445, 446, 447, 448, 449, 450, 836, 837, 838, 839, 762, 758, 759, 840, 842, 13, 843, 760, 761, 844, 846, 14, 847] rfl
set_option maxRecDepth 20000 in
theorem in_wsL_law_r15 : ∀ w ∈ wsL_law_r15, w ∈ lw_tbl := mem_r _ [848, 850, 15, 851, 852, 854, 16, 855, 856, 858, 17, 859, 860, 862, 18, 863, 864, 866, 19, 867, 868, 870, 20, 871] rfl
set_option maxRecDepth 20000 in
theorem in_wsL_law_r16 : ∀ w ∈ wsL_law_r16, w ∈ lw_tbl := mem_r _ [872, 874, 21, 875, 876, 877, 878, 879, 880, 881, 452, 453, 454, 455, 194, 192, 456, 458, 7, 459, 196, 460, 461, 462] rfl
set_option maxRecDepth 20000 in
theorem in_wsL_law_r17 : ∀ w ∈ wsL_law_r17, w ∈ lw_tbl := mem_r _ [463, 464, 465, 466, 483, 484, 485, 467, 468, 469, 470, 471, 472, 473, 474, 475, 476, 477, 478, 479, 480, 481, 482, 486] rfl
set_option maxRecDepth 20000 in
theorem in_wsL_law_r18 : ∀ w ∈ wsL_law_r18, w ∈ lw_tbl := mem_r _ [487, 488, 489, 490, 491, 492, 493, 494, 495, 496, 497, 498, 499, 500, 501, 502, 503, 504, 505, 506, 507, 509, 8, 510] rfl
set_option maxRecDepth 20000 in
theorem in_wsL_law_r19 : ∀ w ∈ wsL_law_r19, w ∈ lw_tbl := mem_r _ [511, 512, 513, 514, 515, 516, 517, 518, 882, 883, 884, 885, 774, 886, 887, 888, 889, 891, 22, 892, 893, 895, 23, 896] rfl
set_option maxRecDepth 20000 in
theorem in_wsL_law_r20 : ∀ w ∈ wsL_law_r20, w ∈ lw_tbl := mem_r _ [897, 899, 24, 900, 901, 902, 903, 904, 905, 906, 907, 909, 25, 910, 911, 913, 26, 914, 519, 520, 521, 522, 198, 186] rfl
set_option maxRecDepth 20000 in
theorem in_wsL_law_r21 : ∀ w ∈ wsL_law_r21, w ∈ lw_tbl := mem_r _ [188, 523, 524, 525, 526, 534, 527, 528, 529, 530, 531, 533, 532, 53, 535, 536, 537, 538, 539, 540, 541, 542, 915, 916] rfl
set_option maxRecDepth 20000 in
theorem in_wsL_law_r22 : ∀ w ∈ wsL_law_r22, w ∈ lw_tbl := mem_r _ [917, 918, 919, 921, 27, 922, 923, 925, 28, 926, 543, 544, 545, 546, 927, 928, 929, 930, 547, 548, 549, 550, 551, 553] rfl
set_option maxRecDepth 20000 in
theorem in_wsL_law_r23 : ∀ w ∈ wsL_law_r23, w ∈ lw_tbl := mem_r _ [9, 554, 555, 556, 557, 558, 559, 560, 561, 562, 563, 564, 565, 566, 567, 568, 569, 570, 571, 572, 573, 574, 575, 576] rfl
set_option maxRecDepth 20000 in
theorem in_wsL_law_r24 : ∀ w ∈ wsL_law_r24, w ∈ lw_tbl := mem_r _ [931, 932, 933, 934, 935, 937, 29, 938, 577, 578, 579, 580, 581, 582, 583, 584, 939, 940, 941, 942, 585, 586, 587, 588] rfl
set_option maxRecDepth 20000 in
theorem in_wsL_law_r25 : ∀ w ∈ wsL_law_r25, w ∈ lw_tbl := mem_r _ [589, 590, 591, 592, 593, 943, 944, 945, 946, 594, 595, 596, 597, 598, 599, 600, 601, 602, 603, 604, 605, 947, 948, 949] rfl
set_option maxRecDepth 20000 in
theorem in_wsL_law_r26 : ∀ w ∈ wsL_law_r26, w ∈ lw_tbl := mem_r _ [950, 606, 607, 608, 609, 610, 611, 612, 613, 614, 615, 616, 617, 618, 951, 952, 953, 954, 955, 957, 30, 958, 619, 620] rfl
set_option maxRecDepth 20000 in
theorem in_wsL_law_r27 : ∀ w ∈ wsL_law_r27, w ∈ lw_tbl := mem_r _ [621, 622, 190, 623, 624, 625, 626, 627, 959, 960, 961, 962, 628, 629, 630, 631, 963, 964, 965, 966, 632, 633, 634, 635] rfl
set_option maxRecDepth 20000 in
theorem in_wsL_law_r28 : ∀ w ∈ wsL_law_r28, w ∈ lw_tbl := mem_r _ [241, 243, 636, 637, 638, 639, 640, 641, 642, 643, 644, 645, 646, 647, 648, 649, 650, 651, 652, 653, 654, 655, 656, 657] rfl
set_option maxRecDepth 20000 in
theorem in_wsL_law_r29 : ∀ w ∈ wsL_law_r29, w ∈ lw_tbl := mem_r _ [658, 659, 967, 968, 969, 970, 971, 973, 31, 974, 975, 977, 32, 978, 979, 981, 33, 982, 983, 984, 985, 660, 661, 662] rfl
set_option maxRecDepth 20000 in
theorem in_wsL_law_r30 : ∀ w ∈ wsL_law_r30, w ∈ lw_tbl := mem_r _ [663, 664, 665, 666, 54, 667, 668, 669, 670, 671, 986, 987, 988, 989, 990, 991, 992, 672, 673, 674, 675, 260, 262, 264] rfl
set_option maxRecDepth 20000 in
theorem in_wsL_law_r31 : ∀ w ∈ wsL_law_r31, w ∈ lw_tbl := mem_r _ [676, 677, 678, 679, 680, 681, 682, 683, 684, 685, 686, 687, 688, 690, 10, 691, 239, 692, 993, 994, 995, 996, 997, 999] rfl
set_option maxRecDepth 20000 in
theorem in_wsL_law_r32 : ∀ w ∈ wsL_law_r32, w ∈ lw_tbl := mem_r _ [34, 1000, 693, 694, 695, 696, 697, 698, 699, 700, 1001, 1002, 1003, 1004, 701, 702, 703, 704, 1005, 1006, 1007, 1008, 705, 706] rfl
set_option maxRecDepth 20000 in
theorem in_wsL_law_r33 : ∀ w ∈ wsL_law_r33, w ∈ lw_tbl := mem_r _ [707, 708, 709, 710, 711, 712, 713, 714, 715, 716, 1009, 1010, 1011, 1012, 717, 718, 719, 720, 721, 722, 723, 724, 725, 1013] rfl
set_option maxRecDepth 20000 in
theorem in_wsL_law_r34 : ∀ w ∈ wsL_law_r34, w ∈ lw_tbl := mem_r _ [1014, 1015, 1016, 726, 727, 728, 729, 730, 731, 732, 733, 734, 1017, 1018, 1019, 1020, 735, 736, 737, 738, 739, 740, 1021, 1022] rfl
set_option maxRecDepth 20000 in
theorem in_wsL_law_r35 : ∀ w ∈ wsL_law_r35, w ∈ lw_tbl := mem_r _ [1023, 1024] rfl
set_option maxRecDepth 20000 in
theorem in_wsX100 : ∀ w ∈ wsX100, w ∈ lw_tbl := mem_r _ [294, 296, 298, 300, 302, 304, 306, 308, 310, 312] rfl
set_option maxRecDepth 20000 in
theorem in_wsX110 : ∀ w ∈ wsX110, w ∈ lw_tbl := mem_r _ [778, 780, 782, 784, 786, 788, 790, 792, 794, 796, 798, 800, 802, 804, 806, 808, 810, 812, 814, 816, 818, 820, 822] rfl
set_option maxRecDepth 20000 in
theorem in_wsX20 : ∀ w ∈ wsX20, w ∈ lw_tbl := mem_r _ [73, 75] rfl
set_option maxRecDepth 20000 in
theorem in_wsX80 : ∀ w ∈ wsX80, w ∈ lw_tbl := mem_r _ [123, 125, 127, 129, 131, 133, 135] rfl
set_option maxRecDepth 20000 in
theorem in_wsX70 : ∀ w ∈ wsX70, w ∈ lw_tbl := mem_r _ [145] rfl
set_option maxRecDepth 20000 in
theorem in_wsX40 : ∀ w ∈ wsX40, w ∈ lw_tbl := mem_r _ [158, 160, 162] rfl
set_option maxRecDepth 20000 in
theorem in_wsX10 : ∀ w ∈ wsX10, w ∈ lw_tbl := mem_r _ [173, 175] rfl
set_option maxRecDepth 20000 in
theorem in_wsX30 : ∀ w ∈ wsX30, w ∈ lw_tbl := mem_r _ [199, 201, 203, 205, 207, 209, 211] rfl
set_option maxRecDepth 20000 in
theorem in_wsX60 : ∀ w ∈ wsX60, w ∈ lw_tbl := mem_r _ [224, 226, 228] rfl
set_option maxRecDepth 20000 in
theorem in_wsX00 : ∀ w ∈ wsX00, w ∈ lw_tbl := mem_r _ [244, 246, 248, 250] rfl
set_option maxRecDepth 20000 in
theorem in_wsX50 : ∀ w ∈ wsX50, w ∈ lw_tbl := mem_r _ [265, 267, 269] rfl
set_option maxRecDepth 20000 in
theorem in_wsX90 : ∀ w ∈ wsX90, w ∈ lw_tbl := mem_r _ [99, 101, 103, 105, 107] rfl
theorem in_app {big a b : List Cond} (ha : ∀ w ∈ a, w ∈ big) (hb : ∀ w ∈ b, w ∈ big) : ∀ w ∈ a ++ b, w ∈ big := fun w h => (List.mem_append.mp h).elim (ha w) (hb w)
theorem wsL_law_in : ∀ w ∈ wsL_law, w ∈ lw_tbl := (in_app (in_app (in_app (in_app (in_app (in_app (in_app (in_app (in_app (in_app (in_app (in_app (in_app (in_app in_wsL_law_r1 (in_app in_wsL_law_r2 (in_app in_wsL_law_r3 (in_app in_wsL_law_r4 (in_app in_wsL_law_r5 (in_app in_wsL_law_r6 (in_app in_wsL_law_r7 (in_app in_wsL_law_r8 (in_app in_wsL_law_r9 (in_app in_wsL_law_r10 (in_app in_wsL_law_r11 (in_app in_wsL_law_r12 (in_app in_wsL_law_r13 (in_app in_wsL_law_r14 (in_app in_wsL_law_r15 (in_app in_wsL_law_r16 (in_app in_wsL_law_r17 (in_app in_wsL_law_r18 (in_app in_wsL_law_r19 (in_app in_wsL_law_r20 (in_app in_wsL_law_r21 (in_app in_wsL_law_r22 (in_app in_wsL_law_r23 (in_app in_wsL_law_r24 (in_app in_wsL_law_r25 (in_app in_wsL_law_r26 (in_app in_wsL_law_r27 (in_app in_wsL_law_r28 (in_app in_wsL_law_r29 (in_app in_wsL_law_r30 (in_app in_wsL_law_r31 (in_app in_wsL_law_r32 (in_app in_wsL_law_r33 (in_app in_wsL_law_r34 in_wsL_law_r35)))))))))))))))))))))))))))))))))) in_wsX100) in_wsX110) in_wsX20) in_wsX80) in_wsX70) in_wsX40) in_wsX10) in_wsX30) in_wsX60) in_wsX00) in_wsX50) in_wsX90) (fun _ h => absurd h List.not_mem_nil))
theorem inX0 : ∀ w ∈ wsX00, w ∈ lw_tbl := in_wsX00
theorem inX1 : ∀ w ∈ wsX10, w ∈ lw_tbl := in_wsX10
theorem inX2 : ∀ w ∈ wsX20, w ∈ lw_tbl := in_wsX20
theorem inX3 : ∀ w ∈ wsX30, w ∈ lw_tbl := in_wsX30
theorem inX4 : ∀ w ∈ wsX40, w ∈ lw_tbl := in_wsX40
theorem inX5 : ∀ w ∈ wsX50, w ∈ lw_tbl := in_wsX50
theorem inX6 : ∀ w ∈ wsX60, w ∈ lw_tbl := in_wsX60
theorem inX7 : ∀ w ∈ wsX70, w ∈ lw_tbl := in_wsX70
theorem inX8 : ∀ w ∈ wsX80, w ∈ lw_tbl := in_wsX80
theorem inX9 : ∀ w ∈ wsX90, w ∈ lw_tbl := in_wsX90
theorem inX10 : ∀ w ∈ wsX100, w ∈ lw_tbl := in_wsX100
theorem inX11 : ∀ w ∈ wsX110, w ∈ lw_tbl := in_wsX110
