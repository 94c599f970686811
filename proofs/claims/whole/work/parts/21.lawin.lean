theorem mem_r {big : List Cond} (ws : List Cond) (ps : List Nat) (hp : ws = ps.filterMap (fun i => big[i]?)) : ∀ w ∈ ws, w ∈ big := by
  intro w hw
  rw [hp] at hw
  obtain ⟨i, -, hi⟩ := List.mem_filterMap.mp hw
  first | exact List.mem_of_getElem? hi | exact List.getElem?_mem hi
set_option maxRecDepth 20000 in
theorem in_wsL_law_r1 : ∀ w ∈ wsL_law_r1, w ∈ lw_tbl := mem_r _ [55, 56, 36, 742, 743, 47, 57, 58, 59, 60, 61, 62, 63, 64, 37, 284, 79, 80, 38, 285, 138, 139, 40, 286] rfl
set_option maxRecDepth 20000 in
theorem in_wsL_law_r2 : ∀ w ∈ wsL_law_r2, w ∈ lw_tbl := mem_r _ [148, 149, 41, 287, 165, 166, 42, 288, 179, 180, 43, 289, 214, 215, 44, 290, 231, 232, 45, 291, 253, 254, 46, 292] rfl
set_option maxRecDepth 20000 in
theorem in_wsL_law_r3 : ∀ w ∈ wsL_law_r3, w ∈ lw_tbl := mem_r _ [293, 66, 67, 68, 78, 69, 70, 81, 82, 83, 84, 111, 113, 115, 117, 119, 121, 85, 86, 39, 110, 87, 88, 89] rfl
set_option maxRecDepth 20000 in
theorem in_wsL_law_r4 : ∀ w ∈ wsL_law_r4, w ∈ lw_tbl := mem_r _ [90, 92, 94, 96, 98, 91, 141, 142, 143, 144, 151, 152, 153, 154, 155, 156, 168, 169, 170, 171, 178, 172, 182, 183] rfl
set_option maxRecDepth 20000 in
theorem in_wsL_law_r5 : ∀ w ∈ wsL_law_r5, w ∈ lw_tbl := mem_r _ [184, 185, 187, 189, 191, 193, 195, 197, 217, 218, 219, 220, 221, 222, 234, 235, 236, 237, 238, 240, 242, 256, 257, 258] rfl
set_option maxRecDepth 20000 in
theorem in_wsL_law_r6 : ∀ w ∈ wsL_law_r6, w ∈ lw_tbl := mem_r _ [259, 261, 263, 272, 273, 274, 275, 116, 118, 120, 114, 112, 276, 277, 278, 279, 280, 281, 282, 283, 744, 745, 746, 747] rfl
set_option maxRecDepth 20000 in
theorem in_wsL_law_r7 : ∀ w ∈ wsL_law_r7, w ∈ lw_tbl := mem_r _ [757, 766, 767, 768, 770, 771, 772, 773, 776, 777, 778, 748, 750, 11, 751, 765, 752, 754, 12, 755, 764, 758, 774, 769] rfl
set_option maxRecDepth 20000 in
theorem in_wsL_law_r8 : ∀ w ∈ wsL_law_r8, w ∈ lw_tbl := mem_r _ [315, 316, 317, 318, 71, 319, 320, 321, 322, 323, 324, 325, 826, 827, 828, 829, 756, 830, 831, 832, 326, 327, 328, 329] rfl
set_option maxRecDepth 20000 in
theorem in_wsL_law_r9 : ∀ w ∈ wsL_law_r9, w ∈ lw_tbl := mem_r _ [833, 834, 835, 836, 330, 331, 332, 333, 157, 223, 122, 334, 335, 336, 337, 93, 95, 338, 339, 340, 341, 342, 343, 344] rfl
set_option maxRecDepth 20000 in
theorem in_wsL_law_r10 : ∀ w ∈ wsL_law_r10, w ∈ lw_tbl := mem_r _ [345, 72, 346, 347, 348, 349, 351, 352, 353, 355, 357, 0, 358, 360, 362, 1, 363, 364, 365, 366, 48, 367, 1026, 368] rfl
set_option maxRecDepth 20000 in
theorem in_wsL_law_r11 : ∀ w ∈ wsL_law_r11, w ∈ lw_tbl := mem_r _ [369, 370, 371, 372, 1027, 374, 375, 376, 377, 378, 379, 380, 381, 382, 383, 49, 384, 385, 386, 387, 388, 390, 391, 50] rfl
set_option maxRecDepth 20000 in
theorem in_wsL_law_r12 : ∀ w ∈ wsL_law_r12, w ∈ lw_tbl := mem_r _ [392, 393, 394, 51, 395, 396, 397, 398, 399, 400, 401, 402, 403, 404, 405, 406, 408, 410, 415, 416, 417, 418, 420, 2] rfl
set_option maxRecDepth 20000 in
theorem in_wsL_law_r13 : ∀ w ∈ wsL_law_r13, w ∈ lw_tbl := mem_r _ [421, 422, 423, 52, 424, 425, 427, 3, 428, 97, 429, 431, 4, 432, 433, 434, 435, 437, 439, 5, 440, 441, 443, 6] rfl
set_option maxRecDepth 20000 in
theorem in_wsL_law_r14 : ∀ w ∈ wsL_law_r14, w ∈ lw_tbl := mem_r _ [444, 446, 447, 448, 449, 450, 451, 837, 838, 839, 840, 763, 759, 760, 841, 843, 13, 844, 761, 762, 845, 847, 14, 848] rfl
set_option maxRecDepth 20000 in
theorem in_wsL_law_r15 : ∀ w ∈ wsL_law_r15, w ∈ lw_tbl := mem_r _ [849, 851, 15, 852, 853, 855, 16, 856, 857, 859, 17, 860, 861, 863, 18, 864, 865, 867, 19, 868, 869, 871, 20, 872] rfl
set_option maxRecDepth 20000 in
theorem in_wsL_law_r16 : ∀ w ∈ wsL_law_r16, w ∈ lw_tbl := mem_r _ [873, 875, 21, 876, 877, 878, 879, 880, 881, 882, 453, 454, 455, 456, 194, 192, 457, 459, 7, 460, 196, 461, 462, 463] rfl
set_option maxRecDepth 20000 in
theorem in_wsL_law_r17 : ∀ w ∈ wsL_law_r17, w ∈ lw_tbl := mem_r _ [464, 465, 466, 467, 484, 485, 486, 468, 469, 470, 471, 472, 473, 474, 475, 476, 477, 478, 479, 480, 481, 482, 483, 487] rfl
set_option maxRecDepth 20000 in
theorem in_wsL_law_r18 : ∀ w ∈ wsL_law_r18, w ∈ lw_tbl := mem_r _ [488, 489, 490, 491, 492, 493, 494, 495, 496, 497, 498, 499, 500, 501, 502, 503, 504, 505, 506, 507, 508, 510, 8, 511] rfl
set_option maxRecDepth 20000 in
theorem in_wsL_law_r19 : ∀ w ∈ wsL_law_r19, w ∈ lw_tbl := mem_r _ [512, 513, 514, 515, 516, 517, 518, 519, 883, 884, 885, 886, 775, 887, 888, 889, 890, 892, 22, 893, 894, 896, 23, 897] rfl
set_option maxRecDepth 20000 in
theorem in_wsL_law_r20 : ∀ w ∈ wsL_law_r20, w ∈ lw_tbl := mem_r _ [898, 900, 24, 901, 902, 903, 904, 905, 906, 907, 908, 910, 25, 911, 912, 914, 26, 915, 520, 521, 522, 523, 198, 186] rfl
set_option maxRecDepth 20000 in
theorem in_wsL_law_r21 : ∀ w ∈ wsL_law_r21, w ∈ lw_tbl := mem_r _ [188, 524, 525, 526, 527, 535, 528, 529, 530, 531, 532, 534, 533, 53, 536, 537, 538, 539, 540, 541, 542, 543, 916, 917] rfl
set_option maxRecDepth 20000 in
theorem in_wsL_law_r22 : ∀ w ∈ wsL_law_r22, w ∈ lw_tbl := mem_r _ [918, 919, 920, 922, 27, 923, 924, 926, 28, 927, 544, 545, 546, 547, 928, 929, 930, 931, 548, 549, 550, 551, 552, 554] rfl
set_option maxRecDepth 20000 in
theorem in_wsL_law_r23 : ∀ w ∈ wsL_law_r23, w ∈ lw_tbl := mem_r _ [9, 555, 556, 557, 558, 559, 560, 561, 562, 563, 564, 565, 566, 567, 568, 569, 570, 571, 572, 573, 574, 575, 576, 577] rfl
set_option maxRecDepth 20000 in
theorem in_wsL_law_r24 : ∀ w ∈ wsL_law_r24, w ∈ lw_tbl := mem_r _ [932, 933, 934, 935, 936, 938, 29, 939, 578, 579, 580, 581, 582, 583, 584, 585, 940, 941, 942, 943, 586, 587, 588, 589] rfl
set_option maxRecDepth 20000 in
theorem in_wsL_law_r25 : ∀ w ∈ wsL_law_r25, w ∈ lw_tbl := mem_r _ [590, 591, 592, 593, 594, 944, 945, 946, 947, 595, 596, 597, 598, 599, 600, 601, 602, 603, 604, 605, 606, 948, 949, 950] rfl
set_option maxRecDepth 20000 in
theorem in_wsL_law_r26 : ∀ w ∈ wsL_law_r26, w ∈ lw_tbl := mem_r _ [951, 607, 608, 609, 610, 611, 612, 613, 614, 615, 616, 617, 618, 619, 952, 953, 954, 955, 956, 958, 30, 959, 620, 621] rfl
set_option maxRecDepth 20000 in
theorem in_wsL_law_r27 : ∀ w ∈ wsL_law_r27, w ∈ lw_tbl := mem_r _ [622, 623, 190, 624, 625, 626, 627, 628, 960, 961, 962, 963, 629, 630, 631, 632, 964, 965, 966, 967, 633, 634, 635, 636] rfl
set_option maxRecDepth 20000 in
theorem in_wsL_law_r28 : ∀ w ∈ wsL_law_r28, w ∈ lw_tbl := mem_r _ [241, 243, 637, 638, 639, 640, 641, 642, 643, 644, 645, 646, 647, 648, 649, 650, 651, 652, 653, 654, 655, 656, 657, 658] rfl
set_option maxRecDepth 20000 in
theorem in_wsL_law_r29 : ∀ w ∈ wsL_law_r29, w ∈ lw_tbl := mem_r _ [659, 660, 968, 969, 970, 971, 972, 974, 31, 975, 976, 978, 32, 979, 980, 982, 33, 983, 984, 985, 986, 661, 662, 663] rfl
set_option maxRecDepth 20000 in
theorem in_wsL_law_r30 : ∀ w ∈ wsL_law_r30, w ∈ lw_tbl := mem_r _ [664, 665, 666, 667, 54, 668, 669, 670, 671, 672, 987, 988, 989, 990, 991, 992, 993, 673, 674, 675, 676, 260, 262, 264] rfl
set_option maxRecDepth 20000 in
theorem in_wsL_law_r31 : ∀ w ∈ wsL_law_r31, w ∈ lw_tbl := mem_r _ [677, 678, 679, 680, 681, 682, 683, 684, 685, 686, 687, 688, 689, 691, 10, 692, 239, 693, 994, 995, 996, 997, 998, 1000] rfl
set_option maxRecDepth 20000 in
theorem in_wsL_law_r32 : ∀ w ∈ wsL_law_r32, w ∈ lw_tbl := mem_r _ [34, 1001, 694, 695, 696, 697, 698, 699, 700, 701, 1002, 1003, 1004, 1005, 702, 703, 704, 705, 1006, 1007, 1008, 1009, 706, 707] rfl
set_option maxRecDepth 20000 in
theorem in_wsL_law_r33 : ∀ w ∈ wsL_law_r33, w ∈ lw_tbl := mem_r _ [708, 709, 710, 711, 712, 713, 714, 715, 716, 717, 1010, 1011, 1012, 1013, 718, 719, 720, 721, 722, 723, 724, 725, 726, 1014] rfl
set_option maxRecDepth 20000 in
theorem in_wsL_law_r34 : ∀ w ∈ wsL_law_r34, w ∈ lw_tbl := mem_r _ [1015, 1016, 1017, 727, 728, 729, 730, 731, 732, 733, 734, 735, 1018, 1019, 1020, 1021, 736, 737, 738, 739, 740, 741, 1022, 1023] rfl
set_option maxRecDepth 20000 in
theorem in_wsL_law_r35 : ∀ w ∈ wsL_law_r35, w ∈ lw_tbl := mem_r _ [1024, 1025] rfl
set_option maxRecDepth 20000 in
theorem in_wsX100 : ∀ w ∈ wsX100, w ∈ lw_tbl := mem_r _ [294, 296, 298, 300, 302, 304, 306, 308, 310, 312] rfl
set_option maxRecDepth 20000 in
theorem in_wsX110 : ∀ w ∈ wsX110, w ∈ lw_tbl := mem_r _ [779, 781, 783, 785, 787, 789, 791, 793, 795, 797, 799, 801, 803, 805, 807, 809, 811, 813, 815, 817, 819, 821, 823] rfl
set_option maxRecDepth 20000 in
theorem in_wsX20 : ∀ w ∈ wsX20, w ∈ lw_tbl := mem_r _ [73, 75] rfl
set_option maxRecDepth 20000 in
theorem in_wsX80 : ∀ w ∈ wsX80, w ∈ lw_tbl := mem_r _ [123, 125, 127, 129, 131, 133, 135] rfl
set_option maxRecDepth 20000 in
theorem in_wsX70 : ∀ w ∈ wsX70, w ∈ lw_tbl := mem_r _ [145] rfl
set_option maxRecDepth 20000 in
theorem in_wsX40 : ∀ w ∈ wsX40, w ∈ lw_tbl := mem_r _ [158, 160, 162] rfl
set_option maxRecDepth 20000 in
theorem in_wsX10 : ∀ w ∈ wsX10, w ∈ lw_tbl := mem_r _ [173, 175] rfl
set_option maxRecDepth 20000 in
theorem in_wsX30 : ∀ w ∈ wsX30, w ∈ lw_tbl := mem_r _ [199, 201, 203, 205, 207, 209, 211] rfl
set_option maxRecDepth 20000 in
theorem in_wsX60 : ∀ w ∈ wsX60, w ∈ lw_tbl := mem_r _ [224, 226, 228] rfl
set_option maxRecDepth 20000 in
theorem in_wsX00 : ∀ w ∈ wsX00, w ∈ lw_tbl := mem_r _ [244, 246, 248, 250] rfl
set_option maxRecDepth 20000 in
theorem in_wsX50 : ∀ w ∈ wsX50, w ∈ lw_tbl := mem_r _ [265, 267, 269] rfl
set_option maxRecDepth 20000 in
theorem in_wsX90 : ∀ w ∈ wsX90, w ∈ lw_tbl := mem_r _ [99, 101, 103, 105, 107] rfl
theorem in_app {big a b : List Cond} (ha : ∀ w ∈ a, w ∈ big) (hb : ∀ w ∈ b, w ∈ big) : ∀ w ∈ a ++ b, w ∈ big := fun w h => (List.mem_append.mp h).elim (ha w) (hb w)
theorem wsL_law_in : ∀ w ∈ wsL_law, w ∈ lw_tbl := (in_app (in_app (in_app (in_app (in_app (in_app (in_app (in_app (in_app (in_app (in_app (in_app (in_app (in_app in_wsL_law_r1 (in_app in_wsL_law_r2 (in_app in_wsL_law_r3 (in_app in_wsL_law_r4 (in_app in_wsL_law_r5 (in_app in_wsL_law_r6 (in_app in_wsL_law_r7 (in_app in_wsL_law_r8 (in_app in_wsL_law_r9 (in_app in_wsL_law_r10 (in_app in_wsL_law_r11 (in_app in_wsL_law_r12 (in_app in_wsL_law_r13 (in_app in_wsL_law_r14 (in_app in_wsL_law_r15 (in_app in_wsL_law_r16 (in_app in_wsL_law_r17 (in_app in_wsL_law_r18 (in_app in_wsL_law_r19 (in_app in_wsL_law_r20 (in_app in_wsL_law_r21 (in_app in_wsL_law_r22 (in_app in_wsL_law_r23 (in_app in_wsL_law_r24 (in_app in_wsL_law_r25 (in_app in_wsL_law_r26 (in_app in_wsL_law_r27 (in_app in_wsL_law_r28 (in_app in_wsL_law_r29 (in_app in_wsL_law_r30 (in_app in_wsL_law_r31 (in_app in_wsL_law_r32 (in_app in_wsL_law_r33 (in_app in_wsL_law_r34 in_wsL_law_r35)))))))))))))))))))))))))))))))))) in_wsX100) in_wsX110) in_wsX20) in_wsX80) in_wsX70) in_wsX40) in_wsX10) in_wsX30) in_wsX60) in_wsX00) in_wsX50) in_wsX90) (fun _ h => absurd h List.not_mem_nil))
theorem inX0 : ∀ w ∈ wsX00, w ∈ lw_tbl := in_wsX00
theorem inX1 : ∀ w ∈ wsX10, w ∈ lw_tbl := in_wsX10
theorem inX2 : ∀ w ∈ wsX20, w ∈ lw_tbl := in_wsX20
theorem inX3 : ∀ w ∈ wsX30, w ∈ lw_tbl := in_wsX30
theorem inX4 : ∀ w ∈ wsX40, w ∈ lw_tbl := in_wsX40
theorem inX5 : ∀ w ∈ wsX50, w ∈ lw_tbl := in_wsX50
theorem inX6 : ∀ w ∈ wsX60, w ∈ lw_tbl := in_wsX60
theorem inX7 : ∀ w ∈ wsX70, w ∈ lw_tbl := in_wsX70
theorem inX8 : ∀ w ∈ wsX80, w ∈ lw_tbl := in_wsX80
theorem inX9 : ∀ w ∈ wsX90, w ∈ lw_tbl := in_wsX90
theorem inX10 : ∀ w ∈ wsX100, w ∈ lw_tbl := in_wsX100
theorem inX11 : ∀ w ∈ wsX110, w ∈ lw_tbl := in_wsX110
