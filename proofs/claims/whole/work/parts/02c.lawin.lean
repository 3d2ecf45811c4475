theorem lw_at {big ws : List Cond} (ps : List Nat) (h : ps.map (fun i => big[i]?) = ws.map some) : ∀ w ∈ ws, w ∈ big := by
  intro w hw
  have h1 : some w ∈ ws.map some := List.mem_map_of_mem hw
  rw [← h] at h1
  obtain ⟨i, -, hi⟩ := List.mem_map.mp h1
  exact List.mem_of_getElem? hi
set_option maxRecDepth 20000 in
theorem lwi_wsL_law0_r1 : ∀ w ∈ wsL_law0_r1, w ∈ lw_tbl := lw_at [64, 65, 49, 744, 745, 54, 94, 1090, 66, 67, 68, 69, 70, 71, 72, 73, 50, 208, 95, 96, 51, 209, 163, 164] rfl
set_option maxRecDepth 20000 in
theorem lwi_wsL_law0_r2 : ∀ w ∈ wsL_law0_r2, w ∈ lw_tbl := lw_at [52, 210, 187, 188, 53, 211, 93, 212, 213, 75, 76, 77, 78, 79, 80, 98, 99, 100, 101, 162, 106, 109, 110, 111] rfl
set_option maxRecDepth 20000 in
theorem lwi_wsL_law0_r3 : ∀ w ∈ wsL_law0_r3, w ∈ lw_tbl := lw_at [115, 118, 121, 122, 123, 124, 125, 128, 166, 167, 168, 169, 171, 190, 191, 192, 193, 746, 747, 748, 749, 752, 753, 755] rfl
set_option maxRecDepth 20000 in
theorem lwi_wsL_law0_r4 : ∀ w ∈ wsL_law0_r4, w ∈ lw_tbl := lw_at [756, 757, 758, 759, 760, 762, 763, 764, 765, 766, 767, 768, 769, 770, 771, 772, 773, 774, 775, 780, 781, 782, 784, 786] rfl
set_option maxRecDepth 20000 in
theorem lwi_wsL_law0_r5 : ∀ w ∈ wsL_law0_r5, w ∈ lw_tbl := lw_at [787, 788, 420, 421, 48, 422, 423, 424, 425, 426, 427, 429, 59, 428, 346, 55, 347, 498, 331, 332, 269, 270, 271, 499] rfl
set_option maxRecDepth 20000 in
theorem lwi_wsL_law0_r6 : ∀ w ∈ wsL_law0_r6, w ∈ lw_tbl := lw_at [273, 274, 275, 104, 276, 277, 278, 500, 501, 502, 503, 81, 504, 505, 506, 507, 508, 509, 510, 511, 872, 873, 874, 875] rfl
set_option maxRecDepth 20000 in
theorem lwi_wsL_law0_r7 : ∀ w ∈ wsL_law0_r7, w ∈ lw_tbl := lw_at [750, 761, 751, 754, 876, 877, 878, 879, 880, 881, 882, 883, 885, 21, 886, 868, 869, 870, 871, 512, 513, 514, 515, 516] rfl
set_option maxRecDepth 20000 in
theorem lwi_wsL_law0_r8 : ∀ w ∈ wsL_law0_r8, w ∈ lw_tbl := lw_at [517, 518, 519, 520, 523, 60, 543, 61, 521, 284, 285, 539, 540, 541, 542, 887, 888, 889, 890, 891, 892, 893, 894, 896] rfl
set_option maxRecDepth 20000 in
theorem lwi_wsL_law0_r9 : ∀ w ∈ wsL_law0_r9, w ∈ lw_tbl := lw_at [22, 897, 559, 560, 561, 562, 563, 564, 565, 566, 567, 568, 571, 572, 573, 291, 292, 293, 898, 899, 900, 901, 902, 904] rfl
set_option maxRecDepth 20000 in
theorem lwi_wsL_law0_r10 : ∀ w ∈ wsL_law0_r10, w ∈ lw_tbl := lw_at [23, 905, 906, 907, 908, 574, 575, 576, 577, 578, 579, 580, 582, 299, 300, 301, 583, 303, 304, 305, 112, 584, 586, 17] rfl
set_option maxRecDepth 20000 in
theorem lwi_wsL_law0_r11 : ∀ w ∈ wsL_law0_r11, w ∈ lw_tbl := lw_at [587, 909, 910, 911, 912, 588, 589, 590, 591, 592, 593, 594, 596, 311, 312, 313, 598, 315, 316, 317, 318, 320, 7, 321] rfl
set_option maxRecDepth 20000 in
theorem lwi_wsL_law0_r12 : ∀ w ∈ wsL_law0_r12, w ∈ lw_tbl := lw_at [322, 323, 62, 324, 325, 326, 327, 328, 329, 330, 333, 913, 914, 915, 916, 917, 918, 919, 920, 922, 24, 923, 924, 926] rfl
set_option maxRecDepth 20000 in
theorem lwi_wsL_law0_r13 : ∀ w ∈ wsL_law0_r13, w ∈ lw_tbl := lw_at [25, 927, 928, 930, 26, 931, 783, 932, 934, 27, 935, 936, 937, 939, 28, 940, 945, 941, 943, 29, 944, 599, 600, 601] rfl
set_option maxRecDepth 20000 in
theorem lwi_wsL_law0_r14 : ∀ w ∈ wsL_law0_r14, w ∈ lw_tbl := lw_at [602, 603, 604, 605, 606, 339, 340, 609, 611, 18, 612, 613, 614, 615, 349, 350, 351, 352, 616, 617, 357, 358, 359, 946] rfl
set_option maxRecDepth 20000 in
theorem lwi_wsL_law0_r15 : ∀ w ∈ wsL_law0_r15, w ∈ lw_tbl := lw_at [947, 948, 949, 950, 952, 30, 953, 954, 956, 31, 957, 618, 619, 620, 621, 622, 623, 624, 625, 365, 366, 367, 627, 369] rfl
set_option maxRecDepth 20000 in
theorem lwi_wsL_law0_r16 : ∀ w ∈ wsL_law0_r16, w ∈ lw_tbl := lw_at [370, 371, 372, 373, 374, 958, 959, 960, 961, 962, 963, 964, 965, 966, 967, 227, 228, 229, 230, 968, 969, 970, 971, 628] rfl
set_option maxRecDepth 20000 in
theorem lwi_wsL_law0_r17 : ∀ w ∈ wsL_law0_r17, w ∈ lw_tbl := lw_at [629, 630, 631, 632, 633, 634, 972, 973, 974, 975, 231, 232, 233, 234, 976, 977, 978, 979, 636, 637, 638, 639, 640, 641] rfl
set_option maxRecDepth 20000 in
theorem lwi_wsL_law0_r18 : ∀ w ∈ wsL_law0_r18, w ∈ lw_tbl := lw_at [642, 643, 648, 63, 644, 645, 646, 647, 664, 248, 249, 250, 665, 259, 260, 261, 980, 981, 982, 983, 984, 986, 32, 987] rfl
set_option maxRecDepth 20000 in
theorem lwi_wsL_law0_r19 : ∀ w ∈ wsL_law0_r19, w ∈ lw_tbl := lw_at [666, 667, 668, 669, 670, 671, 672, 988, 989, 990, 991, 235, 236, 237, 238, 239, 240, 241, 242, 172, 173, 174, 243, 245] rfl
set_option maxRecDepth 20000 in
theorem lwi_wsL_law0_r20 : ∀ w ∈ wsL_law0_r20, w ∈ lw_tbl := lw_at [0, 246, 247, 251, 253, 1, 254, 255, 256, 257, 258, 262, 264, 2, 265, 266, 267, 268, 272, 279, 281, 3, 282, 286] rfl
set_option maxRecDepth 20000 in
theorem lwi_wsL_law0_r21 : ∀ w ∈ wsL_law0_r21, w ∈ lw_tbl := lw_at [288, 4, 289, 290, 294, 296, 5, 297, 298, 302, 306, 308, 6, 309, 310, 314, 334, 336, 8, 337, 175, 341, 343, 9] rfl
set_option maxRecDepth 20000 in
theorem lwi_wsL_law0_r22 : ∀ w ∈ wsL_law0_r22, w ∈ lw_tbl := lw_at [344, 345, 348, 353, 354, 355, 356, 360, 362, 10, 363, 364, 368, 992, 993, 994, 995, 776, 779, 996, 998, 33, 999, 1000] rfl
set_option maxRecDepth 20000 in
theorem lwi_wsL_law0_r23 : ∀ w ∈ wsL_law0_r23, w ∈ lw_tbl := lw_at [1002, 34, 1003, 1004, 1006, 35, 1007, 1008, 1009, 1010, 1011, 1013, 36, 1014, 1015, 1017, 37, 1018, 1019, 1021, 38, 1022, 1023, 1025] rfl
set_option maxRecDepth 20000 in
theorem lwi_wsL_law0_r24 : ∀ w ∈ wsL_law0_r24, w ∈ lw_tbl := lw_at [39, 1026, 777, 1027, 1029, 40, 1030, 1031, 1033, 41, 1034, 1035, 1037, 42, 1038, 778, 1039, 1041, 43, 1042, 673, 674, 675, 676] rfl
set_option maxRecDepth 20000 in
theorem lwi_wsL_law0_r25 : ∀ w ∈ wsL_law0_r25, w ∈ lw_tbl := lw_at [677, 678, 679, 681, 682, 683, 684, 685, 686, 687, 688, 402, 403, 1043, 1044, 1045, 1046, 1047, 1049, 44, 1050, 689, 690, 691] rfl
set_option maxRecDepth 20000 in
theorem lwi_wsL_law0_r26 : ∀ w ∈ wsL_law0_r26, w ∈ lw_tbl := lw_at [692, 693, 694, 695, 697, 698, 699, 700, 701, 702, 704, 19, 705, 706, 399, 400, 401, 1051, 1052, 1053, 1054, 1055, 1057, 45] rfl
set_option maxRecDepth 20000 in
theorem lwi_wsL_law0_r27 : ∀ w ∈ wsL_law0_r27, w ∈ lw_tbl := lw_at [1058, 1059, 1061, 46, 1062, 707, 708, 709, 710, 711, 712, 713, 715, 716, 717, 718, 195, 383, 385, 11, 386, 197, 198, 387] rfl
set_option maxRecDepth 20000 in
theorem lwi_wsL_law0_r28 : ∀ w ∈ wsL_law0_r28, w ∈ lw_tbl := lw_at [388, 389, 390, 392, 12, 393, 719, 721, 20, 722, 394, 396, 13, 397, 723, 1063, 1064, 1065, 1066, 785, 1067, 1068, 1069, 1070] rfl
set_option maxRecDepth 20000 in
theorem lwi_wsL_law0_r29 : ∀ w ∈ wsL_law0_r29, w ∈ lw_tbl := lw_at [1072, 47, 1073, 724, 725, 726, 727, 728, 729, 730, 732, 733, 734, 735, 412, 414, 14, 415, 416, 418, 15, 419, 1074, 1075] rfl
set_option maxRecDepth 20000 in
theorem lwi_wsL_law0_r30 : ∀ w ∈ wsL_law0_r30, w ∈ lw_tbl := lw_at [1076, 1077, 736, 737, 738, 739, 740, 741, 742, 1078, 1079, 1080, 1081, 375, 376, 377, 378, 379, 380, 381, 382, 398, 1082, 1083] rfl
set_option maxRecDepth 20000 in
theorem lwi_wsL_law0_r31 : ∀ w ∈ wsL_law0_r31, w ∈ lw_tbl := lw_at [1084, 1085, 404, 405, 406, 407, 408, 409, 410, 411, 1086, 1087, 1088, 1089] rfl
set_option maxRecDepth 20000 in
theorem lwi_wsX60 : ∀ w ∈ wsX60, w ∈ lw_tbl := lw_at [214, 216, 218, 220, 222, 224] rfl
set_option maxRecDepth 20000 in
theorem lwi_wsX70 : ∀ w ∈ wsX70, w ∈ lw_tbl := lw_at [789, 791, 793, 795, 797, 799, 801, 803, 805, 807, 809, 811, 813, 815, 817, 819, 821, 823, 825, 827, 829, 831, 833, 835, 837, 839, 841, 843, 845, 847, 849, 851, 853, 855, 857, 859, 861, 863, 865] rfl
set_option maxRecDepth 20000 in
theorem lwi_wsX10 : ∀ w ∈ wsX10, w ∈ lw_tbl := lw_at [84, 86, 88, 90] rfl
set_option maxRecDepth 20000 in
theorem lwi_wsX40 : ∀ w ∈ wsX40, w ∈ lw_tbl := lw_at [131, 133, 135, 137, 139, 141, 143, 145, 147, 149, 151, 153, 155, 157, 159] rfl
set_option maxRecDepth 20000 in
theorem lwi_wsX00 : ∀ w ∈ wsX00, w ∈ lw_tbl := lw_at [176, 178, 180, 182, 184] rfl
set_option maxRecDepth 20000 in
theorem lwi_wsX50 : ∀ w ∈ wsX50, w ∈ lw_tbl := lw_at [199, 201, 203, 205] rfl
theorem lw_app {a b c : List Cond} (h1 : ∀ w ∈ a, w ∈ c) (h2 : ∀ w ∈ b, w ∈ c) : ∀ w ∈ a ++ b, w ∈ c := fun w h => (List.mem_append.mp h).elim (h1 w) (h2 w)
theorem wsL_law_in0 : ∀ w ∈ wsL_law0, w ∈ lw_tbl := (lw_app (lw_app (lw_app (lw_app (lw_app (lw_app (lw_app (lw_app lwi_wsL_law0_r1 (lw_app lwi_wsL_law0_r2 (lw_app lwi_wsL_law0_r3 (lw_app lwi_wsL_law0_r4 (lw_app lwi_wsL_law0_r5 (lw_app lwi_wsL_law0_r6 (lw_app lwi_wsL_law0_r7 (lw_app lwi_wsL_law0_r8 (lw_app lwi_wsL_law0_r9 (lw_app lwi_wsL_law0_r10 (lw_app lwi_wsL_law0_r11 (lw_app lwi_wsL_law0_r12 (lw_app lwi_wsL_law0_r13 (lw_app lwi_wsL_law0_r14 (lw_app lwi_wsL_law0_r15 (lw_app lwi_wsL_law0_r16 (lw_app lwi_wsL_law0_r17 (lw_app lwi_wsL_law0_r18 (lw_app lwi_wsL_law0_r19 (lw_app lwi_wsL_law0_r20 (lw_app lwi_wsL_law0_r21 (lw_app lwi_wsL_law0_r22 (lw_app lwi_wsL_law0_r23 (lw_app lwi_wsL_law0_r24 (lw_app lwi_wsL_law0_r25 (lw_app lwi_wsL_law0_r26 (lw_app lwi_wsL_law0_r27 (lw_app lwi_wsL_law0_r28 (lw_app lwi_wsL_law0_r29 (lw_app lwi_wsL_law0_r30 lwi_wsL_law0_r31)))))))))))))))))))))))))))))) lwi_wsX60) lwi_wsX70) lwi_wsX10) lwi_wsX40) lwi_wsX00) lwi_wsX50) (fun _ h => absurd h List.not_mem_nil))
