/-! the law's words are among the tables' words, piece by piece -/
theorem lw_mem {ws : List Cond} {ps : List Nat} (h : ws = ps.filterMap (fun i => lw_tbl[i]?)) : ∀ w ∈ ws, w ∈ lw_tbl := fun w hw => by
  rw [h] at hw
  obtain ⟨i, -, hi⟩ := List.mem_filterMap.mp hw
  exact List.mem_of_getElem? hi
set_option maxRecDepth 100000
theorem lwi_wsL_law_r1 : ∀ w ∈ wsL_law_r1, w ∈ lw_tbl := lw_mem (ps := [62, 63, 51, 723, 724, 58, 64, 65, 66, 67, 68, 69, 70, 266, 72, 73, 52, 267, 180, 79, 53, 268, 182, 183]) rfl
theorem lwi_wsL_law_r2 : ∀ w ∈ wsL_law_r2, w ∈ lw_tbl := lw_mem (ps := [54, 269, 202, 203, 55, 270, 223, 224, 56, 271, 272, 159, 273, 244, 57, 75, 76, 77, 78, 160, 162, 81, 82, 83]) rfl
theorem lwi_wsL_law_r3 : ∀ w ∈ wsL_law_r3, w ∈ lw_tbl := lw_mem (ps := [107, 110, 113, 115, 119, 122, 124, 127, 184, 185, 186, 187, 188, 191, 205, 206, 207, 208, 210, 211, 226, 227, 228, 229]) rfl
theorem lwi_wsL_law_r4 : ∀ w ∈ wsL_law_r4, w ∈ lw_tbl := lw_mem (ps := [231, 232, 246, 247, 248, 255, 725, 726, 727, 728, 730, 731, 732, 733, 735, 743, 744, 745, 746, 748, 803, 749, 750, 751]) rfl
theorem lwi_wsL_law_r5 : ∀ w ∈ wsL_law_r5, w ∈ lw_tbl := lw_mem (ps := [752, 729, 297, 298, 299, 300, 304, 301, 302, 303, 305, 307, 0, 308, 275, 309, 310, 311, 312, 313, 249, 251, 253, 314]) rfl
theorem lwi_wsL_law_r6 : ∀ w ∈ wsL_law_r6, w ∈ lw_tbl := lw_mem (ps := [316, 1, 317, 804, 805, 806, 807, 814, 808, 809, 810, 811, 812, 813, 815, 817, 22, 818, 734, 819, 820, 822, 23, 823]) rfl
theorem lwi_wsL_law_r7 : ∀ w ∈ wsL_law_r7, w ∈ lw_tbl := lw_mem (ps := [318, 319, 320, 321, 250, 322, 323, 324, 325, 326, 327, 328, 329, 330, 332, 2, 333, 824, 825, 826, 827, 828, 830, 24]) rfl
theorem lwi_wsL_law_r8 : ∀ w ∈ wsL_law_r8, w ∈ lw_tbl := lw_mem (ps := [831, 832, 833, 834, 334, 335, 336, 337, 252, 256, 338, 340, 339, 59, 835, 836, 837, 838, 839, 841, 25, 842, 341, 342]) rfl
theorem lwi_wsL_law_r9 : ∀ w ∈ wsL_law_r9, w ∈ lw_tbl := lw_mem (ps := [343, 344, 254, 843, 844, 845, 846, 345, 346, 347, 348, 164, 353, 349, 350, 351, 352, 163, 847, 848, 849, 850, 736, 851]) rfl
theorem lwi_wsL_law_r10 : ∀ w ∈ wsL_law_r10, w ∈ lw_tbl := lw_mem (ps := [354, 355, 356, 357, 392, 166, 161, 87, 358, 359, 360, 361, 165, 85, 104, 362, 364, 3, 365, 89, 91, 366, 368, 4]) rfl
theorem lwi_wsL_law_r11 : ∀ w ∈ wsL_law_r11, w ∈ lw_tbl := lw_mem (ps := [369, 370, 372, 5, 373, 168, 374, 376, 6, 377, 378, 379, 380, 381, 383, 7, 384, 385, 386, 387, 388, 389, 390, 391]) rfl
theorem lwi_wsL_law_r12 : ∀ w ∈ wsL_law_r12, w ∈ lw_tbl := lw_mem (ps := [84, 103, 393, 394, 395, 396, 88, 92, 95, 97, 100, 397, 398, 399, 400, 401, 193, 852, 853, 854, 855, 739, 738, 741]) rfl
theorem lwi_wsL_law_r13 : ∀ w ∈ wsL_law_r13, w ∈ lw_tbl := lw_mem (ps := [742, 891, 747, 856, 858, 26, 859, 740, 860, 862, 27, 863, 864, 866, 28, 867, 737, 868, 870, 29, 871, 872, 874, 30]) rfl
theorem lwi_wsL_law_r14 : ∀ w ∈ wsL_law_r14, w ∈ lw_tbl := lw_mem (ps := [875, 876, 878, 31, 879, 880, 881, 882, 883, 885, 32, 886, 887, 889, 33, 890, 892, 893, 894, 402, 403, 404, 405, 167]) rfl
theorem lwi_wsL_law_r15 : ∀ w ∈ wsL_law_r15, w ∈ lw_tbl := lw_mem (ps := [895, 896, 897, 898, 406, 407, 408, 409, 414, 96, 98, 410, 412, 8, 413, 415, 416, 417, 418, 192, 420, 421, 60, 422]) rfl
theorem lwi_wsL_law_r16 : ∀ w ∈ wsL_law_r16, w ∈ lw_tbl := lw_mem (ps := [419, 423, 424, 425, 426, 442, 439, 440, 441, 443, 427, 428, 429, 430, 431, 432, 433, 434, 435, 437, 9, 438, 899, 900]) rfl
theorem lwi_wsL_law_r17 : ∀ w ∈ wsL_law_r17, w ∈ lw_tbl := lw_mem (ps := [901, 902, 907, 903, 905, 34, 906, 908, 910, 35, 911, 912, 914, 36, 915, 934, 916, 917, 918, 919, 920, 921, 922, 923]) rfl
theorem lwi_wsL_law_r18 : ∀ w ∈ wsL_law_r18, w ∈ lw_tbl := lw_mem (ps := [924, 925, 926, 927, 928, 929, 930, 931, 932, 933, 444, 445, 446, 447, 105, 448, 449, 450, 451, 452, 453, 454, 455, 456]) rfl
theorem lwi_wsL_law_r19 : ∀ w ∈ wsL_law_r19, w ∈ lw_tbl := lw_mem (ps := [935, 936, 937, 938, 939, 941, 37, 942, 943, 944, 945, 946, 948, 38, 949, 457, 458, 459, 460, 123, 461, 462, 463, 464]) rfl
theorem lwi_wsL_law_r20 : ∀ w ∈ wsL_law_r20, w ∈ lw_tbl := lw_mem (ps := [465, 466, 467, 468, 950, 951, 952, 953, 954, 955, 956, 469, 470, 471, 472, 94, 957, 958, 959, 960, 473, 474, 475, 476]) rfl
theorem lwi_wsL_law_r21 : ∀ w ∈ wsL_law_r21, w ∈ lw_tbl := lw_mem (ps := [194, 477, 478, 479, 480, 961, 962, 963, 964, 481, 482, 483, 484, 112, 118, 114, 121, 485, 965, 966, 967, 968, 486, 487]) rfl
theorem lwi_wsL_law_r22 : ∀ w ∈ wsL_law_r22, w ∈ lw_tbl := lw_mem (ps := [488, 489, 125, 969, 970, 971, 972, 490, 491, 492, 493, 494, 495, 496, 497, 498, 499, 500, 501, 502, 503, 504, 505, 506]) rfl
theorem lwi_wsL_law_r23 : ∀ w ∈ wsL_law_r23, w ∈ lw_tbl := lw_mem (ps := [507, 508, 509, 973, 974, 975, 976, 977, 979, 39, 980, 510, 511, 512, 513, 102, 981, 982, 983, 984, 514, 515, 516, 517]) rfl
theorem lwi_wsL_law_r24 : ∀ w ∈ wsL_law_r24, w ∈ lw_tbl := lw_mem (ps := [518, 519, 520, 521, 527, 522, 523, 524, 525, 526, 985, 986, 987, 988, 528, 529, 530, 531, 532, 533, 534, 535, 212, 213]) rfl
theorem lwi_wsL_law_r25 : ∀ w ∈ wsL_law_r25, w ∈ lw_tbl := lw_mem (ps := [536, 538, 10, 539, 86, 116, 540, 541, 542, 543, 544, 989, 990, 991, 992, 545, 546, 547, 548, 549, 550, 551, 552, 101]) rfl
theorem lwi_wsL_law_r26 : ∀ w ∈ wsL_law_r26, w ∈ lw_tbl := lw_mem (ps := [553, 555, 11, 556, 557, 558, 560, 12, 561, 562, 563, 61, 564, 565, 566, 567, 993, 994, 995, 996, 997, 999, 40, 1000]) rfl
theorem lwi_wsL_law_r27 : ∀ w ∈ wsL_law_r27, w ∈ lw_tbl := lw_mem (ps := [1001, 1002, 1003, 568, 569, 570, 571, 572, 573, 574, 575, 576, 578, 13, 579, 580, 581, 583, 14, 584, 99, 585, 587, 15]) rfl
theorem lwi_wsL_law_r28 : ∀ w ∈ wsL_law_r28, w ∈ lw_tbl := lw_mem (ps := [588, 589, 591, 16, 592, 1004, 1005, 1006, 1007, 1008, 1010, 41, 1011, 1012, 1014, 42, 1015, 593, 594, 595, 596, 597, 598, 599]) rfl
theorem lwi_wsL_law_r29 : ∀ w ∈ wsL_law_r29, w ∈ lw_tbl := lw_mem (ps := [600, 601, 1016, 1017, 1018, 1019, 602, 603, 604, 605, 606, 607, 608, 609, 610, 233, 234, 611, 612, 613, 614, 108, 615, 616]) rfl
theorem lwi_wsL_law_r30 : ∀ w ∈ wsL_law_r30, w ∈ lw_tbl := lw_mem (ps := [618, 17, 619, 120, 620, 621, 622, 623, 624, 111, 625, 626, 627, 628, 93, 629, 630, 631, 632, 633, 635, 18, 636, 117]) rfl
theorem lwi_wsL_law_r31 : ∀ w ∈ wsL_law_r31, w ∈ lw_tbl := lw_mem (ps := [637, 638, 639, 640, 641, 1020, 1021, 1022, 1023, 1024, 1026, 43, 1027, 642, 643, 644, 645, 646, 647, 648, 649, 106, 650, 651]) rfl
theorem lwi_wsL_law_r32 : ∀ w ∈ wsL_law_r32, w ∈ lw_tbl := lw_mem (ps := [652, 653, 654, 655, 1028, 1029, 1030, 1031, 656, 657, 658, 659, 660, 661, 662, 663, 664, 665, 666, 667, 126, 668, 1032, 1033]) rfl
theorem lwi_wsL_law_r33 : ∀ w ∈ wsL_law_r33, w ∈ lw_tbl := lw_mem (ps := [1034, 1035, 1036, 1037, 1038, 1039, 669, 670, 671, 672, 1040, 1041, 1042, 1043, 673, 674, 675, 676, 1044, 1045, 1046, 1047, 677, 678]) rfl
theorem lwi_wsL_law_r34 : ∀ w ∈ wsL_law_r34, w ∈ lw_tbl := lw_mem (ps := [679, 680, 109, 1048, 1049, 1050, 1051, 1052, 1054, 44, 1055, 681, 682, 683, 684, 685, 686, 687, 688, 1056, 1057, 1058, 1059, 690]) rfl
theorem lwi_wsL_law_r35 : ∀ w ∈ wsL_law_r35, w ∈ lw_tbl := lw_mem (ps := [691, 692, 693, 274, 694, 696, 698, 700, 19, 701, 702, 704, 20, 705, 1060, 1061, 1062, 1063, 753, 1064, 1066, 45, 1067, 1068]) rfl
theorem lwi_wsL_law_r36 : ∀ w ∈ wsL_law_r36, w ∈ lw_tbl := lw_mem (ps := [1070, 46, 1071, 1072, 1074, 47, 1075, 1076, 1078, 48, 1079, 1080, 1082, 49, 1083, 706, 707, 708, 709, 710, 1084, 1085, 1086, 1087]) rfl
theorem lwi_wsL_law_r37 : ∀ w ∈ wsL_law_r37, w ∈ lw_tbl := lw_mem (ps := [711, 712, 713, 714, 90, 715, 717, 21, 718, 1088, 1089, 1090, 1091, 719, 720, 721, 722, 1092, 1093, 1094, 1095]) rfl
theorem lwi_wsX60 : ∀ w ∈ wsX60, w ∈ lw_tbl := lw_mem (ps := [276, 278, 280, 282, 284, 286, 288, 290, 292, 294]) rfl
theorem lwi_wsX70 : ∀ w ∈ wsX70, w ∈ lw_tbl := lw_mem (ps := [754, 756, 758, 760, 762, 764, 766, 768, 770, 772, 774, 776, 778, 780, 782, 784, 786, 788, 790, 792, 794, 796, 798, 800]) rfl
theorem lwi_wsX30 : ∀ w ∈ wsX30, w ∈ lw_tbl := lw_mem (ps := [169, 171, 173, 175, 177]) rfl
theorem lwi_wsX50 : ∀ w ∈ wsX50, w ∈ lw_tbl := lw_mem (ps := [128, 130, 132, 134, 136, 138, 140, 142, 144, 146, 148, 150, 152, 154, 156]) rfl
theorem lwi_wsX00 : ∀ w ∈ wsX00, w ∈ lw_tbl := lw_mem (ps := [195, 197, 199]) rfl
theorem lwi_wsX10 : ∀ w ∈ wsX10, w ∈ lw_tbl := lw_mem (ps := [214, 216, 218, 220]) rfl
theorem lwi_wsX20 : ∀ w ∈ wsX20, w ∈ lw_tbl := lw_mem (ps := [235, 237, 239, 241]) rfl
theorem lwi_wsX40 : ∀ w ∈ wsX40, w ∈ lw_tbl := lw_mem (ps := [257, 259, 261, 263]) rfl
theorem lw_app {a b : List Cond} (ha : ∀ w ∈ a, w ∈ lw_tbl) (hb : ∀ w ∈ b, w ∈ lw_tbl) : ∀ w ∈ a ++ b, w ∈ lw_tbl := fun w hw => by
  rcases List.mem_append.mp hw with h | h
  · exact ha w h
  · exact hb w h
theorem wsL_law_in : ∀ w ∈ wsL_law, w ∈ lw_tbl := by
  unfold wsL_law
  exact lw_app (lw_app (lw_app (lw_app (lw_app (lw_app (lw_app (lw_app (lw_app (lw_app lwi_wsL_law_r1 (lw_app lwi_wsL_law_r2 (lw_app lwi_wsL_law_r3 (lw_app lwi_wsL_law_r4 (lw_app lwi_wsL_law_r5 (lw_app lwi_wsL_law_r6 (lw_app lwi_wsL_law_r7 (lw_app lwi_wsL_law_r8 (lw_app lwi_wsL_law_r9 (lw_app lwi_wsL_law_r10 (lw_app lwi_wsL_law_r11 (lw_app lwi_wsL_law_r12 (lw_app lwi_wsL_law_r13 (lw_app lwi_wsL_law_r14 (lw_app lwi_wsL_law_r15 (lw_app lwi_wsL_law_r16 (lw_app lwi_wsL_law_r17 (lw_app lwi_wsL_law_r18 (lw_app lwi_wsL_law_r19 (lw_app lwi_wsL_law_r20 (lw_app lwi_wsL_law_r21 (lw_app lwi_wsL_law_r22 (lw_app lwi_wsL_law_r23 (lw_app lwi_wsL_law_r24 (lw_app lwi_wsL_law_r25 (lw_app lwi_wsL_law_r26 (lw_app lwi_wsL_law_r27 (lw_app lwi_wsL_law_r28 (lw_app lwi_wsL_law_r29 (lw_app lwi_wsL_law_r30 (lw_app lwi_wsL_law_r31 (lw_app lwi_wsL_law_r32 (lw_app lwi_wsL_law_r33 (lw_app lwi_wsL_law_r34 (lw_app lwi_wsL_law_r35 (lw_app lwi_wsL_law_r36 (lwi_wsL_law_r37))))))))))))))))))))))))))))))))))))) lwi_wsX60) lwi_wsX70) lwi_wsX30) lwi_wsX50) lwi_wsX00) lwi_wsX10) lwi_wsX20) lwi_wsX40) (fun w h => by cases h)
