theorem mem_fm {big ws : List Cond} (ps : List Nat) (hp : ws = ps.filterMap (fun i => big[i]?)) : ∀ w ∈ ws, w ∈ big := by
  intro w hw
  rw [hp] at hw
  obtain ⟨i, -, hi⟩ := List.mem_filterMap.mp hw
  exact List.mem_of_getElem? hi
set_option maxRecDepth 20000 in
theorem wi_wsL_law_r1 : ∀ w ∈ wsL_law_r1, w ∈ lw_tbl := mem_fm [60, 61, 49, 709, 710, 52, 62, 63, 64, 65, 66, 67, 68, 69, 50, 122, 123, 124, 108, 109, 51, 125, 107, 126] (by decide +kernel)
set_option maxRecDepth 20000 in
theorem wi_wsL_law_r2 : ∀ w ∈ wsL_law_r2, w ∈ lw_tbl := mem_fm [127, 128, 129, 165, 130, 131, 132, 133, 134, 135, 70, 71, 72, 73, 75, 74, 77, 79, 81, 83, 84, 85, 86, 87] (by decide +kernel)
set_option maxRecDepth 20000 in
theorem wi_wsL_law_r3 : ∀ w ∈ wsL_law_r3, w ∈ lw_tbl := mem_fm [110, 111, 112, 113, 114, 116, 711, 712, 713, 714, 716, 717, 718, 719, 721, 722, 723, 727, 715, 166, 167, 168, 169, 115] (by decide +kernel)
set_option maxRecDepth 20000 in
theorem wi_wsL_law_r4 : ∀ w ∈ wsL_law_r4, w ∈ lw_tbl := mem_fm [170, 172, 0, 173, 174, 175, 176, 177, 178, 179, 180, 181, 182, 756, 757, 758, 759, 724, 760, 762, 27, 763, 183, 184] (by decide +kernel)
set_option maxRecDepth 20000 in
theorem wi_wsL_law_r5 : ∀ w ∈ wsL_law_r5, w ∈ lw_tbl := mem_fm [185, 186, 187, 188, 189, 190, 191, 192, 193, 194, 195, 197, 1, 198, 199, 201, 2, 202, 203, 205, 3, 206, 208, 209] (by decide +kernel)
set_option maxRecDepth 20000 in
theorem wi_wsL_law_r6 : ∀ w ∈ wsL_law_r6, w ∈ lw_tbl := mem_fm [210, 53, 211, 212, 213, 214, 215, 1063, 216, 217, 218, 219, 220, 1062, 222, 223, 224, 225, 226, 227, 228, 229, 230, 231] (by decide +kernel)
set_option maxRecDepth 20000 in
theorem wi_wsL_law_r7 : ∀ w ∈ wsL_law_r7, w ∈ lw_tbl := mem_fm [54, 232, 236, 237, 55, 238, 239, 240, 241, 233, 234, 235, 242, 243, 244, 245, 246, 56, 247, 248, 249, 250, 251, 252] (by decide +kernel)
set_option maxRecDepth 20000 in
theorem wi_wsL_law_r8 : ∀ w ∈ wsL_law_r8, w ∈ lw_tbl := mem_fm [253, 254, 255, 256, 257, 258, 259, 260, 261, 262, 263, 265, 266, 57, 267, 268, 269, 270, 271, 272, 273, 274, 276, 278] (by decide +kernel)
set_option maxRecDepth 20000 in
theorem wi_wsL_law_r9 : ∀ w ∈ wsL_law_r9, w ∈ lw_tbl := mem_fm [280, 281, 282, 283, 284, 58, 285, 286, 287, 288, 289, 290, 291, 292, 293, 294, 295, 296, 298, 300, 4, 301, 302, 304] (by decide +kernel)
set_option maxRecDepth 20000 in
theorem wi_wsL_law_r10 : ∀ w ∈ wsL_law_r10, w ∈ lw_tbl := mem_fm [5, 305, 306, 307, 308, 309, 310, 311, 312, 313, 314, 315, 316, 317, 318, 319, 320, 321, 322, 323, 324, 325, 326, 328] (by decide +kernel)
set_option maxRecDepth 20000 in
theorem wi_wsL_law_r11 : ∀ w ∈ wsL_law_r11, w ∈ lw_tbl := mem_fm [6, 329, 330, 331, 332, 333, 334, 335, 336, 337, 338, 339, 340, 341, 342, 343, 344, 345, 346, 347, 348, 349, 350, 351] (by decide +kernel)
set_option maxRecDepth 20000 in
theorem wi_wsL_law_r12 : ∀ w ∈ wsL_law_r12, w ∈ lw_tbl := mem_fm [352, 353, 354, 355, 356, 357, 358, 359, 360, 361, 362, 363, 364, 365, 366, 367, 368, 369, 370, 371, 372, 373, 374, 375] (by decide +kernel)
set_option maxRecDepth 20000 in
theorem wi_wsL_law_r13 : ∀ w ∈ wsL_law_r13, w ∈ lw_tbl := mem_fm [376, 377, 378, 764, 765, 766, 767, 726, 768, 770, 28, 771, 772, 774, 29, 775, 776, 778, 30, 779, 780, 781, 782, 783] (by decide +kernel)
set_option maxRecDepth 20000 in
theorem wi_wsL_law_r14 : ∀ w ∈ wsL_law_r14, w ∈ lw_tbl := mem_fm [785, 31, 786, 787, 788, 789, 790, 791, 792, 793, 795, 32, 796, 797, 798, 799, 800, 801, 802, 803, 805, 33, 806, 807] (by decide +kernel)
set_option maxRecDepth 20000 in
theorem wi_wsL_law_r15 : ∀ w ∈ wsL_law_r15, w ∈ lw_tbl := mem_fm [808, 809, 810, 811, 812, 813, 814, 815, 816, 817, 818, 819, 820, 821, 822, 823, 824, 825, 826, 827, 828, 829, 830, 831] (by decide +kernel)
set_option maxRecDepth 20000 in
theorem wi_wsL_law_r16 : ∀ w ∈ wsL_law_r16, w ∈ lw_tbl := mem_fm [832, 833, 834, 835, 836, 837, 838, 839, 380, 381, 382, 383, 384, 385, 386, 387, 388, 389, 390, 391, 392, 393, 394, 395] (by decide +kernel)
set_option maxRecDepth 20000 in
theorem wi_wsL_law_r17 : ∀ w ∈ wsL_law_r17, w ∈ lw_tbl := mem_fm [396, 397, 398, 399, 400, 401, 840, 841, 842, 843, 402, 403, 404, 405, 76, 406, 407, 408, 409, 410, 411, 412, 413, 414] (by decide +kernel)
set_option maxRecDepth 20000 in
theorem wi_wsL_law_r18 : ∀ w ∈ wsL_law_r18, w ∈ lw_tbl := mem_fm [415, 416, 417, 418, 419, 420, 421, 422, 423, 424, 425, 426, 427, 428, 429, 430, 431, 432, 433, 435, 7, 436, 437, 844] (by decide +kernel)
set_option maxRecDepth 20000 in
theorem wi_wsL_law_r19 : ∀ w ∈ wsL_law_r19, w ∈ lw_tbl := mem_fm [845, 846, 847, 848, 849, 850, 851, 853, 34, 854, 855, 856, 857, 858, 860, 35, 861, 438, 439, 440, 441, 442, 443, 862] (by decide +kernel)
set_option maxRecDepth 20000 in
theorem wi_wsL_law_r20 : ∀ w ∈ wsL_law_r20, w ∈ lw_tbl := mem_fm [863, 864, 865, 444, 445, 446, 447, 448, 449, 450, 451, 866, 867, 868, 869, 870, 871, 872, 873, 875, 36, 876, 452, 453] (by decide +kernel)
set_option maxRecDepth 20000 in
theorem wi_wsL_law_r21 : ∀ w ∈ wsL_law_r21, w ∈ lw_tbl := mem_fm [454, 455, 456, 457, 877, 878, 879, 880, 458, 459, 460, 461, 462, 463, 881, 882, 883, 884, 464, 465, 466, 467, 468, 469] (by decide +kernel)
set_option maxRecDepth 20000 in
theorem wi_wsL_law_r22 : ∀ w ∈ wsL_law_r22, w ∈ lw_tbl := mem_fm [470, 471, 885, 886, 887, 888, 472, 473, 474, 475, 476, 477, 889, 890, 891, 892, 478, 479, 480, 481, 482, 483, 484, 485] (by decide +kernel)
set_option maxRecDepth 20000 in
theorem wi_wsL_law_r23 : ∀ w ∈ wsL_law_r23, w ∈ lw_tbl := mem_fm [893, 894, 895, 896, 897, 899, 37, 900, 486, 487, 488, 489, 901, 902, 903, 904, 490, 491, 492, 493, 494, 495, 905, 906] (by decide +kernel)
set_option maxRecDepth 20000 in
theorem wi_wsL_law_r24 : ∀ w ∈ wsL_law_r24, w ∈ lw_tbl := mem_fm [907, 908, 909, 911, 38, 912, 913, 496, 497, 498, 499, 500, 502, 8, 503, 504, 505, 506, 507, 914, 915, 916, 917, 918] (by decide +kernel)
set_option maxRecDepth 20000 in
theorem wi_wsL_law_r25 : ∀ w ∈ wsL_law_r25, w ∈ lw_tbl := mem_fm [920, 39, 921, 508, 509, 510, 511, 922, 923, 924, 925, 512, 513, 514, 515, 516, 518, 9, 519, 520, 522, 10, 523, 926] (by decide +kernel)
set_option maxRecDepth 20000 in
theorem wi_wsL_law_r26 : ∀ w ∈ wsL_law_r26, w ∈ lw_tbl := mem_fm [927, 928, 929, 930, 931, 933, 40, 934, 524, 525, 526, 527, 935, 936, 937, 938, 528, 529, 530, 531, 939, 940, 941, 942] (by decide +kernel)
set_option maxRecDepth 20000 in
theorem wi_wsL_law_r27 : ∀ w ∈ wsL_law_r27, w ∈ lw_tbl := mem_fm [532, 533, 534, 535, 82, 536, 537, 538, 539, 540, 541, 542, 543, 544, 546, 11, 547, 943, 944, 945, 946, 947, 949, 41] (by decide +kernel)
set_option maxRecDepth 20000 in
theorem wi_wsL_law_r28 : ∀ w ∈ wsL_law_r28, w ∈ lw_tbl := mem_fm [950, 951, 953, 42, 954, 955, 956, 957, 958, 960, 43, 961, 548, 549, 550, 551, 962, 963, 964, 965, 552, 553, 554, 555] (by decide +kernel)
set_option maxRecDepth 20000 in
theorem wi_wsL_law_r29 : ∀ w ∈ wsL_law_r29, w ∈ lw_tbl := mem_fm [556, 558, 12, 559, 560, 561, 59, 562, 563, 564, 565, 566, 568, 13, 569, 570, 966, 967, 968, 969, 970, 971, 972, 571] (by decide +kernel)
set_option maxRecDepth 20000 in
theorem wi_wsL_law_r30 : ∀ w ∈ wsL_law_r30, w ∈ lw_tbl := mem_fm [572, 573, 574, 575, 577, 14, 578, 579, 581, 15, 582, 583, 584, 973, 974, 975, 976, 585, 586, 587, 588, 977, 978, 979] (by decide +kernel)
set_option maxRecDepth 20000 in
theorem wi_wsL_law_r31 : ∀ w ∈ wsL_law_r31, w ∈ lw_tbl := mem_fm [980, 981, 982, 983, 589, 590, 591, 592, 984, 985, 986, 987, 593, 594, 595, 596, 597, 599, 16, 600, 601, 602, 603, 604] (by decide +kernel)
set_option maxRecDepth 20000 in
theorem wi_wsL_law_r32 : ∀ w ∈ wsL_law_r32, w ∈ lw_tbl := mem_fm [605, 607, 17, 608, 988, 989, 990, 991, 609, 610, 611, 612, 613, 615, 18, 616, 617, 619, 19, 620, 621, 623, 20, 624] (by decide +kernel)
set_option maxRecDepth 20000 in
theorem wi_wsL_law_r33 : ∀ w ∈ wsL_law_r33, w ∈ lw_tbl := mem_fm [992, 993, 994, 995, 996, 998, 44, 999, 625, 626, 627, 628, 629, 630, 632, 21, 633, 634, 636, 22, 637, 638, 639, 640] (by decide +kernel)
set_option maxRecDepth 20000 in
theorem wi_wsL_law_r34 : ∀ w ∈ wsL_law_r34, w ∈ lw_tbl := mem_fm [641, 642, 643, 1000, 1001, 1002, 1003, 1004, 1006, 45, 1007, 1008, 1009, 1010, 1011, 1012, 1013, 1014, 644, 645, 646, 647, 648, 649] (by decide +kernel)
set_option maxRecDepth 20000 in
theorem wi_wsL_law_r35 : ∀ w ∈ wsL_law_r35, w ∈ lw_tbl := mem_fm [650, 651, 1015, 1016, 1017, 1018, 1019, 1021, 46, 1022, 652, 653, 654, 655, 656, 658, 23, 659, 660, 662, 24, 663, 664, 666] (by decide +kernel)
set_option maxRecDepth 20000 in
theorem wi_wsL_law_r36 : ∀ w ∈ wsL_law_r36, w ∈ lw_tbl := mem_fm [25, 667, 1023, 1024, 1025, 1026, 725, 668, 669, 670, 671, 1027, 1028, 1029, 1030, 672, 673, 674, 675, 1031, 1032, 1033, 1034, 676] (by decide +kernel)
set_option maxRecDepth 20000 in
theorem wi_wsL_law_r37 : ∀ w ∈ wsL_law_r37, w ∈ lw_tbl := mem_fm [677, 678, 679, 1035, 1036, 1037, 1038, 680, 681, 682, 683, 684, 685, 686, 687, 688, 689, 690, 691, 692, 1039, 1040, 1041, 1042] (by decide +kernel)
set_option maxRecDepth 20000 in
theorem wi_wsL_law_r38 : ∀ w ∈ wsL_law_r38, w ∈ lw_tbl := mem_fm [728, 1043, 1045, 47, 1046, 1047, 1048, 1049, 693, 694, 695, 696, 80, 1050, 1051, 1052, 1053, 720, 697, 698, 699, 700, 1054, 1055] (by decide +kernel)
set_option maxRecDepth 20000 in
theorem wi_wsL_law_r39 : ∀ w ∈ wsL_law_r39, w ∈ lw_tbl := mem_fm [1056, 1057, 701, 702, 703, 704, 78, 705, 707, 26, 708, 1058, 1059, 1060, 1061] (by decide +kernel)
theorem wi_wsX00 : ∀ w ∈ wsX00, w ∈ lw_tbl := by decide +kernel
theorem wi_wsX10 : ∀ w ∈ wsX10, w ∈ lw_tbl := by decide +kernel
theorem wi_wsX20 : ∀ w ∈ wsX20, w ∈ lw_tbl := by decide +kernel
theorem wi_wsX30 : ∀ w ∈ wsX30, w ∈ lw_tbl := by decide +kernel
set_option maxRecDepth 20000 in
theorem wsL_law_in : ∀ w ∈ wsL_law, w ∈ lw_tbl := by
  unfold wsL_law
  exact List.forall_mem_append.mpr ⟨List.forall_mem_append.mpr ⟨List.forall_mem_append.mpr ⟨List.forall_mem_append.mpr ⟨List.forall_mem_append.mpr ⟨List.forall_mem_append.mpr ⟨wi_wsL_law_r1, List.forall_mem_append.mpr ⟨wi_wsL_law_r2, List.forall_mem_append.mpr ⟨wi_wsL_law_r3, List.forall_mem_append.mpr ⟨wi_wsL_law_r4, List.forall_mem_append.mpr ⟨wi_wsL_law_r5, List.forall_mem_append.mpr ⟨wi_wsL_law_r6, List.forall_mem_append.mpr ⟨wi_wsL_law_r7, List.forall_mem_append.mpr ⟨wi_wsL_law_r8, List.forall_mem_append.mpr ⟨wi_wsL_law_r9, List.forall_mem_append.mpr ⟨wi_wsL_law_r10, List.forall_mem_append.mpr ⟨wi_wsL_law_r11, List.forall_mem_append.mpr ⟨wi_wsL_law_r12, List.forall_mem_append.mpr ⟨wi_wsL_law_r13, List.forall_mem_append.mpr ⟨wi_wsL_law_r14, List.forall_mem_append.mpr ⟨wi_wsL_law_r15, List.forall_mem_append.mpr ⟨wi_wsL_law_r16, List.forall_mem_append.mpr ⟨wi_wsL_law_r17, List.forall_mem_append.mpr ⟨wi_wsL_law_r18, List.forall_mem_append.mpr ⟨wi_wsL_law_r19, List.forall_mem_append.mpr ⟨wi_wsL_law_r20, List.forall_mem_append.mpr ⟨wi_wsL_law_r21, List.forall_mem_append.mpr ⟨wi_wsL_law_r22, List.forall_mem_append.mpr ⟨wi_wsL_law_r23, List.forall_mem_append.mpr ⟨wi_wsL_law_r24, List.forall_mem_append.mpr ⟨wi_wsL_law_r25, List.forall_mem_append.mpr ⟨wi_wsL_law_r26, List.forall_mem_append.mpr ⟨wi_wsL_law_r27, List.forall_mem_append.mpr ⟨wi_wsL_law_r28, List.forall_mem_append.mpr ⟨wi_wsL_law_r29, List.forall_mem_append.mpr ⟨wi_wsL_law_r30, List.forall_mem_append.mpr ⟨wi_wsL_law_r31, List.forall_mem_append.mpr ⟨wi_wsL_law_r32, List.forall_mem_append.mpr ⟨wi_wsL_law_r33, List.forall_mem_append.mpr ⟨wi_wsL_law_r34, List.forall_mem_append.mpr ⟨wi_wsL_law_r35, List.forall_mem_append.mpr ⟨wi_wsL_law_r36, List.forall_mem_append.mpr ⟨wi_wsL_law_r37, List.forall_mem_append.mpr ⟨wi_wsL_law_r38, wi_wsL_law_r39⟩⟩⟩⟩⟩⟩⟩⟩⟩⟩⟩⟩⟩⟩⟩⟩⟩⟩⟩⟩⟩⟩⟩⟩⟩⟩⟩⟩⟩⟩⟩⟩⟩⟩⟩⟩⟩⟩, wi_wsX20⟩, wi_wsX30⟩, wi_wsX00⟩, wi_wsX10⟩, fun _ h => absurd h List.not_mem_nil⟩
