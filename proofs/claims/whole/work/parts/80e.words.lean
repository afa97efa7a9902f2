theorem mem_fm {big ws : List Cond} (ps : List Nat) (hp : ws = ps.filterMap (fun i => big[i]?)) : ∀ w ∈ ws, w ∈ big := by
  intro w hw
  rw [hp] at hw
  obtain ⟨i, -, hi⟩ := List.mem_filterMap.mp hw
  exact List.mem_of_getElem? hi
set_option maxRecDepth 20000 in
theorem wi_wsL_law_r1 : ∀ w ∈ wsL_law_r1, w ∈ lw_tbl := mem_fm [61, 62, 50, 714, 715, 53, 63, 64, 65, 66, 67, 68, 69, 70, 51, 123, 124, 125, 109, 110, 52, 126, 108, 127] (by decide +kernel)
set_option maxRecDepth 20000 in
theorem wi_wsL_law_r2 : ∀ w ∈ wsL_law_r2, w ∈ lw_tbl := mem_fm [128, 129, 130, 166, 131, 132, 133, 134, 135, 136, 71, 72, 73, 74, 76, 75, 78, 80, 82, 84, 85, 86, 87, 88] (by decide +kernel)
set_option maxRecDepth 20000 in
theorem wi_wsL_law_r3 : ∀ w ∈ wsL_law_r3, w ∈ lw_tbl := mem_fm [111, 112, 113, 114, 115, 117, 716, 717, 718, 719, 721, 722, 723, 724, 726, 727, 728, 732, 720, 167, 168, 169, 170, 116] (by decide +kernel)
set_option maxRecDepth 20000 in
theorem wi_wsL_law_r4 : ∀ w ∈ wsL_law_r4, w ∈ lw_tbl := mem_fm [171, 173, 0, 174, 175, 176, 177, 178, 179, 180, 181, 182, 183, 761, 762, 763, 764, 729, 765, 767, 28, 768, 184, 185] (by decide +kernel)
set_option maxRecDepth 20000 in
theorem wi_wsL_law_r5 : ∀ w ∈ wsL_law_r5, w ∈ lw_tbl := mem_fm [186, 187, 188, 189, 190, 191, 192, 193, 194, 195, 196, 198, 1, 199, 200, 202, 2, 203, 204, 206, 3, 207, 209, 210] (by decide +kernel)
set_option maxRecDepth 20000 in
theorem wi_wsL_law_r6 : ∀ w ∈ wsL_law_r6, w ∈ lw_tbl := mem_fm [211, 54, 212, 213, 214, 215, 216, 1068, 217, 218, 219, 220, 221, 1067, 223, 224, 225, 226, 227, 228, 229, 230, 231, 232] (by decide +kernel)
set_option maxRecDepth 20000 in
theorem wi_wsL_law_r7 : ∀ w ∈ wsL_law_r7, w ∈ lw_tbl := mem_fm [55, 233, 237, 238, 56, 239, 240, 241, 242, 234, 235, 236, 243, 244, 245, 246, 247, 57, 248, 249, 250, 251, 252, 253] (by decide +kernel)
set_option maxRecDepth 20000 in
theorem wi_wsL_law_r8 : ∀ w ∈ wsL_law_r8, w ∈ lw_tbl := mem_fm [254, 255, 256, 257, 258, 259, 260, 261, 262, 263, 264, 266, 267, 58, 268, 269, 270, 271, 272, 273, 274, 275, 277, 279] (by decide +kernel)
set_option maxRecDepth 20000 in
theorem wi_wsL_law_r9 : ∀ w ∈ wsL_law_r9, w ∈ lw_tbl := mem_fm [281, 282, 283, 284, 285, 59, 286, 287, 288, 289, 290, 291, 292, 293, 294, 295, 296, 297, 299, 301, 4, 302, 303, 305] (by decide +kernel)
set_option maxRecDepth 20000 in
theorem wi_wsL_law_r10 : ∀ w ∈ wsL_law_r10, w ∈ lw_tbl := mem_fm [5, 306, 307, 308, 309, 310, 311, 312, 313, 314, 315, 316, 317, 318, 319, 320, 321, 322, 323, 324, 325, 326, 327, 329] (by decide +kernel)
set_option maxRecDepth 20000 in
theorem wi_wsL_law_r11 : ∀ w ∈ wsL_law_r11, w ∈ lw_tbl := mem_fm [6, 330, 331, 332, 333, 334, 335, 336, 337, 338, 339, 340, 341, 342, 343, 344, 345, 346, 347, 348, 349, 350, 351, 352] (by decide +kernel)
set_option maxRecDepth 20000 in
theorem wi_wsL_law_r12 : ∀ w ∈ wsL_law_r12, w ∈ lw_tbl := mem_fm [353, 354, 355, 356, 357, 358, 359, 360, 361, 362, 363, 364, 365, 366, 367, 368, 369, 370, 371, 372, 373, 374, 375, 376] (by decide +kernel)
set_option maxRecDepth 20000 in
theorem wi_wsL_law_r13 : ∀ w ∈ wsL_law_r13, w ∈ lw_tbl := mem_fm [377, 378, 379, 769, 770, 771, 772, 731, 773, 775, 29, 776, 777, 779, 30, 780, 781, 783, 31, 784, 785, 786, 787, 788] (by decide +kernel)
set_option maxRecDepth 20000 in
theorem wi_wsL_law_r14 : ∀ w ∈ wsL_law_r14, w ∈ lw_tbl := mem_fm [790, 32, 791, 792, 793, 794, 795, 796, 797, 798, 800, 33, 801, 802, 803, 804, 805, 806, 807, 808, 810, 34, 811, 812] (by decide +kernel)
set_option maxRecDepth 20000 in
theorem wi_wsL_law_r15 : ∀ w ∈ wsL_law_r15, w ∈ lw_tbl := mem_fm [813, 814, 815, 816, 817, 818, 819, 820, 821, 822, 823, 824, 825, 826, 827, 828, 829, 830, 831, 832, 833, 834, 835, 836] (by decide +kernel)
set_option maxRecDepth 20000 in
theorem wi_wsL_law_r16 : ∀ w ∈ wsL_law_r16, w ∈ lw_tbl := mem_fm [837, 838, 839, 840, 841, 842, 843, 844, 381, 382, 383, 384, 385, 386, 387, 388, 389, 390, 391, 392, 393, 394, 395, 396] (by decide +kernel)
set_option maxRecDepth 20000 in
theorem wi_wsL_law_r17 : ∀ w ∈ wsL_law_r17, w ∈ lw_tbl := mem_fm [397, 398, 399, 400, 401, 402, 845, 846, 847, 848, 403, 404, 405, 406, 77, 407, 408, 409, 410, 411, 412, 413, 414, 415] (by decide +kernel)
set_option maxRecDepth 20000 in
theorem wi_wsL_law_r18 : ∀ w ∈ wsL_law_r18, w ∈ lw_tbl := mem_fm [416, 417, 418, 419, 420, 421, 422, 423, 424, 425, 426, 427, 428, 429, 430, 431, 432, 433, 434, 436, 7, 437, 438, 849] (by decide +kernel)
set_option maxRecDepth 20000 in
theorem wi_wsL_law_r19 : ∀ w ∈ wsL_law_r19, w ∈ lw_tbl := mem_fm [850, 851, 852, 853, 854, 855, 856, 858, 35, 859, 860, 861, 862, 863, 865, 36, 866, 439, 440, 441, 442, 443, 444, 867] (by decide +kernel)
set_option maxRecDepth 20000 in
theorem wi_wsL_law_r20 : ∀ w ∈ wsL_law_r20, w ∈ lw_tbl := mem_fm [868, 869, 870, 445, 446, 447, 448, 449, 450, 451, 452, 871, 872, 873, 874, 875, 876, 877, 878, 880, 37, 881, 453, 454] (by decide +kernel)
set_option maxRecDepth 20000 in
theorem wi_wsL_law_r21 : ∀ w ∈ wsL_law_r21, w ∈ lw_tbl := mem_fm [455, 456, 457, 458, 882, 883, 884, 885, 459, 460, 461, 462, 463, 464, 886, 887, 888, 889, 465, 466, 467, 468, 469, 470] (by decide +kernel)
set_option maxRecDepth 20000 in
theorem wi_wsL_law_r22 : ∀ w ∈ wsL_law_r22, w ∈ lw_tbl := mem_fm [471, 472, 890, 891, 892, 893, 473, 474, 475, 476, 477, 478, 894, 895, 896, 897, 479, 480, 481, 482, 483, 484, 485, 486] (by decide +kernel)
set_option maxRecDepth 20000 in
theorem wi_wsL_law_r23 : ∀ w ∈ wsL_law_r23, w ∈ lw_tbl := mem_fm [898, 899, 900, 901, 902, 904, 38, 905, 487, 488, 489, 490, 906, 907, 908, 909, 491, 492, 493, 494, 495, 496, 910, 911] (by decide +kernel)
set_option maxRecDepth 20000 in
theorem wi_wsL_law_r24 : ∀ w ∈ wsL_law_r24, w ∈ lw_tbl := mem_fm [912, 913, 914, 916, 39, 917, 918, 497, 498, 499, 500, 501, 503, 8, 504, 505, 506, 507, 508, 919, 920, 921, 922, 923] (by decide +kernel)
set_option maxRecDepth 20000 in
theorem wi_wsL_law_r25 : ∀ w ∈ wsL_law_r25, w ∈ lw_tbl := mem_fm [925, 40, 926, 509, 510, 511, 512, 927, 928, 929, 930, 513, 514, 515, 516, 517, 519, 9, 520, 521, 523, 10, 524, 931] (by decide +kernel)
set_option maxRecDepth 20000 in
theorem wi_wsL_law_r26 : ∀ w ∈ wsL_law_r26, w ∈ lw_tbl := mem_fm [932, 933, 934, 935, 936, 938, 41, 939, 525, 526, 527, 528, 940, 941, 942, 943, 529, 530, 531, 532, 944, 945, 946, 947] (by decide +kernel)
set_option maxRecDepth 20000 in
theorem wi_wsL_law_r27 : ∀ w ∈ wsL_law_r27, w ∈ lw_tbl := mem_fm [533, 534, 535, 536, 83, 537, 538, 539, 540, 541, 542, 543, 544, 545, 547, 11, 548, 948, 949, 950, 951, 952, 954, 42] (by decide +kernel)
set_option maxRecDepth 20000 in
theorem wi_wsL_law_r28 : ∀ w ∈ wsL_law_r28, w ∈ lw_tbl := mem_fm [955, 956, 958, 43, 959, 960, 961, 962, 963, 965, 44, 966, 549, 550, 551, 552, 967, 968, 969, 970, 553, 554, 555, 556] (by decide +kernel)
set_option maxRecDepth 20000 in
theorem wi_wsL_law_r29 : ∀ w ∈ wsL_law_r29, w ∈ lw_tbl := mem_fm [557, 559, 12, 560, 561, 562, 60, 563, 564, 565, 566, 567, 569, 13, 570, 571, 971, 972, 973, 974, 975, 976, 977, 572] (by decide +kernel)
set_option maxRecDepth 20000 in
theorem wi_wsL_law_r30 : ∀ w ∈ wsL_law_r30, w ∈ lw_tbl := mem_fm [573, 574, 575, 576, 578, 14, 579, 580, 582, 15, 583, 584, 585, 978, 979, 980, 981, 586, 587, 588, 589, 982, 983, 984] (by decide +kernel)
set_option maxRecDepth 20000 in
theorem wi_wsL_law_r31 : ∀ w ∈ wsL_law_r31, w ∈ lw_tbl := mem_fm [985, 986, 987, 988, 590, 591, 592, 593, 989, 990, 991, 992, 594, 595, 596, 597, 598, 600, 16, 601, 602, 603, 604, 605] (by decide +kernel)
set_option maxRecDepth 20000 in
theorem wi_wsL_law_r32 : ∀ w ∈ wsL_law_r32, w ∈ lw_tbl := mem_fm [606, 608, 17, 609, 993, 994, 995, 996, 610, 611, 612, 613, 614, 616, 18, 617, 618, 620, 19, 621, 622, 624, 20, 625] (by decide +kernel)
set_option maxRecDepth 20000 in
theorem wi_wsL_law_r33 : ∀ w ∈ wsL_law_r33, w ∈ lw_tbl := mem_fm [997, 998, 999, 1000, 1001, 1003, 45, 1004, 626, 627, 628, 629, 630, 631, 633, 21, 634, 635, 637, 22, 638, 639, 641, 23] (by decide +kernel)
set_option maxRecDepth 20000 in
theorem wi_wsL_law_r34 : ∀ w ∈ wsL_law_r34, w ∈ lw_tbl := mem_fm [642, 643, 644, 645, 646, 647, 648, 1005, 1006, 1007, 1008, 1009, 1011, 46, 1012, 1013, 1014, 1015, 1016, 1017, 1018, 1019, 649, 650] (by decide +kernel)
set_option maxRecDepth 20000 in
theorem wi_wsL_law_r35 : ∀ w ∈ wsL_law_r35, w ∈ lw_tbl := mem_fm [651, 652, 653, 654, 655, 656, 1020, 1021, 1022, 1023, 1024, 1026, 47, 1027, 657, 658, 659, 660, 661, 663, 24, 664, 665, 667] (by decide +kernel)
set_option maxRecDepth 20000 in
theorem wi_wsL_law_r36 : ∀ w ∈ wsL_law_r36, w ∈ lw_tbl := mem_fm [25, 668, 669, 671, 26, 672, 1028, 1029, 1030, 1031, 730, 673, 674, 675, 676, 1032, 1033, 1034, 1035, 677, 678, 679, 680, 1036] (by decide +kernel)
set_option maxRecDepth 20000 in
theorem wi_wsL_law_r37 : ∀ w ∈ wsL_law_r37, w ∈ lw_tbl := mem_fm [1037, 1038, 1039, 681, 682, 683, 684, 1040, 1041, 1042, 1043, 685, 686, 687, 688, 689, 690, 691, 692, 693, 694, 695, 696, 697] (by decide +kernel)
set_option maxRecDepth 20000 in
theorem wi_wsL_law_r38 : ∀ w ∈ wsL_law_r38, w ∈ lw_tbl := mem_fm [1044, 1045, 1046, 1047, 733, 1048, 1050, 48, 1051, 1052, 1053, 1054, 698, 699, 700, 701, 81, 1055, 1056, 1057, 1058, 725, 702, 703] (by decide +kernel)
set_option maxRecDepth 20000 in
theorem wi_wsL_law_r39 : ∀ w ∈ wsL_law_r39, w ∈ lw_tbl := mem_fm [704, 705, 1059, 1060, 1061, 1062, 706, 707, 708, 709, 79, 710, 712, 27, 713, 1063, 1064, 1065, 1066] (by decide +kernel)
theorem wi_wsX00 : ∀ w ∈ wsX00, w ∈ lw_tbl := by decide +kernel
theorem wi_wsX10 : ∀ w ∈ wsX10, w ∈ lw_tbl := by decide +kernel
theorem wi_wsX20 : ∀ w ∈ wsX20, w ∈ lw_tbl := by decide +kernel
theorem wi_wsX30 : ∀ w ∈ wsX30, w ∈ lw_tbl := by decide +kernel
set_option maxRecDepth 20000 in
theorem wsL_law_in : ∀ w ∈ wsL_law, w ∈ lw_tbl := by
  unfold wsL_law
  exact List.forall_mem_append.mpr ⟨List.forall_mem_append.mpr ⟨List.forall_mem_append.mpr ⟨List.forall_mem_append.mpr ⟨List.forall_mem_append.mpr ⟨List.forall_mem_append.mpr ⟨wi_wsL_law_r1, List.forall_mem_append.mpr ⟨wi_wsL_law_r2, List.forall_mem_append.mpr ⟨wi_wsL_law_r3, List.forall_mem_append.mpr ⟨wi_wsL_law_r4, List.forall_mem_append.mpr ⟨wi_wsL_law_r5, List.forall_mem_append.mpr ⟨wi_wsL_law_r6, List.forall_mem_append.mpr ⟨wi_wsL_law_r7, List.forall_mem_append.mpr ⟨wi_wsL_law_r8, List.forall_mem_append.mpr ⟨wi_wsL_law_r9, List.forall_mem_append.mpr ⟨wi_wsL_law_r10, List.forall_mem_append.mpr ⟨wi_wsL_law_r11, List.forall_mem_append.mpr ⟨wi_wsL_law_r12, List.forall_mem_append.mpr ⟨wi_wsL_law_r13, List.forall_mem_append.mpr ⟨wi_wsL_law_r14, List.forall_mem_append.mpr ⟨wi_wsL_law_r15, List.forall_mem_append.mpr ⟨wi_wsL_law_r16, List.forall_mem_append.mpr ⟨wi_wsL_law_r17, List.forall_mem_append.mpr ⟨wi_wsL_law_r18, List.forall_mem_append.mpr ⟨wi_wsL_law_r19, List.forall_mem_append.mpr ⟨wi_wsL_law_r20, List.forall_mem_append.mpr ⟨wi_wsL_law_r21, List.forall_mem_append.mpr ⟨wi_wsL_law_r22, List.forall_mem_append.mpr ⟨wi_wsL_law_r23, List.forall_mem_append.mpr ⟨wi_wsL_law_r24, List.forall_mem_append.mpr ⟨wi_wsL_law_r25, List.forall_mem_append.mpr ⟨wi_wsL_law_r26, List.forall_mem_append.mpr ⟨wi_wsL_law_r27, List.forall_mem_append.mpr ⟨wi_wsL_law_r28, List.forall_mem_append.mpr ⟨wi_wsL_law_r29, List.forall_mem_append.mpr ⟨wi_wsL_law_r30, List.forall_mem_append.mpr ⟨wi_wsL_law_r31, List.forall_mem_append.mpr ⟨wi_wsL_law_r32, List.forall_mem_append.mpr ⟨wi_wsL_law_r33, List.forall_mem_append.mpr ⟨wi_wsL_law_r34, List.forall_mem_append.mpr ⟨wi_wsL_law_r35, List.forall_mem_append.mpr ⟨wi_wsL_law_r36, List.forall_mem_append.mpr ⟨wi_wsL_law_r37, List.forall_mem_append.mpr ⟨wi_wsL_law_r38, wi_wsL_law_r39⟩⟩⟩⟩⟩⟩⟩⟩⟩⟩⟩⟩⟩⟩⟩⟩⟩⟩⟩⟩⟩⟩⟩⟩⟩⟩⟩⟩⟩⟩⟩⟩⟩⟩⟩⟩⟩⟩, wi_wsX20⟩, wi_wsX30⟩, wi_wsX00⟩, wi_wsX10⟩, fun _ h => absurd h List.not_mem_nil⟩
