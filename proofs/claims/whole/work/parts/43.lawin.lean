set_option maxRecDepth 20000 in
theorem in_wsL_law0_r1 : ∀ w ∈ wsL_law0_r1, w ∈ lw_tbl := fun w h => by
  have e : wsL_law0_r1 = ([60, 61, 43, 698, 699, 48, 97, 1069, 62, 63, 64, 65, 66, 67, 68, 69, 44, 180, 181, 99, 100, 45, 182, 115] : List Nat).filterMap (fun i => lw_tbl[i]?) := rfl
  rw [e] at h
  obtain ⟨i, -, hi⟩ := List.mem_filterMap.mp h
  exact List.mem_of_getElem? hi
set_option maxRecDepth 20000 in
theorem in_wsL_law0_r2 : ∀ w ∈ wsL_law0_r2, w ∈ lw_tbl := fun w h => by
  have e : wsL_law0_r2 = ([116, 46, 183, 146, 147, 47, 184, 70, 71, 72, 73, 96, 74, 75, 76, 98, 77, 78, 79, 101, 102, 103, 104, 105] : List Nat).filterMap (fun i => lw_tbl[i]?) := rfl
  rw [e] at h
  obtain ⟨i, -, hi⟩ := List.mem_filterMap.mp h
  exact List.mem_of_getElem? hi
set_option maxRecDepth 20000 in
theorem in_wsL_law0_r3 : ∀ w ∈ wsL_law0_r3, w ∈ lw_tbl := fun w h => by
  have e : wsL_law0_r3 = ([106, 117, 118, 119, 120, 121, 122, 123, 124, 128, 148, 149, 150, 151, 152, 153, 154, 155, 156, 157, 158, 159, 700, 701] : List Nat).filterMap (fun i => lw_tbl[i]?) := rfl
  rw [e] at h
  obtain ⟨i, -, hi⟩ := List.mem_filterMap.mp h
  exact List.mem_of_getElem? hi
set_option maxRecDepth 20000 in
theorem in_wsL_law0_r4 : ∀ w ∈ wsL_law0_r4, w ∈ lw_tbl := fun w h => by
  have e : wsL_law0_r4 = ([702, 703, 769, 770, 771, 772, 773, 774, 775, 776, 704, 705, 706, 707, 708, 709, 710, 711, 712, 713, 714, 715, 716, 717] : List Nat).filterMap (fun i => lw_tbl[i]?) := rfl
  rw [e] at h
  obtain ⟨i, -, hi⟩ := List.mem_filterMap.mp h
  exact List.mem_of_getElem? hi
set_option maxRecDepth 20000 in
theorem in_wsL_law0_r5 : ∀ w ∈ wsL_law0_r5, w ∈ lw_tbl := fun w h => by
  have e : wsL_law0_r5 = ([718, 719, 720, 721, 722, 723, 724, 725, 726, 727, 728, 729, 730, 731, 732, 733, 734, 735, 736, 737, 738, 739, 740, 741] : List Nat).filterMap (fun i => lw_tbl[i]?) := rfl
  rw [e] at h
  obtain ⟨i, -, hi⟩ := List.mem_filterMap.mp h
  exact List.mem_of_getElem? hi
set_option maxRecDepth 20000 in
theorem in_wsL_law0_r6 : ∀ w ∈ wsL_law0_r6, w ∈ lw_tbl := fun w h => by
  have e : wsL_law0_r6 = ([742, 743, 744, 745, 746, 747, 748, 749, 750, 751, 752, 753, 754, 755, 756, 757, 758, 759, 760, 761, 762, 763, 764, 765] : List Nat).filterMap (fun i => lw_tbl[i]?) := rfl
  rw [e] at h
  obtain ⟨i, -, hi⟩ := List.mem_filterMap.mp h
  exact List.mem_of_getElem? hi
set_option maxRecDepth 20000 in
theorem in_wsL_law0_r7 : ∀ w ∈ wsL_law0_r7, w ∈ lw_tbl := fun w h => by
  have e : wsL_law0_r7 = ([766, 767, 777, 781, 783, 785, 788, 789, 790, 791, 793, 794, 795, 797, 798, 799, 800, 801, 425, 426, 42, 427, 428, 429] : List Nat).filterMap (fun i => lw_tbl[i]?) := rfl
  rw [e] at h
  obtain ⟨i, -, hi⟩ := List.mem_filterMap.mp h
  exact List.mem_of_getElem? hi
set_option maxRecDepth 20000 in
theorem in_wsL_law0_r8 : ∀ w ∈ wsL_law0_r8, w ∈ lw_tbl := fun w h => by
  have e : wsL_law0_r8 = ([430, 431, 432, 433, 52, 200, 201, 202, 203, 204, 205, 206, 207, 208, 209, 211, 0, 212, 350, 351, 352, 353, 80, 221] : List Nat).filterMap (fun i => lw_tbl[i]?) := rfl
  rw [e] at h
  obtain ⟨i, -, hi⟩ := List.mem_filterMap.mp h
  exact List.mem_of_getElem? hi
set_option maxRecDepth 20000 in
theorem in_wsL_law0_r9 : ∀ w ∈ wsL_law0_r9, w ∈ lw_tbl := fun w h => by
  have e : wsL_law0_r9 = ([222, 223, 224, 226, 1, 227, 228, 229, 230, 231, 232, 234, 2, 235, 237, 238, 239, 240, 241, 242, 244, 245, 246, 248] : List Nat).filterMap (fun i => lw_tbl[i]?) := rfl
  rw [e] at h
  obtain ⟨i, -, hi⟩ := List.mem_filterMap.mp h
  exact List.mem_of_getElem? hi
set_option maxRecDepth 20000 in
theorem in_wsL_law0_r10 : ∀ w ∈ wsL_law0_r10, w ∈ lw_tbl := fun w h => by
  have e : wsL_law0_r10 = ([3, 249, 251, 252, 253, 254, 255, 256, 260, 257, 258, 53, 259, 261, 262, 263, 264, 266, 4, 267, 268, 269, 270, 271] : List Nat).filterMap (fun i => lw_tbl[i]?) := rfl
  rw [e] at h
  obtain ⟨i, -, hi⟩ := List.mem_filterMap.mp h
  exact List.mem_of_getElem? hi
set_option maxRecDepth 20000 in
theorem in_wsL_law0_r11 : ∀ w ∈ wsL_law0_r11, w ∈ lw_tbl := fun w h => by
  have e : wsL_law0_r11 = ([272, 273, 54, 274, 275, 276, 277, 278, 279, 281, 283, 282, 55, 107, 284, 285, 286, 287, 288, 290, 5, 291, 292, 293] : List Nat).filterMap (fun i => lw_tbl[i]?) := rfl
  rw [e] at h
  obtain ⟨i, -, hi⟩ := List.mem_filterMap.mp h
  exact List.mem_of_getElem? hi
set_option maxRecDepth 20000 in
theorem in_wsL_law0_r12 : ∀ w ∈ wsL_law0_r12, w ∈ lw_tbl := fun w h => by
  have e : wsL_law0_r12 = ([294, 295, 297, 6, 298, 299, 302, 303, 304, 305, 306, 307, 308, 309, 311, 7, 312, 313, 315, 8, 316, 317, 318, 319] : List Nat).filterMap (fun i => lw_tbl[i]?) := rfl
  rw [e] at h
  obtain ⟨i, -, hi⟩ := List.mem_filterMap.mp h
  exact List.mem_of_getElem? hi
set_option maxRecDepth 20000 in
theorem in_wsL_law0_r13 : ∀ w ∈ wsL_law0_r13, w ∈ lw_tbl := fun w h => by
  have e : wsL_law0_r13 = ([320, 321, 323, 9, 324, 326, 328, 10, 329, 502, 503, 504, 505, 875, 876, 877, 878, 768, 879, 880, 881, 882, 883, 884] : List Nat).filterMap (fun i => lw_tbl[i]?) := rfl
  rw [e] at h
  obtain ⟨i, -, hi⟩ := List.mem_filterMap.mp h
  exact List.mem_of_getElem? hi
set_option maxRecDepth 20000 in
theorem in_wsL_law0_r14 : ∀ w ∈ wsL_law0_r14, w ∈ lw_tbl := fun w h => by
  have e : wsL_law0_r14 = ([885, 887, 20, 888, 889, 890, 891, 892, 894, 21, 895, 896, 898, 22, 899, 871, 872, 873, 874, 196, 197, 198, 199, 213] : List Nat).filterMap (fun i => lw_tbl[i]?) := rfl
  rw [e] at h
  obtain ⟨i, -, hi⟩ := List.mem_filterMap.mp h
  exact List.mem_of_getElem? hi
set_option maxRecDepth 20000 in
theorem in_wsL_law0_r15 : ∀ w ∈ wsL_law0_r15, w ∈ lw_tbl := fun w h => by
  have e : wsL_law0_r15 = ([214, 215, 216, 217, 218, 219, 220, 900, 901, 902, 903, 904, 906, 23, 907, 330, 331, 332, 333, 334, 335, 336, 337, 338] : List Nat).filterMap (fun i => lw_tbl[i]?) := rfl
  rw [e] at h
  obtain ⟨i, -, hi⟩ := List.mem_filterMap.mp h
  exact List.mem_of_getElem? hi
set_option maxRecDepth 20000 in
theorem in_wsL_law0_r16 : ∀ w ∈ wsL_law0_r16, w ∈ lw_tbl := fun w h => by
  have e : wsL_law0_r16 = ([339, 340, 341, 908, 909, 910, 911, 342, 343, 344, 345, 346, 347, 348, 349, 912, 913, 914, 915, 506, 507, 508, 509, 510] : List Nat).filterMap (fun i => lw_tbl[i]?) := rfl
  rw [e] at h
  obtain ⟨i, -, hi⟩ := List.mem_filterMap.mp h
  exact List.mem_of_getElem? hi
set_option maxRecDepth 20000 in
theorem in_wsL_law0_r17 : ∀ w ∈ wsL_law0_r17, w ∈ lw_tbl := fun w h => by
  have e : wsL_law0_r17 = ([511, 512, 513, 514, 56, 916, 917, 918, 919, 354, 355, 356, 357, 358, 359, 360, 361, 125, 127, 920, 921, 922, 923, 778] : List Nat).filterMap (fun i => lw_tbl[i]?) := rfl
  rw [e] at h
  obtain ⟨i, -, hi⟩ := List.mem_filterMap.mp h
  exact List.mem_of_getElem? hi
set_option maxRecDepth 20000 in
theorem in_wsL_law0_r18 : ∀ w ∈ wsL_law0_r18, w ∈ lw_tbl := fun w h => by
  have e : wsL_law0_r18 = ([779, 780, 784, 530, 531, 532, 533, 534, 535, 536, 537, 542, 57, 538, 539, 540, 541, 558, 559, 560, 561, 126, 583, 562] : List Nat).filterMap (fun i => lw_tbl[i]?) := rfl
  rw [e] at h
  obtain ⟨i, -, hi⟩ := List.mem_filterMap.mp h
  exact List.mem_of_getElem? hi
set_option maxRecDepth 20000 in
theorem in_wsL_law0_r19 : ∀ w ∈ wsL_law0_r19, w ∈ lw_tbl := fun w h => by
  have e : wsL_law0_r19 = ([564, 12, 565, 419, 420, 567, 385, 386, 387, 568, 570, 13, 571, 573, 574, 576, 14, 577, 578, 579, 581, 15, 582, 924] : List Nat).filterMap (fun i => lw_tbl[i]?) := rfl
  rw [e] at h
  obtain ⟨i, -, hi⟩ := List.mem_filterMap.mp h
  exact List.mem_of_getElem? hi
set_option maxRecDepth 20000 in
theorem in_wsL_law0_r20 : ∀ w ∈ wsL_law0_r20, w ∈ lw_tbl := fun w h => by
  have e : wsL_law0_r20 = ([925, 926, 927, 782, 928, 930, 24, 931, 932, 934, 25, 935, 936, 938, 26, 939, 796, 940, 942, 27, 943, 944, 945, 946] : List Nat).filterMap (fun i => lw_tbl[i]?) := rfl
  rw [e] at h
  obtain ⟨i, -, hi⟩ := List.mem_filterMap.mp h
  exact List.mem_of_getElem? hi
set_option maxRecDepth 20000 in
theorem in_wsL_law0_r21 : ∀ w ∈ wsL_law0_r21, w ∈ lw_tbl := fun w h => by
  have e : wsL_law0_r21 = ([947, 948, 949, 950, 952, 28, 953, 954, 956, 29, 957, 958, 960, 30, 961, 962, 964, 31, 965, 966, 968, 32, 969, 970] : List Nat).filterMap (fun i => lw_tbl[i]?) := rfl
  rw [e] at h
  obtain ⟨i, -, hi⟩ := List.mem_filterMap.mp h
  exact List.mem_of_getElem? hi
set_option maxRecDepth 20000 in
theorem in_wsL_law0_r22 : ∀ w ∈ wsL_law0_r22, w ∈ lw_tbl := fun w h => by
  have e : wsL_law0_r22 = ([971, 972, 973, 974, 975, 976, 977, 978, 980, 33, 981, 982, 983, 984, 985, 987, 34, 988, 992, 989, 990, 991, 993, 995] : List Nat).filterMap (fun i => lw_tbl[i]?) := rfl
  rw [e] at h
  obtain ⟨i, -, hi⟩ := List.mem_filterMap.mp h
  exact List.mem_of_getElem? hi
set_option maxRecDepth 20000 in
theorem in_wsL_law0_r23 : ∀ w ∈ wsL_law0_r23, w ∈ lw_tbl := fun w h => by
  have e : wsL_law0_r23 = ([35, 996, 997, 999, 36, 1000, 362, 363, 364, 365, 366, 367, 368, 369, 1001, 1002, 1003, 1004, 370, 371, 372, 373, 374, 375] : List Nat).filterMap (fun i => lw_tbl[i]?) := rfl
  rw [e] at h
  obtain ⟨i, -, hi⟩ := List.mem_filterMap.mp h
  exact List.mem_of_getElem? hi
set_option maxRecDepth 20000 in
theorem in_wsL_law0_r24 : ∀ w ∈ wsL_law0_r24, w ∈ lw_tbl := fun w h => by
  have e : wsL_law0_r24 = ([376, 377, 1005, 1006, 1007, 1008, 380, 381, 382, 383, 384, 1009, 1010, 1011, 1012, 584, 585, 586, 587, 588, 589, 590, 592, 593] : List Nat).filterMap (fun i => lw_tbl[i]?) := rfl
  rw [e] at h
  obtain ⟨i, -, hi⟩ := List.mem_filterMap.mp h
  exact List.mem_of_getElem? hi
set_option maxRecDepth 20000 in
theorem in_wsL_law0_r25 : ∀ w ∈ wsL_law0_r25, w ∈ lw_tbl := fun w h => by
  have e : wsL_law0_r25 = ([594, 595, 160, 596, 597, 598, 599, 600, 601, 602, 603, 604, 605, 606, 607, 610, 612, 16, 613, 614, 615, 616, 617, 618] : List Nat).filterMap (fun i => lw_tbl[i]?) := rfl
  rw [e] at h
  obtain ⟨i, -, hi⟩ := List.mem_filterMap.mp h
  exact List.mem_of_getElem? hi
set_option maxRecDepth 20000 in
theorem in_wsL_law0_r26 : ∀ w ∈ wsL_law0_r26, w ∈ lw_tbl := fun w h => by
  have e : wsL_law0_r26 = ([619, 621, 17, 622, 623, 625, 18, 626, 627, 629, 19, 630, 631, 632, 633, 634, 635, 636, 637, 638, 639, 1013, 1014, 1015] : List Nat).filterMap (fun i => lw_tbl[i]?) := rfl
  rw [e] at h
  obtain ⟨i, -, hi⟩ := List.mem_filterMap.mp h
  exact List.mem_of_getElem? hi
set_option maxRecDepth 20000 in
theorem in_wsL_law0_r27 : ∀ w ∈ wsL_law0_r27, w ∈ lw_tbl := fun w h => by
  have e : wsL_law0_r27 = ([1016, 786, 787, 792, 1017, 1019, 37, 1020, 1025, 1021, 1023, 38, 1024, 1026, 1028, 39, 1029, 1030, 1032, 40, 1033, 388, 389, 390] : List Nat).filterMap (fun i => lw_tbl[i]?) := rfl
  rw [e] at h
  obtain ⟨i, -, hi⟩ := List.mem_filterMap.mp h
  exact List.mem_of_getElem? hi
set_option maxRecDepth 20000 in
theorem in_wsL_law0_r28 : ∀ w ∈ wsL_law0_r28, w ∈ lw_tbl := fun w h => by
  have e : wsL_law0_r28 = ([391, 392, 393, 394, 395, 396, 397, 398, 399, 1034, 1035, 1036, 1037, 640, 641, 642, 643, 644, 645, 646, 647, 649, 650, 651] : List Nat).filterMap (fun i => lw_tbl[i]?) := rfl
  rw [e] at h
  obtain ⟨i, -, hi⟩ := List.mem_filterMap.mp h
  exact List.mem_of_getElem? hi
set_option maxRecDepth 20000 in
theorem in_wsL_law0_r29 : ∀ w ∈ wsL_law0_r29, w ∈ lw_tbl := fun w h => by
  have e : wsL_law0_r29 = ([652, 1038, 1039, 1040, 1041, 653, 654, 655, 657, 658, 659, 660, 661, 662, 59, 418, 682, 683, 684, 685, 1042, 1043, 1044, 1045] : List Nat).filterMap (fun i => lw_tbl[i]?) := rfl
  rw [e] at h
  obtain ⟨i, -, hi⟩ := List.mem_filterMap.mp h
  exact List.mem_of_getElem? hi
set_option maxRecDepth 20000 in
theorem in_wsL_law0_r30 : ∀ w ∈ wsL_law0_r30, w ∈ lw_tbl := fun w h => by
  have e : wsL_law0_r30 = ([1046, 1047, 1048, 686, 687, 688, 689, 690, 691, 692, 694, 695, 696, 697, 1049, 1050, 1051, 1052, 402, 403, 404, 405, 406, 407] : List Nat).filterMap (fun i => lw_tbl[i]?) := rfl
  rw [e] at h
  obtain ⟨i, -, hi⟩ := List.mem_filterMap.mp h
  exact List.mem_of_getElem? hi
set_option maxRecDepth 20000 in
theorem in_wsL_law0_r31 : ∀ w ∈ wsL_law0_r31, w ∈ lw_tbl := fun w h => by
  have e : wsL_law0_r31 = ([408, 409, 1053, 1054, 1055, 1056, 1057, 1059, 41, 1060, 410, 411, 412, 413, 1061, 1062, 1063, 1064, 414, 415, 416, 417, 421, 422] : List Nat).filterMap (fun i => lw_tbl[i]?) := rfl
  rw [e] at h
  obtain ⟨i, -, hi⟩ := List.mem_filterMap.mp h
  exact List.mem_of_getElem? hi
set_option maxRecDepth 20000 in
theorem in_wsL_law0_r32 : ∀ w ∈ wsL_law0_r32, w ∈ lw_tbl := fun w h => by
  have e : wsL_law0_r32 = ([423, 424, 1065, 1066, 1067, 1068] : List Nat).filterMap (fun i => lw_tbl[i]?) := rfl
  rw [e] at h
  obtain ⟨i, -, hi⟩ := List.mem_filterMap.mp h
  exact List.mem_of_getElem? hi
