theorem rr_pl {big : List Cond} (ws : List Cond) (ps : List Nat) (hp : ws = ps.filterMap (fun i => big[i]?)) : ∀ w ∈ ws, w ∈ big := by
  intro w hw
  rw [hp] at hw
  obtain ⟨i, -, hi⟩ := List.mem_filterMap.mp hw
  exact List.mem_of_getElem? hi
set_option maxRecDepth 20000 in
theorem wsL_law_r1_lin : ∀ w ∈ wsL_law_r1, w ∈ lw_tbl := rr_pl _ [72, 73, 64, 547, 548, 69, 74, 75, 76, 77, 78, 79, 80, 81, 65, 245, 246, 186, 187, 67, 247, 203, 204, 68] (by decide +kernel)
set_option maxRecDepth 20000 in
theorem wsL_law_r2_lin : ∀ w ∈ wsL_law_r2, w ∈ lw_tbl := rr_pl _ [248, 249, 250, 251, 82, 83, 84, 85, 86, 87, 66, 158, 126, 160, 162, 163, 164, 165, 167, 168, 89, 90, 91, 92] (by decide +kernel)
set_option maxRecDepth 20000 in
theorem wsL_law_r3_lin : ∀ w ∈ wsL_law_r3, w ∈ lw_tbl := rr_pl _ [95, 97, 100, 103, 106, 109, 127, 128, 129, 130, 104, 131, 133, 0, 134, 101, 96, 93, 135, 137, 1, 138, 139, 140] (by decide +kernel)
set_option maxRecDepth 20000 in
theorem wsL_law_r4_lin : ∀ w ∈ wsL_law_r4, w ∈ lw_tbl := rr_pl _ [141, 142, 144, 2, 145, 107, 146, 147, 148, 149, 150, 152, 3, 153, 154, 156, 4, 157, 98, 188, 189, 190, 191, 192] (by decide +kernel)
set_option maxRecDepth 20000 in
theorem wsL_law_r5_lin : ∀ w ∈ wsL_law_r5, w ∈ lw_tbl := rr_pl _ [195, 196, 206, 207, 208, 209, 210, 212, 214, 216, 218, 220, 221, 222, 223, 549, 550, 551, 552, 579, 580, 581, 583, 584] (by decide +kernel)
set_option maxRecDepth 20000 in
theorem wsL_law_r6_lin : ∀ w ∈ wsL_law_r6, w ∈ lw_tbl := rr_pl _ [585, 586, 587, 588, 637, 589, 590, 595, 596, 553, 555, 26, 556, 557, 559, 27, 560, 561, 562, 563, 564, 566, 28, 567] (by decide +kernel)
set_option maxRecDepth 20000 in
theorem wsL_law_r7_lin : ∀ w ∈ wsL_law_r7, w ∈ lw_tbl := rr_pl _ [568, 569, 570, 571, 573, 29, 574, 575, 577, 30, 578, 267, 268, 269, 270, 271, 273, 5, 274, 159, 110, 275, 276, 277] (by decide +kernel)
set_option maxRecDepth 20000 in
theorem wsL_law_r8_lin : ∀ w ∈ wsL_law_r8, w ∈ lw_tbl := rr_pl _ [278, 279, 281, 280, 70, 282, 283, 284, 285, 286, 288, 6, 289, 291, 292, 294, 295, 296, 297, 298, 299, 300, 302, 7] (by decide +kernel)
set_option maxRecDepth 20000 in
theorem wsL_law_r9_lin : ∀ w ∈ wsL_law_r9, w ∈ lw_tbl := rr_pl _ [303, 304, 306, 8, 307, 308, 310, 9, 311, 313, 314, 315, 316, 317, 318, 319, 321, 10, 322, 323, 325, 11, 326, 327] (by decide +kernel)
set_option maxRecDepth 20000 in
theorem wsL_law_r10_lin : ∀ w ∈ wsL_law_r10, w ∈ lw_tbl := rr_pl _ [329, 12, 330, 331, 333, 13, 334, 335, 336, 337, 338, 339, 340, 341, 342, 343, 344, 345, 346, 347, 348, 349, 350, 351] (by decide +kernel)
set_option maxRecDepth 20000 in
theorem wsL_law_r11_lin : ∀ w ∈ wsL_law_r11, w ∈ lw_tbl := rr_pl _ [352, 353, 355, 14, 356, 357, 646, 647, 648, 649, 650, 652, 32, 653, 654, 656, 33, 657, 658, 659, 660, 661, 662, 663] (by decide +kernel)
set_option maxRecDepth 20000 in
theorem wsL_law_r12_lin : ∀ w ∈ wsL_law_r12, w ∈ lw_tbl := rr_pl _ [664, 666, 34, 667, 668, 670, 35, 671, 672, 674, 36, 675, 642, 644, 31, 645, 676, 678, 37, 679, 582, 680, 682, 38] (by decide +kernel)
set_option maxRecDepth 20000 in
theorem wsL_law_r13_lin : ∀ w ∈ wsL_law_r13, w ∈ lw_tbl := rr_pl _ [683, 358, 359, 360, 361, 684, 685, 686, 687, 688, 690, 39, 691, 362, 363, 364, 365, 692, 693, 694, 695, 696, 698, 40] (by decide +kernel)
set_option maxRecDepth 20000 in
theorem wsL_law_r14_lin : ∀ w ∈ wsL_law_r14, w ∈ lw_tbl := rr_pl _ [699, 366, 367, 368, 369, 370, 700, 701, 702, 703, 704, 706, 41, 707, 708, 710, 42, 711, 712, 713, 714, 715, 717, 43] (by decide +kernel)
set_option maxRecDepth 20000 in
theorem wsL_law_r15_lin : ∀ w ∈ wsL_law_r15, w ∈ lw_tbl := rr_pl _ [718, 371, 372, 373, 374, 719, 720, 721, 722, 723, 725, 44, 726, 375, 376, 377, 378, 727, 728, 729, 730, 731, 733, 45] (by decide +kernel)
set_option maxRecDepth 20000 in
theorem wsL_law_r16_lin : ∀ w ∈ wsL_law_r16, w ∈ lw_tbl := rr_pl _ [734, 379, 380, 381, 382, 383, 384, 385, 386, 387, 388, 389, 391, 15, 392, 735, 736, 737, 738, 739, 741, 46, 742, 393] (by decide +kernel)
set_option maxRecDepth 20000 in
theorem wsL_law_r17_lin : ∀ w ∈ wsL_law_r17, w ∈ lw_tbl := rr_pl _ [394, 395, 396, 397, 398, 399, 400, 743, 744, 745, 746, 747, 749, 47, 750, 401, 402, 403, 404, 161, 405, 751, 752, 753] (by decide +kernel)
set_option maxRecDepth 20000 in
theorem wsL_law_r18_lin : ∀ w ∈ wsL_law_r18, w ∈ lw_tbl := rr_pl _ [754, 406, 407, 408, 409, 755, 756, 757, 758, 410, 411, 412, 413, 414, 415, 416, 417, 418, 420, 16, 421, 759, 760, 761] (by decide +kernel)
set_option maxRecDepth 20000 in
theorem wsL_law_r19_lin : ∀ w ∈ wsL_law_r19, w ∈ lw_tbl := rr_pl _ [762, 763, 765, 48, 766, 422, 423, 424, 425, 166, 426, 427, 767, 768, 769, 770, 428, 429, 430, 431, 432, 433, 434, 435] (by decide +kernel)
set_option maxRecDepth 20000 in
theorem wsL_law_r20_lin : ∀ w ∈ wsL_law_r20, w ∈ lw_tbl := rr_pl _ [771, 772, 773, 774, 775, 777, 49, 778, 436, 437, 438, 439, 440, 442, 17, 443, 779, 780, 781, 782, 783, 785, 50, 786] (by decide +kernel)
set_option maxRecDepth 20000 in
theorem wsL_law_r21_lin : ∀ w ∈ wsL_law_r21, w ∈ lw_tbl := rr_pl _ [444, 445, 446, 447, 787, 788, 789, 790, 448, 449, 450, 451, 102, 105, 108, 452, 453, 454, 455, 456, 457, 458, 459, 460] (by decide +kernel)
set_option maxRecDepth 20000 in
theorem wsL_law_r22_lin : ∀ w ∈ wsL_law_r22, w ∈ lw_tbl := rr_pl _ [461, 462, 463, 464, 465, 466, 71, 467, 791, 792, 793, 794, 795, 797, 51, 798, 799, 801, 52, 802, 803, 805, 53, 806] (by decide +kernel)
set_option maxRecDepth 20000 in
theorem wsL_law_r23_lin : ∀ w ∈ wsL_law_r23, w ∈ lw_tbl := rr_pl _ [807, 809, 54, 810, 468, 469, 470, 471, 211, 472, 473, 474, 475, 811, 812, 813, 814, 591, 476, 477, 478, 479, 815, 816] (by decide +kernel)
set_option maxRecDepth 20000 in
theorem wsL_law_r24_lin : ∀ w ∈ wsL_law_r24, w ∈ lw_tbl := rr_pl _ [817, 818, 480, 481, 482, 483, 219, 213, 215, 217, 484, 485, 486, 487, 488, 490, 18, 491, 492, 493, 494, 495, 497, 19] (by decide +kernel)
set_option maxRecDepth 20000 in
theorem wsL_law_r25_lin : ∀ w ∈ wsL_law_r25, w ∈ lw_tbl := rr_pl _ [498, 499, 501, 20, 502, 503, 504, 505, 506, 508, 21, 509, 510, 512, 22, 513, 514, 516, 23, 517, 819, 820, 821, 822] (by decide +kernel)
set_option maxRecDepth 20000 in
theorem wsL_law_r26_lin : ∀ w ∈ wsL_law_r26, w ∈ lw_tbl := rr_pl _ [592, 593, 594, 823, 825, 55, 826, 827, 829, 56, 830, 831, 832, 833, 834, 836, 57, 837, 838, 840, 58, 841, 842, 844] (by decide +kernel)
set_option maxRecDepth 20000 in
theorem wsL_law_r27_lin : ∀ w ∈ wsL_law_r27, w ∈ lw_tbl := rr_pl _ [59, 845, 846, 848, 60, 849, 518, 519, 520, 521, 197, 522, 523, 524, 525, 638, 639, 640, 641, 526, 527, 528, 529, 850] (by decide +kernel)
set_option maxRecDepth 20000 in
theorem wsL_law_r28_lin : ∀ w ∈ wsL_law_r28, w ∈ lw_tbl := rr_pl _ [851, 852, 853, 854, 856, 61, 857, 530, 531, 532, 533, 534, 535, 536, 537, 538, 539, 541, 24, 542, 94, 543, 545, 25] (by decide +kernel)
set_option maxRecDepth 20000 in
theorem wsL_law_r29_lin : ∀ w ∈ wsL_law_r29, w ∈ lw_tbl := rr_pl _ [546, 99, 858, 859, 860, 861, 862, 597, 863, 865, 62, 866, 867] (by decide +kernel)
set_option maxRecDepth 20000 in
theorem wsX40_lin : ∀ w ∈ wsX40, w ∈ lw_tbl := rr_pl _ [252, 254, 256, 258, 260, 262, 264] (by decide +kernel)
set_option maxRecDepth 20000 in
theorem wsX50_lin : ∀ w ∈ wsX50, w ∈ lw_tbl := rr_pl _ [598, 600, 602, 604, 606, 608, 610, 612, 614, 616, 618, 620, 622, 624, 626, 628, 630, 632, 634] (by decide +kernel)
set_option maxRecDepth 20000 in
theorem wsX10_lin : ∀ w ∈ wsX10, w ∈ lw_tbl := rr_pl _ [169, 171, 173, 175, 177, 179, 181, 183] (by decide +kernel)
set_option maxRecDepth 20000 in
theorem wsX00_lin : ∀ w ∈ wsX00, w ∈ lw_tbl := rr_pl _ [198, 200] (by decide +kernel)
set_option maxRecDepth 20000 in
theorem wsX20_lin : ∀ w ∈ wsX20, w ∈ lw_tbl := rr_pl _ [224, 226, 228, 230, 232, 234, 236, 238, 240, 242] (by decide +kernel)
set_option maxRecDepth 20000 in
theorem wsX30_lin : ∀ w ∈ wsX30, w ∈ lw_tbl := rr_pl _ [111, 113, 115, 117, 119, 121, 123] (by decide +kernel)
theorem wsL_law_in : ∀ w ∈ wsL_law, w ∈ lw_tbl := List.forall_mem_append.mpr ⟨List.forall_mem_append.mpr ⟨List.forall_mem_append.mpr ⟨List.forall_mem_append.mpr ⟨List.forall_mem_append.mpr ⟨List.forall_mem_append.mpr ⟨List.forall_mem_append.mpr ⟨List.forall_mem_append.mpr ⟨wsL_law_r1_lin, List.forall_mem_append.mpr ⟨wsL_law_r2_lin, List.forall_mem_append.mpr ⟨wsL_law_r3_lin, List.forall_mem_append.mpr ⟨wsL_law_r4_lin, List.forall_mem_append.mpr ⟨wsL_law_r5_lin, List.forall_mem_append.mpr ⟨wsL_law_r6_lin, List.forall_mem_append.mpr ⟨wsL_law_r7_lin, List.forall_mem_append.mpr ⟨wsL_law_r8_lin, List.forall_mem_append.mpr ⟨wsL_law_r9_lin, List.forall_mem_append.mpr ⟨wsL_law_r10_lin, List.forall_mem_append.mpr ⟨wsL_law_r11_lin, List.forall_mem_append.mpr ⟨wsL_law_r12_lin, List.forall_mem_append.mpr ⟨wsL_law_r13_lin, List.forall_mem_append.mpr ⟨wsL_law_r14_lin, List.forall_mem_append.mpr ⟨wsL_law_r15_lin, List.forall_mem_append.mpr ⟨wsL_law_r16_lin, List.forall_mem_append.mpr ⟨wsL_law_r17_lin, List.forall_mem_append.mpr ⟨wsL_law_r18_lin, List.forall_mem_append.mpr ⟨wsL_law_r19_lin, List.forall_mem_append.mpr ⟨wsL_law_r20_lin, List.forall_mem_append.mpr ⟨wsL_law_r21_lin, List.forall_mem_append.mpr ⟨wsL_law_r22_lin, List.forall_mem_append.mpr ⟨wsL_law_r23_lin, List.forall_mem_append.mpr ⟨wsL_law_r24_lin, List.forall_mem_append.mpr ⟨wsL_law_r25_lin, List.forall_mem_append.mpr ⟨wsL_law_r26_lin, List.forall_mem_append.mpr ⟨wsL_law_r27_lin, List.forall_mem_append.mpr ⟨wsL_law_r28_lin, wsL_law_r29_lin⟩⟩⟩⟩⟩⟩⟩⟩⟩⟩⟩⟩⟩⟩⟩⟩⟩⟩⟩⟩⟩⟩⟩⟩⟩⟩⟩⟩, wsX40_lin⟩, wsX50_lin⟩, wsX10_lin⟩, wsX00_lin⟩, wsX20_lin⟩, wsX30_lin⟩, fun _ h => absurd h List.not_mem_nil⟩
