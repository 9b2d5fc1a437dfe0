theorem in_pos {big : List Cond} (ws : List Cond) (ps : List Nat) (hp : ws = ps.filterMap (fun i => big[i]?)) : ∀ w ∈ ws, w ∈ big := by
  intro w h
  rw [hp] at h
  obtain ⟨i, -, hi⟩ := List.mem_filterMap.mp h
  exact List.mem_of_getElem? hi
theorem wl_1 : ∀ w ∈ wsL_law_r1, w ∈ lw_tbl := in_pos _ [41, 42, 34, 462, 463, 37, 43, 44, 45, 46, 47, 48, 49, 73, 51, 74, 53, 75, 55, 56, 35, 76, 77, 78] (by decide +kernel)
theorem wl_2 : ∀ w ∈ wsL_law_r2, w ∈ lw_tbl := in_pos _ [79, 80, 81, 82, 83, 57, 58, 59, 60, 65, 61, 62, 36, 63, 72, 64, 464, 465, 466, 467, 559, 468, 469, 470] (by decide +kernel)
theorem wl_3 : ∀ w ∈ wsL_law_r3, w ∈ lw_tbl := in_pos _ [471, 472, 473, 474, 475, 476, 477, 478, 479, 480, 481, 482, 483, 484, 485, 486, 487, 488, 489, 490, 491, 492, 107, 108] (by decide +kernel)
theorem wl_4 : ∀ w ∈ wsL_law_r4, w ∈ lw_tbl := in_pos _ [109, 110, 111, 38, 112, 113, 114, 115, 116, 120, 118, 121, 124, 125, 126, 128, 130, 132, 119, 117, 560, 561, 562, 563] (by decide +kernel)
theorem wl_5 : ∀ w ∈ wsL_law_r5, w ∈ lw_tbl := in_pos _ [567, 564, 565, 566, 153, 154, 155, 156, 157, 158, 159, 160, 161, 162, 164, 0, 165, 166, 167, 168, 169, 568, 569, 570] (by decide +kernel)
theorem wl_6 : ∀ w ∈ wsL_law_r6, w ∈ lw_tbl := in_pos _ [571, 572, 573, 574, 575, 576, 577, 579, 20, 580, 170, 171, 172, 173, 178, 174, 175, 176, 177, 179, 180, 181, 581, 582] (by decide +kernel)
theorem wl_7 : ∀ w ∈ wsL_law_r7, w ∈ lw_tbl := in_pos _ [583, 584, 182, 183, 184, 185, 186, 127, 585, 586, 587, 588, 589, 187, 188, 189, 190, 191, 192, 193, 194, 195, 197, 1] (by decide +kernel)
theorem wl_8 : ∀ w ∈ wsL_law_r8, w ∈ lw_tbl := in_pos _ [198, 199, 201, 2, 202, 203, 204, 205, 206, 207, 209, 3, 210, 211, 212, 213, 214, 215, 216, 217, 218, 219, 220, 222] (by decide +kernel)
theorem wl_9 : ∀ w ∈ wsL_law_r9, w ∈ lw_tbl := in_pos _ [4, 223, 224, 226, 5, 227, 228, 230, 6, 231, 232, 233, 234, 235, 236, 238, 7, 239, 590, 591, 592, 593, 496, 495] (by decide +kernel)
theorem wl_10 : ∀ w ∈ wsL_law_r10, w ∈ lw_tbl := in_pos _ [494, 594, 596, 21, 597, 598, 599, 600, 601, 602, 603, 604, 605, 606, 608, 22, 609, 610, 612, 23, 613, 240, 241, 242] (by decide +kernel)
theorem wl_11 : ∀ w ∈ wsL_law_r11, w ∈ lw_tbl := in_pos _ [243, 244, 245, 246, 247, 248, 614, 615, 616, 617, 249, 250, 251, 252, 253, 254, 255, 256, 257, 258, 259, 260, 618, 619] (by decide +kernel)
theorem wl_12 : ∀ w ∈ wsL_law_r12, w ∈ lw_tbl := in_pos _ [620, 621, 261, 262, 263, 264, 123, 622, 623, 624, 625, 265, 266, 267, 268, 129, 131, 626, 627, 628, 629, 269, 270, 271] (by decide +kernel)
theorem wl_13 : ∀ w ∈ wsL_law_r13, w ∈ lw_tbl := in_pos _ [272, 133, 630, 631, 632, 633, 273, 274, 275, 276, 277, 278, 279, 280, 634, 635, 636, 637, 638, 640, 24, 641, 642, 643] (by decide +kernel)
theorem wl_14 : ∀ w ∈ wsL_law_r14, w ∈ lw_tbl := in_pos _ [644, 281, 282, 283, 284, 289, 39, 285, 287, 8, 288, 290, 291, 292, 293, 294, 295, 296, 297, 298, 645, 646, 647, 648] (by decide +kernel)
theorem wl_15 : ∀ w ∈ wsL_law_r15, w ∈ lw_tbl := in_pos _ [649, 651, 25, 652, 310, 311, 312, 313, 653, 654, 655, 656, 314, 315, 316, 317, 318, 320, 9, 321, 322, 323, 324, 325] (by decide +kernel)
theorem wl_16 : ∀ w ∈ wsL_law_r16, w ∈ lw_tbl := in_pos _ [326, 122, 327, 657, 658, 659, 660, 661, 663, 26, 664, 665, 667, 27, 668, 328, 329, 330, 331, 332, 40, 333, 334, 335] (by decide +kernel)
theorem wl_17 : ∀ w ∈ wsL_law_r17, w ∈ lw_tbl := in_pos _ [336, 339, 340, 342, 337, 669, 670, 671, 672, 353, 354, 355, 356, 341, 357, 359, 10, 360, 361, 362, 363, 364, 673, 674] (by decide +kernel)
theorem wl_18 : ∀ w ∈ wsL_law_r18, w ∈ lw_tbl := in_pos _ [675, 676, 677, 679, 28, 680, 365, 366, 367, 368, 343, 369, 371, 11, 372, 373, 375, 12, 376, 338, 377, 379, 13, 380] (by decide +kernel)
theorem wl_19 : ∀ w ∈ wsL_law_r19, w ∈ lw_tbl := in_pos _ [381, 382, 383, 384, 385, 387, 14, 388, 389, 391, 15, 392, 393, 395, 16, 396, 397, 681, 682, 683, 684, 493, 685, 687] (by decide +kernel)
theorem wl_20 : ∀ w ∈ wsL_law_r20, w ∈ lw_tbl := in_pos _ [29, 688, 689, 691, 30, 692, 497, 693, 695, 31, 696, 398, 399, 400, 401, 697, 698, 699, 700, 402, 403, 404, 405, 701] (by decide +kernel)
theorem wl_21 : ∀ w ∈ wsL_law_r21, w ∈ lw_tbl := in_pos _ [702, 703, 704, 406, 407, 408, 409, 705, 706, 707, 708, 410, 411, 412, 413, 414, 416, 17, 417, 418, 419, 420, 709, 710] (by decide +kernel)
theorem wl_22 : ∀ w ∈ wsL_law_r22, w ∈ lw_tbl := in_pos _ [711, 712, 713, 715, 32, 716, 421, 422, 423, 424, 717, 718, 719, 720, 425, 426, 427, 428, 429, 430, 431, 432, 66, 433] (by decide +kernel)
theorem wl_23 : ∀ w ∈ wsL_law_r23, w ∈ lw_tbl := in_pos _ [434, 435, 436, 721, 722, 723, 724, 437, 438, 439, 440, 441, 442, 443, 444, 725, 726, 727, 728, 445, 446, 447, 448, 449] (by decide +kernel)
theorem wl_24 : ∀ w ∈ wsL_law_r24, w ∈ lw_tbl := in_pos _ [729, 730, 731, 732, 450, 451, 452, 453, 454, 456, 18, 457, 458, 460, 19, 461, 733, 734, 735, 736] (by decide +kernel)
theorem wu_X0 : ∀ w ∈ wsX00, w ∈ lw_tbl := in_pos _ [299, 301, 303, 305, 307] (by decide +kernel)
theorem wu_X1 : ∀ w ∈ wsX10, w ∈ lw_tbl := in_pos _ [134, 136, 138, 140, 142, 144, 146, 148, 150] (by decide +kernel)
theorem wu_X2 : ∀ w ∈ wsX20, w ∈ lw_tbl := in_pos _ [67, 69] (by decide +kernel)
theorem wu_X3 : ∀ w ∈ wsX30, w ∈ lw_tbl := in_pos _ [344, 346, 348, 350] (by decide +kernel)
theorem wu_X4 : ∀ w ∈ wsX40, w ∈ lw_tbl := in_pos _ [84, 86, 88, 90, 92, 94, 96, 98, 100, 102, 104] (by decide +kernel)
theorem wu_X5 : ∀ w ∈ wsX50, w ∈ lw_tbl := in_pos _ [498, 500, 502, 504, 506, 508, 510, 512, 514, 516, 518, 520, 522, 524, 526, 528, 530, 532, 534, 536, 538, 540, 542, 544, 546, 548, 550, 552, 554, 556] (by decide +kernel)
theorem wsL_law_in : ∀ w ∈ wsL_law, w ∈ lw_tbl := by
  intro w h
  unfold wsL_law at h
  simp only [List.mem_append] at h
  rcases h with ((((((h | h) | h) | h) | h) | h) | h) | h
  · rcases h with h | h | h | h | h | h | h | h | h | h | h | h | h | h | h | h | h | h | h | h | h | h | h | h
    · exact wl_1 w h
    · exact wl_2 w h
    · exact wl_3 w h
    · exact wl_4 w h
    · exact wl_5 w h
    · exact wl_6 w h
    · exact wl_7 w h
    · exact wl_8 w h
    · exact wl_9 w h
    · exact wl_10 w h
    · exact wl_11 w h
    · exact wl_12 w h
    · exact wl_13 w h
    · exact wl_14 w h
    · exact wl_15 w h
    · exact wl_16 w h
    · exact wl_17 w h
    · exact wl_18 w h
    · exact wl_19 w h
    · exact wl_20 w h
    · exact wl_21 w h
    · exact wl_22 w h
    · exact wl_23 w h
    · exact wl_24 w h
  · exact wu_X4 w h
  · exact wu_X5 w h
  · exact wu_X2 w h
  · exact wu_X1 w h
  · exact wu_X0 w h
  · exact wu_X3 w h
  · exact absurd h List.not_mem_nil
