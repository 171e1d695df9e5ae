set_option maxRecDepth 20000 in
theorem lin_1 : ∀ w ∈ wsL_law_r1, w ∈ lw_tbl := fun w h => (goodIn_r wsL_law_r1 [51, 52, 40, 486, 487, 47, 53, 54, 55, 56, 57, 58, 59, 60, 41, 165, 75, 76, 42, 166, 91, 92, 43, 167] (by decide +kernel) (by decide +kernel) w h).1
set_option maxRecDepth 20000 in
theorem lin_2 : ∀ w ∈ wsL_law_r2, w ∈ lw_tbl := fun w h => (goodIn_r wsL_law_r2 [133, 134, 45, 168, 146, 147, 46, 169, 62, 63, 64, 74, 65, 67, 78, 79, 80, 90, 81, 83, 93, 94, 95, 96] (by decide +kernel) (by decide +kernel) w h).1
set_option maxRecDepth 20000 in
theorem lin_3 : ∀ w ∈ wsL_law_r3, w ∈ lw_tbl := fun w h => (goodIn_r wsL_law_r3 [100, 102, 104, 105, 106, 109, 112, 114, 97, 98, 44, 99, 135, 136, 137, 138, 140, 139, 148, 149, 150, 151, 153, 154] (by decide +kernel) (by decide +kernel) w h).1
set_option maxRecDepth 20000 in
theorem lin_4 : ∀ w ∈ wsL_law_r4, w ∈ lw_tbl := fun w h => (goodIn_r wsL_law_r4 [155, 152, 488, 489, 490, 491, 493, 495, 497, 498, 501, 502, 504, 181, 182, 183, 184, 185, 186, 187, 188, 535, 536, 537] (by decide +kernel) (by decide +kernel) w h).1
set_option maxRecDepth 20000 in
theorem lin_5 : ∀ w ∈ wsL_law_r5, w ∈ lw_tbl := fun w h => (goodIn_r wsL_law_r5 [538, 492, 539, 540, 541, 189, 190, 191, 192, 193, 194, 195, 196, 542, 543, 544, 545, 197, 198, 199, 200, 201, 202, 203] (by decide +kernel) (by decide +kernel) w h).1
set_option maxRecDepth 20000 in
theorem lin_6 : ∀ w ∈ wsL_law_r6, w ∈ lw_tbl := fun w h => (goodIn_r wsL_law_r6 [204, 205, 206, 207, 208, 209, 210, 212, 213, 546, 547, 548, 549, 550, 552, 11, 553, 554, 555, 556, 214, 215, 216, 217] (by decide +kernel) (by decide +kernel) w h).1
set_option maxRecDepth 20000 in
theorem lin_7 : ∀ w ∈ wsL_law_r7, w ∈ lw_tbl := fun w h => (goodIn_r wsL_law_r7 [218, 219, 220, 221, 222, 223, 48, 224, 225, 226, 227, 228, 229, 230, 231, 232, 557, 558, 559, 560, 494, 561, 563, 12] (by decide +kernel) (by decide +kernel) w h).1
set_option maxRecDepth 20000 in
theorem lin_8 : ∀ w ∈ wsL_law_r8, w ∈ lw_tbl := fun w h => (goodIn_r wsL_law_r8 [564, 233, 234, 235, 236, 237, 238, 239, 240, 241, 242, 243, 244, 245, 246, 565, 566, 567, 568, 569, 571, 13, 572, 248] (by decide +kernel) (by decide +kernel) w h).1
set_option maxRecDepth 20000 in
theorem lin_9 : ∀ w ∈ wsL_law_r9, w ∈ lw_tbl := fun w h => (goodIn_r wsL_law_r9 [249, 250, 251, 252, 253, 254, 255, 256, 573, 574, 575, 576, 577, 579, 14, 580, 581, 583, 15, 584, 257, 258, 259, 260] (by decide +kernel) (by decide +kernel) w h).1
set_option maxRecDepth 20000 in
theorem lin_10 : ∀ w ∈ wsL_law_r10, w ∈ lw_tbl := fun w h => (goodIn_r wsL_law_r10 [261, 262, 263, 264, 265, 266, 267, 268, 270, 271, 272, 273, 274, 276, 0, 277, 278, 279, 280, 281, 282, 284, 1, 285] (by decide +kernel) (by decide +kernel) w h).1
set_option maxRecDepth 20000 in
theorem lin_11 : ∀ w ∈ wsL_law_r11, w ∈ lw_tbl := fun w h => (goodIn_r wsL_law_r11 [585, 586, 587, 588, 496, 589, 590, 591, 286, 287, 288, 289, 290, 592, 593, 594, 595, 596, 598, 16, 599, 291, 292, 293] (by decide +kernel) (by decide +kernel) w h).1
set_option maxRecDepth 20000 in
theorem lin_12 : ∀ w ∈ wsL_law_r12, w ∈ lw_tbl := fun w h => (goodIn_r wsL_law_r12 [294, 295, 296, 297, 298, 299, 300, 301, 302, 303, 304, 305, 306, 307, 308, 309, 310, 311, 313, 2, 314, 315, 316, 317] (by decide +kernel) (by decide +kernel) w h).1
set_option maxRecDepth 20000 in
theorem lin_13 : ∀ w ∈ wsL_law_r13, w ∈ lw_tbl := fun w h => (goodIn_r wsL_law_r13 [318, 600, 601, 602, 603, 499, 604, 606, 17, 607, 608, 610, 18, 611, 319, 320, 321, 322, 323, 324, 325, 326, 327, 612] (by decide +kernel) (by decide +kernel) w h).1
set_option maxRecDepth 20000 in
theorem lin_14 : ∀ w ∈ wsL_law_r14, w ∈ lw_tbl := fun w h => (goodIn_r wsL_law_r14 [613, 614, 615, 328, 329, 330, 331, 616, 617, 618, 619, 332, 333, 334, 335, 336, 337, 338, 339, 340, 341, 342, 343, 344] (by decide +kernel) (by decide +kernel) w h).1
set_option maxRecDepth 20000 in
theorem lin_15 : ∀ w ∈ wsL_law_r15, w ∈ lw_tbl := fun w h => (goodIn_r wsL_law_r15 [345, 346, 347, 348, 349, 350, 351, 352, 354, 3, 355, 356, 357, 652, 653, 654, 655, 656, 658, 25, 659, 660, 662, 26] (by decide +kernel) (by decide +kernel) w h).1
set_option maxRecDepth 20000 in
theorem lin_16 : ∀ w ∈ wsL_law_r16, w ∈ lw_tbl := fun w h => (goodIn_r wsL_law_r16 [663, 648, 650, 24, 651, 664, 666, 27, 667, 668, 670, 28, 671, 628, 630, 20, 631, 632, 634, 21, 635, 358, 359, 360] (by decide +kernel) (by decide +kernel) w h).1
set_option maxRecDepth 20000 in
theorem lin_17 : ∀ w ∈ wsL_law_r17, w ∈ lw_tbl := fun w h => (goodIn_r wsL_law_r17 [361, 362, 363, 364, 365, 366, 620, 621, 622, 623, 624, 626, 19, 627, 367, 368, 369, 370, 371, 372, 373, 374, 375, 376] (by decide +kernel) (by decide +kernel) w h).1
set_option maxRecDepth 20000 in
theorem lin_18 : ∀ w ∈ wsL_law_r18, w ∈ lw_tbl := fun w h => (goodIn_r wsL_law_r18 [378, 4, 379, 380, 381, 382, 384, 5, 385, 386, 387, 388, 389, 636, 637, 638, 639, 500, 640, 642, 22, 643, 644, 646] (by decide +kernel) (by decide +kernel) w h).1
set_option maxRecDepth 20000 in
theorem lin_19 : ∀ w ∈ wsL_law_r19, w ∈ lw_tbl := fun w h => (goodIn_r wsL_law_r19 [23, 647, 390, 391, 392, 393, 394, 395, 396, 397, 398, 399, 400, 401, 402, 403, 404, 405, 672, 673, 674, 675, 503, 676] (by decide +kernel) (by decide +kernel) w h).1
set_option maxRecDepth 20000 in
theorem lin_20 : ∀ w ∈ wsL_law_r20, w ∈ lw_tbl := fun w h => (goodIn_r wsL_law_r20 [678, 29, 679, 680, 682, 30, 683, 407, 408, 409, 410, 411, 412, 413, 414, 415, 417, 6, 418, 419, 420, 422, 7, 423] (by decide +kernel) (by decide +kernel) w h).1
set_option maxRecDepth 20000 in
theorem lin_21 : ∀ w ∈ wsL_law_r21, w ∈ lw_tbl := fun w h => (goodIn_r wsL_law_r21 [424, 425, 49, 426, 427, 428, 429, 684, 685, 686, 687, 688, 690, 31, 691, 692, 693, 694, 430, 431, 432, 433, 434, 435] (by decide +kernel) (by decide +kernel) w h).1
set_option maxRecDepth 20000 in
theorem lin_22 : ∀ w ∈ wsL_law_r22, w ∈ lw_tbl := fun w h => (goodIn_r wsL_law_r22 [436, 437, 695, 696, 697, 698, 699, 701, 32, 702, 703, 705, 33, 706, 438, 439, 440, 441, 442, 443, 444, 445, 446, 447] (by decide +kernel) (by decide +kernel) w h).1
set_option maxRecDepth 20000 in
theorem lin_23 : ∀ w ∈ wsL_law_r23, w ∈ lw_tbl := fun w h => (goodIn_r wsL_law_r23 [448, 449, 50, 450, 451, 452, 453, 454, 455, 456, 457, 707, 708, 709, 710, 711, 713, 34, 714, 715, 717, 35, 718, 719] (by decide +kernel) (by decide +kernel) w h).1
set_option maxRecDepth 20000 in
theorem lin_24 : ∀ w ∈ wsL_law_r24, w ∈ lw_tbl := fun w h => (goodIn_r wsL_law_r24 [721, 36, 722, 458, 459, 460, 461, 462, 463, 465, 8, 466, 467, 468, 469, 470, 471, 472, 474, 9, 475, 476, 477, 478] (by decide +kernel) (by decide +kernel) w h).1
set_option maxRecDepth 20000 in
theorem lin_25 : ∀ w ∈ wsL_law_r25, w ∈ lw_tbl := fun w h => (goodIn_r wsL_law_r25 [479, 481, 10, 482, 483, 484, 485, 723, 724, 725, 726, 727, 505, 728, 730, 37, 731, 732, 733, 735, 38, 736] (by decide +kernel) (by decide +kernel) w h).1
theorem in_X0 : ∀ w ∈ wsX00, w ∈ lw_tbl := by decide +kernel
theorem in_X1 : ∀ w ∈ wsX10, w ∈ lw_tbl := by decide +kernel
theorem in_X2 : ∀ w ∈ wsX20, w ∈ lw_tbl := by decide +kernel
theorem in_X3 : ∀ w ∈ wsX30, w ∈ lw_tbl := by decide +kernel
theorem in_X5 : ∀ w ∈ wsX50, w ∈ lw_tbl := by decide +kernel
theorem in_X6 : ∀ w ∈ wsX60, w ∈ lw_tbl := by decide +kernel
theorem in_X7 : ∀ w ∈ wsX70, w ∈ lw_tbl := by decide +kernel
