set_option maxRecDepth 20000 in
theorem lwi_e1 : wsL_law_r1 = [49, 50, 40, 549, 550, 47, 827, 51, 52, 53, 54, 55, 56, 57, 58, 41, 205, 144, 145, 44, 206, 207, 182, 208].filterMap (fun i => lw_tbl[i]?) := by decide +kernel
theorem lwi_r1 : ∀ w ∈ wsL_law_r1, w ∈ lw_tbl := fun w hw => by
  rw [lwi_e1] at hw
  obtain ⟨i, -, hi⟩ := List.mem_filterMap.mp hw
  exact List.mem_of_getElem? hi
set_option maxRecDepth 20000 in
theorem lwi_e2 : wsL_law_r2 = [161, 162, 45, 209, 203, 168, 46, 210, 59, 60, 61, 62, 114, 115, 63, 117, 119, 67, 69, 68, 42, 70, 43, 72].filterMap (fun i => lw_tbl[i]?) := by decide +kernel
theorem lwi_r2 : ∀ w ∈ wsL_law_r2, w ∈ lw_tbl := fun w hw => by
  rw [lwi_e2] at hw
  obtain ⟨i, -, hi⟩ := List.mem_filterMap.mp hw
  exact List.mem_of_getElem? hi
set_option maxRecDepth 20000 in
theorem lwi_e3 : wsL_law_r3 = [73, 74, 146, 147, 148, 149, 150, 153, 152, 164, 165, 166, 183, 184, 167, 185, 170, 171, 172, 173, 551, 552, 553, 554].filterMap (fun i => lw_tbl[i]?) := by decide +kernel
theorem lwi_r3 : ∀ w ∈ wsL_law_r3, w ∈ lw_tbl := fun w hw => by
  rw [lwi_e3] at hw
  obtain ⟨i, -, hi⟩ := List.mem_filterMap.mp hw
  exact List.mem_of_getElem? hi
set_option maxRecDepth 20000 in
theorem lwi_e4 : wsL_law_r4 = [555, 556, 557, 559, 560, 561, 563, 565, 224, 225, 226, 227, 228, 229, 230, 231, 154, 232, 233, 234, 235, 121, 123, 125].filterMap (fun i => lw_tbl[i]?) := by decide +kernel
theorem lwi_r4 : ∀ w ∈ wsL_law_r4, w ∈ lw_tbl := fun w hw => by
  rw [lwi_e4] at hw
  obtain ⟨i, -, hi⟩ := List.mem_filterMap.mp hw
  exact List.mem_of_getElem? hi
set_option maxRecDepth 20000 in
theorem lwi_e5 : wsL_law_r5 = [127, 236, 237, 238, 239, 75, 78, 81, 83, 86, 89, 91, 94, 240, 241, 242, 243, 247, 248, 249, 251, 0, 252, 253].filterMap (fun i => lw_tbl[i]?) := by decide +kernel
theorem lwi_r5 : ∀ w ∈ wsL_law_r5, w ∈ lw_tbl := fun w hw => by
  rw [lwi_e5] at hw
  obtain ⟨i, -, hi⟩ := List.mem_filterMap.mp hw
  exact List.mem_of_getElem? hi
set_option maxRecDepth 20000 in
theorem lwi_e6 : wsL_law_r6 = [254, 255, 256, 257, 259, 1, 260, 607, 608, 609, 610, 611, 612, 613, 614, 616, 10, 617, 558, 261, 262, 263, 264, 265].filterMap (fun i => lw_tbl[i]?) := by decide +kernel
theorem lwi_r6 : ∀ w ∈ wsL_law_r6, w ∈ lw_tbl := fun w hw => by
  rw [lwi_e6] at hw
  obtain ⟨i, -, hi⟩ := List.mem_filterMap.mp hw
  exact List.mem_of_getElem? hi
set_option maxRecDepth 20000 in
theorem lwi_e7 : wsL_law_r7 = [266, 267, 268, 269, 270, 271, 272, 618, 619, 620, 621, 622, 624, 11, 625, 626, 628, 12, 629, 630, 631, 632, 273, 274].filterMap (fun i => lw_tbl[i]?) := by decide +kernel
theorem lwi_r7 : ∀ w ∈ wsL_law_r7, w ∈ lw_tbl := fun w hw => by
  rw [lwi_e7] at hw
  obtain ⟨i, -, hi⟩ := List.mem_filterMap.mp hw
  exact List.mem_of_getElem? hi
set_option maxRecDepth 20000 in
theorem lwi_e8 : wsL_law_r8 = [275, 276, 277, 278, 279, 280, 633, 634, 635, 636, 637, 639, 13, 640, 641, 643, 14, 644, 281, 282, 283, 284, 285, 286].filterMap (fun i => lw_tbl[i]?) := by decide +kernel
theorem lwi_r8 : ∀ w ∈ wsL_law_r8, w ∈ lw_tbl := fun w hw => by
  rw [lwi_e8] at hw
  obtain ⟨i, -, hi⟩ := List.mem_filterMap.mp hw
  exact List.mem_of_getElem? hi
set_option maxRecDepth 20000 in
theorem lwi_e9 : wsL_law_r9 = [287, 288, 84, 289, 290, 291, 292, 645, 646, 647, 648, 649, 651, 15, 652, 293, 294, 295, 296, 297, 299, 2, 300, 122].filterMap (fun i => lw_tbl[i]?) := by decide +kernel
theorem lwi_r9 : ∀ w ∈ wsL_law_r9, w ∈ lw_tbl := fun w hw => by
  rw [lwi_e9] at hw
  obtain ⟨i, -, hi⟩ := List.mem_filterMap.mp hw
  exact List.mem_of_getElem? hi
set_option maxRecDepth 20000 in
theorem lwi_e10 : wsL_law_r10 = [176, 301, 302, 303, 304, 174, 305, 306, 307, 308, 309, 310, 311, 312, 175, 313, 314, 315, 316, 77, 321, 322, 48, 323].filterMap (fun i => lw_tbl[i]?) := by decide +kernel
theorem lwi_r10 : ∀ w ∈ wsL_law_r10, w ∈ lw_tbl := fun w hw => by
  rw [lwi_e10] at hw
  obtain ⟨i, -, hi⟩ := List.mem_filterMap.mp hw
  exact List.mem_of_getElem? hi
set_option maxRecDepth 20000 in
theorem lwi_e11 : wsL_law_r11 = [317, 318, 319, 320, 324, 325, 326, 327, 80, 328, 329, 330, 331, 332, 333, 334, 335, 336, 337, 338, 339, 340, 341, 342].filterMap (fun i => lw_tbl[i]?) := by decide +kernel
theorem lwi_r11 : ∀ w ∈ wsL_law_r11, w ∈ lw_tbl := fun w hw => by
  rw [lwi_e11] at hw
  obtain ⟨i, -, hi⟩ := List.mem_filterMap.mp hw
  exact List.mem_of_getElem? hi
set_option maxRecDepth 20000 in
theorem lwi_e12 : wsL_law_r12 = [343, 344, 345, 346, 347, 348, 653, 654, 655, 656, 657, 659, 16, 660, 564, 661, 663, 17, 664, 665, 667, 18, 668, 669].filterMap (fun i => lw_tbl[i]?) := by decide +kernel
theorem lwi_r12 : ∀ w ∈ wsL_law_r12, w ∈ lw_tbl := fun w hw => by
  rw [lwi_e12] at hw
  obtain ⟨i, -, hi⟩ := List.mem_filterMap.mp hw
  exact List.mem_of_getElem? hi
set_option maxRecDepth 20000 in
theorem lwi_e13 : wsL_law_r13 = [671, 19, 672, 673, 675, 20, 676, 677, 678, 679, 680, 682, 21, 683, 684, 686, 22, 687, 688, 690, 23, 691, 349, 350].filterMap (fun i => lw_tbl[i]?) := by decide +kernel
theorem lwi_r13 : ∀ w ∈ wsL_law_r13, w ∈ lw_tbl := fun w hw => by
  rw [lwi_e13] at hw
  obtain ⟨i, -, hi⟩ := List.mem_filterMap.mp hw
  exact List.mem_of_getElem? hi
set_option maxRecDepth 20000 in
theorem lwi_e14 : wsL_law_r14 = [351, 352, 353, 354, 355, 356, 357, 358, 359, 360, 361, 362, 363, 364, 365, 96, 692, 693, 694, 695, 696, 698, 24, 699].filterMap (fun i => lw_tbl[i]?) := by decide +kernel
theorem lwi_r14 : ∀ w ∈ wsL_law_r14, w ∈ lw_tbl := fun w hw => by
  rw [lwi_e14] at hw
  obtain ⟨i, -, hi⟩ := List.mem_filterMap.mp hw
  exact List.mem_of_getElem? hi
set_option maxRecDepth 20000 in
theorem lwi_e15 : wsL_law_r15 = [700, 702, 25, 703, 704, 706, 26, 707, 708, 709, 711, 27, 712, 713, 714, 715, 366, 367, 368, 369, 370, 371, 372, 373].filterMap (fun i => lw_tbl[i]?) := by decide +kernel
theorem lwi_r15 : ∀ w ∈ wsL_law_r15, w ∈ lw_tbl := fun w hw => by
  rw [lwi_e15] at hw
  obtain ⟨i, -, hi⟩ := List.mem_filterMap.mp hw
  exact List.mem_of_getElem? hi
set_option maxRecDepth 20000 in
theorem lwi_e16 : wsL_law_r16 = [88, 716, 717, 718, 719, 720, 722, 28, 723, 374, 375, 376, 377, 118, 76, 79, 82, 85, 87, 379, 90, 95, 116, 92].filterMap (fun i => lw_tbl[i]?) := by decide +kernel
theorem lwi_r16 : ∀ w ∈ wsL_law_r16, w ∈ lw_tbl := fun w hw => by
  rw [lwi_e16] at hw
  obtain ⟨i, -, hi⟩ := List.mem_filterMap.mp hw
  exact List.mem_of_getElem? hi
set_option maxRecDepth 20000 in
theorem lwi_e17 : wsL_law_r17 = [378, 380, 381, 382, 724, 725, 726, 727, 728, 729, 731, 29, 732, 383, 384, 385, 386, 120, 387, 388, 389, 390, 733, 734].filterMap (fun i => lw_tbl[i]?) := by decide +kernel
theorem lwi_r17 : ∀ w ∈ wsL_law_r17, w ∈ lw_tbl := fun w hw => by
  rw [lwi_e17] at hw
  obtain ⟨i, -, hi⟩ := List.mem_filterMap.mp hw
  exact List.mem_of_getElem? hi
set_option maxRecDepth 20000 in
theorem lwi_e18 : wsL_law_r18 = [735, 736, 391, 392, 393, 394, 126, 124, 128, 188, 155, 395, 396, 397, 398, 399, 400, 401, 402, 403, 404, 405, 406, 407].filterMap (fun i => lw_tbl[i]?) := by decide +kernel
theorem lwi_r18 : ∀ w ∈ wsL_law_r18, w ∈ lw_tbl := fun w hw => by
  rw [lwi_e18] at hw
  obtain ⟨i, -, hi⟩ := List.mem_filterMap.mp hw
  exact List.mem_of_getElem? hi
set_option maxRecDepth 20000 in
theorem lwi_e19 : wsL_law_r19 = [408, 409, 410, 411, 93, 737, 738, 739, 740, 562, 741, 743, 30, 744, 412, 413, 414, 415, 416, 745, 746, 747, 748, 417].filterMap (fun i => lw_tbl[i]?) := by decide +kernel
theorem lwi_r19 : ∀ w ∈ wsL_law_r19, w ∈ lw_tbl := fun w hw => by
  rw [lwi_e19] at hw
  obtain ⟨i, -, hi⟩ := List.mem_filterMap.mp hw
  exact List.mem_of_getElem? hi
set_option maxRecDepth 20000 in
theorem lwi_e20 : wsL_law_r20 = [418, 419, 420, 421, 422, 423, 424, 425, 426, 427, 428, 429, 430, 431, 749, 750, 751, 752, 753, 755, 31, 756, 432, 433].filterMap (fun i => lw_tbl[i]?) := by decide +kernel
theorem lwi_r20 : ∀ w ∈ wsL_law_r20, w ∈ lw_tbl := fun w hw => by
  rw [lwi_e20] at hw
  obtain ⟨i, -, hi⟩ := List.mem_filterMap.mp hw
  exact List.mem_of_getElem? hi
set_option maxRecDepth 20000 in
theorem lwi_e21 : wsL_law_r21 = [434, 435, 436, 437, 438, 439, 440, 757, 758, 759, 760, 761, 441, 442, 443, 444, 445, 446, 447, 448, 449, 762, 763, 764].filterMap (fun i => lw_tbl[i]?) := by decide +kernel
theorem lwi_r21 : ∀ w ∈ wsL_law_r21, w ∈ lw_tbl := fun w hw => by
  rw [lwi_e21] at hw
  obtain ⟨i, -, hi⟩ := List.mem_filterMap.mp hw
  exact List.mem_of_getElem? hi
set_option maxRecDepth 20000 in
theorem lwi_e22 : wsL_law_r22 = [765, 450, 451, 452, 453, 454, 455, 456, 457, 766, 767, 768, 769, 458, 459, 460, 461, 462, 463, 464, 465, 466, 467, 468].filterMap (fun i => lw_tbl[i]?) := by decide +kernel
theorem lwi_r22 : ∀ w ∈ wsL_law_r22, w ∈ lw_tbl := fun w hw => by
  rw [lwi_e22] at hw
  obtain ⟨i, -, hi⟩ := List.mem_filterMap.mp hw
  exact List.mem_of_getElem? hi
set_option maxRecDepth 20000 in
theorem lwi_e23 : wsL_law_r23 = [469, 470, 471, 187, 770, 771, 772, 773, 774, 472, 473, 474, 475, 775, 776, 777, 778, 476, 477, 478, 479, 480, 481, 482].filterMap (fun i => lw_tbl[i]?) := by decide +kernel
theorem lwi_r23 : ∀ w ∈ wsL_law_r23, w ∈ lw_tbl := fun w hw => by
  rw [lwi_e23] at hw
  obtain ⟨i, -, hi⟩ := List.mem_filterMap.mp hw
  exact List.mem_of_getElem? hi
set_option maxRecDepth 20000 in
theorem lwi_e24 : wsL_law_r24 = [483, 189, 484, 485, 486, 487, 488, 489, 490, 491, 190, 492, 494, 3, 495, 496, 498, 4, 499, 500, 501, 503, 5, 504].filterMap (fun i => lw_tbl[i]?) := by decide +kernel
theorem lwi_r24 : ∀ w ∈ wsL_law_r24, w ∈ lw_tbl := fun w hw => by
  rw [lwi_e24] at hw
  obtain ⟨i, -, hi⟩ := List.mem_filterMap.mp hw
  exact List.mem_of_getElem? hi
set_option maxRecDepth 20000 in
theorem lwi_e25 : wsL_law_r25 = [505, 506, 507, 508, 509, 511, 6, 512, 513, 515, 7, 516, 779, 780, 781, 782, 567, 566, 783, 785, 32, 786, 787, 789].filterMap (fun i => lw_tbl[i]?) := by decide +kernel
theorem lwi_r25 : ∀ w ∈ wsL_law_r25, w ∈ lw_tbl := fun w hw => by
  rw [lwi_e25] at hw
  obtain ⟨i, -, hi⟩ := List.mem_filterMap.mp hw
  exact List.mem_of_getElem? hi
set_option maxRecDepth 20000 in
theorem lwi_e26 : wsL_law_r26 = [33, 790, 568, 569, 570, 571, 791, 793, 34, 794, 795, 797, 35, 798, 799, 801, 36, 802, 803, 805, 37, 806, 807, 809].filterMap (fun i => lw_tbl[i]?) := by decide +kernel
theorem lwi_r26 : ∀ w ∈ wsL_law_r26, w ∈ lw_tbl := fun w hw => by
  rw [lwi_e26] at hw
  obtain ⟨i, -, hi⟩ := List.mem_filterMap.mp hw
  exact List.mem_of_getElem? hi
set_option maxRecDepth 20000 in
theorem lwi_e27 : wsL_law_r27 = [38, 810, 517, 518, 519, 520, 521, 523, 8, 524, 525, 526, 527, 529, 9, 530, 186, 191, 531, 811, 812, 813, 814, 532].filterMap (fun i => lw_tbl[i]?) := by decide +kernel
theorem lwi_r27 : ∀ w ∈ wsL_law_r27, w ∈ lw_tbl := fun w hw => by
  rw [lwi_e27] at hw
  obtain ⟨i, -, hi⟩ := List.mem_filterMap.mp hw
  exact List.mem_of_getElem? hi
set_option maxRecDepth 20000 in
theorem lwi_e28 : wsL_law_r28 = [533, 534, 535, 536, 537, 538, 539, 815, 816, 817, 818, 540, 541, 542, 543, 544, 819, 820, 821, 822, 545, 546, 547, 548].filterMap (fun i => lw_tbl[i]?) := by decide +kernel
theorem lwi_r28 : ∀ w ∈ wsL_law_r28, w ∈ lw_tbl := fun w hw => by
  rw [lwi_e28] at hw
  obtain ⟨i, -, hi⟩ := List.mem_filterMap.mp hw
  exact List.mem_of_getElem? hi
set_option maxRecDepth 20000 in
theorem lwi_e29 : wsL_law_r29 = [823, 824, 825, 826].filterMap (fun i => lw_tbl[i]?) := by decide +kernel
theorem lwi_r29 : ∀ w ∈ wsL_law_r29, w ∈ lw_tbl := fun w hw => by
  rw [lwi_e29] at hw
  obtain ⟨i, -, hi⟩ := List.mem_filterMap.mp hw
  exact List.mem_of_getElem? hi
set_option maxRecDepth 20000 in
theorem inX0 : ∀ w ∈ wsX00, w ∈ lw_tbl := by decide +kernel
set_option maxRecDepth 20000 in
theorem inX1 : ∀ w ∈ wsX10, w ∈ lw_tbl := by decide +kernel
set_option maxRecDepth 20000 in
theorem inX2 : ∀ w ∈ wsX20, w ∈ lw_tbl := by decide +kernel
set_option maxRecDepth 20000 in
theorem inX3 : ∀ w ∈ wsX30, w ∈ lw_tbl := by decide +kernel
set_option maxRecDepth 20000 in
theorem inX4 : ∀ w ∈ wsX40, w ∈ lw_tbl := by decide +kernel
set_option maxRecDepth 20000 in
theorem inX5 : ∀ w ∈ wsX50, w ∈ lw_tbl := by decide +kernel
set_option maxRecDepth 20000 in
theorem inX6 : ∀ w ∈ wsX60, w ∈ lw_tbl := by decide +kernel
theorem wsL_law_in : ∀ w ∈ wsL_law, w ∈ lw_tbl :=
  List.forall_mem_append.mpr ⟨List.forall_mem_append.mpr ⟨List.forall_mem_append.mpr ⟨List.forall_mem_append.mpr ⟨List.forall_mem_append.mpr ⟨List.forall_mem_append.mpr ⟨List.forall_mem_append.mpr ⟨List.forall_mem_append.mpr ⟨List.forall_mem_append.mpr ⟨lwi_r1, List.forall_mem_append.mpr ⟨lwi_r2, List.forall_mem_append.mpr ⟨lwi_r3, List.forall_mem_append.mpr ⟨lwi_r4, List.forall_mem_append.mpr ⟨lwi_r5, List.forall_mem_append.mpr ⟨lwi_r6, List.forall_mem_append.mpr ⟨lwi_r7, List.forall_mem_append.mpr ⟨lwi_r8, List.forall_mem_append.mpr ⟨lwi_r9, List.forall_mem_append.mpr ⟨lwi_r10, List.forall_mem_append.mpr ⟨lwi_r11, List.forall_mem_append.mpr ⟨lwi_r12, List.forall_mem_append.mpr ⟨lwi_r13, List.forall_mem_append.mpr ⟨lwi_r14, List.forall_mem_append.mpr ⟨lwi_r15, List.forall_mem_append.mpr ⟨lwi_r16, List.forall_mem_append.mpr ⟨lwi_r17, List.forall_mem_append.mpr ⟨lwi_r18, List.forall_mem_append.mpr ⟨lwi_r19, List.forall_mem_append.mpr ⟨lwi_r20, List.forall_mem_append.mpr ⟨lwi_r21, List.forall_mem_append.mpr ⟨lwi_r22, List.forall_mem_append.mpr ⟨lwi_r23, List.forall_mem_append.mpr ⟨lwi_r24, List.forall_mem_append.mpr ⟨lwi_r25, List.forall_mem_append.mpr ⟨lwi_r26, List.forall_mem_append.mpr ⟨lwi_r27, List.forall_mem_append.mpr ⟨lwi_r28, lwi_r29⟩⟩⟩⟩⟩⟩⟩⟩⟩⟩⟩⟩⟩⟩⟩⟩⟩⟩⟩⟩⟩⟩⟩⟩⟩⟩⟩⟩, inX5⟩, inX6⟩, inX4⟩, inX1⟩, inX2⟩, inX3⟩, inX0⟩, fun _ h => absurd h List.not_mem_nil⟩
theorem inlX0 : ∀ w ∈ wsX00, w ∈ wsL_law := fun _ h => List.mem_append_left _ (List.mem_append_right _ h)
theorem inlX1 : ∀ w ∈ wsX10, w ∈ wsL_law := fun _ h => List.mem_append_left _ (List.mem_append_left _ (List.mem_append_left _ (List.mem_append_left _ (List.mem_append_right _ h))))
theorem inlX2 : ∀ w ∈ wsX20, w ∈ wsL_law := fun _ h => List.mem_append_left _ (List.mem_append_left _ (List.mem_append_left _ (List.mem_append_right _ h)))
theorem inlX3 : ∀ w ∈ wsX30, w ∈ wsL_law := fun _ h => List.mem_append_left _ (List.mem_append_left _ (List.mem_append_right _ h))
theorem inlX4 : ∀ w ∈ wsX40, w ∈ wsL_law := fun _ h => List.mem_append_left _ (List.mem_append_left _ (List.mem_append_left _ (List.mem_append_left _ (List.mem_append_left _ (List.mem_append_right _ h)))))
theorem inlX5 : ∀ w ∈ wsX50, w ∈ wsL_law := fun _ h => List.mem_append_left _ (List.mem_append_left _ (List.mem_append_left _ (List.mem_append_left _ (List.mem_append_left _ (List.mem_append_left _ (List.mem_append_left _ (List.mem_append_right _ h)))))))
theorem inlX6 : ∀ w ∈ wsX60, w ∈ wsL_law := fun _ h => List.mem_append_left _ (List.mem_append_left _ (List.mem_append_left _ (List.mem_append_left _ (List.mem_append_left _ (List.mem_append_left _ (List.mem_append_right _ h))))))
