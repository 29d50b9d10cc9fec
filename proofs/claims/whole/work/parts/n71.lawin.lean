set_option maxRecDepth 20000 in
theorem lwi_e1 : wsL_law_r1 = [49, 50, 40, 556, 557, 47, 834, 51, 52, 53, 54, 55, 56, 57, 58, 41, 205, 144, 145, 44, 206, 207, 182, 208].filterMap (fun i => lw_tbl[i]?) := by decide +kernel
theorem lwi_r1 : ∀ w ∈ wsL_law_r1, w ∈ lw_tbl := fun w hw => by
  rw [lwi_e1] at hw
  obtain ⟨i, -, hi⟩ := List.mem_filterMap.mp hw
  exact List.mem_of_getElem? hi
set_option maxRecDepth 20000 in
theorem lwi_e2 : wsL_law_r2 = [161, 162, 45, 209, 203, 168, 46, 210, 114, 211, 59, 60, 61, 62, 115, 63, 117, 119, 67, 69, 68, 42, 70, 43].filterMap (fun i => lw_tbl[i]?) := by decide +kernel
theorem lwi_r2 : ∀ w ∈ wsL_law_r2, w ∈ lw_tbl := fun w hw => by
  rw [lwi_e2] at hw
  obtain ⟨i, -, hi⟩ := List.mem_filterMap.mp hw
  exact List.mem_of_getElem? hi
set_option maxRecDepth 20000 in
theorem lwi_e3 : wsL_law_r3 = [72, 73, 74, 146, 147, 148, 149, 150, 153, 152, 164, 165, 166, 183, 184, 167, 185, 170, 171, 172, 173, 558, 559, 560].filterMap (fun i => lw_tbl[i]?) := by decide +kernel
theorem lwi_r3 : ∀ w ∈ wsL_law_r3, w ∈ lw_tbl := fun w hw => by
  rw [lwi_e3] at hw
  obtain ⟨i, -, hi⟩ := List.mem_filterMap.mp hw
  exact List.mem_of_getElem? hi
set_option maxRecDepth 20000 in
theorem lwi_e4 : wsL_law_r4 = [561, 562, 563, 564, 566, 567, 568, 570, 572, 227, 228, 229, 230, 231, 232, 233, 234, 154, 235, 236, 237, 238, 121, 123].filterMap (fun i => lw_tbl[i]?) := by decide +kernel
theorem lwi_r4 : ∀ w ∈ wsL_law_r4, w ∈ lw_tbl := fun w hw => by
  rw [lwi_e4] at hw
  obtain ⟨i, -, hi⟩ := List.mem_filterMap.mp hw
  exact List.mem_of_getElem? hi
set_option maxRecDepth 20000 in
theorem lwi_e5 : wsL_law_r5 = [125, 127, 239, 240, 241, 242, 75, 78, 81, 83, 86, 89, 91, 94, 243, 244, 245, 246, 250, 251, 252, 254, 0, 255].filterMap (fun i => lw_tbl[i]?) := by decide +kernel
theorem lwi_r5 : ∀ w ∈ wsL_law_r5, w ∈ lw_tbl := fun w hw => by
  rw [lwi_e5] at hw
  obtain ⟨i, -, hi⟩ := List.mem_filterMap.mp hw
  exact List.mem_of_getElem? hi
set_option maxRecDepth 20000 in
theorem lwi_e6 : wsL_law_r6 = [256, 257, 258, 259, 260, 262, 1, 263, 614, 615, 616, 617, 618, 619, 620, 621, 623, 10, 624, 565, 264, 265, 266, 267].filterMap (fun i => lw_tbl[i]?) := by decide +kernel
theorem lwi_r6 : ∀ w ∈ wsL_law_r6, w ∈ lw_tbl := fun w hw => by
  rw [lwi_e6] at hw
  obtain ⟨i, -, hi⟩ := List.mem_filterMap.mp hw
  exact List.mem_of_getElem? hi
set_option maxRecDepth 20000 in
theorem lwi_e7 : wsL_law_r7 = [268, 269, 270, 271, 272, 273, 274, 275, 625, 626, 627, 628, 629, 631, 11, 632, 633, 635, 12, 636, 637, 638, 639, 276].filterMap (fun i => lw_tbl[i]?) := by decide +kernel
theorem lwi_r7 : ∀ w ∈ wsL_law_r7, w ∈ lw_tbl := fun w hw => by
  rw [lwi_e7] at hw
  obtain ⟨i, -, hi⟩ := List.mem_filterMap.mp hw
  exact List.mem_of_getElem? hi
set_option maxRecDepth 20000 in
theorem lwi_e8 : wsL_law_r8 = [277, 278, 279, 280, 281, 282, 283, 640, 641, 642, 643, 644, 646, 13, 647, 648, 650, 14, 651, 284, 285, 286, 287, 288].filterMap (fun i => lw_tbl[i]?) := by decide +kernel
theorem lwi_r8 : ∀ w ∈ wsL_law_r8, w ∈ lw_tbl := fun w hw => by
  rw [lwi_e8] at hw
  obtain ⟨i, -, hi⟩ := List.mem_filterMap.mp hw
  exact List.mem_of_getElem? hi
set_option maxRecDepth 20000 in
theorem lwi_e9 : wsL_law_r9 = [289, 290, 291, 84, 292, 293, 294, 295, 652, 653, 654, 655, 656, 658, 15, 659, 296, 297, 298, 299, 300, 302, 2, 303].filterMap (fun i => lw_tbl[i]?) := by decide +kernel
theorem lwi_r9 : ∀ w ∈ wsL_law_r9, w ∈ lw_tbl := fun w hw => by
  rw [lwi_e9] at hw
  obtain ⟨i, -, hi⟩ := List.mem_filterMap.mp hw
  exact List.mem_of_getElem? hi
set_option maxRecDepth 20000 in
theorem lwi_e10 : wsL_law_r10 = [122, 176, 304, 305, 306, 307, 174, 308, 309, 310, 311, 312, 313, 314, 315, 175, 316, 317, 318, 319, 77, 324, 325, 48].filterMap (fun i => lw_tbl[i]?) := by decide +kernel
theorem lwi_r10 : ∀ w ∈ wsL_law_r10, w ∈ lw_tbl := fun w hw => by
  rw [lwi_e10] at hw
  obtain ⟨i, -, hi⟩ := List.mem_filterMap.mp hw
  exact List.mem_of_getElem? hi
set_option maxRecDepth 20000 in
theorem lwi_e11 : wsL_law_r11 = [326, 320, 321, 322, 323, 327, 328, 329, 330, 80, 331, 332, 333, 334, 335, 336, 337, 338, 339, 340, 341, 342, 343, 344].filterMap (fun i => lw_tbl[i]?) := by decide +kernel
theorem lwi_r11 : ∀ w ∈ wsL_law_r11, w ∈ lw_tbl := fun w hw => by
  rw [lwi_e11] at hw
  obtain ⟨i, -, hi⟩ := List.mem_filterMap.mp hw
  exact List.mem_of_getElem? hi
set_option maxRecDepth 20000 in
theorem lwi_e12 : wsL_law_r12 = [345, 346, 347, 348, 349, 350, 351, 660, 661, 662, 663, 664, 666, 16, 667, 571, 668, 670, 17, 671, 672, 674, 18, 675].filterMap (fun i => lw_tbl[i]?) := by decide +kernel
theorem lwi_r12 : ∀ w ∈ wsL_law_r12, w ∈ lw_tbl := fun w hw => by
  rw [lwi_e12] at hw
  obtain ⟨i, -, hi⟩ := List.mem_filterMap.mp hw
  exact List.mem_of_getElem? hi
set_option maxRecDepth 20000 in
theorem lwi_e13 : wsL_law_r13 = [676, 678, 19, 679, 680, 682, 20, 683, 684, 685, 686, 687, 689, 21, 690, 691, 693, 22, 694, 695, 697, 23, 698, 352].filterMap (fun i => lw_tbl[i]?) := by decide +kernel
theorem lwi_r13 : ∀ w ∈ wsL_law_r13, w ∈ lw_tbl := fun w hw => by
  rw [lwi_e13] at hw
  obtain ⟨i, -, hi⟩ := List.mem_filterMap.mp hw
  exact List.mem_of_getElem? hi
set_option maxRecDepth 20000 in
theorem lwi_e14 : wsL_law_r14 = [353, 354, 355, 356, 357, 358, 359, 360, 361, 362, 363, 364, 365, 366, 367, 368, 96, 699, 700, 701, 702, 703, 705, 24].filterMap (fun i => lw_tbl[i]?) := by decide +kernel
theorem lwi_r14 : ∀ w ∈ wsL_law_r14, w ∈ lw_tbl := fun w hw => by
  rw [lwi_e14] at hw
  obtain ⟨i, -, hi⟩ := List.mem_filterMap.mp hw
  exact List.mem_of_getElem? hi
set_option maxRecDepth 20000 in
theorem lwi_e15 : wsL_law_r15 = [706, 707, 709, 25, 710, 711, 713, 26, 714, 715, 716, 718, 27, 719, 720, 721, 722, 369, 370, 371, 372, 373, 374, 375].filterMap (fun i => lw_tbl[i]?) := by decide +kernel
theorem lwi_r15 : ∀ w ∈ wsL_law_r15, w ∈ lw_tbl := fun w hw => by
  rw [lwi_e15] at hw
  obtain ⟨i, -, hi⟩ := List.mem_filterMap.mp hw
  exact List.mem_of_getElem? hi
set_option maxRecDepth 20000 in
theorem lwi_e16 : wsL_law_r16 = [376, 88, 723, 724, 725, 726, 727, 729, 28, 730, 377, 378, 379, 380, 118, 76, 79, 82, 85, 87, 382, 90, 95, 116].filterMap (fun i => lw_tbl[i]?) := by decide +kernel
theorem lwi_r16 : ∀ w ∈ wsL_law_r16, w ∈ lw_tbl := fun w hw => by
  rw [lwi_e16] at hw
  obtain ⟨i, -, hi⟩ := List.mem_filterMap.mp hw
  exact List.mem_of_getElem? hi
set_option maxRecDepth 20000 in
theorem lwi_e17 : wsL_law_r17 = [92, 381, 383, 384, 385, 731, 732, 733, 734, 735, 736, 738, 29, 739, 386, 387, 388, 389, 120, 390, 391, 392, 393, 740].filterMap (fun i => lw_tbl[i]?) := by decide +kernel
theorem lwi_r17 : ∀ w ∈ wsL_law_r17, w ∈ lw_tbl := fun w hw => by
  rw [lwi_e17] at hw
  obtain ⟨i, -, hi⟩ := List.mem_filterMap.mp hw
  exact List.mem_of_getElem? hi
set_option maxRecDepth 20000 in
theorem lwi_e18 : wsL_law_r18 = [741, 742, 743, 394, 395, 396, 397, 126, 124, 128, 188, 155, 398, 399, 400, 401, 402, 403, 404, 405, 406, 407, 408, 409].filterMap (fun i => lw_tbl[i]?) := by decide +kernel
theorem lwi_r18 : ∀ w ∈ wsL_law_r18, w ∈ lw_tbl := fun w hw => by
  rw [lwi_e18] at hw
  obtain ⟨i, -, hi⟩ := List.mem_filterMap.mp hw
  exact List.mem_of_getElem? hi
set_option maxRecDepth 20000 in
theorem lwi_e19 : wsL_law_r19 = [410, 411, 412, 413, 414, 93, 744, 745, 746, 747, 569, 748, 750, 30, 751, 415, 416, 417, 418, 419, 752, 753, 754, 755].filterMap (fun i => lw_tbl[i]?) := by decide +kernel
theorem lwi_r19 : ∀ w ∈ wsL_law_r19, w ∈ lw_tbl := fun w hw => by
  rw [lwi_e19] at hw
  obtain ⟨i, -, hi⟩ := List.mem_filterMap.mp hw
  exact List.mem_of_getElem? hi
set_option maxRecDepth 20000 in
theorem lwi_e20 : wsL_law_r20 = [420, 421, 422, 423, 424, 425, 426, 427, 428, 429, 430, 431, 432, 433, 434, 756, 757, 758, 759, 760, 762, 31, 763, 435].filterMap (fun i => lw_tbl[i]?) := by decide +kernel
theorem lwi_r20 : ∀ w ∈ wsL_law_r20, w ∈ lw_tbl := fun w hw => by
  rw [lwi_e20] at hw
  obtain ⟨i, -, hi⟩ := List.mem_filterMap.mp hw
  exact List.mem_of_getElem? hi
set_option maxRecDepth 20000 in
theorem lwi_e21 : wsL_law_r21 = [436, 437, 438, 439, 440, 441, 442, 443, 444, 445, 446, 447, 764, 765, 766, 767, 768, 448, 449, 450, 451, 452, 453, 454].filterMap (fun i => lw_tbl[i]?) := by decide +kernel
theorem lwi_r21 : ∀ w ∈ wsL_law_r21, w ∈ lw_tbl := fun w hw => by
  rw [lwi_e21] at hw
  obtain ⟨i, -, hi⟩ := List.mem_filterMap.mp hw
  exact List.mem_of_getElem? hi
set_option maxRecDepth 20000 in
theorem lwi_e22 : wsL_law_r22 = [455, 456, 769, 770, 771, 772, 457, 458, 459, 460, 461, 462, 463, 464, 773, 774, 775, 776, 465, 466, 467, 468, 469, 470].filterMap (fun i => lw_tbl[i]?) := by decide +kernel
theorem lwi_r22 : ∀ w ∈ wsL_law_r22, w ∈ lw_tbl := fun w hw => by
  rw [lwi_e22] at hw
  obtain ⟨i, -, hi⟩ := List.mem_filterMap.mp hw
  exact List.mem_of_getElem? hi
set_option maxRecDepth 20000 in
theorem lwi_e23 : wsL_law_r23 = [471, 472, 473, 474, 475, 476, 477, 478, 187, 777, 778, 779, 780, 781, 479, 480, 481, 482, 782, 783, 784, 785, 483, 484].filterMap (fun i => lw_tbl[i]?) := by decide +kernel
theorem lwi_r23 : ∀ w ∈ wsL_law_r23, w ∈ lw_tbl := fun w hw => by
  rw [lwi_e23] at hw
  obtain ⟨i, -, hi⟩ := List.mem_filterMap.mp hw
  exact List.mem_of_getElem? hi
set_option maxRecDepth 20000 in
theorem lwi_e24 : wsL_law_r24 = [485, 486, 487, 488, 489, 490, 189, 491, 492, 493, 494, 495, 496, 497, 498, 190, 499, 501, 3, 502, 503, 505, 4, 506].filterMap (fun i => lw_tbl[i]?) := by decide +kernel
theorem lwi_r24 : ∀ w ∈ wsL_law_r24, w ∈ lw_tbl := fun w hw => by
  rw [lwi_e24] at hw
  obtain ⟨i, -, hi⟩ := List.mem_filterMap.mp hw
  exact List.mem_of_getElem? hi
set_option maxRecDepth 20000 in
theorem lwi_e25 : wsL_law_r25 = [507, 508, 510, 5, 511, 512, 513, 514, 515, 516, 518, 6, 519, 520, 522, 7, 523, 786, 787, 788, 789, 574, 573, 790].filterMap (fun i => lw_tbl[i]?) := by decide +kernel
theorem lwi_r25 : ∀ w ∈ wsL_law_r25, w ∈ lw_tbl := fun w hw => by
  rw [lwi_e25] at hw
  obtain ⟨i, -, hi⟩ := List.mem_filterMap.mp hw
  exact List.mem_of_getElem? hi
set_option maxRecDepth 20000 in
theorem lwi_e26 : wsL_law_r26 = [792, 32, 793, 794, 796, 33, 797, 575, 576, 577, 578, 798, 800, 34, 801, 802, 804, 35, 805, 806, 808, 36, 809, 810].filterMap (fun i => lw_tbl[i]?) := by decide +kernel
theorem lwi_r26 : ∀ w ∈ wsL_law_r26, w ∈ lw_tbl := fun w hw => by
  rw [lwi_e26] at hw
  obtain ⟨i, -, hi⟩ := List.mem_filterMap.mp hw
  exact List.mem_of_getElem? hi
set_option maxRecDepth 20000 in
theorem lwi_e27 : wsL_law_r27 = [812, 37, 813, 814, 816, 38, 817, 524, 525, 526, 527, 528, 530, 8, 531, 532, 533, 534, 536, 9, 537, 186, 191, 538].filterMap (fun i => lw_tbl[i]?) := by decide +kernel
theorem lwi_r27 : ∀ w ∈ wsL_law_r27, w ∈ lw_tbl := fun w hw => by
  rw [lwi_e27] at hw
  obtain ⟨i, -, hi⟩ := List.mem_filterMap.mp hw
  exact List.mem_of_getElem? hi
set_option maxRecDepth 20000 in
theorem lwi_e28 : wsL_law_r28 = [818, 819, 820, 821, 539, 540, 541, 542, 543, 544, 545, 546, 822, 823, 824, 825, 547, 548, 549, 550, 551, 826, 827, 828].filterMap (fun i => lw_tbl[i]?) := by decide +kernel
theorem lwi_r28 : ∀ w ∈ wsL_law_r28, w ∈ lw_tbl := fun w hw => by
  rw [lwi_e28] at hw
  obtain ⟨i, -, hi⟩ := List.mem_filterMap.mp hw
  exact List.mem_of_getElem? hi
set_option maxRecDepth 20000 in
theorem lwi_e29 : wsL_law_r29 = [829, 552, 553, 554, 555, 830, 831, 832, 833].filterMap (fun i => lw_tbl[i]?) := by decide +kernel
theorem lwi_r29 : ∀ w ∈ wsL_law_r29, w ∈ lw_tbl := fun w hw => by
  rw [lwi_e29] at hw
  obtain ⟨i, -, hi⟩ := List.mem_filterMap.mp hw
  exact List.mem_of_getElem? hi
set_option maxRecDepth 20000 in
theorem inX0 : ∀ w ∈ wsX00, w ∈ lw_tbl := by decide +kernel
set_option maxRecDepth 20000 in
theorem inX1 : ∀ w ∈ wsX10, w ∈ lw_tbl := by decide +kernel
set_option maxRecDepth 20000 in
theorem inX2 : ∀ w ∈ wsX20, w ∈ lw_tbl := by decide +kernel
set_option maxRecDepth 20000 in
theorem inX3 : ∀ w ∈ wsX30, w ∈ lw_tbl := by decide +kernel
set_option maxRecDepth 20000 in
theorem inX4 : ∀ w ∈ wsX40, w ∈ lw_tbl := by decide +kernel
set_option maxRecDepth 20000 in
theorem inX5 : ∀ w ∈ wsX50, w ∈ lw_tbl := by decide +kernel
set_option maxRecDepth 20000 in
theorem inX6 : ∀ w ∈ wsX60, w ∈ lw_tbl := by decide +kernel
theorem wsL_law_in : ∀ w ∈ wsL_law, w ∈ lw_tbl :=
  List.forall_mem_append.mpr ⟨List.forall_mem_append.mpr ⟨List.forall_mem_append.mpr ⟨List.forall_mem_append.mpr ⟨List.forall_mem_append.mpr ⟨List.forall_mem_append.mpr ⟨List.forall_mem_append.mpr ⟨List.forall_mem_append.mpr ⟨List.forall_mem_append.mpr ⟨lwi_r1, List.forall_mem_append.mpr ⟨lwi_r2, List.forall_mem_append.mpr ⟨lwi_r3, List.forall_mem_append.mpr ⟨lwi_r4, List.forall_mem_append.mpr ⟨lwi_r5, List.forall_mem_append.mpr ⟨lwi_r6, List.forall_mem_append.mpr ⟨lwi_r7, List.forall_mem_append.mpr ⟨lwi_r8, List.forall_mem_append.mpr ⟨lwi_r9, List.forall_mem_append.mpr ⟨lwi_r10, List.forall_mem_append.mpr ⟨lwi_r11, List.forall_mem_append.mpr ⟨lwi_r12, List.forall_mem_append.mpr ⟨lwi_r13, List.forall_mem_append.mpr ⟨lwi_r14, List.forall_mem_append.mpr ⟨lwi_r15, List.forall_mem_append.mpr ⟨lwi_r16, List.forall_mem_append.mpr ⟨lwi_r17, List.forall_mem_append.mpr ⟨lwi_r18, List.forall_mem_append.mpr ⟨lwi_r19, List.forall_mem_append.mpr ⟨lwi_r20, List.forall_mem_append.mpr ⟨lwi_r21, List.forall_mem_append.mpr ⟨lwi_r22, List.forall_mem_append.mpr ⟨lwi_r23, List.forall_mem_append.mpr ⟨lwi_r24, List.forall_mem_append.mpr ⟨lwi_r25, List.forall_mem_append.mpr ⟨lwi_r26, List.forall_mem_append.mpr ⟨lwi_r27, List.forall_mem_append.mpr ⟨lwi_r28, lwi_r29⟩⟩⟩⟩⟩⟩⟩⟩⟩⟩⟩⟩⟩⟩⟩⟩⟩⟩⟩⟩⟩⟩⟩⟩⟩⟩⟩⟩, inX5⟩, inX6⟩, inX4⟩, inX1⟩, inX2⟩, inX3⟩, inX0⟩, fun _ h => absurd h List.not_mem_nil⟩
theorem inlX0 : ∀ w ∈ wsX00, w ∈ wsL_law := fun _ h => List.mem_append_left _ (List.mem_append_right _ h)
theorem inlX1 : ∀ w ∈ wsX10, w ∈ wsL_law := fun _ h => List.mem_append_left _ (List.mem_append_left _ (List.mem_append_left _ (List.mem_append_left _ (List.mem_append_right _ h))))
theorem inlX2 : ∀ w ∈ wsX20, w ∈ wsL_law := fun _ h => List.mem_append_left _ (List.mem_append_left _ (List.mem_append_left _ (List.mem_append_right _ h)))
theorem inlX3 : ∀ w ∈ wsX30, w ∈ wsL_law := fun _ h => List.mem_append_left _ (List.mem_append_left _ (List.mem_append_right _ h))
theorem inlX4 : ∀ w ∈ wsX40, w ∈ wsL_law := fun _ h => List.mem_append_left _ (List.mem_append_left _ (List.mem_append_left _ (List.mem_append_left _ (List.mem_append_left _ (List.mem_append_right _ h)))))
theorem inlX5 : ∀ w ∈ wsX50, w ∈ wsL_law := fun _ h => List.mem_append_left _ (List.mem_append_left _ (List.mem_append_left _ (List.mem_append_left _ (List.mem_append_left _ (List.mem_append_left _ (List.mem_append_left _ (List.mem_append_right _ h)))))))
theorem inlX6 : ∀ w ∈ wsX60, w ∈ wsL_law := fun _ h => List.mem_append_left _ (List.mem_append_left _ (List.mem_append_left _ (List.mem_append_left _ (List.mem_append_left _ (List.mem_append_left _ (List.mem_append_right _ h))))))
