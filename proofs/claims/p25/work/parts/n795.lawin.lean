set_option maxRecDepth 20000 in
theorem lwi_e1 : wsL_law_r1 = [12, 13, 4, 311, 14, 15, 16, 17, 18, 19, 20, 21, 5, 163, 107, 108, 8, 164, 165, 145, 166, 124, 125, 9].filterMap (fun i => lw_tbl[i]?) := by decide +kernel
theorem lwi_r1 : ∀ w ∈ wsL_law_r1, w ∈ lw_tbl := fun w hw => by
  rw [lwi_e1] at hw
  obtain ⟨i, -, hi⟩ := List.mem_filterMap.mp hw
  exact List.mem_of_getElem? hi
set_option maxRecDepth 20000 in
theorem lwi_e2 : wsL_law_r2 = [167, 161, 131, 10, 168, 77, 169, 22, 23, 24, 25, 78, 26, 80, 82, 30, 32, 31, 6, 33, 7, 35, 36, 37].filterMap (fun i => lw_tbl[i]?) := by decide +kernel
theorem lwi_r2 : ∀ w ∈ wsL_law_r2, w ∈ lw_tbl := fun w hw => by
  rw [lwi_e2] at hw
  obtain ⟨i, -, hi⟩ := List.mem_filterMap.mp hw
  exact List.mem_of_getElem? hi
set_option maxRecDepth 20000 in
theorem lwi_e3 : wsL_law_r3 = [109, 110, 111, 112, 113, 116, 115, 127, 128, 129, 146, 147, 130, 148, 133, 134, 135, 136, 220, 221, 3, 222, 227, 228].filterMap (fun i => lw_tbl[i]?) := by decide +kernel
theorem lwi_r3 : ∀ w ∈ wsL_law_r3, w ∈ lw_tbl := fun w hw => by
  rw [lwi_e3] at hw
  obtain ⟨i, -, hi⟩ := List.mem_filterMap.mp hw
  exact List.mem_of_getElem? hi
set_option maxRecDepth 20000 in
theorem lwi_e4 : wsL_law_r4 = [229, 185, 186, 187, 188, 89, 85, 87, 91, 79, 149, 118, 189, 190, 191, 192, 84, 59, 193, 194, 195, 196, 197, 198].filterMap (fun i => lw_tbl[i]?) := by decide +kernel
theorem lwi_r4 : ∀ w ∈ wsL_law_r4, w ∈ lw_tbl := fun w hw => by
  rw [lwi_e4] at hw
  obtain ⟨i, -, hi⟩ := List.mem_filterMap.mp hw
  exact List.mem_of_getElem? hi
set_option maxRecDepth 20000 in
theorem lwi_e5 : wsL_law_r5 = [199, 200, 49, 201, 202, 11, 203, 204, 205, 206, 207, 208, 209, 210, 211, 43, 212, 213, 214, 215, 86, 216, 217, 218].filterMap (fun i => lw_tbl[i]?) := by decide +kernel
theorem lwi_r5 : ∀ w ∈ wsL_law_r5, w ∈ lw_tbl := fun w hw => by
  rw [lwi_e5] at hw
  obtain ⟨i, -, hi⟩ := List.mem_filterMap.mp hw
  exact List.mem_of_getElem? hi
set_option maxRecDepth 20000 in
theorem lwi_e6 : wsL_law_r6 = [219, 56, 223, 224, 225, 226, 230, 231, 232, 233, 234, 235, 236, 237, 117, 238, 239, 240, 241, 88, 90, 242, 243, 244].filterMap (fun i => lw_tbl[i]?) := by decide +kernel
theorem lwi_r6 : ∀ w ∈ wsL_law_r6, w ∈ lw_tbl := fun w hw => by
  rw [lwi_e6] at hw
  obtain ⟨i, -, hi⟩ := List.mem_filterMap.mp hw
  exact List.mem_of_getElem? hi
set_option maxRecDepth 20000 in
theorem lwi_e7 : wsL_law_r7 = [245, 38, 41, 44, 46, 52, 54, 57, 246, 247, 248, 249, 251, 252, 253, 254, 255, 256, 257, 259, 0, 260, 261, 262].filterMap (fun i => lw_tbl[i]?) := by decide +kernel
theorem lwi_r7 : ∀ w ∈ wsL_law_r7, w ∈ lw_tbl := fun w hw => by
  rw [lwi_e7] at hw
  obtain ⟨i, -, hi⟩ := List.mem_filterMap.mp hw
  exact List.mem_of_getElem? hi
set_option maxRecDepth 20000 in
theorem lwi_e8 : wsL_law_r8 = [263, 264, 265, 267, 1, 268, 269, 270, 271, 272, 273, 274, 275, 276, 277, 278, 279, 280, 281, 282, 283, 284, 47, 285].filterMap (fun i => lw_tbl[i]?) := by decide +kernel
theorem lwi_r8 : ∀ w ∈ wsL_law_r8, w ∈ lw_tbl := fun w hw => by
  rw [lwi_e8] at hw
  obtain ⟨i, -, hi⟩ := List.mem_filterMap.mp hw
  exact List.mem_of_getElem? hi
set_option maxRecDepth 20000 in
theorem lwi_e9 : wsL_law_r9 = [286, 287, 288, 289, 290, 291, 292, 293, 294, 295, 296, 299, 300, 301, 302, 303, 304, 305, 306, 51, 307, 308, 309, 310].filterMap (fun i => lw_tbl[i]?) := by decide +kernel
theorem lwi_r9 : ∀ w ∈ wsL_law_r9, w ∈ lw_tbl := fun w hw => by
  rw [lwi_e9] at hw
  obtain ⟨i, -, hi⟩ := List.mem_filterMap.mp hw
  exact List.mem_of_getElem? hi
set_option maxRecDepth 20000 in
theorem lwi_e10 : wsL_law_r10 = [312, 313, 314, 315, 316, 318, 2, 319, 139, 320, 321, 322, 323, 137, 324, 325, 326, 327, 328, 329, 330, 331, 138, 332].filterMap (fun i => lw_tbl[i]?) := by decide +kernel
theorem lwi_r10 : ∀ w ∈ wsL_law_r10, w ∈ lw_tbl := fun w hw => by
  rw [lwi_e10] at hw
  obtain ⟨i, -, hi⟩ := List.mem_filterMap.mp hw
  exact List.mem_of_getElem? hi
set_option maxRecDepth 20000 in
theorem lwi_e11 : wsL_law_r11 = [333, 334, 335, 40, 340, 336, 337, 338, 339, 341, 342, 343, 344, 345, 346, 347, 348, 349, 350, 351, 352, 353, 354, 355].filterMap (fun i => lw_tbl[i]?) := by decide +kernel
theorem lwi_r11 : ∀ w ∈ wsL_law_r11, w ∈ lw_tbl := fun w hw => by
  rw [lwi_e11] at hw
  obtain ⟨i, -, hi⟩ := List.mem_filterMap.mp hw
  exact List.mem_of_getElem? hi
set_option maxRecDepth 20000 in
theorem lwi_e12 : wsL_law_r12 = [356, 357, 358, 359, 360, 361, 362, 363, 364, 365, 366, 367, 368, 369, 391, 370, 371, 372, 373, 81, 39, 42, 45, 48].filterMap (fun i => lw_tbl[i]?) := by decide +kernel
theorem lwi_r12 : ∀ w ∈ wsL_law_r12, w ∈ lw_tbl := fun w hw => by
  rw [lwi_e12] at hw
  obtain ⟨i, -, hi⟩ := List.mem_filterMap.mp hw
  exact List.mem_of_getElem? hi
set_option maxRecDepth 20000 in
theorem lwi_e13 : wsL_law_r13 = [50, 375, 53, 58, 55, 374, 376, 377, 378, 379, 380, 381, 382, 83, 383, 384, 385, 386, 387, 388, 389, 390, 392, 393].filterMap (fun i => lw_tbl[i]?) := by decide +kernel
theorem lwi_r13 : ∀ w ∈ wsL_law_r13, w ∈ lw_tbl := fun w hw => by
  rw [lwi_e13] at hw
  obtain ⟨i, -, hi⟩ := List.mem_filterMap.mp hw
  exact List.mem_of_getElem? hi
set_option maxRecDepth 20000 in
theorem lwi_e14 : wsL_law_r14 = [394, 395, 396, 397, 398, 399, 400, 401, 402, 403, 404, 405, 406, 407, 408, 409, 410, 411, 412, 413, 414, 415, 416, 417].filterMap (fun i => lw_tbl[i]?) := by decide +kernel
theorem lwi_r14 : ∀ w ∈ wsL_law_r14, w ∈ lw_tbl := fun w hw => by
  rw [lwi_e14] at hw
  obtain ⟨i, -, hi⟩ := List.mem_filterMap.mp hw
  exact List.mem_of_getElem? hi
set_option maxRecDepth 20000 in
theorem lwi_e15 : wsL_law_r15 = [418, 419, 420, 421, 422, 423, 424, 425, 426, 427, 428, 429, 430, 431, 432, 433, 434, 435, 436, 437, 438, 439, 440, 441].filterMap (fun i => lw_tbl[i]?) := by decide +kernel
theorem lwi_r15 : ∀ w ∈ wsL_law_r15, w ∈ lw_tbl := fun w hw => by
  rw [lwi_e15] at hw
  obtain ⟨i, -, hi⟩ := List.mem_filterMap.mp hw
  exact List.mem_of_getElem? hi
set_option maxRecDepth 20000 in
theorem lwi_e16 : wsL_law_r16 = [442, 443, 444, 445, 446, 447, 448, 449, 450, 451, 452, 453, 454, 455, 456, 457, 458].filterMap (fun i => lw_tbl[i]?) := by decide +kernel
theorem lwi_r16 : ∀ w ∈ wsL_law_r16, w ∈ lw_tbl := fun w hw => by
  rw [lwi_e16] at hw
  obtain ⟨i, -, hi⟩ := List.mem_filterMap.mp hw
  exact List.mem_of_getElem? hi
set_option maxRecDepth 20000 in
theorem inX0 : ∀ w ∈ wsX00, w ∈ lw_tbl := by decide +kernel
set_option maxRecDepth 20000 in
theorem inX1 : ∀ w ∈ wsX10, w ∈ lw_tbl := by decide +kernel
set_option maxRecDepth 20000 in
theorem inX2 : ∀ w ∈ wsX20, w ∈ lw_tbl := by decide +kernel
set_option maxRecDepth 20000 in
theorem inX3 : ∀ w ∈ wsX30, w ∈ lw_tbl := by decide +kernel
set_option maxRecDepth 20000 in
theorem inX4 : ∀ w ∈ wsX40, w ∈ lw_tbl := by decide +kernel
set_option maxRecDepth 20000 in
theorem inX5 : ∀ w ∈ wsX50, w ∈ lw_tbl := by decide +kernel
theorem wsL_law_in : ∀ w ∈ wsL_law, w ∈ lw_tbl :=
  List.forall_mem_append.mpr ⟨List.forall_mem_append.mpr ⟨List.forall_mem_append.mpr ⟨List.forall_mem_append.mpr ⟨List.forall_mem_append.mpr ⟨List.forall_mem_append.mpr ⟨List.forall_mem_append.mpr ⟨List.forall_mem_append.mpr ⟨lwi_r1, List.forall_mem_append.mpr ⟨lwi_r2, List.forall_mem_append.mpr ⟨lwi_r3, List.forall_mem_append.mpr ⟨lwi_r4, List.forall_mem_append.mpr ⟨lwi_r5, List.forall_mem_append.mpr ⟨lwi_r6, List.forall_mem_append.mpr ⟨lwi_r7, List.forall_mem_append.mpr ⟨lwi_r8, List.forall_mem_append.mpr ⟨lwi_r9, List.forall_mem_append.mpr ⟨lwi_r10, List.forall_mem_append.mpr ⟨lwi_r11, List.forall_mem_append.mpr ⟨lwi_r12, List.forall_mem_append.mpr ⟨lwi_r13, List.forall_mem_append.mpr ⟨lwi_r14, List.forall_mem_append.mpr ⟨lwi_r15, lwi_r16⟩⟩⟩⟩⟩⟩⟩⟩⟩⟩⟩⟩⟩⟩⟩, inX5⟩, inX4⟩, inX1⟩, inX2⟩, inX3⟩, inX0⟩, fun _ h => absurd h List.not_mem_nil⟩
theorem inlX0 : ∀ w ∈ wsX00, w ∈ wsL_law := fun _ h => List.mem_append_left _ (List.mem_append_right _ h)
theorem inlX1 : ∀ w ∈ wsX10, w ∈ wsL_law := fun _ h => List.mem_append_left _ (List.mem_append_left _ (List.mem_append_left _ (List.mem_append_left _ (List.mem_append_right _ h))))
theorem inlX2 : ∀ w ∈ wsX20, w ∈ wsL_law := fun _ h => List.mem_append_left _ (List.mem_append_left _ (List.mem_append_left _ (List.mem_append_right _ h)))
theorem inlX3 : ∀ w ∈ wsX30, w ∈ wsL_law := fun _ h => List.mem_append_left _ (List.mem_append_left _ (List.mem_append_right _ h))
theorem inlX4 : ∀ w ∈ wsX40, w ∈ wsL_law := fun _ h => List.mem_append_left _ (List.mem_append_left _ (List.mem_append_left _ (List.mem_append_left _ (List.mem_append_left _ (List.mem_append_right _ h)))))
theorem inlX5 : ∀ w ∈ wsX50, w ∈ wsL_law := fun _ h => List.mem_append_left _ (List.mem_append_left _ (List.mem_append_left _ (List.mem_append_left _ (List.mem_append_left _ (List.mem_append_left _ (List.mem_append_right _ h))))))
