theorem mem_p {big ws : List Cond} (ps : List Nat) (hp : ws = ps.filterMap (fun i => big[i]?)) : ∀ w ∈ ws, w ∈ big := by
  intro w hw
  rw [hp] at hw
  obtain ⟨i, -, hi⟩ := List.mem_filterMap.mp hw
  exact List.mem_of_getElem? hi
set_option maxRecDepth 20000 in
theorem inq_wsL_law0_r1 : ∀ w ∈ wsL_law0_r1, w ∈ lw_tbl := mem_p [40, 41, 31, 632, 633, 39, 634, 79, 635, 196, 197, 42, 43, 44, 45, 46, 47, 48, 49, 50, 51, 52, 80, 53] rfl
set_option maxRecDepth 20000 in
theorem inq_wsL_law0_r2 : ∀ w ∈ wsL_law0_r2, w ∈ lw_tbl := mem_p [54, 55, 56, 57, 606, 607, 30, 608, 609, 461, 32, 615, 619, 611, 612, 613, 614, 616, 617, 516, 618, 488, 489, 490] rfl
set_option maxRecDepth 20000 in
theorem inq_wsL_law0_r3 : ∀ w ∈ wsL_law0_r3, w ∈ lw_tbl := mem_p [491, 484, 485, 486, 487, 496, 497, 498, 499, 500, 463, 464, 465, 503, 504, 505, 506, 243, 37, 507, 508, 509, 164, 36] rfl
set_option maxRecDepth 20000 in
theorem inq_wsL_law0_r4 : ∀ w ∈ wsL_law0_r4, w ∈ lw_tbl := mem_p [512, 513, 514, 515, 517, 518, 519, 520, 521, 523, 24, 524, 526, 528, 25, 529, 530, 531, 532, 533, 214, 216, 5, 217] rfl
set_option maxRecDepth 20000 in
theorem inq_wsL_law0_r5 : ∀ w ∈ wsL_law0_r5, w ∈ lw_tbl := mem_p [89, 38, 534, 536, 26, 537, 545, 410, 411, 412, 546, 547, 548, 549, 550, 551, 552, 553, 85, 87, 0, 88, 210, 211] rfl
set_option maxRecDepth 20000 in
theorem inq_wsL_law0_r6 : ∀ w ∈ wsL_law0_r6, w ∈ lw_tbl := mem_p [212, 554, 555, 556, 223, 225, 6, 226, 184, 186, 3, 187, 188, 189, 190, 559, 561, 27, 562, 539, 414, 415, 416, 417] rfl
set_option maxRecDepth 20000 in
theorem inq_wsL_law0_r7 : ∀ w ∈ wsL_law0_r7, w ∈ lw_tbl := mem_p [540, 541, 542, 543, 191, 193, 4, 194, 195, 492, 493, 494, 495, 563, 564, 565, 566, 569, 570, 571, 572, 409, 442, 443] rfl
set_option maxRecDepth 20000 in
theorem inq_wsL_law0_r8 : ∀ w ∈ wsL_law0_r8, w ∈ lw_tbl := mem_p [444, 445, 573, 574, 575, 576, 577, 355, 357, 17, 358, 359, 361, 18, 362, 347, 349, 16, 350, 267, 269, 9, 270, 271] rfl
set_option maxRecDepth 20000 in
theorem inq_wsL_law0_r9 : ∀ w ∈ wsL_law0_r9, w ∈ lw_tbl := mem_p [363, 365, 19, 366, 579, 426, 427, 428, 429, 430, 431, 432, 580, 581, 582, 583, 235, 237, 7, 238, 239, 241, 8, 242] rfl
set_option maxRecDepth 20000 in
theorem inq_wsL_law0_r10 : ∀ w ∈ wsL_law0_r10, w ∈ lw_tbl := mem_p [585, 455, 456, 457, 458, 460, 23, 462, 586, 587, 588, 589, 620, 454, 590, 591, 592, 593, 413, 594, 595, 596, 597, 314] rfl
set_option maxRecDepth 20000 in
theorem inq_wsL_law0_r11 : ∀ w ∈ wsL_law0_r11, w ∈ lw_tbl := mem_p [316, 11, 317, 318, 320, 12, 321, 322, 324, 13, 325, 326, 328, 14, 329, 598, 600, 28, 601, 371, 372, 373, 602, 604] rfl
set_option maxRecDepth 20000 in
theorem inq_wsL_law0_r12 : ∀ w ∈ wsL_law0_r12, w ∈ lw_tbl := mem_p [29, 605, 81, 82, 83, 84, 157, 158, 159, 161, 162, 163, 180, 182, 2, 183, 405, 406, 407, 408, 383, 384, 385, 386] rfl
set_option maxRecDepth 20000 in
theorem inq_wsL_law0_r13 : ∀ w ∈ wsL_law0_r13, w ∈ lw_tbl := mem_p [387, 388, 389, 390, 391, 392, 278, 279, 280, 393, 395, 20, 396, 397, 399, 21, 400, 297, 299, 10, 300, 401, 403, 22] rfl
set_option maxRecDepth 20000 in
theorem inq_wsL_law0_r14 : ∀ w ∈ wsL_law0_r14, w ∈ lw_tbl := mem_p [404, 273, 274, 275, 276, 281, 282, 283, 284, 285, 286, 287, 288, 289, 290, 291, 292, 293, 294, 295, 296, 301, 302, 303] rfl
set_option maxRecDepth 20000 in
theorem inq_wsL_law0_r15 : ∀ w ∈ wsL_law0_r15, w ∈ lw_tbl := mem_p [304, 305, 306, 307, 308, 310, 311, 312, 313, 330, 331, 332, 333, 334, 336, 15, 337, 277, 378, 379, 380, 381, 198, 199] rfl
set_option maxRecDepth 20000 in
theorem inq_wsL_law0_r16 : ∀ w ∈ wsL_law0_r16, w ∈ lw_tbl := mem_p [200, 201, 206, 207, 208, 209, 259, 260, 261, 262, 231, 232, 233, 234, 219, 220, 221, 222, 374, 375, 376, 377, 367, 368] rfl
set_option maxRecDepth 20000 in
theorem inq_wsL_law0_r17 : ∀ w ∈ wsL_law0_r17, w ∈ lw_tbl := mem_p [369, 370, 351, 352, 353, 354, 343, 344, 345, 346, 263, 264, 265, 266, 227, 228, 229, 230, 202, 203, 204, 205, 339, 340] rfl
set_option maxRecDepth 20000 in
theorem inq_wsL_law0_r18 : ∀ w ∈ wsL_law0_r18, w ∈ lw_tbl := mem_p [341, 342, 418, 419, 420, 421, 422, 423, 424, 425, 433, 434, 435, 436, 437, 438, 439, 440, 441, 446, 447, 448, 449, 450] rfl
set_option maxRecDepth 20000 in
theorem inq_wsL_law0_r19 : ∀ w ∈ wsL_law0_r19, w ∈ lw_tbl := mem_p [452, 453, 466, 467, 468, 469, 470, 471, 472, 473, 474, 475, 476, 477, 478, 479, 480, 481, 482, 483] rfl
theorem inq_wsX00 : ∀ w ∈ wsX00, w ∈ lw_tbl := by decide +kernel
theorem inq_wsX10 : ∀ w ∈ wsX10, w ∈ lw_tbl := by decide +kernel
theorem wsL_law_in0 : ∀ w ∈ wsL_law0, w ∈ lw_tbl := by
  intro w h
  simp only [wsL_law0, List.mem_append, or_assoc, List.not_mem_nil, or_false] at h
  rcases h with h | h | h | h | h | h | h | h | h | h | h | h | h | h | h | h | h | h | h | h | h
  · exact inq_wsL_law0_r1 w h
  · exact inq_wsL_law0_r2 w h
  · exact inq_wsL_law0_r3 w h
  · exact inq_wsL_law0_r4 w h
  · exact inq_wsL_law0_r5 w h
  · exact inq_wsL_law0_r6 w h
  · exact inq_wsL_law0_r7 w h
  · exact inq_wsL_law0_r8 w h
  · exact inq_wsL_law0_r9 w h
  · exact inq_wsL_law0_r10 w h
  · exact inq_wsL_law0_r11 w h
  · exact inq_wsL_law0_r12 w h
  · exact inq_wsL_law0_r13 w h
  · exact inq_wsL_law0_r14 w h
  · exact inq_wsL_law0_r15 w h
  · exact inq_wsL_law0_r16 w h
  · exact inq_wsL_law0_r17 w h
  · exact inq_wsL_law0_r18 w h
  · exact inq_wsL_law0_r19 w h
  · exact inq_wsX00 w h
  · exact inq_wsX10 w h
theorem wsL_law_x0 : ∀ w ∈ (vx_atS RX0 50 "java/lang/IllegalStateException" ["java/lang/RuntimeException", "java/lang/Exception"]).filter goodWord, w ∈ lw_tbl := by decide +kernel
theorem wsL_law_x1 : ∀ w ∈ (vx_atS RX0 70 "java/lang/IllegalArgumentException" ["java/lang/RuntimeException", "java/lang/Exception"]).filter goodWord, w ∈ lw_tbl := by decide +kernel
theorem wsL_law_x2 : ∀ w ∈ (vx_atS RX0 164 "java/lang/IndexOutOfBoundsException" ["java/lang/RuntimeException", "java/lang/Exception"]).filter goodWord, w ∈ lw_tbl := by decide +kernel
theorem wsL_law_in : ∀ w ∈ wsL_law, w ∈ lw_tbl := fun w h => (List.mem_append.mp h).elim (fun h => (List.mem_append.mp h).elim (fun h => (List.mem_append.mp h).elim (fun h => wsL_law_in0 w h) (fun h => wsL_law_x0 w h)) (fun h => wsL_law_x1 w h)) (fun h => wsL_law_x2 w h)
theorem inlX0 : ∀ w ∈ wsX00, w ∈ wsL_law := fun _ h => List.mem_append_left _ (List.mem_append_left _ (List.mem_append_left _ (List.mem_append_left _ (List.mem_append_left _ (List.mem_append_right _ h)))))
theorem inX0 : ∀ w ∈ wsX00, w ∈ lw_tbl := fun w h => wsL_law_in w (inlX0 w h)
theorem inlX1 : ∀ w ∈ wsX10, w ∈ wsL_law := fun _ h => List.mem_append_left _ (List.mem_append_left _ (List.mem_append_left _ (List.mem_append_left _ (List.mem_append_right _ h))))
theorem inX1 : ∀ w ∈ wsX10, w ∈ lw_tbl := fun w h => wsL_law_in w (inlX1 w h)
