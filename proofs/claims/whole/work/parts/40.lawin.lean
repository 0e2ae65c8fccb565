set_option maxRecDepth 20000 in
theorem inq_wsL_law0_r1 : ∀ w ∈ wsL_law0_r1, w ∈ lw_tbl := fun w h => (goodIn_p wsL_law0_r1 [65, 68] rfl (by decide +kernel) w h).1
set_option maxRecDepth 20000 in
theorem inq_wsL_law0_r2 : ∀ w ∈ wsL_law0_r2, w ∈ lw_tbl := fun w h => (goodIn_p wsL_law0_r2 [633, 183] rfl (by decide +kernel) w h).1
set_option maxRecDepth 20000 in
theorem inq_wsL_law0_r3 : ∀ w ∈ wsL_law0_r3, w ∈ lw_tbl := fun w h => (goodIn_p wsL_law0_r3 [186, 682, 685, 689, 678] rfl (by decide +kernel) w h).1
set_option maxRecDepth 20000 in
theorem inq_wsL_law0_r4 : ∀ w ∈ wsL_law0_r4, w ∈ lw_tbl := fun w h => (goodIn_p wsL_law0_r4 [277, 281, 286, 693, 697] rfl (by decide +kernel) w h).1
set_option maxRecDepth 20000 in
theorem inq_wsL_law0_r5 : ∀ w ∈ wsL_law0_r5, w ∈ lw_tbl := fun w h => (goodIn_p wsL_law0_r5 [294, 298, 318, 701] rfl (by decide +kernel) w h).1
set_option maxRecDepth 20000 in
theorem inq_wsL_law0_r6 : ∀ w ∈ wsL_law0_r6, w ∈ lw_tbl := fun w h => (goodIn_p wsL_law0_r6 [705, 326, 331, 334, 709, 713] rfl (by decide +kernel) w h).1
set_option maxRecDepth 20000 in
theorem inq_wsL_law0_r7 : ∀ w ∈ wsL_law0_r7, w ∈ lw_tbl := fun w h => (goodIn_p wsL_law0_r7 [341, 345, 349, 353, 358] rfl (by decide +kernel) w h).1
set_option maxRecDepth 20000 in
theorem inq_wsL_law0_r8 : ∀ w ∈ wsL_law0_r8, w ∈ lw_tbl := fun w h => (goodIn_p wsL_law0_r8 [139, 142, 363, 718, 722, 726] rfl (by decide +kernel) w h).1
set_option maxRecDepth 20000 in
theorem inq_wsL_law0_r9 : ∀ w ∈ wsL_law0_r9, w ∈ lw_tbl := fun w h => (goodIn_p wsL_law0_r9 [730, 733, 370, 737, 379] rfl (by decide +kernel) w h).1
set_option maxRecDepth 20000 in
theorem inq_wsL_law0_r10 : ∀ w ∈ wsL_law0_r10, w ∈ lw_tbl := fun w h => (goodIn_p wsL_law0_r10 [383, 387, 391, 395, 401, 741] rfl (by decide +kernel) w h).1
set_option maxRecDepth 20000 in
theorem inq_wsL_law0_r11 : ∀ w ∈ wsL_law0_r11, w ∈ lw_tbl := fun w h => (goodIn_p wsL_law0_r11 [745, 749, 753, 759, 409] rfl (by decide +kernel) w h).1
set_option maxRecDepth 20000 in
theorem inq_wsL_law0_r12 : ∀ w ∈ wsL_law0_r12, w ∈ lw_tbl := fun w h => (goodIn_p wsL_law0_r12 [413, 154, 763, 767, 771] rfl (by decide +kernel) w h).1
set_option maxRecDepth 20000 in
theorem inq_wsL_law0_r13 : ∀ w ∈ wsL_law0_r13, w ∈ lw_tbl := fun w h => (goodIn_p wsL_law0_r13 [421, 424, 428, 433, 775, 779] rfl (by decide +kernel) w h).1
set_option maxRecDepth 20000 in
theorem inq_wsL_law0_r14 : ∀ w ∈ wsL_law0_r14, w ∈ lw_tbl := fun w h => (goodIn_p wsL_law0_r14 [440, 162, 166, 170, 174, 444] rfl (by decide +kernel) w h).1
set_option maxRecDepth 20000 in
theorem inq_wsL_law0_r15 : ∀ w ∈ wsL_law0_r15, w ∈ lw_tbl := fun w h => (goodIn_p wsL_law0_r15 [447, 451, 783, 787, 791, 795] rfl (by decide +kernel) w h).1
set_option maxRecDepth 20000 in
theorem inq_wsL_law0_r16 : ∀ w ∈ wsL_law0_r16, w ∈ lw_tbl := fun w h => (goodIn_p wsL_law0_r16 [105, 799, 458, 803] rfl (by decide +kernel) w h).1
set_option maxRecDepth 20000 in
theorem inq_wsL_law0_r17 : ∀ w ∈ wsL_law0_r17, w ∈ lw_tbl := fun w h => (goodIn_p wsL_law0_r17 [465, 807, 472, 811, 479] rfl (by decide +kernel) w h).1
set_option maxRecDepth 20000 in
theorem inq_wsL_law0_r18 : ∀ w ∈ wsL_law0_r18, w ∈ lw_tbl := fun w h => (goodIn_p wsL_law0_r18 [815, 486, 819, 493] rfl (by decide +kernel) w h).1
set_option maxRecDepth 20000 in
theorem inq_wsL_law0_r19 : ∀ w ∈ wsL_law0_r19, w ∈ lw_tbl := fun w h => (goodIn_p wsL_law0_r19 [823, 501, 827, 509, 831] rfl (by decide +kernel) w h).1
set_option maxRecDepth 20000 in
theorem inq_wsL_law0_r20 : ∀ w ∈ wsL_law0_r20, w ∈ lw_tbl := fun w h => (goodIn_p wsL_law0_r20 [835, 516, 839, 523] rfl (by decide +kernel) w h).1
set_option maxRecDepth 20000 in
theorem inq_wsL_law0_r21 : ∀ w ∈ wsL_law0_r21, w ∈ lw_tbl := fun w h => (goodIn_p wsL_law0_r21 [843, 109, 847, 113, 851, 855] rfl (by decide +kernel) w h).1
set_option maxRecDepth 20000 in
theorem inq_wsL_law0_r22 : ∀ w ∈ wsL_law0_r22, w ∈ lw_tbl := fun w h => (goodIn_p wsL_law0_r22 [530, 859, 537, 863] rfl (by decide +kernel) w h).1
set_option maxRecDepth 20000 in
theorem inq_wsL_law0_r23 : ∀ w ∈ wsL_law0_r23, w ∈ lw_tbl := fun w h => (goodIn_p wsL_law0_r23 [544, 867, 551, 150, 871] rfl (by decide +kernel) w h).1
set_option maxRecDepth 20000 in
theorem inq_wsL_law0_r24 : ∀ w ∈ wsL_law0_r24, w ∈ lw_tbl := fun w h => (goodIn_p wsL_law0_r24 [875, 558, 879, 565, 883] rfl (by decide +kernel) w h).1
set_option maxRecDepth 20000 in
theorem inq_wsL_law0_r25 : ∀ w ∈ wsL_law0_r25, w ∈ lw_tbl := fun w h => (goodIn_p wsL_law0_r25 [573, 158, 887, 891] rfl (by decide +kernel) w h).1
set_option maxRecDepth 20000 in
theorem inq_wsL_law0_r26 : ∀ w ∈ wsL_law0_r26, w ∈ lw_tbl := fun w h => (goodIn_p wsL_law0_r26 [580, 895, 899, 587, 591] rfl (by decide +kernel) w h).1
set_option maxRecDepth 20000 in
theorem inq_wsL_law0_r27 : ∀ w ∈ wsL_law0_r27, w ∈ lw_tbl := fun w h => (goodIn_p wsL_law0_r27 [903, 117, 907, 599, 911] rfl (by decide +kernel) w h).1
set_option maxRecDepth 20000 in
theorem inq_wsL_law0_r28 : ∀ w ∈ wsL_law0_r28, w ∈ lw_tbl := fun w h => (goodIn_p wsL_law0_r28 [606, 915, 613, 919] rfl (by decide +kernel) w h).1
set_option maxRecDepth 20000 in
theorem inq_wsL_law0_r29 : ∀ w ∈ wsL_law0_r29, w ∈ lw_tbl := fun w h => (goodIn_p wsL_law0_r29 [620, 923, 627, 927, 121, 931] rfl (by decide +kernel) w h).1
set_option maxRecDepth 20000 in
theorem inq_wsL_law0_r30 : ∀ w ∈ wsL_law0_r30, w ∈ lw_tbl := fun w h => (goodIn_p wsL_law0_r30 [125, 129, 135, 146, 935] rfl (by decide +kernel) w h).1
theorem inq_wsX00 : ∀ w ∈ wsX00, w ∈ lw_tbl := by decide +kernel
theorem inq_wsX10 : ∀ w ∈ wsX10, w ∈ lw_tbl := by decide +kernel
theorem wsL_law_in0 : ∀ w ∈ wsL_law0, w ∈ lw_tbl := by
  intro w h
  simp only [wsL_law0, List.mem_append, or_assoc, List.not_mem_nil, or_false] at h
  rcases h with h | h | h | h | h | h | h | h | h | h | h | h | h | h | h | h | h | h | h | h | h | h | h | h | h | h | h | h | h | h | h | h
  · exact inq_wsL_law0_r1 w h
  · exact inq_wsL_law0_r2 w h
  · exact inq_wsL_law0_r3 w h
  · exact inq_wsL_law0_r4 w h
  · exact inq_wsL_law0_r5 w h
  · exact inq_wsL_law0_r6 w h
  · exact inq_wsL_law0_r7 w h
  · exact inq_wsL_law0_r8 w h
  · exact inq_wsL_law0_r9 w h
  · exact inq_wsL_law0_r10 w h
  · exact inq_wsL_law0_r11 w h
  · exact inq_wsL_law0_r12 w h
  · exact inq_wsL_law0_r13 w h
  · exact inq_wsL_law0_r14 w h
  · exact inq_wsL_law0_r15 w h
  · exact inq_wsL_law0_r16 w h
  · exact inq_wsL_law0_r17 w h
  · exact inq_wsL_law0_r18 w h
  · exact inq_wsL_law0_r19 w h
  · exact inq_wsL_law0_r20 w h
  · exact inq_wsL_law0_r21 w h
  · exact inq_wsL_law0_r22 w h
  · exact inq_wsL_law0_r23 w h
  · exact inq_wsL_law0_r24 w h
  · exact inq_wsL_law0_r25 w h
  · exact inq_wsL_law0_r26 w h
  · exact inq_wsL_law0_r27 w h
  · exact inq_wsL_law0_r28 w h
  · exact inq_wsL_law0_r29 w h
  · exact inq_wsL_law0_r30 w h
  · exact inq_wsX00 w h
  · exact inq_wsX10 w h
theorem wsL_law_x0 : ∀ w ∈ (vx_atS RX0 50 "java/lang/IllegalStateException" ["java/lang/RuntimeException", "java/lang/Exception"]).filter goodWord, w ∈ lw_tbl := by decide +kernel
theorem wsL_law_x1 : ∀ w ∈ (vx_atS RX0 70 "java/lang/IllegalArgumentException" ["java/lang/RuntimeException", "java/lang/Exception"]).filter goodWord, w ∈ lw_tbl := by decide +kernel
theorem wsL_law_x2 : ∀ w ∈ (vx_atS RX0 164 "java/lang/IndexOutOfBoundsException" ["java/lang/RuntimeException", "java/lang/Exception"]).filter goodWord, w ∈ lw_tbl := by decide +kernel
theorem wsL_law_in : ∀ w ∈ wsL_law, w ∈ lw_tbl := fun w h => (List.mem_append.mp h).elim (fun h => (List.mem_append.mp h).elim (fun h => (List.mem_append.mp h).elim (fun h => wsL_law_in0 w h) (fun h => wsL_law_x0 w h)) (fun h => wsL_law_x1 w h)) (fun h => wsL_law_x2 w h)
theorem inlX0 : ∀ w ∈ wsX00, w ∈ wsL_law := fun _ h => List.mem_append_left _ (List.mem_append_left _ (List.mem_append_left _ (List.mem_append_left _ (List.mem_append_left _ (List.mem_append_right _ h)))))
theorem inX0 : ∀ w ∈ wsX00, w ∈ lw_tbl := fun w h => wsL_law_in w (inlX0 w h)
theorem inlX1 : ∀ w ∈ wsX10, w ∈ wsL_law := fun _ h => List.mem_append_left _ (List.mem_append_left _ (List.mem_append_left _ (List.mem_append_left _ (List.mem_append_right _ h))))
theorem inX1 : ∀ w ∈ wsX10, w ∈ lw_tbl := fun w h => wsL_law_in w (inlX1 w h)
theorem inJ9 : ∀ w ∈ wsJ90, w ∈ lw_tbl := by decide +kernel
theorem inJ0 : ∀ w ∈ wsJ00, w ∈ lw_tbl := by decide +kernel
