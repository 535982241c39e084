set_option maxRecDepth 20000 in
theorem wl_1 : ∀ w ∈ wsL_law_r1, w ∈ wsL_law := fun w h => List.mem_append_left _ (List.mem_append_left _ (List.mem_append_left _ (List.mem_append_left _ (List.mem_append_left _ (List.mem_append_left _ (List.mem_append_left _ h))))))
set_option maxRecDepth 20000 in
theorem wl_2 : ∀ w ∈ wsL_law_r2, w ∈ wsL_law := fun w h => List.mem_append_left _ (List.mem_append_left _ (List.mem_append_left _ (List.mem_append_left _ (List.mem_append_left _ (List.mem_append_left _ (List.mem_append_right _ (List.mem_append_left _ h)))))))
set_option maxRecDepth 20000 in
theorem wl_3 : ∀ w ∈ wsL_law_r3, w ∈ wsL_law := fun w h => List.mem_append_left _ (List.mem_append_left _ (List.mem_append_left _ (List.mem_append_left _ (List.mem_append_left _ (List.mem_append_left _ (List.mem_append_right _ (List.mem_append_right _ (List.mem_append_left _ h))))))))
set_option maxRecDepth 20000 in
theorem wl_4 : ∀ w ∈ wsL_law_r4, w ∈ wsL_law := fun w h => List.mem_append_left _ (List.mem_append_left _ (List.mem_append_left _ (List.mem_append_left _ (List.mem_append_left _ (List.mem_append_left _ (List.mem_append_right _ (List.mem_append_right _ (List.mem_append_right _ (List.mem_append_left _ h)))))))))
set_option maxRecDepth 20000 in
theorem wl_5 : ∀ w ∈ wsL_law_r5, w ∈ wsL_law := fun w h => List.mem_append_left _ (List.mem_append_left _ (List.mem_append_left _ (List.mem_append_left _ (List.mem_append_left _ (List.mem_append_left _ (List.mem_append_right _ (List.mem_append_right _ (List.mem_append_right _ (List.mem_append_right _ (List.mem_append_left _ h))))))))))
set_option maxRecDepth 20000 in
theorem wl_6 : ∀ w ∈ wsL_law_r6, w ∈ wsL_law := fun w h => List.mem_append_left _ (List.mem_append_left _ (List.mem_append_left _ (List.mem_append_left _ (List.mem_append_left _ (List.mem_append_left _ (List.mem_append_right _ (List.mem_append_right _ (List.mem_append_right _ (List.mem_append_right _ (List.mem_append_right _ (List.mem_append_left _ h)))))))))))
set_option maxRecDepth 20000 in
theorem wl_7 : ∀ w ∈ wsL_law_r7, w ∈ wsL_law := fun w h => List.mem_append_left _ (List.mem_append_left _ (List.mem_append_left _ (List.mem_append_left _ (List.mem_append_left _ (List.mem_append_left _ (List.mem_append_right _ (List.mem_append_right _ (List.mem_append_right _ (List.mem_append_right _ (List.mem_append_right _ (List.mem_append_right _ (List.mem_append_left _ h))))))))))))
set_option maxRecDepth 20000 in
theorem wl_8 : ∀ w ∈ wsL_law_r8, w ∈ wsL_law := fun w h => List.mem_append_left _ (List.mem_append_left _ (List.mem_append_left _ (List.mem_append_left _ (List.mem_append_left _ (List.mem_append_left _ (List.mem_append_right _ (List.mem_append_right _ (List.mem_append_right _ (List.mem_append_right _ (List.mem_append_right _ (List.mem_append_right _ (List.mem_append_right _ (List.mem_append_left _ h)))))))))))))
set_option maxRecDepth 20000 in
theorem wl_9 : ∀ w ∈ wsL_law_r9, w ∈ wsL_law := fun w h => List.mem_append_left _ (List.mem_append_left _ (List.mem_append_left _ (List.mem_append_left _ (List.mem_append_left _ (List.mem_append_left _ (List.mem_append_right _ (List.mem_append_right _ (List.mem_append_right _ (List.mem_append_right _ (List.mem_append_right _ (List.mem_append_right _ (List.mem_append_right _ (List.mem_append_right _ (List.mem_append_left _ h))))))))))))))
set_option maxRecDepth 20000 in
theorem wl_10 : ∀ w ∈ wsL_law_r10, w ∈ wsL_law := fun w h => List.mem_append_left _ (List.mem_append_left _ (List.mem_append_left _ (List.mem_append_left _ (List.mem_append_left _ (List.mem_append_left _ (List.mem_append_right _ (List.mem_append_right _ (List.mem_append_right _ (List.mem_append_right _ (List.mem_append_right _ (List.mem_append_right _ (List.mem_append_right _ (List.mem_append_right _ (List.mem_append_right _ (List.mem_append_left _ h)))))))))))))))
set_option maxRecDepth 20000 in
theorem wl_11 : ∀ w ∈ wsL_law_r11, w ∈ wsL_law := fun w h => List.mem_append_left _ (List.mem_append_left _ (List.mem_append_left _ (List.mem_append_left _ (List.mem_append_left _ (List.mem_append_left _ (List.mem_append_right _ (List.mem_append_right _ (List.mem_append_right _ (List.mem_append_right _ (List.mem_append_right _ (List.mem_append_right _ (List.mem_append_right _ (List.mem_append_right _ (List.mem_append_right _ (List.mem_append_right _ (List.mem_append_left _ h))))))))))))))))
set_option maxRecDepth 20000 in
theorem wl_12 : ∀ w ∈ wsL_law_r12, w ∈ wsL_law := fun w h => List.mem_append_left _ (List.mem_append_left _ (List.mem_append_left _ (List.mem_append_left _ (List.mem_append_left _ (List.mem_append_left _ (List.mem_append_right _ (List.mem_append_right _ (List.mem_append_right _ (List.mem_append_right _ (List.mem_append_right _ (List.mem_append_right _ (List.mem_append_right _ (List.mem_append_right _ (List.mem_append_right _ (List.mem_append_right _ (List.mem_append_right _ (List.mem_append_left _ h)))))))))))))))))
set_option maxRecDepth 20000 in
theorem wl_13 : ∀ w ∈ wsL_law_r13, w ∈ wsL_law := fun w h => List.mem_append_left _ (List.mem_append_left _ (List.mem_append_left _ (List.mem_append_left _ (List.mem_append_left _ (List.mem_append_left _ (List.mem_append_right _ (List.mem_append_right _ (List.mem_append_right _ (List.mem_append_right _ (List.mem_append_right _ (List.mem_append_right _ (List.mem_append_right _ (List.mem_append_right _ (List.mem_append_right _ (List.mem_append_right _ (List.mem_append_right _ (List.mem_append_right _ (List.mem_append_left _ h))))))))))))))))))
set_option maxRecDepth 20000 in
theorem wl_14 : ∀ w ∈ wsL_law_r14, w ∈ wsL_law := fun w h => List.mem_append_left _ (List.mem_append_left _ (List.mem_append_left _ (List.mem_append_left _ (List.mem_append_left _ (List.mem_append_left _ (List.mem_append_right _ (List.mem_append_right _ (List.mem_append_right _ (List.mem_append_right _ (List.mem_append_right _ (List.mem_append_right _ (List.mem_append_right _ (List.mem_append_right _ (List.mem_append_right _ (List.mem_append_right _ (List.mem_append_right _ (List.mem_append_right _ (List.mem_append_right _ (List.mem_append_left _ h)))))))))))))))))))
set_option maxRecDepth 20000 in
theorem wl_15 : ∀ w ∈ wsL_law_r15, w ∈ wsL_law := fun w h => List.mem_append_left _ (List.mem_append_left _ (List.mem_append_left _ (List.mem_append_left _ (List.mem_append_left _ (List.mem_append_left _ (List.mem_append_right _ (List.mem_append_right _ (List.mem_append_right _ (List.mem_append_right _ (List.mem_append_right _ (List.mem_append_right _ (List.mem_append_right _ (List.mem_append_right _ (List.mem_append_right _ (List.mem_append_right _ (List.mem_append_right _ (List.mem_append_right _ (List.mem_append_right _ (List.mem_append_right _ (List.mem_append_left _ h))))))))))))))))))))
set_option maxRecDepth 20000 in
theorem wl_16 : ∀ w ∈ wsL_law_r16, w ∈ wsL_law := fun w h => List.mem_append_left _ (List.mem_append_left _ (List.mem_append_left _ (List.mem_append_left _ (List.mem_append_left _ (List.mem_append_left _ (List.mem_append_right _ (List.mem_append_right _ (List.mem_append_right _ (List.mem_append_right _ (List.mem_append_right _ (List.mem_append_right _ (List.mem_append_right _ (List.mem_append_right _ (List.mem_append_right _ (List.mem_append_right _ (List.mem_append_right _ (List.mem_append_right _ (List.mem_append_right _ (List.mem_append_right _ (List.mem_append_right _ (List.mem_append_left _ h)))))))))))))))))))))
set_option maxRecDepth 20000 in
theorem wl_17 : ∀ w ∈ wsL_law_r17, w ∈ wsL_law := fun w h => List.mem_append_left _ (List.mem_append_left _ (List.mem_append_left _ (List.mem_append_left _ (List.mem_append_left _ (List.mem_append_left _ (List.mem_append_right _ (List.mem_append_right _ (List.mem_append_right _ (List.mem_append_right _ (List.mem_append_right _ (List.mem_append_right _ (List.mem_append_right _ (List.mem_append_right _ (List.mem_append_right _ (List.mem_append_right _ (List.mem_append_right _ (List.mem_append_right _ (List.mem_append_right _ (List.mem_append_right _ (List.mem_append_right _ (List.mem_append_right _ (List.mem_append_left _ h))))))))))))))))))))))
set_option maxRecDepth 20000 in
theorem wl_18 : ∀ w ∈ wsL_law_r18, w ∈ wsL_law := fun w h => List.mem_append_left _ (List.mem_append_left _ (List.mem_append_left _ (List.mem_append_left _ (List.mem_append_left _ (List.mem_append_left _ (List.mem_append_right _ (List.mem_append_right _ (List.mem_append_right _ (List.mem_append_right _ (List.mem_append_right _ (List.mem_append_right _ (List.mem_append_right _ (List.mem_append_right _ (List.mem_append_right _ (List.mem_append_right _ (List.mem_append_right _ (List.mem_append_right _ (List.mem_append_right _ (List.mem_append_right _ (List.mem_append_right _ (List.mem_append_right _ (List.mem_append_right _ (List.mem_append_left _ h)))))))))))))))))))))))
set_option maxRecDepth 20000 in
theorem wl_19 : ∀ w ∈ wsL_law_r19, w ∈ wsL_law := fun w h => List.mem_append_left _ (List.mem_append_left _ (List.mem_append_left _ (List.mem_append_left _ (List.mem_append_left _ (List.mem_append_left _ (List.mem_append_right _ (List.mem_append_right _ (List.mem_append_right _ (List.mem_append_right _ (List.mem_append_right _ (List.mem_append_right _ (List.mem_append_right _ (List.mem_append_right _ (List.mem_append_right _ (List.mem_append_right _ (List.mem_append_right _ (List.mem_append_right _ (List.mem_append_right _ (List.mem_append_right _ (List.mem_append_right _ (List.mem_append_right _ (List.mem_append_right _ (List.mem_append_right _ (List.mem_append_left _ h))))))))))))))))))))))))
set_option maxRecDepth 20000 in
theorem wl_20 : ∀ w ∈ wsL_law_r20, w ∈ wsL_law := fun w h => List.mem_append_left _ (List.mem_append_left _ (List.mem_append_left _ (List.mem_append_left _ (List.mem_append_left _ (List.mem_append_left _ (List.mem_append_right _ (List.mem_append_right _ (List.mem_append_right _ (List.mem_append_right _ (List.mem_append_right _ (List.mem_append_right _ (List.mem_append_right _ (List.mem_append_right _ (List.mem_append_right _ (List.mem_append_right _ (List.mem_append_right _ (List.mem_append_right _ (List.mem_append_right _ (List.mem_append_right _ (List.mem_append_right _ (List.mem_append_right _ (List.mem_append_right _ (List.mem_append_right _ (List.mem_append_right _ (List.mem_append_left _ h)))))))))))))))))))))))))
set_option maxRecDepth 20000 in
theorem wl_21 : ∀ w ∈ wsL_law_r21, w ∈ wsL_law := fun w h => List.mem_append_left _ (List.mem_append_left _ (List.mem_append_left _ (List.mem_append_left _ (List.mem_append_left _ (List.mem_append_left _ (List.mem_append_right _ (List.mem_append_right _ (List.mem_append_right _ (List.mem_append_right _ (List.mem_append_right _ (List.mem_append_right _ (List.mem_append_right _ (List.mem_append_right _ (List.mem_append_right _ (List.mem_append_right _ (List.mem_append_right _ (List.mem_append_right _ (List.mem_append_right _ (List.mem_append_right _ (List.mem_append_right _ (List.mem_append_right _ (List.mem_append_right _ (List.mem_append_right _ (List.mem_append_right _ (List.mem_append_right _ (List.mem_append_left _ h))))))))))))))))))))))))))
set_option maxRecDepth 20000 in
theorem wl_22 : ∀ w ∈ wsL_law_r22, w ∈ wsL_law := fun w h => List.mem_append_left _ (List.mem_append_left _ (List.mem_append_left _ (List.mem_append_left _ (List.mem_append_left _ (List.mem_append_left _ (List.mem_append_right _ (List.mem_append_right _ (List.mem_append_right _ (List.mem_append_right _ (List.mem_append_right _ (List.mem_append_right _ (List.mem_append_right _ (List.mem_append_right _ (List.mem_append_right _ (List.mem_append_right _ (List.mem_append_right _ (List.mem_append_right _ (List.mem_append_right _ (List.mem_append_right _ (List.mem_append_right _ (List.mem_append_right _ (List.mem_append_right _ (List.mem_append_right _ (List.mem_append_right _ (List.mem_append_right _ (List.mem_append_right _ (List.mem_append_left _ h)))))))))))))))))))))))))))
set_option maxRecDepth 20000 in
theorem wl_23 : ∀ w ∈ wsL_law_r23, w ∈ wsL_law := fun w h => List.mem_append_left _ (List.mem_append_left _ (List.mem_append_left _ (List.mem_append_left _ (List.mem_append_left _ (List.mem_append_left _ (List.mem_append_right _ (List.mem_append_right _ (List.mem_append_right _ (List.mem_append_right _ (List.mem_append_right _ (List.mem_append_right _ (List.mem_append_right _ (List.mem_append_right _ (List.mem_append_right _ (List.mem_append_right _ (List.mem_append_right _ (List.mem_append_right _ (List.mem_append_right _ (List.mem_append_right _ (List.mem_append_right _ (List.mem_append_right _ (List.mem_append_right _ (List.mem_append_right _ (List.mem_append_right _ (List.mem_append_right _ (List.mem_append_right _ (List.mem_append_right _ (List.mem_append_left _ h))))))))))))))))))))))))))))
set_option maxRecDepth 20000 in
theorem wl_24 : ∀ w ∈ wsL_law_r24, w ∈ wsL_law := fun w h => List.mem_append_left _ (List.mem_append_left _ (List.mem_append_left _ (List.mem_append_left _ (List.mem_append_left _ (List.mem_append_left _ (List.mem_append_right _ (List.mem_append_right _ (List.mem_append_right _ (List.mem_append_right _ (List.mem_append_right _ (List.mem_append_right _ (List.mem_append_right _ (List.mem_append_right _ (List.mem_append_right _ (List.mem_append_right _ (List.mem_append_right _ (List.mem_append_right _ (List.mem_append_right _ (List.mem_append_right _ (List.mem_append_right _ (List.mem_append_right _ (List.mem_append_right _ (List.mem_append_right _ (List.mem_append_right _ (List.mem_append_right _ (List.mem_append_right _ (List.mem_append_right _ (List.mem_append_right _ (List.mem_append_left _ h)))))))))))))))))))))))))))))
set_option maxRecDepth 20000 in
theorem wl_25 : ∀ w ∈ wsL_law_r25, w ∈ wsL_law := fun w h => List.mem_append_left _ (List.mem_append_left _ (List.mem_append_left _ (List.mem_append_left _ (List.mem_append_left _ (List.mem_append_left _ (List.mem_append_right _ (List.mem_append_right _ (List.mem_append_right _ (List.mem_append_right _ (List.mem_append_right _ (List.mem_append_right _ (List.mem_append_right _ (List.mem_append_right _ (List.mem_append_right _ (List.mem_append_right _ (List.mem_append_right _ (List.mem_append_right _ (List.mem_append_right _ (List.mem_append_right _ (List.mem_append_right _ (List.mem_append_right _ (List.mem_append_right _ (List.mem_append_right _ (List.mem_append_right _ (List.mem_append_right _ (List.mem_append_right _ (List.mem_append_right _ (List.mem_append_right _ (List.mem_append_right _ (List.mem_append_left _ h))))))))))))))))))))))))))))))
set_option maxRecDepth 20000 in
theorem wl_26 : ∀ w ∈ wsL_law_r26, w ∈ wsL_law := fun w h => List.mem_append_left _ (List.mem_append_left _ (List.mem_append_left _ (List.mem_append_left _ (List.mem_append_left _ (List.mem_append_left _ (List.mem_append_right _ (List.mem_append_right _ (List.mem_append_right _ (List.mem_append_right _ (List.mem_append_right _ (List.mem_append_right _ (List.mem_append_right _ (List.mem_append_right _ (List.mem_append_right _ (List.mem_append_right _ (List.mem_append_right _ (List.mem_append_right _ (List.mem_append_right _ (List.mem_append_right _ (List.mem_append_right _ (List.mem_append_right _ (List.mem_append_right _ (List.mem_append_right _ (List.mem_append_right _ (List.mem_append_right _ (List.mem_append_right _ (List.mem_append_right _ (List.mem_append_right _ (List.mem_append_right _ (List.mem_append_right _ (h)))))))))))))))))))))))))))))))
set_option maxRecDepth 20000 in
theorem wl_wsX30 : ∀ w ∈ wsX30, w ∈ wsL_law := fun w h => List.mem_append_left _ (List.mem_append_left _ (List.mem_append_left _ (List.mem_append_left _ (List.mem_append_left _ (List.mem_append_right _ h)))))
set_option maxRecDepth 20000 in
theorem wl_wsX40 : ∀ w ∈ wsX40, w ∈ wsL_law := fun w h => List.mem_append_left _ (List.mem_append_left _ (List.mem_append_left _ (List.mem_append_left _ (List.mem_append_right _ h))))
set_option maxRecDepth 20000 in
theorem wl_wsX20 : ∀ w ∈ wsX20, w ∈ wsL_law := fun w h => List.mem_append_left _ (List.mem_append_left _ (List.mem_append_left _ (List.mem_append_right _ h)))
set_option maxRecDepth 20000 in
theorem wl_wsX10 : ∀ w ∈ wsX10, w ∈ wsL_law := fun w h => List.mem_append_left _ (List.mem_append_left _ (List.mem_append_right _ h))
set_option maxRecDepth 20000 in
theorem wl_wsX00 : ∀ w ∈ wsX00, w ∈ wsL_law := fun w h => List.mem_append_left _ (List.mem_append_right _ h)
set_option maxRecDepth 20000 in
theorem wg_1 : ∀ w ∈ wsL_law_r1, goodWord w = true := List.all_eq_true.mp (by decide +kernel)
set_option maxRecDepth 20000 in
theorem wg_2 : ∀ w ∈ wsL_law_r2, goodWord w = true := List.all_eq_true.mp (by decide +kernel)
set_option maxRecDepth 20000 in
theorem wg_3 : ∀ w ∈ wsL_law_r3, goodWord w = true := List.all_eq_true.mp (by decide +kernel)
set_option maxRecDepth 20000 in
theorem wg_4 : ∀ w ∈ wsL_law_r4, goodWord w = true := List.all_eq_true.mp (by decide +kernel)
set_option maxRecDepth 20000 in
theorem wg_5 : ∀ w ∈ wsL_law_r5, goodWord w = true := List.all_eq_true.mp (by decide +kernel)
set_option maxRecDepth 20000 in
theorem wg_6 : ∀ w ∈ wsL_law_r6, goodWord w = true := List.all_eq_true.mp (by decide +kernel)
set_option maxRecDepth 20000 in
theorem wg_7 : ∀ w ∈ wsL_law_r7, goodWord w = true := List.all_eq_true.mp (by decide +kernel)
set_option maxRecDepth 20000 in
theorem wg_8 : ∀ w ∈ wsL_law_r8, goodWord w = true := List.all_eq_true.mp (by decide +kernel)
set_option maxRecDepth 20000 in
theorem wg_9 : ∀ w ∈ wsL_law_r9, goodWord w = true := List.all_eq_true.mp (by decide +kernel)
set_option maxRecDepth 20000 in
theorem wg_10 : ∀ w ∈ wsL_law_r10, goodWord w = true := List.all_eq_true.mp (by decide +kernel)
set_option maxRecDepth 20000 in
theorem wg_11 : ∀ w ∈ wsL_law_r11, goodWord w = true := List.all_eq_true.mp (by decide +kernel)
set_option maxRecDepth 20000 in
theorem wg_12 : ∀ w ∈ wsL_law_r12, goodWord w = true := List.all_eq_true.mp (by decide +kernel)
set_option maxRecDepth 20000 in
theorem wg_13 : ∀ w ∈ wsL_law_r13, goodWord w = true := List.all_eq_true.mp (by decide +kernel)
set_option maxRecDepth 20000 in
theorem wg_14 : ∀ w ∈ wsL_law_r14, goodWord w = true := List.all_eq_true.mp (by decide +kernel)
set_option maxRecDepth 20000 in
theorem wg_15 : ∀ w ∈ wsL_law_r15, goodWord w = true := List.all_eq_true.mp (by decide +kernel)
set_option maxRecDepth 20000 in
theorem wg_16 : ∀ w ∈ wsL_law_r16, goodWord w = true := List.all_eq_true.mp (by decide +kernel)
set_option maxRecDepth 20000 in
theorem wg_17 : ∀ w ∈ wsL_law_r17, goodWord w = true := List.all_eq_true.mp (by decide +kernel)
set_option maxRecDepth 20000 in
theorem wg_18 : ∀ w ∈ wsL_law_r18, goodWord w = true := List.all_eq_true.mp (by decide +kernel)
set_option maxRecDepth 20000 in
theorem wg_19 : ∀ w ∈ wsL_law_r19, goodWord w = true := List.all_eq_true.mp (by decide +kernel)
set_option maxRecDepth 20000 in
theorem wg_20 : ∀ w ∈ wsL_law_r20, goodWord w = true := List.all_eq_true.mp (by decide +kernel)
set_option maxRecDepth 20000 in
theorem wg_21 : ∀ w ∈ wsL_law_r21, goodWord w = true := List.all_eq_true.mp (by decide +kernel)
set_option maxRecDepth 20000 in
theorem wg_22 : ∀ w ∈ wsL_law_r22, goodWord w = true := List.all_eq_true.mp (by decide +kernel)
set_option maxRecDepth 20000 in
theorem wg_23 : ∀ w ∈ wsL_law_r23, goodWord w = true := List.all_eq_true.mp (by decide +kernel)
set_option maxRecDepth 20000 in
theorem wg_24 : ∀ w ∈ wsL_law_r24, goodWord w = true := List.all_eq_true.mp (by decide +kernel)
set_option maxRecDepth 20000 in
theorem wg_25 : ∀ w ∈ wsL_law_r25, goodWord w = true := List.all_eq_true.mp (by decide +kernel)
set_option maxRecDepth 20000 in
theorem wg_26 : ∀ w ∈ wsL_law_r26, goodWord w = true := List.all_eq_true.mp (by decide +kernel)
set_option maxRecDepth 20000 in
theorem wg_wsX30 : ∀ w ∈ wsX30, goodWord w = true := List.all_eq_true.mp (by decide +kernel)
set_option maxRecDepth 20000 in
theorem wg_wsX40 : ∀ w ∈ wsX40, goodWord w = true := List.all_eq_true.mp (by decide +kernel)
set_option maxRecDepth 20000 in
theorem wg_wsX20 : ∀ w ∈ wsX20, goodWord w = true := List.all_eq_true.mp (by decide +kernel)
set_option maxRecDepth 20000 in
theorem wg_wsX10 : ∀ w ∈ wsX10, goodWord w = true := List.all_eq_true.mp (by decide +kernel)
set_option maxRecDepth 20000 in
theorem wg_wsX00 : ∀ w ∈ wsX00, goodWord w = true := List.all_eq_true.mp (by decide +kernel)
set_option maxRecDepth 20000 in
theorem wsL_good : ∀ w ∈ wsL_law, goodWord w = true := by
  unfold wsL_law
  exact List.forall_mem_append.mpr ⟨List.forall_mem_append.mpr ⟨List.forall_mem_append.mpr ⟨List.forall_mem_append.mpr ⟨List.forall_mem_append.mpr ⟨List.forall_mem_append.mpr ⟨List.forall_mem_append.mpr ⟨wg_1, List.forall_mem_append.mpr ⟨wg_2, List.forall_mem_append.mpr ⟨wg_3, List.forall_mem_append.mpr ⟨wg_4, List.forall_mem_append.mpr ⟨wg_5, List.forall_mem_append.mpr ⟨wg_6, List.forall_mem_append.mpr ⟨wg_7, List.forall_mem_append.mpr ⟨wg_8, List.forall_mem_append.mpr ⟨wg_9, List.forall_mem_append.mpr ⟨wg_10, List.forall_mem_append.mpr ⟨wg_11, List.forall_mem_append.mpr ⟨wg_12, List.forall_mem_append.mpr ⟨wg_13, List.forall_mem_append.mpr ⟨wg_14, List.forall_mem_append.mpr ⟨wg_15, List.forall_mem_append.mpr ⟨wg_16, List.forall_mem_append.mpr ⟨wg_17, List.forall_mem_append.mpr ⟨wg_18, List.forall_mem_append.mpr ⟨wg_19, List.forall_mem_append.mpr ⟨wg_20, List.forall_mem_append.mpr ⟨wg_21, List.forall_mem_append.mpr ⟨wg_22, List.forall_mem_append.mpr ⟨wg_23, List.forall_mem_append.mpr ⟨wg_24, List.forall_mem_append.mpr ⟨wg_25, wg_26⟩⟩⟩⟩⟩⟩⟩⟩⟩⟩⟩⟩⟩⟩⟩⟩⟩⟩⟩⟩⟩⟩⟩⟩⟩, wg_wsX30⟩, wg_wsX40⟩, wg_wsX20⟩, wg_wsX10⟩, wg_wsX00⟩, fun _ h => absurd h List.not_mem_nil⟩
set_option maxRecDepth 20000 in
theorem wq_1_0 : Cond.classLink RL 7 RX3 ∈ wsL_law := wl_1 _ (List.mem_of_getElem? (i := 0) rfl)
set_option maxRecDepth 20000 in
theorem wq_1_1 : Cond.instantiable RX3 10 ∈ wsL_law := wl_1 _ (List.mem_of_getElem? (i := 1) rfl)
set_option maxRecDepth 20000 in
theorem wq_1_2 : Cond.initialized RX3 ∈ wsL_law := wl_1 _ (List.mem_of_getElem? (i := 2) rfl)
set_option maxRecDepth 20000 in
theorem wq_1_3 : Cond.classLink RL 10 RX4 ∈ wsL_law := wl_1 _ (List.mem_of_getElem? (i := 3) rfl)
set_option maxRecDepth 20000 in
theorem wq_1_4 : Cond.instantiable RX4 17 ∈ wsL_law := wl_1 _ (List.mem_of_getElem? (i := 4) rfl)
set_option maxRecDepth 20000 in
theorem wq_1_5 : Cond.initialized RX4 ∈ wsL_law := wl_1 _ (List.mem_of_getElem? (i := 5) rfl)
set_option maxRecDepth 20000 in
theorem wq_1_6 : Cond.methodLink RL 9 yX3_init ∈ wsL_law := wl_1 _ (List.mem_of_getElem? (i := 6) rfl)
set_option maxRecDepth 20000 in
theorem wq_1_7 : Cond.instanceMethod yX3_init ∈ wsL_law := wl_1 _ (List.mem_of_getElem? (i := 7) rfl)
set_option maxRecDepth 20000 in
theorem wq_1_8 : Cond.code yX3_init cX3_init 2 none ∈ wsL_law := wl_1 _ (List.mem_of_getElem? (i := 8) rfl)
set_option maxRecDepth 20000 in
theorem wq_1_9 : Cond.methodLink RX3 1 objectInit ∈ wsL_law := wl_1 _ (List.mem_of_getElem? (i := 9) rfl)
set_option maxRecDepth 20000 in
theorem wq_1_10 : Cond.instanceMethod objectInit ∈ wsL_law := wl_1 _ (List.mem_of_getElem? (i := 10) rfl)
set_option maxRecDepth 20000 in
theorem wq_1_11 : Cond.code objectInit ⟨#[0xb1]⟩ 1 none ∈ wsL_law := wl_1 _ (List.mem_of_getElem? (i := 11) rfl)
set_option maxRecDepth 20000 in
theorem wq_1_12 : Cond.classLink RX3 7 RX2 ∈ wsL_law := wl_1 _ (List.mem_of_getElem? (i := 12) rfl)
set_option maxRecDepth 20000 in
theorem wq_1_13 : Cond.instantiable RX2 9 ∈ wsL_law := wl_1 _ (List.mem_of_getElem? (i := 13) rfl)
set_option maxRecDepth 20000 in
theorem wq_1_14 : Cond.initialized RX2 ∈ wsL_law := wl_1 _ (List.mem_of_getElem? (i := 14) rfl)
set_option maxRecDepth 20000 in
theorem wq_1_15 : Cond.fieldLink RX3 10 "CupFountain" "now" "LCupFountain$State;" ∈ wsL_law := wl_1 _ (List.mem_of_getElem? (i := 15) rfl)
set_option maxRecDepth 20000 in
theorem wq_1_16 : Cond.fieldLink RX3 16 "CupFountain" "ahead" "LCupFountain$State;" ∈ wsL_law := wl_1 _ (List.mem_of_getElem? (i := 16) rfl)
set_option maxRecDepth 20000 in
theorem wq_1_17 : Cond.fieldLink RX3 19 "CupFountain" "before" "LCupFountain$State;" ∈ wsL_law := wl_1 _ (List.mem_of_getElem? (i := 17) rfl)
set_option maxRecDepth 20000 in
theorem wq_1_18 : Cond.fieldLink RX3 22 "CupFountain" "snapshot" "LCupFountain$State;" ∈ wsL_law := wl_1 _ (List.mem_of_getElem? (i := 18) rfl)
set_option maxRecDepth 20000 in
theorem wq_1_19 : Cond.fieldLink RX3 25 "CupFountain" "past" "[LCupFountain$State;" ∈ wsL_law := wl_1 _ (List.mem_of_getElem? (i := 19) rfl)
set_option maxRecDepth 20000 in
theorem wq_1_20 : Cond.classLink RX3 29 RX1 ∈ wsL_law := wl_1 _ (List.mem_of_getElem? (i := 20) rfl)
set_option maxRecDepth 20000 in
theorem wq_1_21 : Cond.instantiable RX1 7 ∈ wsL_law := wl_1 _ (List.mem_of_getElem? (i := 21) rfl)
set_option maxRecDepth 20000 in
theorem wq_1_22 : Cond.initialized RX1 ∈ wsL_law := wl_1 _ (List.mem_of_getElem? (i := 22) rfl)
set_option maxRecDepth 20000 in
theorem wq_1_23 : Cond.fieldLink RX3 32 "CupFountain" "plan" "LCupFountain$Plan;" ∈ wsL_law := wl_1 _ (List.mem_of_getElem? (i := 23) rfl)
set_option maxRecDepth 20000 in
theorem wq_2_0 : Cond.fieldLink RX3 36 "CupFountain" "pastCount" "I" ∈ wsL_law := wl_2 _ (List.mem_of_getElem? (i := 0) rfl)
set_option maxRecDepth 20000 in
theorem wq_2_1 : Cond.fieldLink RX3 40 "CupFountain" "hasSnapshot" "Z" ∈ wsL_law := wl_2 _ (List.mem_of_getElem? (i := 1) rfl)
set_option maxRecDepth 20000 in
theorem wq_2_2 : Cond.fieldLink RX3 44 "CupFountain" "stopNumber" "I" ∈ wsL_law := wl_2 _ (List.mem_of_getElem? (i := 2) rfl)
set_option maxRecDepth 20000 in
theorem wq_2_3 : Cond.fieldLink RX3 47 "CupFountain" "stopError" "I" ∈ wsL_law := wl_2 _ (List.mem_of_getElem? (i := 3) rfl)
set_option maxRecDepth 20000 in
theorem wq_2_4 : Cond.methodLink RX3 9 yX2_init ∈ wsL_law := wl_2 _ (List.mem_of_getElem? (i := 4) rfl)
set_option maxRecDepth 20000 in
theorem wq_2_5 : Cond.instanceMethod yX2_init ∈ wsL_law := wl_2 _ (List.mem_of_getElem? (i := 5) rfl)
set_option maxRecDepth 20000 in
theorem wq_2_6 : Cond.code yX2_init cX2_init 2 none ∈ wsL_law := wl_2 _ (List.mem_of_getElem? (i := 6) rfl)
set_option maxRecDepth 20000 in
theorem wq_2_7 : Cond.methodLink RX2 3 objectInit ∈ wsL_law := wl_2 _ (List.mem_of_getElem? (i := 7) rfl)
set_option maxRecDepth 20000 in
theorem wq_2_8 : Cond.classLink RX2 9 RX0 ∈ wsL_law := wl_2 _ (List.mem_of_getElem? (i := 8) rfl)
set_option maxRecDepth 20000 in
theorem wq_2_9 : Cond.fieldLink RX2 11 "CupFountain$State" "cups" "[LCupFountain$Cup;" ∈ wsL_law := wl_2 _ (List.mem_of_getElem? (i := 9) rfl)
set_option maxRecDepth 20000 in
theorem wq_2_10 : Cond.fieldLink RX2 17 "CupFountain$State" "tick" "I" ∈ wsL_law := wl_2 _ (List.mem_of_getElem? (i := 10) rfl)
set_option maxRecDepth 20000 in
theorem wq_2_11 : Cond.fieldLink RX2 21 "CupFountain$State" "spring" "I" ∈ wsL_law := wl_2 _ (List.mem_of_getElem? (i := 11) rfl)
set_option maxRecDepth 20000 in
theorem wq_2_12 : Cond.fieldLink RX2 24 "CupFountain$State" "comesBack" "I" ∈ wsL_law := wl_2 _ (List.mem_of_getElem? (i := 12) rfl)
set_option maxRecDepth 20000 in
theorem wq_2_13 : Cond.fieldLink RX2 27 "CupFountain$State" "day" "I" ∈ wsL_law := wl_2 _ (List.mem_of_getElem? (i := 13) rfl)
set_option maxRecDepth 20000 in
theorem wq_2_14 : Cond.fieldLink RX2 30 "CupFountain$State" "basin" "I" ∈ wsL_law := wl_2 _ (List.mem_of_getElem? (i := 14) rfl)
set_option maxRecDepth 20000 in
theorem wq_2_15 : Cond.fieldLink RX2 33 "CupFountain$State" "lost" "I" ∈ wsL_law := wl_2 _ (List.mem_of_getElem? (i := 15) rfl)
set_option maxRecDepth 20000 in
theorem wq_2_16 : Cond.fieldLink RX2 36 "CupFountain$State" "sprung" "I" ∈ wsL_law := wl_2 _ (List.mem_of_getElem? (i := 16) rfl)
set_option maxRecDepth 20000 in
theorem wq_2_17 : Cond.fieldLink RX2 39 "CupFountain$State" "filled" "I" ∈ wsL_law := wl_2 _ (List.mem_of_getElem? (i := 17) rfl)
set_option maxRecDepth 20000 in
theorem wq_2_18 : Cond.instantiable RX0 13 ∈ wsL_law := wl_2 _ (List.mem_of_getElem? (i := 18) rfl)
set_option maxRecDepth 20000 in
theorem wq_2_19 : Cond.initialized RX0 ∈ wsL_law := wl_2 _ (List.mem_of_getElem? (i := 19) rfl)
set_option maxRecDepth 20000 in
theorem wq_2_20 : Cond.methodLink RX2 42 yX0_init ∈ wsL_law := wl_2 _ (List.mem_of_getElem? (i := 20) rfl)
set_option maxRecDepth 20000 in
theorem wq_2_21 : Cond.instanceMethod yX0_init ∈ wsL_law := wl_2 _ (List.mem_of_getElem? (i := 21) rfl)
set_option maxRecDepth 20000 in
theorem wq_2_22 : Cond.code yX0_init cX0_init 2 none ∈ wsL_law := wl_2 _ (List.mem_of_getElem? (i := 22) rfl)
set_option maxRecDepth 20000 in
theorem wq_2_23 : Cond.methodLink RX0 3 objectInit ∈ wsL_law := wl_2 _ (List.mem_of_getElem? (i := 23) rfl)
set_option maxRecDepth 20000 in
theorem wq_3_0 : Cond.fieldLink RX0 9 "CupFountain$Cup" "size" "I" ∈ wsL_law := wl_3 _ (List.mem_of_getElem? (i := 0) rfl)
set_option maxRecDepth 20000 in
theorem wq_3_1 : Cond.fieldLink RX0 15 "CupFountain$Cup" "leak" "I" ∈ wsL_law := wl_3 _ (List.mem_of_getElem? (i := 1) rfl)
set_option maxRecDepth 20000 in
theorem wq_3_2 : Cond.fieldLink RX0 18 "CupFountain$Cup" "water" "I" ∈ wsL_law := wl_3 _ (List.mem_of_getElem? (i := 2) rfl)
set_option maxRecDepth 20000 in
theorem wq_3_3 : Cond.fieldLink RX0 21 "CupFountain$Cup" "hour" "I" ∈ wsL_law := wl_3 _ (List.mem_of_getElem? (i := 3) rfl)
set_option maxRecDepth 20000 in
theorem wq_3_4 : Cond.fieldLink RX0 24 "CupFountain$Cup" "open" "Z" ∈ wsL_law := wl_3 _ (List.mem_of_getElem? (i := 4) rfl)
set_option maxRecDepth 20000 in
theorem wq_3_5 : Cond.fieldLink RX0 28 "CupFountain$Cup" "guarded" "Z" ∈ wsL_law := wl_3 _ (List.mem_of_getElem? (i := 5) rfl)
set_option maxRecDepth 20000 in
theorem wq_3_6 : Cond.fieldLink RX0 31 "CupFountain$Cup" "jet" "I" ∈ wsL_law := wl_3 _ (List.mem_of_getElem? (i := 6) rfl)
set_option maxRecDepth 20000 in
theorem wq_3_7 : Cond.fieldLink RX0 34 "CupFountain$Cup" "tips" "I" ∈ wsL_law := wl_3 _ (List.mem_of_getElem? (i := 7) rfl)
set_option maxRecDepth 20000 in
theorem wq_3_8 : Cond.fieldLink RX0 37 "CupFountain$Cup" "onTime" "I" ∈ wsL_law := wl_3 _ (List.mem_of_getElem? (i := 8) rfl)
set_option maxRecDepth 20000 in
theorem wq_3_9 : Cond.fieldLink RX0 40 "CupFountain$Cup" "early" "I" ∈ wsL_law := wl_3 _ (List.mem_of_getElem? (i := 9) rfl)
set_option maxRecDepth 20000 in
theorem wq_3_10 : Cond.fieldLink RX0 43 "CupFountain$Cup" "late" "I" ∈ wsL_law := wl_3 _ (List.mem_of_getElem? (i := 10) rfl)
set_option maxRecDepth 20000 in
theorem wq_3_11 : Cond.fieldLink RX0 46 "CupFountain$Cup" "ready" "I" ∈ wsL_law := wl_3 _ (List.mem_of_getElem? (i := 11) rfl)
set_option maxRecDepth 20000 in
theorem wq_3_12 : Cond.fieldLink RX0 49 "CupFountain$Cup" "next" "I" ∈ wsL_law := wl_3 _ (List.mem_of_getElem? (i := 12) rfl)
set_option maxRecDepth 20000 in
theorem wq_3_13 : Cond.instanceMethod yX1_init ∈ wsL_law := wl_3 _ (List.mem_of_getElem? (i := 13) rfl)
set_option maxRecDepth 20000 in
theorem wq_3_14 : Cond.code yX1_init cX1_init 1 none ∈ wsL_law := wl_3 _ (List.mem_of_getElem? (i := 14) rfl)
set_option maxRecDepth 20000 in
theorem wq_3_15 : Cond.methodLink RX1 3 objectInit ∈ wsL_law := wl_3 _ (List.mem_of_getElem? (i := 15) rfl)
set_option maxRecDepth 20000 in
theorem wq_3_16 : Cond.arrayClass .char ∈ wsL_law := wl_3 _ (List.mem_of_getElem? (i := 16) rfl)
set_option maxRecDepth 20000 in
theorem wq_3_17 : Cond.fieldLink RX1 9 "CupFountain$Plan" "text" "[C" ∈ wsL_law := wl_3 _ (List.mem_of_getElem? (i := 17) rfl)
set_option maxRecDepth 20000 in
theorem wq_3_18 : Cond.fieldLink RX1 15 "CupFountain$Plan" "length" "I" ∈ wsL_law := wl_3 _ (List.mem_of_getElem? (i := 18) rfl)
set_option maxRecDepth 20000 in
theorem wq_3_19 : Cond.arrayClass .int ∈ wsL_law := wl_3 _ (List.mem_of_getElem? (i := 19) rfl)
set_option maxRecDepth 20000 in
theorem wq_3_20 : Cond.fieldLink RX1 19 "CupFountain$Plan" "kinds" "[I" ∈ wsL_law := wl_3 _ (List.mem_of_getElem? (i := 20) rfl)
set_option maxRecDepth 20000 in
theorem wq_3_21 : Cond.fieldLink RX1 23 "CupFountain$Plan" "whose" "[I" ∈ wsL_law := wl_3 _ (List.mem_of_getElem? (i := 21) rfl)
set_option maxRecDepth 20000 in
theorem wq_3_22 : Cond.fieldLink RX1 26 "CupFountain$Plan" "numbers" "[I" ∈ wsL_law := wl_3 _ (List.mem_of_getElem? (i := 22) rfl)
set_option maxRecDepth 20000 in
theorem wq_3_23 : Cond.fieldLink RX1 29 "CupFountain$Plan" "things" "I" ∈ wsL_law := wl_3 _ (List.mem_of_getElem? (i := 23) rfl)
set_option maxRecDepth 20000 in
theorem wq_4_0 : Cond.fieldLink RX1 32 "CupFountain$Plan" "place" "I" ∈ wsL_law := wl_4 _ (List.mem_of_getElem? (i := 0) rfl)
set_option maxRecDepth 20000 in
theorem wq_4_1 : Cond.methodLink RL 12 yX4_init ∈ wsL_law := wl_4 _ (List.mem_of_getElem? (i := 1) rfl)
set_option maxRecDepth 20000 in
theorem wq_4_2 : Cond.instanceMethod yX4_init ∈ wsL_law := wl_4 _ (List.mem_of_getElem? (i := 2) rfl)
set_option maxRecDepth 20000 in
theorem wq_4_3 : Cond.code yX4_init cX4_init 2 none ∈ wsL_law := wl_4 _ (List.mem_of_getElem? (i := 3) rfl)
set_option maxRecDepth 20000 in
theorem wq_4_4 : Cond.methodLink RX4 1 objectInit ∈ wsL_law := wl_4 _ (List.mem_of_getElem? (i := 4) rfl)
set_option maxRecDepth 20000 in
theorem wq_4_5 : Cond.fieldLink RX4 7 "CupFountainModel" "s" "[I" ∈ wsL_law := wl_4 _ (List.mem_of_getElem? (i := 5) rfl)
set_option maxRecDepth 20000 in
theorem wq_4_6 : Cond.fieldLink RX4 13 "CupFountainModel" "history" "[I" ∈ wsL_law := wl_4 _ (List.mem_of_getElem? (i := 6) rfl)
set_option maxRecDepth 20000 in
theorem wq_4_7 : Cond.fieldLink RX4 16 "CupFountainModel" "snapshot" "[I" ∈ wsL_law := wl_4 _ (List.mem_of_getElem? (i := 7) rfl)
set_option maxRecDepth 20000 in
theorem wq_4_8 : Cond.fieldLink RX4 19 "CupFountainModel" "before" "[I" ∈ wsL_law := wl_4 _ (List.mem_of_getElem? (i := 8) rfl)
set_option maxRecDepth 20000 in
theorem wq_4_9 : Cond.fieldLink RX4 22 "CupFountainModel" "text" "[C" ∈ wsL_law := wl_4 _ (List.mem_of_getElem? (i := 9) rfl)
set_option maxRecDepth 20000 in
theorem wq_4_10 : Cond.fieldLink RX4 26 "CupFountainModel" "stoppedAt" "I" ∈ wsL_law := wl_4 _ (List.mem_of_getElem? (i := 10) rfl)
set_option maxRecDepth 20000 in
theorem wq_4_11 : Cond.arrayClass .boolean ∈ wsL_law := wl_4 _ (List.mem_of_getElem? (i := 11) rfl)
set_option maxRecDepth 20000 in
theorem wq_4_12 : Cond.fieldLink RX4 30 "CupFountainModel" "tipped" "[Z" ∈ wsL_law := wl_4 _ (List.mem_of_getElem? (i := 12) rfl)
set_option maxRecDepth 20000 in
theorem wq_4_13 : Cond.methodLink RX4 34 yX4_lay ∈ wsL_law := wl_4 _ (List.mem_of_getElem? (i := 13) rfl)
set_option maxRecDepth 20000 in
theorem wq_4_14 : Cond.instanceMethod yX4_lay ∈ wsL_law := wl_4 _ (List.mem_of_getElem? (i := 14) rfl)
set_option maxRecDepth 20000 in
theorem wq_4_15 : Cond.selects RX4 yX4_lay yX4_lay ∈ wsL_law := wl_4 _ (List.mem_of_getElem? (i := 15) rfl)
set_option maxRecDepth 20000 in
theorem wq_4_16 : Cond.code yX4_lay cX4_lay 4 none ∈ wsL_law := wl_4 _ (List.mem_of_getElem? (i := 16) rfl)
set_option maxRecDepth 20000 in
theorem wq_4_17 : Cond.methodLink RL 13 yX3_setCup ∈ wsL_law := wl_4 _ (List.mem_of_getElem? (i := 17) rfl)
set_option maxRecDepth 20000 in
theorem wq_4_18 : Cond.instanceMethod yX3_setCup ∈ wsL_law := wl_4 _ (List.mem_of_getElem? (i := 18) rfl)
set_option maxRecDepth 20000 in
theorem wq_4_19 : Cond.selects RX3 yX3_setCup yX3_setCup ∈ wsL_law := wl_4 _ (List.mem_of_getElem? (i := 19) rfl)
set_option maxRecDepth 20000 in
theorem wq_4_20 : Cond.code yX3_setCup cX3_setCup 4 (some .int) ∈ wsL_law := wl_4 _ (List.mem_of_getElem? (i := 20) rfl)
set_option maxRecDepth 20000 in
theorem wq_4_21 : Cond.methodLink RX3 50 yX2_copyFrom ∈ wsL_law := wl_4 _ (List.mem_of_getElem? (i := 21) rfl)
set_option maxRecDepth 20000 in
theorem wq_4_22 : Cond.instanceMethod yX2_copyFrom ∈ wsL_law := wl_4 _ (List.mem_of_getElem? (i := 22) rfl)
set_option maxRecDepth 20000 in
theorem wq_4_23 : Cond.selects RX2 yX2_copyFrom yX2_copyFrom ∈ wsL_law := wl_4 _ (List.mem_of_getElem? (i := 23) rfl)
set_option maxRecDepth 20000 in
theorem wq_5_0 : Cond.code yX2_copyFrom cX2_copyFrom 3 none ∈ wsL_law := wl_5 _ (List.mem_of_getElem? (i := 0) rfl)
set_option maxRecDepth 20000 in
theorem wq_5_1 : Cond.methodLink RX2 45 yX0_copyFrom ∈ wsL_law := wl_5 _ (List.mem_of_getElem? (i := 1) rfl)
set_option maxRecDepth 20000 in
theorem wq_5_2 : Cond.instanceMethod yX0_copyFrom ∈ wsL_law := wl_5 _ (List.mem_of_getElem? (i := 2) rfl)
set_option maxRecDepth 20000 in
theorem wq_5_3 : Cond.selects RX0 yX0_copyFrom yX0_copyFrom ∈ wsL_law := wl_5 _ (List.mem_of_getElem? (i := 3) rfl)
set_option maxRecDepth 20000 in
theorem wq_5_4 : Cond.code yX0_copyFrom cX0_copyFrom 2 none ∈ wsL_law := wl_5 _ (List.mem_of_getElem? (i := 4) rfl)
set_option maxRecDepth 20000 in
theorem wq_5_5 : Cond.methodLink RX3 54 yX2_changeCup ∈ wsL_law := wl_5 _ (List.mem_of_getElem? (i := 5) rfl)
set_option maxRecDepth 20000 in
theorem wq_5_6 : Cond.instanceMethod yX2_changeCup ∈ wsL_law := wl_5 _ (List.mem_of_getElem? (i := 6) rfl)
set_option maxRecDepth 20000 in
theorem wq_5_7 : Cond.selects RX2 yX2_changeCup yX2_changeCup ∈ wsL_law := wl_5 _ (List.mem_of_getElem? (i := 7) rfl)
set_option maxRecDepth 20000 in
theorem wq_5_8 : Cond.code yX2_changeCup cX2_changeCup 6 (some .int) ∈ wsL_law := wl_5 _ (List.mem_of_getElem? (i := 8) rfl)
set_option maxRecDepth 20000 in
theorem wq_5_9 : Cond.fieldLink RX2 61 "CupFountain$Cup" "size" "I" ∈ wsL_law := wl_5 _ (List.mem_of_getElem? (i := 9) rfl)
set_option maxRecDepth 20000 in
theorem wq_5_10 : Cond.fieldLink RX2 64 "CupFountain$Cup" "leak" "I" ∈ wsL_law := wl_5 _ (List.mem_of_getElem? (i := 10) rfl)
set_option maxRecDepth 20000 in
theorem wq_5_11 : Cond.fieldLink RX2 67 "CupFountain$Cup" "next" "I" ∈ wsL_law := wl_5 _ (List.mem_of_getElem? (i := 11) rfl)
set_option maxRecDepth 20000 in
theorem wq_5_12 : Cond.methodLink RX2 49 yX2_find ∈ wsL_law := wl_5 _ (List.mem_of_getElem? (i := 12) rfl)
set_option maxRecDepth 20000 in
theorem wq_5_13 : Cond.instanceMethod yX2_find ∈ wsL_law := wl_5 _ (List.mem_of_getElem? (i := 13) rfl)
set_option maxRecDepth 20000 in
theorem wq_5_14 : Cond.selects RX2 yX2_find yX2_find ∈ wsL_law := wl_5 _ (List.mem_of_getElem? (i := 14) rfl)
set_option maxRecDepth 20000 in
theorem wq_5_15 : Cond.code yX2_find cX2_find 2 (some (.object "CupFountain$Cup")) ∈ wsL_law := wl_5 _ (List.mem_of_getElem? (i := 15) rfl)
set_option maxRecDepth 20000 in
theorem wq_5_16 : Cond.methodLink RX2 53 yX2_isCupValue ∈ wsL_law := wl_5 _ (List.mem_of_getElem? (i := 16) rfl)
set_option maxRecDepth 20000 in
theorem wq_5_17 : Cond.static yX2_isCupValue ∈ wsL_law := wl_5 _ (List.mem_of_getElem? (i := 17) rfl)
set_option maxRecDepth 20000 in
theorem wq_5_18 : Cond.code yX2_isCupValue cX2_isCupValue 3 (some .boolean) ∈ wsL_law := wl_5 _ (List.mem_of_getElem? (i := 18) rfl)
set_option maxRecDepth 20000 in
theorem wq_5_19 : Cond.static yX3_isWithin ∈ wsL_law := wl_5 _ (List.mem_of_getElem? (i := 19) rfl)
set_option maxRecDepth 20000 in
theorem wq_5_20 : Cond.code yX3_isWithin cX3_isWithin 3 (some .boolean) ∈ wsL_law := wl_5 _ (List.mem_of_getElem? (i := 20) rfl)
set_option maxRecDepth 20000 in
theorem wq_5_21 : Cond.methodLink RX2 57 yX0_tell ∈ wsL_law := wl_5 _ (List.mem_of_getElem? (i := 21) rfl)
set_option maxRecDepth 20000 in
theorem wq_5_22 : Cond.instanceMethod yX0_tell ∈ wsL_law := wl_5 _ (List.mem_of_getElem? (i := 22) rfl)
set_option maxRecDepth 20000 in
theorem wq_5_23 : Cond.selects RX0 yX0_tell yX0_tell ∈ wsL_law := wl_5 _ (List.mem_of_getElem? (i := 23) rfl)
set_option maxRecDepth 20000 in
theorem wq_6_0 : Cond.code yX0_tell cX0_tell 2 (some .int) ∈ wsL_law := wl_6 _ (List.mem_of_getElem? (i := 0) rfl)
set_option maxRecDepth 20000 in
theorem wq_6_1 : Cond.static yX3_asNumber ∈ wsL_law := wl_6 _ (List.mem_of_getElem? (i := 1) rfl)
set_option maxRecDepth 20000 in
theorem wq_6_2 : Cond.code yX3_asNumber cX3_asNumber 1 (some .int) ∈ wsL_law := wl_6 _ (List.mem_of_getElem? (i := 2) rfl)
set_option maxRecDepth 20000 in
theorem wq_6_3 : Cond.methodLink RX3 58 yX3_recorded ∈ wsL_law := wl_6 _ (List.mem_of_getElem? (i := 3) rfl)
set_option maxRecDepth 20000 in
theorem wq_6_4 : Cond.instanceMethod yX3_recorded ∈ wsL_law := wl_6 _ (List.mem_of_getElem? (i := 4) rfl)
set_option maxRecDepth 20000 in
theorem wq_6_5 : Cond.selects RX3 yX3_recorded yX3_recorded ∈ wsL_law := wl_6 _ (List.mem_of_getElem? (i := 5) rfl)
set_option maxRecDepth 20000 in
theorem wq_6_6 : Cond.code yX3_recorded cX3_recorded 2 (some .int) ∈ wsL_law := wl_6 _ (List.mem_of_getElem? (i := 6) rfl)
set_option maxRecDepth 20000 in
theorem wq_6_7 : Cond.methodLink RX3 171 yX3_dropOldest ∈ wsL_law := wl_6 _ (List.mem_of_getElem? (i := 7) rfl)
set_option maxRecDepth 20000 in
theorem wq_6_8 : Cond.instanceMethod yX3_dropOldest ∈ wsL_law := wl_6 _ (List.mem_of_getElem? (i := 8) rfl)
set_option maxRecDepth 20000 in
theorem wq_6_9 : Cond.selects RX3 yX3_dropOldest yX3_dropOldest ∈ wsL_law := wl_6 _ (List.mem_of_getElem? (i := 9) rfl)
set_option maxRecDepth 20000 in
theorem wq_6_10 : Cond.code yX3_dropOldest cX3_dropOldest 3 none ∈ wsL_law := wl_6 _ (List.mem_of_getElem? (i := 10) rfl)
set_option maxRecDepth 20000 in
theorem wq_6_11 : Cond.methodLink RL 17 yX4_setCup ∈ wsL_law := wl_6 _ (List.mem_of_getElem? (i := 11) rfl)
set_option maxRecDepth 20000 in
theorem wq_6_12 : Cond.instanceMethod yX4_setCup ∈ wsL_law := wl_6 _ (List.mem_of_getElem? (i := 12) rfl)
set_option maxRecDepth 20000 in
theorem wq_6_13 : Cond.selects RX4 yX4_setCup yX4_setCup ∈ wsL_law := wl_6 _ (List.mem_of_getElem? (i := 13) rfl)
set_option maxRecDepth 20000 in
theorem wq_6_14 : Cond.code yX4_setCup cX4_setCup 4 (some .int) ∈ wsL_law := wl_6 _ (List.mem_of_getElem? (i := 14) rfl)
set_option maxRecDepth 20000 in
theorem wq_6_15 : Cond.methodLink RX4 88 yX4_begin ∈ wsL_law := wl_6 _ (List.mem_of_getElem? (i := 15) rfl)
set_option maxRecDepth 20000 in
theorem wq_6_16 : Cond.instanceMethod yX4_begin ∈ wsL_law := wl_6 _ (List.mem_of_getElem? (i := 16) rfl)
set_option maxRecDepth 20000 in
theorem wq_6_17 : Cond.selects RX4 yX4_begin yX4_begin ∈ wsL_law := wl_6 _ (List.mem_of_getElem? (i := 17) rfl)
set_option maxRecDepth 20000 in
theorem wq_6_18 : Cond.code yX4_begin cX4_begin 1 none ∈ wsL_law := wl_6 _ (List.mem_of_getElem? (i := 18) rfl)
set_option maxRecDepth 20000 in
theorem wq_6_19 : Cond.methodLink RX4 45 yX4_copy ∈ wsL_law := wl_6 _ (List.mem_of_getElem? (i := 19) rfl)
set_option maxRecDepth 20000 in
theorem wq_6_20 : Cond.static yX4_copy ∈ wsL_law := wl_6 _ (List.mem_of_getElem? (i := 20) rfl)
set_option maxRecDepth 20000 in
theorem wq_6_21 : Cond.code yX4_copy cX4_copy 5 none ∈ wsL_law := wl_6 _ (List.mem_of_getElem? (i := 21) rfl)
set_option maxRecDepth 20000 in
theorem wq_6_22 : Cond.methodLink RX4 91 yX4_doSetCup ∈ wsL_law := wl_6 _ (List.mem_of_getElem? (i := 22) rfl)
set_option maxRecDepth 20000 in
theorem wq_6_23 : Cond.instanceMethod yX4_doSetCup ∈ wsL_law := wl_6 _ (List.mem_of_getElem? (i := 23) rfl)
set_option maxRecDepth 20000 in
theorem wq_7_0 : Cond.selects RX4 yX4_doSetCup yX4_doSetCup ∈ wsL_law := wl_7 _ (List.mem_of_getElem? (i := 0) rfl)
set_option maxRecDepth 20000 in
theorem wq_7_1 : Cond.code yX4_doSetCup cX4_doSetCup 5 (some .int) ∈ wsL_law := wl_7 _ (List.mem_of_getElem? (i := 1) rfl)
set_option maxRecDepth 20000 in
theorem wq_7_2 : Cond.methodLink RX4 71 yX4_isCup ∈ wsL_law := wl_7 _ (List.mem_of_getElem? (i := 2) rfl)
set_option maxRecDepth 20000 in
theorem wq_7_3 : Cond.static yX4_isCup ∈ wsL_law := wl_7 _ (List.mem_of_getElem? (i := 3) rfl)
set_option maxRecDepth 20000 in
theorem wq_7_4 : Cond.code yX4_isCup cX4_isCup 1 (some .boolean) ∈ wsL_law := wl_7 _ (List.mem_of_getElem? (i := 4) rfl)
set_option maxRecDepth 20000 in
theorem wq_7_5 : Cond.methodLink RX4 38 yX4_in ∈ wsL_law := wl_7 _ (List.mem_of_getElem? (i := 5) rfl)
set_option maxRecDepth 20000 in
theorem wq_7_6 : Cond.static yX4_in ∈ wsL_law := wl_7 _ (List.mem_of_getElem? (i := 6) rfl)
set_option maxRecDepth 20000 in
theorem wq_7_7 : Cond.code yX4_in cX4_in 3 (some .boolean) ∈ wsL_law := wl_7 _ (List.mem_of_getElem? (i := 7) rfl)
set_option maxRecDepth 20000 in
theorem wq_7_8 : Cond.methodLink RX4 74 yX4_isValue ∈ wsL_law := wl_7 _ (List.mem_of_getElem? (i := 8) rfl)
set_option maxRecDepth 20000 in
theorem wq_7_9 : Cond.static yX4_isValue ∈ wsL_law := wl_7 _ (List.mem_of_getElem? (i := 9) rfl)
set_option maxRecDepth 20000 in
theorem wq_7_10 : Cond.code yX4_isValue cX4_isValue 3 (some .boolean) ∈ wsL_law := wl_7 _ (List.mem_of_getElem? (i := 10) rfl)
set_option maxRecDepth 20000 in
theorem wq_7_11 : Cond.methodLink RX4 49 yX4_of ∈ wsL_law := wl_7 _ (List.mem_of_getElem? (i := 11) rfl)
set_option maxRecDepth 20000 in
theorem wq_7_12 : Cond.instanceMethod yX4_of ∈ wsL_law := wl_7 _ (List.mem_of_getElem? (i := 12) rfl)
set_option maxRecDepth 20000 in
theorem wq_7_13 : Cond.selects RX4 yX4_of yX4_of ∈ wsL_law := wl_7 _ (List.mem_of_getElem? (i := 13) rfl)
set_option maxRecDepth 20000 in
theorem wq_7_14 : Cond.code yX4_of cX4_of 3 (some .int) ∈ wsL_law := wl_7 _ (List.mem_of_getElem? (i := 14) rfl)
set_option maxRecDepth 20000 in
theorem wq_7_15 : Cond.methodLink RX4 95 yX4_act ∈ wsL_law := wl_7 _ (List.mem_of_getElem? (i := 15) rfl)
set_option maxRecDepth 20000 in
theorem wq_7_16 : Cond.instanceMethod yX4_act ∈ wsL_law := wl_7 _ (List.mem_of_getElem? (i := 16) rfl)
set_option maxRecDepth 20000 in
theorem wq_7_17 : Cond.selects RX4 yX4_act yX4_act ∈ wsL_law := wl_7 _ (List.mem_of_getElem? (i := 17) rfl)
set_option maxRecDepth 20000 in
theorem wq_7_18 : Cond.code yX4_act cX4_act 2 (some .int) ∈ wsL_law := wl_7 _ (List.mem_of_getElem? (i := 18) rfl)
set_option maxRecDepth 20000 in
theorem wq_7_19 : Cond.methodLink RX4 84 yX4_recordFrom ∈ wsL_law := wl_7 _ (List.mem_of_getElem? (i := 19) rfl)
set_option maxRecDepth 20000 in
theorem wq_7_20 : Cond.instanceMethod yX4_recordFrom ∈ wsL_law := wl_7 _ (List.mem_of_getElem? (i := 20) rfl)
set_option maxRecDepth 20000 in
theorem wq_7_21 : Cond.selects RX4 yX4_recordFrom yX4_recordFrom ∈ wsL_law := wl_7 _ (List.mem_of_getElem? (i := 21) rfl)
set_option maxRecDepth 20000 in
theorem wq_7_22 : Cond.code yX4_recordFrom cX4_recordFrom 3 none ∈ wsL_law := wl_7 _ (List.mem_of_getElem? (i := 22) rfl)
set_option maxRecDepth 20000 in
theorem wq_7_23 : Cond.fieldLink RX4 42 "CupFountainModel" "kept" "I" ∈ wsL_law := wl_7 _ (List.mem_of_getElem? (i := 23) rfl)
set_option maxRecDepth 20000 in
theorem wq_8_0 : Cond.methodLink RL 18 yX3_turnLock ∈ wsL_law := wl_8 _ (List.mem_of_getElem? (i := 0) rfl)
set_option maxRecDepth 20000 in
theorem wq_8_1 : Cond.instanceMethod yX3_turnLock ∈ wsL_law := wl_8 _ (List.mem_of_getElem? (i := 1) rfl)
set_option maxRecDepth 20000 in
theorem wq_8_2 : Cond.selects RX3 yX3_turnLock yX3_turnLock ∈ wsL_law := wl_8 _ (List.mem_of_getElem? (i := 2) rfl)
set_option maxRecDepth 20000 in
theorem wq_8_3 : Cond.code yX3_turnLock cX3_turnLock 2 (some .int) ∈ wsL_law := wl_8 _ (List.mem_of_getElem? (i := 3) rfl)
set_option maxRecDepth 20000 in
theorem wq_8_4 : Cond.methodLink RX3 62 yX2_changeLock ∈ wsL_law := wl_8 _ (List.mem_of_getElem? (i := 4) rfl)
set_option maxRecDepth 20000 in
theorem wq_8_5 : Cond.instanceMethod yX2_changeLock ∈ wsL_law := wl_8 _ (List.mem_of_getElem? (i := 5) rfl)
set_option maxRecDepth 20000 in
theorem wq_8_6 : Cond.selects RX2 yX2_changeLock yX2_changeLock ∈ wsL_law := wl_8 _ (List.mem_of_getElem? (i := 6) rfl)
set_option maxRecDepth 20000 in
theorem wq_8_7 : Cond.code yX2_changeLock cX2_changeLock 3 (some .int) ∈ wsL_law := wl_8 _ (List.mem_of_getElem? (i := 7) rfl)
set_option maxRecDepth 20000 in
theorem wq_8_8 : Cond.fieldLink RX2 73 "CupFountain$Cup" "guarded" "Z" ∈ wsL_law := wl_8 _ (List.mem_of_getElem? (i := 8) rfl)
set_option maxRecDepth 20000 in
theorem wq_8_9 : Cond.fieldLink RX2 77 "CupFountain$Cup" "open" "Z" ∈ wsL_law := wl_8 _ (List.mem_of_getElem? (i := 9) rfl)
set_option maxRecDepth 20000 in
theorem wq_8_10 : Cond.methodLink RL 22 yX4_turnLock ∈ wsL_law := wl_8 _ (List.mem_of_getElem? (i := 10) rfl)
set_option maxRecDepth 20000 in
theorem wq_8_11 : Cond.instanceMethod yX4_turnLock ∈ wsL_law := wl_8 _ (List.mem_of_getElem? (i := 11) rfl)
set_option maxRecDepth 20000 in
theorem wq_8_12 : Cond.selects RX4 yX4_turnLock yX4_turnLock ∈ wsL_law := wl_8 _ (List.mem_of_getElem? (i := 12) rfl)
set_option maxRecDepth 20000 in
theorem wq_8_13 : Cond.code yX4_turnLock cX4_turnLock 2 (some .int) ∈ wsL_law := wl_8 _ (List.mem_of_getElem? (i := 13) rfl)
set_option maxRecDepth 20000 in
theorem wq_8_14 : Cond.methodLink RX4 98 yX4_doTurn ∈ wsL_law := wl_8 _ (List.mem_of_getElem? (i := 14) rfl)
set_option maxRecDepth 20000 in
theorem wq_8_15 : Cond.instanceMethod yX4_doTurn ∈ wsL_law := wl_8 _ (List.mem_of_getElem? (i := 15) rfl)
set_option maxRecDepth 20000 in
theorem wq_8_16 : Cond.selects RX4 yX4_doTurn yX4_doTurn ∈ wsL_law := wl_8 _ (List.mem_of_getElem? (i := 16) rfl)
set_option maxRecDepth 20000 in
theorem wq_8_17 : Cond.code yX4_doTurn cX4_doTurn 2 (some .int) ∈ wsL_law := wl_8 _ (List.mem_of_getElem? (i := 17) rfl)
set_option maxRecDepth 20000 in
theorem wq_8_18 : Cond.methodLink RL 23 yX3_setHour ∈ wsL_law := wl_8 _ (List.mem_of_getElem? (i := 18) rfl)
set_option maxRecDepth 20000 in
theorem wq_8_19 : Cond.instanceMethod yX3_setHour ∈ wsL_law := wl_8 _ (List.mem_of_getElem? (i := 19) rfl)
set_option maxRecDepth 20000 in
theorem wq_8_20 : Cond.selects RX3 yX3_setHour yX3_setHour ∈ wsL_law := wl_8 _ (List.mem_of_getElem? (i := 20) rfl)
set_option maxRecDepth 20000 in
theorem wq_8_21 : Cond.code yX3_setHour cX3_setHour 3 (some .int) ∈ wsL_law := wl_8 _ (List.mem_of_getElem? (i := 21) rfl)
set_option maxRecDepth 20000 in
theorem wq_8_22 : Cond.methodLink RX3 65 yX2_changeHour ∈ wsL_law := wl_8 _ (List.mem_of_getElem? (i := 22) rfl)
set_option maxRecDepth 20000 in
theorem wq_8_23 : Cond.instanceMethod yX2_changeHour ∈ wsL_law := wl_8 _ (List.mem_of_getElem? (i := 23) rfl)
set_option maxRecDepth 20000 in
theorem wq_9_0 : Cond.selects RX2 yX2_changeHour yX2_changeHour ∈ wsL_law := wl_9 _ (List.mem_of_getElem? (i := 0) rfl)
set_option maxRecDepth 20000 in
theorem wq_9_1 : Cond.code yX2_changeHour cX2_changeHour 5 (some .int) ∈ wsL_law := wl_9 _ (List.mem_of_getElem? (i := 1) rfl)
set_option maxRecDepth 20000 in
theorem wq_9_2 : Cond.fieldLink RX2 84 "CupFountain$Cup" "hour" "I" ∈ wsL_law := wl_9 _ (List.mem_of_getElem? (i := 2) rfl)
set_option maxRecDepth 20000 in
theorem wq_9_3 : Cond.methodLink RL 27 yX4_setHour ∈ wsL_law := wl_9 _ (List.mem_of_getElem? (i := 3) rfl)
set_option maxRecDepth 20000 in
theorem wq_9_4 : Cond.instanceMethod yX4_setHour ∈ wsL_law := wl_9 _ (List.mem_of_getElem? (i := 4) rfl)
set_option maxRecDepth 20000 in
theorem wq_9_5 : Cond.selects RX4 yX4_setHour yX4_setHour ∈ wsL_law := wl_9 _ (List.mem_of_getElem? (i := 5) rfl)
set_option maxRecDepth 20000 in
theorem wq_9_6 : Cond.code yX4_setHour cX4_setHour 3 (some .int) ∈ wsL_law := wl_9 _ (List.mem_of_getElem? (i := 6) rfl)
set_option maxRecDepth 20000 in
theorem wq_9_7 : Cond.methodLink RX4 101 yX4_doSetHour ∈ wsL_law := wl_9 _ (List.mem_of_getElem? (i := 7) rfl)
set_option maxRecDepth 20000 in
theorem wq_9_8 : Cond.instanceMethod yX4_doSetHour ∈ wsL_law := wl_9 _ (List.mem_of_getElem? (i := 8) rfl)
set_option maxRecDepth 20000 in
theorem wq_9_9 : Cond.selects RX4 yX4_doSetHour yX4_doSetHour ∈ wsL_law := wl_9 _ (List.mem_of_getElem? (i := 9) rfl)
set_option maxRecDepth 20000 in
theorem wq_9_10 : Cond.code yX4_doSetHour cX4_doSetHour 4 (some .int) ∈ wsL_law := wl_9 _ (List.mem_of_getElem? (i := 10) rfl)
set_option maxRecDepth 20000 in
theorem wq_9_11 : Cond.methodLink RL 28 yX3_guard ∈ wsL_law := wl_9 _ (List.mem_of_getElem? (i := 11) rfl)
set_option maxRecDepth 20000 in
theorem wq_9_12 : Cond.instanceMethod yX3_guard ∈ wsL_law := wl_9 _ (List.mem_of_getElem? (i := 12) rfl)
set_option maxRecDepth 20000 in
theorem wq_9_13 : Cond.selects RX3 yX3_guard yX3_guard ∈ wsL_law := wl_9 _ (List.mem_of_getElem? (i := 13) rfl)
set_option maxRecDepth 20000 in
theorem wq_9_14 : Cond.code yX3_guard cX3_guard 2 (some .int) ∈ wsL_law := wl_9 _ (List.mem_of_getElem? (i := 14) rfl)
set_option maxRecDepth 20000 in
theorem wq_9_15 : Cond.methodLink RX3 69 yX2_changeGuard ∈ wsL_law := wl_9 _ (List.mem_of_getElem? (i := 15) rfl)
set_option maxRecDepth 20000 in
theorem wq_9_16 : Cond.instanceMethod yX2_changeGuard ∈ wsL_law := wl_9 _ (List.mem_of_getElem? (i := 16) rfl)
set_option maxRecDepth 20000 in
theorem wq_9_17 : Cond.selects RX2 yX2_changeGuard yX2_changeGuard ∈ wsL_law := wl_9 _ (List.mem_of_getElem? (i := 17) rfl)
set_option maxRecDepth 20000 in
theorem wq_9_18 : Cond.code yX2_changeGuard cX2_changeGuard 3 (some .int) ∈ wsL_law := wl_9 _ (List.mem_of_getElem? (i := 18) rfl)
set_option maxRecDepth 20000 in
theorem wq_9_19 : Cond.methodLink RL 31 yX4_guard ∈ wsL_law := wl_9 _ (List.mem_of_getElem? (i := 19) rfl)
set_option maxRecDepth 20000 in
theorem wq_9_20 : Cond.instanceMethod yX4_guard ∈ wsL_law := wl_9 _ (List.mem_of_getElem? (i := 20) rfl)
set_option maxRecDepth 20000 in
theorem wq_9_21 : Cond.selects RX4 yX4_guard yX4_guard ∈ wsL_law := wl_9 _ (List.mem_of_getElem? (i := 21) rfl)
set_option maxRecDepth 20000 in
theorem wq_9_22 : Cond.code yX4_guard cX4_guard 2 (some .int) ∈ wsL_law := wl_9 _ (List.mem_of_getElem? (i := 22) rfl)
set_option maxRecDepth 20000 in
theorem wq_9_23 : Cond.methodLink RX4 104 yX4_doGuard ∈ wsL_law := wl_9 _ (List.mem_of_getElem? (i := 23) rfl)
set_option maxRecDepth 20000 in
theorem wq_10_0 : Cond.instanceMethod yX4_doGuard ∈ wsL_law := wl_10 _ (List.mem_of_getElem? (i := 0) rfl)
set_option maxRecDepth 20000 in
theorem wq_10_1 : Cond.selects RX4 yX4_doGuard yX4_doGuard ∈ wsL_law := wl_10 _ (List.mem_of_getElem? (i := 1) rfl)
set_option maxRecDepth 20000 in
theorem wq_10_2 : Cond.code yX4_doGuard cX4_doGuard 2 (some .int) ∈ wsL_law := wl_10 _ (List.mem_of_getElem? (i := 2) rfl)
set_option maxRecDepth 20000 in
theorem wq_10_3 : Cond.methodLink RL 32 yX3_fill ∈ wsL_law := wl_10 _ (List.mem_of_getElem? (i := 3) rfl)
set_option maxRecDepth 20000 in
theorem wq_10_4 : Cond.instanceMethod yX3_fill ∈ wsL_law := wl_10 _ (List.mem_of_getElem? (i := 4) rfl)
set_option maxRecDepth 20000 in
theorem wq_10_5 : Cond.selects RX3 yX3_fill yX3_fill ∈ wsL_law := wl_10 _ (List.mem_of_getElem? (i := 5) rfl)
set_option maxRecDepth 20000 in
theorem wq_10_6 : Cond.code yX3_fill cX3_fill 3 (some .int) ∈ wsL_law := wl_10 _ (List.mem_of_getElem? (i := 6) rfl)
set_option maxRecDepth 20000 in
theorem wq_10_7 : Cond.methodLink RX3 72 yX2_pour ∈ wsL_law := wl_10 _ (List.mem_of_getElem? (i := 7) rfl)
set_option maxRecDepth 20000 in
theorem wq_10_8 : Cond.instanceMethod yX2_pour ∈ wsL_law := wl_10 _ (List.mem_of_getElem? (i := 8) rfl)
set_option maxRecDepth 20000 in
theorem wq_10_9 : Cond.selects RX2 yX2_pour yX2_pour ∈ wsL_law := wl_10 _ (List.mem_of_getElem? (i := 9) rfl)
set_option maxRecDepth 20000 in
theorem wq_10_10 : Cond.code yX2_pour cX2_pour 4 (some .int) ∈ wsL_law := wl_10 _ (List.mem_of_getElem? (i := 10) rfl)
set_option maxRecDepth 20000 in
theorem wq_10_11 : Cond.fieldLink RX2 87 "CupFountain$Cup" "water" "I" ∈ wsL_law := wl_10 _ (List.mem_of_getElem? (i := 11) rfl)
set_option maxRecDepth 20000 in
theorem wq_10_12 : Cond.methodLink RL 35 yX4_fill ∈ wsL_law := wl_10 _ (List.mem_of_getElem? (i := 12) rfl)
set_option maxRecDepth 20000 in
theorem wq_10_13 : Cond.instanceMethod yX4_fill ∈ wsL_law := wl_10 _ (List.mem_of_getElem? (i := 13) rfl)
set_option maxRecDepth 20000 in
theorem wq_10_14 : Cond.selects RX4 yX4_fill yX4_fill ∈ wsL_law := wl_10 _ (List.mem_of_getElem? (i := 14) rfl)
set_option maxRecDepth 20000 in
theorem wq_10_15 : Cond.code yX4_fill cX4_fill 3 (some .int) ∈ wsL_law := wl_10 _ (List.mem_of_getElem? (i := 15) rfl)
set_option maxRecDepth 20000 in
theorem wq_10_16 : Cond.methodLink RX4 107 yX4_doFill ∈ wsL_law := wl_10 _ (List.mem_of_getElem? (i := 16) rfl)
set_option maxRecDepth 20000 in
theorem wq_10_17 : Cond.instanceMethod yX4_doFill ∈ wsL_law := wl_10 _ (List.mem_of_getElem? (i := 17) rfl)
set_option maxRecDepth 20000 in
theorem wq_10_18 : Cond.selects RX4 yX4_doFill yX4_doFill ∈ wsL_law := wl_10 _ (List.mem_of_getElem? (i := 18) rfl)
set_option maxRecDepth 20000 in
theorem wq_10_19 : Cond.code yX4_doFill cX4_doFill 3 (some .int) ∈ wsL_law := wl_10 _ (List.mem_of_getElem? (i := 19) rfl)
set_option maxRecDepth 20000 in
theorem wq_10_20 : Cond.methodLink RL 36 yX3_set ∈ wsL_law := wl_10 _ (List.mem_of_getElem? (i := 20) rfl)
set_option maxRecDepth 20000 in
theorem wq_10_21 : Cond.instanceMethod yX3_set ∈ wsL_law := wl_10 _ (List.mem_of_getElem? (i := 21) rfl)
set_option maxRecDepth 20000 in
theorem wq_10_22 : Cond.selects RX3 yX3_set yX3_set ∈ wsL_law := wl_10 _ (List.mem_of_getElem? (i := 22) rfl)
set_option maxRecDepth 20000 in
theorem wq_10_23 : Cond.code yX3_set cX3_set 3 (some .int) ∈ wsL_law := wl_10 _ (List.mem_of_getElem? (i := 23) rfl)
set_option maxRecDepth 20000 in
theorem wq_11_0 : Cond.methodLink RX3 75 yX2_changeSetting ∈ wsL_law := wl_11 _ (List.mem_of_getElem? (i := 0) rfl)
set_option maxRecDepth 20000 in
theorem wq_11_1 : Cond.instanceMethod yX2_changeSetting ∈ wsL_law := wl_11 _ (List.mem_of_getElem? (i := 1) rfl)
set_option maxRecDepth 20000 in
theorem wq_11_2 : Cond.selects RX2 yX2_changeSetting yX2_changeSetting ∈ wsL_law := wl_11 _ (List.mem_of_getElem? (i := 2) rfl)
set_option maxRecDepth 20000 in
theorem wq_11_3 : Cond.code yX2_changeSetting cX2_changeSetting 4 (some .int) ∈ wsL_law := wl_11 _ (List.mem_of_getElem? (i := 3) rfl)
set_option maxRecDepth 20000 in
theorem wq_11_4 : Cond.methodLink RX2 90 yX2_tellSetting ∈ wsL_law := wl_11 _ (List.mem_of_getElem? (i := 4) rfl)
set_option maxRecDepth 20000 in
theorem wq_11_5 : Cond.instanceMethod yX2_tellSetting ∈ wsL_law := wl_11 _ (List.mem_of_getElem? (i := 5) rfl)
set_option maxRecDepth 20000 in
theorem wq_11_6 : Cond.selects RX2 yX2_tellSetting yX2_tellSetting ∈ wsL_law := wl_11 _ (List.mem_of_getElem? (i := 6) rfl)
set_option maxRecDepth 20000 in
theorem wq_11_7 : Cond.code yX2_tellSetting cX2_tellSetting 2 (some .int) ∈ wsL_law := wl_11 _ (List.mem_of_getElem? (i := 7) rfl)
set_option maxRecDepth 20000 in
theorem wq_11_8 : Cond.methodLink RL 39 yX4_set ∈ wsL_law := wl_11 _ (List.mem_of_getElem? (i := 8) rfl)
set_option maxRecDepth 20000 in
theorem wq_11_9 : Cond.instanceMethod yX4_set ∈ wsL_law := wl_11 _ (List.mem_of_getElem? (i := 9) rfl)
set_option maxRecDepth 20000 in
theorem wq_11_10 : Cond.selects RX4 yX4_set yX4_set ∈ wsL_law := wl_11 _ (List.mem_of_getElem? (i := 10) rfl)
set_option maxRecDepth 20000 in
theorem wq_11_11 : Cond.code yX4_set cX4_set 3 (some .int) ∈ wsL_law := wl_11 _ (List.mem_of_getElem? (i := 11) rfl)
set_option maxRecDepth 20000 in
theorem wq_11_12 : Cond.methodLink RX4 110 yX4_doSet ∈ wsL_law := wl_11 _ (List.mem_of_getElem? (i := 12) rfl)
set_option maxRecDepth 20000 in
theorem wq_11_13 : Cond.instanceMethod yX4_doSet ∈ wsL_law := wl_11 _ (List.mem_of_getElem? (i := 13) rfl)
set_option maxRecDepth 20000 in
theorem wq_11_14 : Cond.selects RX4 yX4_doSet yX4_doSet ∈ wsL_law := wl_11 _ (List.mem_of_getElem? (i := 14) rfl)
set_option maxRecDepth 20000 in
theorem wq_11_15 : Cond.code yX4_doSet cX4_doSet 4 (some .int) ∈ wsL_law := wl_11 _ (List.mem_of_getElem? (i := 15) rfl)
set_option maxRecDepth 20000 in
theorem wq_11_16 : Cond.methodLink RL 40 yX3_pass ∈ wsL_law := wl_11 _ (List.mem_of_getElem? (i := 16) rfl)
set_option maxRecDepth 20000 in
theorem wq_11_17 : Cond.instanceMethod yX3_pass ∈ wsL_law := wl_11 _ (List.mem_of_getElem? (i := 17) rfl)
set_option maxRecDepth 20000 in
theorem wq_11_18 : Cond.selects RX3 yX3_pass yX3_pass ∈ wsL_law := wl_11 _ (List.mem_of_getElem? (i := 18) rfl)
set_option maxRecDepth 20000 in
theorem wq_11_19 : Cond.code yX3_pass cX3_pass 2 (some .int) ∈ wsL_law := wl_11 _ (List.mem_of_getElem? (i := 19) rfl)
set_option maxRecDepth 20000 in
theorem wq_11_20 : Cond.methodLink RX3 78 yX2_letPass ∈ wsL_law := wl_11 _ (List.mem_of_getElem? (i := 20) rfl)
set_option maxRecDepth 20000 in
theorem wq_11_21 : Cond.instanceMethod yX2_letPass ∈ wsL_law := wl_11 _ (List.mem_of_getElem? (i := 21) rfl)
set_option maxRecDepth 20000 in
theorem wq_11_22 : Cond.selects RX2 yX2_letPass yX2_letPass ∈ wsL_law := wl_11 _ (List.mem_of_getElem? (i := 22) rfl)
set_option maxRecDepth 20000 in
theorem wq_11_23 : Cond.code yX2_letPass cX2_letPass 2 (some .int) ∈ wsL_law := wl_11 _ (List.mem_of_getElem? (i := 23) rfl)
set_option maxRecDepth 20000 in
theorem wq_12_0 : Cond.constant RX2 93 (99999) ∈ wsL_law := wl_12 _ (List.mem_of_getElem? (i := 0) rfl)
set_option maxRecDepth 20000 in
theorem wq_12_1 : Cond.methodLink RX2 94 yX2_tickOn ∈ wsL_law := wl_12 _ (List.mem_of_getElem? (i := 1) rfl)
set_option maxRecDepth 20000 in
theorem wq_12_2 : Cond.instanceMethod yX2_tickOn ∈ wsL_law := wl_12 _ (List.mem_of_getElem? (i := 2) rfl)
set_option maxRecDepth 20000 in
theorem wq_12_3 : Cond.selects RX2 yX2_tickOn yX2_tickOn ∈ wsL_law := wl_12 _ (List.mem_of_getElem? (i := 3) rfl)
set_option maxRecDepth 20000 in
theorem wq_12_4 : Cond.code yX2_tickOn cX2_tickOn 4 (some .int) ∈ wsL_law := wl_12 _ (List.mem_of_getElem? (i := 4) rfl)
set_option maxRecDepth 20000 in
theorem wq_12_5 : Cond.methodLink RX2 97 yX2_tickOnce ∈ wsL_law := wl_12 _ (List.mem_of_getElem? (i := 5) rfl)
set_option maxRecDepth 20000 in
theorem wq_12_6 : Cond.instanceMethod yX2_tickOnce ∈ wsL_law := wl_12 _ (List.mem_of_getElem? (i := 6) rfl)
set_option maxRecDepth 20000 in
theorem wq_12_7 : Cond.selects RX2 yX2_tickOnce yX2_tickOnce ∈ wsL_law := wl_12 _ (List.mem_of_getElem? (i := 7) rfl)
set_option maxRecDepth 20000 in
theorem wq_12_8 : Cond.code yX2_tickOnce cX2_tickOnce 4 (some .int) ∈ wsL_law := wl_12 _ (List.mem_of_getElem? (i := 8) rfl)
set_option maxRecDepth 20000 in
theorem wq_12_9 : Cond.methodLink RX2 101 yX2_hourOf ∈ wsL_law := wl_12 _ (List.mem_of_getElem? (i := 9) rfl)
set_option maxRecDepth 20000 in
theorem wq_12_10 : Cond.instanceMethod yX2_hourOf ∈ wsL_law := wl_12 _ (List.mem_of_getElem? (i := 10) rfl)
set_option maxRecDepth 20000 in
theorem wq_12_11 : Cond.selects RX2 yX2_hourOf yX2_hourOf ∈ wsL_law := wl_12 _ (List.mem_of_getElem? (i := 11) rfl)
set_option maxRecDepth 20000 in
theorem wq_12_12 : Cond.code yX2_hourOf cX2_hourOf 2 (some .int) ∈ wsL_law := wl_12 _ (List.mem_of_getElem? (i := 12) rfl)
set_option maxRecDepth 20000 in
theorem wq_12_13 : Cond.methodLink RX2 104 yX2_openGuarded ∈ wsL_law := wl_12 _ (List.mem_of_getElem? (i := 13) rfl)
set_option maxRecDepth 20000 in
theorem wq_12_14 : Cond.instanceMethod yX2_openGuarded ∈ wsL_law := wl_12 _ (List.mem_of_getElem? (i := 14) rfl)
set_option maxRecDepth 20000 in
theorem wq_12_15 : Cond.selects RX2 yX2_openGuarded yX2_openGuarded ∈ wsL_law := wl_12 _ (List.mem_of_getElem? (i := 15) rfl)
set_option maxRecDepth 20000 in
theorem wq_12_16 : Cond.code yX2_openGuarded cX2_openGuarded 3 none ∈ wsL_law := wl_12 _ (List.mem_of_getElem? (i := 16) rfl)
set_option maxRecDepth 20000 in
theorem wq_12_17 : Cond.methodLink RX2 107 yX2_springs ∈ wsL_law := wl_12 _ (List.mem_of_getElem? (i := 17) rfl)
set_option maxRecDepth 20000 in
theorem wq_12_18 : Cond.instanceMethod yX2_springs ∈ wsL_law := wl_12 _ (List.mem_of_getElem? (i := 18) rfl)
set_option maxRecDepth 20000 in
theorem wq_12_19 : Cond.selects RX2 yX2_springs yX2_springs ∈ wsL_law := wl_12 _ (List.mem_of_getElem? (i := 19) rfl)
set_option maxRecDepth 20000 in
theorem wq_12_20 : Cond.code yX2_springs cX2_springs 2 none ∈ wsL_law := wl_12 _ (List.mem_of_getElem? (i := 20) rfl)
set_option maxRecDepth 20000 in
theorem wq_12_21 : Cond.methodLink RX2 120 Lib.Math.min.name ∈ wsL_law := wl_12 _ (List.mem_of_getElem? (i := 21) rfl)
set_option maxRecDepth 20000 in
theorem wq_12_22 : Cond.static Lib.Math.min.name ∈ wsL_law := wl_12 _ (List.mem_of_getElem? (i := 22) rfl)
set_option maxRecDepth 20000 in
theorem wq_12_23 : Cond.initialized "java/lang/Math" ∈ wsL_law := wl_12 _ (List.mem_of_getElem? (i := 23) rfl)
set_option maxRecDepth 20000 in
theorem wq_13_0 : Cond.code Lib.Math.min.name Lib.Math.min.code 2 (some .int) ∈ wsL_law := wl_13 _ (List.mem_of_getElem? (i := 0) rfl)
set_option maxRecDepth 20000 in
theorem wq_13_1 : Cond.methodLink RX2 110 yX2_tipOrKeep ∈ wsL_law := wl_13 _ (List.mem_of_getElem? (i := 1) rfl)
set_option maxRecDepth 20000 in
theorem wq_13_2 : Cond.instanceMethod yX2_tipOrKeep ∈ wsL_law := wl_13 _ (List.mem_of_getElem? (i := 2) rfl)
set_option maxRecDepth 20000 in
theorem wq_13_3 : Cond.selects RX2 yX2_tipOrKeep yX2_tipOrKeep ∈ wsL_law := wl_13 _ (List.mem_of_getElem? (i := 3) rfl)
set_option maxRecDepth 20000 in
theorem wq_13_4 : Cond.code yX2_tipOrKeep cX2_tipOrKeep 5 (some .int) ∈ wsL_law := wl_13 _ (List.mem_of_getElem? (i := 4) rfl)
set_option maxRecDepth 20000 in
theorem wq_13_5 : Cond.fieldLink RX2 126 "CupFountain$Cup" "ready" "I" ∈ wsL_law := wl_13 _ (List.mem_of_getElem? (i := 5) rfl)
set_option maxRecDepth 20000 in
theorem wq_13_6 : Cond.fieldLink RX2 129 "CupFountain$Cup" "jet" "I" ∈ wsL_law := wl_13 _ (List.mem_of_getElem? (i := 6) rfl)
set_option maxRecDepth 20000 in
theorem wq_13_7 : Cond.methodLink RX2 132 yX0_runOver ∈ wsL_law := wl_13 _ (List.mem_of_getElem? (i := 7) rfl)
set_option maxRecDepth 20000 in
theorem wq_13_8 : Cond.instanceMethod yX0_runOver ∈ wsL_law := wl_13 _ (List.mem_of_getElem? (i := 8) rfl)
set_option maxRecDepth 20000 in
theorem wq_13_9 : Cond.selects RX0 yX0_runOver yX0_runOver ∈ wsL_law := wl_13 _ (List.mem_of_getElem? (i := 9) rfl)
set_option maxRecDepth 20000 in
theorem wq_13_10 : Cond.code yX0_runOver cX0_runOver 2 (some .int) ∈ wsL_law := wl_13 _ (List.mem_of_getElem? (i := 10) rfl)
set_option maxRecDepth 20000 in
theorem wq_13_11 : Cond.methodLink RX2 135 yX0_tip ∈ wsL_law := wl_13 _ (List.mem_of_getElem? (i := 11) rfl)
set_option maxRecDepth 20000 in
theorem wq_13_12 : Cond.instanceMethod yX0_tip ∈ wsL_law := wl_13 _ (List.mem_of_getElem? (i := 12) rfl)
set_option maxRecDepth 20000 in
theorem wq_13_13 : Cond.selects RX0 yX0_tip yX0_tip ∈ wsL_law := wl_13 _ (List.mem_of_getElem? (i := 13) rfl)
set_option maxRecDepth 20000 in
theorem wq_13_14 : Cond.code yX0_tip cX0_tip 4 (some .int) ∈ wsL_law := wl_13 _ (List.mem_of_getElem? (i := 14) rfl)
set_option maxRecDepth 20000 in
theorem wq_13_15 : Cond.methodLink RX2 114 yX0_drip ∈ wsL_law := wl_13 _ (List.mem_of_getElem? (i := 15) rfl)
set_option maxRecDepth 20000 in
theorem wq_13_16 : Cond.instanceMethod yX0_drip ∈ wsL_law := wl_13 _ (List.mem_of_getElem? (i := 16) rfl)
set_option maxRecDepth 20000 in
theorem wq_13_17 : Cond.selects RX0 yX0_drip yX0_drip ∈ wsL_law := wl_13 _ (List.mem_of_getElem? (i := 17) rfl)
set_option maxRecDepth 20000 in
theorem wq_13_18 : Cond.code yX0_drip cX0_drip 2 (some .int) ∈ wsL_law := wl_13 _ (List.mem_of_getElem? (i := 18) rfl)
set_option maxRecDepth 20000 in
theorem wq_13_19 : Cond.methodLink RX0 52 Lib.Math.min.name ∈ wsL_law := wl_13 _ (List.mem_of_getElem? (i := 19) rfl)
set_option maxRecDepth 20000 in
theorem wq_13_20 : Cond.methodLink RX2 117 yX2_shutGuarded ∈ wsL_law := wl_13 _ (List.mem_of_getElem? (i := 20) rfl)
set_option maxRecDepth 20000 in
theorem wq_13_21 : Cond.instanceMethod yX2_shutGuarded ∈ wsL_law := wl_13 _ (List.mem_of_getElem? (i := 21) rfl)
set_option maxRecDepth 20000 in
theorem wq_13_22 : Cond.selects RX2 yX2_shutGuarded yX2_shutGuarded ∈ wsL_law := wl_13 _ (List.mem_of_getElem? (i := 22) rfl)
set_option maxRecDepth 20000 in
theorem wq_13_23 : Cond.code yX2_shutGuarded cX2_shutGuarded 2 none ∈ wsL_law := wl_13 _ (List.mem_of_getElem? (i := 23) rfl)
set_option maxRecDepth 20000 in
theorem wq_14_0 : Cond.methodLink RL 43 yX4_pass ∈ wsL_law := wl_14 _ (List.mem_of_getElem? (i := 0) rfl)
set_option maxRecDepth 20000 in
theorem wq_14_1 : Cond.instanceMethod yX4_pass ∈ wsL_law := wl_14 _ (List.mem_of_getElem? (i := 1) rfl)
set_option maxRecDepth 20000 in
theorem wq_14_2 : Cond.selects RX4 yX4_pass yX4_pass ∈ wsL_law := wl_14 _ (List.mem_of_getElem? (i := 2) rfl)
set_option maxRecDepth 20000 in
theorem wq_14_3 : Cond.code yX4_pass cX4_pass 2 (some .int) ∈ wsL_law := wl_14 _ (List.mem_of_getElem? (i := 3) rfl)
set_option maxRecDepth 20000 in
theorem wq_14_4 : Cond.methodLink RX4 113 yX4_doPass ∈ wsL_law := wl_14 _ (List.mem_of_getElem? (i := 4) rfl)
set_option maxRecDepth 20000 in
theorem wq_14_5 : Cond.instanceMethod yX4_doPass ∈ wsL_law := wl_14 _ (List.mem_of_getElem? (i := 5) rfl)
set_option maxRecDepth 20000 in
theorem wq_14_6 : Cond.selects RX4 yX4_doPass yX4_doPass ∈ wsL_law := wl_14 _ (List.mem_of_getElem? (i := 6) rfl)
set_option maxRecDepth 20000 in
theorem wq_14_7 : Cond.code yX4_doPass cX4_doPass 4 (some .int) ∈ wsL_law := wl_14 _ (List.mem_of_getElem? (i := 7) rfl)
set_option maxRecDepth 20000 in
theorem wq_14_8 : Cond.constant RX4 77 (99999) ∈ wsL_law := wl_14 _ (List.mem_of_getElem? (i := 8) rfl)
set_option maxRecDepth 20000 in
theorem wq_14_9 : Cond.methodLink RX4 78 yX4_sumOf ∈ wsL_law := wl_14 _ (List.mem_of_getElem? (i := 9) rfl)
set_option maxRecDepth 20000 in
theorem wq_14_10 : Cond.instanceMethod yX4_sumOf ∈ wsL_law := wl_14 _ (List.mem_of_getElem? (i := 10) rfl)
set_option maxRecDepth 20000 in
theorem wq_14_11 : Cond.selects RX4 yX4_sumOf yX4_sumOf ∈ wsL_law := wl_14 _ (List.mem_of_getElem? (i := 11) rfl)
set_option maxRecDepth 20000 in
theorem wq_14_12 : Cond.code yX4_sumOf cX4_sumOf 4 (some .int) ∈ wsL_law := wl_14 _ (List.mem_of_getElem? (i := 12) rfl)
set_option maxRecDepth 20000 in
theorem wq_14_13 : Cond.methodLink RX4 81 yX4_tick ∈ wsL_law := wl_14 _ (List.mem_of_getElem? (i := 13) rfl)
set_option maxRecDepth 20000 in
theorem wq_14_14 : Cond.instanceMethod yX4_tick ∈ wsL_law := wl_14 _ (List.mem_of_getElem? (i := 14) rfl)
set_option maxRecDepth 20000 in
theorem wq_14_15 : Cond.selects RX4 yX4_tick yX4_tick ∈ wsL_law := wl_14 _ (List.mem_of_getElem? (i := 15) rfl)
set_option maxRecDepth 20000 in
theorem wq_14_16 : Cond.code yX4_tick cX4_tick 5 none ∈ wsL_law := wl_14 _ (List.mem_of_getElem? (i := 16) rfl)
set_option maxRecDepth 20000 in
theorem wq_14_17 : Cond.methodLink RX4 64 yX4_hourOf ∈ wsL_law := wl_14 _ (List.mem_of_getElem? (i := 17) rfl)
set_option maxRecDepth 20000 in
theorem wq_14_18 : Cond.instanceMethod yX4_hourOf ∈ wsL_law := wl_14 _ (List.mem_of_getElem? (i := 18) rfl)
set_option maxRecDepth 20000 in
theorem wq_14_19 : Cond.selects RX4 yX4_hourOf yX4_hourOf ∈ wsL_law := wl_14 _ (List.mem_of_getElem? (i := 19) rfl)
set_option maxRecDepth 20000 in
theorem wq_14_20 : Cond.code yX4_hourOf cX4_hourOf 2 (some .int) ∈ wsL_law := wl_14 _ (List.mem_of_getElem? (i := 20) rfl)
set_option maxRecDepth 20000 in
theorem wq_14_21 : Cond.methodLink RX4 57 yX4_pour ∈ wsL_law := wl_14 _ (List.mem_of_getElem? (i := 21) rfl)
set_option maxRecDepth 20000 in
theorem wq_14_22 : Cond.instanceMethod yX4_pour ∈ wsL_law := wl_14 _ (List.mem_of_getElem? (i := 22) rfl)
set_option maxRecDepth 20000 in
theorem wq_14_23 : Cond.selects RX4 yX4_pour yX4_pour ∈ wsL_law := wl_14 _ (List.mem_of_getElem? (i := 23) rfl)
set_option maxRecDepth 20000 in
theorem wq_15_0 : Cond.code yX4_pour cX4_pour 3 none ∈ wsL_law := wl_15 _ (List.mem_of_getElem? (i := 0) rfl)
set_option maxRecDepth 20000 in
theorem wq_15_1 : Cond.methodLink RX4 68 yX4_tipOrKeep ∈ wsL_law := wl_15 _ (List.mem_of_getElem? (i := 1) rfl)
set_option maxRecDepth 20000 in
theorem wq_15_2 : Cond.instanceMethod yX4_tipOrKeep ∈ wsL_law := wl_15 _ (List.mem_of_getElem? (i := 2) rfl)
set_option maxRecDepth 20000 in
theorem wq_15_3 : Cond.selects RX4 yX4_tipOrKeep yX4_tipOrKeep ∈ wsL_law := wl_15 _ (List.mem_of_getElem? (i := 3) rfl)
set_option maxRecDepth 20000 in
theorem wq_15_4 : Cond.code yX4_tipOrKeep cX4_tipOrKeep 6 none ∈ wsL_law := wl_15 _ (List.mem_of_getElem? (i := 4) rfl)
set_option maxRecDepth 20000 in
theorem wq_15_5 : Cond.methodLink RX4 53 yX4_isFull ∈ wsL_law := wl_15 _ (List.mem_of_getElem? (i := 5) rfl)
set_option maxRecDepth 20000 in
theorem wq_15_6 : Cond.instanceMethod yX4_isFull ∈ wsL_law := wl_15 _ (List.mem_of_getElem? (i := 6) rfl)
set_option maxRecDepth 20000 in
theorem wq_15_7 : Cond.selects RX4 yX4_isFull yX4_isFull ∈ wsL_law := wl_15 _ (List.mem_of_getElem? (i := 7) rfl)
set_option maxRecDepth 20000 in
theorem wq_15_8 : Cond.code yX4_isFull cX4_isFull 2 (some .boolean) ∈ wsL_law := wl_15 _ (List.mem_of_getElem? (i := 8) rfl)
set_option maxRecDepth 20000 in
theorem wq_15_9 : Cond.methodLink RX4 61 yX4_countTip ∈ wsL_law := wl_15 _ (List.mem_of_getElem? (i := 9) rfl)
set_option maxRecDepth 20000 in
theorem wq_15_10 : Cond.instanceMethod yX4_countTip ∈ wsL_law := wl_15 _ (List.mem_of_getElem? (i := 10) rfl)
set_option maxRecDepth 20000 in
theorem wq_15_11 : Cond.selects RX4 yX4_countTip yX4_countTip ∈ wsL_law := wl_15 _ (List.mem_of_getElem? (i := 11) rfl)
set_option maxRecDepth 20000 in
theorem wq_15_12 : Cond.code yX4_countTip cX4_countTip 5 none ∈ wsL_law := wl_15 _ (List.mem_of_getElem? (i := 12) rfl)
set_option maxRecDepth 20000 in
theorem wq_15_13 : Cond.methodLink RL 44 yX3_type ∈ wsL_law := wl_15 _ (List.mem_of_getElem? (i := 13) rfl)
set_option maxRecDepth 20000 in
theorem wq_15_14 : Cond.instanceMethod yX3_type ∈ wsL_law := wl_15 _ (List.mem_of_getElem? (i := 14) rfl)
set_option maxRecDepth 20000 in
theorem wq_15_15 : Cond.selects RX3 yX3_type yX3_type ∈ wsL_law := wl_15 _ (List.mem_of_getElem? (i := 15) rfl)
set_option maxRecDepth 20000 in
theorem wq_15_16 : Cond.code yX3_type cX3_type 2 (some .int) ∈ wsL_law := wl_15 _ (List.mem_of_getElem? (i := 16) rfl)
set_option maxRecDepth 20000 in
theorem wq_15_17 : Cond.methodLink RX3 81 yX1_append ∈ wsL_law := wl_15 _ (List.mem_of_getElem? (i := 17) rfl)
set_option maxRecDepth 20000 in
theorem wq_15_18 : Cond.instanceMethod yX1_append ∈ wsL_law := wl_15 _ (List.mem_of_getElem? (i := 18) rfl)
set_option maxRecDepth 20000 in
theorem wq_15_19 : Cond.selects RX1 yX1_append yX1_append ∈ wsL_law := wl_15 _ (List.mem_of_getElem? (i := 19) rfl)
set_option maxRecDepth 20000 in
theorem wq_15_20 : Cond.code yX1_append cX1_append 2 (some .int) ∈ wsL_law := wl_15 _ (List.mem_of_getElem? (i := 20) rfl)
set_option maxRecDepth 20000 in
theorem wq_15_21 : Cond.methodLink RL 48 yX4_type ∈ wsL_law := wl_15 _ (List.mem_of_getElem? (i := 21) rfl)
set_option maxRecDepth 20000 in
theorem wq_15_22 : Cond.instanceMethod yX4_type ∈ wsL_law := wl_15 _ (List.mem_of_getElem? (i := 22) rfl)
set_option maxRecDepth 20000 in
theorem wq_15_23 : Cond.selects RX4 yX4_type yX4_type ∈ wsL_law := wl_15 _ (List.mem_of_getElem? (i := 23) rfl)
set_option maxRecDepth 20000 in
theorem wq_16_0 : Cond.code yX4_type cX4_type 2 (some .int) ∈ wsL_law := wl_16 _ (List.mem_of_getElem? (i := 0) rfl)
set_option maxRecDepth 20000 in
theorem wq_16_1 : Cond.fieldLink RX4 116 "CupFountainModel" "length" "I" ∈ wsL_law := wl_16 _ (List.mem_of_getElem? (i := 1) rfl)
set_option maxRecDepth 20000 in
theorem wq_16_2 : Cond.methodLink RL 49 yX3_clearText ∈ wsL_law := wl_16 _ (List.mem_of_getElem? (i := 2) rfl)
set_option maxRecDepth 20000 in
theorem wq_16_3 : Cond.instanceMethod yX3_clearText ∈ wsL_law := wl_16 _ (List.mem_of_getElem? (i := 3) rfl)
set_option maxRecDepth 20000 in
theorem wq_16_4 : Cond.selects RX3 yX3_clearText yX3_clearText ∈ wsL_law := wl_16 _ (List.mem_of_getElem? (i := 4) rfl)
set_option maxRecDepth 20000 in
theorem wq_16_5 : Cond.code yX3_clearText cX3_clearText 1 (some .int) ∈ wsL_law := wl_16 _ (List.mem_of_getElem? (i := 5) rfl)
set_option maxRecDepth 20000 in
theorem wq_16_6 : Cond.methodLink RX3 85 yX1_empty ∈ wsL_law := wl_16 _ (List.mem_of_getElem? (i := 6) rfl)
set_option maxRecDepth 20000 in
theorem wq_16_7 : Cond.instanceMethod yX1_empty ∈ wsL_law := wl_16 _ (List.mem_of_getElem? (i := 7) rfl)
set_option maxRecDepth 20000 in
theorem wq_16_8 : Cond.selects RX1 yX1_empty yX1_empty ∈ wsL_law := wl_16 _ (List.mem_of_getElem? (i := 8) rfl)
set_option maxRecDepth 20000 in
theorem wq_16_9 : Cond.code yX1_empty cX1_empty 2 (some .int) ∈ wsL_law := wl_16 _ (List.mem_of_getElem? (i := 9) rfl)
set_option maxRecDepth 20000 in
theorem wq_16_10 : Cond.methodLink RL 53 yX4_clearText ∈ wsL_law := wl_16 _ (List.mem_of_getElem? (i := 10) rfl)
set_option maxRecDepth 20000 in
theorem wq_16_11 : Cond.instanceMethod yX4_clearText ∈ wsL_law := wl_16 _ (List.mem_of_getElem? (i := 11) rfl)
set_option maxRecDepth 20000 in
theorem wq_16_12 : Cond.selects RX4 yX4_clearText yX4_clearText ∈ wsL_law := wl_16 _ (List.mem_of_getElem? (i := 12) rfl)
set_option maxRecDepth 20000 in
theorem wq_16_13 : Cond.code yX4_clearText cX4_clearText 2 (some .int) ∈ wsL_law := wl_16 _ (List.mem_of_getElem? (i := 13) rfl)
set_option maxRecDepth 20000 in
theorem wq_16_14 : Cond.methodLink RL 54 yX3_perform ∈ wsL_law := wl_16 _ (List.mem_of_getElem? (i := 14) rfl)
set_option maxRecDepth 20000 in
theorem wq_16_15 : Cond.instanceMethod yX3_perform ∈ wsL_law := wl_16 _ (List.mem_of_getElem? (i := 15) rfl)
set_option maxRecDepth 20000 in
theorem wq_16_16 : Cond.selects RX3 yX3_perform yX3_perform ∈ wsL_law := wl_16 _ (List.mem_of_getElem? (i := 16) rfl)
set_option maxRecDepth 20000 in
theorem wq_16_17 : Cond.code yX3_perform cX3_perform 4 (some .int) ∈ wsL_law := wl_16 _ (List.mem_of_getElem? (i := 17) rfl)
set_option maxRecDepth 20000 in
theorem wq_16_18 : Cond.fieldLink RX3 92 "CupFountain$Plan" "things" "I" ∈ wsL_law := wl_16 _ (List.mem_of_getElem? (i := 18) rfl)
set_option maxRecDepth 20000 in
theorem wq_16_19 : Cond.methodLink RX3 89 yX1_read ∈ wsL_law := wl_16 _ (List.mem_of_getElem? (i := 19) rfl)
set_option maxRecDepth 20000 in
theorem wq_16_20 : Cond.instanceMethod yX1_read ∈ wsL_law := wl_16 _ (List.mem_of_getElem? (i := 20) rfl)
set_option maxRecDepth 20000 in
theorem wq_16_21 : Cond.selects RX1 yX1_read yX1_read ∈ wsL_law := wl_16 _ (List.mem_of_getElem? (i := 21) rfl)
set_option maxRecDepth 20000 in
theorem wq_16_22 : Cond.code yX1_read cX1_read 2 (some .int) ∈ wsL_law := wl_16 _ (List.mem_of_getElem? (i := 22) rfl)
set_option maxRecDepth 20000 in
theorem wq_16_23 : Cond.methodLink RX1 35 yX1_readThing ∈ wsL_law := wl_16 _ (List.mem_of_getElem? (i := 23) rfl)
set_option maxRecDepth 20000 in
theorem wq_17_0 : Cond.instanceMethod yX1_readThing ∈ wsL_law := wl_17 _ (List.mem_of_getElem? (i := 0) rfl)
set_option maxRecDepth 20000 in
theorem wq_17_1 : Cond.selects RX1 yX1_readThing yX1_readThing ∈ wsL_law := wl_17 _ (List.mem_of_getElem? (i := 1) rfl)
set_option maxRecDepth 20000 in
theorem wq_17_2 : Cond.code yX1_readThing cX1_readThing 3 (some .boolean) ∈ wsL_law := wl_17 _ (List.mem_of_getElem? (i := 2) rfl)
set_option maxRecDepth 20000 in
theorem wq_17_3 : Cond.methodLink RX1 43 yX1_look ∈ wsL_law := wl_17 _ (List.mem_of_getElem? (i := 3) rfl)
set_option maxRecDepth 20000 in
theorem wq_17_4 : Cond.instanceMethod yX1_look ∈ wsL_law := wl_17 _ (List.mem_of_getElem? (i := 4) rfl)
set_option maxRecDepth 20000 in
theorem wq_17_5 : Cond.selects RX1 yX1_look yX1_look ∈ wsL_law := wl_17 _ (List.mem_of_getElem? (i := 5) rfl)
set_option maxRecDepth 20000 in
theorem wq_17_6 : Cond.code yX1_look cX1_look 1 (some .int) ∈ wsL_law := wl_17 _ (List.mem_of_getElem? (i := 6) rfl)
set_option maxRecDepth 20000 in
theorem wq_17_7 : Cond.methodLink RX1 47 yX1_startThing ∈ wsL_law := wl_17 _ (List.mem_of_getElem? (i := 7) rfl)
set_option maxRecDepth 20000 in
theorem wq_17_8 : Cond.instanceMethod yX1_startThing ∈ wsL_law := wl_17 _ (List.mem_of_getElem? (i := 8) rfl)
set_option maxRecDepth 20000 in
theorem wq_17_9 : Cond.selects RX1 yX1_startThing yX1_startThing ∈ wsL_law := wl_17 _ (List.mem_of_getElem? (i := 9) rfl)
set_option maxRecDepth 20000 in
theorem wq_17_10 : Cond.code yX1_startThing cX1_startThing 3 (some .boolean) ∈ wsL_law := wl_17 _ (List.mem_of_getElem? (i := 10) rfl)
set_option maxRecDepth 20000 in
theorem wq_17_11 : Cond.methodLink RX1 51 yX1_readCup ∈ wsL_law := wl_17 _ (List.mem_of_getElem? (i := 11) rfl)
set_option maxRecDepth 20000 in
theorem wq_17_12 : Cond.instanceMethod yX1_readCup ∈ wsL_law := wl_17 _ (List.mem_of_getElem? (i := 12) rfl)
set_option maxRecDepth 20000 in
theorem wq_17_13 : Cond.selects RX1 yX1_readCup yX1_readCup ∈ wsL_law := wl_17 _ (List.mem_of_getElem? (i := 13) rfl)
set_option maxRecDepth 20000 in
theorem wq_17_14 : Cond.code yX1_readCup cX1_readCup 3 (some .boolean) ∈ wsL_law := wl_17 _ (List.mem_of_getElem? (i := 14) rfl)
set_option maxRecDepth 20000 in
theorem wq_17_15 : Cond.methodLink RX1 61 yX1_lookForDigit ∈ wsL_law := wl_17 _ (List.mem_of_getElem? (i := 15) rfl)
set_option maxRecDepth 20000 in
theorem wq_17_16 : Cond.instanceMethod yX1_lookForDigit ∈ wsL_law := wl_17 _ (List.mem_of_getElem? (i := 16) rfl)
set_option maxRecDepth 20000 in
theorem wq_17_17 : Cond.selects RX1 yX1_lookForDigit yX1_lookForDigit ∈ wsL_law := wl_17 _ (List.mem_of_getElem? (i := 17) rfl)
set_option maxRecDepth 20000 in
theorem wq_17_18 : Cond.code yX1_lookForDigit cX1_lookForDigit 2 (some .int) ∈ wsL_law := wl_17 _ (List.mem_of_getElem? (i := 18) rfl)
set_option maxRecDepth 20000 in
theorem wq_17_19 : Cond.methodLink RX1 39 yX1_skip ∈ wsL_law := wl_17 _ (List.mem_of_getElem? (i := 19) rfl)
set_option maxRecDepth 20000 in
theorem wq_17_20 : Cond.instanceMethod yX1_skip ∈ wsL_law := wl_17 _ (List.mem_of_getElem? (i := 20) rfl)
set_option maxRecDepth 20000 in
theorem wq_17_21 : Cond.selects RX1 yX1_skip yX1_skip ∈ wsL_law := wl_17 _ (List.mem_of_getElem? (i := 21) rfl)
set_option maxRecDepth 20000 in
theorem wq_17_22 : Cond.code yX1_skip cX1_skip 2 (some .boolean) ∈ wsL_law := wl_17 _ (List.mem_of_getElem? (i := 22) rfl)
set_option maxRecDepth 20000 in
theorem wq_17_23 : Cond.methodLink RX1 54 yX1_readNumber ∈ wsL_law := wl_17 _ (List.mem_of_getElem? (i := 23) rfl)
set_option maxRecDepth 20000 in
theorem wq_18_0 : Cond.instanceMethod yX1_readNumber ∈ wsL_law := wl_18 _ (List.mem_of_getElem? (i := 0) rfl)
set_option maxRecDepth 20000 in
theorem wq_18_1 : Cond.selects RX1 yX1_readNumber yX1_readNumber ∈ wsL_law := wl_18 _ (List.mem_of_getElem? (i := 1) rfl)
set_option maxRecDepth 20000 in
theorem wq_18_2 : Cond.code yX1_readNumber cX1_readNumber 7 (some .boolean) ∈ wsL_law := wl_18 _ (List.mem_of_getElem? (i := 2) rfl)
set_option maxRecDepth 20000 in
theorem wq_18_3 : Cond.methodLink RX3 95 yX1_doThing ∈ wsL_law := wl_18 _ (List.mem_of_getElem? (i := 3) rfl)
set_option maxRecDepth 20000 in
theorem wq_18_4 : Cond.instanceMethod yX1_doThing ∈ wsL_law := wl_18 _ (List.mem_of_getElem? (i := 4) rfl)
set_option maxRecDepth 20000 in
theorem wq_18_5 : Cond.selects RX1 yX1_doThing yX1_doThing ∈ wsL_law := wl_18 _ (List.mem_of_getElem? (i := 5) rfl)
set_option maxRecDepth 20000 in
theorem wq_18_6 : Cond.code yX1_doThing cX1_doThing 3 (some .int) ∈ wsL_law := wl_18 _ (List.mem_of_getElem? (i := 6) rfl)
set_option maxRecDepth 20000 in
theorem wq_18_7 : Cond.methodLink RX1 64 yX2_changeHour ∈ wsL_law := wl_18 _ (List.mem_of_getElem? (i := 7) rfl)
set_option maxRecDepth 20000 in
theorem wq_18_8 : Cond.methodLink RX1 70 yX2_changeCup ∈ wsL_law := wl_18 _ (List.mem_of_getElem? (i := 8) rfl)
set_option maxRecDepth 20000 in
theorem wq_18_9 : Cond.methodLink RX1 74 yX2_pour ∈ wsL_law := wl_18 _ (List.mem_of_getElem? (i := 9) rfl)
set_option maxRecDepth 20000 in
theorem wq_18_10 : Cond.methodLink RX1 77 yX2_changeGuard ∈ wsL_law := wl_18 _ (List.mem_of_getElem? (i := 10) rfl)
set_option maxRecDepth 20000 in
theorem wq_18_11 : Cond.methodLink RX1 81 yX2_letPass ∈ wsL_law := wl_18 _ (List.mem_of_getElem? (i := 11) rfl)
set_option maxRecDepth 20000 in
theorem wq_18_12 : Cond.methodLink RX3 99 yX3_isError ∈ wsL_law := wl_18 _ (List.mem_of_getElem? (i := 12) rfl)
set_option maxRecDepth 20000 in
theorem wq_18_13 : Cond.static yX3_isError ∈ wsL_law := wl_18 _ (List.mem_of_getElem? (i := 13) rfl)
set_option maxRecDepth 20000 in
theorem wq_18_14 : Cond.code yX3_isError cX3_isError 1 (some .boolean) ∈ wsL_law := wl_18 _ (List.mem_of_getElem? (i := 14) rfl)
set_option maxRecDepth 20000 in
theorem wq_18_15 : Cond.methodLink RL 57 yX4_perform ∈ wsL_law := wl_18 _ (List.mem_of_getElem? (i := 15) rfl)
set_option maxRecDepth 20000 in
theorem wq_18_16 : Cond.instanceMethod yX4_perform ∈ wsL_law := wl_18 _ (List.mem_of_getElem? (i := 16) rfl)
set_option maxRecDepth 20000 in
theorem wq_18_17 : Cond.selects RX4 yX4_perform yX4_perform ∈ wsL_law := wl_18 _ (List.mem_of_getElem? (i := 17) rfl)
set_option maxRecDepth 20000 in
theorem wq_18_18 : Cond.code yX4_perform cX4_perform 2 (some .int) ∈ wsL_law := wl_18 _ (List.mem_of_getElem? (i := 18) rfl)
set_option maxRecDepth 20000 in
theorem wq_18_19 : Cond.fieldLink RX4 119 "CupFountainModel" "place" "I" ∈ wsL_law := wl_18 _ (List.mem_of_getElem? (i := 19) rfl)
set_option maxRecDepth 20000 in
theorem wq_18_20 : Cond.fieldLink RX4 148 "CupFountainModel" "error" "I" ∈ wsL_law := wl_18 _ (List.mem_of_getElem? (i := 20) rfl)
set_option maxRecDepth 20000 in
theorem wq_18_21 : Cond.fieldLink RX4 145 "CupFountainModel" "done" "I" ∈ wsL_law := wl_18 _ (List.mem_of_getElem? (i := 21) rfl)
set_option maxRecDepth 20000 in
theorem wq_18_22 : Cond.fieldLink RX4 162 "CupFountainModel" "stoppedBy" "I" ∈ wsL_law := wl_18 _ (List.mem_of_getElem? (i := 22) rfl)
set_option maxRecDepth 20000 in
theorem wq_18_23 : Cond.methodLink RX4 158 yX4_readText ∈ wsL_law := wl_18 _ (List.mem_of_getElem? (i := 23) rfl)
set_option maxRecDepth 20000 in
theorem wq_19_0 : Cond.instanceMethod yX4_readText ∈ wsL_law := wl_19 _ (List.mem_of_getElem? (i := 0) rfl)
set_option maxRecDepth 20000 in
theorem wq_19_1 : Cond.selects RX4 yX4_readText yX4_readText ∈ wsL_law := wl_19 _ (List.mem_of_getElem? (i := 1) rfl)
set_option maxRecDepth 20000 in
theorem wq_19_2 : Cond.code yX4_readText cX4_readText 4 (some .boolean) ∈ wsL_law := wl_19 _ (List.mem_of_getElem? (i := 2) rfl)
set_option maxRecDepth 20000 in
theorem wq_19_3 : Cond.methodLink RX4 151 yX4_readThing ∈ wsL_law := wl_19 _ (List.mem_of_getElem? (i := 3) rfl)
set_option maxRecDepth 20000 in
theorem wq_19_4 : Cond.instanceMethod yX4_readThing ∈ wsL_law := wl_19 _ (List.mem_of_getElem? (i := 4) rfl)
set_option maxRecDepth 20000 in
theorem wq_19_5 : Cond.selects RX4 yX4_readThing yX4_readThing ∈ wsL_law := wl_19 _ (List.mem_of_getElem? (i := 5) rfl)
set_option maxRecDepth 20000 in
theorem wq_19_6 : Cond.code yX4_readThing cX4_readThing 1 (some .boolean) ∈ wsL_law := wl_19 _ (List.mem_of_getElem? (i := 6) rfl)
set_option maxRecDepth 20000 in
theorem wq_19_7 : Cond.fieldLink RX4 132 "CupFountainModel" "letter" "I" ∈ wsL_law := wl_19 _ (List.mem_of_getElem? (i := 7) rfl)
set_option maxRecDepth 20000 in
theorem wq_19_8 : Cond.methodLink RX4 135 yX4_readCup ∈ wsL_law := wl_19 _ (List.mem_of_getElem? (i := 8) rfl)
set_option maxRecDepth 20000 in
theorem wq_19_9 : Cond.instanceMethod yX4_readCup ∈ wsL_law := wl_19 _ (List.mem_of_getElem? (i := 9) rfl)
set_option maxRecDepth 20000 in
theorem wq_19_10 : Cond.selects RX4 yX4_readCup yX4_readCup ∈ wsL_law := wl_19 _ (List.mem_of_getElem? (i := 10) rfl)
set_option maxRecDepth 20000 in
theorem wq_19_11 : Cond.code yX4_readCup cX4_readCup 2 (some .boolean) ∈ wsL_law := wl_19 _ (List.mem_of_getElem? (i := 11) rfl)
set_option maxRecDepth 20000 in
theorem wq_19_12 : Cond.fieldLink RX4 126 "CupFountainModel" "itsCup" "I" ∈ wsL_law := wl_19 _ (List.mem_of_getElem? (i := 12) rfl)
set_option maxRecDepth 20000 in
theorem wq_19_13 : Cond.methodLink RX4 122 yX4_isNext ∈ wsL_law := wl_19 _ (List.mem_of_getElem? (i := 13) rfl)
set_option maxRecDepth 20000 in
theorem wq_19_14 : Cond.instanceMethod yX4_isNext ∈ wsL_law := wl_19 _ (List.mem_of_getElem? (i := 14) rfl)
set_option maxRecDepth 20000 in
theorem wq_19_15 : Cond.selects RX4 yX4_isNext yX4_isNext ∈ wsL_law := wl_19 _ (List.mem_of_getElem? (i := 15) rfl)
set_option maxRecDepth 20000 in
theorem wq_19_16 : Cond.code yX4_isNext cX4_isNext 3 (some .boolean) ∈ wsL_law := wl_19 _ (List.mem_of_getElem? (i := 16) rfl)
set_option maxRecDepth 20000 in
theorem wq_19_17 : Cond.methodLink RX4 139 yX4_takes ∈ wsL_law := wl_19 _ (List.mem_of_getElem? (i := 17) rfl)
set_option maxRecDepth 20000 in
theorem wq_19_18 : Cond.instanceMethod yX4_takes ∈ wsL_law := wl_19 _ (List.mem_of_getElem? (i := 18) rfl)
set_option maxRecDepth 20000 in
theorem wq_19_19 : Cond.selects RX4 yX4_takes yX4_takes ∈ wsL_law := wl_19 _ (List.mem_of_getElem? (i := 19) rfl)
set_option maxRecDepth 20000 in
theorem wq_19_20 : Cond.code yX4_takes cX4_takes 3 (some .boolean) ∈ wsL_law := wl_19 _ (List.mem_of_getElem? (i := 20) rfl)
set_option maxRecDepth 20000 in
theorem wq_19_21 : Cond.methodLink RX4 142 yX4_readNumber ∈ wsL_law := wl_19 _ (List.mem_of_getElem? (i := 21) rfl)
set_option maxRecDepth 20000 in
theorem wq_19_22 : Cond.instanceMethod yX4_readNumber ∈ wsL_law := wl_19 _ (List.mem_of_getElem? (i := 22) rfl)
set_option maxRecDepth 20000 in
theorem wq_19_23 : Cond.selects RX4 yX4_readNumber yX4_readNumber ∈ wsL_law := wl_19 _ (List.mem_of_getElem? (i := 23) rfl)
set_option maxRecDepth 20000 in
theorem wq_20_0 : Cond.code yX4_readNumber cX4_readNumber 3 (some .boolean) ∈ wsL_law := wl_20 _ (List.mem_of_getElem? (i := 0) rfl)
set_option maxRecDepth 20000 in
theorem wq_20_1 : Cond.fieldLink RX4 129 "CupFountainModel" "number" "I" ∈ wsL_law := wl_20 _ (List.mem_of_getElem? (i := 1) rfl)
set_option maxRecDepth 20000 in
theorem wq_20_2 : Cond.methodLink RX4 154 yX4_does ∈ wsL_law := wl_20 _ (List.mem_of_getElem? (i := 2) rfl)
set_option maxRecDepth 20000 in
theorem wq_20_3 : Cond.instanceMethod yX4_does ∈ wsL_law := wl_20 _ (List.mem_of_getElem? (i := 3) rfl)
set_option maxRecDepth 20000 in
theorem wq_20_4 : Cond.selects RX4 yX4_does yX4_does ∈ wsL_law := wl_20 _ (List.mem_of_getElem? (i := 4) rfl)
set_option maxRecDepth 20000 in
theorem wq_20_5 : Cond.code yX4_does cX4_does 1 (some .int) ∈ wsL_law := wl_20 _ (List.mem_of_getElem? (i := 5) rfl)
set_option maxRecDepth 20000 in
theorem wq_20_6 : Cond.methodLink RL 58 yX3_stopped ∈ wsL_law := wl_20 _ (List.mem_of_getElem? (i := 6) rfl)
set_option maxRecDepth 20000 in
theorem wq_20_7 : Cond.instanceMethod yX3_stopped ∈ wsL_law := wl_20 _ (List.mem_of_getElem? (i := 7) rfl)
set_option maxRecDepth 20000 in
theorem wq_20_8 : Cond.selects RX3 yX3_stopped yX3_stopped ∈ wsL_law := wl_20 _ (List.mem_of_getElem? (i := 8) rfl)
set_option maxRecDepth 20000 in
theorem wq_20_9 : Cond.code yX3_stopped cX3_stopped 2 (some .int) ∈ wsL_law := wl_20 _ (List.mem_of_getElem? (i := 9) rfl)
set_option maxRecDepth 20000 in
theorem wq_20_10 : Cond.methodLink RX3 103 yX3_isWithin ∈ wsL_law := wl_20 _ (List.mem_of_getElem? (i := 10) rfl)
set_option maxRecDepth 20000 in
theorem wq_20_11 : Cond.methodLink RL 61 yX4_stopped ∈ wsL_law := wl_20 _ (List.mem_of_getElem? (i := 11) rfl)
set_option maxRecDepth 20000 in
theorem wq_20_12 : Cond.instanceMethod yX4_stopped ∈ wsL_law := wl_20 _ (List.mem_of_getElem? (i := 12) rfl)
set_option maxRecDepth 20000 in
theorem wq_20_13 : Cond.selects RX4 yX4_stopped yX4_stopped ∈ wsL_law := wl_20 _ (List.mem_of_getElem? (i := 13) rfl)
set_option maxRecDepth 20000 in
theorem wq_20_14 : Cond.code yX4_stopped cX4_stopped 2 (some .int) ∈ wsL_law := wl_20 _ (List.mem_of_getElem? (i := 14) rfl)
set_option maxRecDepth 20000 in
theorem wq_20_15 : Cond.methodLink RL 62 yX3_undo ∈ wsL_law := wl_20 _ (List.mem_of_getElem? (i := 15) rfl)
set_option maxRecDepth 20000 in
theorem wq_20_16 : Cond.instanceMethod yX3_undo ∈ wsL_law := wl_20 _ (List.mem_of_getElem? (i := 16) rfl)
set_option maxRecDepth 20000 in
theorem wq_20_17 : Cond.selects RX3 yX3_undo yX3_undo ∈ wsL_law := wl_20 _ (List.mem_of_getElem? (i := 17) rfl)
set_option maxRecDepth 20000 in
theorem wq_20_18 : Cond.code yX3_undo cX3_undo 1 (some .int) ∈ wsL_law := wl_20 _ (List.mem_of_getElem? (i := 18) rfl)
set_option maxRecDepth 20000 in
theorem wq_20_19 : Cond.methodLink RL 65 yX4_undo ∈ wsL_law := wl_20 _ (List.mem_of_getElem? (i := 19) rfl)
set_option maxRecDepth 20000 in
theorem wq_20_20 : Cond.instanceMethod yX4_undo ∈ wsL_law := wl_20 _ (List.mem_of_getElem? (i := 20) rfl)
set_option maxRecDepth 20000 in
theorem wq_20_21 : Cond.selects RX4 yX4_undo yX4_undo ∈ wsL_law := wl_20 _ (List.mem_of_getElem? (i := 21) rfl)
set_option maxRecDepth 20000 in
theorem wq_20_22 : Cond.code yX4_undo cX4_undo 1 (some .int) ∈ wsL_law := wl_20 _ (List.mem_of_getElem? (i := 22) rfl)
set_option maxRecDepth 20000 in
theorem wq_20_23 : Cond.methodLink RL 66 yX3_keep ∈ wsL_law := wl_20 _ (List.mem_of_getElem? (i := 23) rfl)
set_option maxRecDepth 20000 in
theorem wq_21_0 : Cond.instanceMethod yX3_keep ∈ wsL_law := wl_21 _ (List.mem_of_getElem? (i := 0) rfl)
set_option maxRecDepth 20000 in
theorem wq_21_1 : Cond.selects RX3 yX3_keep yX3_keep ∈ wsL_law := wl_21 _ (List.mem_of_getElem? (i := 1) rfl)
set_option maxRecDepth 20000 in
theorem wq_21_2 : Cond.code yX3_keep cX3_keep 1 (some .int) ∈ wsL_law := wl_21 _ (List.mem_of_getElem? (i := 2) rfl)
set_option maxRecDepth 20000 in
theorem wq_21_3 : Cond.fieldLink RX3 107 "CupFountain$State" "tick" "I" ∈ wsL_law := wl_21 _ (List.mem_of_getElem? (i := 3) rfl)
set_option maxRecDepth 20000 in
theorem wq_21_4 : Cond.methodLink RL 69 yX4_keep ∈ wsL_law := wl_21 _ (List.mem_of_getElem? (i := 4) rfl)
set_option maxRecDepth 20000 in
theorem wq_21_5 : Cond.instanceMethod yX4_keep ∈ wsL_law := wl_21 _ (List.mem_of_getElem? (i := 5) rfl)
set_option maxRecDepth 20000 in
theorem wq_21_6 : Cond.selects RX4 yX4_keep yX4_keep ∈ wsL_law := wl_21 _ (List.mem_of_getElem? (i := 6) rfl)
set_option maxRecDepth 20000 in
theorem wq_21_7 : Cond.code yX4_keep cX4_keep 1 (some .int) ∈ wsL_law := wl_21 _ (List.mem_of_getElem? (i := 7) rfl)
set_option maxRecDepth 20000 in
theorem wq_21_8 : Cond.fieldLink RX4 165 "CupFountainModel" "isTaken" "Z" ∈ wsL_law := wl_21 _ (List.mem_of_getElem? (i := 8) rfl)
set_option maxRecDepth 20000 in
theorem wq_21_9 : Cond.methodLink RL 70 yX3_restore ∈ wsL_law := wl_21 _ (List.mem_of_getElem? (i := 9) rfl)
set_option maxRecDepth 20000 in
theorem wq_21_10 : Cond.instanceMethod yX3_restore ∈ wsL_law := wl_21 _ (List.mem_of_getElem? (i := 10) rfl)
set_option maxRecDepth 20000 in
theorem wq_21_11 : Cond.selects RX3 yX3_restore yX3_restore ∈ wsL_law := wl_21 _ (List.mem_of_getElem? (i := 11) rfl)
set_option maxRecDepth 20000 in
theorem wq_21_12 : Cond.code yX3_restore cX3_restore 1 (some .int) ∈ wsL_law := wl_21 _ (List.mem_of_getElem? (i := 12) rfl)
set_option maxRecDepth 20000 in
theorem wq_21_13 : Cond.methodLink RL 73 yX4_restore ∈ wsL_law := wl_21 _ (List.mem_of_getElem? (i := 13) rfl)
set_option maxRecDepth 20000 in
theorem wq_21_14 : Cond.instanceMethod yX4_restore ∈ wsL_law := wl_21 _ (List.mem_of_getElem? (i := 14) rfl)
set_option maxRecDepth 20000 in
theorem wq_21_15 : Cond.selects RX4 yX4_restore yX4_restore ∈ wsL_law := wl_21 _ (List.mem_of_getElem? (i := 15) rfl)
set_option maxRecDepth 20000 in
theorem wq_21_16 : Cond.code yX4_restore cX4_restore 1 (some .int) ∈ wsL_law := wl_21 _ (List.mem_of_getElem? (i := 16) rfl)
set_option maxRecDepth 20000 in
theorem wq_21_17 : Cond.methodLink RL 74 yX3_cup ∈ wsL_law := wl_21 _ (List.mem_of_getElem? (i := 17) rfl)
set_option maxRecDepth 20000 in
theorem wq_21_18 : Cond.instanceMethod yX3_cup ∈ wsL_law := wl_21 _ (List.mem_of_getElem? (i := 18) rfl)
set_option maxRecDepth 20000 in
theorem wq_21_19 : Cond.selects RX3 yX3_cup yX3_cup ∈ wsL_law := wl_21 _ (List.mem_of_getElem? (i := 19) rfl)
set_option maxRecDepth 20000 in
theorem wq_21_20 : Cond.code yX3_cup cX3_cup 4 (some .int) ∈ wsL_law := wl_21 _ (List.mem_of_getElem? (i := 20) rfl)
set_option maxRecDepth 20000 in
theorem wq_21_21 : Cond.methodLink RX3 110 yX2_find ∈ wsL_law := wl_21 _ (List.mem_of_getElem? (i := 21) rfl)
set_option maxRecDepth 20000 in
theorem wq_21_22 : Cond.methodLink RX3 114 yX0_tell ∈ wsL_law := wl_21 _ (List.mem_of_getElem? (i := 22) rfl)
set_option maxRecDepth 20000 in
theorem wq_21_23 : Cond.methodLink RL 77 yX4_cup ∈ wsL_law := wl_21 _ (List.mem_of_getElem? (i := 23) rfl)
set_option maxRecDepth 20000 in
theorem wq_22_0 : Cond.instanceMethod yX4_cup ∈ wsL_law := wl_22 _ (List.mem_of_getElem? (i := 0) rfl)
set_option maxRecDepth 20000 in
theorem wq_22_1 : Cond.selects RX4 yX4_cup yX4_cup ∈ wsL_law := wl_22 _ (List.mem_of_getElem? (i := 1) rfl)
set_option maxRecDepth 20000 in
theorem wq_22_2 : Cond.code yX4_cup cX4_cup 3 (some .int) ∈ wsL_law := wl_22 _ (List.mem_of_getElem? (i := 2) rfl)
set_option maxRecDepth 20000 in
theorem wq_22_3 : Cond.methodLink RL 78 yX3_reason ∈ wsL_law := wl_22 _ (List.mem_of_getElem? (i := 3) rfl)
set_option maxRecDepth 20000 in
theorem wq_22_4 : Cond.instanceMethod yX3_reason ∈ wsL_law := wl_22 _ (List.mem_of_getElem? (i := 4) rfl)
set_option maxRecDepth 20000 in
theorem wq_22_5 : Cond.selects RX3 yX3_reason yX3_reason ∈ wsL_law := wl_22 _ (List.mem_of_getElem? (i := 5) rfl)
set_option maxRecDepth 20000 in
theorem wq_22_6 : Cond.code yX3_reason cX3_reason 4 (some .int) ∈ wsL_law := wl_22 _ (List.mem_of_getElem? (i := 6) rfl)
set_option maxRecDepth 20000 in
theorem wq_22_7 : Cond.fieldLink RX3 122 "CupFountain$Cup" "tips" "I" ∈ wsL_law := wl_22 _ (List.mem_of_getElem? (i := 7) rfl)
set_option maxRecDepth 20000 in
theorem wq_22_8 : Cond.fieldLink RX3 125 "CupFountain$Cup" "guarded" "Z" ∈ wsL_law := wl_22 _ (List.mem_of_getElem? (i := 8) rfl)
set_option maxRecDepth 20000 in
theorem wq_22_9 : Cond.fieldLink RX3 128 "CupFountain$Cup" "hour" "I" ∈ wsL_law := wl_22 _ (List.mem_of_getElem? (i := 9) rfl)
set_option maxRecDepth 20000 in
theorem wq_22_10 : Cond.fieldLink RX3 134 "CupFountain$Cup" "open" "Z" ∈ wsL_law := wl_22 _ (List.mem_of_getElem? (i := 10) rfl)
set_option maxRecDepth 20000 in
theorem wq_22_11 : Cond.methodLink RX3 119 yX2_tickOnce ∈ wsL_law := wl_22 _ (List.mem_of_getElem? (i := 11) rfl)
set_option maxRecDepth 20000 in
theorem wq_22_12 : Cond.methodLink RX3 131 yX2_hourOf ∈ wsL_law := wl_22 _ (List.mem_of_getElem? (i := 12) rfl)
set_option maxRecDepth 20000 in
theorem wq_22_13 : Cond.methodLink RL 81 yX4_reason ∈ wsL_law := wl_22 _ (List.mem_of_getElem? (i := 13) rfl)
set_option maxRecDepth 20000 in
theorem wq_22_14 : Cond.instanceMethod yX4_reason ∈ wsL_law := wl_22 _ (List.mem_of_getElem? (i := 14) rfl)
set_option maxRecDepth 20000 in
theorem wq_22_15 : Cond.selects RX4 yX4_reason yX4_reason ∈ wsL_law := wl_22 _ (List.mem_of_getElem? (i := 15) rfl)
set_option maxRecDepth 20000 in
theorem wq_22_16 : Cond.code yX4_reason cX4_reason 2 (some .int) ∈ wsL_law := wl_22 _ (List.mem_of_getElem? (i := 16) rfl)
set_option maxRecDepth 20000 in
theorem wq_22_17 : Cond.methodLink RX4 169 yX4_untilTip ∈ wsL_law := wl_22 _ (List.mem_of_getElem? (i := 17) rfl)
set_option maxRecDepth 20000 in
theorem wq_22_18 : Cond.instanceMethod yX4_untilTip ∈ wsL_law := wl_22 _ (List.mem_of_getElem? (i := 18) rfl)
set_option maxRecDepth 20000 in
theorem wq_22_19 : Cond.selects RX4 yX4_untilTip yX4_untilTip ∈ wsL_law := wl_22 _ (List.mem_of_getElem? (i := 19) rfl)
set_option maxRecDepth 20000 in
theorem wq_22_20 : Cond.code yX4_untilTip cX4_untilTip 5 (some .int) ∈ wsL_law := wl_22 _ (List.mem_of_getElem? (i := 20) rfl)
set_option maxRecDepth 20000 in
theorem wq_22_21 : Cond.methodLink RL 82 yX3_tipsIn ∈ wsL_law := wl_22 _ (List.mem_of_getElem? (i := 21) rfl)
set_option maxRecDepth 20000 in
theorem wq_22_22 : Cond.instanceMethod yX3_tipsIn ∈ wsL_law := wl_22 _ (List.mem_of_getElem? (i := 22) rfl)
set_option maxRecDepth 20000 in
theorem wq_22_23 : Cond.selects RX3 yX3_tipsIn yX3_tipsIn ∈ wsL_law := wl_22 _ (List.mem_of_getElem? (i := 23) rfl)
set_option maxRecDepth 20000 in
theorem wq_23_0 : Cond.code yX3_tipsIn cX3_tipsIn 2 (some .int) ∈ wsL_law := wl_23 _ (List.mem_of_getElem? (i := 0) rfl)
set_option maxRecDepth 20000 in
theorem wq_23_1 : Cond.methodLink RX3 137 yX3_ticksTillTip ∈ wsL_law := wl_23 _ (List.mem_of_getElem? (i := 1) rfl)
set_option maxRecDepth 20000 in
theorem wq_23_2 : Cond.instanceMethod yX3_ticksTillTip ∈ wsL_law := wl_23 _ (List.mem_of_getElem? (i := 2) rfl)
set_option maxRecDepth 20000 in
theorem wq_23_3 : Cond.selects RX3 yX3_ticksTillTip yX3_ticksTillTip ∈ wsL_law := wl_23 _ (List.mem_of_getElem? (i := 3) rfl)
set_option maxRecDepth 20000 in
theorem wq_23_4 : Cond.code yX3_ticksTillTip cX3_ticksTillTip 5 (some .int) ∈ wsL_law := wl_23 _ (List.mem_of_getElem? (i := 4) rfl)
set_option maxRecDepth 20000 in
theorem wq_23_5 : Cond.methodLink RL 85 yX4_tipsIn ∈ wsL_law := wl_23 _ (List.mem_of_getElem? (i := 5) rfl)
set_option maxRecDepth 20000 in
theorem wq_23_6 : Cond.instanceMethod yX4_tipsIn ∈ wsL_law := wl_23 _ (List.mem_of_getElem? (i := 6) rfl)
set_option maxRecDepth 20000 in
theorem wq_23_7 : Cond.selects RX4 yX4_tipsIn yX4_tipsIn ∈ wsL_law := wl_23 _ (List.mem_of_getElem? (i := 7) rfl)
set_option maxRecDepth 20000 in
theorem wq_23_8 : Cond.code yX4_tipsIn cX4_tipsIn 2 (some .int) ∈ wsL_law := wl_23 _ (List.mem_of_getElem? (i := 8) rfl)
set_option maxRecDepth 20000 in
theorem wq_23_9 : Cond.methodLink RL 86 yX3_tipsAt ∈ wsL_law := wl_23 _ (List.mem_of_getElem? (i := 9) rfl)
set_option maxRecDepth 20000 in
theorem wq_23_10 : Cond.instanceMethod yX3_tipsAt ∈ wsL_law := wl_23 _ (List.mem_of_getElem? (i := 10) rfl)
set_option maxRecDepth 20000 in
theorem wq_23_11 : Cond.selects RX3 yX3_tipsAt yX3_tipsAt ∈ wsL_law := wl_23 _ (List.mem_of_getElem? (i := 11) rfl)
set_option maxRecDepth 20000 in
theorem wq_23_12 : Cond.code yX3_tipsAt cX3_tipsAt 2 (some .int) ∈ wsL_law := wl_23 _ (List.mem_of_getElem? (i := 12) rfl)
set_option maxRecDepth 20000 in
theorem wq_23_13 : Cond.methodLink RX3 140 yX3_hourOfTip ∈ wsL_law := wl_23 _ (List.mem_of_getElem? (i := 13) rfl)
set_option maxRecDepth 20000 in
theorem wq_23_14 : Cond.instanceMethod yX3_hourOfTip ∈ wsL_law := wl_23 _ (List.mem_of_getElem? (i := 14) rfl)
set_option maxRecDepth 20000 in
theorem wq_23_15 : Cond.selects RX3 yX3_hourOfTip yX3_hourOfTip ∈ wsL_law := wl_23 _ (List.mem_of_getElem? (i := 15) rfl)
set_option maxRecDepth 20000 in
theorem wq_23_16 : Cond.code yX3_hourOfTip cX3_hourOfTip 3 (some .int) ∈ wsL_law := wl_23 _ (List.mem_of_getElem? (i := 16) rfl)
set_option maxRecDepth 20000 in
theorem wq_23_17 : Cond.methodLink RL 89 yX4_tipsAt ∈ wsL_law := wl_23 _ (List.mem_of_getElem? (i := 17) rfl)
set_option maxRecDepth 20000 in
theorem wq_23_18 : Cond.instanceMethod yX4_tipsAt ∈ wsL_law := wl_23 _ (List.mem_of_getElem? (i := 18) rfl)
set_option maxRecDepth 20000 in
theorem wq_23_19 : Cond.selects RX4 yX4_tipsAt yX4_tipsAt ∈ wsL_law := wl_23 _ (List.mem_of_getElem? (i := 19) rfl)
set_option maxRecDepth 20000 in
theorem wq_23_20 : Cond.code yX4_tipsAt cX4_tipsAt 2 (some .int) ∈ wsL_law := wl_23 _ (List.mem_of_getElem? (i := 20) rfl)
set_option maxRecDepth 20000 in
theorem wq_23_21 : Cond.methodLink RX4 172 yX4_hourOfTip ∈ wsL_law := wl_23 _ (List.mem_of_getElem? (i := 21) rfl)
set_option maxRecDepth 20000 in
theorem wq_23_22 : Cond.instanceMethod yX4_hourOfTip ∈ wsL_law := wl_23 _ (List.mem_of_getElem? (i := 22) rfl)
set_option maxRecDepth 20000 in
theorem wq_23_23 : Cond.selects RX4 yX4_hourOfTip yX4_hourOfTip ∈ wsL_law := wl_23 _ (List.mem_of_getElem? (i := 23) rfl)
set_option maxRecDepth 20000 in
theorem wq_24_0 : Cond.code yX4_hourOfTip cX4_hourOfTip 3 (some .int) ∈ wsL_law := wl_24 _ (List.mem_of_getElem? (i := 0) rfl)
set_option maxRecDepth 20000 in
theorem wq_24_1 : Cond.methodLink RL 90 yX3_starving ∈ wsL_law := wl_24 _ (List.mem_of_getElem? (i := 1) rfl)
set_option maxRecDepth 20000 in
theorem wq_24_2 : Cond.instanceMethod yX3_starving ∈ wsL_law := wl_24 _ (List.mem_of_getElem? (i := 2) rfl)
set_option maxRecDepth 20000 in
theorem wq_24_3 : Cond.selects RX3 yX3_starving yX3_starving ∈ wsL_law := wl_24 _ (List.mem_of_getElem? (i := 3) rfl)
set_option maxRecDepth 20000 in
theorem wq_24_4 : Cond.code yX3_starving cX3_starving 2 (some .int) ∈ wsL_law := wl_24 _ (List.mem_of_getElem? (i := 4) rfl)
set_option maxRecDepth 20000 in
theorem wq_24_5 : Cond.fieldLink RX3 146 "CupFountain$State" "cups" "[LCupFountain$Cup;" ∈ wsL_law := wl_24 _ (List.mem_of_getElem? (i := 5) rfl)
set_option maxRecDepth 20000 in
theorem wq_24_6 : Cond.methodLink RX3 143 yX2_tickOn ∈ wsL_law := wl_24 _ (List.mem_of_getElem? (i := 6) rfl)
set_option maxRecDepth 20000 in
theorem wq_24_7 : Cond.methodLink RL 93 yX4_starving ∈ wsL_law := wl_24 _ (List.mem_of_getElem? (i := 7) rfl)
set_option maxRecDepth 20000 in
theorem wq_24_8 : Cond.instanceMethod yX4_starving ∈ wsL_law := wl_24 _ (List.mem_of_getElem? (i := 8) rfl)
set_option maxRecDepth 20000 in
theorem wq_24_9 : Cond.selects RX4 yX4_starving yX4_starving ∈ wsL_law := wl_24 _ (List.mem_of_getElem? (i := 9) rfl)
set_option maxRecDepth 20000 in
theorem wq_24_10 : Cond.code yX4_starving cX4_starving 3 (some .int) ∈ wsL_law := wl_24 _ (List.mem_of_getElem? (i := 10) rfl)
set_option maxRecDepth 20000 in
theorem wq_24_11 : Cond.methodLink RL 94 yX3_bestSize ∈ wsL_law := wl_24 _ (List.mem_of_getElem? (i := 11) rfl)
set_option maxRecDepth 20000 in
theorem wq_24_12 : Cond.instanceMethod yX3_bestSize ∈ wsL_law := wl_24 _ (List.mem_of_getElem? (i := 12) rfl)
set_option maxRecDepth 20000 in
theorem wq_24_13 : Cond.selects RX3 yX3_bestSize yX3_bestSize ∈ wsL_law := wl_24 _ (List.mem_of_getElem? (i := 13) rfl)
set_option maxRecDepth 20000 in
theorem wq_24_14 : Cond.code yX3_bestSize cX3_bestSize 6 (some .int) ∈ wsL_law := wl_24 _ (List.mem_of_getElem? (i := 14) rfl)
set_option maxRecDepth 20000 in
theorem wq_24_15 : Cond.fieldLink RX3 150 "CupFountain$Cup" "size" "I" ∈ wsL_law := wl_24 _ (List.mem_of_getElem? (i := 15) rfl)
set_option maxRecDepth 20000 in
theorem wq_24_16 : Cond.fieldLink RX3 153 "CupFountain$Cup" "ready" "I" ∈ wsL_law := wl_24 _ (List.mem_of_getElem? (i := 16) rfl)
set_option maxRecDepth 20000 in
theorem wq_24_17 : Cond.methodLink RX3 156 Lib.Math.max.name ∈ wsL_law := wl_24 _ (List.mem_of_getElem? (i := 17) rfl)
set_option maxRecDepth 20000 in
theorem wq_24_18 : Cond.static Lib.Math.max.name ∈ wsL_law := wl_24 _ (List.mem_of_getElem? (i := 18) rfl)
set_option maxRecDepth 20000 in
theorem wq_24_19 : Cond.code Lib.Math.max.name Lib.Math.max.code 2 (some .int) ∈ wsL_law := wl_24 _ (List.mem_of_getElem? (i := 19) rfl)
set_option maxRecDepth 20000 in
theorem wq_24_20 : Cond.methodLink RL 97 yX4_bestSize ∈ wsL_law := wl_24 _ (List.mem_of_getElem? (i := 20) rfl)
set_option maxRecDepth 20000 in
theorem wq_24_21 : Cond.instanceMethod yX4_bestSize ∈ wsL_law := wl_24 _ (List.mem_of_getElem? (i := 21) rfl)
set_option maxRecDepth 20000 in
theorem wq_24_22 : Cond.selects RX4 yX4_bestSize yX4_bestSize ∈ wsL_law := wl_24 _ (List.mem_of_getElem? (i := 22) rfl)
set_option maxRecDepth 20000 in
theorem wq_24_23 : Cond.code yX4_bestSize cX4_bestSize 5 (some .int) ∈ wsL_law := wl_24 _ (List.mem_of_getElem? (i := 23) rfl)
set_option maxRecDepth 20000 in
theorem wq_25_0 : Cond.methodLink RL 98 yX3_ifTicks ∈ wsL_law := wl_25 _ (List.mem_of_getElem? (i := 0) rfl)
set_option maxRecDepth 20000 in
theorem wq_25_1 : Cond.instanceMethod yX3_ifTicks ∈ wsL_law := wl_25 _ (List.mem_of_getElem? (i := 1) rfl)
set_option maxRecDepth 20000 in
theorem wq_25_2 : Cond.selects RX3 yX3_ifTicks yX3_ifTicks ∈ wsL_law := wl_25 _ (List.mem_of_getElem? (i := 2) rfl)
set_option maxRecDepth 20000 in
theorem wq_25_3 : Cond.code yX3_ifTicks cX3_ifTicks 4 (some .int) ∈ wsL_law := wl_25 _ (List.mem_of_getElem? (i := 3) rfl)
set_option maxRecDepth 20000 in
theorem wq_25_4 : Cond.methodLink RX3 161 yX2_sumOf ∈ wsL_law := wl_25 _ (List.mem_of_getElem? (i := 4) rfl)
set_option maxRecDepth 20000 in
theorem wq_25_5 : Cond.instanceMethod yX2_sumOf ∈ wsL_law := wl_25 _ (List.mem_of_getElem? (i := 5) rfl)
set_option maxRecDepth 20000 in
theorem wq_25_6 : Cond.selects RX2 yX2_sumOf yX2_sumOf ∈ wsL_law := wl_25 _ (List.mem_of_getElem? (i := 6) rfl)
set_option maxRecDepth 20000 in
theorem wq_25_7 : Cond.code yX2_sumOf cX2_sumOf 4 (some .int) ∈ wsL_law := wl_25 _ (List.mem_of_getElem? (i := 7) rfl)
set_option maxRecDepth 20000 in
theorem wq_25_8 : Cond.methodLink RL 101 yX4_ifTicks ∈ wsL_law := wl_25 _ (List.mem_of_getElem? (i := 8) rfl)
set_option maxRecDepth 20000 in
theorem wq_25_9 : Cond.instanceMethod yX4_ifTicks ∈ wsL_law := wl_25 _ (List.mem_of_getElem? (i := 9) rfl)
set_option maxRecDepth 20000 in
theorem wq_25_10 : Cond.selects RX4 yX4_ifTicks yX4_ifTicks ∈ wsL_law := wl_25 _ (List.mem_of_getElem? (i := 10) rfl)
set_option maxRecDepth 20000 in
theorem wq_25_11 : Cond.code yX4_ifTicks cX4_ifTicks 6 (some .int) ∈ wsL_law := wl_25 _ (List.mem_of_getElem? (i := 11) rfl)
set_option maxRecDepth 20000 in
theorem wq_25_12 : Cond.methodLink RL 102 yX3_highest ∈ wsL_law := wl_25 _ (List.mem_of_getElem? (i := 12) rfl)
set_option maxRecDepth 20000 in
theorem wq_25_13 : Cond.instanceMethod yX3_highest ∈ wsL_law := wl_25 _ (List.mem_of_getElem? (i := 13) rfl)
set_option maxRecDepth 20000 in
theorem wq_25_14 : Cond.selects RX3 yX3_highest yX3_highest ∈ wsL_law := wl_25 _ (List.mem_of_getElem? (i := 14) rfl)
set_option maxRecDepth 20000 in
theorem wq_25_15 : Cond.code yX3_highest cX3_highest 4 (some .int) ∈ wsL_law := wl_25 _ (List.mem_of_getElem? (i := 15) rfl)
set_option maxRecDepth 20000 in
theorem wq_25_16 : Cond.fieldLink RX3 164 "CupFountain$Cup" "jet" "I" ∈ wsL_law := wl_25 _ (List.mem_of_getElem? (i := 16) rfl)
set_option maxRecDepth 20000 in
theorem wq_25_17 : Cond.methodLink RL 105 yX4_highest ∈ wsL_law := wl_25 _ (List.mem_of_getElem? (i := 17) rfl)
set_option maxRecDepth 20000 in
theorem wq_25_18 : Cond.instanceMethod yX4_highest ∈ wsL_law := wl_25 _ (List.mem_of_getElem? (i := 18) rfl)
set_option maxRecDepth 20000 in
theorem wq_25_19 : Cond.selects RX4 yX4_highest yX4_highest ∈ wsL_law := wl_25 _ (List.mem_of_getElem? (i := 19) rfl)
set_option maxRecDepth 20000 in
theorem wq_25_20 : Cond.code yX4_highest cX4_highest 3 (some .int) ∈ wsL_law := wl_25 _ (List.mem_of_getElem? (i := 20) rfl)
set_option maxRecDepth 20000 in
theorem wq_25_21 : Cond.methodLink RL 106 yX3_count ∈ wsL_law := wl_25 _ (List.mem_of_getElem? (i := 21) rfl)
set_option maxRecDepth 20000 in
theorem wq_25_22 : Cond.instanceMethod yX3_count ∈ wsL_law := wl_25 _ (List.mem_of_getElem? (i := 22) rfl)
set_option maxRecDepth 20000 in
theorem wq_25_23 : Cond.selects RX3 yX3_count yX3_count ∈ wsL_law := wl_25 _ (List.mem_of_getElem? (i := 23) rfl)
set_option maxRecDepth 20000 in
theorem wq_26_0 : Cond.code yX3_count cX3_count 2 (some .int) ∈ wsL_law := wl_26 _ (List.mem_of_getElem? (i := 0) rfl)
set_option maxRecDepth 20000 in
theorem wq_26_1 : Cond.fieldLink RX3 167 "CupFountain$Plan" "length" "I" ∈ wsL_law := wl_26 _ (List.mem_of_getElem? (i := 1) rfl)
set_option maxRecDepth 20000 in
theorem wq_26_2 : Cond.methodLink RX3 170 yX2_tell ∈ wsL_law := wl_26 _ (List.mem_of_getElem? (i := 2) rfl)
set_option maxRecDepth 20000 in
theorem wq_26_3 : Cond.instanceMethod yX2_tell ∈ wsL_law := wl_26 _ (List.mem_of_getElem? (i := 3) rfl)
set_option maxRecDepth 20000 in
theorem wq_26_4 : Cond.selects RX2 yX2_tell yX2_tell ∈ wsL_law := wl_26 _ (List.mem_of_getElem? (i := 4) rfl)
set_option maxRecDepth 20000 in
theorem wq_26_5 : Cond.code yX2_tell cX2_tell 2 (some .int) ∈ wsL_law := wl_26 _ (List.mem_of_getElem? (i := 5) rfl)
set_option maxRecDepth 20000 in
theorem wq_26_6 : Cond.methodLink RX2 138 yX2_sumOf ∈ wsL_law := wl_26 _ (List.mem_of_getElem? (i := 6) rfl)
set_option maxRecDepth 20000 in
theorem wq_26_7 : Cond.methodLink RX2 141 yX2_sumFull ∈ wsL_law := wl_26 _ (List.mem_of_getElem? (i := 7) rfl)
set_option maxRecDepth 20000 in
theorem wq_26_8 : Cond.instanceMethod yX2_sumFull ∈ wsL_law := wl_26 _ (List.mem_of_getElem? (i := 8) rfl)
set_option maxRecDepth 20000 in
theorem wq_26_9 : Cond.selects RX2 yX2_sumFull yX2_sumFull ∈ wsL_law := wl_26 _ (List.mem_of_getElem? (i := 9) rfl)
set_option maxRecDepth 20000 in
theorem wq_26_10 : Cond.code yX2_sumFull cX2_sumFull 3 (some .int) ∈ wsL_law := wl_26 _ (List.mem_of_getElem? (i := 10) rfl)
set_option maxRecDepth 20000 in
theorem wq_26_11 : Cond.methodLink RX2 144 yX0_isFull ∈ wsL_law := wl_26 _ (List.mem_of_getElem? (i := 11) rfl)
set_option maxRecDepth 20000 in
theorem wq_26_12 : Cond.instanceMethod yX0_isFull ∈ wsL_law := wl_26 _ (List.mem_of_getElem? (i := 12) rfl)
set_option maxRecDepth 20000 in
theorem wq_26_13 : Cond.selects RX0 yX0_isFull yX0_isFull ∈ wsL_law := wl_26 _ (List.mem_of_getElem? (i := 13) rfl)
set_option maxRecDepth 20000 in
theorem wq_26_14 : Cond.code yX0_isFull cX0_isFull 1 (some .boolean) ∈ wsL_law := wl_26 _ (List.mem_of_getElem? (i := 14) rfl)
set_option maxRecDepth 20000 in
theorem wq_26_15 : Cond.methodLink RL 109 yX4_count ∈ wsL_law := wl_26 _ (List.mem_of_getElem? (i := 15) rfl)
set_option maxRecDepth 20000 in
theorem wq_26_16 : Cond.instanceMethod yX4_count ∈ wsL_law := wl_26 _ (List.mem_of_getElem? (i := 16) rfl)
set_option maxRecDepth 20000 in
theorem wq_26_17 : Cond.selects RX4 yX4_count yX4_count ∈ wsL_law := wl_26 _ (List.mem_of_getElem? (i := 17) rfl)
set_option maxRecDepth 20000 in
theorem wq_26_18 : Cond.code yX4_count cX4_count 2 (some .int) ∈ wsL_law := wl_26 _ (List.mem_of_getElem? (i := 18) rfl)
set_option maxRecDepth 20000 in
theorem wq_26_19 : Cond.methodLink RX4 175 yX4_full ∈ wsL_law := wl_26 _ (List.mem_of_getElem? (i := 19) rfl)
set_option maxRecDepth 20000 in
theorem wq_26_20 : Cond.instanceMethod yX4_full ∈ wsL_law := wl_26 _ (List.mem_of_getElem? (i := 20) rfl)
set_option maxRecDepth 20000 in
theorem wq_26_21 : Cond.selects RX4 yX4_full yX4_full ∈ wsL_law := wl_26 _ (List.mem_of_getElem? (i := 21) rfl)
set_option maxRecDepth 20000 in
theorem wq_26_22 : Cond.code yX4_full cX4_full 3 (some .int) ∈ wsL_law := wl_26 _ (List.mem_of_getElem? (i := 22) rfl)
/-- the words of a method: its code, and the one list -/
abbrev zws (y : MethodName) (c : ByteArray) (ml : Nat) (ret : Option FieldType) : List Cond := Cond.code y c ml ret :: wsL_law
theorem zgood {Ts : List Cond} (hsub : ∀ w ∈ wsL_law, w ∈ Ts) {hd : List Cond} (hh : ∀ w ∈ hd, w ∈ wsL_law) {y : MethodName} {c : ByteArray} {ml : Nat} {ret : Option FieldType} (hc : Cond.code y c ml ret ∈ wsL_law) : GoodIn Ts (hd ++ zws y c ml ret) := by
  intro w hw
  have hm : w ∈ wsL_law := by
    rcases List.mem_append.mp hw with h | h
    · exact hh w h
    · rcases List.mem_cons.mp h with h | h
      · rw [h]; exact hc
      · exact h
  exact ⟨hsub w hm, good_of_word (wsL_good w hm)⟩
theorem zgoodV {Ts : List Cond} (hsub : ∀ w ∈ wsL_law, w ∈ Ts) {own C : String} {idx : Nat} {y : MethodName} {c : ByteArray} {ml : Nat} {ret : Option FieldType} (h1 : Cond.methodLink own idx y ∈ wsL_law) (h2 : Cond.instanceMethod y ∈ wsL_law) (h3 : Cond.selects C y y ∈ wsL_law) (h4 : Cond.initialized C ∈ wsL_law) (hc : Cond.code y c ml ret ∈ wsL_law) : GoodIn Ts (wsV own idx C y (zws y c ml ret)) :=
  zgood hsub (fun w h => by
    rcases List.mem_cons.mp h with h | h
    · rw [h]; exact h1
    · rcases List.mem_cons.mp h with h | h
      · rw [h]; exact h2
      · rcases List.mem_cons.mp h with h | h
        · rw [h]; exact h3
        · rw [List.mem_singleton.mp h]; exact h4) hc
theorem zgoodS {Ts : List Cond} (hsub : ∀ w ∈ wsL_law, w ∈ Ts) {own : String} {idx : Nat} {y : MethodName} {c : ByteArray} {ml : Nat} {ret : Option FieldType} (h1 : Cond.methodLink own idx y ∈ wsL_law) (h2 : Cond.static y ∈ wsL_law) (h4 : Cond.initialized own ∈ wsL_law) (hc : Cond.code y c ml ret ∈ wsL_law) : GoodIn Ts (wsS own idx y (zws y c ml ret)) :=
  zgood hsub (fun w h => by
    rcases List.mem_cons.mp h with h | h
    · rw [h]; exact h1
    · rcases List.mem_cons.mp h with h | h
      · rw [h]; exact h2
      · rw [List.mem_singleton.mp h]; exact h4) hc
theorem zgood0 {Ts : List Cond} (hsub : ∀ w ∈ wsL_law, w ∈ Ts) {y : MethodName} {c : ByteArray} {ml : Nat} {ret : Option FieldType} (hc : Cond.code y c ml ret ∈ wsL_law) : GoodIn Ts (zws y c ml ret) :=
  zgood (hd := []) hsub (fun w h => absurd h List.not_mem_nil) hc
theorem zsub {y : MethodName} {c : ByteArray} {ml : Nat} {ret : Option FieldType} : ∀ w ∈ wsL_law, w ∈ zws y c ml ret := fun w h => List.mem_cons_of_mem _ h
