set_option maxRecDepth 20000 in
theorem wl_1 : ∀ w ∈ wsL_law_r1, w ∈ wsL_law := fun w h => List.mem_append_left _ (List.mem_append_left _ (List.mem_append_left _ (List.mem_append_left _ (List.mem_append_left _ (List.mem_append_left _ h)))))
set_option maxRecDepth 20000 in
theorem wl_2 : ∀ w ∈ wsL_law_r2, w ∈ wsL_law := fun w h => List.mem_append_left _ (List.mem_append_left _ (List.mem_append_left _ (List.mem_append_left _ (List.mem_append_left _ (List.mem_append_right _ (List.mem_append_left _ h))))))
set_option maxRecDepth 20000 in
theorem wl_3 : ∀ w ∈ wsL_law_r3, w ∈ wsL_law := fun w h => List.mem_append_left _ (List.mem_append_left _ (List.mem_append_left _ (List.mem_append_left _ (List.mem_append_left _ (List.mem_append_right _ (List.mem_append_right _ (List.mem_append_left _ h)))))))
set_option maxRecDepth 20000 in
theorem wl_4 : ∀ w ∈ wsL_law_r4, w ∈ wsL_law := fun w h => List.mem_append_left _ (List.mem_append_left _ (List.mem_append_left _ (List.mem_append_left _ (List.mem_append_left _ (List.mem_append_right _ (List.mem_append_right _ (List.mem_append_right _ (List.mem_append_left _ h))))))))
set_option maxRecDepth 20000 in
theorem wl_5 : ∀ w ∈ wsL_law_r5, w ∈ wsL_law := fun w h => List.mem_append_left _ (List.mem_append_left _ (List.mem_append_left _ (List.mem_append_left _ (List.mem_append_left _ (List.mem_append_right _ (List.mem_append_right _ (List.mem_append_right _ (List.mem_append_right _ (List.mem_append_left _ h)))))))))
set_option maxRecDepth 20000 in
theorem wl_6 : ∀ w ∈ wsL_law_r6, w ∈ wsL_law := fun w h => List.mem_append_left _ (List.mem_append_left _ (List.mem_append_left _ (List.mem_append_left _ (List.mem_append_left _ (List.mem_append_right _ (List.mem_append_right _ (List.mem_append_right _ (List.mem_append_right _ (List.mem_append_right _ (List.mem_append_left _ h))))))))))
set_option maxRecDepth 20000 in
theorem wl_7 : ∀ w ∈ wsL_law_r7, w ∈ wsL_law := fun w h => List.mem_append_left _ (List.mem_append_left _ (List.mem_append_left _ (List.mem_append_left _ (List.mem_append_left _ (List.mem_append_right _ (List.mem_append_right _ (List.mem_append_right _ (List.mem_append_right _ (List.mem_append_right _ (List.mem_append_right _ (List.mem_append_left _ h)))))))))))
set_option maxRecDepth 20000 in
theorem wl_8 : ∀ w ∈ wsL_law_r8, w ∈ wsL_law := fun w h => List.mem_append_left _ (List.mem_append_left _ (List.mem_append_left _ (List.mem_append_left _ (List.mem_append_left _ (List.mem_append_right _ (List.mem_append_right _ (List.mem_append_right _ (List.mem_append_right _ (List.mem_append_right _ (List.mem_append_right _ (List.mem_append_right _ (List.mem_append_left _ h))))))))))))
set_option maxRecDepth 20000 in
theorem wl_9 : ∀ w ∈ wsL_law_r9, w ∈ wsL_law := fun w h => List.mem_append_left _ (List.mem_append_left _ (List.mem_append_left _ (List.mem_append_left _ (List.mem_append_left _ (List.mem_append_right _ (List.mem_append_right _ (List.mem_append_right _ (List.mem_append_right _ (List.mem_append_right _ (List.mem_append_right _ (List.mem_append_right _ (List.mem_append_right _ (List.mem_append_left _ h)))))))))))))
set_option maxRecDepth 20000 in
theorem wl_10 : ∀ w ∈ wsL_law_r10, w ∈ wsL_law := fun w h => List.mem_append_left _ (List.mem_append_left _ (List.mem_append_left _ (List.mem_append_left _ (List.mem_append_left _ (List.mem_append_right _ (List.mem_append_right _ (List.mem_append_right _ (List.mem_append_right _ (List.mem_append_right _ (List.mem_append_right _ (List.mem_append_right _ (List.mem_append_right _ (List.mem_append_right _ (List.mem_append_left _ h))))))))))))))
set_option maxRecDepth 20000 in
theorem wl_11 : ∀ w ∈ wsL_law_r11, w ∈ wsL_law := fun w h => List.mem_append_left _ (List.mem_append_left _ (List.mem_append_left _ (List.mem_append_left _ (List.mem_append_left _ (List.mem_append_right _ (List.mem_append_right _ (List.mem_append_right _ (List.mem_append_right _ (List.mem_append_right _ (List.mem_append_right _ (List.mem_append_right _ (List.mem_append_right _ (List.mem_append_right _ (List.mem_append_right _ (List.mem_append_left _ h)))))))))))))))
set_option maxRecDepth 20000 in
theorem wl_12 : ∀ w ∈ wsL_law_r12, w ∈ wsL_law := fun w h => List.mem_append_left _ (List.mem_append_left _ (List.mem_append_left _ (List.mem_append_left _ (List.mem_append_left _ (List.mem_append_right _ (List.mem_append_right _ (List.mem_append_right _ (List.mem_append_right _ (List.mem_append_right _ (List.mem_append_right _ (List.mem_append_right _ (List.mem_append_right _ (List.mem_append_right _ (List.mem_append_right _ (List.mem_append_right _ (List.mem_append_left _ h))))))))))))))))
set_option maxRecDepth 20000 in
theorem wl_13 : ∀ w ∈ wsL_law_r13, w ∈ wsL_law := fun w h => List.mem_append_left _ (List.mem_append_left _ (List.mem_append_left _ (List.mem_append_left _ (List.mem_append_left _ (List.mem_append_right _ (List.mem_append_right _ (List.mem_append_right _ (List.mem_append_right _ (List.mem_append_right _ (List.mem_append_right _ (List.mem_append_right _ (List.mem_append_right _ (List.mem_append_right _ (List.mem_append_right _ (List.mem_append_right _ (List.mem_append_right _ (List.mem_append_left _ h)))))))))))))))))
set_option maxRecDepth 20000 in
theorem wl_14 : ∀ w ∈ wsL_law_r14, w ∈ wsL_law := fun w h => List.mem_append_left _ (List.mem_append_left _ (List.mem_append_left _ (List.mem_append_left _ (List.mem_append_left _ (List.mem_append_right _ (List.mem_append_right _ (List.mem_append_right _ (List.mem_append_right _ (List.mem_append_right _ (List.mem_append_right _ (List.mem_append_right _ (List.mem_append_right _ (List.mem_append_right _ (List.mem_append_right _ (List.mem_append_right _ (List.mem_append_right _ (List.mem_append_right _ (List.mem_append_left _ h))))))))))))))))))
set_option maxRecDepth 20000 in
theorem wl_15 : ∀ w ∈ wsL_law_r15, w ∈ wsL_law := fun w h => List.mem_append_left _ (List.mem_append_left _ (List.mem_append_left _ (List.mem_append_left _ (List.mem_append_left _ (List.mem_append_right _ (List.mem_append_right _ (List.mem_append_right _ (List.mem_append_right _ (List.mem_append_right _ (List.mem_append_right _ (List.mem_append_right _ (List.mem_append_right _ (List.mem_append_right _ (List.mem_append_right _ (List.mem_append_right _ (List.mem_append_right _ (List.mem_append_right _ (List.mem_append_right _ (List.mem_append_left _ h)))))))))))))))))))
set_option maxRecDepth 20000 in
theorem wl_16 : ∀ w ∈ wsL_law_r16, w ∈ wsL_law := fun w h => List.mem_append_left _ (List.mem_append_left _ (List.mem_append_left _ (List.mem_append_left _ (List.mem_append_left _ (List.mem_append_right _ (List.mem_append_right _ (List.mem_append_right _ (List.mem_append_right _ (List.mem_append_right _ (List.mem_append_right _ (List.mem_append_right _ (List.mem_append_right _ (List.mem_append_right _ (List.mem_append_right _ (List.mem_append_right _ (List.mem_append_right _ (List.mem_append_right _ (List.mem_append_right _ (List.mem_append_right _ (List.mem_append_left _ h))))))))))))))))))))
set_option maxRecDepth 20000 in
theorem wl_17 : ∀ w ∈ wsL_law_r17, w ∈ wsL_law := fun w h => List.mem_append_left _ (List.mem_append_left _ (List.mem_append_left _ (List.mem_append_left _ (List.mem_append_left _ (List.mem_append_right _ (List.mem_append_right _ (List.mem_append_right _ (List.mem_append_right _ (List.mem_append_right _ (List.mem_append_right _ (List.mem_append_right _ (List.mem_append_right _ (List.mem_append_right _ (List.mem_append_right _ (List.mem_append_right _ (List.mem_append_right _ (List.mem_append_right _ (List.mem_append_right _ (List.mem_append_right _ (List.mem_append_right _ (List.mem_append_left _ h)))))))))))))))))))))
set_option maxRecDepth 20000 in
theorem wl_18 : ∀ w ∈ wsL_law_r18, w ∈ wsL_law := fun w h => List.mem_append_left _ (List.mem_append_left _ (List.mem_append_left _ (List.mem_append_left _ (List.mem_append_left _ (List.mem_append_right _ (List.mem_append_right _ (List.mem_append_right _ (List.mem_append_right _ (List.mem_append_right _ (List.mem_append_right _ (List.mem_append_right _ (List.mem_append_right _ (List.mem_append_right _ (List.mem_append_right _ (List.mem_append_right _ (List.mem_append_right _ (List.mem_append_right _ (List.mem_append_right _ (List.mem_append_right _ (List.mem_append_right _ (List.mem_append_right _ (List.mem_append_left _ h))))))))))))))))))))))
set_option maxRecDepth 20000 in
theorem wl_19 : ∀ w ∈ wsL_law_r19, w ∈ wsL_law := fun w h => List.mem_append_left _ (List.mem_append_left _ (List.mem_append_left _ (List.mem_append_left _ (List.mem_append_left _ (List.mem_append_right _ (List.mem_append_right _ (List.mem_append_right _ (List.mem_append_right _ (List.mem_append_right _ (List.mem_append_right _ (List.mem_append_right _ (List.mem_append_right _ (List.mem_append_right _ (List.mem_append_right _ (List.mem_append_right _ (List.mem_append_right _ (List.mem_append_right _ (List.mem_append_right _ (List.mem_append_right _ (List.mem_append_right _ (List.mem_append_right _ (List.mem_append_right _ (List.mem_append_left _ h)))))))))))))))))))))))
set_option maxRecDepth 20000 in
theorem wl_20 : ∀ w ∈ wsL_law_r20, w ∈ wsL_law := fun w h => List.mem_append_left _ (List.mem_append_left _ (List.mem_append_left _ (List.mem_append_left _ (List.mem_append_left _ (List.mem_append_right _ (List.mem_append_right _ (List.mem_append_right _ (List.mem_append_right _ (List.mem_append_right _ (List.mem_append_right _ (List.mem_append_right _ (List.mem_append_right _ (List.mem_append_right _ (List.mem_append_right _ (List.mem_append_right _ (List.mem_append_right _ (List.mem_append_right _ (List.mem_append_right _ (List.mem_append_right _ (List.mem_append_right _ (List.mem_append_right _ (List.mem_append_right _ (List.mem_append_right _ (List.mem_append_left _ h))))))))))))))))))))))))
set_option maxRecDepth 20000 in
theorem wl_21 : ∀ w ∈ wsL_law_r21, w ∈ wsL_law := fun w h => List.mem_append_left _ (List.mem_append_left _ (List.mem_append_left _ (List.mem_append_left _ (List.mem_append_left _ (List.mem_append_right _ (List.mem_append_right _ (List.mem_append_right _ (List.mem_append_right _ (List.mem_append_right _ (List.mem_append_right _ (List.mem_append_right _ (List.mem_append_right _ (List.mem_append_right _ (List.mem_append_right _ (List.mem_append_right _ (List.mem_append_right _ (List.mem_append_right _ (List.mem_append_right _ (List.mem_append_right _ (List.mem_append_right _ (List.mem_append_right _ (List.mem_append_right _ (List.mem_append_right _ (List.mem_append_right _ (List.mem_append_left _ h)))))))))))))))))))))))))
set_option maxRecDepth 20000 in
theorem wl_22 : ∀ w ∈ wsL_law_r22, w ∈ wsL_law := fun w h => List.mem_append_left _ (List.mem_append_left _ (List.mem_append_left _ (List.mem_append_left _ (List.mem_append_left _ (List.mem_append_right _ (List.mem_append_right _ (List.mem_append_right _ (List.mem_append_right _ (List.mem_append_right _ (List.mem_append_right _ (List.mem_append_right _ (List.mem_append_right _ (List.mem_append_right _ (List.mem_append_right _ (List.mem_append_right _ (List.mem_append_right _ (List.mem_append_right _ (List.mem_append_right _ (List.mem_append_right _ (List.mem_append_right _ (List.mem_append_right _ (List.mem_append_right _ (List.mem_append_right _ (List.mem_append_right _ (List.mem_append_right _ (List.mem_append_left _ h))))))))))))))))))))))))))
set_option maxRecDepth 20000 in
theorem wl_23 : ∀ w ∈ wsL_law_r23, w ∈ wsL_law := fun w h => List.mem_append_left _ (List.mem_append_left _ (List.mem_append_left _ (List.mem_append_left _ (List.mem_append_left _ (List.mem_append_right _ (List.mem_append_right _ (List.mem_append_right _ (List.mem_append_right _ (List.mem_append_right _ (List.mem_append_right _ (List.mem_append_right _ (List.mem_append_right _ (List.mem_append_right _ (List.mem_append_right _ (List.mem_append_right _ (List.mem_append_right _ (List.mem_append_right _ (List.mem_append_right _ (List.mem_append_right _ (List.mem_append_right _ (List.mem_append_right _ (List.mem_append_right _ (List.mem_append_right _ (List.mem_append_right _ (List.mem_append_right _ (List.mem_append_right _ (List.mem_append_left _ h)))))))))))))))))))))))))))
set_option maxRecDepth 20000 in
theorem wl_24 : ∀ w ∈ wsL_law_r24, w ∈ wsL_law := fun w h => List.mem_append_left _ (List.mem_append_left _ (List.mem_append_left _ (List.mem_append_left _ (List.mem_append_left _ (List.mem_append_right _ (List.mem_append_right _ (List.mem_append_right _ (List.mem_append_right _ (List.mem_append_right _ (List.mem_append_right _ (List.mem_append_right _ (List.mem_append_right _ (List.mem_append_right _ (List.mem_append_right _ (List.mem_append_right _ (List.mem_append_right _ (List.mem_append_right _ (List.mem_append_right _ (List.mem_append_right _ (List.mem_append_right _ (List.mem_append_right _ (List.mem_append_right _ (List.mem_append_right _ (List.mem_append_right _ (List.mem_append_right _ (List.mem_append_right _ (List.mem_append_right _ (List.mem_append_left _ h))))))))))))))))))))))))))))
set_option maxRecDepth 20000 in
theorem wl_25 : ∀ w ∈ wsL_law_r25, w ∈ wsL_law := fun w h => List.mem_append_left _ (List.mem_append_left _ (List.mem_append_left _ (List.mem_append_left _ (List.mem_append_left _ (List.mem_append_right _ (List.mem_append_right _ (List.mem_append_right _ (List.mem_append_right _ (List.mem_append_right _ (List.mem_append_right _ (List.mem_append_right _ (List.mem_append_right _ (List.mem_append_right _ (List.mem_append_right _ (List.mem_append_right _ (List.mem_append_right _ (List.mem_append_right _ (List.mem_append_right _ (List.mem_append_right _ (List.mem_append_right _ (List.mem_append_right _ (List.mem_append_right _ (List.mem_append_right _ (List.mem_append_right _ (List.mem_append_right _ (List.mem_append_right _ (List.mem_append_right _ (List.mem_append_right _ (List.mem_append_left _ h)))))))))))))))))))))))))))))
set_option maxRecDepth 20000 in
theorem wl_26 : ∀ w ∈ wsL_law_r26, w ∈ wsL_law := fun w h => List.mem_append_left _ (List.mem_append_left _ (List.mem_append_left _ (List.mem_append_left _ (List.mem_append_left _ (List.mem_append_right _ (List.mem_append_right _ (List.mem_append_right _ (List.mem_append_right _ (List.mem_append_right _ (List.mem_append_right _ (List.mem_append_right _ (List.mem_append_right _ (List.mem_append_right _ (List.mem_append_right _ (List.mem_append_right _ (List.mem_append_right _ (List.mem_append_right _ (List.mem_append_right _ (List.mem_append_right _ (List.mem_append_right _ (List.mem_append_right _ (List.mem_append_right _ (List.mem_append_right _ (List.mem_append_right _ (List.mem_append_right _ (List.mem_append_right _ (List.mem_append_right _ (List.mem_append_right _ (List.mem_append_right _ (List.mem_append_left _ h))))))))))))))))))))))))))))))
set_option maxRecDepth 20000 in
theorem wl_27 : ∀ w ∈ wsL_law_r27, w ∈ wsL_law := fun w h => List.mem_append_left _ (List.mem_append_left _ (List.mem_append_left _ (List.mem_append_left _ (List.mem_append_left _ (List.mem_append_right _ (List.mem_append_right _ (List.mem_append_right _ (List.mem_append_right _ (List.mem_append_right _ (List.mem_append_right _ (List.mem_append_right _ (List.mem_append_right _ (List.mem_append_right _ (List.mem_append_right _ (List.mem_append_right _ (List.mem_append_right _ (List.mem_append_right _ (List.mem_append_right _ (List.mem_append_right _ (List.mem_append_right _ (List.mem_append_right _ (List.mem_append_right _ (List.mem_append_right _ (List.mem_append_right _ (List.mem_append_right _ (List.mem_append_right _ (List.mem_append_right _ (List.mem_append_right _ (List.mem_append_right _ (List.mem_append_right _ (List.mem_append_left _ h)))))))))))))))))))))))))))))))
set_option maxRecDepth 20000 in
theorem wl_28 : ∀ w ∈ wsL_law_r28, w ∈ wsL_law := fun w h => List.mem_append_left _ (List.mem_append_left _ (List.mem_append_left _ (List.mem_append_left _ (List.mem_append_left _ (List.mem_append_right _ (List.mem_append_right _ (List.mem_append_right _ (List.mem_append_right _ (List.mem_append_right _ (List.mem_append_right _ (List.mem_append_right _ (List.mem_append_right _ (List.mem_append_right _ (List.mem_append_right _ (List.mem_append_right _ (List.mem_append_right _ (List.mem_append_right _ (List.mem_append_right _ (List.mem_append_right _ (List.mem_append_right _ (List.mem_append_right _ (List.mem_append_right _ (List.mem_append_right _ (List.mem_append_right _ (List.mem_append_right _ (List.mem_append_right _ (List.mem_append_right _ (List.mem_append_right _ (List.mem_append_right _ (List.mem_append_right _ (List.mem_append_right _ (List.mem_append_left _ h))))))))))))))))))))))))))))))))
set_option maxRecDepth 20000 in
theorem wl_29 : ∀ w ∈ wsL_law_r29, w ∈ wsL_law := fun w h => List.mem_append_left _ (List.mem_append_left _ (List.mem_append_left _ (List.mem_append_left _ (List.mem_append_left _ (List.mem_append_right _ (List.mem_append_right _ (List.mem_append_right _ (List.mem_append_right _ (List.mem_append_right _ (List.mem_append_right _ (List.mem_append_right _ (List.mem_append_right _ (List.mem_append_right _ (List.mem_append_right _ (List.mem_append_right _ (List.mem_append_right _ (List.mem_append_right _ (List.mem_append_right _ (List.mem_append_right _ (List.mem_append_right _ (List.mem_append_right _ (List.mem_append_right _ (List.mem_append_right _ (List.mem_append_right _ (List.mem_append_right _ (List.mem_append_right _ (List.mem_append_right _ (List.mem_append_right _ (List.mem_append_right _ (List.mem_append_right _ (List.mem_append_right _ (List.mem_append_right _ (List.mem_append_left _ h)))))))))))))))))))))))))))))))))
set_option maxRecDepth 20000 in
theorem wl_30 : ∀ w ∈ wsL_law_r30, w ∈ wsL_law := fun w h => List.mem_append_left _ (List.mem_append_left _ (List.mem_append_left _ (List.mem_append_left _ (List.mem_append_left _ (List.mem_append_right _ (List.mem_append_right _ (List.mem_append_right _ (List.mem_append_right _ (List.mem_append_right _ (List.mem_append_right _ (List.mem_append_right _ (List.mem_append_right _ (List.mem_append_right _ (List.mem_append_right _ (List.mem_append_right _ (List.mem_append_right _ (List.mem_append_right _ (List.mem_append_right _ (List.mem_append_right _ (List.mem_append_right _ (List.mem_append_right _ (List.mem_append_right _ (List.mem_append_right _ (List.mem_append_right _ (List.mem_append_right _ (List.mem_append_right _ (List.mem_append_right _ (List.mem_append_right _ (List.mem_append_right _ (List.mem_append_right _ (List.mem_append_right _ (List.mem_append_right _ (List.mem_append_right _ (List.mem_append_left _ h))))))))))))))))))))))))))))))))))
set_option maxRecDepth 20000 in
theorem wl_31 : ∀ w ∈ wsL_law_r31, w ∈ wsL_law := fun w h => List.mem_append_left _ (List.mem_append_left _ (List.mem_append_left _ (List.mem_append_left _ (List.mem_append_left _ (List.mem_append_right _ (List.mem_append_right _ (List.mem_append_right _ (List.mem_append_right _ (List.mem_append_right _ (List.mem_append_right _ (List.mem_append_right _ (List.mem_append_right _ (List.mem_append_right _ (List.mem_append_right _ (List.mem_append_right _ (List.mem_append_right _ (List.mem_append_right _ (List.mem_append_right _ (List.mem_append_right _ (List.mem_append_right _ (List.mem_append_right _ (List.mem_append_right _ (List.mem_append_right _ (List.mem_append_right _ (List.mem_append_right _ (List.mem_append_right _ (List.mem_append_right _ (List.mem_append_right _ (List.mem_append_right _ (List.mem_append_right _ (List.mem_append_right _ (List.mem_append_right _ (List.mem_append_right _ (List.mem_append_right _ (List.mem_append_left _ h)))))))))))))))))))))))))))))))))))
set_option maxRecDepth 20000 in
theorem wl_32 : ∀ w ∈ wsL_law_r32, w ∈ wsL_law := fun w h => List.mem_append_left _ (List.mem_append_left _ (List.mem_append_left _ (List.mem_append_left _ (List.mem_append_left _ (List.mem_append_right _ (List.mem_append_right _ (List.mem_append_right _ (List.mem_append_right _ (List.mem_append_right _ (List.mem_append_right _ (List.mem_append_right _ (List.mem_append_right _ (List.mem_append_right _ (List.mem_append_right _ (List.mem_append_right _ (List.mem_append_right _ (List.mem_append_right _ (List.mem_append_right _ (List.mem_append_right _ (List.mem_append_right _ (List.mem_append_right _ (List.mem_append_right _ (List.mem_append_right _ (List.mem_append_right _ (List.mem_append_right _ (List.mem_append_right _ (List.mem_append_right _ (List.mem_append_right _ (List.mem_append_right _ (List.mem_append_right _ (List.mem_append_right _ (List.mem_append_right _ (List.mem_append_right _ (List.mem_append_right _ (List.mem_append_right _ (List.mem_append_left _ h))))))))))))))))))))))))))))))))))))
set_option maxRecDepth 20000 in
theorem wl_33 : ∀ w ∈ wsL_law_r33, w ∈ wsL_law := fun w h => List.mem_append_left _ (List.mem_append_left _ (List.mem_append_left _ (List.mem_append_left _ (List.mem_append_left _ (List.mem_append_right _ (List.mem_append_right _ (List.mem_append_right _ (List.mem_append_right _ (List.mem_append_right _ (List.mem_append_right _ (List.mem_append_right _ (List.mem_append_right _ (List.mem_append_right _ (List.mem_append_right _ (List.mem_append_right _ (List.mem_append_right _ (List.mem_append_right _ (List.mem_append_right _ (List.mem_append_right _ (List.mem_append_right _ (List.mem_append_right _ (List.mem_append_right _ (List.mem_append_right _ (List.mem_append_right _ (List.mem_append_right _ (List.mem_append_right _ (List.mem_append_right _ (List.mem_append_right _ (List.mem_append_right _ (List.mem_append_right _ (List.mem_append_right _ (List.mem_append_right _ (List.mem_append_right _ (List.mem_append_right _ (List.mem_append_right _ (List.mem_append_right _ (List.mem_append_left _ h)))))))))))))))))))))))))))))))))))))
set_option maxRecDepth 20000 in
theorem wl_34 : ∀ w ∈ wsL_law_r34, w ∈ wsL_law := fun w h => List.mem_append_left _ (List.mem_append_left _ (List.mem_append_left _ (List.mem_append_left _ (List.mem_append_left _ (List.mem_append_right _ (List.mem_append_right _ (List.mem_append_right _ (List.mem_append_right _ (List.mem_append_right _ (List.mem_append_right _ (List.mem_append_right _ (List.mem_append_right _ (List.mem_append_right _ (List.mem_append_right _ (List.mem_append_right _ (List.mem_append_right _ (List.mem_append_right _ (List.mem_append_right _ (List.mem_append_right _ (List.mem_append_right _ (List.mem_append_right _ (List.mem_append_right _ (List.mem_append_right _ (List.mem_append_right _ (List.mem_append_right _ (List.mem_append_right _ (List.mem_append_right _ (List.mem_append_right _ (List.mem_append_right _ (List.mem_append_right _ (List.mem_append_right _ (List.mem_append_right _ (List.mem_append_right _ (List.mem_append_right _ (List.mem_append_right _ (List.mem_append_right _ (List.mem_append_right _ (List.mem_append_left _ h))))))))))))))))))))))))))))))))))))))
set_option maxRecDepth 20000 in
theorem wl_35 : ∀ w ∈ wsL_law_r35, w ∈ wsL_law := fun w h => List.mem_append_left _ (List.mem_append_left _ (List.mem_append_left _ (List.mem_append_left _ (List.mem_append_left _ (List.mem_append_right _ (List.mem_append_right _ (List.mem_append_right _ (List.mem_append_right _ (List.mem_append_right _ (List.mem_append_right _ (List.mem_append_right _ (List.mem_append_right _ (List.mem_append_right _ (List.mem_append_right _ (List.mem_append_right _ (List.mem_append_right _ (List.mem_append_right _ (List.mem_append_right _ (List.mem_append_right _ (List.mem_append_right _ (List.mem_append_right _ (List.mem_append_right _ (List.mem_append_right _ (List.mem_append_right _ (List.mem_append_right _ (List.mem_append_right _ (List.mem_append_right _ (List.mem_append_right _ (List.mem_append_right _ (List.mem_append_right _ (List.mem_append_right _ (List.mem_append_right _ (List.mem_append_right _ (List.mem_append_right _ (List.mem_append_right _ (List.mem_append_right _ (List.mem_append_right _ (List.mem_append_right _ (List.mem_append_left _ h)))))))))))))))))))))))))))))))))))))))
set_option maxRecDepth 20000 in
theorem wl_36 : ∀ w ∈ wsL_law_r36, w ∈ wsL_law := fun w h => List.mem_append_left _ (List.mem_append_left _ (List.mem_append_left _ (List.mem_append_left _ (List.mem_append_left _ (List.mem_append_right _ (List.mem_append_right _ (List.mem_append_right _ (List.mem_append_right _ (List.mem_append_right _ (List.mem_append_right _ (List.mem_append_right _ (List.mem_append_right _ (List.mem_append_right _ (List.mem_append_right _ (List.mem_append_right _ (List.mem_append_right _ (List.mem_append_right _ (List.mem_append_right _ (List.mem_append_right _ (List.mem_append_right _ (List.mem_append_right _ (List.mem_append_right _ (List.mem_append_right _ (List.mem_append_right _ (List.mem_append_right _ (List.mem_append_right _ (List.mem_append_right _ (List.mem_append_right _ (List.mem_append_right _ (List.mem_append_right _ (List.mem_append_right _ (List.mem_append_right _ (List.mem_append_right _ (List.mem_append_right _ (List.mem_append_right _ (List.mem_append_right _ (List.mem_append_right _ (List.mem_append_right _ (List.mem_append_right _ (List.mem_append_left _ h))))))))))))))))))))))))))))))))))))))))
set_option maxRecDepth 20000 in
theorem wl_37 : ∀ w ∈ wsL_law_r37, w ∈ wsL_law := fun w h => List.mem_append_left _ (List.mem_append_left _ (List.mem_append_left _ (List.mem_append_left _ (List.mem_append_left _ (List.mem_append_right _ (List.mem_append_right _ (List.mem_append_right _ (List.mem_append_right _ (List.mem_append_right _ (List.mem_append_right _ (List.mem_append_right _ (List.mem_append_right _ (List.mem_append_right _ (List.mem_append_right _ (List.mem_append_right _ (List.mem_append_right _ (List.mem_append_right _ (List.mem_append_right _ (List.mem_append_right _ (List.mem_append_right _ (List.mem_append_right _ (List.mem_append_right _ (List.mem_append_right _ (List.mem_append_right _ (List.mem_append_right _ (List.mem_append_right _ (List.mem_append_right _ (List.mem_append_right _ (List.mem_append_right _ (List.mem_append_right _ (List.mem_append_right _ (List.mem_append_right _ (List.mem_append_right _ (List.mem_append_right _ (List.mem_append_right _ (List.mem_append_right _ (List.mem_append_right _ (List.mem_append_right _ (List.mem_append_right _ (List.mem_append_right _ (List.mem_append_left _ h)))))))))))))))))))))))))))))))))))))))))
set_option maxRecDepth 20000 in
theorem wl_38 : ∀ w ∈ wsL_law_r38, w ∈ wsL_law := fun w h => List.mem_append_left _ (List.mem_append_left _ (List.mem_append_left _ (List.mem_append_left _ (List.mem_append_left _ (List.mem_append_right _ (List.mem_append_right _ (List.mem_append_right _ (List.mem_append_right _ (List.mem_append_right _ (List.mem_append_right _ (List.mem_append_right _ (List.mem_append_right _ (List.mem_append_right _ (List.mem_append_right _ (List.mem_append_right _ (List.mem_append_right _ (List.mem_append_right _ (List.mem_append_right _ (List.mem_append_right _ (List.mem_append_right _ (List.mem_append_right _ (List.mem_append_right _ (List.mem_append_right _ (List.mem_append_right _ (List.mem_append_right _ (List.mem_append_right _ (List.mem_append_right _ (List.mem_append_right _ (List.mem_append_right _ (List.mem_append_right _ (List.mem_append_right _ (List.mem_append_right _ (List.mem_append_right _ (List.mem_append_right _ (List.mem_append_right _ (List.mem_append_right _ (List.mem_append_right _ (List.mem_append_right _ (List.mem_append_right _ (List.mem_append_right _ (List.mem_append_right _ (List.mem_append_left _ h))))))))))))))))))))))))))))))))))))))))))
set_option maxRecDepth 20000 in
theorem wl_39 : ∀ w ∈ wsL_law_r39, w ∈ wsL_law := fun w h => List.mem_append_left _ (List.mem_append_left _ (List.mem_append_left _ (List.mem_append_left _ (List.mem_append_left _ (List.mem_append_right _ (List.mem_append_right _ (List.mem_append_right _ (List.mem_append_right _ (List.mem_append_right _ (List.mem_append_right _ (List.mem_append_right _ (List.mem_append_right _ (List.mem_append_right _ (List.mem_append_right _ (List.mem_append_right _ (List.mem_append_right _ (List.mem_append_right _ (List.mem_append_right _ (List.mem_append_right _ (List.mem_append_right _ (List.mem_append_right _ (List.mem_append_right _ (List.mem_append_right _ (List.mem_append_right _ (List.mem_append_right _ (List.mem_append_right _ (List.mem_append_right _ (List.mem_append_right _ (List.mem_append_right _ (List.mem_append_right _ (List.mem_append_right _ (List.mem_append_right _ (List.mem_append_right _ (List.mem_append_right _ (List.mem_append_right _ (List.mem_append_right _ (List.mem_append_right _ (List.mem_append_right _ (List.mem_append_right _ (List.mem_append_right _ (List.mem_append_right _ (List.mem_append_right _ (List.mem_append_left _ h)))))))))))))))))))))))))))))))))))))))))))
set_option maxRecDepth 20000 in
theorem wl_40 : ∀ w ∈ wsL_law_r40, w ∈ wsL_law := fun w h => List.mem_append_left _ (List.mem_append_left _ (List.mem_append_left _ (List.mem_append_left _ (List.mem_append_left _ (List.mem_append_right _ (List.mem_append_right _ (List.mem_append_right _ (List.mem_append_right _ (List.mem_append_right _ (List.mem_append_right _ (List.mem_append_right _ (List.mem_append_right _ (List.mem_append_right _ (List.mem_append_right _ (List.mem_append_right _ (List.mem_append_right _ (List.mem_append_right _ (List.mem_append_right _ (List.mem_append_right _ (List.mem_append_right _ (List.mem_append_right _ (List.mem_append_right _ (List.mem_append_right _ (List.mem_append_right _ (List.mem_append_right _ (List.mem_append_right _ (List.mem_append_right _ (List.mem_append_right _ (List.mem_append_right _ (List.mem_append_right _ (List.mem_append_right _ (List.mem_append_right _ (List.mem_append_right _ (List.mem_append_right _ (List.mem_append_right _ (List.mem_append_right _ (List.mem_append_right _ (List.mem_append_right _ (List.mem_append_right _ (List.mem_append_right _ (List.mem_append_right _ (List.mem_append_right _ (List.mem_append_right _ (List.mem_append_left _ h))))))))))))))))))))))))))))))))))))))))))))
set_option maxRecDepth 20000 in
theorem wl_41 : ∀ w ∈ wsL_law_r41, w ∈ wsL_law := fun w h => List.mem_append_left _ (List.mem_append_left _ (List.mem_append_left _ (List.mem_append_left _ (List.mem_append_left _ (List.mem_append_right _ (List.mem_append_right _ (List.mem_append_right _ (List.mem_append_right _ (List.mem_append_right _ (List.mem_append_right _ (List.mem_append_right _ (List.mem_append_right _ (List.mem_append_right _ (List.mem_append_right _ (List.mem_append_right _ (List.mem_append_right _ (List.mem_append_right _ (List.mem_append_right _ (List.mem_append_right _ (List.mem_append_right _ (List.mem_append_right _ (List.mem_append_right _ (List.mem_append_right _ (List.mem_append_right _ (List.mem_append_right _ (List.mem_append_right _ (List.mem_append_right _ (List.mem_append_right _ (List.mem_append_right _ (List.mem_append_right _ (List.mem_append_right _ (List.mem_append_right _ (List.mem_append_right _ (List.mem_append_right _ (List.mem_append_right _ (List.mem_append_right _ (List.mem_append_right _ (List.mem_append_right _ (List.mem_append_right _ (List.mem_append_right _ (List.mem_append_right _ (List.mem_append_right _ (List.mem_append_right _ (List.mem_append_right _ (h)))))))))))))))))))))))))))))))))))))))))))))
set_option maxRecDepth 20000 in
theorem wl_wsX30 : ∀ w ∈ wsX30, w ∈ wsL_law := fun w h => List.mem_append_left _ (List.mem_append_left _ (List.mem_append_left _ (List.mem_append_left _ (List.mem_append_right _ h))))
set_option maxRecDepth 20000 in
theorem wl_wsX20 : ∀ w ∈ wsX20, w ∈ wsL_law := fun w h => List.mem_append_left _ (List.mem_append_left _ (List.mem_append_left _ (List.mem_append_right _ h)))
set_option maxRecDepth 20000 in
theorem wl_wsX10 : ∀ w ∈ wsX10, w ∈ wsL_law := fun w h => List.mem_append_left _ (List.mem_append_left _ (List.mem_append_right _ h))
set_option maxRecDepth 20000 in
theorem wl_wsX00 : ∀ w ∈ wsX00, w ∈ wsL_law := fun w h => List.mem_append_left _ (List.mem_append_right _ h)
set_option maxRecDepth 20000 in
theorem wg_1 : ∀ w ∈ wsL_law_r1, goodWord w = true := List.all_eq_true.mp (by decide +kernel)
set_option maxRecDepth 20000 in
theorem wg_2 : ∀ w ∈ wsL_law_r2, goodWord w = true := List.all_eq_true.mp (by decide +kernel)
set_option maxRecDepth 20000 in
theorem wg_3 : ∀ w ∈ wsL_law_r3, goodWord w = true := List.all_eq_true.mp (by decide +kernel)
set_option maxRecDepth 20000 in
theorem wg_4 : ∀ w ∈ wsL_law_r4, goodWord w = true := List.all_eq_true.mp (by decide +kernel)
set_option maxRecDepth 20000 in
theorem wg_5 : ∀ w ∈ wsL_law_r5, goodWord w = true := List.all_eq_true.mp (by decide +kernel)
set_option maxRecDepth 20000 in
theorem wg_6 : ∀ w ∈ wsL_law_r6, goodWord w = true := List.all_eq_true.mp (by decide +kernel)
set_option maxRecDepth 20000 in
theorem wg_7 : ∀ w ∈ wsL_law_r7, goodWord w = true := List.all_eq_true.mp (by decide +kernel)
set_option maxRecDepth 20000 in
theorem wg_8 : ∀ w ∈ wsL_law_r8, goodWord w = true := List.all_eq_true.mp (by decide +kernel)
set_option maxRecDepth 20000 in
theorem wg_9 : ∀ w ∈ wsL_law_r9, goodWord w = true := List.all_eq_true.mp (by decide +kernel)
set_option maxRecDepth 20000 in
theorem wg_10 : ∀ w ∈ wsL_law_r10, goodWord w = true := List.all_eq_true.mp (by decide +kernel)
set_option maxRecDepth 20000 in
theorem wg_11 : ∀ w ∈ wsL_law_r11, goodWord w = true := List.all_eq_true.mp (by decide +kernel)
set_option maxRecDepth 20000 in
theorem wg_12 : ∀ w ∈ wsL_law_r12, goodWord w = true := List.all_eq_true.mp (by decide +kernel)
set_option maxRecDepth 20000 in
theorem wg_13 : ∀ w ∈ wsL_law_r13, goodWord w = true := List.all_eq_true.mp (by decide +kernel)
set_option maxRecDepth 20000 in
theorem wg_14 : ∀ w ∈ wsL_law_r14, goodWord w = true := List.all_eq_true.mp (by decide +kernel)
set_option maxRecDepth 20000 in
theorem wg_15 : ∀ w ∈ wsL_law_r15, goodWord w = true := List.all_eq_true.mp (by decide +kernel)
set_option maxRecDepth 20000 in
theorem wg_16 : ∀ w ∈ wsL_law_r16, goodWord w = true := List.all_eq_true.mp (by decide +kernel)
set_option maxRecDepth 20000 in
theorem wg_17 : ∀ w ∈ wsL_law_r17, goodWord w = true := List.all_eq_true.mp (by decide +kernel)
set_option maxRecDepth 20000 in
theorem wg_18 : ∀ w ∈ wsL_law_r18, goodWord w = true := List.all_eq_true.mp (by decide +kernel)
set_option maxRecDepth 20000 in
theorem wg_19 : ∀ w ∈ wsL_law_r19, goodWord w = true := List.all_eq_true.mp (by decide +kernel)
set_option maxRecDepth 20000 in
theorem wg_20 : ∀ w ∈ wsL_law_r20, goodWord w = true := List.all_eq_true.mp (by decide +kernel)
set_option maxRecDepth 20000 in
theorem wg_21 : ∀ w ∈ wsL_law_r21, goodWord w = true := List.all_eq_true.mp (by decide +kernel)
set_option maxRecDepth 20000 in
theorem wg_22 : ∀ w ∈ wsL_law_r22, goodWord w = true := List.all_eq_true.mp (by decide +kernel)
set_option maxRecDepth 20000 in
theorem wg_23 : ∀ w ∈ wsL_law_r23, goodWord w = true := List.all_eq_true.mp (by decide +kernel)
set_option maxRecDepth 20000 in
theorem wg_24 : ∀ w ∈ wsL_law_r24, goodWord w = true := List.all_eq_true.mp (by decide +kernel)
set_option maxRecDepth 20000 in
theorem wg_25 : ∀ w ∈ wsL_law_r25, goodWord w = true := List.all_eq_true.mp (by decide +kernel)
set_option maxRecDepth 20000 in
theorem wg_26 : ∀ w ∈ wsL_law_r26, goodWord w = true := List.all_eq_true.mp (by decide +kernel)
set_option maxRecDepth 20000 in
theorem wg_27 : ∀ w ∈ wsL_law_r27, goodWord w = true := List.all_eq_true.mp (by decide +kernel)
set_option maxRecDepth 20000 in
theorem wg_28 : ∀ w ∈ wsL_law_r28, goodWord w = true := List.all_eq_true.mp (by decide +kernel)
set_option maxRecDepth 20000 in
theorem wg_29 : ∀ w ∈ wsL_law_r29, goodWord w = true := List.all_eq_true.mp (by decide +kernel)
set_option maxRecDepth 20000 in
theorem wg_30 : ∀ w ∈ wsL_law_r30, goodWord w = true := List.all_eq_true.mp (by decide +kernel)
set_option maxRecDepth 20000 in
theorem wg_31 : ∀ w ∈ wsL_law_r31, goodWord w = true := List.all_eq_true.mp (by decide +kernel)
set_option maxRecDepth 20000 in
theorem wg_32 : ∀ w ∈ wsL_law_r32, goodWord w = true := List.all_eq_true.mp (by decide +kernel)
set_option maxRecDepth 20000 in
theorem wg_33 : ∀ w ∈ wsL_law_r33, goodWord w = true := List.all_eq_true.mp (by decide +kernel)
set_option maxRecDepth 20000 in
theorem wg_34 : ∀ w ∈ wsL_law_r34, goodWord w = true := List.all_eq_true.mp (by decide +kernel)
set_option maxRecDepth 20000 in
theorem wg_35 : ∀ w ∈ wsL_law_r35, goodWord w = true := List.all_eq_true.mp (by decide +kernel)
set_option maxRecDepth 20000 in
theorem wg_36 : ∀ w ∈ wsL_law_r36, goodWord w = true := List.all_eq_true.mp (by decide +kernel)
set_option maxRecDepth 20000 in
theorem wg_37 : ∀ w ∈ wsL_law_r37, goodWord w = true := List.all_eq_true.mp (by decide +kernel)
set_option maxRecDepth 20000 in
theorem wg_38 : ∀ w ∈ wsL_law_r38, goodWord w = true := List.all_eq_true.mp (by decide +kernel)
set_option maxRecDepth 20000 in
theorem wg_39 : ∀ w ∈ wsL_law_r39, goodWord w = true := List.all_eq_true.mp (by decide +kernel)
set_option maxRecDepth 20000 in
theorem wg_40 : ∀ w ∈ wsL_law_r40, goodWord w = true := List.all_eq_true.mp (by decide +kernel)
set_option maxRecDepth 20000 in
theorem wg_41 : ∀ w ∈ wsL_law_r41, goodWord w = true := List.all_eq_true.mp (by decide +kernel)
set_option maxRecDepth 20000 in
theorem wg_wsX30 : ∀ w ∈ wsX30, goodWord w = true := List.all_eq_true.mp (by decide +kernel)
set_option maxRecDepth 20000 in
theorem wg_wsX20 : ∀ w ∈ wsX20, goodWord w = true := List.all_eq_true.mp (by decide +kernel)
set_option maxRecDepth 20000 in
theorem wg_wsX10 : ∀ w ∈ wsX10, goodWord w = true := List.all_eq_true.mp (by decide +kernel)
set_option maxRecDepth 20000 in
theorem wg_wsX00 : ∀ w ∈ wsX00, goodWord w = true := List.all_eq_true.mp (by decide +kernel)
set_option maxRecDepth 20000 in
theorem wsL_good : ∀ w ∈ wsL_law, goodWord w = true := by
  unfold wsL_law
  exact List.forall_mem_append.mpr ⟨List.forall_mem_append.mpr ⟨List.forall_mem_append.mpr ⟨List.forall_mem_append.mpr ⟨List.forall_mem_append.mpr ⟨List.forall_mem_append.mpr ⟨wg_1, List.forall_mem_append.mpr ⟨wg_2, List.forall_mem_append.mpr ⟨wg_3, List.forall_mem_append.mpr ⟨wg_4, List.forall_mem_append.mpr ⟨wg_5, List.forall_mem_append.mpr ⟨wg_6, List.forall_mem_append.mpr ⟨wg_7, List.forall_mem_append.mpr ⟨wg_8, List.forall_mem_append.mpr ⟨wg_9, List.forall_mem_append.mpr ⟨wg_10, List.forall_mem_append.mpr ⟨wg_11, List.forall_mem_append.mpr ⟨wg_12, List.forall_mem_append.mpr ⟨wg_13, List.forall_mem_append.mpr ⟨wg_14, List.forall_mem_append.mpr ⟨wg_15, List.forall_mem_append.mpr ⟨wg_16, List.forall_mem_append.mpr ⟨wg_17, List.forall_mem_append.mpr ⟨wg_18, List.forall_mem_append.mpr ⟨wg_19, List.forall_mem_append.mpr ⟨wg_20, List.forall_mem_append.mpr ⟨wg_21, List.forall_mem_append.mpr ⟨wg_22, List.forall_mem_append.mpr ⟨wg_23, List.forall_mem_append.mpr ⟨wg_24, List.forall_mem_append.mpr ⟨wg_25, List.forall_mem_append.mpr ⟨wg_26, List.forall_mem_append.mpr ⟨wg_27, List.forall_mem_append.mpr ⟨wg_28, List.forall_mem_append.mpr ⟨wg_29, List.forall_mem_append.mpr ⟨wg_30, List.forall_mem_append.mpr ⟨wg_31, List.forall_mem_append.mpr ⟨wg_32, List.forall_mem_append.mpr ⟨wg_33, List.forall_mem_append.mpr ⟨wg_34, List.forall_mem_append.mpr ⟨wg_35, List.forall_mem_append.mpr ⟨wg_36, List.forall_mem_append.mpr ⟨wg_37, List.forall_mem_append.mpr ⟨wg_38, List.forall_mem_append.mpr ⟨wg_39, List.forall_mem_append.mpr ⟨wg_40, wg_41⟩⟩⟩⟩⟩⟩⟩⟩⟩⟩⟩⟩⟩⟩⟩⟩⟩⟩⟩⟩⟩⟩⟩⟩⟩⟩⟩⟩⟩⟩⟩⟩⟩⟩⟩⟩⟩⟩⟩⟩, wg_wsX30⟩, wg_wsX20⟩, wg_wsX10⟩, wg_wsX00⟩, fun _ h => absurd h List.not_mem_nil⟩
set_option maxRecDepth 20000 in
theorem wq_1_0 : Cond.classLink RL 11 RX3 ∈ wsL_law := wl_1 _ (List.mem_of_getElem? (i := 0) rfl)
set_option maxRecDepth 20000 in
theorem wq_1_1 : Cond.instantiable RX3 10 ∈ wsL_law := wl_1 _ (List.mem_of_getElem? (i := 1) rfl)
set_option maxRecDepth 20000 in
theorem wq_1_2 : Cond.initialized RX3 ∈ wsL_law := wl_1 _ (List.mem_of_getElem? (i := 2) rfl)
set_option maxRecDepth 20000 in
theorem wq_1_3 : Cond.methodLink RL 95 yX3_init ∈ wsL_law := wl_1 _ (List.mem_of_getElem? (i := 3) rfl)
set_option maxRecDepth 20000 in
theorem wq_1_4 : Cond.instanceMethod yX3_init ∈ wsL_law := wl_1 _ (List.mem_of_getElem? (i := 4) rfl)
set_option maxRecDepth 20000 in
theorem wq_1_5 : Cond.code yX3_init cX3_init 2 none ∈ wsL_law := wl_1 _ (List.mem_of_getElem? (i := 5) rfl)
set_option maxRecDepth 20000 in
theorem wq_1_6 : Cond.methodLink RX3 1 objectInit ∈ wsL_law := wl_1 _ (List.mem_of_getElem? (i := 6) rfl)
set_option maxRecDepth 20000 in
theorem wq_1_7 : Cond.instanceMethod objectInit ∈ wsL_law := wl_1 _ (List.mem_of_getElem? (i := 7) rfl)
set_option maxRecDepth 20000 in
theorem wq_1_8 : Cond.code objectInit ⟨#[0xb1]⟩ 1 none ∈ wsL_law := wl_1 _ (List.mem_of_getElem? (i := 8) rfl)
set_option maxRecDepth 20000 in
theorem wq_1_9 : Cond.classLink RX3 7 RX2 ∈ wsL_law := wl_1 _ (List.mem_of_getElem? (i := 9) rfl)
set_option maxRecDepth 20000 in
theorem wq_1_10 : Cond.instantiable RX2 9 ∈ wsL_law := wl_1 _ (List.mem_of_getElem? (i := 10) rfl)
set_option maxRecDepth 20000 in
theorem wq_1_11 : Cond.initialized RX2 ∈ wsL_law := wl_1 _ (List.mem_of_getElem? (i := 11) rfl)
set_option maxRecDepth 20000 in
theorem wq_2_0 : Cond.fieldLink RX3 10 "CupFountain" "now" "LCupFountain$State;" ∈ wsL_law := wl_2 _ (List.mem_of_getElem? (i := 0) rfl)
set_option maxRecDepth 20000 in
theorem wq_2_1 : Cond.fieldLink RX3 16 "CupFountain" "ahead" "LCupFountain$State;" ∈ wsL_law := wl_2 _ (List.mem_of_getElem? (i := 1) rfl)
set_option maxRecDepth 20000 in
theorem wq_2_2 : Cond.fieldLink RX3 19 "CupFountain" "before" "LCupFountain$State;" ∈ wsL_law := wl_2 _ (List.mem_of_getElem? (i := 2) rfl)
set_option maxRecDepth 20000 in
theorem wq_2_3 : Cond.fieldLink RX3 22 "CupFountain" "snapshot" "LCupFountain$State;" ∈ wsL_law := wl_2 _ (List.mem_of_getElem? (i := 3) rfl)
set_option maxRecDepth 20000 in
theorem wq_2_4 : Cond.fieldLink RX3 25 "CupFountain" "past" "[LCupFountain$State;" ∈ wsL_law := wl_2 _ (List.mem_of_getElem? (i := 4) rfl)
set_option maxRecDepth 20000 in
theorem wq_2_5 : Cond.classLink RX3 29 RX1 ∈ wsL_law := wl_2 _ (List.mem_of_getElem? (i := 5) rfl)
set_option maxRecDepth 20000 in
theorem wq_2_6 : Cond.instantiable RX1 7 ∈ wsL_law := wl_2 _ (List.mem_of_getElem? (i := 6) rfl)
set_option maxRecDepth 20000 in
theorem wq_2_7 : Cond.initialized RX1 ∈ wsL_law := wl_2 _ (List.mem_of_getElem? (i := 7) rfl)
set_option maxRecDepth 20000 in
theorem wq_2_8 : Cond.fieldLink RX3 32 "CupFountain" "plan" "LCupFountain$Plan;" ∈ wsL_law := wl_2 _ (List.mem_of_getElem? (i := 8) rfl)
set_option maxRecDepth 20000 in
theorem wq_2_9 : Cond.fieldLink RX3 36 "CupFountain" "pastCount" "I" ∈ wsL_law := wl_2 _ (List.mem_of_getElem? (i := 9) rfl)
set_option maxRecDepth 20000 in
theorem wq_2_10 : Cond.fieldLink RX3 40 "CupFountain" "hasSnapshot" "Z" ∈ wsL_law := wl_2 _ (List.mem_of_getElem? (i := 10) rfl)
set_option maxRecDepth 20000 in
theorem wq_2_11 : Cond.fieldLink RX3 44 "CupFountain" "stopNumber" "I" ∈ wsL_law := wl_2 _ (List.mem_of_getElem? (i := 11) rfl)
set_option maxRecDepth 20000 in
theorem wq_3_0 : Cond.fieldLink RX3 47 "CupFountain" "stopError" "I" ∈ wsL_law := wl_3 _ (List.mem_of_getElem? (i := 0) rfl)
set_option maxRecDepth 20000 in
theorem wq_3_1 : Cond.methodLink RX3 9 yX2_init ∈ wsL_law := wl_3 _ (List.mem_of_getElem? (i := 1) rfl)
set_option maxRecDepth 20000 in
theorem wq_3_2 : Cond.instanceMethod yX2_init ∈ wsL_law := wl_3 _ (List.mem_of_getElem? (i := 2) rfl)
set_option maxRecDepth 20000 in
theorem wq_3_3 : Cond.code yX2_init cX2_init 2 none ∈ wsL_law := wl_3 _ (List.mem_of_getElem? (i := 3) rfl)
set_option maxRecDepth 20000 in
theorem wq_3_4 : Cond.methodLink RX2 3 objectInit ∈ wsL_law := wl_3 _ (List.mem_of_getElem? (i := 4) rfl)
set_option maxRecDepth 20000 in
theorem wq_3_5 : Cond.classLink RX2 9 RX0 ∈ wsL_law := wl_3 _ (List.mem_of_getElem? (i := 5) rfl)
set_option maxRecDepth 20000 in
theorem wq_3_6 : Cond.fieldLink RX2 11 "CupFountain$State" "cups" "[LCupFountain$Cup;" ∈ wsL_law := wl_3 _ (List.mem_of_getElem? (i := 6) rfl)
set_option maxRecDepth 20000 in
theorem wq_3_7 : Cond.fieldLink RX2 17 "CupFountain$State" "tick" "I" ∈ wsL_law := wl_3 _ (List.mem_of_getElem? (i := 7) rfl)
set_option maxRecDepth 20000 in
theorem wq_3_8 : Cond.fieldLink RX2 21 "CupFountain$State" "spring" "I" ∈ wsL_law := wl_3 _ (List.mem_of_getElem? (i := 8) rfl)
set_option maxRecDepth 20000 in
theorem wq_3_9 : Cond.fieldLink RX2 24 "CupFountain$State" "comesBack" "I" ∈ wsL_law := wl_3 _ (List.mem_of_getElem? (i := 9) rfl)
set_option maxRecDepth 20000 in
theorem wq_3_10 : Cond.fieldLink RX2 27 "CupFountain$State" "day" "I" ∈ wsL_law := wl_3 _ (List.mem_of_getElem? (i := 10) rfl)
set_option maxRecDepth 20000 in
theorem wq_3_11 : Cond.fieldLink RX2 30 "CupFountain$State" "basin" "I" ∈ wsL_law := wl_3 _ (List.mem_of_getElem? (i := 11) rfl)
set_option maxRecDepth 20000 in
theorem wq_4_0 : Cond.fieldLink RX2 33 "CupFountain$State" "lost" "I" ∈ wsL_law := wl_4 _ (List.mem_of_getElem? (i := 0) rfl)
set_option maxRecDepth 20000 in
theorem wq_4_1 : Cond.fieldLink RX2 36 "CupFountain$State" "sprung" "I" ∈ wsL_law := wl_4 _ (List.mem_of_getElem? (i := 1) rfl)
set_option maxRecDepth 20000 in
theorem wq_4_2 : Cond.fieldLink RX2 39 "CupFountain$State" "filled" "I" ∈ wsL_law := wl_4 _ (List.mem_of_getElem? (i := 2) rfl)
set_option maxRecDepth 20000 in
theorem wq_4_3 : Cond.instantiable RX0 13 ∈ wsL_law := wl_4 _ (List.mem_of_getElem? (i := 3) rfl)
set_option maxRecDepth 20000 in
theorem wq_4_4 : Cond.initialized RX0 ∈ wsL_law := wl_4 _ (List.mem_of_getElem? (i := 4) rfl)
set_option maxRecDepth 20000 in
theorem wq_4_5 : Cond.methodLink RX2 42 yX0_init ∈ wsL_law := wl_4 _ (List.mem_of_getElem? (i := 5) rfl)
set_option maxRecDepth 20000 in
theorem wq_4_6 : Cond.instanceMethod yX0_init ∈ wsL_law := wl_4 _ (List.mem_of_getElem? (i := 6) rfl)
set_option maxRecDepth 20000 in
theorem wq_4_7 : Cond.code yX0_init cX0_init 2 none ∈ wsL_law := wl_4 _ (List.mem_of_getElem? (i := 7) rfl)
set_option maxRecDepth 20000 in
theorem wq_4_8 : Cond.methodLink RX0 3 objectInit ∈ wsL_law := wl_4 _ (List.mem_of_getElem? (i := 8) rfl)
set_option maxRecDepth 20000 in
theorem wq_4_9 : Cond.fieldLink RX0 9 "CupFountain$Cup" "size" "I" ∈ wsL_law := wl_4 _ (List.mem_of_getElem? (i := 9) rfl)
set_option maxRecDepth 20000 in
theorem wq_4_10 : Cond.fieldLink RX0 15 "CupFountain$Cup" "leak" "I" ∈ wsL_law := wl_4 _ (List.mem_of_getElem? (i := 10) rfl)
set_option maxRecDepth 20000 in
theorem wq_4_11 : Cond.fieldLink RX0 18 "CupFountain$Cup" "water" "I" ∈ wsL_law := wl_4 _ (List.mem_of_getElem? (i := 11) rfl)
set_option maxRecDepth 20000 in
theorem wq_5_0 : Cond.fieldLink RX0 21 "CupFountain$Cup" "hour" "I" ∈ wsL_law := wl_5 _ (List.mem_of_getElem? (i := 0) rfl)
set_option maxRecDepth 20000 in
theorem wq_5_1 : Cond.fieldLink RX0 24 "CupFountain$Cup" "open" "Z" ∈ wsL_law := wl_5 _ (List.mem_of_getElem? (i := 1) rfl)
set_option maxRecDepth 20000 in
theorem wq_5_2 : Cond.fieldLink RX0 28 "CupFountain$Cup" "guarded" "Z" ∈ wsL_law := wl_5 _ (List.mem_of_getElem? (i := 2) rfl)
set_option maxRecDepth 20000 in
theorem wq_5_3 : Cond.fieldLink RX0 31 "CupFountain$Cup" "jet" "I" ∈ wsL_law := wl_5 _ (List.mem_of_getElem? (i := 3) rfl)
set_option maxRecDepth 20000 in
theorem wq_5_4 : Cond.fieldLink RX0 34 "CupFountain$Cup" "tips" "I" ∈ wsL_law := wl_5 _ (List.mem_of_getElem? (i := 4) rfl)
set_option maxRecDepth 20000 in
theorem wq_5_5 : Cond.fieldLink RX0 37 "CupFountain$Cup" "onTime" "I" ∈ wsL_law := wl_5 _ (List.mem_of_getElem? (i := 5) rfl)
set_option maxRecDepth 20000 in
theorem wq_5_6 : Cond.fieldLink RX0 40 "CupFountain$Cup" "early" "I" ∈ wsL_law := wl_5 _ (List.mem_of_getElem? (i := 6) rfl)
set_option maxRecDepth 20000 in
theorem wq_5_7 : Cond.fieldLink RX0 43 "CupFountain$Cup" "late" "I" ∈ wsL_law := wl_5 _ (List.mem_of_getElem? (i := 7) rfl)
set_option maxRecDepth 20000 in
theorem wq_5_8 : Cond.fieldLink RX0 46 "CupFountain$Cup" "ready" "I" ∈ wsL_law := wl_5 _ (List.mem_of_getElem? (i := 8) rfl)
set_option maxRecDepth 20000 in
theorem wq_5_9 : Cond.fieldLink RX0 49 "CupFountain$Cup" "next" "I" ∈ wsL_law := wl_5 _ (List.mem_of_getElem? (i := 9) rfl)
set_option maxRecDepth 20000 in
theorem wq_5_10 : Cond.instanceMethod yX1_init ∈ wsL_law := wl_5 _ (List.mem_of_getElem? (i := 10) rfl)
set_option maxRecDepth 20000 in
theorem wq_5_11 : Cond.code yX1_init cX1_init 1 none ∈ wsL_law := wl_5 _ (List.mem_of_getElem? (i := 11) rfl)
set_option maxRecDepth 20000 in
theorem wq_6_0 : Cond.methodLink RX1 3 objectInit ∈ wsL_law := wl_6 _ (List.mem_of_getElem? (i := 0) rfl)
set_option maxRecDepth 20000 in
theorem wq_6_1 : Cond.arrayClass .char ∈ wsL_law := wl_6 _ (List.mem_of_getElem? (i := 1) rfl)
set_option maxRecDepth 20000 in
theorem wq_6_2 : Cond.fieldLink RX1 9 "CupFountain$Plan" "text" "[C" ∈ wsL_law := wl_6 _ (List.mem_of_getElem? (i := 2) rfl)
set_option maxRecDepth 20000 in
theorem wq_6_3 : Cond.fieldLink RX1 15 "CupFountain$Plan" "length" "I" ∈ wsL_law := wl_6 _ (List.mem_of_getElem? (i := 3) rfl)
set_option maxRecDepth 20000 in
theorem wq_6_4 : Cond.arrayClass .int ∈ wsL_law := wl_6 _ (List.mem_of_getElem? (i := 4) rfl)
set_option maxRecDepth 20000 in
theorem wq_6_5 : Cond.fieldLink RX1 19 "CupFountain$Plan" "kinds" "[I" ∈ wsL_law := wl_6 _ (List.mem_of_getElem? (i := 5) rfl)
set_option maxRecDepth 20000 in
theorem wq_6_6 : Cond.fieldLink RX1 23 "CupFountain$Plan" "whose" "[I" ∈ wsL_law := wl_6 _ (List.mem_of_getElem? (i := 6) rfl)
set_option maxRecDepth 20000 in
theorem wq_6_7 : Cond.fieldLink RX1 26 "CupFountain$Plan" "numbers" "[I" ∈ wsL_law := wl_6 _ (List.mem_of_getElem? (i := 7) rfl)
set_option maxRecDepth 20000 in
theorem wq_6_8 : Cond.fieldLink RX1 29 "CupFountain$Plan" "things" "I" ∈ wsL_law := wl_6 _ (List.mem_of_getElem? (i := 8) rfl)
set_option maxRecDepth 20000 in
theorem wq_6_9 : Cond.fieldLink RX1 32 "CupFountain$Plan" "place" "I" ∈ wsL_law := wl_6 _ (List.mem_of_getElem? (i := 9) rfl)
set_option maxRecDepth 20000 in
theorem wq_6_10 : Cond.methodLink RL 96 yL_holds ∈ wsL_law := wl_6 _ (List.mem_of_getElem? (i := 10) rfl)
set_option maxRecDepth 20000 in
theorem wq_6_11 : Cond.static yL_holds ∈ wsL_law := wl_6 _ (List.mem_of_getElem? (i := 11) rfl)
set_option maxRecDepth 20000 in
theorem wq_7_0 : Cond.initialized RL ∈ wsL_law := wl_7 _ (List.mem_of_getElem? (i := 0) rfl)
set_option maxRecDepth 20000 in
theorem wq_7_1 : Cond.methodLink RL 16 yX3_highest ∈ wsL_law := wl_7 _ (List.mem_of_getElem? (i := 1) rfl)
set_option maxRecDepth 20000 in
theorem wq_7_2 : Cond.instanceMethod yX3_highest ∈ wsL_law := wl_7 _ (List.mem_of_getElem? (i := 2) rfl)
set_option maxRecDepth 20000 in
theorem wq_7_3 : Cond.selects RX3 yX3_highest yX3_highest ∈ wsL_law := wl_7 _ (List.mem_of_getElem? (i := 3) rfl)
set_option maxRecDepth 20000 in
theorem wq_7_4 : Cond.code yX3_highest cX3_highest 4 (some .int) ∈ wsL_law := wl_7 _ (List.mem_of_getElem? (i := 4) rfl)
set_option maxRecDepth 20000 in
theorem wq_7_5 : Cond.fieldLink RX3 146 "CupFountain$State" "cups" "[LCupFountain$Cup;" ∈ wsL_law := wl_7 _ (List.mem_of_getElem? (i := 5) rfl)
set_option maxRecDepth 20000 in
theorem wq_7_6 : Cond.fieldLink RX3 164 "CupFountain$Cup" "jet" "I" ∈ wsL_law := wl_7 _ (List.mem_of_getElem? (i := 6) rfl)
set_option maxRecDepth 20000 in
theorem wq_7_7 : Cond.methodLink RL 10 yX3_cup ∈ wsL_law := wl_7 _ (List.mem_of_getElem? (i := 7) rfl)
set_option maxRecDepth 20000 in
theorem wq_7_8 : Cond.instanceMethod yX3_cup ∈ wsL_law := wl_7 _ (List.mem_of_getElem? (i := 8) rfl)
set_option maxRecDepth 20000 in
theorem wq_7_9 : Cond.selects RX3 yX3_cup yX3_cup ∈ wsL_law := wl_7 _ (List.mem_of_getElem? (i := 9) rfl)
set_option maxRecDepth 20000 in
theorem wq_7_10 : Cond.code yX3_cup cX3_cup 4 (some .int) ∈ wsL_law := wl_7 _ (List.mem_of_getElem? (i := 10) rfl)
set_option maxRecDepth 20000 in
theorem wq_7_11 : Cond.methodLink RX3 110 yX2_find ∈ wsL_law := wl_7 _ (List.mem_of_getElem? (i := 11) rfl)
set_option maxRecDepth 20000 in
theorem wq_8_0 : Cond.instanceMethod yX2_find ∈ wsL_law := wl_8 _ (List.mem_of_getElem? (i := 0) rfl)
set_option maxRecDepth 20000 in
theorem wq_8_1 : Cond.selects RX2 yX2_find yX2_find ∈ wsL_law := wl_8 _ (List.mem_of_getElem? (i := 1) rfl)
set_option maxRecDepth 20000 in
theorem wq_8_2 : Cond.code yX2_find cX2_find 2 (some (.object "CupFountain$Cup")) ∈ wsL_law := wl_8 _ (List.mem_of_getElem? (i := 2) rfl)
set_option maxRecDepth 20000 in
theorem wq_8_3 : Cond.methodLink RX3 114 yX0_tell ∈ wsL_law := wl_8 _ (List.mem_of_getElem? (i := 3) rfl)
set_option maxRecDepth 20000 in
theorem wq_8_4 : Cond.instanceMethod yX0_tell ∈ wsL_law := wl_8 _ (List.mem_of_getElem? (i := 4) rfl)
set_option maxRecDepth 20000 in
theorem wq_8_5 : Cond.selects RX0 yX0_tell yX0_tell ∈ wsL_law := wl_8 _ (List.mem_of_getElem? (i := 5) rfl)
set_option maxRecDepth 20000 in
theorem wq_8_6 : Cond.code yX0_tell cX0_tell 2 (some .int) ∈ wsL_law := wl_8 _ (List.mem_of_getElem? (i := 6) rfl)
set_option maxRecDepth 20000 in
theorem wq_8_7 : Cond.static yX3_asNumber ∈ wsL_law := wl_8 _ (List.mem_of_getElem? (i := 7) rfl)
set_option maxRecDepth 20000 in
theorem wq_8_8 : Cond.code yX3_asNumber cX3_asNumber 1 (some .int) ∈ wsL_law := wl_8 _ (List.mem_of_getElem? (i := 8) rfl)
set_option maxRecDepth 20000 in
theorem wq_8_9 : Cond.methodLink RL 20 yL_isCup ∈ wsL_law := wl_8 _ (List.mem_of_getElem? (i := 9) rfl)
set_option maxRecDepth 20000 in
theorem wq_8_10 : Cond.static yL_isCup ∈ wsL_law := wl_8 _ (List.mem_of_getElem? (i := 10) rfl)
set_option maxRecDepth 20000 in
theorem wq_8_11 : Cond.methodLink RL 26 yX3_count ∈ wsL_law := wl_8 _ (List.mem_of_getElem? (i := 11) rfl)
set_option maxRecDepth 20000 in
theorem wq_9_0 : Cond.instanceMethod yX3_count ∈ wsL_law := wl_9 _ (List.mem_of_getElem? (i := 0) rfl)
set_option maxRecDepth 20000 in
theorem wq_9_1 : Cond.selects RX3 yX3_count yX3_count ∈ wsL_law := wl_9 _ (List.mem_of_getElem? (i := 1) rfl)
set_option maxRecDepth 20000 in
theorem wq_9_2 : Cond.code yX3_count cX3_count 2 (some .int) ∈ wsL_law := wl_9 _ (List.mem_of_getElem? (i := 2) rfl)
set_option maxRecDepth 20000 in
theorem wq_9_3 : Cond.fieldLink RX3 167 "CupFountain$Plan" "length" "I" ∈ wsL_law := wl_9 _ (List.mem_of_getElem? (i := 3) rfl)
set_option maxRecDepth 20000 in
theorem wq_9_4 : Cond.methodLink RX3 170 yX2_tell ∈ wsL_law := wl_9 _ (List.mem_of_getElem? (i := 4) rfl)
set_option maxRecDepth 20000 in
theorem wq_9_5 : Cond.instanceMethod yX2_tell ∈ wsL_law := wl_9 _ (List.mem_of_getElem? (i := 5) rfl)
set_option maxRecDepth 20000 in
theorem wq_9_6 : Cond.selects RX2 yX2_tell yX2_tell ∈ wsL_law := wl_9 _ (List.mem_of_getElem? (i := 6) rfl)
set_option maxRecDepth 20000 in
theorem wq_9_7 : Cond.code yX2_tell cX2_tell 2 (some .int) ∈ wsL_law := wl_9 _ (List.mem_of_getElem? (i := 7) rfl)
set_option maxRecDepth 20000 in
theorem wq_9_8 : Cond.methodLink RX2 101 yX2_hourOf ∈ wsL_law := wl_9 _ (List.mem_of_getElem? (i := 8) rfl)
set_option maxRecDepth 20000 in
theorem wq_9_9 : Cond.instanceMethod yX2_hourOf ∈ wsL_law := wl_9 _ (List.mem_of_getElem? (i := 9) rfl)
set_option maxRecDepth 20000 in
theorem wq_9_10 : Cond.selects RX2 yX2_hourOf yX2_hourOf ∈ wsL_law := wl_9 _ (List.mem_of_getElem? (i := 10) rfl)
set_option maxRecDepth 20000 in
theorem wq_9_11 : Cond.code yX2_hourOf cX2_hourOf 2 (some .int) ∈ wsL_law := wl_9 _ (List.mem_of_getElem? (i := 11) rfl)
set_option maxRecDepth 20000 in
theorem wq_10_0 : Cond.methodLink RX2 138 yX2_sumOf ∈ wsL_law := wl_10 _ (List.mem_of_getElem? (i := 0) rfl)
set_option maxRecDepth 20000 in
theorem wq_10_1 : Cond.instanceMethod yX2_sumOf ∈ wsL_law := wl_10 _ (List.mem_of_getElem? (i := 1) rfl)
set_option maxRecDepth 20000 in
theorem wq_10_2 : Cond.selects RX2 yX2_sumOf yX2_sumOf ∈ wsL_law := wl_10 _ (List.mem_of_getElem? (i := 2) rfl)
set_option maxRecDepth 20000 in
theorem wq_10_3 : Cond.code yX2_sumOf cX2_sumOf 4 (some .int) ∈ wsL_law := wl_10 _ (List.mem_of_getElem? (i := 3) rfl)
set_option maxRecDepth 20000 in
theorem wq_10_4 : Cond.methodLink RX2 57 yX0_tell ∈ wsL_law := wl_10 _ (List.mem_of_getElem? (i := 4) rfl)
set_option maxRecDepth 20000 in
theorem wq_10_5 : Cond.methodLink RX2 141 yX2_sumFull ∈ wsL_law := wl_10 _ (List.mem_of_getElem? (i := 5) rfl)
set_option maxRecDepth 20000 in
theorem wq_10_6 : Cond.instanceMethod yX2_sumFull ∈ wsL_law := wl_10 _ (List.mem_of_getElem? (i := 6) rfl)
set_option maxRecDepth 20000 in
theorem wq_10_7 : Cond.selects RX2 yX2_sumFull yX2_sumFull ∈ wsL_law := wl_10 _ (List.mem_of_getElem? (i := 7) rfl)
set_option maxRecDepth 20000 in
theorem wq_10_8 : Cond.code yX2_sumFull cX2_sumFull 3 (some .int) ∈ wsL_law := wl_10 _ (List.mem_of_getElem? (i := 8) rfl)
set_option maxRecDepth 20000 in
theorem wq_10_9 : Cond.methodLink RX2 144 yX0_isFull ∈ wsL_law := wl_10 _ (List.mem_of_getElem? (i := 9) rfl)
set_option maxRecDepth 20000 in
theorem wq_10_10 : Cond.instanceMethod yX0_isFull ∈ wsL_law := wl_10 _ (List.mem_of_getElem? (i := 10) rfl)
set_option maxRecDepth 20000 in
theorem wq_10_11 : Cond.selects RX0 yX0_isFull yX0_isFull ∈ wsL_law := wl_10 _ (List.mem_of_getElem? (i := 11) rfl)
set_option maxRecDepth 20000 in
theorem wq_11_0 : Cond.code yX0_isFull cX0_isFull 1 (some .boolean) ∈ wsL_law := wl_11 _ (List.mem_of_getElem? (i := 0) rfl)
set_option maxRecDepth 20000 in
theorem wq_11_1 : Cond.methodLink RX2 90 yX2_tellSetting ∈ wsL_law := wl_11 _ (List.mem_of_getElem? (i := 1) rfl)
set_option maxRecDepth 20000 in
theorem wq_11_2 : Cond.instanceMethod yX2_tellSetting ∈ wsL_law := wl_11 _ (List.mem_of_getElem? (i := 2) rfl)
set_option maxRecDepth 20000 in
theorem wq_11_3 : Cond.selects RX2 yX2_tellSetting yX2_tellSetting ∈ wsL_law := wl_11 _ (List.mem_of_getElem? (i := 3) rfl)
set_option maxRecDepth 20000 in
theorem wq_11_4 : Cond.code yX2_tellSetting cX2_tellSetting 2 (some .int) ∈ wsL_law := wl_11 _ (List.mem_of_getElem? (i := 4) rfl)
set_option maxRecDepth 20000 in
theorem wq_11_5 : Cond.methodLink RL 45 yX3_starving ∈ wsL_law := wl_11 _ (List.mem_of_getElem? (i := 5) rfl)
set_option maxRecDepth 20000 in
theorem wq_11_6 : Cond.instanceMethod yX3_starving ∈ wsL_law := wl_11 _ (List.mem_of_getElem? (i := 6) rfl)
set_option maxRecDepth 20000 in
theorem wq_11_7 : Cond.selects RX3 yX3_starving yX3_starving ∈ wsL_law := wl_11 _ (List.mem_of_getElem? (i := 7) rfl)
set_option maxRecDepth 20000 in
theorem wq_11_8 : Cond.code yX3_starving cX3_starving 2 (some .int) ∈ wsL_law := wl_11 _ (List.mem_of_getElem? (i := 8) rfl)
set_option maxRecDepth 20000 in
theorem wq_11_9 : Cond.fieldLink RX3 122 "CupFountain$Cup" "tips" "I" ∈ wsL_law := wl_11 _ (List.mem_of_getElem? (i := 9) rfl)
set_option maxRecDepth 20000 in
theorem wq_11_10 : Cond.methodLink RX3 50 yX2_copyFrom ∈ wsL_law := wl_11 _ (List.mem_of_getElem? (i := 10) rfl)
set_option maxRecDepth 20000 in
theorem wq_11_11 : Cond.instanceMethod yX2_copyFrom ∈ wsL_law := wl_11 _ (List.mem_of_getElem? (i := 11) rfl)
set_option maxRecDepth 20000 in
theorem wq_12_0 : Cond.selects RX2 yX2_copyFrom yX2_copyFrom ∈ wsL_law := wl_12 _ (List.mem_of_getElem? (i := 0) rfl)
set_option maxRecDepth 20000 in
theorem wq_12_1 : Cond.code yX2_copyFrom cX2_copyFrom 3 none ∈ wsL_law := wl_12 _ (List.mem_of_getElem? (i := 1) rfl)
set_option maxRecDepth 20000 in
theorem wq_12_2 : Cond.methodLink RX2 45 yX0_copyFrom ∈ wsL_law := wl_12 _ (List.mem_of_getElem? (i := 2) rfl)
set_option maxRecDepth 20000 in
theorem wq_12_3 : Cond.instanceMethod yX0_copyFrom ∈ wsL_law := wl_12 _ (List.mem_of_getElem? (i := 3) rfl)
set_option maxRecDepth 20000 in
theorem wq_12_4 : Cond.selects RX0 yX0_copyFrom yX0_copyFrom ∈ wsL_law := wl_12 _ (List.mem_of_getElem? (i := 4) rfl)
set_option maxRecDepth 20000 in
theorem wq_12_5 : Cond.code yX0_copyFrom cX0_copyFrom 2 none ∈ wsL_law := wl_12 _ (List.mem_of_getElem? (i := 5) rfl)
set_option maxRecDepth 20000 in
theorem wq_12_6 : Cond.methodLink RX3 143 yX2_tickOn ∈ wsL_law := wl_12 _ (List.mem_of_getElem? (i := 6) rfl)
set_option maxRecDepth 20000 in
theorem wq_12_7 : Cond.instanceMethod yX2_tickOn ∈ wsL_law := wl_12 _ (List.mem_of_getElem? (i := 7) rfl)
set_option maxRecDepth 20000 in
theorem wq_12_8 : Cond.selects RX2 yX2_tickOn yX2_tickOn ∈ wsL_law := wl_12 _ (List.mem_of_getElem? (i := 8) rfl)
set_option maxRecDepth 20000 in
theorem wq_12_9 : Cond.code yX2_tickOn cX2_tickOn 4 (some .int) ∈ wsL_law := wl_12 _ (List.mem_of_getElem? (i := 9) rfl)
set_option maxRecDepth 20000 in
theorem wq_12_10 : Cond.methodLink RX2 97 yX2_tickOnce ∈ wsL_law := wl_12 _ (List.mem_of_getElem? (i := 10) rfl)
set_option maxRecDepth 20000 in
theorem wq_12_11 : Cond.instanceMethod yX2_tickOnce ∈ wsL_law := wl_12 _ (List.mem_of_getElem? (i := 11) rfl)
set_option maxRecDepth 20000 in
theorem wq_13_0 : Cond.selects RX2 yX2_tickOnce yX2_tickOnce ∈ wsL_law := wl_13 _ (List.mem_of_getElem? (i := 0) rfl)
set_option maxRecDepth 20000 in
theorem wq_13_1 : Cond.code yX2_tickOnce cX2_tickOnce 4 (some .int) ∈ wsL_law := wl_13 _ (List.mem_of_getElem? (i := 1) rfl)
set_option maxRecDepth 20000 in
theorem wq_13_2 : Cond.methodLink RX2 104 yX2_openGuarded ∈ wsL_law := wl_13 _ (List.mem_of_getElem? (i := 2) rfl)
set_option maxRecDepth 20000 in
theorem wq_13_3 : Cond.instanceMethod yX2_openGuarded ∈ wsL_law := wl_13 _ (List.mem_of_getElem? (i := 3) rfl)
set_option maxRecDepth 20000 in
theorem wq_13_4 : Cond.selects RX2 yX2_openGuarded yX2_openGuarded ∈ wsL_law := wl_13 _ (List.mem_of_getElem? (i := 4) rfl)
set_option maxRecDepth 20000 in
theorem wq_13_5 : Cond.code yX2_openGuarded cX2_openGuarded 3 none ∈ wsL_law := wl_13 _ (List.mem_of_getElem? (i := 5) rfl)
set_option maxRecDepth 20000 in
theorem wq_13_6 : Cond.fieldLink RX2 73 "CupFountain$Cup" "guarded" "Z" ∈ wsL_law := wl_13 _ (List.mem_of_getElem? (i := 6) rfl)
set_option maxRecDepth 20000 in
theorem wq_13_7 : Cond.fieldLink RX2 84 "CupFountain$Cup" "hour" "I" ∈ wsL_law := wl_13 _ (List.mem_of_getElem? (i := 7) rfl)
set_option maxRecDepth 20000 in
theorem wq_13_8 : Cond.fieldLink RX2 77 "CupFountain$Cup" "open" "Z" ∈ wsL_law := wl_13 _ (List.mem_of_getElem? (i := 8) rfl)
set_option maxRecDepth 20000 in
theorem wq_13_9 : Cond.methodLink RX2 107 yX2_springs ∈ wsL_law := wl_13 _ (List.mem_of_getElem? (i := 9) rfl)
set_option maxRecDepth 20000 in
theorem wq_13_10 : Cond.instanceMethod yX2_springs ∈ wsL_law := wl_13 _ (List.mem_of_getElem? (i := 10) rfl)
set_option maxRecDepth 20000 in
theorem wq_13_11 : Cond.selects RX2 yX2_springs yX2_springs ∈ wsL_law := wl_13 _ (List.mem_of_getElem? (i := 11) rfl)
set_option maxRecDepth 20000 in
theorem wq_14_0 : Cond.code yX2_springs cX2_springs 2 none ∈ wsL_law := wl_14 _ (List.mem_of_getElem? (i := 0) rfl)
set_option maxRecDepth 20000 in
theorem wq_14_1 : Cond.methodLink RX2 120 Lib.Math.min.name ∈ wsL_law := wl_14 _ (List.mem_of_getElem? (i := 1) rfl)
set_option maxRecDepth 20000 in
theorem wq_14_2 : Cond.static Lib.Math.min.name ∈ wsL_law := wl_14 _ (List.mem_of_getElem? (i := 2) rfl)
set_option maxRecDepth 20000 in
theorem wq_14_3 : Cond.initialized "java/lang/Math" ∈ wsL_law := wl_14 _ (List.mem_of_getElem? (i := 3) rfl)
set_option maxRecDepth 20000 in
theorem wq_14_4 : Cond.code Lib.Math.min.name Lib.Math.min.code 2 (some .int) ∈ wsL_law := wl_14 _ (List.mem_of_getElem? (i := 4) rfl)
set_option maxRecDepth 20000 in
theorem wq_14_5 : Cond.fieldLink RX2 87 "CupFountain$Cup" "water" "I" ∈ wsL_law := wl_14 _ (List.mem_of_getElem? (i := 5) rfl)
set_option maxRecDepth 20000 in
theorem wq_14_6 : Cond.methodLink RX2 110 yX2_tipOrKeep ∈ wsL_law := wl_14 _ (List.mem_of_getElem? (i := 6) rfl)
set_option maxRecDepth 20000 in
theorem wq_14_7 : Cond.instanceMethod yX2_tipOrKeep ∈ wsL_law := wl_14 _ (List.mem_of_getElem? (i := 7) rfl)
set_option maxRecDepth 20000 in
theorem wq_14_8 : Cond.selects RX2 yX2_tipOrKeep yX2_tipOrKeep ∈ wsL_law := wl_14 _ (List.mem_of_getElem? (i := 8) rfl)
set_option maxRecDepth 20000 in
theorem wq_14_9 : Cond.code yX2_tipOrKeep cX2_tipOrKeep 5 (some .int) ∈ wsL_law := wl_14 _ (List.mem_of_getElem? (i := 9) rfl)
set_option maxRecDepth 20000 in
theorem wq_14_10 : Cond.fieldLink RX2 126 "CupFountain$Cup" "ready" "I" ∈ wsL_law := wl_14 _ (List.mem_of_getElem? (i := 10) rfl)
set_option maxRecDepth 20000 in
theorem wq_14_11 : Cond.fieldLink RX2 61 "CupFountain$Cup" "size" "I" ∈ wsL_law := wl_14 _ (List.mem_of_getElem? (i := 11) rfl)
set_option maxRecDepth 20000 in
theorem wq_15_0 : Cond.fieldLink RX2 129 "CupFountain$Cup" "jet" "I" ∈ wsL_law := wl_15 _ (List.mem_of_getElem? (i := 0) rfl)
set_option maxRecDepth 20000 in
theorem wq_15_1 : Cond.fieldLink RX2 67 "CupFountain$Cup" "next" "I" ∈ wsL_law := wl_15 _ (List.mem_of_getElem? (i := 1) rfl)
set_option maxRecDepth 20000 in
theorem wq_15_2 : Cond.methodLink RX2 132 yX0_runOver ∈ wsL_law := wl_15 _ (List.mem_of_getElem? (i := 2) rfl)
set_option maxRecDepth 20000 in
theorem wq_15_3 : Cond.instanceMethod yX0_runOver ∈ wsL_law := wl_15 _ (List.mem_of_getElem? (i := 3) rfl)
set_option maxRecDepth 20000 in
theorem wq_15_4 : Cond.selects RX0 yX0_runOver yX0_runOver ∈ wsL_law := wl_15 _ (List.mem_of_getElem? (i := 4) rfl)
set_option maxRecDepth 20000 in
theorem wq_15_5 : Cond.code yX0_runOver cX0_runOver 2 (some .int) ∈ wsL_law := wl_15 _ (List.mem_of_getElem? (i := 5) rfl)
set_option maxRecDepth 20000 in
theorem wq_15_6 : Cond.methodLink RX2 135 yX0_tip ∈ wsL_law := wl_15 _ (List.mem_of_getElem? (i := 6) rfl)
set_option maxRecDepth 20000 in
theorem wq_15_7 : Cond.instanceMethod yX0_tip ∈ wsL_law := wl_15 _ (List.mem_of_getElem? (i := 7) rfl)
set_option maxRecDepth 20000 in
theorem wq_15_8 : Cond.selects RX0 yX0_tip yX0_tip ∈ wsL_law := wl_15 _ (List.mem_of_getElem? (i := 8) rfl)
set_option maxRecDepth 20000 in
theorem wq_15_9 : Cond.code yX0_tip cX0_tip 4 (some .int) ∈ wsL_law := wl_15 _ (List.mem_of_getElem? (i := 9) rfl)
set_option maxRecDepth 20000 in
theorem wq_15_10 : Cond.methodLink RX2 49 yX2_find ∈ wsL_law := wl_15 _ (List.mem_of_getElem? (i := 10) rfl)
set_option maxRecDepth 20000 in
theorem wq_15_11 : Cond.methodLink RX2 114 yX0_drip ∈ wsL_law := wl_15 _ (List.mem_of_getElem? (i := 11) rfl)
set_option maxRecDepth 20000 in
theorem wq_16_0 : Cond.instanceMethod yX0_drip ∈ wsL_law := wl_16 _ (List.mem_of_getElem? (i := 0) rfl)
set_option maxRecDepth 20000 in
theorem wq_16_1 : Cond.selects RX0 yX0_drip yX0_drip ∈ wsL_law := wl_16 _ (List.mem_of_getElem? (i := 1) rfl)
set_option maxRecDepth 20000 in
theorem wq_16_2 : Cond.code yX0_drip cX0_drip 2 (some .int) ∈ wsL_law := wl_16 _ (List.mem_of_getElem? (i := 2) rfl)
set_option maxRecDepth 20000 in
theorem wq_16_3 : Cond.methodLink RX0 52 Lib.Math.min.name ∈ wsL_law := wl_16 _ (List.mem_of_getElem? (i := 3) rfl)
set_option maxRecDepth 20000 in
theorem wq_16_4 : Cond.methodLink RX2 117 yX2_shutGuarded ∈ wsL_law := wl_16 _ (List.mem_of_getElem? (i := 4) rfl)
set_option maxRecDepth 20000 in
theorem wq_16_5 : Cond.instanceMethod yX2_shutGuarded ∈ wsL_law := wl_16 _ (List.mem_of_getElem? (i := 5) rfl)
set_option maxRecDepth 20000 in
theorem wq_16_6 : Cond.selects RX2 yX2_shutGuarded yX2_shutGuarded ∈ wsL_law := wl_16 _ (List.mem_of_getElem? (i := 6) rfl)
set_option maxRecDepth 20000 in
theorem wq_16_7 : Cond.code yX2_shutGuarded cX2_shutGuarded 2 none ∈ wsL_law := wl_16 _ (List.mem_of_getElem? (i := 7) rfl)
set_option maxRecDepth 20000 in
theorem wq_16_8 : Cond.methodLink RL 99 yL_cell ∈ wsL_law := wl_16 _ (List.mem_of_getElem? (i := 8) rfl)
set_option maxRecDepth 20000 in
theorem wq_16_9 : Cond.static yL_cell ∈ wsL_law := wl_16 _ (List.mem_of_getElem? (i := 9) rfl)
set_option maxRecDepth 20000 in
theorem wq_16_10 : Cond.methodLink RL 103 yL_act ∈ wsL_law := wl_16 _ (List.mem_of_getElem? (i := 10) rfl)
set_option maxRecDepth 20000 in
theorem wq_16_11 : Cond.static yL_act ∈ wsL_law := wl_16 _ (List.mem_of_getElem? (i := 11) rfl)
set_option maxRecDepth 20000 in
theorem wq_17_0 : Cond.methodLink RL 58 yL_low ∈ wsL_law := wl_17 _ (List.mem_of_getElem? (i := 0) rfl)
set_option maxRecDepth 20000 in
theorem wq_17_1 : Cond.static yL_low ∈ wsL_law := wl_17 _ (List.mem_of_getElem? (i := 1) rfl)
set_option maxRecDepth 20000 in
theorem wq_17_2 : Cond.methodLink RL 64 yL_ifs ∈ wsL_law := wl_17 _ (List.mem_of_getElem? (i := 2) rfl)
set_option maxRecDepth 20000 in
theorem wq_17_3 : Cond.static yL_ifs ∈ wsL_law := wl_17 _ (List.mem_of_getElem? (i := 3) rfl)
set_option maxRecDepth 20000 in
theorem wq_17_4 : Cond.methodLink RL 61 yX3_ifTicks ∈ wsL_law := wl_17 _ (List.mem_of_getElem? (i := 4) rfl)
set_option maxRecDepth 20000 in
theorem wq_17_5 : Cond.instanceMethod yX3_ifTicks ∈ wsL_law := wl_17 _ (List.mem_of_getElem? (i := 5) rfl)
set_option maxRecDepth 20000 in
theorem wq_17_6 : Cond.selects RX3 yX3_ifTicks yX3_ifTicks ∈ wsL_law := wl_17 _ (List.mem_of_getElem? (i := 6) rfl)
set_option maxRecDepth 20000 in
theorem wq_17_7 : Cond.code yX3_ifTicks cX3_ifTicks 4 (some .int) ∈ wsL_law := wl_17 _ (List.mem_of_getElem? (i := 7) rfl)
set_option maxRecDepth 20000 in
theorem wq_17_8 : Cond.methodLink RX3 103 yX3_isWithin ∈ wsL_law := wl_17 _ (List.mem_of_getElem? (i := 8) rfl)
set_option maxRecDepth 20000 in
theorem wq_17_9 : Cond.static yX3_isWithin ∈ wsL_law := wl_17 _ (List.mem_of_getElem? (i := 9) rfl)
set_option maxRecDepth 20000 in
theorem wq_17_10 : Cond.code yX3_isWithin cX3_isWithin 3 (some .boolean) ∈ wsL_law := wl_17 _ (List.mem_of_getElem? (i := 10) rfl)
set_option maxRecDepth 20000 in
theorem wq_17_11 : Cond.methodLink RX3 161 yX2_sumOf ∈ wsL_law := wl_17 _ (List.mem_of_getElem? (i := 11) rfl)
set_option maxRecDepth 20000 in
theorem wq_18_0 : Cond.methodLink RL 36 yX3_pass ∈ wsL_law := wl_18 _ (List.mem_of_getElem? (i := 0) rfl)
set_option maxRecDepth 20000 in
theorem wq_18_1 : Cond.instanceMethod yX3_pass ∈ wsL_law := wl_18 _ (List.mem_of_getElem? (i := 1) rfl)
set_option maxRecDepth 20000 in
theorem wq_18_2 : Cond.selects RX3 yX3_pass yX3_pass ∈ wsL_law := wl_18 _ (List.mem_of_getElem? (i := 2) rfl)
set_option maxRecDepth 20000 in
theorem wq_18_3 : Cond.code yX3_pass cX3_pass 2 (some .int) ∈ wsL_law := wl_18 _ (List.mem_of_getElem? (i := 3) rfl)
set_option maxRecDepth 20000 in
theorem wq_18_4 : Cond.methodLink RX3 78 yX2_letPass ∈ wsL_law := wl_18 _ (List.mem_of_getElem? (i := 4) rfl)
set_option maxRecDepth 20000 in
theorem wq_18_5 : Cond.instanceMethod yX2_letPass ∈ wsL_law := wl_18 _ (List.mem_of_getElem? (i := 5) rfl)
set_option maxRecDepth 20000 in
theorem wq_18_6 : Cond.selects RX2 yX2_letPass yX2_letPass ∈ wsL_law := wl_18 _ (List.mem_of_getElem? (i := 6) rfl)
set_option maxRecDepth 20000 in
theorem wq_18_7 : Cond.code yX2_letPass cX2_letPass 2 (some .int) ∈ wsL_law := wl_18 _ (List.mem_of_getElem? (i := 7) rfl)
set_option maxRecDepth 20000 in
theorem wq_18_8 : Cond.constant RX2 93 (99999) ∈ wsL_law := wl_18 _ (List.mem_of_getElem? (i := 8) rfl)
set_option maxRecDepth 20000 in
theorem wq_18_9 : Cond.methodLink RX2 94 yX2_tickOn ∈ wsL_law := wl_18 _ (List.mem_of_getElem? (i := 9) rfl)
set_option maxRecDepth 20000 in
theorem wq_18_10 : Cond.methodLink RX3 58 yX3_recorded ∈ wsL_law := wl_18 _ (List.mem_of_getElem? (i := 10) rfl)
set_option maxRecDepth 20000 in
theorem wq_18_11 : Cond.instanceMethod yX3_recorded ∈ wsL_law := wl_18 _ (List.mem_of_getElem? (i := 11) rfl)
set_option maxRecDepth 20000 in
theorem wq_19_0 : Cond.selects RX3 yX3_recorded yX3_recorded ∈ wsL_law := wl_19 _ (List.mem_of_getElem? (i := 0) rfl)
set_option maxRecDepth 20000 in
theorem wq_19_1 : Cond.code yX3_recorded cX3_recorded 2 (some .int) ∈ wsL_law := wl_19 _ (List.mem_of_getElem? (i := 1) rfl)
set_option maxRecDepth 20000 in
theorem wq_19_2 : Cond.methodLink RX3 171 yX3_dropOldest ∈ wsL_law := wl_19 _ (List.mem_of_getElem? (i := 2) rfl)
set_option maxRecDepth 20000 in
theorem wq_19_3 : Cond.instanceMethod yX3_dropOldest ∈ wsL_law := wl_19 _ (List.mem_of_getElem? (i := 3) rfl)
set_option maxRecDepth 20000 in
theorem wq_19_4 : Cond.selects RX3 yX3_dropOldest yX3_dropOldest ∈ wsL_law := wl_19 _ (List.mem_of_getElem? (i := 4) rfl)
set_option maxRecDepth 20000 in
theorem wq_19_5 : Cond.code yX3_dropOldest cX3_dropOldest 3 none ∈ wsL_law := wl_19 _ (List.mem_of_getElem? (i := 5) rfl)
set_option maxRecDepth 20000 in
theorem wq_19_6 : Cond.methodLink RL 67 yL_ticks ∈ wsL_law := wl_19 _ (List.mem_of_getElem? (i := 6) rfl)
set_option maxRecDepth 20000 in
theorem wq_19_7 : Cond.static yL_ticks ∈ wsL_law := wl_19 _ (List.mem_of_getElem? (i := 7) rfl)
set_option maxRecDepth 20000 in
theorem wq_19_8 : Cond.methodLink RL 30 yX3_reason ∈ wsL_law := wl_19 _ (List.mem_of_getElem? (i := 8) rfl)
set_option maxRecDepth 20000 in
theorem wq_19_9 : Cond.instanceMethod yX3_reason ∈ wsL_law := wl_19 _ (List.mem_of_getElem? (i := 9) rfl)
set_option maxRecDepth 20000 in
theorem wq_19_10 : Cond.selects RX3 yX3_reason yX3_reason ∈ wsL_law := wl_19 _ (List.mem_of_getElem? (i := 10) rfl)
set_option maxRecDepth 20000 in
theorem wq_19_11 : Cond.code yX3_reason cX3_reason 4 (some .int) ∈ wsL_law := wl_19 _ (List.mem_of_getElem? (i := 11) rfl)
set_option maxRecDepth 20000 in
theorem wq_20_0 : Cond.fieldLink RX3 125 "CupFountain$Cup" "guarded" "Z" ∈ wsL_law := wl_20 _ (List.mem_of_getElem? (i := 0) rfl)
set_option maxRecDepth 20000 in
theorem wq_20_1 : Cond.fieldLink RX3 128 "CupFountain$Cup" "hour" "I" ∈ wsL_law := wl_20 _ (List.mem_of_getElem? (i := 1) rfl)
set_option maxRecDepth 20000 in
theorem wq_20_2 : Cond.fieldLink RX3 107 "CupFountain$State" "tick" "I" ∈ wsL_law := wl_20 _ (List.mem_of_getElem? (i := 2) rfl)
set_option maxRecDepth 20000 in
theorem wq_20_3 : Cond.fieldLink RX3 134 "CupFountain$Cup" "open" "Z" ∈ wsL_law := wl_20 _ (List.mem_of_getElem? (i := 3) rfl)
set_option maxRecDepth 20000 in
theorem wq_20_4 : Cond.methodLink RX3 119 yX2_tickOnce ∈ wsL_law := wl_20 _ (List.mem_of_getElem? (i := 4) rfl)
set_option maxRecDepth 20000 in
theorem wq_20_5 : Cond.methodLink RX3 131 yX2_hourOf ∈ wsL_law := wl_20 _ (List.mem_of_getElem? (i := 5) rfl)
set_option maxRecDepth 20000 in
theorem wq_20_6 : Cond.methodLink RL 33 yX3_tipsIn ∈ wsL_law := wl_20 _ (List.mem_of_getElem? (i := 6) rfl)
set_option maxRecDepth 20000 in
theorem wq_20_7 : Cond.instanceMethod yX3_tipsIn ∈ wsL_law := wl_20 _ (List.mem_of_getElem? (i := 7) rfl)
set_option maxRecDepth 20000 in
theorem wq_20_8 : Cond.selects RX3 yX3_tipsIn yX3_tipsIn ∈ wsL_law := wl_20 _ (List.mem_of_getElem? (i := 8) rfl)
set_option maxRecDepth 20000 in
theorem wq_20_9 : Cond.code yX3_tipsIn cX3_tipsIn 2 (some .int) ∈ wsL_law := wl_20 _ (List.mem_of_getElem? (i := 9) rfl)
set_option maxRecDepth 20000 in
theorem wq_20_10 : Cond.methodLink RX3 137 yX3_ticksTillTip ∈ wsL_law := wl_20 _ (List.mem_of_getElem? (i := 10) rfl)
set_option maxRecDepth 20000 in
theorem wq_20_11 : Cond.instanceMethod yX3_ticksTillTip ∈ wsL_law := wl_20 _ (List.mem_of_getElem? (i := 11) rfl)
set_option maxRecDepth 20000 in
theorem wq_21_0 : Cond.selects RX3 yX3_ticksTillTip yX3_ticksTillTip ∈ wsL_law := wl_21 _ (List.mem_of_getElem? (i := 0) rfl)
set_option maxRecDepth 20000 in
theorem wq_21_1 : Cond.code yX3_ticksTillTip cX3_ticksTillTip 5 (some .int) ∈ wsL_law := wl_21 _ (List.mem_of_getElem? (i := 1) rfl)
set_option maxRecDepth 20000 in
theorem wq_21_2 : Cond.methodLink RL 71 yL_waits ∈ wsL_law := wl_21 _ (List.mem_of_getElem? (i := 2) rfl)
set_option maxRecDepth 20000 in
theorem wq_21_3 : Cond.static yL_waits ∈ wsL_law := wl_21 _ (List.mem_of_getElem? (i := 3) rfl)
set_option maxRecDepth 20000 in
theorem wq_21_4 : Cond.methodLink RL 39 yX3_tipsAt ∈ wsL_law := wl_21 _ (List.mem_of_getElem? (i := 4) rfl)
set_option maxRecDepth 20000 in
theorem wq_21_5 : Cond.instanceMethod yX3_tipsAt ∈ wsL_law := wl_21 _ (List.mem_of_getElem? (i := 5) rfl)
set_option maxRecDepth 20000 in
theorem wq_21_6 : Cond.selects RX3 yX3_tipsAt yX3_tipsAt ∈ wsL_law := wl_21 _ (List.mem_of_getElem? (i := 6) rfl)
set_option maxRecDepth 20000 in
theorem wq_21_7 : Cond.code yX3_tipsAt cX3_tipsAt 2 (some .int) ∈ wsL_law := wl_21 _ (List.mem_of_getElem? (i := 7) rfl)
set_option maxRecDepth 20000 in
theorem wq_21_8 : Cond.methodLink RX3 140 yX3_hourOfTip ∈ wsL_law := wl_21 _ (List.mem_of_getElem? (i := 8) rfl)
set_option maxRecDepth 20000 in
theorem wq_21_9 : Cond.instanceMethod yX3_hourOfTip ∈ wsL_law := wl_21 _ (List.mem_of_getElem? (i := 9) rfl)
set_option maxRecDepth 20000 in
theorem wq_21_10 : Cond.selects RX3 yX3_hourOfTip yX3_hourOfTip ∈ wsL_law := wl_21 _ (List.mem_of_getElem? (i := 10) rfl)
set_option maxRecDepth 20000 in
theorem wq_21_11 : Cond.code yX3_hourOfTip cX3_hourOfTip 3 (some .int) ∈ wsL_law := wl_21 _ (List.mem_of_getElem? (i := 11) rfl)
set_option maxRecDepth 20000 in
theorem wq_22_0 : Cond.methodLink RL 42 yX3_keep ∈ wsL_law := wl_22 _ (List.mem_of_getElem? (i := 0) rfl)
set_option maxRecDepth 20000 in
theorem wq_22_1 : Cond.instanceMethod yX3_keep ∈ wsL_law := wl_22 _ (List.mem_of_getElem? (i := 1) rfl)
set_option maxRecDepth 20000 in
theorem wq_22_2 : Cond.selects RX3 yX3_keep yX3_keep ∈ wsL_law := wl_22 _ (List.mem_of_getElem? (i := 2) rfl)
set_option maxRecDepth 20000 in
theorem wq_22_3 : Cond.code yX3_keep cX3_keep 1 (some .int) ∈ wsL_law := wl_22 _ (List.mem_of_getElem? (i := 3) rfl)
set_option maxRecDepth 20000 in
theorem wq_22_4 : Cond.methodLink RL 48 yX3_restore ∈ wsL_law := wl_22 _ (List.mem_of_getElem? (i := 4) rfl)
set_option maxRecDepth 20000 in
theorem wq_22_5 : Cond.instanceMethod yX3_restore ∈ wsL_law := wl_22 _ (List.mem_of_getElem? (i := 5) rfl)
set_option maxRecDepth 20000 in
theorem wq_22_6 : Cond.selects RX3 yX3_restore yX3_restore ∈ wsL_law := wl_22 _ (List.mem_of_getElem? (i := 6) rfl)
set_option maxRecDepth 20000 in
theorem wq_22_7 : Cond.code yX3_restore cX3_restore 1 (some .int) ∈ wsL_law := wl_22 _ (List.mem_of_getElem? (i := 7) rfl)
set_option maxRecDepth 20000 in
theorem wq_22_8 : Cond.methodLink RL 74 yL_bestSo ∈ wsL_law := wl_22 _ (List.mem_of_getElem? (i := 8) rfl)
set_option maxRecDepth 20000 in
theorem wq_22_9 : Cond.static yL_bestSo ∈ wsL_law := wl_22 _ (List.mem_of_getElem? (i := 9) rfl)
set_option maxRecDepth 20000 in
theorem wq_22_10 : Cond.methodLink RL 51 yX3_bestSize ∈ wsL_law := wl_22 _ (List.mem_of_getElem? (i := 10) rfl)
set_option maxRecDepth 20000 in
theorem wq_22_11 : Cond.instanceMethod yX3_bestSize ∈ wsL_law := wl_22 _ (List.mem_of_getElem? (i := 11) rfl)
set_option maxRecDepth 20000 in
theorem wq_23_0 : Cond.selects RX3 yX3_bestSize yX3_bestSize ∈ wsL_law := wl_23 _ (List.mem_of_getElem? (i := 0) rfl)
set_option maxRecDepth 20000 in
theorem wq_23_1 : Cond.code yX3_bestSize cX3_bestSize 6 (some .int) ∈ wsL_law := wl_23 _ (List.mem_of_getElem? (i := 1) rfl)
set_option maxRecDepth 20000 in
theorem wq_23_2 : Cond.fieldLink RX3 150 "CupFountain$Cup" "size" "I" ∈ wsL_law := wl_23 _ (List.mem_of_getElem? (i := 2) rfl)
set_option maxRecDepth 20000 in
theorem wq_23_3 : Cond.fieldLink RX3 153 "CupFountain$Cup" "ready" "I" ∈ wsL_law := wl_23 _ (List.mem_of_getElem? (i := 3) rfl)
set_option maxRecDepth 20000 in
theorem wq_23_4 : Cond.methodLink RX3 156 Lib.Math.max.name ∈ wsL_law := wl_23 _ (List.mem_of_getElem? (i := 4) rfl)
set_option maxRecDepth 20000 in
theorem wq_23_5 : Cond.static Lib.Math.max.name ∈ wsL_law := wl_23 _ (List.mem_of_getElem? (i := 5) rfl)
set_option maxRecDepth 20000 in
theorem wq_23_6 : Cond.code Lib.Math.max.name Lib.Math.max.code 2 (some .int) ∈ wsL_law := wl_23 _ (List.mem_of_getElem? (i := 6) rfl)
set_option maxRecDepth 20000 in
theorem wq_23_7 : Cond.methodLink RL 54 yX3_setCup ∈ wsL_law := wl_23 _ (List.mem_of_getElem? (i := 7) rfl)
set_option maxRecDepth 20000 in
theorem wq_23_8 : Cond.instanceMethod yX3_setCup ∈ wsL_law := wl_23 _ (List.mem_of_getElem? (i := 8) rfl)
set_option maxRecDepth 20000 in
theorem wq_23_9 : Cond.selects RX3 yX3_setCup yX3_setCup ∈ wsL_law := wl_23 _ (List.mem_of_getElem? (i := 9) rfl)
set_option maxRecDepth 20000 in
theorem wq_23_10 : Cond.code yX3_setCup cX3_setCup 4 (some .int) ∈ wsL_law := wl_23 _ (List.mem_of_getElem? (i := 10) rfl)
set_option maxRecDepth 20000 in
theorem wq_23_11 : Cond.methodLink RX3 54 yX2_changeCup ∈ wsL_law := wl_23 _ (List.mem_of_getElem? (i := 11) rfl)
set_option maxRecDepth 20000 in
theorem wq_24_0 : Cond.instanceMethod yX2_changeCup ∈ wsL_law := wl_24 _ (List.mem_of_getElem? (i := 0) rfl)
set_option maxRecDepth 20000 in
theorem wq_24_1 : Cond.selects RX2 yX2_changeCup yX2_changeCup ∈ wsL_law := wl_24 _ (List.mem_of_getElem? (i := 1) rfl)
set_option maxRecDepth 20000 in
theorem wq_24_2 : Cond.code yX2_changeCup cX2_changeCup 6 (some .int) ∈ wsL_law := wl_24 _ (List.mem_of_getElem? (i := 2) rfl)
set_option maxRecDepth 20000 in
theorem wq_24_3 : Cond.fieldLink RX2 64 "CupFountain$Cup" "leak" "I" ∈ wsL_law := wl_24 _ (List.mem_of_getElem? (i := 3) rfl)
set_option maxRecDepth 20000 in
theorem wq_24_4 : Cond.methodLink RX2 53 yX2_isCupValue ∈ wsL_law := wl_24 _ (List.mem_of_getElem? (i := 4) rfl)
set_option maxRecDepth 20000 in
theorem wq_24_5 : Cond.static yX2_isCupValue ∈ wsL_law := wl_24 _ (List.mem_of_getElem? (i := 5) rfl)
set_option maxRecDepth 20000 in
theorem wq_24_6 : Cond.code yX2_isCupValue cX2_isCupValue 3 (some .boolean) ∈ wsL_law := wl_24 _ (List.mem_of_getElem? (i := 6) rfl)
set_option maxRecDepth 20000 in
theorem wq_24_7 : Cond.methodLink RL 77 yL_starves ∈ wsL_law := wl_24 _ (List.mem_of_getElem? (i := 7) rfl)
set_option maxRecDepth 20000 in
theorem wq_24_8 : Cond.static yL_starves ∈ wsL_law := wl_24 _ (List.mem_of_getElem? (i := 8) rfl)
set_option maxRecDepth 20000 in
theorem wq_24_9 : Cond.methodLink RL 80 yX3_turnLock ∈ wsL_law := wl_24 _ (List.mem_of_getElem? (i := 9) rfl)
set_option maxRecDepth 20000 in
theorem wq_24_10 : Cond.instanceMethod yX3_turnLock ∈ wsL_law := wl_24 _ (List.mem_of_getElem? (i := 10) rfl)
set_option maxRecDepth 20000 in
theorem wq_24_11 : Cond.selects RX3 yX3_turnLock yX3_turnLock ∈ wsL_law := wl_24 _ (List.mem_of_getElem? (i := 11) rfl)
set_option maxRecDepth 20000 in
theorem wq_25_0 : Cond.code yX3_turnLock cX3_turnLock 2 (some .int) ∈ wsL_law := wl_25 _ (List.mem_of_getElem? (i := 0) rfl)
set_option maxRecDepth 20000 in
theorem wq_25_1 : Cond.methodLink RX3 62 yX2_changeLock ∈ wsL_law := wl_25 _ (List.mem_of_getElem? (i := 1) rfl)
set_option maxRecDepth 20000 in
theorem wq_25_2 : Cond.instanceMethod yX2_changeLock ∈ wsL_law := wl_25 _ (List.mem_of_getElem? (i := 2) rfl)
set_option maxRecDepth 20000 in
theorem wq_25_3 : Cond.selects RX2 yX2_changeLock yX2_changeLock ∈ wsL_law := wl_25 _ (List.mem_of_getElem? (i := 3) rfl)
set_option maxRecDepth 20000 in
theorem wq_25_4 : Cond.code yX2_changeLock cX2_changeLock 3 (some .int) ∈ wsL_law := wl_25 _ (List.mem_of_getElem? (i := 4) rfl)
set_option maxRecDepth 20000 in
theorem wq_25_5 : Cond.methodLink RL 83 yX3_setHour ∈ wsL_law := wl_25 _ (List.mem_of_getElem? (i := 5) rfl)
set_option maxRecDepth 20000 in
theorem wq_25_6 : Cond.instanceMethod yX3_setHour ∈ wsL_law := wl_25 _ (List.mem_of_getElem? (i := 6) rfl)
set_option maxRecDepth 20000 in
theorem wq_25_7 : Cond.selects RX3 yX3_setHour yX3_setHour ∈ wsL_law := wl_25 _ (List.mem_of_getElem? (i := 7) rfl)
set_option maxRecDepth 20000 in
theorem wq_25_8 : Cond.code yX3_setHour cX3_setHour 3 (some .int) ∈ wsL_law := wl_25 _ (List.mem_of_getElem? (i := 8) rfl)
set_option maxRecDepth 20000 in
theorem wq_25_9 : Cond.methodLink RX3 65 yX2_changeHour ∈ wsL_law := wl_25 _ (List.mem_of_getElem? (i := 9) rfl)
set_option maxRecDepth 20000 in
theorem wq_25_10 : Cond.instanceMethod yX2_changeHour ∈ wsL_law := wl_25 _ (List.mem_of_getElem? (i := 10) rfl)
set_option maxRecDepth 20000 in
theorem wq_25_11 : Cond.selects RX2 yX2_changeHour yX2_changeHour ∈ wsL_law := wl_25 _ (List.mem_of_getElem? (i := 11) rfl)
set_option maxRecDepth 20000 in
theorem wq_26_0 : Cond.code yX2_changeHour cX2_changeHour 5 (some .int) ∈ wsL_law := wl_26 _ (List.mem_of_getElem? (i := 0) rfl)
set_option maxRecDepth 20000 in
theorem wq_26_1 : Cond.methodLink RL 86 yX3_guard ∈ wsL_law := wl_26 _ (List.mem_of_getElem? (i := 1) rfl)
set_option maxRecDepth 20000 in
theorem wq_26_2 : Cond.instanceMethod yX3_guard ∈ wsL_law := wl_26 _ (List.mem_of_getElem? (i := 2) rfl)
set_option maxRecDepth 20000 in
theorem wq_26_3 : Cond.selects RX3 yX3_guard yX3_guard ∈ wsL_law := wl_26 _ (List.mem_of_getElem? (i := 3) rfl)
set_option maxRecDepth 20000 in
theorem wq_26_4 : Cond.code yX3_guard cX3_guard 2 (some .int) ∈ wsL_law := wl_26 _ (List.mem_of_getElem? (i := 4) rfl)
set_option maxRecDepth 20000 in
theorem wq_26_5 : Cond.methodLink RX3 69 yX2_changeGuard ∈ wsL_law := wl_26 _ (List.mem_of_getElem? (i := 5) rfl)
set_option maxRecDepth 20000 in
theorem wq_26_6 : Cond.instanceMethod yX2_changeGuard ∈ wsL_law := wl_26 _ (List.mem_of_getElem? (i := 6) rfl)
set_option maxRecDepth 20000 in
theorem wq_26_7 : Cond.selects RX2 yX2_changeGuard yX2_changeGuard ∈ wsL_law := wl_26 _ (List.mem_of_getElem? (i := 7) rfl)
set_option maxRecDepth 20000 in
theorem wq_26_8 : Cond.code yX2_changeGuard cX2_changeGuard 3 (some .int) ∈ wsL_law := wl_26 _ (List.mem_of_getElem? (i := 8) rfl)
set_option maxRecDepth 20000 in
theorem wq_26_9 : Cond.methodLink RL 89 yX3_fill ∈ wsL_law := wl_26 _ (List.mem_of_getElem? (i := 9) rfl)
set_option maxRecDepth 20000 in
theorem wq_26_10 : Cond.instanceMethod yX3_fill ∈ wsL_law := wl_26 _ (List.mem_of_getElem? (i := 10) rfl)
set_option maxRecDepth 20000 in
theorem wq_26_11 : Cond.selects RX3 yX3_fill yX3_fill ∈ wsL_law := wl_26 _ (List.mem_of_getElem? (i := 11) rfl)
set_option maxRecDepth 20000 in
theorem wq_27_0 : Cond.code yX3_fill cX3_fill 3 (some .int) ∈ wsL_law := wl_27 _ (List.mem_of_getElem? (i := 0) rfl)
set_option maxRecDepth 20000 in
theorem wq_27_1 : Cond.methodLink RX3 72 yX2_pour ∈ wsL_law := wl_27 _ (List.mem_of_getElem? (i := 1) rfl)
set_option maxRecDepth 20000 in
theorem wq_27_2 : Cond.instanceMethod yX2_pour ∈ wsL_law := wl_27 _ (List.mem_of_getElem? (i := 2) rfl)
set_option maxRecDepth 20000 in
theorem wq_27_3 : Cond.selects RX2 yX2_pour yX2_pour ∈ wsL_law := wl_27 _ (List.mem_of_getElem? (i := 3) rfl)
set_option maxRecDepth 20000 in
theorem wq_27_4 : Cond.code yX2_pour cX2_pour 4 (some .int) ∈ wsL_law := wl_27 _ (List.mem_of_getElem? (i := 4) rfl)
set_option maxRecDepth 20000 in
theorem wq_27_5 : Cond.methodLink RL 92 yX3_set ∈ wsL_law := wl_27 _ (List.mem_of_getElem? (i := 5) rfl)
set_option maxRecDepth 20000 in
theorem wq_27_6 : Cond.instanceMethod yX3_set ∈ wsL_law := wl_27 _ (List.mem_of_getElem? (i := 6) rfl)
set_option maxRecDepth 20000 in
theorem wq_27_7 : Cond.selects RX3 yX3_set yX3_set ∈ wsL_law := wl_27 _ (List.mem_of_getElem? (i := 7) rfl)
set_option maxRecDepth 20000 in
theorem wq_27_8 : Cond.code yX3_set cX3_set 3 (some .int) ∈ wsL_law := wl_27 _ (List.mem_of_getElem? (i := 8) rfl)
set_option maxRecDepth 20000 in
theorem wq_27_9 : Cond.methodLink RX3 75 yX2_changeSetting ∈ wsL_law := wl_27 _ (List.mem_of_getElem? (i := 9) rfl)
set_option maxRecDepth 20000 in
theorem wq_27_10 : Cond.instanceMethod yX2_changeSetting ∈ wsL_law := wl_27 _ (List.mem_of_getElem? (i := 10) rfl)
set_option maxRecDepth 20000 in
theorem wq_27_11 : Cond.selects RX2 yX2_changeSetting yX2_changeSetting ∈ wsL_law := wl_27 _ (List.mem_of_getElem? (i := 11) rfl)
set_option maxRecDepth 20000 in
theorem wq_28_0 : Cond.code yX2_changeSetting cX2_changeSetting 4 (some .int) ∈ wsL_law := wl_28 _ (List.mem_of_getElem? (i := 0) rfl)
set_option maxRecDepth 20000 in
theorem wq_29_0 : Cond.code yL_holds cL_holds 7 (some .boolean) ∈ wsL_law := wl_29 _ (List.mem_of_getElem? (i := 0) rfl)
set_option maxRecDepth 20000 in
theorem wq_30_0 : Cond.code yL_isCup cL_isCup 5 (some .boolean) ∈ wsL_law := wl_30 _ (List.mem_of_getElem? (i := 0) rfl)
set_option maxRecDepth 20000 in
theorem wq_31_0 : Cond.code yL_cell cL_cell 2 (some .int) ∈ wsL_law := wl_31 _ (List.mem_of_getElem? (i := 0) rfl)
set_option maxRecDepth 20000 in
theorem wq_32_0 : Cond.constant RL 7 (833214435) ∈ wsL_law := wl_32 _ (List.mem_of_getElem? (i := 0) rfl)
set_option maxRecDepth 20000 in
theorem wq_33_0 : Cond.constant RL 8 (801485273) ∈ wsL_law := wl_33 _ (List.mem_of_getElem? (i := 0) rfl)
set_option maxRecDepth 20000 in
theorem wq_34_0 : Cond.code yL_act cL_act 8 (some .boolean) ∈ wsL_law := wl_34 _ (List.mem_of_getElem? (i := 0) rfl)
set_option maxRecDepth 20000 in
theorem wq_35_0 : Cond.code yL_low cL_low 2 (some .int) ∈ wsL_law := wl_35 _ (List.mem_of_getElem? (i := 0) rfl)
set_option maxRecDepth 20000 in
theorem wq_36_0 : Cond.constant RL 9 (2147483647) ∈ wsL_law := wl_36 _ (List.mem_of_getElem? (i := 0) rfl)
set_option maxRecDepth 20000 in
theorem wq_37_0 : Cond.code yL_ifs cL_ifs 9 (some .boolean) ∈ wsL_law := wl_37 _ (List.mem_of_getElem? (i := 0) rfl)
set_option maxRecDepth 20000 in
theorem wq_38_0 : Cond.code yL_ticks cL_ticks 10 (some .boolean) ∈ wsL_law := wl_38 _ (List.mem_of_getElem? (i := 0) rfl)
set_option maxRecDepth 20000 in
theorem wq_39_0 : Cond.code yL_waits cL_waits 9 (some .boolean) ∈ wsL_law := wl_39 _ (List.mem_of_getElem? (i := 0) rfl)
set_option maxRecDepth 20000 in
theorem wq_40_0 : Cond.code yL_bestSo cL_bestSo 9 (some .boolean) ∈ wsL_law := wl_40 _ (List.mem_of_getElem? (i := 0) rfl)
set_option maxRecDepth 20000 in
theorem wq_41_0 : Cond.code yL_starves cL_starves 4 (some .boolean) ∈ wsL_law := wl_41 _ (List.mem_of_getElem? (i := 0) rfl)
/-- the words of a method: its code, and the one list -/
abbrev zws (y : MethodName) (c : ByteArray) (ml : Nat) (ret : Option FieldType) : List Cond := Cond.code y c ml ret :: wsL_law
theorem zgood {Ts : List Cond} (hsub : ∀ w ∈ wsL_law, w ∈ Ts) {hd : List Cond} (hh : ∀ w ∈ hd, w ∈ wsL_law) {y : MethodName} {c : ByteArray} {ml : Nat} {ret : Option FieldType} (hc : Cond.code y c ml ret ∈ wsL_law) : GoodIn Ts (hd ++ zws y c ml ret) := by
  intro w hw
  have hm : w ∈ wsL_law := by
    rcases List.mem_append.mp hw with h | h
    · exact hh w h
    · rcases List.mem_cons.mp h with h | h
      · rw [h]; exact hc
      · exact h
  exact ⟨hsub w hm, good_of_word (wsL_good w hm)⟩
theorem zgoodV {Ts : List Cond} (hsub : ∀ w ∈ wsL_law, w ∈ Ts) {own C : String} {idx : Nat} {y : MethodName} {c : ByteArray} {ml : Nat} {ret : Option FieldType} (h1 : Cond.methodLink own idx y ∈ wsL_law) (h2 : Cond.instanceMethod y ∈ wsL_law) (h3 : Cond.selects C y y ∈ wsL_law) (h4 : Cond.initialized C ∈ wsL_law) (hc : Cond.code y c ml ret ∈ wsL_law) : GoodIn Ts (wsV own idx C y (zws y c ml ret)) :=
  zgood hsub (fun w h => by
    rcases List.mem_cons.mp h with h | h
    · rw [h]; exact h1
    · rcases List.mem_cons.mp h with h | h
      · rw [h]; exact h2
      · rcases List.mem_cons.mp h with h | h
        · rw [h]; exact h3
        · rw [List.mem_singleton.mp h]; exact h4) hc
theorem zgoodS {Ts : List Cond} (hsub : ∀ w ∈ wsL_law, w ∈ Ts) {own : String} {idx : Nat} {y : MethodName} {c : ByteArray} {ml : Nat} {ret : Option FieldType} (h1 : Cond.methodLink own idx y ∈ wsL_law) (h2 : Cond.static y ∈ wsL_law) (h4 : Cond.initialized own ∈ wsL_law) (hc : Cond.code y c ml ret ∈ wsL_law) : GoodIn Ts (wsS own idx y (zws y c ml ret)) :=
  zgood hsub (fun w h => by
    rcases List.mem_cons.mp h with h | h
    · rw [h]; exact h1
    · rcases List.mem_cons.mp h with h | h
      · rw [h]; exact h2
      · rw [List.mem_singleton.mp h]; exact h4) hc
theorem zgood0 {Ts : List Cond} (hsub : ∀ w ∈ wsL_law, w ∈ Ts) {y : MethodName} {c : ByteArray} {ml : Nat} {ret : Option FieldType} (hc : Cond.code y c ml ret ∈ wsL_law) : GoodIn Ts (zws y c ml ret) :=
  zgood (hd := []) hsub (fun w h => absurd h List.not_mem_nil) hc
theorem zsub {y : MethodName} {c : ByteArray} {ml : Nat} {ret : Option FieldType} : ∀ w ∈ wsL_law, w ∈ zws y c ml ret := fun w h => List.mem_cons_of_mem _ h
