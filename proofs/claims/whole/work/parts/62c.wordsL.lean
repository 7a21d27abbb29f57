theorem lr_23 : ∀ w ∈ wsL_law0_r23, w ∈ lw_tbl := by decide +kernel
theorem lr_24 : ∀ w ∈ wsL_law0_r24, w ∈ lw_tbl := by decide +kernel
theorem lr_25 : ∀ w ∈ wsL_law0_r25, w ∈ lw_tbl := by decide +kernel
theorem lr_26 : ∀ w ∈ wsL_law0_r26, w ∈ lw_tbl := by decide +kernel
theorem lr_27 : ∀ w ∈ wsL_law0_r27, w ∈ lw_tbl := by decide +kernel
theorem lr_28 : ∀ w ∈ wsL_law0_r28, w ∈ lw_tbl := by decide +kernel
theorem lr_29 : ∀ w ∈ wsL_law0_r29, w ∈ lw_tbl := by decide +kernel
theorem lr_30 : ∀ w ∈ wsL_law0_r30, w ∈ lw_tbl := by decide +kernel
theorem lr_31 : ∀ w ∈ wsL_law0_r31, w ∈ lw_tbl := by decide +kernel
theorem lr_32 : ∀ w ∈ wsL_law0_r32, w ∈ lw_tbl := by decide +kernel
theorem lr_33 : ∀ w ∈ wsL_law0_r33, w ∈ lw_tbl := by decide +kernel
theorem lr_x5 : ∀ w ∈ wsX50, w ∈ lw_tbl := by decide +kernel
theorem lr_x6 : ∀ w ∈ wsX60, w ∈ lw_tbl := by decide +kernel
theorem lr_x4 : ∀ w ∈ wsX40, w ∈ lw_tbl := by decide +kernel
theorem lr_x3 : ∀ w ∈ wsX30, w ∈ lw_tbl := by decide +kernel
theorem lr_x0 : ∀ w ∈ wsX00, w ∈ lw_tbl := by decide +kernel
theorem lr_x2 : ∀ w ∈ wsX20, w ∈ lw_tbl := by decide +kernel
theorem lr_x1 : ∀ w ∈ wsX10, w ∈ lw_tbl := by decide +kernel
set_option maxRecDepth 20000 in
theorem wsL_law_in0 : ∀ w ∈ wsL_law0, w ∈ lw_tbl := (List.forall_mem_append.mpr ⟨(List.forall_mem_append.mpr ⟨(List.forall_mem_append.mpr ⟨(List.forall_mem_append.mpr ⟨(List.forall_mem_append.mpr ⟨(List.forall_mem_append.mpr ⟨(List.forall_mem_append.mpr ⟨(List.forall_mem_append.mpr ⟨(List.forall_mem_append.mpr ⟨lr_1, (List.forall_mem_append.mpr ⟨lr_2, (List.forall_mem_append.mpr ⟨lr_3, (List.forall_mem_append.mpr ⟨lr_4, (List.forall_mem_append.mpr ⟨lr_5, (List.forall_mem_append.mpr ⟨lr_6, (List.forall_mem_append.mpr ⟨lr_7, (List.forall_mem_append.mpr ⟨lr_8, (List.forall_mem_append.mpr ⟨lr_9, (List.forall_mem_append.mpr ⟨lr_10, (List.forall_mem_append.mpr ⟨lr_11, (List.forall_mem_append.mpr ⟨lr_12, (List.forall_mem_append.mpr ⟨lr_13, (List.forall_mem_append.mpr ⟨lr_14, (List.forall_mem_append.mpr ⟨lr_15, (List.forall_mem_append.mpr ⟨lr_16, (List.forall_mem_append.mpr ⟨lr_17, (List.forall_mem_append.mpr ⟨lr_18, (List.forall_mem_append.mpr ⟨lr_19, (List.forall_mem_append.mpr ⟨lr_20, (List.forall_mem_append.mpr ⟨lr_21, (List.forall_mem_append.mpr ⟨lr_22, (List.forall_mem_append.mpr ⟨lr_23, (List.forall_mem_append.mpr ⟨lr_24, (List.forall_mem_append.mpr ⟨lr_25, (List.forall_mem_append.mpr ⟨lr_26, (List.forall_mem_append.mpr ⟨lr_27, (List.forall_mem_append.mpr ⟨lr_28, (List.forall_mem_append.mpr ⟨lr_29, (List.forall_mem_append.mpr ⟨lr_30, (List.forall_mem_append.mpr ⟨lr_31, (List.forall_mem_append.mpr ⟨lr_32, lr_33⟩)⟩)⟩)⟩)⟩)⟩)⟩)⟩)⟩)⟩)⟩)⟩)⟩)⟩)⟩)⟩)⟩)⟩)⟩)⟩)⟩)⟩)⟩)⟩)⟩)⟩)⟩)⟩)⟩)⟩)⟩)⟩), lr_x5⟩), lr_x6⟩), lr_x4⟩), lr_x3⟩), lr_x0⟩), lr_x2⟩), lr_x1⟩), (fun _ h => absurd h List.not_mem_nil)⟩)
theorem wsL_law_in : ∀ w ∈ wsL_law, w ∈ lw_tbl := fun w h => (List.mem_append.mp h).elim (fun h => (List.mem_append.mp h).elim (fun h => (List.mem_append.mp h).elim (fun h => wsL_law_in0 w h) (fun h => wsL_law_x0 w h)) (fun h => wsL_law_x1 w h)) (fun h => wsL_law_x2 w h)
theorem inlX0 : ∀ w ∈ wsX00, w ∈ wsL_law := fun _ h => List.mem_append_left _ (List.mem_append_left _ (List.mem_append_left _ (List.mem_append_left _ (List.mem_append_left _ (List.mem_append_left _ (List.mem_append_right _ h))))))
theorem inX0 : ∀ w ∈ wsX00, w ∈ lw_tbl := fun w h => wsL_law_in w (inlX0 w h)
theorem inlX1 : ∀ w ∈ wsX10, w ∈ wsL_law := fun _ h => List.mem_append_left _ (List.mem_append_left _ (List.mem_append_left _ (List.mem_append_left _ (List.mem_append_right _ h))))
theorem inX1 : ∀ w ∈ wsX10, w ∈ lw_tbl := fun w h => wsL_law_in w (inlX1 w h)
theorem inlX2 : ∀ w ∈ wsX20, w ∈ wsL_law := fun _ h => List.mem_append_left _ (List.mem_append_left _ (List.mem_append_left _ (List.mem_append_left _ (List.mem_append_left _ (List.mem_append_right _ h)))))
theorem inX2 : ∀ w ∈ wsX20, w ∈ lw_tbl := fun w h => wsL_law_in w (inlX2 w h)
theorem inlX3 : ∀ w ∈ wsX30, w ∈ wsL_law := fun _ h => List.mem_append_left _ (List.mem_append_left _ (List.mem_append_left _ (List.mem_append_left _ (List.mem_append_left _ (List.mem_append_left _ (List.mem_append_left _ (List.mem_append_right _ h)))))))
theorem inX3 : ∀ w ∈ wsX30, w ∈ lw_tbl := fun w h => wsL_law_in w (inlX3 w h)
theorem inlX4 : ∀ w ∈ wsX40, w ∈ wsL_law := fun _ h => List.mem_append_left _ (List.mem_append_left _ (List.mem_append_left _ (List.mem_append_left _ (List.mem_append_left _ (List.mem_append_left _ (List.mem_append_left _ (List.mem_append_left _ (List.mem_append_right _ h))))))))
theorem inX4 : ∀ w ∈ wsX40, w ∈ lw_tbl := fun w h => wsL_law_in w (inlX4 w h)
theorem inlX5 : ∀ w ∈ wsX50, w ∈ wsL_law := fun _ h => List.mem_append_left _ (List.mem_append_left _ (List.mem_append_left _ (List.mem_append_left _ (List.mem_append_left _ (List.mem_append_left _ (List.mem_append_left _ (List.mem_append_left _ (List.mem_append_left _ (List.mem_append_left _ (List.mem_append_right _ h))))))))))
theorem inX5 : ∀ w ∈ wsX50, w ∈ lw_tbl := fun w h => wsL_law_in w (inlX5 w h)
theorem inlX6 : ∀ w ∈ wsX60, w ∈ wsL_law := fun _ h => List.mem_append_left _ (List.mem_append_left _ (List.mem_append_left _ (List.mem_append_left _ (List.mem_append_left _ (List.mem_append_left _ (List.mem_append_left _ (List.mem_append_left _ (List.mem_append_left _ (List.mem_append_right _ h)))))))))
theorem inX6 : ∀ w ∈ wsX60, w ∈ lw_tbl := fun w h => wsL_law_in w (inlX6 w h)
