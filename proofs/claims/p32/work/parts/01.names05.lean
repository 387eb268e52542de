set_option maxRecDepth 20000 in
theorem inL_wsX100 : ∀ w ∈ wsX100, w ∈ lw_tbl := mem_r _ [360, 362, 364, 366, 368, 370, 372, 374, 376, 378, 380, 382, 384] (by decide +kernel)
set_option maxRecDepth 20000 in
theorem inL_wsX80 : ∀ w ∈ wsX80, w ∈ lw_tbl := mem_r _ [72, 74] (by decide +kernel)
set_option maxRecDepth 20000 in
theorem inL_wsX60 : ∀ w ∈ wsX60, w ∈ lw_tbl := mem_r _ [87, 89, 91] (by decide +kernel)
set_option maxRecDepth 20000 in
theorem inL_wsX30 : ∀ w ∈ wsX30, w ∈ lw_tbl := mem_r _ [124, 126, 128, 130, 132, 134, 136, 138, 140, 142, 144, 146, 148] (by decide +kernel)
set_option maxRecDepth 20000 in
theorem inL_wsX10 : ∀ w ∈ wsX10, w ∈ lw_tbl := mem_r _ [159, 161] (by decide +kernel)
set_option maxRecDepth 20000 in
theorem inL_wsX20 : ∀ w ∈ wsX20, w ∈ lw_tbl := mem_r _ [175, 177, 179, 181] (by decide +kernel)
set_option maxRecDepth 20000 in
theorem inL_wsX70 : ∀ w ∈ wsX70, w ∈ lw_tbl := mem_r _ [205, 207, 209, 211] (by decide +kernel)
set_option maxRecDepth 20000 in
theorem inL_wsX50 : ∀ w ∈ wsX50, w ∈ lw_tbl := mem_r _ [228, 230, 232] (by decide +kernel)
set_option maxRecDepth 20000 in
theorem inL_wsX00 : ∀ w ∈ wsX00, w ∈ lw_tbl := mem_r _ [246, 248, 250, 252, 254] (by decide +kernel)
set_option maxRecDepth 20000 in
theorem inL_wsX90 : ∀ w ∈ wsX90, w ∈ lw_tbl := mem_r _ [268, 270, 272, 274, 276] (by decide +kernel)
set_option maxRecDepth 20000 in
theorem inL_wsX40 : ∀ w ∈ wsX40, w ∈ lw_tbl := mem_r _ [291, 293, 295, 297, 299, 301] (by decide +kernel)
set_option maxRecDepth 20000 in
theorem wsL_law_in : ∀ w ∈ wsL_law, w ∈ lw_tbl := (List.forall_mem_append.mpr ⟨(List.forall_mem_append.mpr ⟨(List.forall_mem_append.mpr ⟨(List.forall_mem_append.mpr ⟨(List.forall_mem_append.mpr ⟨(List.forall_mem_append.mpr ⟨(List.forall_mem_append.mpr ⟨(List.forall_mem_append.mpr ⟨(List.forall_mem_append.mpr ⟨(List.forall_mem_append.mpr ⟨(List.forall_mem_append.mpr ⟨(List.forall_mem_append.mpr ⟨(List.forall_mem_append.mpr ⟨inL_wsL_law_r1, (List.forall_mem_append.mpr ⟨inL_wsL_law_r2, (List.forall_mem_append.mpr ⟨inL_wsL_law_r3, (List.forall_mem_append.mpr ⟨inL_wsL_law_r4, (List.forall_mem_append.mpr ⟨inL_wsL_law_r5, (List.forall_mem_append.mpr ⟨inL_wsL_law_r6, (List.forall_mem_append.mpr ⟨inL_wsL_law_r7, (List.forall_mem_append.mpr ⟨inL_wsL_law_r8, (List.forall_mem_append.mpr ⟨inL_wsL_law_r9, (List.forall_mem_append.mpr ⟨inL_wsL_law_r10, (List.forall_mem_append.mpr ⟨inL_wsL_law_r11, (List.forall_mem_append.mpr ⟨inL_wsL_law_r12, (List.forall_mem_append.mpr ⟨inL_wsL_law_r13, (List.forall_mem_append.mpr ⟨inL_wsL_law_r14, (List.forall_mem_append.mpr ⟨inL_wsL_law_r15, (List.forall_mem_append.mpr ⟨inL_wsL_law_r16, (List.forall_mem_append.mpr ⟨inL_wsL_law_r17, (List.forall_mem_append.mpr ⟨inL_wsL_law_r18, (List.forall_mem_append.mpr ⟨inL_wsL_law_r19, (List.forall_mem_append.mpr ⟨inL_wsL_law_r20, (List.forall_mem_append.mpr ⟨inL_wsL_law_r21, (List.forall_mem_append.mpr ⟨inL_wsL_law_r22, (List.forall_mem_append.mpr ⟨inL_wsL_law_r23, (List.forall_mem_append.mpr ⟨inL_wsL_law_r24, (List.forall_mem_append.mpr ⟨inL_wsL_law_r25, (List.forall_mem_append.mpr ⟨inL_wsL_law_r26, (List.forall_mem_append.mpr ⟨inL_wsL_law_r27, (List.forall_mem_append.mpr ⟨inL_wsL_law_r28, (List.forall_mem_append.mpr ⟨inL_wsL_law_r29, (List.forall_mem_append.mpr ⟨inL_wsL_law_r30, (List.forall_mem_append.mpr ⟨inL_wsL_law_r31, (List.forall_mem_append.mpr ⟨inL_wsL_law_r32, inL_wsL_law_r33⟩)⟩)⟩)⟩)⟩)⟩)⟩)⟩)⟩)⟩)⟩)⟩)⟩)⟩)⟩)⟩)⟩)⟩)⟩)⟩)⟩)⟩)⟩)⟩)⟩)⟩)⟩)⟩)⟩)⟩)⟩)⟩), inL_wsX100⟩), inL_wsX80⟩), inL_wsX60⟩), inL_wsX30⟩), inL_wsX10⟩), inL_wsX20⟩), inL_wsX70⟩), inL_wsX50⟩), inL_wsX00⟩), inL_wsX90⟩), inL_wsX40⟩), (fun _ h => absurd h List.not_mem_nil)⟩)
abbrev vwCl : List vw_C := [(RX0, TX0, 5), (RX1, TX1, 2), (RX2, TX2, 4), (RX3, TX3, 13), (RX4, TX4, 6), (RX5, TX5, 3), (RX6, TX6, 3), (RX7, TX7, 4), (RX8, TX8, 2), (RX9, TX9, 5), (RX10, TX10, 13)]
theorem inlX0 : ∀ w ∈ wsX00, w ∈ wsL_law := fun _ h => List.mem_append_left _ (List.mem_append_left _ (List.mem_append_left _ (List.mem_append_right _ h)))
