set_option maxRecDepth 20000 in
theorem in_wsX80 : ∀ w ∈ wsX80, w ∈ lw_tbl := by decide +kernel
set_option maxRecDepth 20000 in
theorem in_wsX20 : ∀ w ∈ wsX20, w ∈ lw_tbl := by decide +kernel
set_option maxRecDepth 20000 in
theorem in_wsX50 : ∀ w ∈ wsX50, w ∈ lw_tbl := by decide +kernel
set_option maxRecDepth 20000 in
theorem in_wsX30 : ∀ w ∈ wsX30, w ∈ lw_tbl := by decide +kernel
set_option maxRecDepth 20000 in
theorem in_wsX60 : ∀ w ∈ wsX60, w ∈ lw_tbl := by decide +kernel
set_option maxRecDepth 20000 in
theorem in_wsX40 : ∀ w ∈ wsX40, w ∈ lw_tbl := by decide +kernel
set_option maxRecDepth 20000 in
theorem in_wsX10 : ∀ w ∈ wsX10, w ∈ lw_tbl := by decide +kernel
set_option maxRecDepth 20000 in
theorem in_wsX00 : ∀ w ∈ wsX00, w ∈ lw_tbl := by decide +kernel
theorem wsL_law_in0 : ∀ w ∈ wsL_law0, w ∈ lw_tbl := List.forall_mem_append.mpr ⟨List.forall_mem_append.mpr ⟨List.forall_mem_append.mpr ⟨List.forall_mem_append.mpr ⟨List.forall_mem_append.mpr ⟨List.forall_mem_append.mpr ⟨List.forall_mem_append.mpr ⟨List.forall_mem_append.mpr ⟨List.forall_mem_append.mpr ⟨List.forall_mem_append.mpr ⟨List.forall_mem_append.mpr ⟨in_wsL_law0_r1, List.forall_mem_append.mpr ⟨in_wsL_law0_r2, List.forall_mem_append.mpr ⟨in_wsL_law0_r3, List.forall_mem_append.mpr ⟨in_wsL_law0_r4, List.forall_mem_append.mpr ⟨in_wsL_law0_r5, List.forall_mem_append.mpr ⟨in_wsL_law0_r6, List.forall_mem_append.mpr ⟨in_wsL_law0_r7, List.forall_mem_append.mpr ⟨in_wsL_law0_r8, List.forall_mem_append.mpr ⟨in_wsL_law0_r9, List.forall_mem_append.mpr ⟨in_wsL_law0_r10, List.forall_mem_append.mpr ⟨in_wsL_law0_r11, List.forall_mem_append.mpr ⟨in_wsL_law0_r12, List.forall_mem_append.mpr ⟨in_wsL_law0_r13, List.forall_mem_append.mpr ⟨in_wsL_law0_r14, List.forall_mem_append.mpr ⟨in_wsL_law0_r15, List.forall_mem_append.mpr ⟨in_wsL_law0_r16, List.forall_mem_append.mpr ⟨in_wsL_law0_r17, List.forall_mem_append.mpr ⟨in_wsL_law0_r18, List.forall_mem_append.mpr ⟨in_wsL_law0_r19, List.forall_mem_append.mpr ⟨in_wsL_law0_r20, List.forall_mem_append.mpr ⟨in_wsL_law0_r21, List.forall_mem_append.mpr ⟨in_wsL_law0_r22, List.forall_mem_append.mpr ⟨in_wsL_law0_r23, List.forall_mem_append.mpr ⟨in_wsL_law0_r24, in_wsL_law0_r25⟩⟩⟩⟩⟩⟩⟩⟩⟩⟩⟩⟩⟩⟩⟩⟩⟩⟩⟩⟩⟩⟩⟩⟩, in_wsX70⟩, in_wsX80⟩, in_wsX20⟩, in_wsX50⟩, in_wsX30⟩, in_wsX60⟩, in_wsX40⟩, in_wsX10⟩, in_wsX00⟩, fun _ h => absurd h List.not_mem_nil⟩
set_option maxRecDepth 20000 in
theorem wsL_law_x0 : ∀ w ∈ (vx_atS RX7 66 "java/lang/IllegalArgumentException" ["java/lang/RuntimeException", "java/lang/Exception"]).filter goodWord, w ∈ lw_tbl := by decide +kernel
set_option maxRecDepth 20000 in
theorem wsL_law_x1 : ∀ w ∈ (vx_atS RX7 90 "java/lang/IllegalStateException" ["java/lang/RuntimeException", "java/lang/Exception"]).filter goodWord, w ∈ lw_tbl := by decide +kernel
set_option maxRecDepth 20000 in
theorem wsL_law_x2 : ∀ w ∈ (vx_atN RX7 140 "java/util/NoSuchElementException" 13 rxN ["java/lang/RuntimeException", "java/lang/Exception"]).filter goodWord, w ∈ lw_tbl := by decide +kernel
theorem wsL_law_in : ∀ w ∈ wsL_law, w ∈ lw_tbl := List.forall_mem_append.mpr ⟨List.forall_mem_append.mpr ⟨List.forall_mem_append.mpr ⟨wsL_law_in0, wsL_law_x0⟩, wsL_law_x1⟩, wsL_law_x2⟩
