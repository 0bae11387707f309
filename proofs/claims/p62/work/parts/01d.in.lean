theorem wl_wsX100 : ∀ w ∈ wsX100, w ∈ lw_tbl ++ lw_up := by decide +kernel
theorem wl_wsX70 : ∀ w ∈ wsX70, w ∈ lw_tbl ++ lw_up := by decide +kernel
theorem wl_wsX00 : ∀ w ∈ wsX00, w ∈ lw_tbl ++ lw_up := by decide +kernel
theorem wl_wsX10 : ∀ w ∈ wsX10, w ∈ lw_tbl ++ lw_up := by decide +kernel
theorem wl_wsX80 : ∀ w ∈ wsX80, w ∈ lw_tbl ++ lw_up := by decide +kernel
theorem wl_wsX50 : ∀ w ∈ wsX50, w ∈ lw_tbl ++ lw_up := by decide +kernel
theorem wl_wsX90 : ∀ w ∈ wsX90, w ∈ lw_tbl ++ lw_up := by decide +kernel
theorem wl_wsX20 : ∀ w ∈ wsX20, w ∈ lw_tbl ++ lw_up := by decide +kernel
theorem wl_wsX40 : ∀ w ∈ wsX40, w ∈ lw_tbl ++ lw_up := by decide +kernel
theorem wl_wsJ40 : ∀ w ∈ wsJ40, w ∈ lw_tbl ++ lw_up := by decide +kernel
theorem wl_wsJ00 : ∀ w ∈ wsJ00, w ∈ lw_tbl ++ lw_up := by decide +kernel
theorem wl_wsX60 : ∀ w ∈ wsX60, w ∈ lw_tbl ++ lw_up := by decide +kernel
theorem wl_nil : ∀ w ∈ ([] : List Cond), w ∈ lw_tbl ++ lw_up := fun _ h => absurd h List.not_mem_nil
theorem wsL_law_in : ∀ w ∈ wsL_law, w ∈ lw_tbl ++ lw_up := (faA (faA (faA (faA (faA (faA (faA (faA (faA (faA (faA (faA (faA (faA wl_wsL_law0_r1 (faA wl_wsL_law0_r2 (faA wl_wsL_law0_r3 (faA wl_wsL_law0_r4 (faA wl_wsL_law0_r5 (faA wl_wsL_law0_r6 (faA wl_wsL_law0_r7 (faA wl_wsL_law0_r8 (faA wl_wsL_law0_r9 (faA wl_wsL_law0_r10 (faA wl_wsL_law0_r11 (faA wl_wsL_law0_r12 (faA wl_wsL_law0_r13 (faA wl_wsL_law0_r14 (faA wl_wsL_law0_r15 (faA wl_wsL_law0_r16 (faA wl_wsL_law0_r17 (faA wl_wsL_law0_r18 (faA wl_wsL_law0_r19 (faA wl_wsL_law0_r20 (faA wl_wsL_law0_r21 (faA wl_wsL_law0_r22 (faA wl_wsL_law0_r23 (faA wl_wsL_law0_r24 (faA wl_wsL_law0_r25 (faA wl_wsL_law0_r26 (faA wl_wsL_law0_r27 (faA wl_wsL_law0_r28 (faA wl_wsL_law0_r29 (faA wl_wsL_law0_r30 (faA wl_wsL_law0_r31 (faA wl_wsL_law0_r32 (faA wl_wsL_law0_r33 (faA wl_wsL_law0_r34 (faA wl_wsL_law0_r35 (faA wl_wsL_law0_r36 (faA wl_wsL_law0_r37 (faA wl_wsL_law0_r38 (faA wl_wsL_law0_r39 (faA wl_wsL_law0_r40 (faA wl_wsL_law0_r41 (faA wl_wsL_law0_r42 (faA wl_wsL_law0_r43 (faA wl_wsL_law0_r44 wl_wsL_law0_r45)))))))))))))))))))))))))))))))))))))))))))) wl_wsX100) wl_wsX70) wl_wsX00) wl_wsX10) wl_wsX80) wl_wsX50) wl_wsX90) wl_wsX20) wl_wsX40) wl_wsJ40) wl_wsJ00) wl_wsX60) wl_nil)
