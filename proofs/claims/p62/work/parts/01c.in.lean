/-! the law's words: among the tables', and 'selects' of the builder's private methods -/
theorem faA {a b : List Cond} {P : Cond → Prop} (ha : ∀ w ∈ a, P w) (hb : ∀ w ∈ b, P w) : ∀ w ∈ a ++ b, P w := fun w h => (List.mem_append.mp h).elim (ha w) (hb w)
theorem sel_up {C : String} {y : MethodName} {s : State} {args : Array Value} {n : Nat} (hy : y.cls ≠ "java/lang/invoke/MethodHandle" ∧ y.cls ≠ "java/lang/invoke/VarHandle") (hins : (Cond.instantiable C n).before args s = true) (hsame : (Cond.sameMethod y.cls y.cls y.name y.desc).before args s = true) (hpriv : (Cond.privateMethod y).before args s = true) (hinst : (Cond.instanceMethod y).before args s = true) : (Cond.selects C y y).before args s = true := by
  obtain ⟨c, k, hc, hk, -, hniab, -, -⟩ := Cond.instantiable_spec hins
  obtain ⟨cn, ck, r1, hcn, hck, hni, hf, hn1⟩ := Cond.sameMethod_found hsame
  obtain ⟨mk, methM, hnamed, hmethM, -, -⟩ := Cond.instanceMethod_spec hinst
  have hfound : s.methodFound? y.cls y.name y.desc = some mk := State.methodFound?_of_named hnamed hy
  have hcls : mk.cls = cn := Option.some.inj ((findClass_of_methodNamed hnamed).symm.trans hcn)
  have hsel : selectMethod {} s.vm c mk = .method mk := selectMethod_private hmethM (Cond.privateMethod_at hpriv mk methM hnamed hmethM)
  simp only [Cond.before, Cond.holds, Cond.value, hc, hfound, hnamed, hsel, hcls, hck]
  simp; exact hni
def lw_upm : List MethodName := [yJ5_appendNull_278bc, yJ5_ensureCapacityInternal_d00df, yJ5_newCapacity_0f7a4, yJ5_putStringAt_47b60, yJ5_inflateIfNeededFor_a7421, yJ5_inflate_da8c8]
def lw_up : List Cond := lw_upm.map fun y => Cond.selects RJ4 y y
theorem lw_up1 : ∀ y ∈ lw_upm, (y.cls ≠ "java/lang/invoke/MethodHandle" ∧ y.cls ≠ "java/lang/invoke/VarHandle") ∧ Cond.sameMethod y.cls y.cls y.name y.desc ∈ lw_tbl ∧ Cond.privateMethod y ∈ lw_tbl ∧ Cond.instanceMethod y ∈ lw_tbl := by decide +kernel
theorem lw_up2 : Cond.instantiable RJ4 4 ∈ lw_tbl := by decide +kernel
theorem lw_up_ok {args : Array Value} {s : State} (h : ∀ w ∈ lw_tbl, w.before args s = true) : ∀ w ∈ lw_tbl ++ lw_up, w.before args s = true := by
  refine faA h (fun w hw => ?_)
  obtain ⟨y, hy, rfl⟩ := List.mem_map.mp hw
  obtain ⟨q, q1, q2, q3⟩ := lw_up1 y hy
  exact sel_up q (h _ lw_up2) (h _ q1) (h _ q2) (h _ q3)
def tblD : List (List Cond) := [k2_sels lw_privs, tables_1_1, tables_1_2, tables_1_3, tables_1_4, tables_1_5, tables_1_6, tables_1_7, lw_up]
theorem inT0 : ∀ (l : List (List Cond)) (w : Cond) (j q : Nat), (l.getD j [])[q]? = some w → w ∈ l.flatten := by
  intro l w j q h
  rw [List.mem_flatten]
  by_cases hj : j < l.length
  · refine ⟨l[j], List.getElem_mem hj, ?_⟩
    have e : l.getD j [] = l[j] := by simp [List.getD, hj]
    rw [e] at h
    exact List.mem_of_getElem? h
  · have e : l.getD j [] = [] := by simp [List.getD, Nat.not_lt.mp hj]
    rw [e] at h
    simp at h
theorem tblD_eq : tblD.flatten = lw_tbl ++ lw_up := by simp [tblD, lw_tbl, tables_1]
theorem inT {ws : List Cond} (ps : List (Nat × Nat)) (h : ws = ps.filterMap (fun q => (tblD.getD q.1 [])[q.2]?)) : ∀ w ∈ ws, w ∈ lw_tbl ++ lw_up := by
  intro w hw
  rw [h, List.mem_filterMap] at hw
  obtain ⟨⟨j, q⟩, -, hz⟩ := hw
  rw [← tblD_eq]
  exact inT0 tblD w j q hz
set_option maxRecDepth 100000 in
theorem wl_wsL_law0_r1 : ∀ w ∈ wsL_law0_r1, w ∈ lw_tbl ++ lw_up := inT [(1, 31), (1, 32), (1, 1), (1, 129), (7, 37), (7, 38), (7, 39), (1, 33), (1, 34), (1, 35), (1, 36), (1, 37), (1, 38), (1, 39), (1, 40), (1, 2), (1, 130), (1, 131), (1, 5), (2, 85), (2, 86), (1, 149), (1, 150), (1, 6)] rfl
set_option maxRecDepth 100000 in
theorem wl_wsL_law0_r2 : ∀ w ∈ wsL_law0_r2, w ∈ lw_tbl ++ lw_up := inT [(2, 87), (2, 89), (1, 170), (1, 171), (1, 7), (2, 90), (2, 91), (2, 92), (2, 95), (1, 41), (1, 42), (1, 43), (1, 44), (1, 67), (1, 45), (1, 46), (1, 3), (1, 69), (1, 72), (1, 73), (1, 74), (1, 75), (1, 79), (1, 81)] rfl
set_option maxRecDepth 100000 in
theorem wl_wsL_law0_r3 : ∀ w ∈ wsL_law0_r3, w ∈ lw_tbl ++ lw_up := inT [(1, 83), (1, 85), (1, 87), (1, 90), (1, 91), (1, 93), (1, 65), (1, 95), (1, 47), (1, 48), (1, 49), (1, 50), (1, 51), (1, 52), (1, 4), (1, 53), (1, 54), (1, 132), (1, 133), (1, 134), (1, 135), (1, 136), (1, 148), (1, 137)] rfl
set_option maxRecDepth 100000 in
theorem wl_wsL_law0_r4 : ∀ w ∈ wsL_law0_r4, w ∈ lw_tbl ++ lw_up := inT [(1, 151), (1, 152), (1, 153), (1, 154), (1, 155), (1, 156), (1, 157), (1, 172), (1, 173), (1, 174), (1, 175), (2, 28), (2, 35), (1, 176), (2, 38), (2, 39), (2, 40), (2, 41), (1, 178), (1, 179), (1, 8), (2, 43), (1, 216), (1, 217)] rfl
set_option maxRecDepth 100000 in
theorem wl_wsL_law0_r5 : ∀ w ∈ wsL_law0_r5, w ∈ lw_tbl ++ lw_up := inT [(1, 9), (2, 45), (2, 47), (1, 239), (2, 48), (2, 49), (2, 0), (1, 10), (2, 50), (1, 180), (1, 181), (1, 182), (1, 183), (1, 184), (1, 191), (1, 192), (1, 194), (1, 196), (1, 198), (1, 186), (1, 218), (1, 219), (1, 220), (1, 221)] rfl
set_option maxRecDepth 100000 in
theorem wl_wsL_law0_r6 : ∀ w ∈ wsL_law0_r6, w ∈ lw_tbl ++ lw_up := inT [(1, 222), (1, 223), (1, 224), (2, 1), (2, 2), (2, 3), (2, 4), (2, 6), (2, 8), (2, 10), (2, 5), (2, 13), (4, 43), (4, 44), (1, 0), (4, 45), (4, 46), (4, 47), (4, 48), (4, 49), (4, 50), (1, 12), (4, 52), (4, 53)] rfl
set_option maxRecDepth 100000 in
theorem wl_wsL_law0_r7 : ∀ w ∈ wsL_law0_r7, w ∈ lw_tbl ++ lw_up := inT [(4, 54), (4, 55), (4, 56), (1, 11), (4, 57), (4, 58), (4, 60), (4, 61), (4, 172), (4, 171), (4, 59), (3, 181), (3, 182), (1, 13), (3, 183), (5, 69), (3, 184), (3, 185), (3, 186), (3, 187), (3, 188), (5, 70), (4, 62), (4, 63)] rfl
set_option maxRecDepth 100000 in
theorem wl_wsL_law0_r8 : ∀ w ∈ wsL_law0_r8, w ∈ lw_tbl ++ lw_up := inT [(4, 64), (1, 14), (4, 65), (4, 66), (4, 67), (4, 68), (4, 69), (4, 70), (4, 72), (4, 71), (4, 73), (4, 74), (4, 75), (4, 76), (4, 77), (4, 78), (4, 79), (4, 80), (4, 81), (4, 71), (4, 82), (4, 174), (4, 83), (7, 41)] rfl
set_option maxRecDepth 100000 in
theorem wl_wsL_law0_r9 : ∀ w ∈ wsL_law0_r9, w ∈ lw_tbl ++ lw_up := inT [(8, 0), (4, 85), (4, 86), (4, 87), (7, 42), (8, 1), (4, 89), (4, 90), (4, 91), (7, 43), (8, 2), (4, 93), (4, 94), (4, 95), (4, 96), (1, 15), (4, 97), (4, 98), (4, 99), (4, 100), (4, 101), (4, 102), (4, 103), (4, 104)] rfl
set_option maxRecDepth 100000 in
theorem wl_wsL_law0_r10 : ∀ w ∈ wsL_law0_r10, w ∈ lw_tbl ++ lw_up := inT [(1, 16), (4, 105), (4, 106), (4, 107), (4, 108), (4, 109), (4, 110), (4, 112), (4, 113), (4, 20), (4, 21), (4, 114), (4, 116), (4, 115), (1, 17), (4, 117), (4, 119), (4, 120), (4, 118), (4, 121), (4, 122), (4, 123), (4, 124), (4, 125)] rfl
set_option maxRecDepth 100000 in
theorem wl_wsL_law0_r11 : ∀ w ∈ wsL_law0_r11, w ∈ lw_tbl ++ lw_up := inT [(3, 225), (4, 126), (4, 127), (4, 128), (3, 218), (3, 219), (3, 220), (4, 129), (4, 130), (4, 131), (3, 207), (4, 132), (4, 133), (1, 18), (4, 134), (4, 135), (4, 136), (4, 137), (3, 227), (3, 229), (4, 138), (7, 44), (8, 3), (4, 140)] rfl
set_option maxRecDepth 100000 in
theorem wl_wsL_law0_r12 : ∀ w ∈ wsL_law0_r12, w ∈ lw_tbl ++ lw_up := inT [(4, 141), (4, 142), (7, 45), (8, 4), (4, 144), (4, 145), (4, 146), (7, 46), (8, 5), (4, 148), (4, 149), (4, 150), (4, 151), (1, 19), (4, 152), (4, 153), (4, 154), (4, 155), (4, 156), (4, 157), (4, 158), (4, 159), (4, 160), (4, 161)] rfl
set_option maxRecDepth 100000 in
theorem wl_wsL_law0_r13 : ∀ w ∈ wsL_law0_r13, w ∈ lw_tbl ++ lw_up := inT [(4, 162), (4, 163), (4, 164), (4, 165), (4, 166), (4, 167), (4, 168), (4, 169), (4, 170), (4, 183), (4, 184), (4, 185), (4, 30), (4, 31), (4, 32), (4, 33), (4, 186), (4, 187), (4, 188), (4, 189), (4, 190), (7, 47), (4, 191), (4, 192)] rfl
set_option maxRecDepth 100000 in
theorem wl_wsL_law0_r14 : ∀ w ∈ wsL_law0_r14, w ∈ lw_tbl ++ lw_up := inT [(4, 193), (4, 194), (1, 21), (4, 195), (4, 196), (4, 197), (4, 198), (4, 199), (4, 201), (4, 203), (4, 204), (4, 205), (4, 206), (4, 207), (4, 208), (4, 209), (4, 210), (4, 212), (4, 213), (4, 214), (4, 215), (4, 37), (4, 38), (4, 39)] rfl
set_option maxRecDepth 100000 in
theorem wl_wsL_law0_r15 : ∀ w ∈ wsL_law0_r15, w ∈ lw_tbl ++ lw_up := inT [(4, 218), (4, 219), (4, 220), (4, 221), (4, 222), (7, 48), (4, 223), (4, 224), (4, 225), (4, 226), (4, 227), (4, 228), (4, 229), (4, 230), (3, 215), (3, 216), (3, 217), (3, 221), (3, 205), (3, 206), (3, 209), (3, 210), (3, 211), (4, 232)] rfl
set_option maxRecDepth 100000 in
theorem wl_wsL_law0_r16 : ∀ w ∈ wsL_law0_r16, w ∈ lw_tbl ++ lw_up := inT [(4, 233), (4, 234), (4, 236), (4, 237), (4, 238), (5, 0), (5, 1), (5, 2), (4, 27), (4, 28), (4, 29), (4, 34), (4, 35), (4, 36), (4, 40), (4, 41), (4, 42), (5, 7), (5, 8), (5, 9), (5, 12), (5, 13), (5, 14), (5, 15)] rfl
set_option maxRecDepth 100000 in
theorem wl_wsL_law0_r17 : ∀ w ∈ wsL_law0_r17, w ∈ lw_tbl ++ lw_up := inT [(5, 16), (5, 17), (5, 19), (5, 20), (5, 21), (5, 23), (5, 24), (5, 25), (5, 26), (5, 27), (5, 28), (5, 29), (5, 30), (5, 31), (5, 32), (5, 33), (5, 34), (5, 35), (4, 173), (5, 36), (5, 38), (5, 39), (5, 37), (5, 40)] rfl
set_option maxRecDepth 100000 in
theorem wl_wsL_law0_r18 : ∀ w ∈ wsL_law0_r18, w ∈ lw_tbl ++ lw_up := inT [(5, 41), (5, 43), (5, 42), (5, 44), (5, 45), (5, 46), (5, 47), (5, 42), (5, 48), (5, 49), (5, 50), (5, 51), (5, 52), (5, 53), (5, 54), (5, 55), (5, 56), (5, 57), (5, 58), (5, 59), (5, 60), (5, 61), (5, 62), (5, 63)] rfl
set_option maxRecDepth 100000 in
theorem wl_wsL_law0_r19 : ∀ w ∈ wsL_law0_r19, w ∈ lw_tbl ++ lw_up := inT [(5, 64), (3, 222), (3, 223), (3, 224), (5, 65), (5, 66), (5, 67), (5, 68), (3, 177), (3, 178), (3, 179), (4, 19), (3, 180), (3, 190), (3, 191), (3, 192), (3, 193), (3, 194), (3, 195), (3, 196), (3, 197), (3, 198), (3, 199), (3, 200)] rfl
set_option maxRecDepth 100000 in
theorem wl_wsL_law0_r20 : ∀ w ∈ wsL_law0_r20, w ∈ lw_tbl ++ lw_up := inT [(3, 201), (3, 202), (3, 203), (3, 204), (3, 212), (3, 213), (3, 214), (3, 231), (3, 232), (3, 233), (3, 234), (3, 235), (1, 25), (4, 11), (4, 12), (4, 13), (4, 14), (4, 15), (4, 16), (4, 17), (4, 18), (1, 139), (4, 22), (4, 23)] rfl
set_option maxRecDepth 100000 in
theorem wl_wsL_law0_r21 : ∀ w ∈ wsL_law0_r21, w ∈ lw_tbl ++ lw_up := inT [(4, 24), (4, 25), (2, 205), (1, 26), (3, 152), (3, 153), (3, 154), (3, 155), (5, 80), (5, 81), (5, 82), (5, 83), (5, 84), (5, 85), (1, 27), (2, 88), (5, 86), (5, 87), (5, 88), (5, 89), (5, 92), (5, 90), (5, 93), (5, 97)] rfl
set_option maxRecDepth 100000 in
theorem wl_wsL_law0_r22 : ∀ w ∈ wsL_law0_r22, w ∈ lw_tbl ++ lw_up := inT [(5, 91), (5, 126), (5, 127), (5, 128), (5, 129), (5, 101), (5, 103), (5, 185), (5, 229), (6, 2), (6, 17), (5, 130), (5, 132), (0, 6), (5, 133), (5, 99), (5, 100), (5, 102), (5, 104), (5, 134), (3, 68), (3, 69), (3, 70), (5, 135)] rfl
set_option maxRecDepth 100000 in
theorem wl_wsL_law0_r23 : ∀ w ∈ wsL_law0_r23, w ∈ lw_tbl ++ lw_up := inT [(5, 136), (5, 137), (3, 142), (3, 143), (5, 139), (5, 141), (0, 7), (5, 142), (3, 145), (3, 146), (3, 147), (3, 148), (3, 149), (5, 147), (5, 148), (5, 149), (5, 151), (0, 8), (5, 152), (5, 153), (5, 154), (5, 155), (5, 157), (0, 9)] rfl
set_option maxRecDepth 100000 in
theorem wl_wsL_law0_r24 : ∀ w ∈ wsL_law0_r24, w ∈ lw_tbl ++ lw_up := inT [(5, 158), (5, 159), (5, 169), (5, 175), (5, 161), (5, 163), (0, 10), (5, 164), (5, 165), (5, 167), (0, 11), (5, 168), (5, 96), (5, 171), (5, 173), (0, 12), (5, 174), (5, 177), (5, 179), (0, 13), (5, 180), (5, 181), (5, 183), (0, 14)] rfl
set_option maxRecDepth 100000 in
theorem wl_wsL_law0_r25 : ∀ w ∈ wsL_law0_r25, w ∈ lw_tbl ++ lw_up := inT [(5, 184), (5, 187), (5, 189), (0, 15), (5, 190), (5, 208), (5, 210), (5, 212), (5, 214), (5, 191), (5, 192), (5, 193), (5, 194), (1, 55), (5, 195), (5, 197), (0, 16), (5, 198), (5, 199), (5, 201), (0, 17), (5, 202), (5, 203), (5, 204)] rfl
set_option maxRecDepth 100000 in
theorem wl_wsL_law0_r26 : ∀ w ∈ wsL_law0_r26, w ∈ lw_tbl ++ lw_up := inT [(5, 205), (5, 206), (5, 207), (5, 216), (5, 218), (0, 18), (5, 219), (5, 220), (5, 221), (5, 222), (5, 223), (5, 224), (5, 225), (5, 226), (5, 227), (3, 122), (3, 123), (5, 231), (5, 233), (0, 19), (5, 234), (5, 235), (5, 237), (5, 238)] rfl
set_option maxRecDepth 100000 in
theorem wl_wsL_law0_r27 : ∀ w ∈ wsL_law0_r27, w ∈ lw_tbl ++ lw_up := inT [(5, 239), (6, 0), (6, 1), (6, 4), (6, 6), (0, 20), (6, 7), (6, 8), (6, 10), (0, 21), (6, 11), (2, 238), (2, 239), (6, 13), (6, 14), (6, 15), (6, 16), (6, 19), (6, 21), (0, 22), (6, 22), (6, 23), (6, 24), (6, 26)] rfl
set_option maxRecDepth 100000 in
theorem wl_wsL_law0_r28 : ∀ w ∈ wsL_law0_r28, w ∈ lw_tbl ++ lw_up := inT [(6, 28), (6, 30), (6, 32), (0, 23), (6, 33), (6, 34), (6, 35), (6, 36), (6, 37), (6, 38), (6, 39), (6, 41), (0, 24), (6, 42), (2, 94), (2, 93), (6, 43), (6, 45), (0, 25), (6, 46), (6, 47), (6, 48), (6, 49), (6, 50)] rfl
set_option maxRecDepth 100000 in
theorem wl_wsL_law0_r29 : ∀ w ∈ wsL_law0_r29, w ∈ lw_tbl ++ lw_up := inT [(2, 30), (2, 32), (2, 34), (2, 36), (6, 52), (6, 53), (6, 54), (6, 55), (6, 56), (6, 57), (6, 58), (6, 59), (1, 187), (1, 188), (1, 190), (6, 61), (6, 62), (6, 63), (6, 64), (1, 225), (1, 226), (6, 66), (6, 67), (6, 68)] rfl
set_option maxRecDepth 100000 in
theorem wl_wsL_law0_r30 : ∀ w ∈ wsL_law0_r30, w ∈ lw_tbl ++ lw_up := inT [(6, 69), (6, 70), (6, 71), (6, 72), (6, 73), (6, 74), (6, 75), (6, 76), (6, 77), (6, 78), (6, 79), (6, 80), (6, 81), (6, 82), (6, 83), (6, 84), (6, 85), (6, 86), (6, 87), (6, 88), (6, 89), (6, 90), (6, 91), (6, 92)] rfl
set_option maxRecDepth 100000 in
theorem wl_wsL_law0_r31 : ∀ w ∈ wsL_law0_r31, w ∈ lw_tbl ++ lw_up := inT [(6, 93), (6, 94), (6, 95), (6, 96), (6, 98), (6, 99), (6, 100), (6, 101), (6, 102), (6, 103), (6, 104), (6, 105), (7, 0), (7, 1), (7, 2), (7, 4), (7, 5), (7, 6), (7, 7), (7, 8), (7, 9), (7, 13), (7, 14), (7, 15)] rfl
set_option maxRecDepth 100000 in
theorem wl_wsL_law0_r32 : ∀ w ∈ wsL_law0_r32, w ∈ lw_tbl ++ lw_up := inT [(7, 32), (7, 33), (7, 34), (7, 35), (6, 127), (6, 128), (6, 129), (6, 124), (6, 125), (6, 126), (6, 106), (6, 107), (6, 108), (6, 109), (6, 110), (6, 111), (6, 112), (6, 113), (6, 114), (6, 133), (6, 134), (6, 135), (6, 130), (6, 131)] rfl
set_option maxRecDepth 100000 in
theorem wl_wsL_law0_r33 : ∀ w ∈ wsL_law0_r33, w ∈ lw_tbl ++ lw_up := inT [(6, 132), (6, 136), (6, 137), (6, 138), (6, 139), (2, 135), (1, 30), (3, 103), (3, 105), (0, 5), (3, 106), (3, 107), (2, 234), (2, 235), (2, 236), (6, 140), (6, 142), (0, 26), (6, 143), (6, 145), (6, 146), (6, 147), (6, 148), (6, 150)] rfl
set_option maxRecDepth 100000 in
theorem wl_wsL_law0_r34 : ∀ w ∈ wsL_law0_r34, w ∈ lw_tbl ++ lw_up := inT [(6, 151), (6, 152), (6, 153), (1, 158), (6, 154), (6, 157), (6, 158), (6, 159), (6, 160), (6, 161), (3, 77), (3, 78), (3, 79), (3, 80), (3, 82), (0, 4), (3, 83), (3, 84), (3, 49), (3, 50), (3, 51), (3, 85), (3, 55), (3, 56)] rfl
set_option maxRecDepth 100000 in
theorem wl_wsL_law0_r35 : ∀ w ∈ wsL_law0_r35, w ∈ lw_tbl ++ lw_up := inT [(3, 57), (6, 162), (6, 163), (6, 164), (6, 165), (6, 166), (6, 168), (0, 27), (6, 169), (6, 170), (6, 171), (6, 172), (6, 173), (6, 175), (6, 177), (0, 28), (6, 178), (6, 179), (6, 180), (6, 181), (6, 182), (6, 183), (6, 184), (6, 185)] rfl
set_option maxRecDepth 100000 in
theorem wl_wsL_law0_r36 : ∀ w ∈ wsL_law0_r36, w ∈ lw_tbl ++ lw_up := inT [(6, 186), (3, 67), (6, 187), (6, 189), (6, 190), (6, 191), (6, 192), (6, 193), (6, 194), (6, 195), (6, 196), (6, 197), (6, 199), (0, 29), (6, 200), (3, 131), (3, 132), (6, 202), (3, 95), (3, 96), (3, 97), (2, 229), (2, 230), (2, 231)] rfl
set_option maxRecDepth 100000 in
theorem wl_wsL_law0_r37 : ∀ w ∈ wsL_law0_r37, w ∈ lw_tbl ++ lw_up := inT [(2, 232), (2, 233), (3, 98), (2, 222), (2, 223), (2, 224), (6, 203), (6, 204), (6, 205), (6, 206), (6, 208), (6, 209), (6, 210), (6, 211), (6, 212), (6, 213), (6, 214), (6, 215), (6, 216), (6, 217), (6, 218), (6, 219), (6, 220), (6, 221)] rfl
set_option maxRecDepth 100000 in
theorem wl_wsL_law0_r38 : ∀ w ∈ wsL_law0_r38, w ∈ lw_tbl ++ lw_up := inT [(6, 223), (6, 224), (6, 225), (6, 226), (6, 227), (6, 228), (6, 230), (0, 30), (6, 231), (6, 232), (6, 233), (6, 234), (6, 235), (3, 160), (3, 161), (3, 162), (3, 163), (3, 164), (3, 165), (3, 166), (3, 167), (3, 168), (6, 236), (6, 238)] rfl
set_option maxRecDepth 100000 in
theorem wl_wsL_law0_r39 : ∀ w ∈ wsL_law0_r39, w ∈ lw_tbl ++ lw_up := inT [(0, 31), (6, 239), (2, 119), (2, 120), (2, 121), (2, 122), (7, 36), (3, 125), (3, 126), (3, 127), (3, 128), (3, 129), (3, 0), (3, 1), (3, 2), (3, 3), (2, 131), (2, 133), (0, 0), (2, 134), (2, 221), (3, 5), (6, 121), (6, 122)] rfl
set_option maxRecDepth 100000 in
theorem wl_wsL_law0_r40 : ∀ w ∈ wsL_law0_r40, w ∈ lw_tbl ++ lw_up := inT [(6, 123), (3, 14), (3, 15), (3, 16), (3, 17), (3, 18), (3, 20), (0, 2), (3, 21), (3, 22), (3, 24), (3, 25), (3, 26), (3, 27), (3, 28), (3, 29), (3, 30), (3, 31), (3, 32), (3, 33), (3, 34), (3, 35), (3, 6), (3, 7)] rfl
set_option maxRecDepth 100000 in
theorem wl_wsL_law0_r41 : ∀ w ∈ wsL_law0_r41, w ∈ lw_tbl ++ lw_up := inT [(3, 8), (3, 9), (3, 10), (3, 11), (3, 12), (3, 13), (2, 127), (2, 128), (2, 129), (2, 130), (2, 202), (2, 203), (2, 204), (2, 225), (2, 226), (2, 227), (2, 228), (3, 36), (3, 37), (3, 38), (3, 39), (3, 72), (3, 73), (3, 74)] rfl
set_option maxRecDepth 100000 in
theorem wl_wsL_law0_r42 : ∀ w ∈ wsL_law0_r42, w ∈ lw_tbl ++ lw_up := inT [(3, 75), (3, 76), (3, 86), (3, 87), (3, 88), (3, 89), (2, 123), (2, 124), (2, 125), (2, 126), (3, 173), (3, 174), (3, 175), (3, 176), (3, 58), (3, 59), (3, 60), (3, 61), (3, 44), (3, 46), (0, 3), (3, 47), (3, 48), (3, 54)] rfl
set_option maxRecDepth 100000 in
theorem wl_wsL_law0_r43 : ∀ w ∈ wsL_law0_r43, w ∈ lw_tbl ++ lw_up := inT [(3, 62), (3, 63), (3, 64), (3, 65), (3, 66), (3, 71), (3, 40), (3, 41), (3, 42), (3, 43), (3, 99), (3, 100), (3, 101), (3, 102), (3, 94), (3, 133), (3, 134), (3, 135), (3, 136), (3, 137), (3, 138), (3, 139), (3, 140), (3, 150)] rfl
set_option maxRecDepth 100000 in
theorem wl_wsL_law0_r44 : ∀ w ∈ wsL_law0_r44, w ∈ lw_tbl ++ lw_up := inT [(3, 156), (3, 157), (3, 158), (3, 159), (3, 169), (3, 170), (3, 171), (3, 172), (3, 113), (3, 114), (3, 115), (3, 116), (3, 117), (3, 118), (3, 119), (3, 120), (3, 130), (3, 109), (3, 110), (3, 111), (3, 112), (3, 124), (3, 90), (3, 91)] rfl
set_option maxRecDepth 100000 in
theorem wl_wsL_law0_r45 : ∀ w ∈ wsL_law0_r45, w ∈ lw_tbl ++ lw_up := inT [(3, 92), (3, 93)] rfl
