set_option maxHeartbeats 4000000 in
set_option maxRecDepth 100000 in
theorem c_step {p : Program} {e : Env} {R : Room} {s : State} {m : MethodId} {below : List Frame} {meth : Method} {c : Code} {Q : State → Prop} {b L : Nat} {xs : Nat → Int32} {H : Heap} {locs : List Loc} {ls : Array Slot} {cells slots : Nat} (l : Launch) (hfl : l.stackTraces = false) (g : GP) (ad : Nat → Nat) (n : Nat) (K : Nat → Nat) (F : Nat) (S0 : St) (o1 o2 o3 o4 : Nat) (i v : Int32) (hC : Cx g p s m #[.ref b] c cL_law RL lw_tbl 9) (hX : va_X b L xs s s.heap) (hbl : b < s.heap.size) (hGs : GF g (fun q : Nat => s.heap.size ≤ q) s s.heap) (hW : Wb g ad n K S0 (fun q : Nat => s.heap.size ≤ q) H) (hS : va_S (fun q : Nat => s.heap.size ≤ q) s.heap H locs) (t1 : o1 < n ∧ K o1 = 9) (t2 : o2 < n ∧ K o2 = 10) (t3 : o3 < n ∧ K o3 = 13) (t4 : o4 < n ∧ K o4 = 17) (hl : lv_has ls 9 [(5, .int i), (4, .ref (ad o4)), (3, .ref (ad o3)), (2, .ref (ad o2)), (1, .ref (ad o1)), (0, .ref b)]) (hRf : 13 ≤ R.frames) (hRl : 280 ≤ R.locals) (hRc : cells + 20 ≤ R.cells) (hRs : slots + 8189 ≤ R.slots) (S9 : St) (n9 : Nat) (hf : f_step F xs L S0 n o1 o2 o3 o4 i v = some (S9, n9))
    (kk : ∀ (ad9 K9 : Nat → Nat) (H1 : Heap) (locs1 : List Loc) (ls1 : Array Slot), Ag ad K n ad9 K9 n9 → Wb g ad9 n9 K9 S9 (fun q : Nat => s.heap.size ≤ q) H1 → va_S (fun q : Nat => s.heap.size ≤ q) s.heap H1 locs1 → lv_has ls1 9 [(5, .int i), (4, .ref (ad9 o4)), (3, .ref (ad9 o3)), (2, .ref (ad9 o2)), (1, .ref (ad9 o1)), (0, .ref b)] → W p l e R s m #[.ref b] below meth c H1 locs1 (cells + 20) (slots + 8189) Q (F0 m 3297 ls1 [])) :
    W p l e R s m #[.ref b] below meth c H locs cells slots Q (F0 m 45 ls [.int v]) := by
  have hx := hC.1
  have hb := hC.2.1
  unfold f_step at hf
  by_cases hd : v.toInt < 0 ∨ 58 < v.toInt
  · replace hf := ifT hd hf
    obtain ⟨e1, e2⟩ := so2 hf
    subst e1
    subst e2
    refine lv_tableOut (tgt := 3297) hx hb dL_law_45 hd (by decide) ?_
    refine W.widen (k := cells + 20) (n := slots + 8189) (by omega) (by omega) ?_
    exact kk ad K _ _ ls Ag.rf hW hS hl
  replace hf := ifF hd hf
  by_cases c0 : v = 0
  · replace hf := ifT c0 hf
    refine lv_tableIn (tgt := 296) hx hb dL_law_45 (by rw [c0]; decide) (by rw [c0]; decide) (by rw [c0]; rfl) (by decide) ?_
    exact c_law0 l hfl g ad n K F S0 o1 o2 o3 o4 i hC hX hbl hGs hW hS t1 t2 t3 t4 hl hRf hRl hRc hRs S9 n9 hf kk
  replace hf := ifF c0 hf
  by_cases c1 : v = 1
  · replace hf := ifT c1 hf
    refine lv_tableIn (tgt := 400) hx hb dL_law_45 (by rw [c1]; decide) (by rw [c1]; decide) (by rw [c1]; rfl) (by decide) ?_
    exact c_law1 l hfl g ad n K F S0 o1 o2 o3 o4 i hC hX hbl hGs hW hS t1 t2 t3 t4 hl hRf hRl hRc hRs S9 n9 hf kk
  replace hf := ifF c1 hf
  by_cases c2 : v = 2
  · replace hf := ifT c2 hf
    refine lv_tableIn (tgt := 436) hx hb dL_law_45 (by rw [c2]; decide) (by rw [c2]; decide) (by rw [c2]; rfl) (by decide) ?_
    exact c_law2 l hfl g ad n K F S0 o1 o2 o3 o4 i hC hX hbl hGs hW hS t1 t2 t3 t4 hl hRf hRl hRc hRs S9 n9 hf kk
  replace hf := ifF c2 hf
  by_cases c3 : v = 3
  · replace hf := ifT c3 hf
    refine lv_tableIn (tgt := 449) hx hb dL_law_45 (by rw [c3]; decide) (by rw [c3]; decide) (by rw [c3]; rfl) (by decide) ?_
    exact c_law3 l hfl g ad n K F S0 o1 o2 o3 o4 i hC hX hbl hGs hW hS t1 t2 t3 t4 hl hRf hRl hRc hRs S9 n9 hf kk
  replace hf := ifF c3 hf
  by_cases c4 : v = 4
  · replace hf := ifT c4 hf
    refine lv_tableIn (tgt := 462) hx hb dL_law_45 (by rw [c4]; decide) (by rw [c4]; decide) (by rw [c4]; rfl) (by decide) ?_
    exact c_law4 l hfl g ad n K F S0 o1 o2 o3 o4 i hC hX hbl hGs hW hS t1 t2 t3 t4 hl hRf hRl hRc hRs S9 n9 hf kk
  replace hf := ifF c4 hf
  by_cases c5 : v = 5
  · replace hf := ifT c5 hf
    refine lv_tableIn (tgt := 475) hx hb dL_law_45 (by rw [c5]; decide) (by rw [c5]; decide) (by rw [c5]; rfl) (by decide) ?_
    exact c_law5 l hfl g ad n K F S0 o1 o2 o3 o4 i hC hX hbl hGs hW hS t1 t2 t3 t4 hl hRf hRl hRc hRs S9 n9 hf kk
  replace hf := ifF c5 hf
  by_cases c6 : v = 6
  · replace hf := ifT c6 hf
    refine lv_tableIn (tgt := 531) hx hb dL_law_45 (by rw [c6]; decide) (by rw [c6]; decide) (by rw [c6]; rfl) (by decide) ?_
    exact c_law6 l hfl g ad n K F S0 o1 o2 o3 o4 i hC hX hbl hGs hW hS t1 t2 t3 t4 hl hRf hRl hRc hRs S9 n9 hf kk
  replace hf := ifF c6 hf
  by_cases c7 : v = 7
  · replace hf := ifT c7 hf
    refine lv_tableIn (tgt := 587) hx hb dL_law_45 (by rw [c7]; decide) (by rw [c7]; decide) (by rw [c7]; rfl) (by decide) ?_
    exact c_law7 l hfl g ad n K F S0 o1 o2 o3 o4 i hC hX hbl hGs hW hS t1 t2 t3 t4 hl hRf hRl hRc hRs S9 n9 hf kk
  replace hf := ifF c7 hf
  by_cases c8 : v = 8
  · replace hf := ifT c8 hf
    refine lv_tableIn (tgt := 643) hx hb dL_law_45 (by rw [c8]; decide) (by rw [c8]; decide) (by rw [c8]; rfl) (by decide) ?_
    exact c_law8 l hfl g ad n K F S0 o1 o2 o3 o4 i hC hX hbl hGs hW hS t1 t2 t3 t4 hl hRf hRl hRc hRs S9 n9 hf kk
  replace hf := ifF c8 hf
  by_cases c9 : v = 9
  · replace hf := ifT c9 hf
    refine lv_tableIn (tgt := 711) hx hb dL_law_45 (by rw [c9]; decide) (by rw [c9]; decide) (by rw [c9]; rfl) (by decide) ?_
    exact c_law9 l hfl g ad n K F S0 o1 o2 o3 o4 i hC hX hbl hGs hW hS t1 t2 t3 t4 hl hRf hRl hRc hRs S9 n9 hf kk
  replace hf := ifF c9 hf
  by_cases c10 : v = 10
  · replace hf := ifT c10 hf
    refine lv_tableIn (tgt := 767) hx hb dL_law_45 (by rw [c10]; decide) (by rw [c10]; decide) (by rw [c10]; rfl) (by decide) ?_
    exact c_law10 l hfl g ad n K F S0 o1 o2 o3 o4 i hC hX hbl hGs hW hS t1 t2 t3 t4 hl hRf hRl hRc hRs S9 n9 hf kk
  replace hf := ifF c10 hf
  by_cases c11 : v = 11
  · replace hf := ifT c11 hf
    refine lv_tableIn (tgt := 780) hx hb dL_law_45 (by rw [c11]; decide) (by rw [c11]; decide) (by rw [c11]; rfl) (by decide) ?_
    exact c_law11 l hfl g ad n K F S0 o1 o2 o3 o4 i hC hX hbl hGs hW hS t1 t2 t3 t4 hl hRf hRl hRc hRs S9 n9 hf kk
  replace hf := ifF c11 hf
  by_cases c12 : v = 12
  · replace hf := ifT c12 hf
    refine lv_tableIn (tgt := 860) hx hb dL_law_45 (by rw [c12]; decide) (by rw [c12]; decide) (by rw [c12]; rfl) (by decide) ?_
    exact c_law12 l hfl g ad n K F S0 o1 o2 o3 o4 i hC hX hbl hGs hW hS t1 t2 t3 t4 hl hRf hRl hRc hRs S9 n9 hf kk
  replace hf := ifF c12 hf
  by_cases c13 : v = 13
  · replace hf := ifT c13 hf
    refine lv_tableIn (tgt := 873) hx hb dL_law_45 (by rw [c13]; decide) (by rw [c13]; decide) (by rw [c13]; rfl) (by decide) ?_
    exact c_law13 l hfl g ad n K F S0 o1 o2 o3 o4 i hC hX hbl hGs hW hS t1 t2 t3 t4 hl hRf hRl hRc hRs S9 n9 hf kk
  replace hf := ifF c13 hf
  by_cases c14 : v = 14
  · replace hf := ifT c14 hf
    refine lv_tableIn (tgt := 886) hx hb dL_law_45 (by rw [c14]; decide) (by rw [c14]; decide) (by rw [c14]; rfl) (by decide) ?_
    exact c_law14 l hfl g ad n K F S0 o1 o2 o3 o4 i hC hX hbl hGs hW hS t1 t2 t3 t4 hl hRf hRl hRc hRs S9 n9 hf kk
  replace hf := ifF c14 hf
  by_cases c15 : v = 15
  · replace hf := ifT c15 hf
    refine lv_tableIn (tgt := 954) hx hb dL_law_45 (by rw [c15]; decide) (by rw [c15]; decide) (by rw [c15]; rfl) (by decide) ?_
    exact c_law15 l hfl g ad n K F S0 o1 o2 o3 o4 i hC hX hbl hGs hW hS t1 t2 t3 t4 hl hRf hRl hRc hRs S9 n9 hf kk
  replace hf := ifF c15 hf
  by_cases c16 : v = 16
  · replace hf := ifT c16 hf
    refine lv_tableIn (tgt := 1022) hx hb dL_law_45 (by rw [c16]; decide) (by rw [c16]; decide) (by rw [c16]; rfl) (by decide) ?_
    exact c_law16 l hfl g ad n K F S0 o1 o2 o3 o4 i hC hX hbl hGs hW hS t1 t2 t3 t4 hl hRf hRl hRc hRs S9 n9 hf kk
  replace hf := ifF c16 hf
  by_cases c17 : v = 17
  · replace hf := ifT c17 hf
    refine lv_tableIn (tgt := 1078) hx hb dL_law_45 (by rw [c17]; decide) (by rw [c17]; decide) (by rw [c17]; rfl) (by decide) ?_
    exact c_law17 l hfl g ad n K F S0 o1 o2 o3 o4 i hC hX hbl hGs hW hS t1 t2 t3 t4 hl hRf hRl hRc hRs S9 n9 hf kk
  replace hf := ifF c17 hf
  by_cases c18 : v = 18
  · replace hf := ifT c18 hf
    refine lv_tableIn (tgt := 1134) hx hb dL_law_45 (by rw [c18]; decide) (by rw [c18]; decide) (by rw [c18]; rfl) (by decide) ?_
    exact c_law18 l hfl g ad n K F S0 o1 o2 o3 o4 i hC hX hbl hGs hW hS t1 t2 t3 t4 hl hRf hRl hRc hRs S9 n9 hf kk
  replace hf := ifF c18 hf
  by_cases c19 : v = 19
  · replace hf := ifT c19 hf
    refine lv_tableIn (tgt := 1202) hx hb dL_law_45 (by rw [c19]; decide) (by rw [c19]; decide) (by rw [c19]; rfl) (by decide) ?_
    exact c_law19 l hfl g ad n K F S0 o1 o2 o3 o4 i hC hX hbl hGs hW hS t1 t2 t3 t4 hl hRf hRl hRc hRs S9 n9 hf kk
  replace hf := ifF c19 hf
  by_cases c20 : v = 20
  · replace hf := ifT c20 hf
    refine lv_tableIn (tgt := 1270) hx hb dL_law_45 (by rw [c20]; decide) (by rw [c20]; decide) (by rw [c20]; rfl) (by decide) ?_
    exact c_law20 l hfl g ad n K F S0 o1 o2 o3 o4 i hC hX hbl hGs hW hS t1 t2 t3 t4 hl hRf hRl hRc hRs S9 n9 hf kk
  replace hf := ifF c20 hf
  by_cases c21 : v = 21
  · replace hf := ifT c21 hf
    refine lv_tableIn (tgt := 1338) hx hb dL_law_45 (by rw [c21]; decide) (by rw [c21]; decide) (by rw [c21]; rfl) (by decide) ?_
    exact c_law21 l hfl g ad n K F S0 o1 o2 o3 o4 i hC hX hbl hGs hW hS t1 t2 t3 t4 hl hRf hRl hRc hRs S9 n9 hf kk
  replace hf := ifF c21 hf
  by_cases c22 : v = 22
  · replace hf := ifT c22 hf
    refine lv_tableIn (tgt := 1406) hx hb dL_law_45 (by rw [c22]; decide) (by rw [c22]; decide) (by rw [c22]; rfl) (by decide) ?_
    exact c_law22 l hfl g ad n K F S0 o1 o2 o3 o4 i hC hX hbl hGs hW hS t1 t2 t3 t4 hl hRf hRl hRc hRs S9 n9 hf kk
  replace hf := ifF c22 hf
  by_cases c23 : v = 23
  · replace hf := ifT c23 hf
    refine lv_tableIn (tgt := 1481) hx hb dL_law_45 (by rw [c23]; decide) (by rw [c23]; decide) (by rw [c23]; rfl) (by decide) ?_
    exact c_law23 l hfl g ad n K F S0 o1 o2 o3 o4 i hC hX hbl hGs hW hS t1 t2 t3 t4 hl hRf hRl hRc hRs S9 n9 hf kk
  replace hf := ifF c23 hf
  by_cases c24 : v = 24
  · replace hf := ifT c24 hf
    refine lv_tableIn (tgt := 1549) hx hb dL_law_45 (by rw [c24]; decide) (by rw [c24]; decide) (by rw [c24]; rfl) (by decide) ?_
    exact c_law24 l hfl g ad n K F S0 o1 o2 o3 o4 i hC hX hbl hGs hW hS t1 t2 t3 t4 hl hRf hRl hRc hRs S9 n9 hf kk
  replace hf := ifF c24 hf
  by_cases c25 : v = 25
  · replace hf := ifT c25 hf
    refine lv_tableIn (tgt := 1562) hx hb dL_law_45 (by rw [c25]; decide) (by rw [c25]; decide) (by rw [c25]; rfl) (by decide) ?_
    exact c_law25 l hfl g ad n K F S0 o1 o2 o3 o4 i hC hX hbl hGs hW hS t1 t2 t3 t4 hl hRf hRl hRc hRs S9 n9 hf kk
  replace hf := ifF c25 hf
  by_cases c26 : v = 26
  · replace hf := ifT c26 hf
    refine lv_tableIn (tgt := 1618) hx hb dL_law_45 (by rw [c26]; decide) (by rw [c26]; decide) (by rw [c26]; rfl) (by decide) ?_
    exact c_law26 l hfl g ad n K F S0 o1 o2 o3 o4 i hC hX hbl hGs hW hS t1 t2 t3 t4 hl hRf hRl hRc hRs S9 n9 hf kk
  replace hf := ifF c26 hf
  by_cases c27 : v = 27
  · replace hf := ifT c27 hf
    refine lv_tableIn (tgt := 1686) hx hb dL_law_45 (by rw [c27]; decide) (by rw [c27]; decide) (by rw [c27]; rfl) (by decide) ?_
    exact c_law27 l hfl g ad n K F S0 o1 o2 o3 o4 i hC hX hbl hGs hW hS t1 t2 t3 t4 hl hRf hRl hRc hRs S9 n9 hf kk
  replace hf := ifF c27 hf
  by_cases c28 : v = 28
  · replace hf := ifT c28 hf
    refine lv_tableIn (tgt := 1754) hx hb dL_law_45 (by rw [c28]; decide) (by rw [c28]; decide) (by rw [c28]; rfl) (by decide) ?_
    exact c_law28 l hfl g ad n K F S0 o1 o2 o3 o4 i hC hX hbl hGs hW hS t1 t2 t3 t4 hl hRf hRl hRc hRs S9 n9 hf kk
  replace hf := ifF c28 hf
  by_cases c29 : v = 29
  · replace hf := ifT c29 hf
    refine lv_tableIn (tgt := 1809) hx hb dL_law_45 (by rw [c29]; decide) (by rw [c29]; decide) (by rw [c29]; rfl) (by decide) ?_
    exact c_law29 l hfl g ad n K F S0 o1 o2 o3 o4 i hC hX hbl hGs hW hS t1 t2 t3 t4 hl hRf hRl hRc hRs S9 n9 hf kk
  replace hf := ifF c29 hf
  by_cases c30 : v = 30
  · replace hf := ifT c30 hf
    refine lv_tableIn (tgt := 1822) hx hb dL_law_45 (by rw [c30]; decide) (by rw [c30]; decide) (by rw [c30]; rfl) (by decide) ?_
    exact c_law30 l hfl g ad n K F S0 o1 o2 o3 o4 i hC hX hbl hGs hW hS t1 t2 t3 t4 hl hRf hRl hRc hRs S9 n9 hf kk
  replace hf := ifF c30 hf
  by_cases c31 : v = 31
  · replace hf := ifT c31 hf
    refine lv_tableIn (tgt := 1835) hx hb dL_law_45 (by rw [c31]; decide) (by rw [c31]; decide) (by rw [c31]; rfl) (by decide) ?_
    exact c_law31 l hfl g ad n K F S0 o1 o2 o3 o4 i hC hX hbl hGs hW hS t1 t2 t3 t4 hl hRf hRl hRc hRs S9 n9 hf kk
  replace hf := ifF c31 hf
  by_cases c32 : v = 32
  · replace hf := ifT c32 hf
    refine lv_tableIn (tgt := 1848) hx hb dL_law_45 (by rw [c32]; decide) (by rw [c32]; decide) (by rw [c32]; rfl) (by decide) ?_
    exact c_law32 l hfl g ad n K F S0 o1 o2 o3 o4 i hC hX hbl hGs hW hS t1 t2 t3 t4 hl hRf hRl hRc hRs S9 n9 hf kk
  replace hf := ifF c32 hf
  by_cases c33 : v = 33
  · replace hf := ifT c33 hf
    refine lv_tableIn (tgt := 1861) hx hb dL_law_45 (by rw [c33]; decide) (by rw [c33]; decide) (by rw [c33]; rfl) (by decide) ?_
    exact c_law33 l hfl g ad n K F S0 o1 o2 o3 o4 i hC hX hbl hGs hW hS t1 t2 t3 t4 hl hRf hRl hRc hRs S9 n9 hf kk
  replace hf := ifF c33 hf
  by_cases c34 : v = 34
  · replace hf := ifT c34 hf
    refine lv_tableIn (tgt := 1917) hx hb dL_law_45 (by rw [c34]; decide) (by rw [c34]; decide) (by rw [c34]; rfl) (by decide) ?_
    exact c_law34 l hfl g ad n K F S0 o1 o2 o3 o4 i hC hX hbl hGs hW hS t1 t2 t3 t4 hl hRf hRl hRc hRs S9 n9 hf kk
  replace hf := ifF c34 hf
  by_cases c35 : v = 35
  · replace hf := ifT c35 hf
    refine lv_tableIn (tgt := 1973) hx hb dL_law_45 (by rw [c35]; decide) (by rw [c35]; decide) (by rw [c35]; rfl) (by decide) ?_
    exact c_law35 l hfl g ad n K F S0 o1 o2 o3 o4 i hC hX hbl hGs hW hS t1 t2 t3 t4 hl hRf hRl hRc hRs S9 n9 hf kk
  replace hf := ifF c35 hf
  by_cases c36 : v = 36
  · replace hf := ifT c36 hf
    refine lv_tableIn (tgt := 2050) hx hb dL_law_45 (by rw [c36]; decide) (by rw [c36]; decide) (by rw [c36]; rfl) (by decide) ?_
    exact c_law36 l hfl g ad n K F S0 o1 o2 o3 o4 i hC hX hbl hGs hW hS t1 t2 t3 t4 hl hRf hRl hRc hRs S9 n9 hf kk
  replace hf := ifF c36 hf
  by_cases c37 : v = 37
  · replace hf := ifT c37 hf
    refine lv_tableIn (tgt := 2118) hx hb dL_law_45 (by rw [c37]; decide) (by rw [c37]; decide) (by rw [c37]; rfl) (by decide) ?_
    exact c_law37 l hfl g ad n K F S0 o1 o2 o3 o4 i hC hX hbl hGs hW hS t1 t2 t3 t4 hl hRf hRl hRc hRs S9 n9 hf kk
  replace hf := ifF c37 hf
  by_cases c38 : v = 38
  · replace hf := ifT c38 hf
    refine lv_tableIn (tgt := 2174) hx hb dL_law_45 (by rw [c38]; decide) (by rw [c38]; decide) (by rw [c38]; rfl) (by decide) ?_
    exact c_law38 l hfl g ad n K F S0 o1 o2 o3 o4 i hC hX hbl hGs hW hS t1 t2 t3 t4 hl hRf hRl hRc hRs S9 n9 hf kk
  replace hf := ifF c38 hf
  by_cases c39 : v = 39
  · replace hf := ifT c39 hf
    refine lv_tableIn (tgt := 2242) hx hb dL_law_45 (by rw [c39]; decide) (by rw [c39]; decide) (by rw [c39]; rfl) (by decide) ?_
    exact c_law39 l hfl g ad n K F S0 o1 o2 o3 o4 i hC hX hbl hGs hW hS t1 t2 t3 t4 hl hRf hRl hRc hRs S9 n9 hf kk
  replace hf := ifF c39 hf
  by_cases c40 : v = 40
  · replace hf := ifT c40 hf
    refine lv_tableIn (tgt := 2322) hx hb dL_law_45 (by rw [c40]; decide) (by rw [c40]; decide) (by rw [c40]; rfl) (by decide) ?_
    exact c_law40 l hfl g ad n K F S0 o1 o2 o3 o4 i hC hX hbl hGs hW hS t1 t2 t3 t4 hl hRf hRl hRc hRs S9 n9 hf kk
  replace hf := ifF c40 hf
  by_cases c41 : v = 41
  · replace hf := ifT c41 hf
    refine lv_tableIn (tgt := 2390) hx hb dL_law_45 (by rw [c41]; decide) (by rw [c41]; decide) (by rw [c41]; rfl) (by decide) ?_
    exact c_law41 l hfl g ad n K F S0 o1 o2 o3 o4 i hC hX hbl hGs hW hS t1 t2 t3 t4 hl hRf hRl hRc hRs S9 n9 hf kk
  replace hf := ifF c41 hf
  by_cases c42 : v = 42
  · replace hf := ifT c42 hf
    refine lv_tableIn (tgt := 2458) hx hb dL_law_45 (by rw [c42]; decide) (by rw [c42]; decide) (by rw [c42]; rfl) (by decide) ?_
    exact c_law42 l hfl g ad n K F S0 o1 o2 o3 o4 i hC hX hbl hGs hW hS t1 t2 t3 t4 hl hRf hRl hRc hRs S9 n9 hf kk
  replace hf := ifF c42 hf
  by_cases c43 : v = 43
  · replace hf := ifT c43 hf
    refine lv_tableIn (tgt := 2521) hx hb dL_law_45 (by rw [c43]; decide) (by rw [c43]; decide) (by rw [c43]; rfl) (by decide) ?_
    exact c_law43 l hfl g ad n K F S0 o1 o2 o3 o4 i hC hX hbl hGs hW hS t1 t2 t3 t4 hl hRf hRl hRc hRs S9 n9 hf kk
  replace hf := ifF c43 hf
  by_cases c44 : v = 44
  · replace hf := ifT c44 hf
    refine lv_tableIn (tgt := 2605) hx hb dL_law_45 (by rw [c44]; decide) (by rw [c44]; decide) (by rw [c44]; rfl) (by decide) ?_
    exact c_law44 l hfl g ad n K F S0 o1 o2 o3 o4 i hC hX hbl hGs hW hS t1 t2 t3 t4 hl hRf hRl hRc hRs S9 n9 hf kk
  replace hf := ifF c44 hf
  by_cases c45 : v = 45
  · replace hf := ifT c45 hf
    refine lv_tableIn (tgt := 2661) hx hb dL_law_45 (by rw [c45]; decide) (by rw [c45]; decide) (by rw [c45]; rfl) (by decide) ?_
    exact c_law45 l hfl g ad n K F S0 o1 o2 o3 o4 i hC hX hbl hGs hW hS t1 t2 t3 t4 hl hRf hRl hRc hRs S9 n9 hf kk
  replace hf := ifF c45 hf
  by_cases c46 : v = 46
  · replace hf := ifT c46 hf
    refine lv_tableIn (tgt := 2729) hx hb dL_law_45 (by rw [c46]; decide) (by rw [c46]; decide) (by rw [c46]; rfl) (by decide) ?_
    exact c_law46 l hfl g ad n K F S0 o1 o2 o3 o4 i hC hX hbl hGs hW hS t1 t2 t3 t4 hl hRf hRl hRc hRs S9 n9 hf kk
  replace hf := ifF c46 hf
  by_cases c47 : v = 47
  · replace hf := ifT c47 hf
    refine lv_tableIn (tgt := 2785) hx hb dL_law_45 (by rw [c47]; decide) (by rw [c47]; decide) (by rw [c47]; rfl) (by decide) ?_
    exact c_law47 l hfl g ad n K F S0 o1 o2 o3 o4 i hC hX hbl hGs hW hS t1 t2 t3 t4 hl hRf hRl hRc hRs S9 n9 hf kk
  replace hf := ifF c47 hf
  by_cases c48 : v = 48
  · replace hf := ifT c48 hf
    refine lv_tableIn (tgt := 2798) hx hb dL_law_45 (by rw [c48]; decide) (by rw [c48]; decide) (by rw [c48]; rfl) (by decide) ?_
    exact c_law48 l hfl g ad n K F S0 o1 o2 o3 o4 i hC hX hbl hGs hW hS t1 t2 t3 t4 hl hRf hRl hRc hRs S9 n9 hf kk
  replace hf := ifF c48 hf
  by_cases c49 : v = 49
  · replace hf := ifT c49 hf
    refine lv_tableIn (tgt := 2854) hx hb dL_law_45 (by rw [c49]; decide) (by rw [c49]; decide) (by rw [c49]; rfl) (by decide) ?_
    exact c_law49 l hfl g ad n K F S0 o1 o2 o3 o4 i hC hX hbl hGs hW hS t1 t2 t3 t4 hl hRf hRl hRc hRs S9 n9 hf kk
  replace hf := ifF c49 hf
  by_cases c50 : v = 50
  · replace hf := ifT c50 hf
    refine lv_tableIn (tgt := 2867) hx hb dL_law_45 (by rw [c50]; decide) (by rw [c50]; decide) (by rw [c50]; rfl) (by decide) ?_
    exact c_law50 l hfl g ad n K F S0 o1 o2 o3 o4 i hC hX hbl hGs hW hS t1 t2 t3 t4 hl hRf hRl hRc hRs S9 n9 hf kk
  replace hf := ifF c50 hf
  by_cases c51 : v = 51
  · replace hf := ifT c51 hf
    refine lv_tableIn (tgt := 2923) hx hb dL_law_45 (by rw [c51]; decide) (by rw [c51]; decide) (by rw [c51]; rfl) (by decide) ?_
    exact c_law51 l hfl g ad n K F S0 o1 o2 o3 o4 i hC hX hbl hGs hW hS t1 t2 t3 t4 hl hRf hRl hRc hRs S9 n9 hf kk
  replace hf := ifF c51 hf
  by_cases c52 : v = 52
  · replace hf := ifT c52 hf
    refine lv_tableIn (tgt := 2991) hx hb dL_law_45 (by rw [c52]; decide) (by rw [c52]; decide) (by rw [c52]; rfl) (by decide) ?_
    exact c_law52 l hfl g ad n K F S0 o1 o2 o3 o4 i hC hX hbl hGs hW hS t1 t2 t3 t4 hl hRf hRl hRc hRs S9 n9 hf kk
  replace hf := ifF c52 hf
  by_cases c53 : v = 53
  · replace hf := ifT c53 hf
    refine lv_tableIn (tgt := 3004) hx hb dL_law_45 (by rw [c53]; decide) (by rw [c53]; decide) (by rw [c53]; rfl) (by decide) ?_
    exact c_law53 l hfl g ad n K F S0 o1 o2 o3 o4 i hC hX hbl hGs hW hS t1 t2 t3 t4 hl hRf hRl hRc hRs S9 n9 hf kk
  replace hf := ifF c53 hf
  by_cases c54 : v = 54
  · replace hf := ifT c54 hf
    refine lv_tableIn (tgt := 3072) hx hb dL_law_45 (by rw [c54]; decide) (by rw [c54]; decide) (by rw [c54]; rfl) (by decide) ?_
    exact c_law54 l hfl g ad n K F S0 o1 o2 o3 o4 i hC hX hbl hGs hW hS t1 t2 t3 t4 hl hRf hRl hRc hRs S9 n9 hf kk
  replace hf := ifF c54 hf
  by_cases c55 : v = 55
  · replace hf := ifT c55 hf
    refine lv_tableIn (tgt := 3128) hx hb dL_law_45 (by rw [c55]; decide) (by rw [c55]; decide) (by rw [c55]; rfl) (by decide) ?_
    exact c_law55 l hfl g ad n K F S0 o1 o2 o3 o4 i hC hX hbl hGs hW hS t1 t2 t3 t4 hl hRf hRl hRc hRs S9 n9 hf kk
  replace hf := ifF c55 hf
  by_cases c56 : v = 56
  · replace hf := ifT c56 hf
    refine lv_tableIn (tgt := 3172) hx hb dL_law_45 (by rw [c56]; decide) (by rw [c56]; decide) (by rw [c56]; rfl) (by decide) ?_
    exact c_law56 l hfl g ad n K F S0 o1 o2 o3 o4 i hC hX hbl hGs hW hS t1 t2 t3 t4 hl hRf hRl hRc hRs S9 n9 hf kk
  replace hf := ifF c56 hf
  by_cases c57 : v = 57
  · replace hf := ifT c57 hf
    refine lv_tableIn (tgt := 3185) hx hb dL_law_45 (by rw [c57]; decide) (by rw [c57]; decide) (by rw [c57]; rfl) (by decide) ?_
    exact c_law57 l hfl g ad n K F S0 o1 o2 o3 o4 i hC hX hbl hGs hW hS t1 t2 t3 t4 hl hRf hRl hRc hRs S9 n9 hf kk
  replace hf := ifF c57 hf
  by_cases c58 : v = 58
  · replace hf := ifT c58 hf
    refine lv_tableIn (tgt := 3241) hx hb dL_law_45 (by rw [c58]; decide) (by rw [c58]; decide) (by rw [c58]; rfl) (by decide) ?_
    exact c_law58 l hfl g ad n K F S0 o1 o2 o3 o4 i hC hX hbl hGs hW hS t1 t2 t3 t4 hl hRf hRl hRc hRs S9 n9 hf kk
  replace hf := ifF c58 hf
  cases hf
