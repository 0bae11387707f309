set_option maxHeartbeats 4000000 in
set_option maxRecDepth 100000 in
theorem c_L_append (l : Launch) (hfl : l.stackTraces = false) (g : GP) (ad : Nat → Nat) (n : Nat) (K : Nat → Nat) (sz F : Nat) (S0 : St) (p0 : Nat) (p1 : Int32) (p2 : Int32) (p3 : Int32) (p4 : Int32) (p5 : Int32) (p6 : Nat) (tp0 : p0 < n ∧ K p0 = 9) (tp6 : p6 < n ∧ K p6 = 13) (r9 : Int32) (S9 : St) (hf : f_L_append F S0 p0 p1 p2 p3 p4 p5 p6 = some (r9, S9)) : Met l yL_append wsL_append { frames := 7, cells := 1, slots := 6, locals := 125 } (va_Pc [.ref (ad p0), .int p1, .int p2, .int p3, .int p4, .int p5, .ref (ad p6)] (PB g ad n K S0 sz)) (QR (some (.int r9)) (QB g ad n K S9 (dA ad n sz) (True)) (dA ad n sz)) 1 6 (dA ad n sz) := by
  refine x_ofWH (cc := cL_append) (maxL := 8) (ret := (some .int)) (hh := [(0, 16, 19, 13)]) (by decide) rfl ?_
  intro p e s m args below meth c s₁ B hml hv
  obtain ⟨rfl, hsz, hW, hK, hGs⟩ := x_start hv
  subst hsz
  have hx := B.exec
  have hb := B.bytes
  have hr := B.returns
  have hts := atoms_spec (ws := wsL_append) B.pre
  have hown : s.vm.findClass RL = some m.cls := findClass_of_methodNamed B.named
  have hlk := B.notSynchronized
  have htab := vx_table (x := yL_append) B (hts (.codeWith yL_append cL_append 8 (some .int) [(0, 16, 19, 13)]) (by decide +kernel))
  have hC : Cx g p s m _ c cL_append RL wsL_append 8 := ⟨hx, hb, hml, hown, hts, hK⟩
  have hA : ∀ q : Nat, s.heap.size ≤ q → dA ad n s.heap.size q := fun q h => Or.inr h
  have hS : va_S (dA ad n s.heap.size) s.heap s.heap [] := va_S.rf
  have hl := lv_entry ([.ref (ad p0), .int p1, .int p2, .int p3, .int p4, .int p5, .ref (ad p6)]) (n := 8) (Nat.le_of_ble_eq_true rfl)
  rw [lg_entry_eq]
  generalize (lg_sl ([.ref (ad p0), .int p1, .int p2, .int p3, .int p4, .int p5, .ref (ad p6)]) ++ List.replicate (8 - (lg_sl ([.ref (ad p0), .int p1, .int p2, .int p3, .int p4, .int p5, .ref (ad p6)])).length) Slot.unset).toArray = ls at hl ⊢
  have hl : lv_has ls 8 [(0, .ref (ad p0)), (1, .int p1), (2, .int p2), (3, .int p3), (4, .int p4), (5, .int p5), (6, .ref (ad p6))] := hl
  have w_0 := hts (.classLink RL 13 "java/lang/IllegalStateException") (by decide +kernel)
  have hGE := hGs.2.2.2.2.2.2.1
  have hGM := hGs.2.2.2.2.2.2.2.1
  unfold f_L_append at hf
  refine lv_aload hx hb dL_append_0 (lv_at hl 6 rfl) ?_
  refine lv_iconst (v := 0) hx hb dL_append_2 (by decide) ?_
  refine lv_aload_n hx hb dL_append_3 rfl (lv_at hl 0 rfl) ?_
  refine lv_iload_n hx hb dL_append_4 rfl (lv_at hl 1 rfl) ?_
  refine lv_iload_n hx hb dL_append_5 rfl (lv_at hl 2 rfl) ?_
  refine lv_iload_n hx hb dL_append_6 rfl (lv_at hl 3 rfl) ?_
  refine lv_iload hx hb dL_append_7 (lv_at hl 4 rfl) ?_
  refine lv_iload hx hb dL_append_9 (lv_at hl 5 rfl) ?_
  replace hf := obE hf
  obtain ⟨z1, hz1, hf⟩ := hf
  obtain ⟨oz1, S2⟩ := z1
  replace hf := ltE hf S2 rfl
  refine x_tcallV (As := [.int p1, .int p2, .int p3, .int p4, .int p5]) (rest := [.int 0, .ref (ad p6)]) (S1 := S2) (o := oz1) (vr := (fun r => some (.int r))) (P := True) hC hl.1 hW hS hGs hA tp0 rfl (show vwCl[9]? = some (RX10, TX10, 11) ∧ 9 < 11 from ⟨rfl, by decide⟩) (c_X10_append l hfl g ad n K s.heap.size F S0 p0 p1 p2 p3 p4 p5 tp0 oz1 S2 hz1) (cwV 5 hts gL_append_X10_append rfl rfl rfl (by decide +kernel) ⟨Nat.le_of_ble_eq_true rfl, Nat.le_of_ble_eq_true rfl⟩) rfl rfl (Nat.le_of_ble_eq_true rfl) dL_append_11 ⟨Nat.le_of_ble_eq_true rfl, Nat.le_of_ble_eq_true rfl⟩ (fun x5 H locs ce q9 ho hW hS hc1 hc2 hc3 => ?_) (fun r3 H locs ho hP hW hS => ?_)
  · replace hf := smL ho hf
    by_cases c9 : x5 = 1
    · replace hf := ifT c9 hf
      subst c9
      refine x_caught (x := 1) (name := "java/lang/IllegalStateException") hC hGs [] ⟨0, 16, 19, 13⟩ [] (htab.trans rfl) (fun _ h => absurd h List.not_mem_nil) ⟨by decide, by decide, rfl, by decide +kernel⟩ w_0 hc1 hc2 hc3 ?_
      refine lv_astore (lv' := [(7, .ref q9), (0, .ref (ad p0)), (1, .int p1), (2, .int p2), (3, .int p3), (4, .int p4), (5, .int p5), (6, .ref (ad p6))]) hx hb dL_append_19 hl (by decide) rfl (fun ls hl => ?_)
      refine lv_iconst (v := 1) hx hb dL_append_21 (by decide) ?_
      obtain ⟨e1, e2⟩ := so2 hf
      subst e1
      subst e2
      exact W.iret (v := 1) hx hb hr (fun t ht hWm => ⟨⟨rfl, by unfold QB; rw [ht]; exact ⟨hW, trivial⟩⟩, hS.F ht⟩) hS.2.2 dL_append_22 hlk
    · replace hf := ifF c9 hf
      cases hf
  · replace hf := smR ho hf
    refine W.widen (k := 1) (n := 6) (Nat.le_of_ble_eq_true rfl) (Nat.le_of_ble_eq_true rfl) ?_
    refine W.eq (g2 := F0 m 14 ls [.int r3, .int 0, .ref (ad p6)]) rfl ?_
    refine lv_i2l (v := r3.toInt64) hx hb dL_append_14 rfl ?_
    replace hf := ckiE hf
    obtain ⟨h10, hf⟩ := hf
    refine x_last hC hW hS tp6 rfl rfl h10 dL_append_15 (fun S11 H locs eS11 hW hS => ?_)
    replace hf := ltE hf S11 eS11
    refine lv_goto (tgt := 23) hx hb dL_append_16 (by decide) ?_
    refine lv_iconst (v := 0) hx hb dL_append_23 (by decide) ?_
    obtain ⟨e1, e2⟩ := so2 hf
    subst e1
    subst e2
    exact W.iret (v := 0) hx hb hr (fun t ht hWm => ⟨⟨rfl, by unfold QB; rw [ht]; exact ⟨hW, trivial⟩⟩, hS.F ht⟩) hS.2.2 dL_append_24 hlk
set_option maxHeartbeats 4000000 in
set_option maxRecDepth 100000 in
theorem c_L_truncate (l : Launch) (hfl : l.stackTraces = false) (g : GP) (ad : Nat → Nat) (n : Nat) (K : Nat → Nat) (sz F : Nat) (S0 : St) (p0 : Nat) (p1 : Int32) (tp0 : p0 < n ∧ K p0 = 9) (r9 : Int32) (S9 : St) (hf : f_L_truncate F S0 p0 p1 = some (r9, S9)) : Met l yL_truncate wsL_truncate { frames := 7, cells := 1, slots := 6, locals := 121 } (va_Pc [.ref (ad p0), .int p1] (PB g ad n K S0 sz)) (QR (some (.int r9)) (QB g ad n K S9 (dA ad n sz) (True)) (dA ad n sz)) 1 6 (dA ad n sz) := by
  refine x_ofWH (cc := cL_truncate) (maxL := 3) (ret := (some .int)) (hh := [(0, 5, 8, 19)]) (by decide) rfl ?_
  intro p e s m args below meth c s₁ B hml hv
  obtain ⟨rfl, hsz, hW, hK, hGs⟩ := x_start hv
  subst hsz
  have hx := B.exec
  have hb := B.bytes
  have hr := B.returns
  have hts := atoms_spec (ws := wsL_truncate) B.pre
  have hown : s.vm.findClass RL = some m.cls := findClass_of_methodNamed B.named
  have hlk := B.notSynchronized
  have htab := vx_table (x := yL_truncate) B (hts (.codeWith yL_truncate cL_truncate 3 (some .int) [(0, 5, 8, 19)]) (by decide +kernel))
  have hC : Cx g p s m _ c cL_truncate RL wsL_truncate 3 := ⟨hx, hb, hml, hown, hts, hK⟩
  have hA : ∀ q : Nat, s.heap.size ≤ q → dA ad n s.heap.size q := fun q h => Or.inr h
  have hS : va_S (dA ad n s.heap.size) s.heap s.heap [] := va_S.rf
  have hl := lv_entry ([.ref (ad p0), .int p1]) (n := 3) (Nat.le_of_ble_eq_true rfl)
  rw [lg_entry_eq]
  generalize (lg_sl ([.ref (ad p0), .int p1]) ++ List.replicate (3 - (lg_sl ([.ref (ad p0), .int p1])).length) Slot.unset).toArray = ls at hl ⊢
  have hl : lv_has ls 3 [(0, .ref (ad p0)), (1, .int p1)] := hl
  have w_0 := hts (.classLink RL 19 "java/lang/IllegalArgumentException") (by decide +kernel)
  have hGE := hGs.2.2.2.2.2.2.1
  have hGM := hGs.2.2.2.2.2.2.2.1
  unfold f_L_truncate at hf
  refine lv_aload_n hx hb dL_truncate_0 rfl (lv_at hl 0 rfl) ?_
  refine lv_iload_n hx hb dL_truncate_1 rfl (lv_at hl 1 rfl) ?_
  replace hf := obE hf
  obtain ⟨z1, hz1, hf⟩ := hf
  obtain ⟨oz1, S2⟩ := z1
  replace hf := ltE hf S2 rfl
  refine x_tcallV (As := [.int p1]) (rest := []) (S1 := S2) (o := oz1) (vr := (fun _ => none)) (P := True) hC hl.1 hW hS hGs hA tp0 rfl (show vwCl[9]? = some (RX10, TX10, 11) ∧ 9 < 11 from ⟨rfl, by decide⟩) (c_X10_truncate l hfl g ad n K s.heap.size F S0 p0 p1 tp0 oz1 S2 hz1) (cwV 1 hts gL_truncate_X10_truncate rfl rfl rfl (by decide +kernel) ⟨Nat.le_of_ble_eq_true rfl, Nat.le_of_ble_eq_true rfl⟩) rfl rfl (Nat.le_of_ble_eq_true rfl) dL_truncate_2 ⟨Nat.le_of_ble_eq_true rfl, Nat.le_of_ble_eq_true rfl⟩ (fun x5 H locs ce q9 ho hW hS hc1 hc2 hc3 => ?_) (fun r3 H locs ho hP hW hS => ?_)
  · replace hf := smL ho hf
    by_cases c9 : x5 = 2
    · replace hf := ifT c9 hf
      subst c9
      refine x_caught (x := 2) (name := "java/lang/IllegalArgumentException") hC hGs [] ⟨0, 5, 8, 19⟩ [] (htab.trans rfl) (fun _ h => absurd h List.not_mem_nil) ⟨by decide, by decide, rfl, by decide +kernel⟩ w_0 hc1 hc2 hc3 ?_
      refine lv_astore_n (lv' := [(2, .ref q9), (0, .ref (ad p0)), (1, .int p1)]) hx hb dL_truncate_8 rfl hl (by decide) rfl (fun ls hl => ?_)
      refine lv_iconst (v := 1) hx hb dL_truncate_9 (by decide) ?_
      obtain ⟨e1, e2⟩ := so2 hf
      subst e1
      subst e2
      exact W.iret (v := 1) hx hb hr (fun t ht hWm => ⟨⟨rfl, by unfold QB; rw [ht]; exact ⟨hW, trivial⟩⟩, hS.F ht⟩) hS.2.2 dL_truncate_10 hlk
    · replace hf := ifF c9 hf
      cases hf
  · replace hf := smR ho hf
    refine W.widen (k := 1) (n := 6) (Nat.le_of_ble_eq_true rfl) (Nat.le_of_ble_eq_true rfl) ?_
    refine W.eq (g2 := F0 m 5 ls []) rfl ?_
    refine lv_goto (tgt := 11) hx hb dL_truncate_5 (by decide) ?_
    refine lv_iconst (v := 0) hx hb dL_truncate_11 (by decide) ?_
    obtain ⟨e1, e2⟩ := so2 hf
    subst e1
    subst e2
    exact W.iret (v := 0) hx hb hr (fun t ht hWm => ⟨⟨rfl, by unfold QB; rw [ht]; exact ⟨hW, trivial⟩⟩, hS.F ht⟩) hS.2.2 dL_truncate_12 hlk
set_option maxHeartbeats 4000000 in
set_option maxRecDepth 100000 in
theorem c_L_find (l : Launch) (hfl : l.stackTraces = false) (g : GP) (ad : Nat → Nat) (n : Nat) (K : Nat → Nat) (sz F : Nat) (S0 : St) (p0 : Nat) (p1 : Int32) (p2 : Nat) (tp0 : p0 < n ∧ K p0 = 9) (tp2 : p2 < n ∧ K p2 = 13) (r9 : Int32) (S9 : St) (hf : f_L_find F S0 p0 p1 p2 = some (r9, S9)) : Met l yL_find wsL_find { frames := 8, cells := 1, slots := 6, locals := 142 } (va_Pc [.ref (ad p0), .int p1, .ref (ad p2)] (PB g ad n K S0 sz)) (QR (some (.int r9)) (QB g ad n K S9 (dA ad n sz) (True)) (dA ad n sz)) 1 6 (dA ad n sz) := by
  refine x_ofWH (cc := cL_find) (maxL := 4) (ret := (some .int)) (hh := [(0, 9, 12, 19)]) (by decide) rfl ?_
  intro p e s m args below meth c s₁ B hml hv
  obtain ⟨rfl, hsz, hW, hK, hGs⟩ := x_start hv
  subst hsz
  have hx := B.exec
  have hb := B.bytes
  have hr := B.returns
  have hts := atoms_spec (ws := wsL_find) B.pre
  have hown : s.vm.findClass RL = some m.cls := findClass_of_methodNamed B.named
  have hlk := B.notSynchronized
  have htab := vx_table (x := yL_find) B (hts (.codeWith yL_find cL_find 4 (some .int) [(0, 9, 12, 19)]) (by decide +kernel))
  have hC : Cx g p s m _ c cL_find RL wsL_find 4 := ⟨hx, hb, hml, hown, hts, hK⟩
  have hA : ∀ q : Nat, s.heap.size ≤ q → dA ad n s.heap.size q := fun q h => Or.inr h
  have hS : va_S (dA ad n s.heap.size) s.heap s.heap [] := va_S.rf
  have hl := lv_entry ([.ref (ad p0), .int p1, .ref (ad p2)]) (n := 4) (Nat.le_of_ble_eq_true rfl)
  rw [lg_entry_eq]
  generalize (lg_sl ([.ref (ad p0), .int p1, .ref (ad p2)]) ++ List.replicate (4 - (lg_sl ([.ref (ad p0), .int p1, .ref (ad p2)])).length) Slot.unset).toArray = ls at hl ⊢
  have hl : lv_has ls 4 [(0, .ref (ad p0)), (1, .int p1), (2, .ref (ad p2))] := hl
  have w_0 := hts (.classLink RL 19 "java/lang/IllegalArgumentException") (by decide +kernel)
  have hGE := hGs.2.2.2.2.2.2.1
  have hGM := hGs.2.2.2.2.2.2.2.1
  unfold f_L_find at hf
  refine lv_aload_n hx hb dL_find_0 rfl (lv_at hl 2 rfl) ?_
  refine lv_iconst (v := 0) hx hb dL_find_1 (by decide) ?_
  refine lv_aload_n hx hb dL_find_2 rfl (lv_at hl 0 rfl) ?_
  refine lv_iload_n hx hb dL_find_3 rfl (lv_at hl 1 rfl) ?_
  replace hf := obE hf
  obtain ⟨z1, hz1, hf⟩ := hf
  obtain ⟨oz1, S2⟩ := z1
  replace hf := ltE hf S2 rfl
  refine x_tcallV (As := [.int p1]) (rest := [.int 0, .ref (ad p2)]) (S1 := S2) (o := oz1) (vr := (fun r => some (.int r))) (P := True) hC hl.1 hW hS hGs hA tp0 rfl (show vwCl[9]? = some (RX10, TX10, 11) ∧ 9 < 11 from ⟨rfl, by decide⟩) (c_X10_find l hfl g ad n K s.heap.size F S0 p0 p1 tp0 oz1 S2 hz1) (cwV 1 hts gL_find_X10_find rfl rfl rfl (by decide +kernel) ⟨Nat.le_of_ble_eq_true rfl, Nat.le_of_ble_eq_true rfl⟩) rfl rfl (Nat.le_of_ble_eq_true rfl) dL_find_4 ⟨Nat.le_of_ble_eq_true rfl, Nat.le_of_ble_eq_true rfl⟩ (fun x5 H locs ce q9 ho hW hS hc1 hc2 hc3 => ?_) (fun r3 H locs ho hP hW hS => ?_)
  · replace hf := smL ho hf
    by_cases c9 : x5 = 2
    · replace hf := ifT c9 hf
      subst c9
      refine x_caught (x := 2) (name := "java/lang/IllegalArgumentException") hC hGs [] ⟨0, 9, 12, 19⟩ [] (htab.trans rfl) (fun _ h => absurd h List.not_mem_nil) ⟨by decide, by decide, rfl, by decide +kernel⟩ w_0 hc1 hc2 hc3 ?_
      refine lv_astore_n (lv' := [(3, .ref q9), (0, .ref (ad p0)), (1, .int p1), (2, .ref (ad p2))]) hx hb dL_find_12 rfl hl (by decide) rfl (fun ls hl => ?_)
      refine lv_iconst (v := 1) hx hb dL_find_13 (by decide) ?_
      obtain ⟨e1, e2⟩ := so2 hf
      subst e1
      subst e2
      exact W.iret (v := 1) hx hb hr (fun t ht hWm => ⟨⟨rfl, by unfold QB; rw [ht]; exact ⟨hW, trivial⟩⟩, hS.F ht⟩) hS.2.2 dL_find_14 hlk
    · replace hf := ifF c9 hf
      cases hf
  · replace hf := smR ho hf
    refine W.widen (k := 1) (n := 6) (Nat.le_of_ble_eq_true rfl) (Nat.le_of_ble_eq_true rfl) ?_
    refine W.eq (g2 := F0 m 7 ls [.int r3, .int 0, .ref (ad p2)]) rfl ?_
    refine lv_i2l (v := r3.toInt64) hx hb dL_find_7 rfl ?_
    replace hf := ckiE hf
    obtain ⟨h10, hf⟩ := hf
    refine x_last hC hW hS tp2 rfl rfl h10 dL_find_8 (fun S11 H locs eS11 hW hS => ?_)
    replace hf := ltE hf S11 eS11
    refine lv_goto (tgt := 15) hx hb dL_find_9 (by decide) ?_
    refine lv_iconst (v := 0) hx hb dL_find_15 (by decide) ?_
    obtain ⟨e1, e2⟩ := so2 hf
    subst e1
    subst e2
    exact W.iret (v := 0) hx hb hr (fun t ht hWm => ⟨⟨rfl, by unfold QB; rw [ht]; exact ⟨hW, trivial⟩⟩, hS.F ht⟩) hS.2.2 dL_find_16 hlk
set_option maxHeartbeats 4000000 in
set_option maxRecDepth 100000 in
theorem c_L_count (l : Launch) (hfl : l.stackTraces = false) (g : GP) (ad : Nat → Nat) (n : Nat) (K : Nat → Nat) (sz F : Nat) (S0 : St) (p0 : Nat) (p1 : Int32) (p2 : Nat) (tp0 : p0 < n ∧ K p0 = 9) (tp2 : p2 < n ∧ K p2 = 13) (r9 : Int32) (S9 : St) (hf : f_L_count F S0 p0 p1 p2 = some (r9, S9)) : Met l yL_count wsL_count { frames := 8, cells := 1, slots := 6, locals := 141 } (va_Pc [.ref (ad p0), .int p1, .ref (ad p2)] (PB g ad n K S0 sz)) (QR (some (.int r9)) (QB g ad n K S9 (dA ad n sz) (True)) (dA ad n sz)) 1 6 (dA ad n sz) := by
  refine x_ofWH (cc := cL_count) (maxL := 4) (ret := (some .int)) (hh := [(0, 9, 12, 19)]) (by decide) rfl ?_
  intro p e s m args below meth c s₁ B hml hv
  obtain ⟨rfl, hsz, hW, hK, hGs⟩ := x_start hv
  subst hsz
  have hx := B.exec
  have hb := B.bytes
  have hr := B.returns
  have hts := atoms_spec (ws := wsL_count) B.pre
  have hown : s.vm.findClass RL = some m.cls := findClass_of_methodNamed B.named
  have hlk := B.notSynchronized
  have htab := vx_table (x := yL_count) B (hts (.codeWith yL_count cL_count 4 (some .int) [(0, 9, 12, 19)]) (by decide +kernel))
  have hC : Cx g p s m _ c cL_count RL wsL_count 4 := ⟨hx, hb, hml, hown, hts, hK⟩
  have hA : ∀ q : Nat, s.heap.size ≤ q → dA ad n s.heap.size q := fun q h => Or.inr h
  have hS : va_S (dA ad n s.heap.size) s.heap s.heap [] := va_S.rf
  have hl := lv_entry ([.ref (ad p0), .int p1, .ref (ad p2)]) (n := 4) (Nat.le_of_ble_eq_true rfl)
  rw [lg_entry_eq]
  generalize (lg_sl ([.ref (ad p0), .int p1, .ref (ad p2)]) ++ List.replicate (4 - (lg_sl ([.ref (ad p0), .int p1, .ref (ad p2)])).length) Slot.unset).toArray = ls at hl ⊢
  have hl : lv_has ls 4 [(0, .ref (ad p0)), (1, .int p1), (2, .ref (ad p2))] := hl
  have w_0 := hts (.classLink RL 19 "java/lang/IllegalArgumentException") (by decide +kernel)
  have hGE := hGs.2.2.2.2.2.2.1
  have hGM := hGs.2.2.2.2.2.2.2.1
  unfold f_L_count at hf
  refine lv_aload_n hx hb dL_count_0 rfl (lv_at hl 2 rfl) ?_
  refine lv_iconst (v := 0) hx hb dL_count_1 (by decide) ?_
  refine lv_aload_n hx hb dL_count_2 rfl (lv_at hl 0 rfl) ?_
  refine lv_iload_n hx hb dL_count_3 rfl (lv_at hl 1 rfl) ?_
  replace hf := obE hf
  obtain ⟨z1, hz1, hf⟩ := hf
  obtain ⟨oz1, S2⟩ := z1
  replace hf := ltE hf S2 rfl
  refine x_tcallV (As := [.int p1]) (rest := [.int 0, .ref (ad p2)]) (S1 := S2) (o := oz1) (vr := (fun r => some (.int r))) (P := True) hC hl.1 hW hS hGs hA tp0 rfl (show vwCl[9]? = some (RX10, TX10, 11) ∧ 9 < 11 from ⟨rfl, by decide⟩) (c_X10_count l hfl g ad n K s.heap.size F S0 p0 p1 tp0 oz1 S2 hz1) (cwV 1 hts gL_count_X10_count rfl rfl rfl (by decide +kernel) ⟨Nat.le_of_ble_eq_true rfl, Nat.le_of_ble_eq_true rfl⟩) rfl rfl (Nat.le_of_ble_eq_true rfl) dL_count_4 ⟨Nat.le_of_ble_eq_true rfl, Nat.le_of_ble_eq_true rfl⟩ (fun x5 H locs ce q9 ho hW hS hc1 hc2 hc3 => ?_) (fun r3 H locs ho hP hW hS => ?_)
  · replace hf := smL ho hf
    by_cases c9 : x5 = 2
    · replace hf := ifT c9 hf
      subst c9
      refine x_caught (x := 2) (name := "java/lang/IllegalArgumentException") hC hGs [] ⟨0, 9, 12, 19⟩ [] (htab.trans rfl) (fun _ h => absurd h List.not_mem_nil) ⟨by decide, by decide, rfl, by decide +kernel⟩ w_0 hc1 hc2 hc3 ?_
      refine lv_astore_n (lv' := [(3, .ref q9), (0, .ref (ad p0)), (1, .int p1), (2, .ref (ad p2))]) hx hb dL_count_12 rfl hl (by decide) rfl (fun ls hl => ?_)
      refine lv_iconst (v := 1) hx hb dL_count_13 (by decide) ?_
      obtain ⟨e1, e2⟩ := so2 hf
      subst e1
      subst e2
      exact W.iret (v := 1) hx hb hr (fun t ht hWm => ⟨⟨rfl, by unfold QB; rw [ht]; exact ⟨hW, trivial⟩⟩, hS.F ht⟩) hS.2.2 dL_count_14 hlk
    · replace hf := ifF c9 hf
      cases hf
  · replace hf := smR ho hf
    refine W.widen (k := 1) (n := 6) (Nat.le_of_ble_eq_true rfl) (Nat.le_of_ble_eq_true rfl) ?_
    refine W.eq (g2 := F0 m 7 ls [.int r3, .int 0, .ref (ad p2)]) rfl ?_
    refine lv_i2l (v := r3.toInt64) hx hb dL_count_7 rfl ?_
    replace hf := ckiE hf
    obtain ⟨h10, hf⟩ := hf
    refine x_last hC hW hS tp2 rfl rfl h10 dL_count_8 (fun S11 H locs eS11 hW hS => ?_)
    replace hf := ltE hf S11 eS11
    refine lv_goto (tgt := 15) hx hb dL_count_9 (by decide) ?_
    refine lv_iconst (v := 0) hx hb dL_count_15 (by decide) ?_
    obtain ⟨e1, e2⟩ := so2 hf
    subst e1
    subst e2
    exact W.iret (v := 0) hx hb hr (fun t ht hWm => ⟨⟨rfl, by unfold QB; rw [ht]; exact ⟨hW, trivial⟩⟩, hS.F ht⟩) hS.2.2 dL_count_16 hlk
set_option maxHeartbeats 4000000 in
set_option maxRecDepth 100000 in
theorem c_L_members (l : Launch) (hfl : l.stackTraces = false) (g : GP) (ad : Nat → Nat) (n : Nat) (K : Nat → Nat) (sz F : Nat) (S0 : St) (p0 : Nat) (p1 : Int32) (p2 : Nat) (tp0 : p0 < n ∧ K p0 = 9) (tp2 : p2 < n ∧ K p2 = 13) (r9 : Int32) (S9 : St) (hf : f_L_members F S0 p0 p1 p2 = some (r9, S9)) : Met l yL_members wsL_members { frames := 7, cells := 1, slots := 6, locals := 121 } (va_Pc [.ref (ad p0), .int p1, .ref (ad p2)] (PB g ad n K S0 sz)) (QR (some (.int r9)) (QB g ad n K S9 (dA ad n sz) (True)) (dA ad n sz)) 1 6 (dA ad n sz) := by
  refine x_ofWH (cc := cL_members) (maxL := 4) (ret := (some .int)) (hh := [(0, 9, 12, 31)]) (by decide) rfl ?_
  intro p e s m args below meth c s₁ B hml hv
  obtain ⟨rfl, hsz, hW, hK, hGs⟩ := x_start hv
  subst hsz
  have hx := B.exec
  have hb := B.bytes
  have hr := B.returns
  have hts := atoms_spec (ws := wsL_members) B.pre
  have hown : s.vm.findClass RL = some m.cls := findClass_of_methodNamed B.named
  have hlk := B.notSynchronized
  have htab := vx_table (x := yL_members) B (hts (.codeWith yL_members cL_members 4 (some .int) [(0, 9, 12, 31)]) (by decide +kernel))
  have hC : Cx g p s m _ c cL_members RL wsL_members 4 := ⟨hx, hb, hml, hown, hts, hK⟩
  have hA : ∀ q : Nat, s.heap.size ≤ q → dA ad n s.heap.size q := fun q h => Or.inr h
  have hS : va_S (dA ad n s.heap.size) s.heap s.heap [] := va_S.rf
  have hl := lv_entry ([.ref (ad p0), .int p1, .ref (ad p2)]) (n := 4) (Nat.le_of_ble_eq_true rfl)
  rw [lg_entry_eq]
  generalize (lg_sl ([.ref (ad p0), .int p1, .ref (ad p2)]) ++ List.replicate (4 - (lg_sl ([.ref (ad p0), .int p1, .ref (ad p2)])).length) Slot.unset).toArray = ls at hl ⊢
  have hl : lv_has ls 4 [(0, .ref (ad p0)), (1, .int p1), (2, .ref (ad p2))] := hl
  have w_0 := hts (.classLink RL 31 "java/util/NoSuchElementException") (by decide +kernel)
  have hGE := hGs.2.2.2.2.2.2.1
  have hGM := hGs.2.2.2.2.2.2.2.1
  unfold f_L_members at hf
  refine lv_aload_n hx hb dL_members_0 rfl (lv_at hl 2 rfl) ?_
  refine lv_iconst (v := 0) hx hb dL_members_1 (by decide) ?_
  refine lv_aload_n hx hb dL_members_2 rfl (lv_at hl 0 rfl) ?_
  refine lv_iload_n hx hb dL_members_3 rfl (lv_at hl 1 rfl) ?_
  replace hf := obE hf
  obtain ⟨z1, hz1, hf⟩ := hf
  obtain ⟨oz1, S2⟩ := z1
  replace hf := ltE hf S2 rfl
  refine x_tcallV (As := [.int p1]) (rest := [.int 0, .ref (ad p2)]) (S1 := S2) (o := oz1) (vr := (fun r => some (.int r))) (P := True) hC hl.1 hW hS hGs hA tp0 rfl (show vwCl[9]? = some (RX10, TX10, 11) ∧ 9 < 11 from ⟨rfl, by decide⟩) (c_X10_members l hfl g ad n K s.heap.size F S0 p0 p1 tp0 oz1 S2 hz1) (cwV 1 hts gL_members_X10_members rfl rfl rfl (by decide +kernel) ⟨Nat.le_of_ble_eq_true rfl, Nat.le_of_ble_eq_true rfl⟩) rfl rfl (Nat.le_of_ble_eq_true rfl) dL_members_4 ⟨Nat.le_of_ble_eq_true rfl, Nat.le_of_ble_eq_true rfl⟩ (fun x5 H locs ce q9 ho hW hS hc1 hc2 hc3 => ?_) (fun r3 H locs ho hP hW hS => ?_)
  · replace hf := smL ho hf
    by_cases c9 : x5 = 4
    · replace hf := ifT c9 hf
      subst c9
      refine x_caught (x := 4) (name := "java/util/NoSuchElementException") hC hGs [] ⟨0, 9, 12, 31⟩ [] (htab.trans rfl) (fun _ h => absurd h List.not_mem_nil) ⟨by decide, by decide, rfl, by decide +kernel⟩ w_0 hc1 hc2 hc3 ?_
      refine lv_astore_n (lv' := [(3, .ref q9), (0, .ref (ad p0)), (1, .int p1), (2, .ref (ad p2))]) hx hb dL_members_12 rfl hl (by decide) rfl (fun ls hl => ?_)
      refine lv_iconst (v := 1) hx hb dL_members_13 (by decide) ?_
      obtain ⟨e1, e2⟩ := so2 hf
      subst e1
      subst e2
      exact W.iret (v := 1) hx hb hr (fun t ht hWm => ⟨⟨rfl, by unfold QB; rw [ht]; exact ⟨hW, trivial⟩⟩, hS.F ht⟩) hS.2.2 dL_members_14 hlk
    · replace hf := ifF c9 hf
      cases hf
  · replace hf := smR ho hf
    refine W.widen (k := 1) (n := 6) (Nat.le_of_ble_eq_true rfl) (Nat.le_of_ble_eq_true rfl) ?_
    refine W.eq (g2 := F0 m 7 ls [.int r3, .int 0, .ref (ad p2)]) rfl ?_
    refine lv_i2l (v := r3.toInt64) hx hb dL_members_7 rfl ?_
    replace hf := ckiE hf
    obtain ⟨h10, hf⟩ := hf
    refine x_last hC hW hS tp2 rfl rfl h10 dL_members_8 (fun S11 H locs eS11 hW hS => ?_)
    replace hf := ltE hf S11 eS11
    refine lv_goto (tgt := 15) hx hb dL_members_9 (by decide) ?_
    refine lv_iconst (v := 0) hx hb dL_members_15 (by decide) ?_
    obtain ⟨e1, e2⟩ := so2 hf
    subst e1
    subst e2
    exact W.iret (v := 0) hx hb hr (fun t ht hWm => ⟨⟨rfl, by unfold QB; rw [ht]; exact ⟨hW, trivial⟩⟩, hS.F ht⟩) hS.2.2 dL_members_16 hlk
set_option maxHeartbeats 4000000 in
set_option maxRecDepth 100000 in
theorem c_L_retention (l : Launch) (hfl : l.stackTraces = false) (g : GP) (ad : Nat → Nat) (n : Nat) (K : Nat → Nat) (sz F : Nat) (S0 : St) (p0 : Nat) (p1 : Int32) (p2 : Int32) (p3 : Nat) (tp0 : p0 < n ∧ K p0 = 9) (tp3 : p3 < n ∧ K p3 = 13) (r9 : Int32) (S9 : St) (hf : f_L_retention F S0 p0 p1 p2 p3 = some (r9, S9)) : Met l yL_retention wsL_retention { frames := 8, cells := 2, slots := 12, locals := 143 } (va_Pc [.ref (ad p0), .int p1, .int p2, .ref (ad p3)] (PB g ad n K S0 sz)) (QR (some (.int r9)) (QB g ad n K S9 (dA ad n sz) (True)) (dA ad n sz)) 2 12 (dA ad n sz) := by
  refine x_ofWH (cc := cL_retention) (maxL := 5) (ret := (some .int)) (hh := [(0, 10, 13, 31), (0, 10, 17, 19)]) (by decide) rfl ?_
  intro p e s m args below meth c s₁ B hml hv
  obtain ⟨rfl, hsz, hW, hK, hGs⟩ := x_start hv
  subst hsz
  have hx := B.exec
  have hb := B.bytes
  have hr := B.returns
  have hts := atoms_spec (ws := wsL_retention) B.pre
  have hown : s.vm.findClass RL = some m.cls := findClass_of_methodNamed B.named
  have hlk := B.notSynchronized
  have htab := vx_table (x := yL_retention) B (hts (.codeWith yL_retention cL_retention 5 (some .int) [(0, 10, 13, 31), (0, 10, 17, 19)]) (by decide +kernel))
  have hC : Cx g p s m _ c cL_retention RL wsL_retention 5 := ⟨hx, hb, hml, hown, hts, hK⟩
  have hA : ∀ q : Nat, s.heap.size ≤ q → dA ad n s.heap.size q := fun q h => Or.inr h
  have hS : va_S (dA ad n s.heap.size) s.heap s.heap [] := va_S.rf
  have hl := lv_entry ([.ref (ad p0), .int p1, .int p2, .ref (ad p3)]) (n := 5) (Nat.le_of_ble_eq_true rfl)
  rw [lg_entry_eq]
  generalize (lg_sl ([.ref (ad p0), .int p1, .int p2, .ref (ad p3)]) ++ List.replicate (5 - (lg_sl ([.ref (ad p0), .int p1, .int p2, .ref (ad p3)])).length) Slot.unset).toArray = ls at hl ⊢
  have hl : lv_has ls 5 [(0, .ref (ad p0)), (1, .int p1), (2, .int p2), (3, .ref (ad p3))] := hl
  have w_0 := hts (.classLink RL 31 "java/util/NoSuchElementException") (by decide +kernel)
  have w_1 := hts (.classLink RL 19 "java/lang/IllegalArgumentException") (by decide +kernel)
  have hGE := hGs.2.2.2.2.2.2.1
  have hGM := hGs.2.2.2.2.2.2.2.1
  unfold f_L_retention at hf
  refine lv_aload_n hx hb dL_retention_0 rfl (lv_at hl 3 rfl) ?_
  refine lv_iconst (v := 0) hx hb dL_retention_1 (by decide) ?_
  refine lv_aload_n hx hb dL_retention_2 rfl (lv_at hl 0 rfl) ?_
  refine lv_iload_n hx hb dL_retention_3 rfl (lv_at hl 1 rfl) ?_
  refine lv_iload_n hx hb dL_retention_4 rfl (lv_at hl 2 rfl) ?_
  replace hf := obE hf
  obtain ⟨z1, hz1, hf⟩ := hf
  obtain ⟨oz1, S2⟩ := z1
  replace hf := ltE hf S2 rfl
  refine x_tcallV (As := [.int p1, .int p2]) (rest := [.int 0, .ref (ad p3)]) (S1 := S2) (o := oz1) (vr := (fun r => some (.int r))) (P := True) hC hl.1 hW hS hGs hA tp0 rfl (show vwCl[9]? = some (RX10, TX10, 11) ∧ 9 < 11 from ⟨rfl, by decide⟩) (c_X10_retention l hfl g ad n K s.heap.size F S0 p0 p1 p2 tp0 oz1 S2 hz1) (cwV 2 hts gL_retention_X10_retention rfl rfl rfl (by decide +kernel) ⟨Nat.le_of_ble_eq_true rfl, Nat.le_of_ble_eq_true rfl⟩) rfl rfl (Nat.le_of_ble_eq_true rfl) dL_retention_5 ⟨Nat.le_of_ble_eq_true rfl, Nat.le_of_ble_eq_true rfl⟩ (fun x5 H locs ce q9 ho hW hS hc1 hc2 hc3 => ?_) (fun r3 H locs ho hP hW hS => ?_)
  · replace hf := smL ho hf
    by_cases c9 : x5 = 4
    · replace hf := ifT c9 hf
      subst c9
      refine x_caught (x := 4) (name := "java/util/NoSuchElementException") hC hGs [] ⟨0, 10, 13, 31⟩ [⟨0, 10, 17, 19⟩] (htab.trans rfl) (fun _ h => absurd h List.not_mem_nil) ⟨by decide, by decide, rfl, by decide +kernel⟩ w_0 hc1 hc2 hc3 ?_
      refine lv_astore (lv' := [(4, .ref q9), (0, .ref (ad p0)), (1, .int p1), (2, .int p2), (3, .ref (ad p3))]) hx hb dL_retention_13 hl (by decide) rfl (fun ls hl => ?_)
      refine lv_iconst (v := 1) hx hb dL_retention_15 (by decide) ?_
      obtain ⟨e1, e2⟩ := so2 hf
      subst e1
      subst e2
      exact W.iret (v := 1) hx hb hr (fun t ht hWm => ⟨⟨rfl, by unfold QB; rw [ht]; exact ⟨hW, trivial⟩⟩, hS.F ht⟩) hS.2.2 dL_retention_16 hlk
    · replace hf := ifF c9 hf
      by_cases c10 : x5 = 2
      · replace hf := ifT c10 hf
        subst c10
        refine x_caught (x := 2) (name := "java/lang/IllegalArgumentException") hC hGs [⟨0, 10, 13, 31⟩] ⟨0, 10, 17, 19⟩ [] (htab.trans rfl) (fun z hz => by simp only [List.mem_cons, List.not_mem_nil, or_false] at hz; rcases hz with rfl <;> first | exact Or.inr ⟨by decide, _, w_0, x_nc hGs (by decide)⟩) ⟨by decide, by decide, rfl, by decide +kernel⟩ w_1 hc1 hc2 hc3 ?_
        refine lv_astore (lv' := [(4, .ref q9), (0, .ref (ad p0)), (1, .int p1), (2, .int p2), (3, .ref (ad p3))]) hx hb dL_retention_17 hl (by decide) rfl (fun ls hl => ?_)
        refine lv_iconst (v := 2) hx hb dL_retention_19 (by decide) ?_
        obtain ⟨e1, e2⟩ := so2 hf
        subst e1
        subst e2
        exact W.iret (v := 2) hx hb hr (fun t ht hWm => ⟨⟨rfl, by unfold QB; rw [ht]; exact ⟨hW, trivial⟩⟩, hS.F ht⟩) hS.2.2 dL_retention_20 hlk
      · replace hf := ifF c10 hf
        cases hf
  · replace hf := smR ho hf
    refine W.widen (k := 2) (n := 12) (Nat.le_of_ble_eq_true rfl) (Nat.le_of_ble_eq_true rfl) ?_
    refine W.eq (g2 := F0 m 8 ls [.int r3, .int 0, .ref (ad p3)]) rfl ?_
    refine lv_i2l (v := r3.toInt64) hx hb dL_retention_8 rfl ?_
    replace hf := ckiE hf
    obtain ⟨h11, hf⟩ := hf
    refine x_last hC hW hS tp3 rfl rfl h11 dL_retention_9 (fun S12 H locs eS12 hW hS => ?_)
    replace hf := ltE hf S12 eS12
    refine lv_goto (tgt := 21) hx hb dL_retention_10 (by decide) ?_
    refine lv_iconst (v := 0) hx hb dL_retention_21 (by decide) ?_
    obtain ⟨e1, e2⟩ := so2 hf
    subst e1
    subst e2
    exact W.iret (v := 0) hx hb hr (fun t ht hWm => ⟨⟨rfl, by unfold QB; rw [ht]; exact ⟨hW, trivial⟩⟩, hS.F ht⟩) hS.2.2 dL_retention_22 hlk
set_option maxHeartbeats 4000000 in
set_option maxRecDepth 100000 in
theorem c_L_ladderDays (l : Launch) (hfl : l.stackTraces = false) (g : GP) (ad : Nat → Nat) (n : Nat) (K : Nat → Nat) (sz F : Nat) (S0 : St) (p0 : Nat) (p1 : Int32) (p2 : Nat) (tp0 : p0 < n ∧ K p0 = 9) (tp2 : p2 < n ∧ K p2 = 13) (r9 : Int32) (S9 : St) (hf : f_L_ladderDays F S0 p0 p1 p2 = some (r9, S9)) : Met l yL_ladderDays wsL_ladderDays { frames := 8, cells := 1, slots := 6, locals := 142 } (va_Pc [.ref (ad p0), .int p1, .ref (ad p2)] (PB g ad n K S0 sz)) (QR (some (.int r9)) (QB g ad n K S9 (dA ad n sz) (True)) (dA ad n sz)) 1 6 (dA ad n sz) := by
  refine x_ofWH (cc := cL_ladderDays) (maxL := 4) (ret := (some .int)) (hh := [(0, 9, 12, 31)]) (by decide) rfl ?_
  intro p e s m args below meth c s₁ B hml hv
  obtain ⟨rfl, hsz, hW, hK, hGs⟩ := x_start hv
  subst hsz
  have hx := B.exec
  have hb := B.bytes
  have hr := B.returns
  have hts := atoms_spec (ws := wsL_ladderDays) B.pre
  have hown : s.vm.findClass RL = some m.cls := findClass_of_methodNamed B.named
  have hlk := B.notSynchronized
  have htab := vx_table (x := yL_ladderDays) B (hts (.codeWith yL_ladderDays cL_ladderDays 4 (some .int) [(0, 9, 12, 31)]) (by decide +kernel))
  have hC : Cx g p s m _ c cL_ladderDays RL wsL_ladderDays 4 := ⟨hx, hb, hml, hown, hts, hK⟩
  have hA : ∀ q : Nat, s.heap.size ≤ q → dA ad n s.heap.size q := fun q h => Or.inr h
  have hS : va_S (dA ad n s.heap.size) s.heap s.heap [] := va_S.rf
  have hl := lv_entry ([.ref (ad p0), .int p1, .ref (ad p2)]) (n := 4) (Nat.le_of_ble_eq_true rfl)
  rw [lg_entry_eq]
  generalize (lg_sl ([.ref (ad p0), .int p1, .ref (ad p2)]) ++ List.replicate (4 - (lg_sl ([.ref (ad p0), .int p1, .ref (ad p2)])).length) Slot.unset).toArray = ls at hl ⊢
  have hl : lv_has ls 4 [(0, .ref (ad p0)), (1, .int p1), (2, .ref (ad p2))] := hl
  have w_0 := hts (.classLink RL 31 "java/util/NoSuchElementException") (by decide +kernel)
  have hGE := hGs.2.2.2.2.2.2.1
  have hGM := hGs.2.2.2.2.2.2.2.1
  unfold f_L_ladderDays at hf
  refine lv_aload_n hx hb dL_ladderDays_0 rfl (lv_at hl 2 rfl) ?_
  refine lv_iconst (v := 0) hx hb dL_ladderDays_1 (by decide) ?_
  refine lv_aload_n hx hb dL_ladderDays_2 rfl (lv_at hl 0 rfl) ?_
  refine lv_iload_n hx hb dL_ladderDays_3 rfl (lv_at hl 1 rfl) ?_
  replace hf := obE hf
  obtain ⟨z1, hz1, hf⟩ := hf
  obtain ⟨oz1, S2⟩ := z1
  replace hf := ltE hf S2 rfl
  refine x_tcallV (As := [.int p1]) (rest := [.int 0, .ref (ad p2)]) (S1 := S2) (o := oz1) (vr := (fun r => some (.int r))) (P := True) hC hl.1 hW hS hGs hA tp0 rfl (show vwCl[9]? = some (RX10, TX10, 11) ∧ 9 < 11 from ⟨rfl, by decide⟩) (c_X10_ladderDays l hfl g ad n K s.heap.size F S0 p0 p1 tp0 oz1 S2 hz1) (cwV 1 hts gL_ladderDays_X10_ladderDays rfl rfl rfl (by decide +kernel) ⟨Nat.le_of_ble_eq_true rfl, Nat.le_of_ble_eq_true rfl⟩) rfl rfl (Nat.le_of_ble_eq_true rfl) dL_ladderDays_4 ⟨Nat.le_of_ble_eq_true rfl, Nat.le_of_ble_eq_true rfl⟩ (fun x5 H locs ce q9 ho hW hS hc1 hc2 hc3 => ?_) (fun r3 H locs ho hP hW hS => ?_)
  · replace hf := smL ho hf
    by_cases c9 : x5 = 4
    · replace hf := ifT c9 hf
      subst c9
      refine x_caught (x := 4) (name := "java/util/NoSuchElementException") hC hGs [] ⟨0, 9, 12, 31⟩ [] (htab.trans rfl) (fun _ h => absurd h List.not_mem_nil) ⟨by decide, by decide, rfl, by decide +kernel⟩ w_0 hc1 hc2 hc3 ?_
      refine lv_astore_n (lv' := [(3, .ref q9), (0, .ref (ad p0)), (1, .int p1), (2, .ref (ad p2))]) hx hb dL_ladderDays_12 rfl hl (by decide) rfl (fun ls hl => ?_)
      refine lv_iconst (v := 1) hx hb dL_ladderDays_13 (by decide) ?_
      obtain ⟨e1, e2⟩ := so2 hf
      subst e1
      subst e2
      exact W.iret (v := 1) hx hb hr (fun t ht hWm => ⟨⟨rfl, by unfold QB; rw [ht]; exact ⟨hW, trivial⟩⟩, hS.F ht⟩) hS.2.2 dL_ladderDays_14 hlk
    · replace hf := ifF c9 hf
      cases hf
  · replace hf := smR ho hf
    refine W.widen (k := 1) (n := 6) (Nat.le_of_ble_eq_true rfl) (Nat.le_of_ble_eq_true rfl) ?_
    refine W.eq (g2 := F0 m 7 ls [.int r3, .int 0, .ref (ad p2)]) rfl ?_
    refine lv_i2l (v := r3.toInt64) hx hb dL_ladderDays_7 rfl ?_
    replace hf := ckiE hf
    obtain ⟨h10, hf⟩ := hf
    refine x_last hC hW hS tp2 rfl rfl h10 dL_ladderDays_8 (fun S11 H locs eS11 hW hS => ?_)
    replace hf := ltE hf S11 eS11
    refine lv_goto (tgt := 15) hx hb dL_ladderDays_9 (by decide) ?_
    refine lv_iconst (v := 0) hx hb dL_ladderDays_15 (by decide) ?_
    obtain ⟨e1, e2⟩ := so2 hf
    subst e1
    subst e2
    exact W.iret (v := 0) hx hb hr (fun t ht hWm => ⟨⟨rfl, by unfold QB; rw [ht]; exact ⟨hW, trivial⟩⟩, hS.F ht⟩) hS.2.2 dL_ladderDays_16 hlk
set_option maxHeartbeats 4000000 in
set_option maxRecDepth 100000 in
theorem c_L_deliver (l : Launch) (hfl : l.stackTraces = false) (g : GP) (ad : Nat → Nat) (n : Nat) (K : Nat → Nat) (sz F : Nat) (S0 : St) (p0 : Nat) (p1 : Int32) (p2 : Int32) (p3 : Int32) (p4 : Nat) (tp0 : p0 < n ∧ K p0 = 9) (tp4 : p4 < n ∧ K p4 = 13) (r9 : Int32) (S9 : St) (n9 : Nat) (hf : f_L_deliver F S0 n p0 p1 p2 p3 p4 = some (r9, S9, n9)) : Met l yL_deliver wsL_deliver { frames := 8, cells := 12, slots := 8189, locals := 167 } (va_Pc [.ref (ad p0), .int p1, .int p2, .int p3, .ref (ad p4)] (PB g ad n K S0 sz)) (QA ad K n (fun _ => (some (.int r9))) g n9 S9 (dA ad n sz) (fun _ => True)) 12 8189 (dA ad n sz) := by
  refine x_ofWH (cc := cL_deliver) (maxL := 6) (ret := (some .int)) (hh := [(0, 12, 15, 31), (0, 12, 19, 19), (0, 12, 23, 13)]) (by decide) rfl ?_
  intro p e s m args below meth c s₁ B hml hv
  obtain ⟨rfl, hsz, hW, hK, hGs⟩ := x_start hv
  subst hsz
  have hx := B.exec
  have hb := B.bytes
  have hr := B.returns
  have hts := atoms_spec (ws := wsL_deliver) B.pre
  have hown : s.vm.findClass RL = some m.cls := findClass_of_methodNamed B.named
  have hlk := B.notSynchronized
  have htab := vx_table (x := yL_deliver) B (hts (.codeWith yL_deliver cL_deliver 6 (some .int) [(0, 12, 15, 31), (0, 12, 19, 19), (0, 12, 23, 13)]) (by decide +kernel))
  have hC : Cx g p s m _ c cL_deliver RL wsL_deliver 6 := ⟨hx, hb, hml, hown, hts, hK⟩
  have hA : ∀ q : Nat, s.heap.size ≤ q → dA ad n s.heap.size q := fun q h => Or.inr h
  have hS : va_S (dA ad n s.heap.size) s.heap s.heap [] := va_S.rf
  have hl := lv_entry ([.ref (ad p0), .int p1, .int p2, .int p3, .ref (ad p4)]) (n := 6) (Nat.le_of_ble_eq_true rfl)
  rw [lg_entry_eq]
  generalize (lg_sl ([.ref (ad p0), .int p1, .int p2, .int p3, .ref (ad p4)]) ++ List.replicate (6 - (lg_sl ([.ref (ad p0), .int p1, .int p2, .int p3, .ref (ad p4)])).length) Slot.unset).toArray = ls at hl ⊢
  have hl : lv_has ls 6 [(0, .ref (ad p0)), (1, .int p1), (2, .int p2), (3, .int p3), (4, .ref (ad p4))] := hl
  have w_0 := hts (.classLink RL 31 "java/util/NoSuchElementException") (by decide +kernel)
  have w_1 := hts (.classLink RL 19 "java/lang/IllegalArgumentException") (by decide +kernel)
  have w_2 := hts (.classLink RL 13 "java/lang/IllegalStateException") (by decide +kernel)
  have hGE := hGs.2.2.2.2.2.2.1
  have hGM := hGs.2.2.2.2.2.2.2.1
  unfold f_L_deliver at hf
  refine lv_aload hx hb dL_deliver_0 (lv_at hl 4 rfl) ?_
  refine lv_iconst (v := 0) hx hb dL_deliver_2 (by decide) ?_
  refine lv_aload_n hx hb dL_deliver_3 rfl (lv_at hl 0 rfl) ?_
  refine lv_iload_n hx hb dL_deliver_4 rfl (lv_at hl 1 rfl) ?_
  refine lv_iload_n hx hb dL_deliver_5 rfl (lv_at hl 2 rfl) ?_
  refine lv_iload_n hx hb dL_deliver_6 rfl (lv_at hl 3 rfl) ?_
  replace hf := obE hf
  obtain ⟨z1, hz1, hf⟩ := hf
  obtain ⟨oz1, S2, n5⟩ := z1
  replace hf := ltE (ltE hf S2 rfl) n5 rfl
  refine x_tcallVA (As := [.int p1, .int p2, .int p3]) (rest := [.int 0, .ref (ad p4)]) (S1 := S2) (n9 := n5) (o := oz1) (vr := (fun r => some (.int r))) hC hl.1 hW hS hGs hA tp0 rfl (show vwCl[9]? = some (RX10, TX10, 11) ∧ 9 < 11 from ⟨rfl, by decide⟩) (c_X10_deliver l hfl g ad n K s.heap.size F S0 p0 p1 p2 p3 tp0 oz1 S2 n5 hz1) (cwV 3 hts gL_deliver_X10_deliver rfl rfl rfl (by decide +kernel) ⟨Nat.le_of_ble_eq_true rfl, Nat.le_of_ble_eq_true rfl⟩) rfl rfl (Nat.le_of_ble_eq_true rfl) dL_deliver_7 ⟨Nat.le_of_ble_eq_true rfl, Nat.le_of_ble_eq_true rfl⟩ (fun x6 ad7 K8 H locs ce q9 ho hag9 hW hS hc1 hc2 hc3 => ?_) (fun r3 ad7 K8 H locs ho hag9 hW hS => ?_)
  · replace hf := smL ho hf
    by_cases c10 : x6 = 4
    · replace hf := ifT c10 hf
      subst c10
      refine x_caught (x := 4) (name := "java/util/NoSuchElementException") hC hGs [] ⟨0, 12, 15, 31⟩ [⟨0, 12, 19, 19⟩, ⟨0, 12, 23, 13⟩] (htab.trans rfl) (fun _ h => absurd h List.not_mem_nil) ⟨by decide, by decide, rfl, by decide +kernel⟩ w_0 hc1 hc2 hc3 ?_
      refine lv_astore (lv' := [(5, .ref q9), (0, .ref (ad p0)), (1, .int p1), (2, .int p2), (3, .int p3), (4, .ref (ad p4))]) hx hb dL_deliver_15 hl (by decide) rfl (fun ls hl => ?_)
      refine lv_iconst (v := 1) hx hb dL_deliver_17 (by decide) ?_
      obtain ⟨e1, e2, e3⟩ := so3 hf
      subst e1
      subst e2
      subst e3
      exact W.iret (v := 1) hx hb hr (fun t ht hWm => ⟨⟨ad7, K8, rfl, Ag.rf.tr hag9, trivial, by rw [ht]; exact hW⟩, hS.F ht⟩) hS.2.2 dL_deliver_18 hlk
    · replace hf := ifF c10 hf
      by_cases c11 : x6 = 2
      · replace hf := ifT c11 hf
        subst c11
        refine x_caught (x := 2) (name := "java/lang/IllegalArgumentException") hC hGs [⟨0, 12, 15, 31⟩] ⟨0, 12, 19, 19⟩ [⟨0, 12, 23, 13⟩] (htab.trans rfl) (fun z hz => by simp only [List.mem_cons, List.not_mem_nil, or_false] at hz; rcases hz with rfl <;> first | exact Or.inr ⟨by decide, _, w_0, x_nc hGs (by decide)⟩) ⟨by decide, by decide, rfl, by decide +kernel⟩ w_1 hc1 hc2 hc3 ?_
        refine lv_astore (lv' := [(5, .ref q9), (0, .ref (ad p0)), (1, .int p1), (2, .int p2), (3, .int p3), (4, .ref (ad p4))]) hx hb dL_deliver_19 hl (by decide) rfl (fun ls hl => ?_)
        refine lv_iconst (v := 2) hx hb dL_deliver_21 (by decide) ?_
        obtain ⟨e1, e2, e3⟩ := so3 hf
        subst e1
        subst e2
        subst e3
        exact W.iret (v := 2) hx hb hr (fun t ht hWm => ⟨⟨ad7, K8, rfl, Ag.rf.tr hag9, trivial, by rw [ht]; exact hW⟩, hS.F ht⟩) hS.2.2 dL_deliver_22 hlk
      · replace hf := ifF c11 hf
        by_cases c12 : x6 = 1
        · replace hf := ifT c12 hf
          subst c12
          refine x_caught (x := 1) (name := "java/lang/IllegalStateException") hC hGs [⟨0, 12, 15, 31⟩, ⟨0, 12, 19, 19⟩] ⟨0, 12, 23, 13⟩ [] (htab.trans rfl) (fun z hz => by simp only [List.mem_cons, List.not_mem_nil, or_false] at hz; rcases hz with rfl | rfl <;> first | exact Or.inr ⟨by decide, _, w_0, x_nc hGs (by decide)⟩ | exact Or.inr ⟨by decide, _, w_1, x_nc hGs (by decide)⟩) ⟨by decide, by decide, rfl, by decide +kernel⟩ w_2 hc1 hc2 hc3 ?_
          refine lv_astore (lv' := [(5, .ref q9), (0, .ref (ad p0)), (1, .int p1), (2, .int p2), (3, .int p3), (4, .ref (ad p4))]) hx hb dL_deliver_23 hl (by decide) rfl (fun ls hl => ?_)
          refine lv_iconst (v := 3) hx hb dL_deliver_25 (by decide) ?_
          obtain ⟨e1, e2, e3⟩ := so3 hf
          subst e1
          subst e2
          subst e3
          exact W.iret (v := 3) hx hb hr (fun t ht hWm => ⟨⟨ad7, K8, rfl, Ag.rf.tr hag9, trivial, by rw [ht]; exact hW⟩, hS.F ht⟩) hS.2.2 dL_deliver_26 hlk
        · replace hf := ifF c12 hf
          cases hf
  · replace hf := smR ho hf
    refine W.widen (k := 12) (n := 8189) (Nat.le_of_ble_eq_true rfl) (Nat.le_of_ble_eq_true rfl) ?_
    refine W.eq (g2 := F0 m 10 ls [.int r3, .int 0, .ref (ad p4)]) rfl ?_
    refine lv_i2l (v := r3.toInt64) hx hb dL_deliver_10 rfl ?_
    replace hf := ckiE hf
    obtain ⟨h13, hf⟩ := hf
    refine x_last hC hW hS (hag9.t tp4) (hag9.e tp4 rfl) rfl h13 dL_deliver_11 (fun S14 H locs eS14 hW hS => ?_)
    replace hf := ltE hf S14 eS14
    refine lv_goto (tgt := 27) hx hb dL_deliver_12 (by decide) ?_
    refine lv_iconst (v := 0) hx hb dL_deliver_27 (by decide) ?_
    obtain ⟨e1, e2, e3⟩ := so3 hf
    subst e1
    subst e2
    subst e3
    exact W.iret (v := 0) hx hb hr (fun t ht hWm => ⟨⟨ad7, K8, rfl, Ag.rf.tr hag9, trivial, by rw [ht]; exact hW⟩, hS.F ht⟩) hS.2.2 dL_deliver_28 hlk
set_option maxHeartbeats 4000000 in
set_option maxRecDepth 100000 in
theorem c_L_message (l : Launch) (hfl : l.stackTraces = false) (g : GP) (ad : Nat → Nat) (n : Nat) (K : Nat → Nat) (sz F : Nat) (S0 : St) (p0 : Nat) (p1 : Int32) (p2 : Int32) (p3 : Nat) (tp0 : p0 < n ∧ K p0 = 9) (tp3 : p3 < n ∧ K p3 = 13) (r9 : Int32) (S9 : St) (hf : f_L_message F S0 p0 p1 p2 p3 = some (r9, S9)) : Met l yL_message wsL_message { frames := 8, cells := 2, slots := 12, locals := 144 } (va_Pc [.ref (ad p0), .int p1, .int p2, .ref (ad p3)] (PB g ad n K S0 sz)) (QR (some (.int r9)) (QB g ad n K S9 (dA ad n sz) (True)) (dA ad n sz)) 2 12 (dA ad n sz) := by
  refine x_ofWH (cc := cL_message) (maxL := 5) (ret := (some .int)) (hh := [(0, 10, 13, 31), (0, 10, 17, 19)]) (by decide) rfl ?_
  intro p e s m args below meth c s₁ B hml hv
  obtain ⟨rfl, hsz, hW, hK, hGs⟩ := x_start hv
  subst hsz
  have hx := B.exec
  have hb := B.bytes
  have hr := B.returns
  have hts := atoms_spec (ws := wsL_message) B.pre
  have hown : s.vm.findClass RL = some m.cls := findClass_of_methodNamed B.named
  have hlk := B.notSynchronized
  have htab := vx_table (x := yL_message) B (hts (.codeWith yL_message cL_message 5 (some .int) [(0, 10, 13, 31), (0, 10, 17, 19)]) (by decide +kernel))
  have hC : Cx g p s m _ c cL_message RL wsL_message 5 := ⟨hx, hb, hml, hown, hts, hK⟩
  have hA : ∀ q : Nat, s.heap.size ≤ q → dA ad n s.heap.size q := fun q h => Or.inr h
  have hS : va_S (dA ad n s.heap.size) s.heap s.heap [] := va_S.rf
  have hl := lv_entry ([.ref (ad p0), .int p1, .int p2, .ref (ad p3)]) (n := 5) (Nat.le_of_ble_eq_true rfl)
  rw [lg_entry_eq]
  generalize (lg_sl ([.ref (ad p0), .int p1, .int p2, .ref (ad p3)]) ++ List.replicate (5 - (lg_sl ([.ref (ad p0), .int p1, .int p2, .ref (ad p3)])).length) Slot.unset).toArray = ls at hl ⊢
  have hl : lv_has ls 5 [(0, .ref (ad p0)), (1, .int p1), (2, .int p2), (3, .ref (ad p3))] := hl
  have w_0 := hts (.classLink RL 31 "java/util/NoSuchElementException") (by decide +kernel)
  have w_1 := hts (.classLink RL 19 "java/lang/IllegalArgumentException") (by decide +kernel)
  have hGE := hGs.2.2.2.2.2.2.1
  have hGM := hGs.2.2.2.2.2.2.2.1
  unfold f_L_message at hf
  refine lv_aload_n hx hb dL_message_0 rfl (lv_at hl 3 rfl) ?_
  refine lv_iconst (v := 0) hx hb dL_message_1 (by decide) ?_
  refine lv_aload_n hx hb dL_message_2 rfl (lv_at hl 0 rfl) ?_
  refine lv_iload_n hx hb dL_message_3 rfl (lv_at hl 1 rfl) ?_
  refine lv_iload_n hx hb dL_message_4 rfl (lv_at hl 2 rfl) ?_
  replace hf := obE hf
  obtain ⟨z1, hz1, hf⟩ := hf
  obtain ⟨oz1, S2⟩ := z1
  replace hf := ltE hf S2 rfl
  refine x_tcallV (As := [.int p1, .int p2]) (rest := [.int 0, .ref (ad p3)]) (S1 := S2) (o := oz1) (vr := (fun r => some (.int r))) (P := True) hC hl.1 hW hS hGs hA tp0 rfl (show vwCl[9]? = some (RX10, TX10, 11) ∧ 9 < 11 from ⟨rfl, by decide⟩) (c_X10_message l hfl g ad n K s.heap.size F S0 p0 p1 p2 tp0 oz1 S2 hz1) (cwV 2 hts gL_message_X10_message rfl rfl rfl (by decide +kernel) ⟨Nat.le_of_ble_eq_true rfl, Nat.le_of_ble_eq_true rfl⟩) rfl rfl (Nat.le_of_ble_eq_true rfl) dL_message_5 ⟨Nat.le_of_ble_eq_true rfl, Nat.le_of_ble_eq_true rfl⟩ (fun x5 H locs ce q9 ho hW hS hc1 hc2 hc3 => ?_) (fun r3 H locs ho hP hW hS => ?_)
  · replace hf := smL ho hf
    by_cases c9 : x5 = 4
    · replace hf := ifT c9 hf
      subst c9
      refine x_caught (x := 4) (name := "java/util/NoSuchElementException") hC hGs [] ⟨0, 10, 13, 31⟩ [⟨0, 10, 17, 19⟩] (htab.trans rfl) (fun _ h => absurd h List.not_mem_nil) ⟨by decide, by decide, rfl, by decide +kernel⟩ w_0 hc1 hc2 hc3 ?_
      refine lv_astore (lv' := [(4, .ref q9), (0, .ref (ad p0)), (1, .int p1), (2, .int p2), (3, .ref (ad p3))]) hx hb dL_message_13 hl (by decide) rfl (fun ls hl => ?_)
      refine lv_iconst (v := 1) hx hb dL_message_15 (by decide) ?_
      obtain ⟨e1, e2⟩ := so2 hf
      subst e1
      subst e2
      exact W.iret (v := 1) hx hb hr (fun t ht hWm => ⟨⟨rfl, by unfold QB; rw [ht]; exact ⟨hW, trivial⟩⟩, hS.F ht⟩) hS.2.2 dL_message_16 hlk
    · replace hf := ifF c9 hf
      by_cases c10 : x5 = 2
      · replace hf := ifT c10 hf
        subst c10
        refine x_caught (x := 2) (name := "java/lang/IllegalArgumentException") hC hGs [⟨0, 10, 13, 31⟩] ⟨0, 10, 17, 19⟩ [] (htab.trans rfl) (fun z hz => by simp only [List.mem_cons, List.not_mem_nil, or_false] at hz; rcases hz with rfl <;> first | exact Or.inr ⟨by decide, _, w_0, x_nc hGs (by decide)⟩) ⟨by decide, by decide, rfl, by decide +kernel⟩ w_1 hc1 hc2 hc3 ?_
        refine lv_astore (lv' := [(4, .ref q9), (0, .ref (ad p0)), (1, .int p1), (2, .int p2), (3, .ref (ad p3))]) hx hb dL_message_17 hl (by decide) rfl (fun ls hl => ?_)
        refine lv_iconst (v := 2) hx hb dL_message_19 (by decide) ?_
        obtain ⟨e1, e2⟩ := so2 hf
        subst e1
        subst e2
        exact W.iret (v := 2) hx hb hr (fun t ht hWm => ⟨⟨rfl, by unfold QB; rw [ht]; exact ⟨hW, trivial⟩⟩, hS.F ht⟩) hS.2.2 dL_message_20 hlk
      · replace hf := ifF c10 hf
        cases hf
  · replace hf := smR ho hf
    refine W.widen (k := 2) (n := 12) (Nat.le_of_ble_eq_true rfl) (Nat.le_of_ble_eq_true rfl) ?_
    refine W.eq (g2 := F0 m 8 ls [.int r3, .int 0, .ref (ad p3)]) rfl ?_
    refine lv_i2l (v := r3.toInt64) hx hb dL_message_8 rfl ?_
    replace hf := ckiE hf
    obtain ⟨h11, hf⟩ := hf
    refine x_last hC hW hS tp3 rfl rfl h11 dL_message_9 (fun S12 H locs eS12 hW hS => ?_)
    replace hf := ltE hf S12 eS12
    refine lv_goto (tgt := 21) hx hb dL_message_10 (by decide) ?_
    refine lv_iconst (v := 0) hx hb dL_message_21 (by decide) ?_
    obtain ⟨e1, e2⟩ := so2 hf
    subst e1
    subst e2
    exact W.iret (v := 0) hx hb hr (fun t ht hWm => ⟨⟨rfl, by unfold QB; rw [ht]; exact ⟨hW, trivial⟩⟩, hS.F ht⟩) hS.2.2 dL_message_22 hlk
set_option maxHeartbeats 4000000 in
set_option maxRecDepth 100000 in
theorem c_L_partOf (l : Launch) (hfl : l.stackTraces = false) (g : GP) (ad : Nat → Nat) (n : Nat) (K : Nat → Nat) (sz F : Nat) (S0 : St) (p0 : Nat) (p1 : Int32) (p2 : Int32) (p3 : Nat) (tp0 : p0 < n ∧ K p0 = 9) (tp3 : p3 < n ∧ K p3 = 13) (r9 : Int32) (S9 : St) (hf : f_L_partOf F S0 p0 p1 p2 p3 = some (r9, S9)) : Met l yL_partOf wsL_partOf { frames := 8, cells := 2, slots := 12, locals := 144 } (va_Pc [.ref (ad p0), .int p1, .int p2, .ref (ad p3)] (PB g ad n K S0 sz)) (QR (some (.int r9)) (QB g ad n K S9 (dA ad n sz) (True)) (dA ad n sz)) 2 12 (dA ad n sz) := by
  refine x_ofWH (cc := cL_partOf) (maxL := 5) (ret := (some .int)) (hh := [(0, 10, 13, 31)]) (by decide) rfl ?_
  intro p e s m args below meth c s₁ B hml hv
  obtain ⟨rfl, hsz, hW, hK, hGs⟩ := x_start hv
  subst hsz
  have hx := B.exec
  have hb := B.bytes
  have hr := B.returns
  have hts := atoms_spec (ws := wsL_partOf) B.pre
  have hown : s.vm.findClass RL = some m.cls := findClass_of_methodNamed B.named
  have hlk := B.notSynchronized
  have htab := vx_table (x := yL_partOf) B (hts (.codeWith yL_partOf cL_partOf 5 (some .int) [(0, 10, 13, 31)]) (by decide +kernel))
  have hC : Cx g p s m _ c cL_partOf RL wsL_partOf 5 := ⟨hx, hb, hml, hown, hts, hK⟩
  have hA : ∀ q : Nat, s.heap.size ≤ q → dA ad n s.heap.size q := fun q h => Or.inr h
  have hS : va_S (dA ad n s.heap.size) s.heap s.heap [] := va_S.rf
  have hl := lv_entry ([.ref (ad p0), .int p1, .int p2, .ref (ad p3)]) (n := 5) (Nat.le_of_ble_eq_true rfl)
  rw [lg_entry_eq]
  generalize (lg_sl ([.ref (ad p0), .int p1, .int p2, .ref (ad p3)]) ++ List.replicate (5 - (lg_sl ([.ref (ad p0), .int p1, .int p2, .ref (ad p3)])).length) Slot.unset).toArray = ls at hl ⊢
  have hl : lv_has ls 5 [(0, .ref (ad p0)), (1, .int p1), (2, .int p2), (3, .ref (ad p3))] := hl
  have w_0 := hts (.classLink RL 31 "java/util/NoSuchElementException") (by decide +kernel)
  have hGE := hGs.2.2.2.2.2.2.1
  have hGM := hGs.2.2.2.2.2.2.2.1
  unfold f_L_partOf at hf
  refine lv_aload_n hx hb dL_partOf_0 rfl (lv_at hl 3 rfl) ?_
  refine lv_iconst (v := 0) hx hb dL_partOf_1 (by decide) ?_
  refine lv_aload_n hx hb dL_partOf_2 rfl (lv_at hl 0 rfl) ?_
  refine lv_iload_n hx hb dL_partOf_3 rfl (lv_at hl 1 rfl) ?_
  refine lv_iload_n hx hb dL_partOf_4 rfl (lv_at hl 2 rfl) ?_
  replace hf := obE hf
  obtain ⟨z1, hz1, hf⟩ := hf
  obtain ⟨oz1, S2⟩ := z1
  replace hf := ltE hf S2 rfl
  refine x_tcallV (As := [.int p1, .int p2]) (rest := [.int 0, .ref (ad p3)]) (S1 := S2) (o := oz1) (vr := (fun r => some (.int r))) (P := True) hC hl.1 hW hS hGs hA tp0 rfl (show vwCl[9]? = some (RX10, TX10, 11) ∧ 9 < 11 from ⟨rfl, by decide⟩) (c_X10_partOf l hfl g ad n K s.heap.size F S0 p0 p1 p2 tp0 oz1 S2 hz1) (cwV 2 hts gL_partOf_X10_partOf rfl rfl rfl (by decide +kernel) ⟨Nat.le_of_ble_eq_true rfl, Nat.le_of_ble_eq_true rfl⟩) rfl rfl (Nat.le_of_ble_eq_true rfl) dL_partOf_5 ⟨Nat.le_of_ble_eq_true rfl, Nat.le_of_ble_eq_true rfl⟩ (fun x5 H locs ce q9 ho hW hS hc1 hc2 hc3 => ?_) (fun r3 H locs ho hP hW hS => ?_)
  · replace hf := smL ho hf
    by_cases c9 : x5 = 4
    · replace hf := ifT c9 hf
      subst c9
      refine x_caught (x := 4) (name := "java/util/NoSuchElementException") hC hGs [] ⟨0, 10, 13, 31⟩ [] (htab.trans rfl) (fun _ h => absurd h List.not_mem_nil) ⟨by decide, by decide, rfl, by decide +kernel⟩ w_0 hc1 hc2 hc3 ?_
      refine lv_astore (lv' := [(4, .ref q9), (0, .ref (ad p0)), (1, .int p1), (2, .int p2), (3, .ref (ad p3))]) hx hb dL_partOf_13 hl (by decide) rfl (fun ls hl => ?_)
      refine lv_iconst (v := 1) hx hb dL_partOf_15 (by decide) ?_
      obtain ⟨e1, e2⟩ := so2 hf
      subst e1
      subst e2
      exact W.iret (v := 1) hx hb hr (fun t ht hWm => ⟨⟨rfl, by unfold QB; rw [ht]; exact ⟨hW, trivial⟩⟩, hS.F ht⟩) hS.2.2 dL_partOf_16 hlk
    · replace hf := ifF c9 hf
      cases hf
  · replace hf := smR ho hf
    refine W.widen (k := 2) (n := 12) (Nat.le_of_ble_eq_true rfl) (Nat.le_of_ble_eq_true rfl) ?_
    refine W.eq (g2 := F0 m 8 ls [.int r3, .int 0, .ref (ad p3)]) rfl ?_
    refine lv_i2l (v := r3.toInt64) hx hb dL_partOf_8 rfl ?_
    replace hf := ckiE hf
    obtain ⟨h10, hf⟩ := hf
    refine x_last hC hW hS tp3 rfl rfl h10 dL_partOf_9 (fun S11 H locs eS11 hW hS => ?_)
    replace hf := ltE hf S11 eS11
    refine lv_goto (tgt := 17) hx hb dL_partOf_10 (by decide) ?_
    refine lv_iconst (v := 0) hx hb dL_partOf_17 (by decide) ?_
    obtain ⟨e1, e2⟩ := so2 hf
    subst e1
    subst e2
    exact W.iret (v := 0) hx hb hr (fun t ht hWm => ⟨⟨rfl, by unfold QB; rw [ht]; exact ⟨hW, trivial⟩⟩, hS.F ht⟩) hS.2.2 dL_partOf_18 hlk
set_option maxHeartbeats 4000000 in
set_option maxRecDepth 100000 in
theorem c_L_readers (l : Launch) (hfl : l.stackTraces = false) (g : GP) (ad : Nat → Nat) (n : Nat) (K : Nat → Nat) (sz F : Nat) (S0 : St) (p0 : Nat) (p1 : Int32) (p2 : Nat) (tp0 : p0 < n ∧ K p0 = 9) (tp2 : p2 < n ∧ K p2 = 13) (r9 : Int32) (S9 : St) (hf : f_L_readers F S0 p0 p1 p2 = some (r9, S9)) : Met l yL_readers wsL_readers { frames := 8, cells := 1, slots := 6, locals := 142 } (va_Pc [.ref (ad p0), .int p1, .ref (ad p2)] (PB g ad n K S0 sz)) (QR (some (.int r9)) (QB g ad n K S9 (dA ad n sz) (True)) (dA ad n sz)) 1 6 (dA ad n sz) := by
  refine x_ofWH (cc := cL_readers) (maxL := 4) (ret := (some .int)) (hh := [(0, 9, 12, 31)]) (by decide) rfl ?_
  intro p e s m args below meth c s₁ B hml hv
  obtain ⟨rfl, hsz, hW, hK, hGs⟩ := x_start hv
  subst hsz
  have hx := B.exec
  have hb := B.bytes
  have hr := B.returns
  have hts := atoms_spec (ws := wsL_readers) B.pre
  have hown : s.vm.findClass RL = some m.cls := findClass_of_methodNamed B.named
  have hlk := B.notSynchronized
  have htab := vx_table (x := yL_readers) B (hts (.codeWith yL_readers cL_readers 4 (some .int) [(0, 9, 12, 31)]) (by decide +kernel))
  have hC : Cx g p s m _ c cL_readers RL wsL_readers 4 := ⟨hx, hb, hml, hown, hts, hK⟩
  have hA : ∀ q : Nat, s.heap.size ≤ q → dA ad n s.heap.size q := fun q h => Or.inr h
  have hS : va_S (dA ad n s.heap.size) s.heap s.heap [] := va_S.rf
  have hl := lv_entry ([.ref (ad p0), .int p1, .ref (ad p2)]) (n := 4) (Nat.le_of_ble_eq_true rfl)
  rw [lg_entry_eq]
  generalize (lg_sl ([.ref (ad p0), .int p1, .ref (ad p2)]) ++ List.replicate (4 - (lg_sl ([.ref (ad p0), .int p1, .ref (ad p2)])).length) Slot.unset).toArray = ls at hl ⊢
  have hl : lv_has ls 4 [(0, .ref (ad p0)), (1, .int p1), (2, .ref (ad p2))] := hl
  have w_0 := hts (.classLink RL 31 "java/util/NoSuchElementException") (by decide +kernel)
  have hGE := hGs.2.2.2.2.2.2.1
  have hGM := hGs.2.2.2.2.2.2.2.1
  unfold f_L_readers at hf
  refine lv_aload_n hx hb dL_readers_0 rfl (lv_at hl 2 rfl) ?_
  refine lv_iconst (v := 0) hx hb dL_readers_1 (by decide) ?_
  refine lv_aload_n hx hb dL_readers_2 rfl (lv_at hl 0 rfl) ?_
  refine lv_iload_n hx hb dL_readers_3 rfl (lv_at hl 1 rfl) ?_
  replace hf := obE hf
  obtain ⟨z1, hz1, hf⟩ := hf
  obtain ⟨oz1, S2⟩ := z1
  replace hf := ltE hf S2 rfl
  refine x_tcallV (As := [.int p1]) (rest := [.int 0, .ref (ad p2)]) (S1 := S2) (o := oz1) (vr := (fun r => some (.int r))) (P := True) hC hl.1 hW hS hGs hA tp0 rfl (show vwCl[9]? = some (RX10, TX10, 11) ∧ 9 < 11 from ⟨rfl, by decide⟩) (c_X10_readers l hfl g ad n K s.heap.size F S0 p0 p1 tp0 oz1 S2 hz1) (cwV 1 hts gL_readers_X10_readers rfl rfl rfl (by decide +kernel) ⟨Nat.le_of_ble_eq_true rfl, Nat.le_of_ble_eq_true rfl⟩) rfl rfl (Nat.le_of_ble_eq_true rfl) dL_readers_4 ⟨Nat.le_of_ble_eq_true rfl, Nat.le_of_ble_eq_true rfl⟩ (fun x5 H locs ce q9 ho hW hS hc1 hc2 hc3 => ?_) (fun r3 H locs ho hP hW hS => ?_)
  · replace hf := smL ho hf
    by_cases c9 : x5 = 4
    · replace hf := ifT c9 hf
      subst c9
      refine x_caught (x := 4) (name := "java/util/NoSuchElementException") hC hGs [] ⟨0, 9, 12, 31⟩ [] (htab.trans rfl) (fun _ h => absurd h List.not_mem_nil) ⟨by decide, by decide, rfl, by decide +kernel⟩ w_0 hc1 hc2 hc3 ?_
      refine lv_astore_n (lv' := [(3, .ref q9), (0, .ref (ad p0)), (1, .int p1), (2, .ref (ad p2))]) hx hb dL_readers_12 rfl hl (by decide) rfl (fun ls hl => ?_)
      refine lv_iconst (v := 1) hx hb dL_readers_13 (by decide) ?_
      obtain ⟨e1, e2⟩ := so2 hf
      subst e1
      subst e2
      exact W.iret (v := 1) hx hb hr (fun t ht hWm => ⟨⟨rfl, by unfold QB; rw [ht]; exact ⟨hW, trivial⟩⟩, hS.F ht⟩) hS.2.2 dL_readers_14 hlk
    · replace hf := ifF c9 hf
      cases hf
  · replace hf := smR ho hf
    refine W.widen (k := 1) (n := 6) (Nat.le_of_ble_eq_true rfl) (Nat.le_of_ble_eq_true rfl) ?_
    refine W.eq (g2 := F0 m 7 ls [.int r3, .int 0, .ref (ad p2)]) rfl ?_
    refine lv_i2l (v := r3.toInt64) hx hb dL_readers_7 rfl ?_
    replace hf := ckiE hf
    obtain ⟨h10, hf⟩ := hf
    refine x_last hC hW hS tp2 rfl rfl h10 dL_readers_8 (fun S11 H locs eS11 hW hS => ?_)
    replace hf := ltE hf S11 eS11
    refine lv_goto (tgt := 15) hx hb dL_readers_9 (by decide) ?_
    refine lv_iconst (v := 0) hx hb dL_readers_15 (by decide) ?_
    obtain ⟨e1, e2⟩ := so2 hf
    subst e1
    subst e2
    exact W.iret (v := 0) hx hb hr (fun t ht hWm => ⟨⟨rfl, by unfold QB; rw [ht]; exact ⟨hW, trivial⟩⟩, hS.F ht⟩) hS.2.2 dL_readers_16 hlk
set_option maxHeartbeats 4000000 in
set_option maxRecDepth 100000 in
theorem c_L_hidden (l : Launch) (hfl : l.stackTraces = false) (g : GP) (ad : Nat → Nat) (n : Nat) (K : Nat → Nat) (sz F : Nat) (S0 : St) (p0 : Nat) (p1 : Int32) (p2 : Nat) (tp0 : p0 < n ∧ K p0 = 9) (tp2 : p2 < n ∧ K p2 = 13) (r9 : Int32) (S9 : St) (hf : f_L_hidden F S0 p0 p1 p2 = some (r9, S9)) : Met l yL_hidden wsL_hidden { frames := 8, cells := 1, slots := 6, locals := 142 } (va_Pc [.ref (ad p0), .int p1, .ref (ad p2)] (PB g ad n K S0 sz)) (QR (some (.int r9)) (QB g ad n K S9 (dA ad n sz) (True)) (dA ad n sz)) 1 6 (dA ad n sz) := by
  refine x_ofWH (cc := cL_hidden) (maxL := 4) (ret := (some .int)) (hh := [(0, 9, 12, 31)]) (by decide) rfl ?_
  intro p e s m args below meth c s₁ B hml hv
  obtain ⟨rfl, hsz, hW, hK, hGs⟩ := x_start hv
  subst hsz
  have hx := B.exec
  have hb := B.bytes
  have hr := B.returns
  have hts := atoms_spec (ws := wsL_hidden) B.pre
  have hown : s.vm.findClass RL = some m.cls := findClass_of_methodNamed B.named
  have hlk := B.notSynchronized
  have htab := vx_table (x := yL_hidden) B (hts (.codeWith yL_hidden cL_hidden 4 (some .int) [(0, 9, 12, 31)]) (by decide +kernel))
  have hC : Cx g p s m _ c cL_hidden RL wsL_hidden 4 := ⟨hx, hb, hml, hown, hts, hK⟩
  have hA : ∀ q : Nat, s.heap.size ≤ q → dA ad n s.heap.size q := fun q h => Or.inr h
  have hS : va_S (dA ad n s.heap.size) s.heap s.heap [] := va_S.rf
  have hl := lv_entry ([.ref (ad p0), .int p1, .ref (ad p2)]) (n := 4) (Nat.le_of_ble_eq_true rfl)
  rw [lg_entry_eq]
  generalize (lg_sl ([.ref (ad p0), .int p1, .ref (ad p2)]) ++ List.replicate (4 - (lg_sl ([.ref (ad p0), .int p1, .ref (ad p2)])).length) Slot.unset).toArray = ls at hl ⊢
  have hl : lv_has ls 4 [(0, .ref (ad p0)), (1, .int p1), (2, .ref (ad p2))] := hl
  have w_0 := hts (.classLink RL 31 "java/util/NoSuchElementException") (by decide +kernel)
  have hGE := hGs.2.2.2.2.2.2.1
  have hGM := hGs.2.2.2.2.2.2.2.1
  unfold f_L_hidden at hf
  refine lv_aload_n hx hb dL_hidden_0 rfl (lv_at hl 2 rfl) ?_
  refine lv_iconst (v := 0) hx hb dL_hidden_1 (by decide) ?_
  refine lv_aload_n hx hb dL_hidden_2 rfl (lv_at hl 0 rfl) ?_
  refine lv_iload_n hx hb dL_hidden_3 rfl (lv_at hl 1 rfl) ?_
  replace hf := obE hf
  obtain ⟨z1, hz1, hf⟩ := hf
  obtain ⟨oz1, S2⟩ := z1
  replace hf := ltE hf S2 rfl
  refine x_tcallV (As := [.int p1]) (rest := [.int 0, .ref (ad p2)]) (S1 := S2) (o := oz1) (vr := (fun r => some (.int r))) (P := True) hC hl.1 hW hS hGs hA tp0 rfl (show vwCl[9]? = some (RX10, TX10, 11) ∧ 9 < 11 from ⟨rfl, by decide⟩) (c_X10_hidden l hfl g ad n K s.heap.size F S0 p0 p1 tp0 oz1 S2 hz1) (cwV 1 hts gL_hidden_X10_hidden rfl rfl rfl (by decide +kernel) ⟨Nat.le_of_ble_eq_true rfl, Nat.le_of_ble_eq_true rfl⟩) rfl rfl (Nat.le_of_ble_eq_true rfl) dL_hidden_4 ⟨Nat.le_of_ble_eq_true rfl, Nat.le_of_ble_eq_true rfl⟩ (fun x5 H locs ce q9 ho hW hS hc1 hc2 hc3 => ?_) (fun r3 H locs ho hP hW hS => ?_)
  · replace hf := smL ho hf
    by_cases c9 : x5 = 4
    · replace hf := ifT c9 hf
      subst c9
      refine x_caught (x := 4) (name := "java/util/NoSuchElementException") hC hGs [] ⟨0, 9, 12, 31⟩ [] (htab.trans rfl) (fun _ h => absurd h List.not_mem_nil) ⟨by decide, by decide, rfl, by decide +kernel⟩ w_0 hc1 hc2 hc3 ?_
      refine lv_astore_n (lv' := [(3, .ref q9), (0, .ref (ad p0)), (1, .int p1), (2, .ref (ad p2))]) hx hb dL_hidden_12 rfl hl (by decide) rfl (fun ls hl => ?_)
      refine lv_iconst (v := 1) hx hb dL_hidden_13 (by decide) ?_
      obtain ⟨e1, e2⟩ := so2 hf
      subst e1
      subst e2
      exact W.iret (v := 1) hx hb hr (fun t ht hWm => ⟨⟨rfl, by unfold QB; rw [ht]; exact ⟨hW, trivial⟩⟩, hS.F ht⟩) hS.2.2 dL_hidden_14 hlk
    · replace hf := ifF c9 hf
      cases hf
  · replace hf := smR ho hf
    refine W.widen (k := 1) (n := 6) (Nat.le_of_ble_eq_true rfl) (Nat.le_of_ble_eq_true rfl) ?_
    refine W.eq (g2 := F0 m 7 ls [.int r3, .int 0, .ref (ad p2)]) rfl ?_
    refine lv_i2l (v := r3.toInt64) hx hb dL_hidden_7 rfl ?_
    replace hf := ckiE hf
    obtain ⟨h10, hf⟩ := hf
    refine x_last hC hW hS tp2 rfl rfl h10 dL_hidden_8 (fun S11 H locs eS11 hW hS => ?_)
    replace hf := ltE hf S11 eS11
    refine lv_goto (tgt := 15) hx hb dL_hidden_9 (by decide) ?_
    refine lv_iconst (v := 0) hx hb dL_hidden_15 (by decide) ?_
    obtain ⟨e1, e2⟩ := so2 hf
    subst e1
    subst e2
    exact W.iret (v := 0) hx hb hr (fun t ht hWm => ⟨⟨rfl, by unfold QB; rw [ht]; exact ⟨hW, trivial⟩⟩, hS.F ht⟩) hS.2.2 dL_hidden_16 hlk
set_option maxHeartbeats 4000000 in
set_option maxRecDepth 100000 in
theorem c_L_state (l : Launch) (hfl : l.stackTraces = false) (g : GP) (ad : Nat → Nat) (n : Nat) (K : Nat → Nat) (sz F : Nat) (S0 : St) (p0 : Nat) (p1 : Int32) (p2 : Int32) (p3 : Nat) (tp0 : p0 < n ∧ K p0 = 9) (tp3 : p3 < n ∧ K p3 = 13) (r9 : Int32) (S9 : St) (hf : f_L_state F S0 p0 p1 p2 p3 = some (r9, S9)) : Met l yL_state wsL_state { frames := 8, cells := 1, slots := 6, locals := 144 } (va_Pc [.ref (ad p0), .int p1, .int p2, .ref (ad p3)] (PB g ad n K S0 sz)) (QR (some (.int r9)) (QB g ad n K S9 (dA ad n sz) (True)) (dA ad n sz)) 1 6 (dA ad n sz) := by
  refine x_ofWH (cc := cL_state) (maxL := 5) (ret := (some .int)) (hh := [(0, 10, 13, 31)]) (by decide) rfl ?_
  intro p e s m args below meth c s₁ B hml hv
  obtain ⟨rfl, hsz, hW, hK, hGs⟩ := x_start hv
  subst hsz
  have hx := B.exec
  have hb := B.bytes
  have hr := B.returns
  have hts := atoms_spec (ws := wsL_state) B.pre
  have hown : s.vm.findClass RL = some m.cls := findClass_of_methodNamed B.named
  have hlk := B.notSynchronized
  have htab := vx_table (x := yL_state) B (hts (.codeWith yL_state cL_state 5 (some .int) [(0, 10, 13, 31)]) (by decide +kernel))
  have hC : Cx g p s m _ c cL_state RL wsL_state 5 := ⟨hx, hb, hml, hown, hts, hK⟩
  have hA : ∀ q : Nat, s.heap.size ≤ q → dA ad n s.heap.size q := fun q h => Or.inr h
  have hS : va_S (dA ad n s.heap.size) s.heap s.heap [] := va_S.rf
  have hl := lv_entry ([.ref (ad p0), .int p1, .int p2, .ref (ad p3)]) (n := 5) (Nat.le_of_ble_eq_true rfl)
  rw [lg_entry_eq]
  generalize (lg_sl ([.ref (ad p0), .int p1, .int p2, .ref (ad p3)]) ++ List.replicate (5 - (lg_sl ([.ref (ad p0), .int p1, .int p2, .ref (ad p3)])).length) Slot.unset).toArray = ls at hl ⊢
  have hl : lv_has ls 5 [(0, .ref (ad p0)), (1, .int p1), (2, .int p2), (3, .ref (ad p3))] := hl
  have w_0 := hts (.classLink RL 31 "java/util/NoSuchElementException") (by decide +kernel)
  have hGE := hGs.2.2.2.2.2.2.1
  have hGM := hGs.2.2.2.2.2.2.2.1
  unfold f_L_state at hf
  refine lv_aload_n hx hb dL_state_0 rfl (lv_at hl 3 rfl) ?_
  refine lv_iconst (v := 0) hx hb dL_state_1 (by decide) ?_
  refine lv_aload_n hx hb dL_state_2 rfl (lv_at hl 0 rfl) ?_
  refine lv_iload_n hx hb dL_state_3 rfl (lv_at hl 1 rfl) ?_
  refine lv_iload_n hx hb dL_state_4 rfl (lv_at hl 2 rfl) ?_
  replace hf := obE hf
  obtain ⟨z1, hz1, hf⟩ := hf
  obtain ⟨oz1, S2⟩ := z1
  replace hf := ltE hf S2 rfl
  refine x_tcallV (As := [.int p1, .int p2]) (rest := [.int 0, .ref (ad p3)]) (S1 := S2) (o := oz1) (vr := (fun r => some (.int r))) (P := True) hC hl.1 hW hS hGs hA tp0 rfl (show vwCl[9]? = some (RX10, TX10, 11) ∧ 9 < 11 from ⟨rfl, by decide⟩) (c_X10_state l hfl g ad n K s.heap.size F S0 p0 p1 p2 tp0 oz1 S2 hz1) (cwV 2 hts gL_state_X10_state rfl rfl rfl (by decide +kernel) ⟨Nat.le_of_ble_eq_true rfl, Nat.le_of_ble_eq_true rfl⟩) rfl rfl (Nat.le_of_ble_eq_true rfl) dL_state_5 ⟨Nat.le_of_ble_eq_true rfl, Nat.le_of_ble_eq_true rfl⟩ (fun x5 H locs ce q9 ho hW hS hc1 hc2 hc3 => ?_) (fun r3 H locs ho hP hW hS => ?_)
  · replace hf := smL ho hf
    by_cases c9 : x5 = 4
    · replace hf := ifT c9 hf
      subst c9
      refine x_caught (x := 4) (name := "java/util/NoSuchElementException") hC hGs [] ⟨0, 10, 13, 31⟩ [] (htab.trans rfl) (fun _ h => absurd h List.not_mem_nil) ⟨by decide, by decide, rfl, by decide +kernel⟩ w_0 hc1 hc2 hc3 ?_
      refine lv_astore (lv' := [(4, .ref q9), (0, .ref (ad p0)), (1, .int p1), (2, .int p2), (3, .ref (ad p3))]) hx hb dL_state_13 hl (by decide) rfl (fun ls hl => ?_)
      refine lv_iconst (v := 1) hx hb dL_state_15 (by decide) ?_
      obtain ⟨e1, e2⟩ := so2 hf
      subst e1
      subst e2
      exact W.iret (v := 1) hx hb hr (fun t ht hWm => ⟨⟨rfl, by unfold QB; rw [ht]; exact ⟨hW, trivial⟩⟩, hS.F ht⟩) hS.2.2 dL_state_16 hlk
    · replace hf := ifF c9 hf
      cases hf
  · replace hf := smR ho hf
    refine W.widen (k := 1) (n := 6) (Nat.le_of_ble_eq_true rfl) (Nat.le_of_ble_eq_true rfl) ?_
    refine W.eq (g2 := F0 m 8 ls [.int r3, .int 0, .ref (ad p3)]) rfl ?_
    refine lv_i2l (v := r3.toInt64) hx hb dL_state_8 rfl ?_
    replace hf := ckiE hf
    obtain ⟨h10, hf⟩ := hf
    refine x_last hC hW hS tp3 rfl rfl h10 dL_state_9 (fun S11 H locs eS11 hW hS => ?_)
    replace hf := ltE hf S11 eS11
    refine lv_goto (tgt := 17) hx hb dL_state_10 (by decide) ?_
    refine lv_iconst (v := 0) hx hb dL_state_17 (by decide) ?_
    obtain ⟨e1, e2⟩ := so2 hf
    subst e1
    subst e2
    exact W.iret (v := 0) hx hb hr (fun t ht hWm => ⟨⟨rfl, by unfold QB; rw [ht]; exact ⟨hW, trivial⟩⟩, hS.F ht⟩) hS.2.2 dL_state_18 hlk
set_option maxHeartbeats 4000000 in
set_option maxRecDepth 100000 in
theorem c_L_classOf (l : Launch) (hfl : l.stackTraces = false) (g : GP) (ad : Nat → Nat) (n : Nat) (K : Nat → Nat) (sz F : Nat) (S0 : St) (p0 : Nat) (p1 : Int32) (p2 : Int32) (p3 : Nat) (tp0 : p0 < n ∧ K p0 = 9) (tp3 : p3 < n ∧ K p3 = 13) (r9 : Int32) (S9 : St) (hf : f_L_classOf F S0 p0 p1 p2 p3 = some (r9, S9)) : Met l yL_classOf wsL_classOf { frames := 8, cells := 1, slots := 6, locals := 144 } (va_Pc [.ref (ad p0), .int p1, .int p2, .ref (ad p3)] (PB g ad n K S0 sz)) (QR (some (.int r9)) (QB g ad n K S9 (dA ad n sz) (True)) (dA ad n sz)) 1 6 (dA ad n sz) := by
  refine x_ofWH (cc := cL_classOf) (maxL := 5) (ret := (some .int)) (hh := [(0, 10, 13, 31)]) (by decide) rfl ?_
  intro p e s m args below meth c s₁ B hml hv
  obtain ⟨rfl, hsz, hW, hK, hGs⟩ := x_start hv
  subst hsz
  have hx := B.exec
  have hb := B.bytes
  have hr := B.returns
  have hts := atoms_spec (ws := wsL_classOf) B.pre
  have hown : s.vm.findClass RL = some m.cls := findClass_of_methodNamed B.named
  have hlk := B.notSynchronized
  have htab := vx_table (x := yL_classOf) B (hts (.codeWith yL_classOf cL_classOf 5 (some .int) [(0, 10, 13, 31)]) (by decide +kernel))
  have hC : Cx g p s m _ c cL_classOf RL wsL_classOf 5 := ⟨hx, hb, hml, hown, hts, hK⟩
  have hA : ∀ q : Nat, s.heap.size ≤ q → dA ad n s.heap.size q := fun q h => Or.inr h
  have hS : va_S (dA ad n s.heap.size) s.heap s.heap [] := va_S.rf
  have hl := lv_entry ([.ref (ad p0), .int p1, .int p2, .ref (ad p3)]) (n := 5) (Nat.le_of_ble_eq_true rfl)
  rw [lg_entry_eq]
  generalize (lg_sl ([.ref (ad p0), .int p1, .int p2, .ref (ad p3)]) ++ List.replicate (5 - (lg_sl ([.ref (ad p0), .int p1, .int p2, .ref (ad p3)])).length) Slot.unset).toArray = ls at hl ⊢
  have hl : lv_has ls 5 [(0, .ref (ad p0)), (1, .int p1), (2, .int p2), (3, .ref (ad p3))] := hl
  have w_0 := hts (.classLink RL 31 "java/util/NoSuchElementException") (by decide +kernel)
  have hGE := hGs.2.2.2.2.2.2.1
  have hGM := hGs.2.2.2.2.2.2.2.1
  unfold f_L_classOf at hf
  refine lv_aload_n hx hb dL_classOf_0 rfl (lv_at hl 3 rfl) ?_
  refine lv_iconst (v := 0) hx hb dL_classOf_1 (by decide) ?_
  refine lv_aload_n hx hb dL_classOf_2 rfl (lv_at hl 0 rfl) ?_
  refine lv_iload_n hx hb dL_classOf_3 rfl (lv_at hl 1 rfl) ?_
  refine lv_iload_n hx hb dL_classOf_4 rfl (lv_at hl 2 rfl) ?_
  replace hf := obE hf
  obtain ⟨z1, hz1, hf⟩ := hf
  obtain ⟨oz1, S2⟩ := z1
  replace hf := ltE hf S2 rfl
  refine x_tcallV (As := [.int p1, .int p2]) (rest := [.int 0, .ref (ad p3)]) (S1 := S2) (o := oz1) (vr := (fun r => some (.int r))) (P := True) hC hl.1 hW hS hGs hA tp0 rfl (show vwCl[9]? = some (RX10, TX10, 11) ∧ 9 < 11 from ⟨rfl, by decide⟩) (c_X10_classOf l hfl g ad n K s.heap.size F S0 p0 p1 p2 tp0 oz1 S2 hz1) (cwV 2 hts gL_classOf_X10_classOf rfl rfl rfl (by decide +kernel) ⟨Nat.le_of_ble_eq_true rfl, Nat.le_of_ble_eq_true rfl⟩) rfl rfl (Nat.le_of_ble_eq_true rfl) dL_classOf_5 ⟨Nat.le_of_ble_eq_true rfl, Nat.le_of_ble_eq_true rfl⟩ (fun x5 H locs ce q9 ho hW hS hc1 hc2 hc3 => ?_) (fun r3 H locs ho hP hW hS => ?_)
  · replace hf := smL ho hf
    by_cases c9 : x5 = 4
    · replace hf := ifT c9 hf
      subst c9
      refine x_caught (x := 4) (name := "java/util/NoSuchElementException") hC hGs [] ⟨0, 10, 13, 31⟩ [] (htab.trans rfl) (fun _ h => absurd h List.not_mem_nil) ⟨by decide, by decide, rfl, by decide +kernel⟩ w_0 hc1 hc2 hc3 ?_
      refine lv_astore (lv' := [(4, .ref q9), (0, .ref (ad p0)), (1, .int p1), (2, .int p2), (3, .ref (ad p3))]) hx hb dL_classOf_13 hl (by decide) rfl (fun ls hl => ?_)
      refine lv_iconst (v := 1) hx hb dL_classOf_15 (by decide) ?_
      obtain ⟨e1, e2⟩ := so2 hf
      subst e1
      subst e2
      exact W.iret (v := 1) hx hb hr (fun t ht hWm => ⟨⟨rfl, by unfold QB; rw [ht]; exact ⟨hW, trivial⟩⟩, hS.F ht⟩) hS.2.2 dL_classOf_16 hlk
    · replace hf := ifF c9 hf
      cases hf
  · replace hf := smR ho hf
    refine W.widen (k := 1) (n := 6) (Nat.le_of_ble_eq_true rfl) (Nat.le_of_ble_eq_true rfl) ?_
    refine W.eq (g2 := F0 m 8 ls [.int r3, .int 0, .ref (ad p3)]) rfl ?_
    refine lv_i2l (v := r3.toInt64) hx hb dL_classOf_8 rfl ?_
    replace hf := ckiE hf
    obtain ⟨h10, hf⟩ := hf
    refine x_last hC hW hS tp3 rfl rfl h10 dL_classOf_9 (fun S11 H locs eS11 hW hS => ?_)
    replace hf := ltE hf S11 eS11
    refine lv_goto (tgt := 17) hx hb dL_classOf_10 (by decide) ?_
    refine lv_iconst (v := 0) hx hb dL_classOf_17 (by decide) ?_
    obtain ⟨e1, e2⟩ := so2 hf
    subst e1
    subst e2
    exact W.iret (v := 0) hx hb hr (fun t ht hWm => ⟨⟨rfl, by unfold QB; rw [ht]; exact ⟨hW, trivial⟩⟩, hS.F ht⟩) hS.2.2 dL_classOf_18 hlk
set_option maxHeartbeats 4000000 in
set_option maxRecDepth 100000 in
theorem c_L_enteredOn (l : Launch) (hfl : l.stackTraces = false) (g : GP) (ad : Nat → Nat) (n : Nat) (K : Nat → Nat) (sz F : Nat) (S0 : St) (p0 : Nat) (p1 : Int32) (p2 : Int32) (p3 : Nat) (tp0 : p0 < n ∧ K p0 = 9) (tp3 : p3 < n ∧ K p3 = 13) (r9 : Int32) (S9 : St) (hf : f_L_enteredOn F S0 p0 p1 p2 p3 = some (r9, S9)) : Met l yL_enteredOn wsL_enteredOn { frames := 8, cells := 1, slots := 6, locals := 144 } (va_Pc [.ref (ad p0), .int p1, .int p2, .ref (ad p3)] (PB g ad n K S0 sz)) (QR (some (.int r9)) (QB g ad n K S9 (dA ad n sz) (True)) (dA ad n sz)) 1 6 (dA ad n sz) := by
  refine x_ofWH (cc := cL_enteredOn) (maxL := 5) (ret := (some .int)) (hh := [(0, 10, 13, 31)]) (by decide) rfl ?_
  intro p e s m args below meth c s₁ B hml hv
  obtain ⟨rfl, hsz, hW, hK, hGs⟩ := x_start hv
  subst hsz
  have hx := B.exec
  have hb := B.bytes
  have hr := B.returns
  have hts := atoms_spec (ws := wsL_enteredOn) B.pre
  have hown : s.vm.findClass RL = some m.cls := findClass_of_methodNamed B.named
  have hlk := B.notSynchronized
  have htab := vx_table (x := yL_enteredOn) B (hts (.codeWith yL_enteredOn cL_enteredOn 5 (some .int) [(0, 10, 13, 31)]) (by decide +kernel))
  have hC : Cx g p s m _ c cL_enteredOn RL wsL_enteredOn 5 := ⟨hx, hb, hml, hown, hts, hK⟩
  have hA : ∀ q : Nat, s.heap.size ≤ q → dA ad n s.heap.size q := fun q h => Or.inr h
  have hS : va_S (dA ad n s.heap.size) s.heap s.heap [] := va_S.rf
  have hl := lv_entry ([.ref (ad p0), .int p1, .int p2, .ref (ad p3)]) (n := 5) (Nat.le_of_ble_eq_true rfl)
  rw [lg_entry_eq]
  generalize (lg_sl ([.ref (ad p0), .int p1, .int p2, .ref (ad p3)]) ++ List.replicate (5 - (lg_sl ([.ref (ad p0), .int p1, .int p2, .ref (ad p3)])).length) Slot.unset).toArray = ls at hl ⊢
  have hl : lv_has ls 5 [(0, .ref (ad p0)), (1, .int p1), (2, .int p2), (3, .ref (ad p3))] := hl
  have w_0 := hts (.classLink RL 31 "java/util/NoSuchElementException") (by decide +kernel)
  have hGE := hGs.2.2.2.2.2.2.1
  have hGM := hGs.2.2.2.2.2.2.2.1
  unfold f_L_enteredOn at hf
  refine lv_aload_n hx hb dL_enteredOn_0 rfl (lv_at hl 3 rfl) ?_
  refine lv_iconst (v := 0) hx hb dL_enteredOn_1 (by decide) ?_
  refine lv_aload_n hx hb dL_enteredOn_2 rfl (lv_at hl 0 rfl) ?_
  refine lv_iload_n hx hb dL_enteredOn_3 rfl (lv_at hl 1 rfl) ?_
  refine lv_iload_n hx hb dL_enteredOn_4 rfl (lv_at hl 2 rfl) ?_
  replace hf := obE hf
  obtain ⟨z1, hz1, hf⟩ := hf
  obtain ⟨oz1, S2⟩ := z1
  replace hf := ltE hf S2 rfl
  refine x_tcallV (As := [.int p1, .int p2]) (rest := [.int 0, .ref (ad p3)]) (S1 := S2) (o := oz1) (vr := (fun r => some (.int r))) (P := True) hC hl.1 hW hS hGs hA tp0 rfl (show vwCl[9]? = some (RX10, TX10, 11) ∧ 9 < 11 from ⟨rfl, by decide⟩) (c_X10_enteredOn l hfl g ad n K s.heap.size F S0 p0 p1 p2 tp0 oz1 S2 hz1) (cwV 2 hts gL_enteredOn_X10_enteredOn rfl rfl rfl (by decide +kernel) ⟨Nat.le_of_ble_eq_true rfl, Nat.le_of_ble_eq_true rfl⟩) rfl rfl (Nat.le_of_ble_eq_true rfl) dL_enteredOn_5 ⟨Nat.le_of_ble_eq_true rfl, Nat.le_of_ble_eq_true rfl⟩ (fun x5 H locs ce q9 ho hW hS hc1 hc2 hc3 => ?_) (fun r3 H locs ho hP hW hS => ?_)
  · replace hf := smL ho hf
    by_cases c9 : x5 = 4
    · replace hf := ifT c9 hf
      subst c9
      refine x_caught (x := 4) (name := "java/util/NoSuchElementException") hC hGs [] ⟨0, 10, 13, 31⟩ [] (htab.trans rfl) (fun _ h => absurd h List.not_mem_nil) ⟨by decide, by decide, rfl, by decide +kernel⟩ w_0 hc1 hc2 hc3 ?_
      refine lv_astore (lv' := [(4, .ref q9), (0, .ref (ad p0)), (1, .int p1), (2, .int p2), (3, .ref (ad p3))]) hx hb dL_enteredOn_13 hl (by decide) rfl (fun ls hl => ?_)
      refine lv_iconst (v := 1) hx hb dL_enteredOn_15 (by decide) ?_
      obtain ⟨e1, e2⟩ := so2 hf
      subst e1
      subst e2
      exact W.iret (v := 1) hx hb hr (fun t ht hWm => ⟨⟨rfl, by unfold QB; rw [ht]; exact ⟨hW, trivial⟩⟩, hS.F ht⟩) hS.2.2 dL_enteredOn_16 hlk
    · replace hf := ifF c9 hf
      cases hf
  · replace hf := smR ho hf
    refine W.widen (k := 1) (n := 6) (Nat.le_of_ble_eq_true rfl) (Nat.le_of_ble_eq_true rfl) ?_
    refine W.eq (g2 := F0 m 8 ls [.int r3, .int 0, .ref (ad p3)]) rfl ?_
    refine lv_i2l (v := r3.toInt64) hx hb dL_enteredOn_8 rfl ?_
    replace hf := ckiE hf
    obtain ⟨h10, hf⟩ := hf
    refine x_last hC hW hS tp3 rfl rfl h10 dL_enteredOn_9 (fun S11 H locs eS11 hW hS => ?_)
    replace hf := ltE hf S11 eS11
    refine lv_goto (tgt := 17) hx hb dL_enteredOn_10 (by decide) ?_
    refine lv_iconst (v := 0) hx hb dL_enteredOn_17 (by decide) ?_
    obtain ⟨e1, e2⟩ := so2 hf
    subst e1
    subst e2
    exact W.iret (v := 0) hx hb hr (fun t ht hWm => ⟨⟨rfl, by unfold QB; rw [ht]; exact ⟨hW, trivial⟩⟩, hS.F ht⟩) hS.2.2 dL_enteredOn_18 hlk
set_option maxHeartbeats 4000000 in
set_option maxRecDepth 100000 in
theorem c_L_expiresOn (l : Launch) (hfl : l.stackTraces = false) (g : GP) (ad : Nat → Nat) (n : Nat) (K : Nat → Nat) (sz F : Nat) (S0 : St) (p0 : Nat) (p1 : Int32) (p2 : Int32) (p3 : Nat) (tp0 : p0 < n ∧ K p0 = 9) (tp3 : p3 < n ∧ K p3 = 13) (r9 : Int32) (S9 : St) (hf : f_L_expiresOn F S0 p0 p1 p2 p3 = some (r9, S9)) : Met l yL_expiresOn wsL_expiresOn { frames := 8, cells := 1, slots := 6, locals := 144 } (va_Pc [.ref (ad p0), .int p1, .int p2, .ref (ad p3)] (PB g ad n K S0 sz)) (QR (some (.int r9)) (QB g ad n K S9 (dA ad n sz) (True)) (dA ad n sz)) 1 6 (dA ad n sz) := by
  refine x_ofWH (cc := cL_expiresOn) (maxL := 5) (ret := (some .int)) (hh := [(0, 10, 13, 31)]) (by decide) rfl ?_
  intro p e s m args below meth c s₁ B hml hv
  obtain ⟨rfl, hsz, hW, hK, hGs⟩ := x_start hv
  subst hsz
  have hx := B.exec
  have hb := B.bytes
  have hr := B.returns
  have hts := atoms_spec (ws := wsL_expiresOn) B.pre
  have hown : s.vm.findClass RL = some m.cls := findClass_of_methodNamed B.named
  have hlk := B.notSynchronized
  have htab := vx_table (x := yL_expiresOn) B (hts (.codeWith yL_expiresOn cL_expiresOn 5 (some .int) [(0, 10, 13, 31)]) (by decide +kernel))
  have hC : Cx g p s m _ c cL_expiresOn RL wsL_expiresOn 5 := ⟨hx, hb, hml, hown, hts, hK⟩
  have hA : ∀ q : Nat, s.heap.size ≤ q → dA ad n s.heap.size q := fun q h => Or.inr h
  have hS : va_S (dA ad n s.heap.size) s.heap s.heap [] := va_S.rf
  have hl := lv_entry ([.ref (ad p0), .int p1, .int p2, .ref (ad p3)]) (n := 5) (Nat.le_of_ble_eq_true rfl)
  rw [lg_entry_eq]
  generalize (lg_sl ([.ref (ad p0), .int p1, .int p2, .ref (ad p3)]) ++ List.replicate (5 - (lg_sl ([.ref (ad p0), .int p1, .int p2, .ref (ad p3)])).length) Slot.unset).toArray = ls at hl ⊢
  have hl : lv_has ls 5 [(0, .ref (ad p0)), (1, .int p1), (2, .int p2), (3, .ref (ad p3))] := hl
  have w_0 := hts (.classLink RL 31 "java/util/NoSuchElementException") (by decide +kernel)
  have hGE := hGs.2.2.2.2.2.2.1
  have hGM := hGs.2.2.2.2.2.2.2.1
  unfold f_L_expiresOn at hf
  refine lv_aload_n hx hb dL_expiresOn_0 rfl (lv_at hl 3 rfl) ?_
  refine lv_iconst (v := 0) hx hb dL_expiresOn_1 (by decide) ?_
  refine lv_aload_n hx hb dL_expiresOn_2 rfl (lv_at hl 0 rfl) ?_
  refine lv_iload_n hx hb dL_expiresOn_3 rfl (lv_at hl 1 rfl) ?_
  refine lv_iload_n hx hb dL_expiresOn_4 rfl (lv_at hl 2 rfl) ?_
  replace hf := obE hf
  obtain ⟨z1, hz1, hf⟩ := hf
  obtain ⟨oz1, S2⟩ := z1
  replace hf := ltE hf S2 rfl
  refine x_tcallV (As := [.int p1, .int p2]) (rest := [.int 0, .ref (ad p3)]) (S1 := S2) (o := oz1) (vr := (fun r => some (.int r))) (P := True) hC hl.1 hW hS hGs hA tp0 rfl (show vwCl[9]? = some (RX10, TX10, 11) ∧ 9 < 11 from ⟨rfl, by decide⟩) (c_X10_expiresOn l hfl g ad n K s.heap.size F S0 p0 p1 p2 tp0 oz1 S2 hz1) (cwV 2 hts gL_expiresOn_X10_expiresOn rfl rfl rfl (by decide +kernel) ⟨Nat.le_of_ble_eq_true rfl, Nat.le_of_ble_eq_true rfl⟩) rfl rfl (Nat.le_of_ble_eq_true rfl) dL_expiresOn_5 ⟨Nat.le_of_ble_eq_true rfl, Nat.le_of_ble_eq_true rfl⟩ (fun x5 H locs ce q9 ho hW hS hc1 hc2 hc3 => ?_) (fun r3 H locs ho hP hW hS => ?_)
  · replace hf := smL ho hf
    by_cases c9 : x5 = 4
    · replace hf := ifT c9 hf
      subst c9
      refine x_caught (x := 4) (name := "java/util/NoSuchElementException") hC hGs [] ⟨0, 10, 13, 31⟩ [] (htab.trans rfl) (fun _ h => absurd h List.not_mem_nil) ⟨by decide, by decide, rfl, by decide +kernel⟩ w_0 hc1 hc2 hc3 ?_
      refine lv_astore (lv' := [(4, .ref q9), (0, .ref (ad p0)), (1, .int p1), (2, .int p2), (3, .ref (ad p3))]) hx hb dL_expiresOn_13 hl (by decide) rfl (fun ls hl => ?_)
      refine lv_iconst (v := 1) hx hb dL_expiresOn_15 (by decide) ?_
      obtain ⟨e1, e2⟩ := so2 hf
      subst e1
      subst e2
      exact W.iret (v := 1) hx hb hr (fun t ht hWm => ⟨⟨rfl, by unfold QB; rw [ht]; exact ⟨hW, trivial⟩⟩, hS.F ht⟩) hS.2.2 dL_expiresOn_16 hlk
    · replace hf := ifF c9 hf
      cases hf
  · replace hf := smR ho hf
    refine W.widen (k := 1) (n := 6) (Nat.le_of_ble_eq_true rfl) (Nat.le_of_ble_eq_true rfl) ?_
    refine W.eq (g2 := F0 m 8 ls [.int r3, .int 0, .ref (ad p3)]) rfl ?_
    refine lv_i2l (v := r3.toInt64) hx hb dL_expiresOn_8 rfl ?_
    replace hf := ckiE hf
    obtain ⟨h10, hf⟩ := hf
    refine x_last hC hW hS tp3 rfl rfl h10 dL_expiresOn_9 (fun S11 H locs eS11 hW hS => ?_)
    replace hf := ltE hf S11 eS11
    refine lv_goto (tgt := 17) hx hb dL_expiresOn_10 (by decide) ?_
    refine lv_iconst (v := 0) hx hb dL_expiresOn_17 (by decide) ?_
    obtain ⟨e1, e2⟩ := so2 hf
    subst e1
    subst e2
    exact W.iret (v := 0) hx hb hr (fun t ht hWm => ⟨⟨rfl, by unfold QB; rw [ht]; exact ⟨hW, trivial⟩⟩, hS.F ht⟩) hS.2.2 dL_expiresOn_18 hlk
set_option maxHeartbeats 4000000 in
set_option maxRecDepth 100000 in
theorem c_L_isKept (l : Launch) (hfl : l.stackTraces = false) (g : GP) (ad : Nat → Nat) (n : Nat) (K : Nat → Nat) (sz F : Nat) (S0 : St) (p0 : Nat) (p1 : Int32) (p2 : Int32) (p3 : Nat) (tp0 : p0 < n ∧ K p0 = 9) (tp3 : p3 < n ∧ K p3 = 13) (r9 : Int32) (S9 : St) (hf : f_L_isKept F S0 p0 p1 p2 p3 = some (r9, S9)) : Met l yL_isKept wsL_isKept { frames := 8, cells := 1, slots := 6, locals := 144 } (va_Pc [.ref (ad p0), .int p1, .int p2, .ref (ad p3)] (PB g ad n K S0 sz)) (QR (some (.int r9)) (QB g ad n K S9 (dA ad n sz) (True)) (dA ad n sz)) 1 6 (dA ad n sz) := by
  refine x_ofWH (cc := cL_isKept) (maxL := 5) (ret := (some .int)) (hh := [(0, 17, 20, 31)]) (by decide) rfl ?_
  intro p e s m args below meth c s₁ B hml hv
  obtain ⟨rfl, hsz, hW, hK, hGs⟩ := x_start hv
  subst hsz
  have hx := B.exec
  have hb := B.bytes
  have hr := B.returns
  have hts := atoms_spec (ws := wsL_isKept) B.pre
  have hown : s.vm.findClass RL = some m.cls := findClass_of_methodNamed B.named
  have hlk := B.notSynchronized
  have htab := vx_table (x := yL_isKept) B (hts (.codeWith yL_isKept cL_isKept 5 (some .int) [(0, 17, 20, 31)]) (by decide +kernel))
  have hC : Cx g p s m _ c cL_isKept RL wsL_isKept 5 := ⟨hx, hb, hml, hown, hts, hK⟩
  have hA : ∀ q : Nat, s.heap.size ≤ q → dA ad n s.heap.size q := fun q h => Or.inr h
  have hS : va_S (dA ad n s.heap.size) s.heap s.heap [] := va_S.rf
  have hl := lv_entry ([.ref (ad p0), .int p1, .int p2, .ref (ad p3)]) (n := 5) (Nat.le_of_ble_eq_true rfl)
  rw [lg_entry_eq]
  generalize (lg_sl ([.ref (ad p0), .int p1, .int p2, .ref (ad p3)]) ++ List.replicate (5 - (lg_sl ([.ref (ad p0), .int p1, .int p2, .ref (ad p3)])).length) Slot.unset).toArray = ls at hl ⊢
  have hl : lv_has ls 5 [(0, .ref (ad p0)), (1, .int p1), (2, .int p2), (3, .ref (ad p3))] := hl
  have w_0 := hts (.classLink RL 31 "java/util/NoSuchElementException") (by decide +kernel)
  have hGE := hGs.2.2.2.2.2.2.1
  have hGM := hGs.2.2.2.2.2.2.2.1
  have L16 : ∀ (S0 : St) (s0 : Int64) (s1 : Int32) (s2 : Nat) (ts2 : s2 < n ∧ K s2 = 13) (H : Heap) (locs : List Loc) (ls : Array Slot), f_L_isKept_L16 F S0 s0 s1 s2 = some (r9, S9) → Wb g ad n K S0 (dA ad n s.heap.size) H → va_S (dA ad n s.heap.size) s.heap H locs → lv_has ls 5 [] → W p l e (headSpec wsL_isKept { frames := 8, cells := 1, slots := 6, locals := 144 }).room s m (List.toArray [.ref (ad p0), .int p1, .int p2, .ref (ad p3)]) below meth c H locs 1 6 (MQ below (QR (some (.int r9)) (QB g ad n K S9 (dA ad n s.heap.size) (True)) (dA ad n s.heap.size)) (List.toArray [.ref (ad p0), .int p1, .int p2, .ref (ad p3)]) s 1 6 (dA ad n s.heap.size)) (F0 m 16 ls [.long (s0), .int s1, .ref (ad s2)]) := by
    intro S0 s0 s1 s2 ts2 H locs ls hf hW hS hl
    unfold f_L_isKept_L16 at hf
    replace hf := ckiE hf
    obtain ⟨h3, hf⟩ := hf
    refine x_last hC hW hS ts2 rfl rfl h3 dL_isKept_16 (fun S4 H locs eS4 hW hS => ?_)
    replace hf := ltE hf S4 eS4
    refine lv_goto (tgt := 24) hx hb dL_isKept_17 (by decide) ?_
    refine lv_iconst (v := 0) hx hb dL_isKept_24 (by decide) ?_
    obtain ⟨e1, e2⟩ := so2 hf
    subst e1
    subst e2
    exact W.iret (v := 0) hx hb hr (fun t ht hWm => ⟨⟨rfl, by unfold QB; rw [ht]; exact ⟨hW, trivial⟩⟩, hS.F ht⟩) hS.2.2 dL_isKept_25 hlk
  unfold f_L_isKept at hf
  refine lv_aload_n hx hb dL_isKept_0 rfl (lv_at hl 3 rfl) ?_
  refine lv_iconst (v := 0) hx hb dL_isKept_1 (by decide) ?_
  refine lv_aload_n hx hb dL_isKept_2 rfl (lv_at hl 0 rfl) ?_
  refine lv_iload_n hx hb dL_isKept_3 rfl (lv_at hl 1 rfl) ?_
  refine lv_iload_n hx hb dL_isKept_4 rfl (lv_at hl 2 rfl) ?_
  replace hf := obE hf
  obtain ⟨z5, hz5, hf⟩ := hf
  obtain ⟨oz5, S6⟩ := z5
  replace hf := ltE hf S6 rfl
  refine x_tcallV (As := [.int p1, .int p2]) (rest := [.int 0, .ref (ad p3)]) (S1 := S6) (o := oz5) (vr := (fun r => some (.int r))) (P := True) hC hl.1 hW hS hGs hA tp0 rfl (show vwCl[9]? = some (RX10, TX10, 11) ∧ 9 < 11 from ⟨rfl, by decide⟩) (c_X10_isKept l hfl g ad n K s.heap.size F S0 p0 p1 p2 tp0 oz5 S6 hz5) (cwV 2 hts gL_isKept_X10_isKept rfl rfl rfl (by decide +kernel) ⟨Nat.le_of_ble_eq_true rfl, Nat.le_of_ble_eq_true rfl⟩) rfl rfl (Nat.le_of_ble_eq_true rfl) dL_isKept_5 ⟨Nat.le_of_ble_eq_true rfl, Nat.le_of_ble_eq_true rfl⟩ (fun x9 H locs ce q9 ho hW hS hc1 hc2 hc3 => ?_) (fun r7 H locs ho hP hW hS => ?_)
  · replace hf := smL ho hf
    by_cases c13 : x9 = 4
    · replace hf := ifT c13 hf
      subst c13
      refine x_caught (x := 4) (name := "java/util/NoSuchElementException") hC hGs [] ⟨0, 17, 20, 31⟩ [] (htab.trans rfl) (fun _ h => absurd h List.not_mem_nil) ⟨by decide, by decide, rfl, by decide +kernel⟩ w_0 hc1 hc2 hc3 ?_
      refine lv_astore (lv' := [(4, .ref q9), (0, .ref (ad p0)), (1, .int p1), (2, .int p2), (3, .ref (ad p3))]) hx hb dL_isKept_20 hl (by decide) rfl (fun ls hl => ?_)
      refine lv_iconst (v := 1) hx hb dL_isKept_22 (by decide) ?_
      obtain ⟨e1, e2⟩ := so2 hf
      subst e1
      subst e2
      exact W.iret (v := 1) hx hb hr (fun t ht hWm => ⟨⟨rfl, by unfold QB; rw [ht]; exact ⟨hW, trivial⟩⟩, hS.F ht⟩) hS.2.2 dL_isKept_23 hlk
    · replace hf := ifF c13 hf
      cases hf
  · replace hf := smR ho hf
    refine W.widen (k := 1) (n := 6) (Nat.le_of_ble_eq_true rfl) (Nat.le_of_ble_eq_true rfl) ?_
    refine W.eq (g2 := F0 m 8 ls [.int r7, .int 0, .ref (ad p3)]) rfl ?_
    refine lv_if_eq (tgt := 15) hx hb dL_isKept_8 (by decide) (fun c14 => ?_) (fun c14 => ?_)
    · replace hf := ifT c14 hf
      refine lv_lconst (v := 0) hx hb dL_isKept_15 (by decide) ?_
      exact L16 S6 0 0 p3 tp3 _ _ _ hf hW hS (lv_sub hl [] rfl)
    · replace hf := ifF c14 hf
      refine lv_lconst (v := 1) hx hb dL_isKept_11 (by decide) ?_
      refine lv_goto (tgt := 16) hx hb dL_isKept_12 (by decide) ?_
      exact L16 S6 1 0 p3 tp3 _ _ _ hf hW hS (lv_sub hl [] rfl)
set_option maxHeartbeats 4000000 in
set_option maxRecDepth 100000 in
theorem c_L_holdsOn (l : Launch) (hfl : l.stackTraces = false) (g : GP) (ad : Nat → Nat) (n : Nat) (K : Nat → Nat) (sz F : Nat) (S0 : St) (p0 : Nat) (p1 : Int32) (p2 : Int32) (p3 : Nat) (tp0 : p0 < n ∧ K p0 = 9) (tp3 : p3 < n ∧ K p3 = 13) (r9 : Int32) (S9 : St) (hf : f_L_holdsOn F S0 p0 p1 p2 p3 = some (r9, S9)) : Met l yL_holdsOn wsL_holdsOn { frames := 8, cells := 1, slots := 6, locals := 144 } (va_Pc [.ref (ad p0), .int p1, .int p2, .ref (ad p3)] (PB g ad n K S0 sz)) (QR (some (.int r9)) (QB g ad n K S9 (dA ad n sz) (True)) (dA ad n sz)) 1 6 (dA ad n sz) := by
  refine x_ofWH (cc := cL_holdsOn) (maxL := 5) (ret := (some .int)) (hh := [(0, 10, 13, 31)]) (by decide) rfl ?_
  intro p e s m args below meth c s₁ B hml hv
  obtain ⟨rfl, hsz, hW, hK, hGs⟩ := x_start hv
  subst hsz
  have hx := B.exec
  have hb := B.bytes
  have hr := B.returns
  have hts := atoms_spec (ws := wsL_holdsOn) B.pre
  have hown : s.vm.findClass RL = some m.cls := findClass_of_methodNamed B.named
  have hlk := B.notSynchronized
  have htab := vx_table (x := yL_holdsOn) B (hts (.codeWith yL_holdsOn cL_holdsOn 5 (some .int) [(0, 10, 13, 31)]) (by decide +kernel))
  have hC : Cx g p s m _ c cL_holdsOn RL wsL_holdsOn 5 := ⟨hx, hb, hml, hown, hts, hK⟩
  have hA : ∀ q : Nat, s.heap.size ≤ q → dA ad n s.heap.size q := fun q h => Or.inr h
  have hS : va_S (dA ad n s.heap.size) s.heap s.heap [] := va_S.rf
  have hl := lv_entry ([.ref (ad p0), .int p1, .int p2, .ref (ad p3)]) (n := 5) (Nat.le_of_ble_eq_true rfl)
  rw [lg_entry_eq]
  generalize (lg_sl ([.ref (ad p0), .int p1, .int p2, .ref (ad p3)]) ++ List.replicate (5 - (lg_sl ([.ref (ad p0), .int p1, .int p2, .ref (ad p3)])).length) Slot.unset).toArray = ls at hl ⊢
  have hl : lv_has ls 5 [(0, .ref (ad p0)), (1, .int p1), (2, .int p2), (3, .ref (ad p3))] := hl
  have w_0 := hts (.classLink RL 31 "java/util/NoSuchElementException") (by decide +kernel)
  have hGE := hGs.2.2.2.2.2.2.1
  have hGM := hGs.2.2.2.2.2.2.2.1
  unfold f_L_holdsOn at hf
  refine lv_aload_n hx hb dL_holdsOn_0 rfl (lv_at hl 3 rfl) ?_
  refine lv_iconst (v := 0) hx hb dL_holdsOn_1 (by decide) ?_
  refine lv_aload_n hx hb dL_holdsOn_2 rfl (lv_at hl 0 rfl) ?_
  refine lv_iload_n hx hb dL_holdsOn_3 rfl (lv_at hl 1 rfl) ?_
  refine lv_iload_n hx hb dL_holdsOn_4 rfl (lv_at hl 2 rfl) ?_
  replace hf := obE hf
  obtain ⟨z1, hz1, hf⟩ := hf
  obtain ⟨oz1, S2⟩ := z1
  replace hf := ltE hf S2 rfl
  refine x_tcallV (As := [.int p1, .int p2]) (rest := [.int 0, .ref (ad p3)]) (S1 := S2) (o := oz1) (vr := (fun r => some (.int r))) (P := True) hC hl.1 hW hS hGs hA tp0 rfl (show vwCl[9]? = some (RX10, TX10, 11) ∧ 9 < 11 from ⟨rfl, by decide⟩) (c_X10_holdsOn l hfl g ad n K s.heap.size F S0 p0 p1 p2 tp0 oz1 S2 hz1) (cwV 2 hts gL_holdsOn_X10_holdsOn rfl rfl rfl (by decide +kernel) ⟨Nat.le_of_ble_eq_true rfl, Nat.le_of_ble_eq_true rfl⟩) rfl rfl (Nat.le_of_ble_eq_true rfl) dL_holdsOn_5 ⟨Nat.le_of_ble_eq_true rfl, Nat.le_of_ble_eq_true rfl⟩ (fun x5 H locs ce q9 ho hW hS hc1 hc2 hc3 => ?_) (fun r3 H locs ho hP hW hS => ?_)
  · replace hf := smL ho hf
    by_cases c9 : x5 = 4
    · replace hf := ifT c9 hf
      subst c9
      refine x_caught (x := 4) (name := "java/util/NoSuchElementException") hC hGs [] ⟨0, 10, 13, 31⟩ [] (htab.trans rfl) (fun _ h => absurd h List.not_mem_nil) ⟨by decide, by decide, rfl, by decide +kernel⟩ w_0 hc1 hc2 hc3 ?_
      refine lv_astore (lv' := [(4, .ref q9), (0, .ref (ad p0)), (1, .int p1), (2, .int p2), (3, .ref (ad p3))]) hx hb dL_holdsOn_13 hl (by decide) rfl (fun ls hl => ?_)
      refine lv_iconst (v := 1) hx hb dL_holdsOn_15 (by decide) ?_
      obtain ⟨e1, e2⟩ := so2 hf
      subst e1
      subst e2
      exact W.iret (v := 1) hx hb hr (fun t ht hWm => ⟨⟨rfl, by unfold QB; rw [ht]; exact ⟨hW, trivial⟩⟩, hS.F ht⟩) hS.2.2 dL_holdsOn_16 hlk
    · replace hf := ifF c9 hf
      cases hf
  · replace hf := smR ho hf
    refine W.widen (k := 1) (n := 6) (Nat.le_of_ble_eq_true rfl) (Nat.le_of_ble_eq_true rfl) ?_
    refine W.eq (g2 := F0 m 8 ls [.int r3, .int 0, .ref (ad p3)]) rfl ?_
    refine lv_i2l (v := r3.toInt64) hx hb dL_holdsOn_8 rfl ?_
    replace hf := ckiE hf
    obtain ⟨h10, hf⟩ := hf
    refine x_last hC hW hS tp3 rfl rfl h10 dL_holdsOn_9 (fun S11 H locs eS11 hW hS => ?_)
    replace hf := ltE hf S11 eS11
    refine lv_goto (tgt := 17) hx hb dL_holdsOn_10 (by decide) ?_
    refine lv_iconst (v := 0) hx hb dL_holdsOn_17 (by decide) ?_
    obtain ⟨e1, e2⟩ := so2 hf
    subst e1
    subst e2
    exact W.iret (v := 0) hx hb hr (fun t ht hWm => ⟨⟨rfl, by unfold QB; rw [ht]; exact ⟨hW, trivial⟩⟩, hS.F ht⟩) hS.2.2 dL_holdsOn_18 hlk
set_option maxHeartbeats 4000000 in
set_option maxRecDepth 100000 in
theorem c_L_storedPart (l : Launch) (hfl : l.stackTraces = false) (g : GP) (ad : Nat → Nat) (n : Nat) (K : Nat → Nat) (sz F : Nat) (S0 : St) (p0 : Nat) (p1 : Int32) (p2 : Nat) (tp0 : p0 < n ∧ K p0 = 9) (tp2 : p2 < n ∧ K p2 = 13) (r9 : Int32) (S9 : St) (hf : f_L_storedPart F S0 p0 p1 p2 = some (r9, S9)) : Met l yL_storedPart wsL_storedPart { frames := 7, cells := 1, slots := 6, locals := 121 } (va_Pc [.ref (ad p0), .int p1, .ref (ad p2)] (PB g ad n K S0 sz)) (QR (some (.int r9)) (QB g ad n K S9 (dA ad n sz) (True)) (dA ad n sz)) 1 6 (dA ad n sz) := by
  refine x_ofWH (cc := cL_storedPart) (maxL := 4) (ret := (some .int)) (hh := [(0, 9, 12, 31)]) (by decide) rfl ?_
  intro p e s m args below meth c s₁ B hml hv
  obtain ⟨rfl, hsz, hW, hK, hGs⟩ := x_start hv
  subst hsz
  have hx := B.exec
  have hb := B.bytes
  have hr := B.returns
  have hts := atoms_spec (ws := wsL_storedPart) B.pre
  have hown : s.vm.findClass RL = some m.cls := findClass_of_methodNamed B.named
  have hlk := B.notSynchronized
  have htab := vx_table (x := yL_storedPart) B (hts (.codeWith yL_storedPart cL_storedPart 4 (some .int) [(0, 9, 12, 31)]) (by decide +kernel))
  have hC : Cx g p s m _ c cL_storedPart RL wsL_storedPart 4 := ⟨hx, hb, hml, hown, hts, hK⟩
  have hA : ∀ q : Nat, s.heap.size ≤ q → dA ad n s.heap.size q := fun q h => Or.inr h
  have hS : va_S (dA ad n s.heap.size) s.heap s.heap [] := va_S.rf
  have hl := lv_entry ([.ref (ad p0), .int p1, .ref (ad p2)]) (n := 4) (Nat.le_of_ble_eq_true rfl)
  rw [lg_entry_eq]
  generalize (lg_sl ([.ref (ad p0), .int p1, .ref (ad p2)]) ++ List.replicate (4 - (lg_sl ([.ref (ad p0), .int p1, .ref (ad p2)])).length) Slot.unset).toArray = ls at hl ⊢
  have hl : lv_has ls 4 [(0, .ref (ad p0)), (1, .int p1), (2, .ref (ad p2))] := hl
  have w_0 := hts (.classLink RL 31 "java/util/NoSuchElementException") (by decide +kernel)
  have hGE := hGs.2.2.2.2.2.2.1
  have hGM := hGs.2.2.2.2.2.2.2.1
  unfold f_L_storedPart at hf
  refine lv_aload_n hx hb dL_storedPart_0 rfl (lv_at hl 2 rfl) ?_
  refine lv_iconst (v := 0) hx hb dL_storedPart_1 (by decide) ?_
  refine lv_aload_n hx hb dL_storedPart_2 rfl (lv_at hl 0 rfl) ?_
  refine lv_iload_n hx hb dL_storedPart_3 rfl (lv_at hl 1 rfl) ?_
  replace hf := obE hf
  obtain ⟨z1, hz1, hf⟩ := hf
  obtain ⟨oz1, S2⟩ := z1
  replace hf := ltE hf S2 rfl
  refine x_tcallV (As := [.int p1]) (rest := [.int 0, .ref (ad p2)]) (S1 := S2) (o := oz1) (vr := (fun r => some (.int r))) (P := True) hC hl.1 hW hS hGs hA tp0 rfl (show vwCl[9]? = some (RX10, TX10, 11) ∧ 9 < 11 from ⟨rfl, by decide⟩) (c_X10_storedPart l hfl g ad n K s.heap.size F S0 p0 p1 tp0 oz1 S2 hz1) (cwV 1 hts gL_storedPart_X10_storedPart rfl rfl rfl (by decide +kernel) ⟨Nat.le_of_ble_eq_true rfl, Nat.le_of_ble_eq_true rfl⟩) rfl rfl (Nat.le_of_ble_eq_true rfl) dL_storedPart_4 ⟨Nat.le_of_ble_eq_true rfl, Nat.le_of_ble_eq_true rfl⟩ (fun x5 H locs ce q9 ho hW hS hc1 hc2 hc3 => ?_) (fun r3 H locs ho hP hW hS => ?_)
  · replace hf := smL ho hf
    by_cases c9 : x5 = 4
    · replace hf := ifT c9 hf
      subst c9
      refine x_caught (x := 4) (name := "java/util/NoSuchElementException") hC hGs [] ⟨0, 9, 12, 31⟩ [] (htab.trans rfl) (fun _ h => absurd h List.not_mem_nil) ⟨by decide, by decide, rfl, by decide +kernel⟩ w_0 hc1 hc2 hc3 ?_
      refine lv_astore_n (lv' := [(3, .ref q9), (0, .ref (ad p0)), (1, .int p1), (2, .ref (ad p2))]) hx hb dL_storedPart_12 rfl hl (by decide) rfl (fun ls hl => ?_)
      refine lv_iconst (v := 1) hx hb dL_storedPart_13 (by decide) ?_
      obtain ⟨e1, e2⟩ := so2 hf
      subst e1
      subst e2
      exact W.iret (v := 1) hx hb hr (fun t ht hWm => ⟨⟨rfl, by unfold QB; rw [ht]; exact ⟨hW, trivial⟩⟩, hS.F ht⟩) hS.2.2 dL_storedPart_14 hlk
    · replace hf := ifF c9 hf
      cases hf
  · replace hf := smR ho hf
    refine W.widen (k := 1) (n := 6) (Nat.le_of_ble_eq_true rfl) (Nat.le_of_ble_eq_true rfl) ?_
    refine W.eq (g2 := F0 m 7 ls [.int r3, .int 0, .ref (ad p2)]) rfl ?_
    refine lv_i2l (v := r3.toInt64) hx hb dL_storedPart_7 rfl ?_
    replace hf := ckiE hf
    obtain ⟨h10, hf⟩ := hf
    refine x_last hC hW hS tp2 rfl rfl h10 dL_storedPart_8 (fun S11 H locs eS11 hW hS => ?_)
    replace hf := ltE hf S11 eS11
    refine lv_goto (tgt := 15) hx hb dL_storedPart_9 (by decide) ?_
    refine lv_iconst (v := 0) hx hb dL_storedPart_15 (by decide) ?_
    obtain ⟨e1, e2⟩ := so2 hf
    subst e1
    subst e2
    exact W.iret (v := 0) hx hb hr (fun t ht hWm => ⟨⟨rfl, by unfold QB; rw [ht]; exact ⟨hW, trivial⟩⟩, hS.F ht⟩) hS.2.2 dL_storedPart_16 hlk
set_option maxHeartbeats 4000000 in
set_option maxRecDepth 100000 in
theorem c_L_part (l : Launch) (hfl : l.stackTraces = false) (g : GP) (ad : Nat → Nat) (n : Nat) (K : Nat → Nat) (sz F : Nat) (S0 : St) (p0 : Nat) (p1 : Int32) (p2 : Int32) (p3 : Nat) (tp0 : p0 < n ∧ K p0 = 9) (tp3 : p3 < n ∧ K p3 = 13) (r9 : Int32) (S9 : St) (hf : f_L_part F S0 p0 p1 p2 p3 = some (r9, S9)) : Met l yL_part wsL_part { frames := 8, cells := 2, slots := 12, locals := 143 } (va_Pc [.ref (ad p0), .int p1, .int p2, .ref (ad p3)] (PB g ad n K S0 sz)) (QR (some (.int r9)) (QB g ad n K S9 (dA ad n sz) (True)) (dA ad n sz)) 2 12 (dA ad n sz) := by
  refine x_ofWH (cc := cL_part) (maxL := 5) (ret := (some .int)) (hh := [(0, 10, 13, 31), (0, 10, 17, 19)]) (by decide) rfl ?_
  intro p e s m args below meth c s₁ B hml hv
  obtain ⟨rfl, hsz, hW, hK, hGs⟩ := x_start hv
  subst hsz
  have hx := B.exec
  have hb := B.bytes
  have hr := B.returns
  have hts := atoms_spec (ws := wsL_part) B.pre
  have hown : s.vm.findClass RL = some m.cls := findClass_of_methodNamed B.named
  have hlk := B.notSynchronized
  have htab := vx_table (x := yL_part) B (hts (.codeWith yL_part cL_part 5 (some .int) [(0, 10, 13, 31), (0, 10, 17, 19)]) (by decide +kernel))
  have hC : Cx g p s m _ c cL_part RL wsL_part 5 := ⟨hx, hb, hml, hown, hts, hK⟩
  have hA : ∀ q : Nat, s.heap.size ≤ q → dA ad n s.heap.size q := fun q h => Or.inr h
  have hS : va_S (dA ad n s.heap.size) s.heap s.heap [] := va_S.rf
  have hl := lv_entry ([.ref (ad p0), .int p1, .int p2, .ref (ad p3)]) (n := 5) (Nat.le_of_ble_eq_true rfl)
  rw [lg_entry_eq]
  generalize (lg_sl ([.ref (ad p0), .int p1, .int p2, .ref (ad p3)]) ++ List.replicate (5 - (lg_sl ([.ref (ad p0), .int p1, .int p2, .ref (ad p3)])).length) Slot.unset).toArray = ls at hl ⊢
  have hl : lv_has ls 5 [(0, .ref (ad p0)), (1, .int p1), (2, .int p2), (3, .ref (ad p3))] := hl
  have w_0 := hts (.classLink RL 31 "java/util/NoSuchElementException") (by decide +kernel)
  have w_1 := hts (.classLink RL 19 "java/lang/IllegalArgumentException") (by decide +kernel)
  have hGE := hGs.2.2.2.2.2.2.1
  have hGM := hGs.2.2.2.2.2.2.2.1
  unfold f_L_part at hf
  refine lv_aload_n hx hb dL_part_0 rfl (lv_at hl 3 rfl) ?_
  refine lv_iconst (v := 0) hx hb dL_part_1 (by decide) ?_
  refine lv_aload_n hx hb dL_part_2 rfl (lv_at hl 0 rfl) ?_
  refine lv_iload_n hx hb dL_part_3 rfl (lv_at hl 1 rfl) ?_
  refine lv_iload_n hx hb dL_part_4 rfl (lv_at hl 2 rfl) ?_
  replace hf := obE hf
  obtain ⟨z1, hz1, hf⟩ := hf
  obtain ⟨oz1, S2⟩ := z1
  replace hf := ltE hf S2 rfl
  refine x_tcallV (As := [.int p1, .int p2]) (rest := [.int 0, .ref (ad p3)]) (S1 := S2) (o := oz1) (vr := (fun r => some (.int r))) (P := True) hC hl.1 hW hS hGs hA tp0 rfl (show vwCl[9]? = some (RX10, TX10, 11) ∧ 9 < 11 from ⟨rfl, by decide⟩) (c_X10_part l hfl g ad n K s.heap.size F S0 p0 p1 p2 tp0 oz1 S2 hz1) (cwV 2 hts gL_part_X10_part rfl rfl rfl (by decide +kernel) ⟨Nat.le_of_ble_eq_true rfl, Nat.le_of_ble_eq_true rfl⟩) rfl rfl (Nat.le_of_ble_eq_true rfl) dL_part_5 ⟨Nat.le_of_ble_eq_true rfl, Nat.le_of_ble_eq_true rfl⟩ (fun x5 H locs ce q9 ho hW hS hc1 hc2 hc3 => ?_) (fun r3 H locs ho hP hW hS => ?_)
  · replace hf := smL ho hf
    by_cases c9 : x5 = 4
    · replace hf := ifT c9 hf
      subst c9
      refine x_caught (x := 4) (name := "java/util/NoSuchElementException") hC hGs [] ⟨0, 10, 13, 31⟩ [⟨0, 10, 17, 19⟩] (htab.trans rfl) (fun _ h => absurd h List.not_mem_nil) ⟨by decide, by decide, rfl, by decide +kernel⟩ w_0 hc1 hc2 hc3 ?_
      refine lv_astore (lv' := [(4, .ref q9), (0, .ref (ad p0)), (1, .int p1), (2, .int p2), (3, .ref (ad p3))]) hx hb dL_part_13 hl (by decide) rfl (fun ls hl => ?_)
      refine lv_iconst (v := 1) hx hb dL_part_15 (by decide) ?_
      obtain ⟨e1, e2⟩ := so2 hf
      subst e1
      subst e2
      exact W.iret (v := 1) hx hb hr (fun t ht hWm => ⟨⟨rfl, by unfold QB; rw [ht]; exact ⟨hW, trivial⟩⟩, hS.F ht⟩) hS.2.2 dL_part_16 hlk
    · replace hf := ifF c9 hf
      by_cases c10 : x5 = 2
      · replace hf := ifT c10 hf
        subst c10
        refine x_caught (x := 2) (name := "java/lang/IllegalArgumentException") hC hGs [⟨0, 10, 13, 31⟩] ⟨0, 10, 17, 19⟩ [] (htab.trans rfl) (fun z hz => by simp only [List.mem_cons, List.not_mem_nil, or_false] at hz; rcases hz with rfl <;> first | exact Or.inr ⟨by decide, _, w_0, x_nc hGs (by decide)⟩) ⟨by decide, by decide, rfl, by decide +kernel⟩ w_1 hc1 hc2 hc3 ?_
        refine lv_astore (lv' := [(4, .ref q9), (0, .ref (ad p0)), (1, .int p1), (2, .int p2), (3, .ref (ad p3))]) hx hb dL_part_17 hl (by decide) rfl (fun ls hl => ?_)
        refine lv_iconst (v := 2) hx hb dL_part_19 (by decide) ?_
        obtain ⟨e1, e2⟩ := so2 hf
        subst e1
        subst e2
        exact W.iret (v := 2) hx hb hr (fun t ht hWm => ⟨⟨rfl, by unfold QB; rw [ht]; exact ⟨hW, trivial⟩⟩, hS.F ht⟩) hS.2.2 dL_part_20 hlk
      · replace hf := ifF c10 hf
        cases hf
  · replace hf := smR ho hf
    refine W.widen (k := 2) (n := 12) (Nat.le_of_ble_eq_true rfl) (Nat.le_of_ble_eq_true rfl) ?_
    refine W.eq (g2 := F0 m 8 ls [.int r3, .int 0, .ref (ad p3)]) rfl ?_
    refine lv_i2l (v := r3.toInt64) hx hb dL_part_8 rfl ?_
    replace hf := ckiE hf
    obtain ⟨h11, hf⟩ := hf
    refine x_last hC hW hS tp3 rfl rfl h11 dL_part_9 (fun S12 H locs eS12 hW hS => ?_)
    replace hf := ltE hf S12 eS12
    refine lv_goto (tgt := 21) hx hb dL_part_10 (by decide) ?_
    refine lv_iconst (v := 0) hx hb dL_part_21 (by decide) ?_
    obtain ⟨e1, e2⟩ := so2 hf
    subst e1
    subst e2
    exact W.iret (v := 0) hx hb hr (fun t ht hWm => ⟨⟨rfl, by unfold QB; rw [ht]; exact ⟨hW, trivial⟩⟩, hS.F ht⟩) hS.2.2 dL_part_22 hlk
set_option maxHeartbeats 4000000 in
set_option maxRecDepth 100000 in
theorem c_L_partByte (l : Launch) (hfl : l.stackTraces = false) (g : GP) (ad : Nat → Nat) (n : Nat) (K : Nat → Nat) (sz F : Nat) (S0 : St) (p0 : Nat) (p1 : Int32) (p2 : Int32) (p3 : Nat) (tp0 : p0 < n ∧ K p0 = 9) (tp3 : p3 < n ∧ K p3 = 13) (r9 : Int32) (S9 : St) (hf : f_L_partByte F S0 p0 p1 p2 p3 = some (r9, S9)) : Met l yL_partByte wsL_partByte { frames := 8, cells := 2, slots := 12, locals := 144 } (va_Pc [.ref (ad p0), .int p1, .int p2, .ref (ad p3)] (PB g ad n K S0 sz)) (QR (some (.int r9)) (QB g ad n K S9 (dA ad n sz) (True)) (dA ad n sz)) 2 12 (dA ad n sz) := by
  refine x_ofWH (cc := cL_partByte) (maxL := 5) (ret := (some .int)) (hh := [(0, 10, 13, 31), (0, 10, 17, 84)]) (by decide) rfl ?_
  intro p e s m args below meth c s₁ B hml hv
  obtain ⟨rfl, hsz, hW, hK, hGs⟩ := x_start hv
  subst hsz
  have hx := B.exec
  have hb := B.bytes
  have hr := B.returns
  have hts := atoms_spec (ws := wsL_partByte) B.pre
  have hown : s.vm.findClass RL = some m.cls := findClass_of_methodNamed B.named
  have hlk := B.notSynchronized
  have htab := vx_table (x := yL_partByte) B (hts (.codeWith yL_partByte cL_partByte 5 (some .int) [(0, 10, 13, 31), (0, 10, 17, 84)]) (by decide +kernel))
  have hC : Cx g p s m _ c cL_partByte RL wsL_partByte 5 := ⟨hx, hb, hml, hown, hts, hK⟩
  have hA : ∀ q : Nat, s.heap.size ≤ q → dA ad n s.heap.size q := fun q h => Or.inr h
  have hS : va_S (dA ad n s.heap.size) s.heap s.heap [] := va_S.rf
  have hl := lv_entry ([.ref (ad p0), .int p1, .int p2, .ref (ad p3)]) (n := 5) (Nat.le_of_ble_eq_true rfl)
  rw [lg_entry_eq]
  generalize (lg_sl ([.ref (ad p0), .int p1, .int p2, .ref (ad p3)]) ++ List.replicate (5 - (lg_sl ([.ref (ad p0), .int p1, .int p2, .ref (ad p3)])).length) Slot.unset).toArray = ls at hl ⊢
  have hl : lv_has ls 5 [(0, .ref (ad p0)), (1, .int p1), (2, .int p2), (3, .ref (ad p3))] := hl
  have w_0 := hts (.classLink RL 31 "java/util/NoSuchElementException") (by decide +kernel)
  have w_1 := hts (.classLink RL 84 "java/lang/IndexOutOfBoundsException") (by decide +kernel)
  have hGE := hGs.2.2.2.2.2.2.1
  have hGM := hGs.2.2.2.2.2.2.2.1
  unfold f_L_partByte at hf
  refine lv_aload_n hx hb dL_partByte_0 rfl (lv_at hl 3 rfl) ?_
  refine lv_iconst (v := 0) hx hb dL_partByte_1 (by decide) ?_
  refine lv_aload_n hx hb dL_partByte_2 rfl (lv_at hl 0 rfl) ?_
  refine lv_iload_n hx hb dL_partByte_3 rfl (lv_at hl 1 rfl) ?_
  refine lv_iload_n hx hb dL_partByte_4 rfl (lv_at hl 2 rfl) ?_
  replace hf := obE hf
  obtain ⟨z1, hz1, hf⟩ := hf
  obtain ⟨oz1, S2⟩ := z1
  replace hf := ltE hf S2 rfl
  refine x_tcallV (As := [.int p1, .int p2]) (rest := [.int 0, .ref (ad p3)]) (S1 := S2) (o := oz1) (vr := (fun r => some (.int r))) (P := True) hC hl.1 hW hS hGs hA tp0 rfl (show vwCl[9]? = some (RX10, TX10, 11) ∧ 9 < 11 from ⟨rfl, by decide⟩) (c_X10_partByte l hfl g ad n K s.heap.size F S0 p0 p1 p2 tp0 oz1 S2 hz1) (cwV 2 hts gL_partByte_X10_partByte rfl rfl rfl (by decide +kernel) ⟨Nat.le_of_ble_eq_true rfl, Nat.le_of_ble_eq_true rfl⟩) rfl rfl (Nat.le_of_ble_eq_true rfl) dL_partByte_5 ⟨Nat.le_of_ble_eq_true rfl, Nat.le_of_ble_eq_true rfl⟩ (fun x5 H locs ce q9 ho hW hS hc1 hc2 hc3 => ?_) (fun r3 H locs ho hP hW hS => ?_)
  · replace hf := smL ho hf
    by_cases c9 : x5 = 4
    · replace hf := ifT c9 hf
      subst c9
      refine x_caught (x := 4) (name := "java/util/NoSuchElementException") hC hGs [] ⟨0, 10, 13, 31⟩ [⟨0, 10, 17, 84⟩] (htab.trans rfl) (fun _ h => absurd h List.not_mem_nil) ⟨by decide, by decide, rfl, by decide +kernel⟩ w_0 hc1 hc2 hc3 ?_
      refine lv_astore (lv' := [(4, .ref q9), (0, .ref (ad p0)), (1, .int p1), (2, .int p2), (3, .ref (ad p3))]) hx hb dL_partByte_13 hl (by decide) rfl (fun ls hl => ?_)
      refine lv_iconst (v := 1) hx hb dL_partByte_15 (by decide) ?_
      obtain ⟨e1, e2⟩ := so2 hf
      subst e1
      subst e2
      exact W.iret (v := 1) hx hb hr (fun t ht hWm => ⟨⟨rfl, by unfold QB; rw [ht]; exact ⟨hW, trivial⟩⟩, hS.F ht⟩) hS.2.2 dL_partByte_16 hlk
    · replace hf := ifF c9 hf
      by_cases c10 : x5 = 3
      · replace hf := ifT c10 hf
        subst c10
        refine x_caught (x := 3) (name := "java/lang/IndexOutOfBoundsException") hC hGs [⟨0, 10, 13, 31⟩] ⟨0, 10, 17, 84⟩ [] (htab.trans rfl) (fun z hz => by simp only [List.mem_cons, List.not_mem_nil, or_false] at hz; rcases hz with rfl <;> first | exact Or.inr ⟨by decide, _, w_0, x_nc hGs (by decide)⟩) ⟨by decide, by decide, rfl, by decide +kernel⟩ w_1 hc1 hc2 hc3 ?_
        refine lv_astore (lv' := [(4, .ref q9), (0, .ref (ad p0)), (1, .int p1), (2, .int p2), (3, .ref (ad p3))]) hx hb dL_partByte_17 hl (by decide) rfl (fun ls hl => ?_)
        refine lv_iconst (v := 2) hx hb dL_partByte_19 (by decide) ?_
        obtain ⟨e1, e2⟩ := so2 hf
        subst e1
        subst e2
        exact W.iret (v := 2) hx hb hr (fun t ht hWm => ⟨⟨rfl, by unfold QB; rw [ht]; exact ⟨hW, trivial⟩⟩, hS.F ht⟩) hS.2.2 dL_partByte_20 hlk
      · replace hf := ifF c10 hf
        cases hf
  · replace hf := smR ho hf
    refine W.widen (k := 2) (n := 12) (Nat.le_of_ble_eq_true rfl) (Nat.le_of_ble_eq_true rfl) ?_
    refine W.eq (g2 := F0 m 8 ls [.int r3, .int 0, .ref (ad p3)]) rfl ?_
    refine lv_i2l (v := r3.toInt64) hx hb dL_partByte_8 rfl ?_
    replace hf := ckiE hf
    obtain ⟨h11, hf⟩ := hf
    refine x_last hC hW hS tp3 rfl rfl h11 dL_partByte_9 (fun S12 H locs eS12 hW hS => ?_)
    replace hf := ltE hf S12 eS12
    refine lv_goto (tgt := 21) hx hb dL_partByte_10 (by decide) ?_
    refine lv_iconst (v := 0) hx hb dL_partByte_21 (by decide) ?_
    obtain ⟨e1, e2⟩ := so2 hf
    subst e1
    subst e2
    exact W.iret (v := 0) hx hb hr (fun t ht hWm => ⟨⟨rfl, by unfold QB; rw [ht]; exact ⟨hW, trivial⟩⟩, hS.F ht⟩) hS.2.2 dL_partByte_22 hlk
set_option maxHeartbeats 4000000 in
set_option maxRecDepth 100000 in
theorem c_L_digest (l : Launch) (hfl : l.stackTraces = false) (g : GP) (ad : Nat → Nat) (n : Nat) (K : Nat → Nat) (sz F : Nat) (S0 : St) (p0 : Nat) (p1 : Int32) (p2 : Nat) (tp0 : p0 < n ∧ K p0 = 9) (tp2 : p2 < n ∧ K p2 = 13) (r9 : Int32) (S9 : St) (hf : f_L_digest F S0 p0 p1 p2 = some (r9, S9)) : Met l yL_digest wsL_digest { frames := 8, cells := 1, slots := 6, locals := 142 } (va_Pc [.ref (ad p0), .int p1, .ref (ad p2)] (PB g ad n K S0 sz)) (QR (some (.int r9)) (QB g ad n K S9 (dA ad n sz) (True)) (dA ad n sz)) 1 6 (dA ad n sz) := by
  refine x_ofWH (cc := cL_digest) (maxL := 4) (ret := (some .int)) (hh := [(0, 8, 11, 31)]) (by decide) rfl ?_
  intro p e s m args below meth c s₁ B hml hv
  obtain ⟨rfl, hsz, hW, hK, hGs⟩ := x_start hv
  subst hsz
  have hx := B.exec
  have hb := B.bytes
  have hr := B.returns
  have hts := atoms_spec (ws := wsL_digest) B.pre
  have hown : s.vm.findClass RL = some m.cls := findClass_of_methodNamed B.named
  have hlk := B.notSynchronized
  have htab := vx_table (x := yL_digest) B (hts (.codeWith yL_digest cL_digest 4 (some .int) [(0, 8, 11, 31)]) (by decide +kernel))
  have hC : Cx g p s m _ c cL_digest RL wsL_digest 4 := ⟨hx, hb, hml, hown, hts, hK⟩
  have hA : ∀ q : Nat, s.heap.size ≤ q → dA ad n s.heap.size q := fun q h => Or.inr h
  have hS : va_S (dA ad n s.heap.size) s.heap s.heap [] := va_S.rf
  have hl := lv_entry ([.ref (ad p0), .int p1, .ref (ad p2)]) (n := 4) (Nat.le_of_ble_eq_true rfl)
  rw [lg_entry_eq]
  generalize (lg_sl ([.ref (ad p0), .int p1, .ref (ad p2)]) ++ List.replicate (4 - (lg_sl ([.ref (ad p0), .int p1, .ref (ad p2)])).length) Slot.unset).toArray = ls at hl ⊢
  have hl : lv_has ls 4 [(0, .ref (ad p0)), (1, .int p1), (2, .ref (ad p2))] := hl
  have w_0 := hts (.classLink RL 31 "java/util/NoSuchElementException") (by decide +kernel)
  have hGE := hGs.2.2.2.2.2.2.1
  have hGM := hGs.2.2.2.2.2.2.2.1
  unfold f_L_digest at hf
  refine lv_aload_n hx hb dL_digest_0 rfl (lv_at hl 2 rfl) ?_
  refine lv_iconst (v := 0) hx hb dL_digest_1 (by decide) ?_
  refine lv_aload_n hx hb dL_digest_2 rfl (lv_at hl 0 rfl) ?_
  refine lv_iload_n hx hb dL_digest_3 rfl (lv_at hl 1 rfl) ?_
  replace hf := obE hf
  obtain ⟨z1, hz1, hf⟩ := hf
  obtain ⟨oz1, S2⟩ := z1
  replace hf := ltE hf S2 rfl
  refine x_tcallV (As := [.int p1]) (rest := [.int 0, .ref (ad p2)]) (S1 := S2) (o := oz1) (vr := (fun r => some (.long r))) (P := True) hC hl.1 hW hS hGs hA tp0 rfl (show vwCl[9]? = some (RX10, TX10, 11) ∧ 9 < 11 from ⟨rfl, by decide⟩) (c_X10_digest l hfl g ad n K s.heap.size F S0 p0 p1 tp0 oz1 S2 hz1) (cwV 1 hts gL_digest_X10_digest rfl rfl rfl (by decide +kernel) ⟨Nat.le_of_ble_eq_true rfl, Nat.le_of_ble_eq_true rfl⟩) rfl rfl (Nat.le_of_ble_eq_true rfl) dL_digest_4 ⟨Nat.le_of_ble_eq_true rfl, Nat.le_of_ble_eq_true rfl⟩ (fun x5 H locs ce q9 ho hW hS hc1 hc2 hc3 => ?_) (fun r3 H locs ho hP hW hS => ?_)
  · replace hf := smL ho hf
    by_cases c9 : x5 = 4
    · replace hf := ifT c9 hf
      subst c9
      refine x_caught (x := 4) (name := "java/util/NoSuchElementException") hC hGs [] ⟨0, 8, 11, 31⟩ [] (htab.trans rfl) (fun _ h => absurd h List.not_mem_nil) ⟨by decide, by decide, rfl, by decide +kernel⟩ w_0 hc1 hc2 hc3 ?_
      refine lv_astore_n (lv' := [(3, .ref q9), (0, .ref (ad p0)), (1, .int p1), (2, .ref (ad p2))]) hx hb dL_digest_11 rfl hl (by decide) rfl (fun ls hl => ?_)
      refine lv_iconst (v := 1) hx hb dL_digest_12 (by decide) ?_
      obtain ⟨e1, e2⟩ := so2 hf
      subst e1
      subst e2
      exact W.iret (v := 1) hx hb hr (fun t ht hWm => ⟨⟨rfl, by unfold QB; rw [ht]; exact ⟨hW, trivial⟩⟩, hS.F ht⟩) hS.2.2 dL_digest_13 hlk
    · replace hf := ifF c9 hf
      cases hf
  · replace hf := smR ho hf
    refine W.widen (k := 1) (n := 6) (Nat.le_of_ble_eq_true rfl) (Nat.le_of_ble_eq_true rfl) ?_
    refine W.eq (g2 := F0 m 7 ls [.long (r3), .int 0, .ref (ad p2)]) rfl ?_
    replace hf := ckiE hf
    obtain ⟨h10, hf⟩ := hf
    refine x_last hC hW hS tp2 rfl rfl h10 dL_digest_7 (fun S11 H locs eS11 hW hS => ?_)
    replace hf := ltE hf S11 eS11
    refine lv_goto (tgt := 14) hx hb dL_digest_8 (by decide) ?_
    refine lv_iconst (v := 0) hx hb dL_digest_14 (by decide) ?_
    obtain ⟨e1, e2⟩ := so2 hf
    subst e1
    subst e2
    exact W.iret (v := 0) hx hb hr (fun t ht hWm => ⟨⟨rfl, by unfold QB; rw [ht]; exact ⟨hW, trivial⟩⟩, hS.F ht⟩) hS.2.2 dL_digest_15 hlk
set_option maxHeartbeats 4000000 in
set_option maxRecDepth 100000 in
theorem c_L_usage (l : Launch) (hfl : l.stackTraces = false) (g : GP) (ad : Nat → Nat) (n : Nat) (K : Nat → Nat) (sz F : Nat) (S0 : St) (p0 : Nat) (p1 : Int32) (p2 : Nat) (tp0 : p0 < n ∧ K p0 = 9) (tp2 : p2 < n ∧ K p2 = 13) (r9 : Int32) (S9 : St) (hf : f_L_usage F S0 p0 p1 p2 = some (r9, S9)) : Met l yL_usage wsL_usage { frames := 8, cells := 1, slots := 6, locals := 142 } (va_Pc [.ref (ad p0), .int p1, .ref (ad p2)] (PB g ad n K S0 sz)) (QR (some (.int r9)) (QB g ad n K S9 (dA ad n sz) (True)) (dA ad n sz)) 1 6 (dA ad n sz) := by
  refine x_ofWH (cc := cL_usage) (maxL := 4) (ret := (some .int)) (hh := [(0, 9, 12, 31)]) (by decide) rfl ?_
  intro p e s m args below meth c s₁ B hml hv
  obtain ⟨rfl, hsz, hW, hK, hGs⟩ := x_start hv
  subst hsz
  have hx := B.exec
  have hb := B.bytes
  have hr := B.returns
  have hts := atoms_spec (ws := wsL_usage) B.pre
  have hown : s.vm.findClass RL = some m.cls := findClass_of_methodNamed B.named
  have hlk := B.notSynchronized
  have htab := vx_table (x := yL_usage) B (hts (.codeWith yL_usage cL_usage 4 (some .int) [(0, 9, 12, 31)]) (by decide +kernel))
  have hC : Cx g p s m _ c cL_usage RL wsL_usage 4 := ⟨hx, hb, hml, hown, hts, hK⟩
  have hA : ∀ q : Nat, s.heap.size ≤ q → dA ad n s.heap.size q := fun q h => Or.inr h
  have hS : va_S (dA ad n s.heap.size) s.heap s.heap [] := va_S.rf
  have hl := lv_entry ([.ref (ad p0), .int p1, .ref (ad p2)]) (n := 4) (Nat.le_of_ble_eq_true rfl)
  rw [lg_entry_eq]
  generalize (lg_sl ([.ref (ad p0), .int p1, .ref (ad p2)]) ++ List.replicate (4 - (lg_sl ([.ref (ad p0), .int p1, .ref (ad p2)])).length) Slot.unset).toArray = ls at hl ⊢
  have hl : lv_has ls 4 [(0, .ref (ad p0)), (1, .int p1), (2, .ref (ad p2))] := hl
  have w_0 := hts (.classLink RL 31 "java/util/NoSuchElementException") (by decide +kernel)
  have hGE := hGs.2.2.2.2.2.2.1
  have hGM := hGs.2.2.2.2.2.2.2.1
  unfold f_L_usage at hf
  refine lv_aload_n hx hb dL_usage_0 rfl (lv_at hl 2 rfl) ?_
  refine lv_iconst (v := 0) hx hb dL_usage_1 (by decide) ?_
  refine lv_aload_n hx hb dL_usage_2 rfl (lv_at hl 0 rfl) ?_
  refine lv_iload_n hx hb dL_usage_3 rfl (lv_at hl 1 rfl) ?_
  replace hf := obE hf
  obtain ⟨z1, hz1, hf⟩ := hf
  obtain ⟨oz1, S2⟩ := z1
  replace hf := ltE hf S2 rfl
  refine x_tcallV (As := [.int p1]) (rest := [.int 0, .ref (ad p2)]) (S1 := S2) (o := oz1) (vr := (fun r => some (.int r))) (P := True) hC hl.1 hW hS hGs hA tp0 rfl (show vwCl[9]? = some (RX10, TX10, 11) ∧ 9 < 11 from ⟨rfl, by decide⟩) (c_X10_usage l hfl g ad n K s.heap.size F S0 p0 p1 tp0 oz1 S2 hz1) (cwV 1 hts gL_usage_X10_usage rfl rfl rfl (by decide +kernel) ⟨Nat.le_of_ble_eq_true rfl, Nat.le_of_ble_eq_true rfl⟩) rfl rfl (Nat.le_of_ble_eq_true rfl) dL_usage_4 ⟨Nat.le_of_ble_eq_true rfl, Nat.le_of_ble_eq_true rfl⟩ (fun x5 H locs ce q9 ho hW hS hc1 hc2 hc3 => ?_) (fun r3 H locs ho hP hW hS => ?_)
  · replace hf := smL ho hf
    by_cases c9 : x5 = 4
    · replace hf := ifT c9 hf
      subst c9
      refine x_caught (x := 4) (name := "java/util/NoSuchElementException") hC hGs [] ⟨0, 9, 12, 31⟩ [] (htab.trans rfl) (fun _ h => absurd h List.not_mem_nil) ⟨by decide, by decide, rfl, by decide +kernel⟩ w_0 hc1 hc2 hc3 ?_
      refine lv_astore_n (lv' := [(3, .ref q9), (0, .ref (ad p0)), (1, .int p1), (2, .ref (ad p2))]) hx hb dL_usage_12 rfl hl (by decide) rfl (fun ls hl => ?_)
      refine lv_iconst (v := 1) hx hb dL_usage_13 (by decide) ?_
      obtain ⟨e1, e2⟩ := so2 hf
      subst e1
      subst e2
      exact W.iret (v := 1) hx hb hr (fun t ht hWm => ⟨⟨rfl, by unfold QB; rw [ht]; exact ⟨hW, trivial⟩⟩, hS.F ht⟩) hS.2.2 dL_usage_14 hlk
    · replace hf := ifF c9 hf
      cases hf
  · replace hf := smR ho hf
    refine W.widen (k := 1) (n := 6) (Nat.le_of_ble_eq_true rfl) (Nat.le_of_ble_eq_true rfl) ?_
    refine W.eq (g2 := F0 m 7 ls [.int r3, .int 0, .ref (ad p2)]) rfl ?_
    refine lv_i2l (v := r3.toInt64) hx hb dL_usage_7 rfl ?_
    replace hf := ckiE hf
    obtain ⟨h10, hf⟩ := hf
    refine x_last hC hW hS tp2 rfl rfl h10 dL_usage_8 (fun S11 H locs eS11 hW hS => ?_)
    replace hf := ltE hf S11 eS11
    refine lv_goto (tgt := 15) hx hb dL_usage_9 (by decide) ?_
    refine lv_iconst (v := 0) hx hb dL_usage_15 (by decide) ?_
    obtain ⟨e1, e2⟩ := so2 hf
    subst e1
    subst e2
    exact W.iret (v := 0) hx hb hr (fun t ht hWm => ⟨⟨rfl, by unfold QB; rw [ht]; exact ⟨hW, trivial⟩⟩, hS.F ht⟩) hS.2.2 dL_usage_16 hlk
set_option maxHeartbeats 4000000 in
set_option maxRecDepth 100000 in
theorem c_L_quota (l : Launch) (hfl : l.stackTraces = false) (g : GP) (ad : Nat → Nat) (n : Nat) (K : Nat → Nat) (sz F : Nat) (S0 : St) (p0 : Nat) (p1 : Int32) (p2 : Nat) (tp0 : p0 < n ∧ K p0 = 9) (tp2 : p2 < n ∧ K p2 = 13) (r9 : Int32) (S9 : St) (hf : f_L_quota F S0 p0 p1 p2 = some (r9, S9)) : Met l yL_quota wsL_quota { frames := 8, cells := 1, slots := 6, locals := 142 } (va_Pc [.ref (ad p0), .int p1, .ref (ad p2)] (PB g ad n K S0 sz)) (QR (some (.int r9)) (QB g ad n K S9 (dA ad n sz) (True)) (dA ad n sz)) 1 6 (dA ad n sz) := by
  refine x_ofWH (cc := cL_quota) (maxL := 4) (ret := (some .int)) (hh := [(0, 9, 12, 31)]) (by decide) rfl ?_
  intro p e s m args below meth c s₁ B hml hv
  obtain ⟨rfl, hsz, hW, hK, hGs⟩ := x_start hv
  subst hsz
  have hx := B.exec
  have hb := B.bytes
  have hr := B.returns
  have hts := atoms_spec (ws := wsL_quota) B.pre
  have hown : s.vm.findClass RL = some m.cls := findClass_of_methodNamed B.named
  have hlk := B.notSynchronized
  have htab := vx_table (x := yL_quota) B (hts (.codeWith yL_quota cL_quota 4 (some .int) [(0, 9, 12, 31)]) (by decide +kernel))
  have hC : Cx g p s m _ c cL_quota RL wsL_quota 4 := ⟨hx, hb, hml, hown, hts, hK⟩
  have hA : ∀ q : Nat, s.heap.size ≤ q → dA ad n s.heap.size q := fun q h => Or.inr h
  have hS : va_S (dA ad n s.heap.size) s.heap s.heap [] := va_S.rf
  have hl := lv_entry ([.ref (ad p0), .int p1, .ref (ad p2)]) (n := 4) (Nat.le_of_ble_eq_true rfl)
  rw [lg_entry_eq]
  generalize (lg_sl ([.ref (ad p0), .int p1, .ref (ad p2)]) ++ List.replicate (4 - (lg_sl ([.ref (ad p0), .int p1, .ref (ad p2)])).length) Slot.unset).toArray = ls at hl ⊢
  have hl : lv_has ls 4 [(0, .ref (ad p0)), (1, .int p1), (2, .ref (ad p2))] := hl
  have w_0 := hts (.classLink RL 31 "java/util/NoSuchElementException") (by decide +kernel)
  have hGE := hGs.2.2.2.2.2.2.1
  have hGM := hGs.2.2.2.2.2.2.2.1
  unfold f_L_quota at hf
  refine lv_aload_n hx hb dL_quota_0 rfl (lv_at hl 2 rfl) ?_
  refine lv_iconst (v := 0) hx hb dL_quota_1 (by decide) ?_
  refine lv_aload_n hx hb dL_quota_2 rfl (lv_at hl 0 rfl) ?_
  refine lv_iload_n hx hb dL_quota_3 rfl (lv_at hl 1 rfl) ?_
  replace hf := obE hf
  obtain ⟨z1, hz1, hf⟩ := hf
  obtain ⟨oz1, S2⟩ := z1
  replace hf := ltE hf S2 rfl
  refine x_tcallV (As := [.int p1]) (rest := [.int 0, .ref (ad p2)]) (S1 := S2) (o := oz1) (vr := (fun r => some (.int r))) (P := True) hC hl.1 hW hS hGs hA tp0 rfl (show vwCl[9]? = some (RX10, TX10, 11) ∧ 9 < 11 from ⟨rfl, by decide⟩) (c_X10_quota l hfl g ad n K s.heap.size F S0 p0 p1 tp0 oz1 S2 hz1) (cwV 1 hts gL_quota_X10_quota rfl rfl rfl (by decide +kernel) ⟨Nat.le_of_ble_eq_true rfl, Nat.le_of_ble_eq_true rfl⟩) rfl rfl (Nat.le_of_ble_eq_true rfl) dL_quota_4 ⟨Nat.le_of_ble_eq_true rfl, Nat.le_of_ble_eq_true rfl⟩ (fun x5 H locs ce q9 ho hW hS hc1 hc2 hc3 => ?_) (fun r3 H locs ho hP hW hS => ?_)
  · replace hf := smL ho hf
    by_cases c9 : x5 = 4
    · replace hf := ifT c9 hf
      subst c9
      refine x_caught (x := 4) (name := "java/util/NoSuchElementException") hC hGs [] ⟨0, 9, 12, 31⟩ [] (htab.trans rfl) (fun _ h => absurd h List.not_mem_nil) ⟨by decide, by decide, rfl, by decide +kernel⟩ w_0 hc1 hc2 hc3 ?_
      refine lv_astore_n (lv' := [(3, .ref q9), (0, .ref (ad p0)), (1, .int p1), (2, .ref (ad p2))]) hx hb dL_quota_12 rfl hl (by decide) rfl (fun ls hl => ?_)
      refine lv_iconst (v := 1) hx hb dL_quota_13 (by decide) ?_
      obtain ⟨e1, e2⟩ := so2 hf
      subst e1
      subst e2
      exact W.iret (v := 1) hx hb hr (fun t ht hWm => ⟨⟨rfl, by unfold QB; rw [ht]; exact ⟨hW, trivial⟩⟩, hS.F ht⟩) hS.2.2 dL_quota_14 hlk
    · replace hf := ifF c9 hf
      cases hf
  · replace hf := smR ho hf
    refine W.widen (k := 1) (n := 6) (Nat.le_of_ble_eq_true rfl) (Nat.le_of_ble_eq_true rfl) ?_
    refine W.eq (g2 := F0 m 7 ls [.int r3, .int 0, .ref (ad p2)]) rfl ?_
    refine lv_i2l (v := r3.toInt64) hx hb dL_quota_7 rfl ?_
    replace hf := ckiE hf
    obtain ⟨h10, hf⟩ := hf
    refine x_last hC hW hS tp2 rfl rfl h10 dL_quota_8 (fun S11 H locs eS11 hW hS => ?_)
    replace hf := ltE hf S11 eS11
    refine lv_goto (tgt := 15) hx hb dL_quota_9 (by decide) ?_
    refine lv_iconst (v := 0) hx hb dL_quota_15 (by decide) ?_
    obtain ⟨e1, e2⟩ := so2 hf
    subst e1
    subst e2
    exact W.iret (v := 0) hx hb hr (fun t ht hWm => ⟨⟨rfl, by unfold QB; rw [ht]; exact ⟨hW, trivial⟩⟩, hS.F ht⟩) hS.2.2 dL_quota_16 hlk
set_option maxHeartbeats 4000000 in
set_option maxRecDepth 100000 in
theorem c_L_fairShare (l : Launch) (hfl : l.stackTraces = false) (g : GP) (ad : Nat → Nat) (n : Nat) (K : Nat → Nat) (sz F : Nat) (S0 : St) (p0 : Nat) (p1 : Int32) (p2 : Nat) (tp0 : p0 < n ∧ K p0 = 9) (tp2 : p2 < n ∧ K p2 = 17) (r9 : Int32) (S9 : St) (hf : f_L_fairShare F S0 p0 p1 p2 = some (r9, S9)) : Met l yL_fairShare wsL_fairShare { frames := 8, cells := 1, slots := 6, locals := 146 } (va_Pc [.ref (ad p0), .int p1, .ref (ad p2)] (PB g ad n K S0 sz)) (QR (some (.int r9)) (QB g ad n K S9 (dA ad n sz) (True)) (dA ad n sz)) 1 6 (dA ad n sz) := by
  refine x_ofWH (cc := cL_fairShare) (maxL := 4) (ret := (some .int)) (hh := [(0, 8, 11, 31)]) (by decide) rfl ?_
  intro p e s m args below meth c s₁ B hml hv
  obtain ⟨rfl, hsz, hW, hK, hGs⟩ := x_start hv
  subst hsz
  have hx := B.exec
  have hb := B.bytes
  have hr := B.returns
  have hts := atoms_spec (ws := wsL_fairShare) B.pre
  have hown : s.vm.findClass RL = some m.cls := findClass_of_methodNamed B.named
  have hlk := B.notSynchronized
  have htab := vx_table (x := yL_fairShare) B (hts (.codeWith yL_fairShare cL_fairShare 4 (some .int) [(0, 8, 11, 31)]) (by decide +kernel))
  have hC : Cx g p s m _ c cL_fairShare RL wsL_fairShare 4 := ⟨hx, hb, hml, hown, hts, hK⟩
  have hA : ∀ q : Nat, s.heap.size ≤ q → dA ad n s.heap.size q := fun q h => Or.inr h
  have hS : va_S (dA ad n s.heap.size) s.heap s.heap [] := va_S.rf
  have hl := lv_entry ([.ref (ad p0), .int p1, .ref (ad p2)]) (n := 4) (Nat.le_of_ble_eq_true rfl)
  rw [lg_entry_eq]
  generalize (lg_sl ([.ref (ad p0), .int p1, .ref (ad p2)]) ++ List.replicate (4 - (lg_sl ([.ref (ad p0), .int p1, .ref (ad p2)])).length) Slot.unset).toArray = ls at hl ⊢
  have hl : lv_has ls 4 [(0, .ref (ad p0)), (1, .int p1), (2, .ref (ad p2))] := hl
  have w_0 := hts (.classLink RL 31 "java/util/NoSuchElementException") (by decide +kernel)
  have hGE := hGs.2.2.2.2.2.2.1
  have hGM := hGs.2.2.2.2.2.2.2.1
  unfold f_L_fairShare at hf
  refine lv_aload_n hx hb dL_fairShare_0 rfl (lv_at hl 2 rfl) ?_
  refine lv_iconst (v := 0) hx hb dL_fairShare_1 (by decide) ?_
  refine lv_aload_n hx hb dL_fairShare_2 rfl (lv_at hl 0 rfl) ?_
  refine lv_iload_n hx hb dL_fairShare_3 rfl (lv_at hl 1 rfl) ?_
  replace hf := obE hf
  obtain ⟨z1, hz1, hf⟩ := hf
  obtain ⟨oz1, S2⟩ := z1
  replace hf := ltE hf S2 rfl
  refine x_tcallV (As := [.int p1]) (rest := [.int 0, .ref (ad p2)]) (S1 := S2) (o := oz1) (vr := (fun r => some (.double r))) (P := True) hC hl.1 hW hS hGs hA tp0 rfl (show vwCl[9]? = some (RX10, TX10, 11) ∧ 9 < 11 from ⟨rfl, by decide⟩) (c_X10_fairShare l hfl g ad n K s.heap.size F S0 p0 p1 tp0 oz1 S2 hz1) (cwV 1 hts gL_fairShare_X10_fairShare rfl rfl rfl (by decide +kernel) ⟨Nat.le_of_ble_eq_true rfl, Nat.le_of_ble_eq_true rfl⟩) rfl rfl (Nat.le_of_ble_eq_true rfl) dL_fairShare_4 ⟨Nat.le_of_ble_eq_true rfl, Nat.le_of_ble_eq_true rfl⟩ (fun x5 H locs ce q9 ho hW hS hc1 hc2 hc3 => ?_) (fun r3 H locs ho hP hW hS => ?_)
  · replace hf := smL ho hf
    by_cases c9 : x5 = 4
    · replace hf := ifT c9 hf
      subst c9
      refine x_caught (x := 4) (name := "java/util/NoSuchElementException") hC hGs [] ⟨0, 8, 11, 31⟩ [] (htab.trans rfl) (fun _ h => absurd h List.not_mem_nil) ⟨by decide, by decide, rfl, by decide +kernel⟩ w_0 hc1 hc2 hc3 ?_
      refine lv_astore_n (lv' := [(3, .ref q9), (0, .ref (ad p0)), (1, .int p1), (2, .ref (ad p2))]) hx hb dL_fairShare_11 rfl hl (by decide) rfl (fun ls hl => ?_)
      refine lv_iconst (v := 1) hx hb dL_fairShare_12 (by decide) ?_
      obtain ⟨e1, e2⟩ := so2 hf
      subst e1
      subst e2
      exact W.iret (v := 1) hx hb hr (fun t ht hWm => ⟨⟨rfl, by unfold QB; rw [ht]; exact ⟨hW, trivial⟩⟩, hS.F ht⟩) hS.2.2 dL_fairShare_13 hlk
    · replace hf := ifF c9 hf
      cases hf
  · replace hf := smR ho hf
    refine W.widen (k := 1) (n := 6) (Nat.le_of_ble_eq_true rfl) (Nat.le_of_ble_eq_true rfl) ?_
    refine W.eq (g2 := F0 m 7 ls [.double (r3), .int 0, .ref (ad p2)]) rfl ?_
    replace hf := ckiE hf
    obtain ⟨h10, hf⟩ := hf
    refine x_dast hC hW hS tp2 rfl rfl h10 dL_fairShare_7 (fun S11 H locs eS11 hW hS => ?_)
    replace hf := ltE hf S11 eS11
    refine lv_goto (tgt := 14) hx hb dL_fairShare_8 (by decide) ?_
    refine lv_iconst (v := 0) hx hb dL_fairShare_14 (by decide) ?_
    obtain ⟨e1, e2⟩ := so2 hf
    subst e1
    subst e2
    exact W.iret (v := 0) hx hb hr (fun t ht hWm => ⟨⟨rfl, by unfold QB; rw [ht]; exact ⟨hW, trivial⟩⟩, hS.F ht⟩) hS.2.2 dL_fairShare_15 hlk
set_option maxHeartbeats 4000000 in
set_option maxRecDepth 100000 in
theorem c_L_inClass (l : Launch) (hfl : l.stackTraces = false) (g : GP) (ad : Nat → Nat) (n : Nat) (K : Nat → Nat) (sz F : Nat) (S0 : St) (p0 : Nat) (p1 : Int32) (p2 : Int32) (p3 : Nat) (tp0 : p0 < n ∧ K p0 = 9) (tp3 : p3 < n ∧ K p3 = 13) (r9 : Int32) (S9 : St) (hf : f_L_inClass F S0 p0 p1 p2 p3 = some (r9, S9)) : Met l yL_inClass wsL_inClass { frames := 8, cells := 2, slots := 12, locals := 143 } (va_Pc [.ref (ad p0), .int p1, .int p2, .ref (ad p3)] (PB g ad n K S0 sz)) (QR (some (.int r9)) (QB g ad n K S9 (dA ad n sz) (True)) (dA ad n sz)) 2 12 (dA ad n sz) := by
  refine x_ofWH (cc := cL_inClass) (maxL := 5) (ret := (some .int)) (hh := [(0, 10, 13, 31)]) (by decide) rfl ?_
  intro p e s m args below meth c s₁ B hml hv
  obtain ⟨rfl, hsz, hW, hK, hGs⟩ := x_start hv
  subst hsz
  have hx := B.exec
  have hb := B.bytes
  have hr := B.returns
  have hts := atoms_spec (ws := wsL_inClass) B.pre
  have hown : s.vm.findClass RL = some m.cls := findClass_of_methodNamed B.named
  have hlk := B.notSynchronized
  have htab := vx_table (x := yL_inClass) B (hts (.codeWith yL_inClass cL_inClass 5 (some .int) [(0, 10, 13, 31)]) (by decide +kernel))
  have hC : Cx g p s m _ c cL_inClass RL wsL_inClass 5 := ⟨hx, hb, hml, hown, hts, hK⟩
  have hA : ∀ q : Nat, s.heap.size ≤ q → dA ad n s.heap.size q := fun q h => Or.inr h
  have hS : va_S (dA ad n s.heap.size) s.heap s.heap [] := va_S.rf
  have hl := lv_entry ([.ref (ad p0), .int p1, .int p2, .ref (ad p3)]) (n := 5) (Nat.le_of_ble_eq_true rfl)
  rw [lg_entry_eq]
  generalize (lg_sl ([.ref (ad p0), .int p1, .int p2, .ref (ad p3)]) ++ List.replicate (5 - (lg_sl ([.ref (ad p0), .int p1, .int p2, .ref (ad p3)])).length) Slot.unset).toArray = ls at hl ⊢
  have hl : lv_has ls 5 [(0, .ref (ad p0)), (1, .int p1), (2, .int p2), (3, .ref (ad p3))] := hl
  have w_0 := hts (.classLink RL 31 "java/util/NoSuchElementException") (by decide +kernel)
  have hGE := hGs.2.2.2.2.2.2.1
  have hGM := hGs.2.2.2.2.2.2.2.1
  unfold f_L_inClass at hf
  refine lv_aload_n hx hb dL_inClass_0 rfl (lv_at hl 3 rfl) ?_
  refine lv_iconst (v := 0) hx hb dL_inClass_1 (by decide) ?_
  refine lv_aload_n hx hb dL_inClass_2 rfl (lv_at hl 0 rfl) ?_
  refine lv_iload_n hx hb dL_inClass_3 rfl (lv_at hl 1 rfl) ?_
  refine lv_iload_n hx hb dL_inClass_4 rfl (lv_at hl 2 rfl) ?_
  replace hf := obE hf
  obtain ⟨z1, hz1, hf⟩ := hf
  obtain ⟨oz1, S2⟩ := z1
  replace hf := ltE hf S2 rfl
  refine x_tcallV (As := [.int p1, .int p2]) (rest := [.int 0, .ref (ad p3)]) (S1 := S2) (o := oz1) (vr := (fun r => some (.int r))) (P := True) hC hl.1 hW hS hGs hA tp0 rfl (show vwCl[9]? = some (RX10, TX10, 11) ∧ 9 < 11 from ⟨rfl, by decide⟩) (c_X10_inClass l hfl g ad n K s.heap.size F S0 p0 p1 p2 tp0 oz1 S2 hz1) (cwV 2 hts gL_inClass_X10_inClass rfl rfl rfl (by decide +kernel) ⟨Nat.le_of_ble_eq_true rfl, Nat.le_of_ble_eq_true rfl⟩) rfl rfl (Nat.le_of_ble_eq_true rfl) dL_inClass_5 ⟨Nat.le_of_ble_eq_true rfl, Nat.le_of_ble_eq_true rfl⟩ (fun x5 H locs ce q9 ho hW hS hc1 hc2 hc3 => ?_) (fun r3 H locs ho hP hW hS => ?_)
  · replace hf := smL ho hf
    by_cases c9 : x5 = 4
    · replace hf := ifT c9 hf
      subst c9
      refine x_caught (x := 4) (name := "java/util/NoSuchElementException") hC hGs [] ⟨0, 10, 13, 31⟩ [] (htab.trans rfl) (fun _ h => absurd h List.not_mem_nil) ⟨by decide, by decide, rfl, by decide +kernel⟩ w_0 hc1 hc2 hc3 ?_
      refine lv_astore (lv' := [(4, .ref q9), (0, .ref (ad p0)), (1, .int p1), (2, .int p2), (3, .ref (ad p3))]) hx hb dL_inClass_13 hl (by decide) rfl (fun ls hl => ?_)
      refine lv_iconst (v := 1) hx hb dL_inClass_15 (by decide) ?_
      obtain ⟨e1, e2⟩ := so2 hf
      subst e1
      subst e2
      exact W.iret (v := 1) hx hb hr (fun t ht hWm => ⟨⟨rfl, by unfold QB; rw [ht]; exact ⟨hW, trivial⟩⟩, hS.F ht⟩) hS.2.2 dL_inClass_16 hlk
    · replace hf := ifF c9 hf
      cases hf
  · replace hf := smR ho hf
    refine W.widen (k := 2) (n := 12) (Nat.le_of_ble_eq_true rfl) (Nat.le_of_ble_eq_true rfl) ?_
    refine W.eq (g2 := F0 m 8 ls [.int r3, .int 0, .ref (ad p3)]) rfl ?_
    refine lv_i2l (v := r3.toInt64) hx hb dL_inClass_8 rfl ?_
    replace hf := ckiE hf
    obtain ⟨h10, hf⟩ := hf
    refine x_last hC hW hS tp3 rfl rfl h10 dL_inClass_9 (fun S11 H locs eS11 hW hS => ?_)
    replace hf := ltE hf S11 eS11
    refine lv_goto (tgt := 17) hx hb dL_inClass_10 (by decide) ?_
    refine lv_iconst (v := 0) hx hb dL_inClass_17 (by decide) ?_
    obtain ⟨e1, e2⟩ := so2 hf
    subst e1
    subst e2
    exact W.iret (v := 0) hx hb hr (fun t ht hWm => ⟨⟨rfl, by unfold QB; rw [ht]; exact ⟨hW, trivial⟩⟩, hS.F ht⟩) hS.2.2 dL_inClass_18 hlk
set_option maxHeartbeats 4000000 in
set_option maxRecDepth 100000 in
theorem c_L_matches (l : Launch) (hfl : l.stackTraces = false) (g : GP) (ad : Nat → Nat) (n : Nat) (K : Nat → Nat) (sz F : Nat) (S0 : St) (p0 : Nat) (p1 : Int32) (p2 : Nat) (tp0 : p0 < n ∧ K p0 = 9) (tp2 : p2 < n ∧ K p2 = 13) (r9 : Int32) (S9 : St) (hf : f_L_matches F S0 p0 p1 p2 = some (r9, S9)) : Met l yL_matches wsL_matches { frames := 8, cells := 2, slots := 12, locals := 144 } (va_Pc [.ref (ad p0), .int p1, .ref (ad p2)] (PB g ad n K S0 sz)) (QR (some (.int r9)) (QB g ad n K S9 (dA ad n sz) (True)) (dA ad n sz)) 2 12 (dA ad n sz) := by
  refine x_ofWH (cc := cL_matches) (maxL := 4) (ret := (some .int)) (hh := [(0, 9, 12, 31), (0, 9, 15, 19)]) (by decide) rfl ?_
  intro p e s m args below meth c s₁ B hml hv
  obtain ⟨rfl, hsz, hW, hK, hGs⟩ := x_start hv
  subst hsz
  have hx := B.exec
  have hb := B.bytes
  have hr := B.returns
  have hts := atoms_spec (ws := wsL_matches) B.pre
  have hown : s.vm.findClass RL = some m.cls := findClass_of_methodNamed B.named
  have hlk := B.notSynchronized
  have htab := vx_table (x := yL_matches) B (hts (.codeWith yL_matches cL_matches 4 (some .int) [(0, 9, 12, 31), (0, 9, 15, 19)]) (by decide +kernel))
  have hC : Cx g p s m _ c cL_matches RL wsL_matches 4 := ⟨hx, hb, hml, hown, hts, hK⟩
  have hA : ∀ q : Nat, s.heap.size ≤ q → dA ad n s.heap.size q := fun q h => Or.inr h
  have hS : va_S (dA ad n s.heap.size) s.heap s.heap [] := va_S.rf
  have hl := lv_entry ([.ref (ad p0), .int p1, .ref (ad p2)]) (n := 4) (Nat.le_of_ble_eq_true rfl)
  rw [lg_entry_eq]
  generalize (lg_sl ([.ref (ad p0), .int p1, .ref (ad p2)]) ++ List.replicate (4 - (lg_sl ([.ref (ad p0), .int p1, .ref (ad p2)])).length) Slot.unset).toArray = ls at hl ⊢
  have hl : lv_has ls 4 [(0, .ref (ad p0)), (1, .int p1), (2, .ref (ad p2))] := hl
  have w_0 := hts (.classLink RL 31 "java/util/NoSuchElementException") (by decide +kernel)
  have w_1 := hts (.classLink RL 19 "java/lang/IllegalArgumentException") (by decide +kernel)
  have hGE := hGs.2.2.2.2.2.2.1
  have hGM := hGs.2.2.2.2.2.2.2.1
  unfold f_L_matches at hf
  refine lv_aload_n hx hb dL_matches_0 rfl (lv_at hl 2 rfl) ?_
  refine lv_iconst (v := 0) hx hb dL_matches_1 (by decide) ?_
  refine lv_aload_n hx hb dL_matches_2 rfl (lv_at hl 0 rfl) ?_
  refine lv_iload_n hx hb dL_matches_3 rfl (lv_at hl 1 rfl) ?_
  replace hf := obE hf
  obtain ⟨z1, hz1, hf⟩ := hf
  obtain ⟨oz1, S2⟩ := z1
  replace hf := ltE hf S2 rfl
  refine x_tcallV (As := [.int p1]) (rest := [.int 0, .ref (ad p2)]) (S1 := S2) (o := oz1) (vr := (fun r => some (.int r))) (P := True) hC hl.1 hW hS hGs hA tp0 rfl (show vwCl[9]? = some (RX10, TX10, 11) ∧ 9 < 11 from ⟨rfl, by decide⟩) (c_X10_matches l hfl g ad n K s.heap.size F S0 p0 p1 tp0 oz1 S2 hz1) (cwV 1 hts gL_matches_X10_matches rfl rfl rfl (by decide +kernel) ⟨Nat.le_of_ble_eq_true rfl, Nat.le_of_ble_eq_true rfl⟩) rfl rfl (Nat.le_of_ble_eq_true rfl) dL_matches_4 ⟨Nat.le_of_ble_eq_true rfl, Nat.le_of_ble_eq_true rfl⟩ (fun x5 H locs ce q9 ho hW hS hc1 hc2 hc3 => ?_) (fun r3 H locs ho hP hW hS => ?_)
  · replace hf := smL ho hf
    by_cases c9 : x5 = 4
    · replace hf := ifT c9 hf
      subst c9
      refine x_caught (x := 4) (name := "java/util/NoSuchElementException") hC hGs [] ⟨0, 9, 12, 31⟩ [⟨0, 9, 15, 19⟩] (htab.trans rfl) (fun _ h => absurd h List.not_mem_nil) ⟨by decide, by decide, rfl, by decide +kernel⟩ w_0 hc1 hc2 hc3 ?_
      refine lv_astore_n (lv' := [(3, .ref q9), (0, .ref (ad p0)), (1, .int p1), (2, .ref (ad p2))]) hx hb dL_matches_12 rfl hl (by decide) rfl (fun ls hl => ?_)
      refine lv_iconst (v := 1) hx hb dL_matches_13 (by decide) ?_
      obtain ⟨e1, e2⟩ := so2 hf
      subst e1
      subst e2
      exact W.iret (v := 1) hx hb hr (fun t ht hWm => ⟨⟨rfl, by unfold QB; rw [ht]; exact ⟨hW, trivial⟩⟩, hS.F ht⟩) hS.2.2 dL_matches_14 hlk
    · replace hf := ifF c9 hf
      by_cases c10 : x5 = 2
      · replace hf := ifT c10 hf
        subst c10
        refine x_caught (x := 2) (name := "java/lang/IllegalArgumentException") hC hGs [⟨0, 9, 12, 31⟩] ⟨0, 9, 15, 19⟩ [] (htab.trans rfl) (fun z hz => by simp only [List.mem_cons, List.not_mem_nil, or_false] at hz; rcases hz with rfl <;> first | exact Or.inr ⟨by decide, _, w_0, x_nc hGs (by decide)⟩) ⟨by decide, by decide, rfl, by decide +kernel⟩ w_1 hc1 hc2 hc3 ?_
        refine lv_astore_n (lv' := [(3, .ref q9), (0, .ref (ad p0)), (1, .int p1), (2, .ref (ad p2))]) hx hb dL_matches_15 rfl hl (by decide) rfl (fun ls hl => ?_)
        refine lv_iconst (v := 2) hx hb dL_matches_16 (by decide) ?_
        obtain ⟨e1, e2⟩ := so2 hf
        subst e1
        subst e2
        exact W.iret (v := 2) hx hb hr (fun t ht hWm => ⟨⟨rfl, by unfold QB; rw [ht]; exact ⟨hW, trivial⟩⟩, hS.F ht⟩) hS.2.2 dL_matches_17 hlk
      · replace hf := ifF c10 hf
        cases hf
  · replace hf := smR ho hf
    refine W.widen (k := 2) (n := 12) (Nat.le_of_ble_eq_true rfl) (Nat.le_of_ble_eq_true rfl) ?_
    refine W.eq (g2 := F0 m 7 ls [.int r3, .int 0, .ref (ad p2)]) rfl ?_
    refine lv_i2l (v := r3.toInt64) hx hb dL_matches_7 rfl ?_
    replace hf := ckiE hf
    obtain ⟨h11, hf⟩ := hf
    refine x_last hC hW hS tp2 rfl rfl h11 dL_matches_8 (fun S12 H locs eS12 hW hS => ?_)
    replace hf := ltE hf S12 eS12
    refine lv_goto (tgt := 18) hx hb dL_matches_9 (by decide) ?_
    refine lv_iconst (v := 0) hx hb dL_matches_18 (by decide) ?_
    obtain ⟨e1, e2⟩ := so2 hf
    subst e1
    subst e2
    exact W.iret (v := 0) hx hb hr (fun t ht hWm => ⟨⟨rfl, by unfold QB; rw [ht]; exact ⟨hW, trivial⟩⟩, hS.F ht⟩) hS.2.2 dL_matches_19 hlk
set_option maxHeartbeats 4000000 in
set_option maxRecDepth 100000 in
theorem c_L_commonBytes (l : Launch) (hfl : l.stackTraces = false) (g : GP) (ad : Nat → Nat) (n : Nat) (K : Nat → Nat) (sz F : Nat) (S0 : St) (p0 : Nat) (p1 : Int32) (p2 : Int32) (p3 : Nat) (tp0 : p0 < n ∧ K p0 = 9) (tp3 : p3 < n ∧ K p3 = 13) (r9 : Int32) (S9 : St) (hf : f_L_commonBytes F S0 p0 p1 p2 p3 = some (r9, S9)) : Met l yL_commonBytes wsL_commonBytes { frames := 8, cells := 2, slots := 12, locals := 145 } (va_Pc [.ref (ad p0), .int p1, .int p2, .ref (ad p3)] (PB g ad n K S0 sz)) (QR (some (.int r9)) (QB g ad n K S9 (dA ad n sz) (True)) (dA ad n sz)) 2 12 (dA ad n sz) := by
  refine x_ofWH (cc := cL_commonBytes) (maxL := 5) (ret := (some .int)) (hh := [(0, 10, 13, 31)]) (by decide) rfl ?_
  intro p e s m args below meth c s₁ B hml hv
  obtain ⟨rfl, hsz, hW, hK, hGs⟩ := x_start hv
  subst hsz
  have hx := B.exec
  have hb := B.bytes
  have hr := B.returns
  have hts := atoms_spec (ws := wsL_commonBytes) B.pre
  have hown : s.vm.findClass RL = some m.cls := findClass_of_methodNamed B.named
  have hlk := B.notSynchronized
  have htab := vx_table (x := yL_commonBytes) B (hts (.codeWith yL_commonBytes cL_commonBytes 5 (some .int) [(0, 10, 13, 31)]) (by decide +kernel))
  have hC : Cx g p s m _ c cL_commonBytes RL wsL_commonBytes 5 := ⟨hx, hb, hml, hown, hts, hK⟩
  have hA : ∀ q : Nat, s.heap.size ≤ q → dA ad n s.heap.size q := fun q h => Or.inr h
  have hS : va_S (dA ad n s.heap.size) s.heap s.heap [] := va_S.rf
  have hl := lv_entry ([.ref (ad p0), .int p1, .int p2, .ref (ad p3)]) (n := 5) (Nat.le_of_ble_eq_true rfl)
  rw [lg_entry_eq]
  generalize (lg_sl ([.ref (ad p0), .int p1, .int p2, .ref (ad p3)]) ++ List.replicate (5 - (lg_sl ([.ref (ad p0), .int p1, .int p2, .ref (ad p3)])).length) Slot.unset).toArray = ls at hl ⊢
  have hl : lv_has ls 5 [(0, .ref (ad p0)), (1, .int p1), (2, .int p2), (3, .ref (ad p3))] := hl
  have w_0 := hts (.classLink RL 31 "java/util/NoSuchElementException") (by decide +kernel)
  have hGE := hGs.2.2.2.2.2.2.1
  have hGM := hGs.2.2.2.2.2.2.2.1
  unfold f_L_commonBytes at hf
  refine lv_aload_n hx hb dL_commonBytes_0 rfl (lv_at hl 3 rfl) ?_
  refine lv_iconst (v := 0) hx hb dL_commonBytes_1 (by decide) ?_
  refine lv_aload_n hx hb dL_commonBytes_2 rfl (lv_at hl 0 rfl) ?_
  refine lv_iload_n hx hb dL_commonBytes_3 rfl (lv_at hl 1 rfl) ?_
  refine lv_iload_n hx hb dL_commonBytes_4 rfl (lv_at hl 2 rfl) ?_
  replace hf := obE hf
  obtain ⟨z1, hz1, hf⟩ := hf
  obtain ⟨oz1, S2⟩ := z1
  replace hf := ltE hf S2 rfl
  refine x_tcallV (As := [.int p1, .int p2]) (rest := [.int 0, .ref (ad p3)]) (S1 := S2) (o := oz1) (vr := (fun r => some (.int r))) (P := True) hC hl.1 hW hS hGs hA tp0 rfl (show vwCl[9]? = some (RX10, TX10, 11) ∧ 9 < 11 from ⟨rfl, by decide⟩) (c_X10_commonBytes l hfl g ad n K s.heap.size F S0 p0 p1 p2 tp0 oz1 S2 hz1) (cwV 2 hts gL_commonBytes_X10_commonBytes rfl rfl rfl (by decide +kernel) ⟨Nat.le_of_ble_eq_true rfl, Nat.le_of_ble_eq_true rfl⟩) rfl rfl (Nat.le_of_ble_eq_true rfl) dL_commonBytes_5 ⟨Nat.le_of_ble_eq_true rfl, Nat.le_of_ble_eq_true rfl⟩ (fun x5 H locs ce q9 ho hW hS hc1 hc2 hc3 => ?_) (fun r3 H locs ho hP hW hS => ?_)
  · replace hf := smL ho hf
    by_cases c9 : x5 = 4
    · replace hf := ifT c9 hf
      subst c9
      refine x_caught (x := 4) (name := "java/util/NoSuchElementException") hC hGs [] ⟨0, 10, 13, 31⟩ [] (htab.trans rfl) (fun _ h => absurd h List.not_mem_nil) ⟨by decide, by decide, rfl, by decide +kernel⟩ w_0 hc1 hc2 hc3 ?_
      refine lv_astore (lv' := [(4, .ref q9), (0, .ref (ad p0)), (1, .int p1), (2, .int p2), (3, .ref (ad p3))]) hx hb dL_commonBytes_13 hl (by decide) rfl (fun ls hl => ?_)
      refine lv_iconst (v := 1) hx hb dL_commonBytes_15 (by decide) ?_
      obtain ⟨e1, e2⟩ := so2 hf
      subst e1
      subst e2
      exact W.iret (v := 1) hx hb hr (fun t ht hWm => ⟨⟨rfl, by unfold QB; rw [ht]; exact ⟨hW, trivial⟩⟩, hS.F ht⟩) hS.2.2 dL_commonBytes_16 hlk
    · replace hf := ifF c9 hf
      cases hf
  · replace hf := smR ho hf
    refine W.widen (k := 2) (n := 12) (Nat.le_of_ble_eq_true rfl) (Nat.le_of_ble_eq_true rfl) ?_
    refine W.eq (g2 := F0 m 8 ls [.int r3, .int 0, .ref (ad p3)]) rfl ?_
    refine lv_i2l (v := r3.toInt64) hx hb dL_commonBytes_8 rfl ?_
    replace hf := ckiE hf
    obtain ⟨h10, hf⟩ := hf
    refine x_last hC hW hS tp3 rfl rfl h10 dL_commonBytes_9 (fun S11 H locs eS11 hW hS => ?_)
    replace hf := ltE hf S11 eS11
    refine lv_goto (tgt := 17) hx hb dL_commonBytes_10 (by decide) ?_
    refine lv_iconst (v := 0) hx hb dL_commonBytes_17 (by decide) ?_
    obtain ⟨e1, e2⟩ := so2 hf
    subst e1
    subst e2
    exact W.iret (v := 0) hx hb hr (fun t ht hWm => ⟨⟨rfl, by unfold QB; rw [ht]; exact ⟨hW, trivial⟩⟩, hS.F ht⟩) hS.2.2 dL_commonBytes_18 hlk
set_option maxHeartbeats 4000000 in
set_option maxRecDepth 100000 in
theorem c_L_file (l : Launch) (hfl : l.stackTraces = false) (g : GP) (ad : Nat → Nat) (n : Nat) (K : Nat → Nat) (sz F : Nat) (S0 : St) (p0 : Nat) (p1 : Int32) (p2 : Int32) (p3 : Int32) (p4 : Nat) (tp0 : p0 < n ∧ K p0 = 9) (tp4 : p4 < n ∧ K p4 = 13) (r9 : Int32) (S9 : St) (hf : f_L_file F S0 p0 p1 p2 p3 p4 = some (r9, S9)) : Met l yL_file wsL_file { frames := 8, cells := 3, slots := 18, locals := 150 } (va_Pc [.ref (ad p0), .int p1, .int p2, .int p3, .ref (ad p4)] (PB g ad n K S0 sz)) (QR (some (.int r9)) (QB g ad n K S9 (dA ad n sz) (True)) (dA ad n sz)) 3 18 (dA ad n sz) := by
  refine x_ofWH (cc := cL_file) (maxL := 6) (ret := (some .int)) (hh := [(0, 12, 15, 31), (0, 12, 19, 13)]) (by decide) rfl ?_
  intro p e s m args below meth c s₁ B hml hv
  obtain ⟨rfl, hsz, hW, hK, hGs⟩ := x_start hv
  subst hsz
  have hx := B.exec
  have hb := B.bytes
  have hr := B.returns
  have hts := atoms_spec (ws := wsL_file) B.pre
  have hown : s.vm.findClass RL = some m.cls := findClass_of_methodNamed B.named
  have hlk := B.notSynchronized
  have htab := vx_table (x := yL_file) B (hts (.codeWith yL_file cL_file 6 (some .int) [(0, 12, 15, 31), (0, 12, 19, 13)]) (by decide +kernel))
  have hC : Cx g p s m _ c cL_file RL wsL_file 6 := ⟨hx, hb, hml, hown, hts, hK⟩
  have hA : ∀ q : Nat, s.heap.size ≤ q → dA ad n s.heap.size q := fun q h => Or.inr h
  have hS : va_S (dA ad n s.heap.size) s.heap s.heap [] := va_S.rf
  have hl := lv_entry ([.ref (ad p0), .int p1, .int p2, .int p3, .ref (ad p4)]) (n := 6) (Nat.le_of_ble_eq_true rfl)
  rw [lg_entry_eq]
  generalize (lg_sl ([.ref (ad p0), .int p1, .int p2, .int p3, .ref (ad p4)]) ++ List.replicate (6 - (lg_sl ([.ref (ad p0), .int p1, .int p2, .int p3, .ref (ad p4)])).length) Slot.unset).toArray = ls at hl ⊢
  have hl : lv_has ls 6 [(0, .ref (ad p0)), (1, .int p1), (2, .int p2), (3, .int p3), (4, .ref (ad p4))] := hl
  have w_0 := hts (.classLink RL 31 "java/util/NoSuchElementException") (by decide +kernel)
  have w_1 := hts (.classLink RL 13 "java/lang/IllegalStateException") (by decide +kernel)
  have hGE := hGs.2.2.2.2.2.2.1
  have hGM := hGs.2.2.2.2.2.2.2.1
  unfold f_L_file at hf
  refine lv_aload hx hb dL_file_0 (lv_at hl 4 rfl) ?_
  refine lv_iconst (v := 0) hx hb dL_file_2 (by decide) ?_
  refine lv_aload_n hx hb dL_file_3 rfl (lv_at hl 0 rfl) ?_
  refine lv_iload_n hx hb dL_file_4 rfl (lv_at hl 1 rfl) ?_
  refine lv_iload_n hx hb dL_file_5 rfl (lv_at hl 2 rfl) ?_
  refine lv_iload_n hx hb dL_file_6 rfl (lv_at hl 3 rfl) ?_
  replace hf := obE hf
  obtain ⟨z1, hz1, hf⟩ := hf
  obtain ⟨oz1, S2⟩ := z1
  replace hf := ltE hf S2 rfl
  refine x_tcallV (As := [.int p1, .int p2, .int p3]) (rest := [.int 0, .ref (ad p4)]) (S1 := S2) (o := oz1) (vr := (fun r => some (.int r))) (P := True) hC hl.1 hW hS hGs hA tp0 rfl (show vwCl[9]? = some (RX10, TX10, 11) ∧ 9 < 11 from ⟨rfl, by decide⟩) (c_X10_file l hfl g ad n K s.heap.size F S0 p0 p1 p2 p3 tp0 oz1 S2 hz1) (cwV 3 hts gL_file_X10_file rfl rfl rfl (by decide +kernel) ⟨Nat.le_of_ble_eq_true rfl, Nat.le_of_ble_eq_true rfl⟩) rfl rfl (Nat.le_of_ble_eq_true rfl) dL_file_7 ⟨Nat.le_of_ble_eq_true rfl, Nat.le_of_ble_eq_true rfl⟩ (fun x5 H locs ce q9 ho hW hS hc1 hc2 hc3 => ?_) (fun r3 H locs ho hP hW hS => ?_)
  · replace hf := smL ho hf
    by_cases c9 : x5 = 4
    · replace hf := ifT c9 hf
      subst c9
      refine x_caught (x := 4) (name := "java/util/NoSuchElementException") hC hGs [] ⟨0, 12, 15, 31⟩ [⟨0, 12, 19, 13⟩] (htab.trans rfl) (fun _ h => absurd h List.not_mem_nil) ⟨by decide, by decide, rfl, by decide +kernel⟩ w_0 hc1 hc2 hc3 ?_
      refine lv_astore (lv' := [(5, .ref q9), (0, .ref (ad p0)), (1, .int p1), (2, .int p2), (3, .int p3), (4, .ref (ad p4))]) hx hb dL_file_15 hl (by decide) rfl (fun ls hl => ?_)
      refine lv_iconst (v := 1) hx hb dL_file_17 (by decide) ?_
      obtain ⟨e1, e2⟩ := so2 hf
      subst e1
      subst e2
      exact W.iret (v := 1) hx hb hr (fun t ht hWm => ⟨⟨rfl, by unfold QB; rw [ht]; exact ⟨hW, trivial⟩⟩, hS.F ht⟩) hS.2.2 dL_file_18 hlk
    · replace hf := ifF c9 hf
      by_cases c10 : x5 = 1
      · replace hf := ifT c10 hf
        subst c10
        refine x_caught (x := 1) (name := "java/lang/IllegalStateException") hC hGs [⟨0, 12, 15, 31⟩] ⟨0, 12, 19, 13⟩ [] (htab.trans rfl) (fun z hz => by simp only [List.mem_cons, List.not_mem_nil, or_false] at hz; rcases hz with rfl <;> first | exact Or.inr ⟨by decide, _, w_0, x_nc hGs (by decide)⟩) ⟨by decide, by decide, rfl, by decide +kernel⟩ w_1 hc1 hc2 hc3 ?_
        refine lv_astore (lv' := [(5, .ref q9), (0, .ref (ad p0)), (1, .int p1), (2, .int p2), (3, .int p3), (4, .ref (ad p4))]) hx hb dL_file_19 hl (by decide) rfl (fun ls hl => ?_)
        refine lv_iconst (v := 2) hx hb dL_file_21 (by decide) ?_
        obtain ⟨e1, e2⟩ := so2 hf
        subst e1
        subst e2
        exact W.iret (v := 2) hx hb hr (fun t ht hWm => ⟨⟨rfl, by unfold QB; rw [ht]; exact ⟨hW, trivial⟩⟩, hS.F ht⟩) hS.2.2 dL_file_22 hlk
      · replace hf := ifF c10 hf
        cases hf
  · replace hf := smR ho hf
    refine W.widen (k := 3) (n := 18) (Nat.le_of_ble_eq_true rfl) (Nat.le_of_ble_eq_true rfl) ?_
    refine W.eq (g2 := F0 m 10 ls [.int r3, .int 0, .ref (ad p4)]) rfl ?_
    refine lv_i2l (v := r3.toInt64) hx hb dL_file_10 rfl ?_
    replace hf := ckiE hf
    obtain ⟨h11, hf⟩ := hf
    refine x_last hC hW hS tp4 rfl rfl h11 dL_file_11 (fun S12 H locs eS12 hW hS => ?_)
    replace hf := ltE hf S12 eS12
    refine lv_goto (tgt := 23) hx hb dL_file_12 (by decide) ?_
    refine lv_iconst (v := 0) hx hb dL_file_23 (by decide) ?_
    obtain ⟨e1, e2⟩ := so2 hf
    subst e1
    subst e2
    exact W.iret (v := 0) hx hb hr (fun t ht hWm => ⟨⟨rfl, by unfold QB; rw [ht]; exact ⟨hW, trivial⟩⟩, hS.F ht⟩) hS.2.2 dL_file_24 hlk
set_option maxHeartbeats 4000000 in
set_option maxRecDepth 100000 in
theorem c_L_delete (l : Launch) (hfl : l.stackTraces = false) (g : GP) (ad : Nat → Nat) (n : Nat) (K : Nat → Nat) (sz F : Nat) (S0 : St) (p0 : Nat) (p1 : Int32) (p2 : Int32) (p3 : Nat) (tp0 : p0 < n ∧ K p0 = 9) (tp3 : p3 < n ∧ K p3 = 13) (r9 : Int32) (S9 : St) (hf : f_L_delete F S0 p0 p1 p2 p3 = some (r9, S9)) : Met l yL_delete wsL_delete { frames := 8, cells := 2, slots := 12, locals := 148 } (va_Pc [.ref (ad p0), .int p1, .int p2, .ref (ad p3)] (PB g ad n K S0 sz)) (QR (some (.int r9)) (QB g ad n K S9 (dA ad n sz) (True)) (dA ad n sz)) 2 12 (dA ad n sz) := by
  refine x_ofWH (cc := cL_delete) (maxL := 5) (ret := (some .int)) (hh := [(0, 10, 13, 31), (0, 10, 17, 13)]) (by decide) rfl ?_
  intro p e s m args below meth c s₁ B hml hv
  obtain ⟨rfl, hsz, hW, hK, hGs⟩ := x_start hv
  subst hsz
  have hx := B.exec
  have hb := B.bytes
  have hr := B.returns
  have hts := atoms_spec (ws := wsL_delete) B.pre
  have hown : s.vm.findClass RL = some m.cls := findClass_of_methodNamed B.named
  have hlk := B.notSynchronized
  have htab := vx_table (x := yL_delete) B (hts (.codeWith yL_delete cL_delete 5 (some .int) [(0, 10, 13, 31), (0, 10, 17, 13)]) (by decide +kernel))
  have hC : Cx g p s m _ c cL_delete RL wsL_delete 5 := ⟨hx, hb, hml, hown, hts, hK⟩
  have hA : ∀ q : Nat, s.heap.size ≤ q → dA ad n s.heap.size q := fun q h => Or.inr h
  have hS : va_S (dA ad n s.heap.size) s.heap s.heap [] := va_S.rf
  have hl := lv_entry ([.ref (ad p0), .int p1, .int p2, .ref (ad p3)]) (n := 5) (Nat.le_of_ble_eq_true rfl)
  rw [lg_entry_eq]
  generalize (lg_sl ([.ref (ad p0), .int p1, .int p2, .ref (ad p3)]) ++ List.replicate (5 - (lg_sl ([.ref (ad p0), .int p1, .int p2, .ref (ad p3)])).length) Slot.unset).toArray = ls at hl ⊢
  have hl : lv_has ls 5 [(0, .ref (ad p0)), (1, .int p1), (2, .int p2), (3, .ref (ad p3))] := hl
  have w_0 := hts (.classLink RL 31 "java/util/NoSuchElementException") (by decide +kernel)
  have w_1 := hts (.classLink RL 13 "java/lang/IllegalStateException") (by decide +kernel)
  have hGE := hGs.2.2.2.2.2.2.1
  have hGM := hGs.2.2.2.2.2.2.2.1
  unfold f_L_delete at hf
  refine lv_aload_n hx hb dL_delete_0 rfl (lv_at hl 3 rfl) ?_
  refine lv_iconst (v := 0) hx hb dL_delete_1 (by decide) ?_
  refine lv_aload_n hx hb dL_delete_2 rfl (lv_at hl 0 rfl) ?_
  refine lv_iload_n hx hb dL_delete_3 rfl (lv_at hl 1 rfl) ?_
  refine lv_iload_n hx hb dL_delete_4 rfl (lv_at hl 2 rfl) ?_
  replace hf := obE hf
  obtain ⟨z1, hz1, hf⟩ := hf
  obtain ⟨oz1, S2⟩ := z1
  replace hf := ltE hf S2 rfl
  refine x_tcallV (As := [.int p1, .int p2]) (rest := [.int 0, .ref (ad p3)]) (S1 := S2) (o := oz1) (vr := (fun r => some (.int r))) (P := True) hC hl.1 hW hS hGs hA tp0 rfl (show vwCl[9]? = some (RX10, TX10, 11) ∧ 9 < 11 from ⟨rfl, by decide⟩) (c_X10_delete l hfl g ad n K s.heap.size F S0 p0 p1 p2 tp0 oz1 S2 hz1) (cwV 2 hts gL_delete_X10_delete rfl rfl rfl (by decide +kernel) ⟨Nat.le_of_ble_eq_true rfl, Nat.le_of_ble_eq_true rfl⟩) rfl rfl (Nat.le_of_ble_eq_true rfl) dL_delete_5 ⟨Nat.le_of_ble_eq_true rfl, Nat.le_of_ble_eq_true rfl⟩ (fun x5 H locs ce q9 ho hW hS hc1 hc2 hc3 => ?_) (fun r3 H locs ho hP hW hS => ?_)
  · replace hf := smL ho hf
    by_cases c9 : x5 = 4
    · replace hf := ifT c9 hf
      subst c9
      refine x_caught (x := 4) (name := "java/util/NoSuchElementException") hC hGs [] ⟨0, 10, 13, 31⟩ [⟨0, 10, 17, 13⟩] (htab.trans rfl) (fun _ h => absurd h List.not_mem_nil) ⟨by decide, by decide, rfl, by decide +kernel⟩ w_0 hc1 hc2 hc3 ?_
      refine lv_astore (lv' := [(4, .ref q9), (0, .ref (ad p0)), (1, .int p1), (2, .int p2), (3, .ref (ad p3))]) hx hb dL_delete_13 hl (by decide) rfl (fun ls hl => ?_)
      refine lv_iconst (v := 1) hx hb dL_delete_15 (by decide) ?_
      obtain ⟨e1, e2⟩ := so2 hf
      subst e1
      subst e2
      exact W.iret (v := 1) hx hb hr (fun t ht hWm => ⟨⟨rfl, by unfold QB; rw [ht]; exact ⟨hW, trivial⟩⟩, hS.F ht⟩) hS.2.2 dL_delete_16 hlk
    · replace hf := ifF c9 hf
      by_cases c10 : x5 = 1
      · replace hf := ifT c10 hf
        subst c10
        refine x_caught (x := 1) (name := "java/lang/IllegalStateException") hC hGs [⟨0, 10, 13, 31⟩] ⟨0, 10, 17, 13⟩ [] (htab.trans rfl) (fun z hz => by simp only [List.mem_cons, List.not_mem_nil, or_false] at hz; rcases hz with rfl <;> first | exact Or.inr ⟨by decide, _, w_0, x_nc hGs (by decide)⟩) ⟨by decide, by decide, rfl, by decide +kernel⟩ w_1 hc1 hc2 hc3 ?_
        refine lv_astore (lv' := [(4, .ref q9), (0, .ref (ad p0)), (1, .int p1), (2, .int p2), (3, .ref (ad p3))]) hx hb dL_delete_17 hl (by decide) rfl (fun ls hl => ?_)
        refine lv_iconst (v := 2) hx hb dL_delete_19 (by decide) ?_
        obtain ⟨e1, e2⟩ := so2 hf
        subst e1
        subst e2
        exact W.iret (v := 2) hx hb hr (fun t ht hWm => ⟨⟨rfl, by unfold QB; rw [ht]; exact ⟨hW, trivial⟩⟩, hS.F ht⟩) hS.2.2 dL_delete_20 hlk
      · replace hf := ifF c10 hf
        cases hf
  · replace hf := smR ho hf
    refine W.widen (k := 2) (n := 12) (Nat.le_of_ble_eq_true rfl) (Nat.le_of_ble_eq_true rfl) ?_
    refine W.eq (g2 := F0 m 8 ls [.int r3, .int 0, .ref (ad p3)]) rfl ?_
    refine lv_i2l (v := r3.toInt64) hx hb dL_delete_8 rfl ?_
    replace hf := ckiE hf
    obtain ⟨h11, hf⟩ := hf
    refine x_last hC hW hS tp3 rfl rfl h11 dL_delete_9 (fun S12 H locs eS12 hW hS => ?_)
    replace hf := ltE hf S12 eS12
    refine lv_goto (tgt := 21) hx hb dL_delete_10 (by decide) ?_
    refine lv_iconst (v := 0) hx hb dL_delete_21 (by decide) ?_
    obtain ⟨e1, e2⟩ := so2 hf
    subst e1
    subst e2
    exact W.iret (v := 0) hx hb hr (fun t ht hWm => ⟨⟨rfl, by unfold QB; rw [ht]; exact ⟨hW, trivial⟩⟩, hS.F ht⟩) hS.2.2 dL_delete_22 hlk
set_option maxHeartbeats 4000000 in
set_option maxRecDepth 100000 in
theorem c_L_recover (l : Launch) (hfl : l.stackTraces = false) (g : GP) (ad : Nat → Nat) (n : Nat) (K : Nat → Nat) (sz F : Nat) (S0 : St) (p0 : Nat) (p1 : Int32) (p2 : Int32) (p3 : Nat) (tp0 : p0 < n ∧ K p0 = 9) (tp3 : p3 < n ∧ K p3 = 13) (r9 : Int32) (S9 : St) (hf : f_L_recover F S0 p0 p1 p2 p3 = some (r9, S9)) : Met l yL_recover wsL_recover { frames := 8, cells := 2, slots := 12, locals := 149 } (va_Pc [.ref (ad p0), .int p1, .int p2, .ref (ad p3)] (PB g ad n K S0 sz)) (QR (some (.int r9)) (QB g ad n K S9 (dA ad n sz) (True)) (dA ad n sz)) 2 12 (dA ad n sz) := by
  refine x_ofWH (cc := cL_recover) (maxL := 5) (ret := (some .int)) (hh := [(0, 10, 13, 31), (0, 10, 17, 13)]) (by decide) rfl ?_
  intro p e s m args below meth c s₁ B hml hv
  obtain ⟨rfl, hsz, hW, hK, hGs⟩ := x_start hv
  subst hsz
  have hx := B.exec
  have hb := B.bytes
  have hr := B.returns
  have hts := atoms_spec (ws := wsL_recover) B.pre
  have hown : s.vm.findClass RL = some m.cls := findClass_of_methodNamed B.named
  have hlk := B.notSynchronized
  have htab := vx_table (x := yL_recover) B (hts (.codeWith yL_recover cL_recover 5 (some .int) [(0, 10, 13, 31), (0, 10, 17, 13)]) (by decide +kernel))
  have hC : Cx g p s m _ c cL_recover RL wsL_recover 5 := ⟨hx, hb, hml, hown, hts, hK⟩
  have hA : ∀ q : Nat, s.heap.size ≤ q → dA ad n s.heap.size q := fun q h => Or.inr h
  have hS : va_S (dA ad n s.heap.size) s.heap s.heap [] := va_S.rf
  have hl := lv_entry ([.ref (ad p0), .int p1, .int p2, .ref (ad p3)]) (n := 5) (Nat.le_of_ble_eq_true rfl)
  rw [lg_entry_eq]
  generalize (lg_sl ([.ref (ad p0), .int p1, .int p2, .ref (ad p3)]) ++ List.replicate (5 - (lg_sl ([.ref (ad p0), .int p1, .int p2, .ref (ad p3)])).length) Slot.unset).toArray = ls at hl ⊢
  have hl : lv_has ls 5 [(0, .ref (ad p0)), (1, .int p1), (2, .int p2), (3, .ref (ad p3))] := hl
  have w_0 := hts (.classLink RL 31 "java/util/NoSuchElementException") (by decide +kernel)
  have w_1 := hts (.classLink RL 13 "java/lang/IllegalStateException") (by decide +kernel)
  have hGE := hGs.2.2.2.2.2.2.1
  have hGM := hGs.2.2.2.2.2.2.2.1
  unfold f_L_recover at hf
  refine lv_aload_n hx hb dL_recover_0 rfl (lv_at hl 3 rfl) ?_
  refine lv_iconst (v := 0) hx hb dL_recover_1 (by decide) ?_
  refine lv_aload_n hx hb dL_recover_2 rfl (lv_at hl 0 rfl) ?_
  refine lv_iload_n hx hb dL_recover_3 rfl (lv_at hl 1 rfl) ?_
  refine lv_iload_n hx hb dL_recover_4 rfl (lv_at hl 2 rfl) ?_
  replace hf := obE hf
  obtain ⟨z1, hz1, hf⟩ := hf
  obtain ⟨oz1, S2⟩ := z1
  replace hf := ltE hf S2 rfl
  refine x_tcallV (As := [.int p1, .int p2]) (rest := [.int 0, .ref (ad p3)]) (S1 := S2) (o := oz1) (vr := (fun r => some (.int r))) (P := True) hC hl.1 hW hS hGs hA tp0 rfl (show vwCl[9]? = some (RX10, TX10, 11) ∧ 9 < 11 from ⟨rfl, by decide⟩) (c_X10_recover l hfl g ad n K s.heap.size F S0 p0 p1 p2 tp0 oz1 S2 hz1) (cwV 2 hts gL_recover_X10_recover rfl rfl rfl (by decide +kernel) ⟨Nat.le_of_ble_eq_true rfl, Nat.le_of_ble_eq_true rfl⟩) rfl rfl (Nat.le_of_ble_eq_true rfl) dL_recover_5 ⟨Nat.le_of_ble_eq_true rfl, Nat.le_of_ble_eq_true rfl⟩ (fun x5 H locs ce q9 ho hW hS hc1 hc2 hc3 => ?_) (fun r3 H locs ho hP hW hS => ?_)
  · replace hf := smL ho hf
    by_cases c9 : x5 = 4
    · replace hf := ifT c9 hf
      subst c9
      refine x_caught (x := 4) (name := "java/util/NoSuchElementException") hC hGs [] ⟨0, 10, 13, 31⟩ [⟨0, 10, 17, 13⟩] (htab.trans rfl) (fun _ h => absurd h List.not_mem_nil) ⟨by decide, by decide, rfl, by decide +kernel⟩ w_0 hc1 hc2 hc3 ?_
      refine lv_astore (lv' := [(4, .ref q9), (0, .ref (ad p0)), (1, .int p1), (2, .int p2), (3, .ref (ad p3))]) hx hb dL_recover_13 hl (by decide) rfl (fun ls hl => ?_)
      refine lv_iconst (v := 1) hx hb dL_recover_15 (by decide) ?_
      obtain ⟨e1, e2⟩ := so2 hf
      subst e1
      subst e2
      exact W.iret (v := 1) hx hb hr (fun t ht hWm => ⟨⟨rfl, by unfold QB; rw [ht]; exact ⟨hW, trivial⟩⟩, hS.F ht⟩) hS.2.2 dL_recover_16 hlk
    · replace hf := ifF c9 hf
      by_cases c10 : x5 = 1
      · replace hf := ifT c10 hf
        subst c10
        refine x_caught (x := 1) (name := "java/lang/IllegalStateException") hC hGs [⟨0, 10, 13, 31⟩] ⟨0, 10, 17, 13⟩ [] (htab.trans rfl) (fun z hz => by simp only [List.mem_cons, List.not_mem_nil, or_false] at hz; rcases hz with rfl <;> first | exact Or.inr ⟨by decide, _, w_0, x_nc hGs (by decide)⟩) ⟨by decide, by decide, rfl, by decide +kernel⟩ w_1 hc1 hc2 hc3 ?_
        refine lv_astore (lv' := [(4, .ref q9), (0, .ref (ad p0)), (1, .int p1), (2, .int p2), (3, .ref (ad p3))]) hx hb dL_recover_17 hl (by decide) rfl (fun ls hl => ?_)
        refine lv_iconst (v := 2) hx hb dL_recover_19 (by decide) ?_
        obtain ⟨e1, e2⟩ := so2 hf
        subst e1
        subst e2
        exact W.iret (v := 2) hx hb hr (fun t ht hWm => ⟨⟨rfl, by unfold QB; rw [ht]; exact ⟨hW, trivial⟩⟩, hS.F ht⟩) hS.2.2 dL_recover_20 hlk
      · replace hf := ifF c10 hf
        cases hf
  · replace hf := smR ho hf
    refine W.widen (k := 2) (n := 12) (Nat.le_of_ble_eq_true rfl) (Nat.le_of_ble_eq_true rfl) ?_
    refine W.eq (g2 := F0 m 8 ls [.int r3, .int 0, .ref (ad p3)]) rfl ?_
    refine lv_i2l (v := r3.toInt64) hx hb dL_recover_8 rfl ?_
    replace hf := ckiE hf
    obtain ⟨h11, hf⟩ := hf
    refine x_last hC hW hS tp3 rfl rfl h11 dL_recover_9 (fun S12 H locs eS12 hW hS => ?_)
    replace hf := ltE hf S12 eS12
    refine lv_goto (tgt := 21) hx hb dL_recover_10 (by decide) ?_
    refine lv_iconst (v := 0) hx hb dL_recover_21 (by decide) ?_
    obtain ⟨e1, e2⟩ := so2 hf
    subst e1
    subst e2
    exact W.iret (v := 0) hx hb hr (fun t ht hWm => ⟨⟨rfl, by unfold QB; rw [ht]; exact ⟨hW, trivial⟩⟩, hS.F ht⟩) hS.2.2 dL_recover_22 hlk
set_option maxHeartbeats 4000000 in
set_option maxRecDepth 100000 in
theorem c_L_isActive (l : Launch) (hfl : l.stackTraces = false) (g : GP) (ad : Nat → Nat) (n : Nat) (K : Nat → Nat) (sz F : Nat) (S0 : St) (p0 : Nat) (p1 : Int32) (p2 : Nat) (tp0 : p0 < n ∧ K p0 = 9) (tp2 : p2 < n ∧ K p2 = 13) (r9 : Int32) (S9 : St) (hf : f_L_isActive F S0 p0 p1 p2 = some (r9, S9)) : Met l yL_isActive wsL_isActive { frames := 8, cells := 1, slots := 6, locals := 142 } (va_Pc [.ref (ad p0), .int p1, .ref (ad p2)] (PB g ad n K S0 sz)) (QR (some (.int r9)) (QB g ad n K S9 (dA ad n sz) (True)) (dA ad n sz)) 1 6 (dA ad n sz) := by
  refine x_ofWH (cc := cL_isActive) (maxL := 4) (ret := (some .int)) (hh := [(0, 16, 19, 31)]) (by decide) rfl ?_
  intro p e s m args below meth c s₁ B hml hv
  obtain ⟨rfl, hsz, hW, hK, hGs⟩ := x_start hv
  subst hsz
  have hx := B.exec
  have hb := B.bytes
  have hr := B.returns
  have hts := atoms_spec (ws := wsL_isActive) B.pre
  have hown : s.vm.findClass RL = some m.cls := findClass_of_methodNamed B.named
  have hlk := B.notSynchronized
  have htab := vx_table (x := yL_isActive) B (hts (.codeWith yL_isActive cL_isActive 4 (some .int) [(0, 16, 19, 31)]) (by decide +kernel))
  have hC : Cx g p s m _ c cL_isActive RL wsL_isActive 4 := ⟨hx, hb, hml, hown, hts, hK⟩
  have hA : ∀ q : Nat, s.heap.size ≤ q → dA ad n s.heap.size q := fun q h => Or.inr h
  have hS : va_S (dA ad n s.heap.size) s.heap s.heap [] := va_S.rf
  have hl := lv_entry ([.ref (ad p0), .int p1, .ref (ad p2)]) (n := 4) (Nat.le_of_ble_eq_true rfl)
  rw [lg_entry_eq]
  generalize (lg_sl ([.ref (ad p0), .int p1, .ref (ad p2)]) ++ List.replicate (4 - (lg_sl ([.ref (ad p0), .int p1, .ref (ad p2)])).length) Slot.unset).toArray = ls at hl ⊢
  have hl : lv_has ls 4 [(0, .ref (ad p0)), (1, .int p1), (2, .ref (ad p2))] := hl
  have w_0 := hts (.classLink RL 31 "java/util/NoSuchElementException") (by decide +kernel)
  have hGE := hGs.2.2.2.2.2.2.1
  have hGM := hGs.2.2.2.2.2.2.2.1
  have L15 : ∀ (S0 : St) (s0 : Int64) (s1 : Int32) (s2 : Nat) (ts2 : s2 < n ∧ K s2 = 13) (H : Heap) (locs : List Loc) (ls : Array Slot), f_L_isActive_L15 F S0 s0 s1 s2 = some (r9, S9) → Wb g ad n K S0 (dA ad n s.heap.size) H → va_S (dA ad n s.heap.size) s.heap H locs → lv_has ls 4 [] → W p l e (headSpec wsL_isActive { frames := 8, cells := 1, slots := 6, locals := 142 }).room s m (List.toArray [.ref (ad p0), .int p1, .ref (ad p2)]) below meth c H locs 1 6 (MQ below (QR (some (.int r9)) (QB g ad n K S9 (dA ad n s.heap.size) (True)) (dA ad n s.heap.size)) (List.toArray [.ref (ad p0), .int p1, .ref (ad p2)]) s 1 6 (dA ad n s.heap.size)) (F0 m 15 ls [.long (s0), .int s1, .ref (ad s2)]) := by
    intro S0 s0 s1 s2 ts2 H locs ls hf hW hS hl
    unfold f_L_isActive_L15 at hf
    replace hf := ckiE hf
    obtain ⟨h3, hf⟩ := hf
    refine x_last hC hW hS ts2 rfl rfl h3 dL_isActive_15 (fun S4 H locs eS4 hW hS => ?_)
    replace hf := ltE hf S4 eS4
    refine lv_goto (tgt := 22) hx hb dL_isActive_16 (by decide) ?_
    refine lv_iconst (v := 0) hx hb dL_isActive_22 (by decide) ?_
    obtain ⟨e1, e2⟩ := so2 hf
    subst e1
    subst e2
    exact W.iret (v := 0) hx hb hr (fun t ht hWm => ⟨⟨rfl, by unfold QB; rw [ht]; exact ⟨hW, trivial⟩⟩, hS.F ht⟩) hS.2.2 dL_isActive_23 hlk
  unfold f_L_isActive at hf
  refine lv_aload_n hx hb dL_isActive_0 rfl (lv_at hl 2 rfl) ?_
  refine lv_iconst (v := 0) hx hb dL_isActive_1 (by decide) ?_
  refine lv_aload_n hx hb dL_isActive_2 rfl (lv_at hl 0 rfl) ?_
  refine lv_iload_n hx hb dL_isActive_3 rfl (lv_at hl 1 rfl) ?_
  replace hf := obE hf
  obtain ⟨z5, hz5, hf⟩ := hf
  obtain ⟨oz5, S6⟩ := z5
  replace hf := ltE hf S6 rfl
  refine x_tcallV (As := [.int p1]) (rest := [.int 0, .ref (ad p2)]) (S1 := S6) (o := oz5) (vr := (fun r => some (.int r))) (P := True) hC hl.1 hW hS hGs hA tp0 rfl (show vwCl[9]? = some (RX10, TX10, 11) ∧ 9 < 11 from ⟨rfl, by decide⟩) (c_X10_isActive l hfl g ad n K s.heap.size F S0 p0 p1 tp0 oz5 S6 hz5) (cwV 1 hts gL_isActive_X10_isActive rfl rfl rfl (by decide +kernel) ⟨Nat.le_of_ble_eq_true rfl, Nat.le_of_ble_eq_true rfl⟩) rfl rfl (Nat.le_of_ble_eq_true rfl) dL_isActive_4 ⟨Nat.le_of_ble_eq_true rfl, Nat.le_of_ble_eq_true rfl⟩ (fun x9 H locs ce q9 ho hW hS hc1 hc2 hc3 => ?_) (fun r7 H locs ho hP hW hS => ?_)
  · replace hf := smL ho hf
    by_cases c13 : x9 = 4
    · replace hf := ifT c13 hf
      subst c13
      refine x_caught (x := 4) (name := "java/util/NoSuchElementException") hC hGs [] ⟨0, 16, 19, 31⟩ [] (htab.trans rfl) (fun _ h => absurd h List.not_mem_nil) ⟨by decide, by decide, rfl, by decide +kernel⟩ w_0 hc1 hc2 hc3 ?_
      refine lv_astore_n (lv' := [(3, .ref q9), (0, .ref (ad p0)), (1, .int p1), (2, .ref (ad p2))]) hx hb dL_isActive_19 rfl hl (by decide) rfl (fun ls hl => ?_)
      refine lv_iconst (v := 1) hx hb dL_isActive_20 (by decide) ?_
      obtain ⟨e1, e2⟩ := so2 hf
      subst e1
      subst e2
      exact W.iret (v := 1) hx hb hr (fun t ht hWm => ⟨⟨rfl, by unfold QB; rw [ht]; exact ⟨hW, trivial⟩⟩, hS.F ht⟩) hS.2.2 dL_isActive_21 hlk
    · replace hf := ifF c13 hf
      cases hf
  · replace hf := smR ho hf
    refine W.widen (k := 1) (n := 6) (Nat.le_of_ble_eq_true rfl) (Nat.le_of_ble_eq_true rfl) ?_
    refine W.eq (g2 := F0 m 7 ls [.int r7, .int 0, .ref (ad p2)]) rfl ?_
    refine lv_if_eq (tgt := 14) hx hb dL_isActive_7 (by decide) (fun c14 => ?_) (fun c14 => ?_)
    · replace hf := ifT c14 hf
      refine lv_lconst (v := 0) hx hb dL_isActive_14 (by decide) ?_
      exact L15 S6 0 0 p2 tp2 _ _ _ hf hW hS (lv_sub hl [] rfl)
    · replace hf := ifF c14 hf
      refine lv_lconst (v := 1) hx hb dL_isActive_10 (by decide) ?_
      refine lv_goto (tgt := 15) hx hb dL_isActive_11 (by decide) ?_
      exact L15 S6 1 0 p2 tp2 _ _ _ hf hW hS (lv_sub hl [] rfl)
set_option maxHeartbeats 4000000 in
set_option maxRecDepth 100000 in
theorem c_L_setHold (l : Launch) (hfl : l.stackTraces = false) (g : GP) (ad : Nat → Nat) (n : Nat) (K : Nat → Nat) (sz F : Nat) (S0 : St) (p0 : Nat) (p1 : Int32) (p2 : Int32) (p3 : Nat) (tp0 : p0 < n ∧ K p0 = 9) (tp3 : p3 < n ∧ K p3 = 13) (r9 : Int32) (S9 : St) (hf : f_L_setHold F S0 p0 p1 p2 p3 = some (r9, S9)) : Met l yL_setHold wsL_setHold { frames := 8, cells := 1, slots := 6, locals := 148 } (va_Pc [.ref (ad p0), .int p1, .int p2, .ref (ad p3)] (PB g ad n K S0 sz)) (QR (some (.int r9)) (QB g ad n K S9 (dA ad n sz) (True)) (dA ad n sz)) 1 6 (dA ad n sz) := by
  refine x_ofWH (cc := cL_setHold) (maxL := 5) (ret := (some .int)) (hh := [(0, 10, 13, 31)]) (by decide) rfl ?_
  intro p e s m args below meth c s₁ B hml hv
  obtain ⟨rfl, hsz, hW, hK, hGs⟩ := x_start hv
  subst hsz
  have hx := B.exec
  have hb := B.bytes
  have hr := B.returns
  have hts := atoms_spec (ws := wsL_setHold) B.pre
  have hown : s.vm.findClass RL = some m.cls := findClass_of_methodNamed B.named
  have hlk := B.notSynchronized
  have htab := vx_table (x := yL_setHold) B (hts (.codeWith yL_setHold cL_setHold 5 (some .int) [(0, 10, 13, 31)]) (by decide +kernel))
  have hC : Cx g p s m _ c cL_setHold RL wsL_setHold 5 := ⟨hx, hb, hml, hown, hts, hK⟩
  have hA : ∀ q : Nat, s.heap.size ≤ q → dA ad n s.heap.size q := fun q h => Or.inr h
  have hS : va_S (dA ad n s.heap.size) s.heap s.heap [] := va_S.rf
  have hl := lv_entry ([.ref (ad p0), .int p1, .int p2, .ref (ad p3)]) (n := 5) (Nat.le_of_ble_eq_true rfl)
  rw [lg_entry_eq]
  generalize (lg_sl ([.ref (ad p0), .int p1, .int p2, .ref (ad p3)]) ++ List.replicate (5 - (lg_sl ([.ref (ad p0), .int p1, .int p2, .ref (ad p3)])).length) Slot.unset).toArray = ls at hl ⊢
  have hl : lv_has ls 5 [(0, .ref (ad p0)), (1, .int p1), (2, .int p2), (3, .ref (ad p3))] := hl
  have w_0 := hts (.classLink RL 31 "java/util/NoSuchElementException") (by decide +kernel)
  have hGE := hGs.2.2.2.2.2.2.1
  have hGM := hGs.2.2.2.2.2.2.2.1
  unfold f_L_setHold at hf
  refine lv_aload_n hx hb dL_setHold_0 rfl (lv_at hl 3 rfl) ?_
  refine lv_iconst (v := 0) hx hb dL_setHold_1 (by decide) ?_
  refine lv_aload_n hx hb dL_setHold_2 rfl (lv_at hl 0 rfl) ?_
  refine lv_iload_n hx hb dL_setHold_3 rfl (lv_at hl 1 rfl) ?_
  refine lv_iload_n hx hb dL_setHold_4 rfl (lv_at hl 2 rfl) ?_
  replace hf := obE hf
  obtain ⟨z1, hz1, hf⟩ := hf
  obtain ⟨oz1, S2⟩ := z1
  replace hf := ltE hf S2 rfl
  refine x_tcallV (As := [.int p1, .int p2]) (rest := [.int 0, .ref (ad p3)]) (S1 := S2) (o := oz1) (vr := (fun r => some (.int r))) (P := True) hC hl.1 hW hS hGs hA tp0 rfl (show vwCl[9]? = some (RX10, TX10, 11) ∧ 9 < 11 from ⟨rfl, by decide⟩) (c_X10_setHold l hfl g ad n K s.heap.size F S0 p0 p1 p2 tp0 oz1 S2 hz1) (cwV 2 hts gL_setHold_X10_setHold rfl rfl rfl (by decide +kernel) ⟨Nat.le_of_ble_eq_true rfl, Nat.le_of_ble_eq_true rfl⟩) rfl rfl (Nat.le_of_ble_eq_true rfl) dL_setHold_5 ⟨Nat.le_of_ble_eq_true rfl, Nat.le_of_ble_eq_true rfl⟩ (fun x5 H locs ce q9 ho hW hS hc1 hc2 hc3 => ?_) (fun r3 H locs ho hP hW hS => ?_)
  · replace hf := smL ho hf
    by_cases c9 : x5 = 4
    · replace hf := ifT c9 hf
      subst c9
      refine x_caught (x := 4) (name := "java/util/NoSuchElementException") hC hGs [] ⟨0, 10, 13, 31⟩ [] (htab.trans rfl) (fun _ h => absurd h List.not_mem_nil) ⟨by decide, by decide, rfl, by decide +kernel⟩ w_0 hc1 hc2 hc3 ?_
      refine lv_astore (lv' := [(4, .ref q9), (0, .ref (ad p0)), (1, .int p1), (2, .int p2), (3, .ref (ad p3))]) hx hb dL_setHold_13 hl (by decide) rfl (fun ls hl => ?_)
      refine lv_iconst (v := 1) hx hb dL_setHold_15 (by decide) ?_
      obtain ⟨e1, e2⟩ := so2 hf
      subst e1
      subst e2
      exact W.iret (v := 1) hx hb hr (fun t ht hWm => ⟨⟨rfl, by unfold QB; rw [ht]; exact ⟨hW, trivial⟩⟩, hS.F ht⟩) hS.2.2 dL_setHold_16 hlk
    · replace hf := ifF c9 hf
      cases hf
  · replace hf := smR ho hf
    refine W.widen (k := 1) (n := 6) (Nat.le_of_ble_eq_true rfl) (Nat.le_of_ble_eq_true rfl) ?_
    refine W.eq (g2 := F0 m 8 ls [.int r3, .int 0, .ref (ad p3)]) rfl ?_
    refine lv_i2l (v := r3.toInt64) hx hb dL_setHold_8 rfl ?_
    replace hf := ckiE hf
    obtain ⟨h10, hf⟩ := hf
    refine x_last hC hW hS tp3 rfl rfl h10 dL_setHold_9 (fun S11 H locs eS11 hW hS => ?_)
    replace hf := ltE hf S11 eS11
    refine lv_goto (tgt := 17) hx hb dL_setHold_10 (by decide) ?_
    refine lv_iconst (v := 0) hx hb dL_setHold_17 (by decide) ?_
    obtain ⟨e1, e2⟩ := so2 hf
    subst e1
    subst e2
    exact W.iret (v := 0) hx hb hr (fun t ht hWm => ⟨⟨rfl, by unfold QB; rw [ht]; exact ⟨hW, trivial⟩⟩, hS.F ht⟩) hS.2.2 dL_setHold_18 hlk
set_option maxHeartbeats 4000000 in
set_option maxRecDepth 100000 in
theorem c_L_heldOnlyBy (l : Launch) (hfl : l.stackTraces = false) (g : GP) (ad : Nat → Nat) (n : Nat) (K : Nat → Nat) (sz F : Nat) (S0 : St) (p0 : Nat) (p1 : Int32) (p2 : Nat) (tp0 : p0 < n ∧ K p0 = 9) (tp2 : p2 < n ∧ K p2 = 13) (r9 : Int32) (S9 : St) (hf : f_L_heldOnlyBy F S0 p0 p1 p2 = some (r9, S9)) : Met l yL_heldOnlyBy wsL_heldOnlyBy { frames := 8, cells := 1, slots := 6, locals := 142 } (va_Pc [.ref (ad p0), .int p1, .ref (ad p2)] (PB g ad n K S0 sz)) (QR (some (.int r9)) (QB g ad n K S9 (dA ad n sz) (True)) (dA ad n sz)) 1 6 (dA ad n sz) := by
  refine x_ofWH (cc := cL_heldOnlyBy) (maxL := 4) (ret := (some .int)) (hh := [(0, 9, 12, 31)]) (by decide) rfl ?_
  intro p e s m args below meth c s₁ B hml hv
  obtain ⟨rfl, hsz, hW, hK, hGs⟩ := x_start hv
  subst hsz
  have hx := B.exec
  have hb := B.bytes
  have hr := B.returns
  have hts := atoms_spec (ws := wsL_heldOnlyBy) B.pre
  have hown : s.vm.findClass RL = some m.cls := findClass_of_methodNamed B.named
  have hlk := B.notSynchronized
  have htab := vx_table (x := yL_heldOnlyBy) B (hts (.codeWith yL_heldOnlyBy cL_heldOnlyBy 4 (some .int) [(0, 9, 12, 31)]) (by decide +kernel))
  have hC : Cx g p s m _ c cL_heldOnlyBy RL wsL_heldOnlyBy 4 := ⟨hx, hb, hml, hown, hts, hK⟩
  have hA : ∀ q : Nat, s.heap.size ≤ q → dA ad n s.heap.size q := fun q h => Or.inr h
  have hS : va_S (dA ad n s.heap.size) s.heap s.heap [] := va_S.rf
  have hl := lv_entry ([.ref (ad p0), .int p1, .ref (ad p2)]) (n := 4) (Nat.le_of_ble_eq_true rfl)
  rw [lg_entry_eq]
  generalize (lg_sl ([.ref (ad p0), .int p1, .ref (ad p2)]) ++ List.replicate (4 - (lg_sl ([.ref (ad p0), .int p1, .ref (ad p2)])).length) Slot.unset).toArray = ls at hl ⊢
  have hl : lv_has ls 4 [(0, .ref (ad p0)), (1, .int p1), (2, .ref (ad p2))] := hl
  have w_0 := hts (.classLink RL 31 "java/util/NoSuchElementException") (by decide +kernel)
  have hGE := hGs.2.2.2.2.2.2.1
  have hGM := hGs.2.2.2.2.2.2.2.1
  unfold f_L_heldOnlyBy at hf
  refine lv_aload_n hx hb dL_heldOnlyBy_0 rfl (lv_at hl 2 rfl) ?_
  refine lv_iconst (v := 0) hx hb dL_heldOnlyBy_1 (by decide) ?_
  refine lv_aload_n hx hb dL_heldOnlyBy_2 rfl (lv_at hl 0 rfl) ?_
  refine lv_iload_n hx hb dL_heldOnlyBy_3 rfl (lv_at hl 1 rfl) ?_
  replace hf := obE hf
  obtain ⟨z1, hz1, hf⟩ := hf
  obtain ⟨oz1, S2⟩ := z1
  replace hf := ltE hf S2 rfl
  refine x_tcallV (As := [.int p1]) (rest := [.int 0, .ref (ad p2)]) (S1 := S2) (o := oz1) (vr := (fun r => some (.int r))) (P := True) hC hl.1 hW hS hGs hA tp0 rfl (show vwCl[9]? = some (RX10, TX10, 11) ∧ 9 < 11 from ⟨rfl, by decide⟩) (c_X10_heldOnlyBy l hfl g ad n K s.heap.size F S0 p0 p1 tp0 oz1 S2 hz1) (cwV 1 hts gL_heldOnlyBy_X10_heldOnlyBy rfl rfl rfl (by decide +kernel) ⟨Nat.le_of_ble_eq_true rfl, Nat.le_of_ble_eq_true rfl⟩) rfl rfl (Nat.le_of_ble_eq_true rfl) dL_heldOnlyBy_4 ⟨Nat.le_of_ble_eq_true rfl, Nat.le_of_ble_eq_true rfl⟩ (fun x5 H locs ce q9 ho hW hS hc1 hc2 hc3 => ?_) (fun r3 H locs ho hP hW hS => ?_)
  · replace hf := smL ho hf
    by_cases c9 : x5 = 4
    · replace hf := ifT c9 hf
      subst c9
      refine x_caught (x := 4) (name := "java/util/NoSuchElementException") hC hGs [] ⟨0, 9, 12, 31⟩ [] (htab.trans rfl) (fun _ h => absurd h List.not_mem_nil) ⟨by decide, by decide, rfl, by decide +kernel⟩ w_0 hc1 hc2 hc3 ?_
      refine lv_astore_n (lv' := [(3, .ref q9), (0, .ref (ad p0)), (1, .int p1), (2, .ref (ad p2))]) hx hb dL_heldOnlyBy_12 rfl hl (by decide) rfl (fun ls hl => ?_)
      refine lv_iconst (v := 1) hx hb dL_heldOnlyBy_13 (by decide) ?_
      obtain ⟨e1, e2⟩ := so2 hf
      subst e1
      subst e2
      exact W.iret (v := 1) hx hb hr (fun t ht hWm => ⟨⟨rfl, by unfold QB; rw [ht]; exact ⟨hW, trivial⟩⟩, hS.F ht⟩) hS.2.2 dL_heldOnlyBy_14 hlk
    · replace hf := ifF c9 hf
      cases hf
  · replace hf := smR ho hf
    refine W.widen (k := 1) (n := 6) (Nat.le_of_ble_eq_true rfl) (Nat.le_of_ble_eq_true rfl) ?_
    refine W.eq (g2 := F0 m 7 ls [.int r3, .int 0, .ref (ad p2)]) rfl ?_
    refine lv_i2l (v := r3.toInt64) hx hb dL_heldOnlyBy_7 rfl ?_
    replace hf := ckiE hf
    obtain ⟨h10, hf⟩ := hf
    refine x_last hC hW hS tp2 rfl rfl h10 dL_heldOnlyBy_8 (fun S11 H locs eS11 hW hS => ?_)
    replace hf := ltE hf S11 eS11
    refine lv_goto (tgt := 15) hx hb dL_heldOnlyBy_9 (by decide) ?_
    refine lv_iconst (v := 0) hx hb dL_heldOnlyBy_15 (by decide) ?_
    obtain ⟨e1, e2⟩ := so2 hf
    subst e1
    subst e2
    exact W.iret (v := 0) hx hb hr (fun t ht hWm => ⟨⟨rfl, by unfold QB; rw [ht]; exact ⟨hW, trivial⟩⟩, hS.F ht⟩) hS.2.2 dL_heldOnlyBy_16 hlk
set_option maxHeartbeats 4000000 in
set_option maxRecDepth 100000 in
theorem c_L_setQuota (l : Launch) (hfl : l.stackTraces = false) (g : GP) (ad : Nat → Nat) (n : Nat) (K : Nat → Nat) (sz F : Nat) (S0 : St) (p0 : Nat) (p1 : Int32) (p2 : Int32) (p3 : Nat) (tp0 : p0 < n ∧ K p0 = 9) (tp3 : p3 < n ∧ K p3 = 13) (r9 : Int32) (S9 : St) (hf : f_L_setQuota F S0 p0 p1 p2 p3 = some (r9, S9)) : Met l yL_setQuota wsL_setQuota { frames := 8, cells := 2, slots := 12, locals := 149 } (va_Pc [.ref (ad p0), .int p1, .int p2, .ref (ad p3)] (PB g ad n K S0 sz)) (QR (some (.int r9)) (QB g ad n K S9 (dA ad n sz) (True)) (dA ad n sz)) 2 12 (dA ad n sz) := by
  refine x_ofWH (cc := cL_setQuota) (maxL := 5) (ret := (some .int)) (hh := [(0, 10, 13, 31), (0, 10, 17, 19)]) (by decide) rfl ?_
  intro p e s m args below meth c s₁ B hml hv
  obtain ⟨rfl, hsz, hW, hK, hGs⟩ := x_start hv
  subst hsz
  have hx := B.exec
  have hb := B.bytes
  have hr := B.returns
  have hts := atoms_spec (ws := wsL_setQuota) B.pre
  have hown : s.vm.findClass RL = some m.cls := findClass_of_methodNamed B.named
  have hlk := B.notSynchronized
  have htab := vx_table (x := yL_setQuota) B (hts (.codeWith yL_setQuota cL_setQuota 5 (some .int) [(0, 10, 13, 31), (0, 10, 17, 19)]) (by decide +kernel))
  have hC : Cx g p s m _ c cL_setQuota RL wsL_setQuota 5 := ⟨hx, hb, hml, hown, hts, hK⟩
  have hA : ∀ q : Nat, s.heap.size ≤ q → dA ad n s.heap.size q := fun q h => Or.inr h
  have hS : va_S (dA ad n s.heap.size) s.heap s.heap [] := va_S.rf
  have hl := lv_entry ([.ref (ad p0), .int p1, .int p2, .ref (ad p3)]) (n := 5) (Nat.le_of_ble_eq_true rfl)
  rw [lg_entry_eq]
  generalize (lg_sl ([.ref (ad p0), .int p1, .int p2, .ref (ad p3)]) ++ List.replicate (5 - (lg_sl ([.ref (ad p0), .int p1, .int p2, .ref (ad p3)])).length) Slot.unset).toArray = ls at hl ⊢
  have hl : lv_has ls 5 [(0, .ref (ad p0)), (1, .int p1), (2, .int p2), (3, .ref (ad p3))] := hl
  have w_0 := hts (.classLink RL 31 "java/util/NoSuchElementException") (by decide +kernel)
  have w_1 := hts (.classLink RL 19 "java/lang/IllegalArgumentException") (by decide +kernel)
  have hGE := hGs.2.2.2.2.2.2.1
  have hGM := hGs.2.2.2.2.2.2.2.1
  unfold f_L_setQuota at hf
  refine lv_aload_n hx hb dL_setQuota_0 rfl (lv_at hl 3 rfl) ?_
  refine lv_iconst (v := 0) hx hb dL_setQuota_1 (by decide) ?_
  refine lv_aload_n hx hb dL_setQuota_2 rfl (lv_at hl 0 rfl) ?_
  refine lv_iload_n hx hb dL_setQuota_3 rfl (lv_at hl 1 rfl) ?_
  refine lv_iload_n hx hb dL_setQuota_4 rfl (lv_at hl 2 rfl) ?_
  replace hf := obE hf
  obtain ⟨z1, hz1, hf⟩ := hf
  obtain ⟨oz1, S2⟩ := z1
  replace hf := ltE hf S2 rfl
  refine x_tcallV (As := [.int p1, .int p2]) (rest := [.int 0, .ref (ad p3)]) (S1 := S2) (o := oz1) (vr := (fun r => some (.int r))) (P := True) hC hl.1 hW hS hGs hA tp0 rfl (show vwCl[9]? = some (RX10, TX10, 11) ∧ 9 < 11 from ⟨rfl, by decide⟩) (c_X10_setQuota l hfl g ad n K s.heap.size F S0 p0 p1 p2 tp0 oz1 S2 hz1) (cwV 2 hts gL_setQuota_X10_setQuota rfl rfl rfl (by decide +kernel) ⟨Nat.le_of_ble_eq_true rfl, Nat.le_of_ble_eq_true rfl⟩) rfl rfl (Nat.le_of_ble_eq_true rfl) dL_setQuota_5 ⟨Nat.le_of_ble_eq_true rfl, Nat.le_of_ble_eq_true rfl⟩ (fun x5 H locs ce q9 ho hW hS hc1 hc2 hc3 => ?_) (fun r3 H locs ho hP hW hS => ?_)
  · replace hf := smL ho hf
    by_cases c9 : x5 = 4
    · replace hf := ifT c9 hf
      subst c9
      refine x_caught (x := 4) (name := "java/util/NoSuchElementException") hC hGs [] ⟨0, 10, 13, 31⟩ [⟨0, 10, 17, 19⟩] (htab.trans rfl) (fun _ h => absurd h List.not_mem_nil) ⟨by decide, by decide, rfl, by decide +kernel⟩ w_0 hc1 hc2 hc3 ?_
      refine lv_astore (lv' := [(4, .ref q9), (0, .ref (ad p0)), (1, .int p1), (2, .int p2), (3, .ref (ad p3))]) hx hb dL_setQuota_13 hl (by decide) rfl (fun ls hl => ?_)
      refine lv_iconst (v := 1) hx hb dL_setQuota_15 (by decide) ?_
      obtain ⟨e1, e2⟩ := so2 hf
      subst e1
      subst e2
      exact W.iret (v := 1) hx hb hr (fun t ht hWm => ⟨⟨rfl, by unfold QB; rw [ht]; exact ⟨hW, trivial⟩⟩, hS.F ht⟩) hS.2.2 dL_setQuota_16 hlk
    · replace hf := ifF c9 hf
      by_cases c10 : x5 = 2
      · replace hf := ifT c10 hf
        subst c10
        refine x_caught (x := 2) (name := "java/lang/IllegalArgumentException") hC hGs [⟨0, 10, 13, 31⟩] ⟨0, 10, 17, 19⟩ [] (htab.trans rfl) (fun z hz => by simp only [List.mem_cons, List.not_mem_nil, or_false] at hz; rcases hz with rfl <;> first | exact Or.inr ⟨by decide, _, w_0, x_nc hGs (by decide)⟩) ⟨by decide, by decide, rfl, by decide +kernel⟩ w_1 hc1 hc2 hc3 ?_
        refine lv_astore (lv' := [(4, .ref q9), (0, .ref (ad p0)), (1, .int p1), (2, .int p2), (3, .ref (ad p3))]) hx hb dL_setQuota_17 hl (by decide) rfl (fun ls hl => ?_)
        refine lv_iconst (v := 2) hx hb dL_setQuota_19 (by decide) ?_
        obtain ⟨e1, e2⟩ := so2 hf
        subst e1
        subst e2
        exact W.iret (v := 2) hx hb hr (fun t ht hWm => ⟨⟨rfl, by unfold QB; rw [ht]; exact ⟨hW, trivial⟩⟩, hS.F ht⟩) hS.2.2 dL_setQuota_20 hlk
      · replace hf := ifF c10 hf
        cases hf
  · replace hf := smR ho hf
    refine W.widen (k := 2) (n := 12) (Nat.le_of_ble_eq_true rfl) (Nat.le_of_ble_eq_true rfl) ?_
    refine W.eq (g2 := F0 m 8 ls [.int r3, .int 0, .ref (ad p3)]) rfl ?_
    refine lv_i2l (v := r3.toInt64) hx hb dL_setQuota_8 rfl ?_
    replace hf := ckiE hf
    obtain ⟨h11, hf⟩ := hf
    refine x_last hC hW hS tp3 rfl rfl h11 dL_setQuota_9 (fun S12 H locs eS12 hW hS => ?_)
    replace hf := ltE hf S12 eS12
    refine lv_goto (tgt := 21) hx hb dL_setQuota_10 (by decide) ?_
    refine lv_iconst (v := 0) hx hb dL_setQuota_21 (by decide) ?_
    obtain ⟨e1, e2⟩ := so2 hf
    subst e1
    subst e2
    exact W.iret (v := 0) hx hb hr (fun t ht hWm => ⟨⟨rfl, by unfold QB; rw [ht]; exact ⟨hW, trivial⟩⟩, hS.F ht⟩) hS.2.2 dL_setQuota_22 hlk
set_option maxHeartbeats 4000000 in
set_option maxRecDepth 100000 in
theorem c_L_advance (l : Launch) (hfl : l.stackTraces = false) (g : GP) (ad : Nat → Nat) (n : Nat) (K : Nat → Nat) (sz F : Nat) (S0 : St) (p0 : Nat) (p1 : Int32) (p2 : Nat) (tp0 : p0 < n ∧ K p0 = 9) (tp2 : p2 < n ∧ K p2 = 13) (r9 : Int32) (S9 : St) (hf : f_L_advance F S0 p0 p1 p2 = some (r9, S9)) : Met l yL_advance wsL_advance { frames := 7, cells := 1, slots := 6, locals := 161 } (va_Pc [.ref (ad p0), .int p1, .ref (ad p2)] (PB g ad n K S0 sz)) (QR (some (.int r9)) (QB g ad n K S9 (dA ad n sz) (True)) (dA ad n sz)) 1 6 (dA ad n sz) := by
  refine x_ofWH (cc := cL_advance) (maxL := 4) (ret := (some .int)) (hh := [(0, 9, 12, 19), (0, 9, 15, 13)]) (by decide) rfl ?_
  intro p e s m args below meth c s₁ B hml hv
  obtain ⟨rfl, hsz, hW, hK, hGs⟩ := x_start hv
  subst hsz
  have hx := B.exec
  have hb := B.bytes
  have hr := B.returns
  have hts := atoms_spec (ws := wsL_advance) B.pre
  have hown : s.vm.findClass RL = some m.cls := findClass_of_methodNamed B.named
  have hlk := B.notSynchronized
  have htab := vx_table (x := yL_advance) B (hts (.codeWith yL_advance cL_advance 4 (some .int) [(0, 9, 12, 19), (0, 9, 15, 13)]) (by decide +kernel))
  have hC : Cx g p s m _ c cL_advance RL wsL_advance 4 := ⟨hx, hb, hml, hown, hts, hK⟩
  have hA : ∀ q : Nat, s.heap.size ≤ q → dA ad n s.heap.size q := fun q h => Or.inr h
  have hS : va_S (dA ad n s.heap.size) s.heap s.heap [] := va_S.rf
  have hl := lv_entry ([.ref (ad p0), .int p1, .ref (ad p2)]) (n := 4) (Nat.le_of_ble_eq_true rfl)
  rw [lg_entry_eq]
  generalize (lg_sl ([.ref (ad p0), .int p1, .ref (ad p2)]) ++ List.replicate (4 - (lg_sl ([.ref (ad p0), .int p1, .ref (ad p2)])).length) Slot.unset).toArray = ls at hl ⊢
  have hl : lv_has ls 4 [(0, .ref (ad p0)), (1, .int p1), (2, .ref (ad p2))] := hl
  have w_0 := hts (.classLink RL 19 "java/lang/IllegalArgumentException") (by decide +kernel)
  have w_1 := hts (.classLink RL 13 "java/lang/IllegalStateException") (by decide +kernel)
  have hGE := hGs.2.2.2.2.2.2.1
  have hGM := hGs.2.2.2.2.2.2.2.1
  unfold f_L_advance at hf
  refine lv_aload_n hx hb dL_advance_0 rfl (lv_at hl 2 rfl) ?_
  refine lv_iconst (v := 0) hx hb dL_advance_1 (by decide) ?_
  refine lv_aload_n hx hb dL_advance_2 rfl (lv_at hl 0 rfl) ?_
  refine lv_iload_n hx hb dL_advance_3 rfl (lv_at hl 1 rfl) ?_
  replace hf := obE hf
  obtain ⟨z1, hz1, hf⟩ := hf
  obtain ⟨oz1, S2⟩ := z1
  replace hf := ltE hf S2 rfl
  refine x_tcallV (As := [.int p1]) (rest := [.int 0, .ref (ad p2)]) (S1 := S2) (o := oz1) (vr := (fun r => some (.int r))) (P := True) hC hl.1 hW hS hGs hA tp0 rfl (show vwCl[9]? = some (RX10, TX10, 11) ∧ 9 < 11 from ⟨rfl, by decide⟩) (c_X10_advance l hfl g ad n K s.heap.size F S0 p0 p1 tp0 oz1 S2 hz1) (cwV 1 hts gL_advance_X10_advance rfl rfl rfl (by decide +kernel) ⟨Nat.le_of_ble_eq_true rfl, Nat.le_of_ble_eq_true rfl⟩) rfl rfl (Nat.le_of_ble_eq_true rfl) dL_advance_4 ⟨Nat.le_of_ble_eq_true rfl, Nat.le_of_ble_eq_true rfl⟩ (fun x5 H locs ce q9 ho hW hS hc1 hc2 hc3 => ?_) (fun r3 H locs ho hP hW hS => ?_)
  · replace hf := smL ho hf
    by_cases c9 : x5 = 2
    · replace hf := ifT c9 hf
      subst c9
      refine x_caught (x := 2) (name := "java/lang/IllegalArgumentException") hC hGs [] ⟨0, 9, 12, 19⟩ [⟨0, 9, 15, 13⟩] (htab.trans rfl) (fun _ h => absurd h List.not_mem_nil) ⟨by decide, by decide, rfl, by decide +kernel⟩ w_0 hc1 hc2 hc3 ?_
      refine lv_astore_n (lv' := [(3, .ref q9), (0, .ref (ad p0)), (1, .int p1), (2, .ref (ad p2))]) hx hb dL_advance_12 rfl hl (by decide) rfl (fun ls hl => ?_)
      refine lv_iconst (v := 1) hx hb dL_advance_13 (by decide) ?_
      obtain ⟨e1, e2⟩ := so2 hf
      subst e1
      subst e2
      exact W.iret (v := 1) hx hb hr (fun t ht hWm => ⟨⟨rfl, by unfold QB; rw [ht]; exact ⟨hW, trivial⟩⟩, hS.F ht⟩) hS.2.2 dL_advance_14 hlk
    · replace hf := ifF c9 hf
      by_cases c10 : x5 = 1
      · replace hf := ifT c10 hf
        subst c10
        refine x_caught (x := 1) (name := "java/lang/IllegalStateException") hC hGs [⟨0, 9, 12, 19⟩] ⟨0, 9, 15, 13⟩ [] (htab.trans rfl) (fun z hz => by simp only [List.mem_cons, List.not_mem_nil, or_false] at hz; rcases hz with rfl <;> first | exact Or.inr ⟨by decide, _, w_0, x_nc hGs (by decide)⟩) ⟨by decide, by decide, rfl, by decide +kernel⟩ w_1 hc1 hc2 hc3 ?_
        refine lv_astore_n (lv' := [(3, .ref q9), (0, .ref (ad p0)), (1, .int p1), (2, .ref (ad p2))]) hx hb dL_advance_15 rfl hl (by decide) rfl (fun ls hl => ?_)
        refine lv_iconst (v := 2) hx hb dL_advance_16 (by decide) ?_
        obtain ⟨e1, e2⟩ := so2 hf
        subst e1
        subst e2
        exact W.iret (v := 2) hx hb hr (fun t ht hWm => ⟨⟨rfl, by unfold QB; rw [ht]; exact ⟨hW, trivial⟩⟩, hS.F ht⟩) hS.2.2 dL_advance_17 hlk
      · replace hf := ifF c10 hf
        cases hf
  · replace hf := smR ho hf
    refine W.widen (k := 1) (n := 6) (Nat.le_of_ble_eq_true rfl) (Nat.le_of_ble_eq_true rfl) ?_
    refine W.eq (g2 := F0 m 7 ls [.int r3, .int 0, .ref (ad p2)]) rfl ?_
    refine lv_i2l (v := r3.toInt64) hx hb dL_advance_7 rfl ?_
    replace hf := ckiE hf
    obtain ⟨h11, hf⟩ := hf
    refine x_last hC hW hS tp2 rfl rfl h11 dL_advance_8 (fun S12 H locs eS12 hW hS => ?_)
    replace hf := ltE hf S12 eS12
    refine lv_goto (tgt := 18) hx hb dL_advance_9 (by decide) ?_
    refine lv_iconst (v := 0) hx hb dL_advance_18 (by decide) ?_
    obtain ⟨e1, e2⟩ := so2 hf
    subst e1
    subst e2
    exact W.iret (v := 0) hx hb hr (fun t ht hWm => ⟨⟨rfl, by unfold QB; rw [ht]; exact ⟨hW, trivial⟩⟩, hS.F ht⟩) hS.2.2 dL_advance_19 hlk
set_option maxHeartbeats 4000000 in
set_option maxRecDepth 100000 in
theorem c_L_removedOn (l : Launch) (hfl : l.stackTraces = false) (g : GP) (ad : Nat → Nat) (n : Nat) (K : Nat → Nat) (sz F : Nat) (S0 : St) (p0 : Nat) (p1 : Int32) (p2 : Nat) (tp0 : p0 < n ∧ K p0 = 9) (tp2 : p2 < n ∧ K p2 = 13) (r9 : Int32) (S9 : St) (hf : f_L_removedOn F S0 p0 p1 p2 = some (r9, S9)) : Met l yL_removedOn wsL_removedOn { frames := 8, cells := 1, slots := 6, locals := 160 } (va_Pc [.ref (ad p0), .int p1, .ref (ad p2)] (PB g ad n K S0 sz)) (QR (some (.int r9)) (QB g ad n K S9 (dA ad n sz) (True)) (dA ad n sz)) 1 6 (dA ad n sz) := by
  refine x_ofWH (cc := cL_removedOn) (maxL := 4) (ret := (some .int)) (hh := [(0, 9, 12, 31)]) (by decide) rfl ?_
  intro p e s m args below meth c s₁ B hml hv
  obtain ⟨rfl, hsz, hW, hK, hGs⟩ := x_start hv
  subst hsz
  have hx := B.exec
  have hb := B.bytes
  have hr := B.returns
  have hts := atoms_spec (ws := wsL_removedOn) B.pre
  have hown : s.vm.findClass RL = some m.cls := findClass_of_methodNamed B.named
  have hlk := B.notSynchronized
  have htab := vx_table (x := yL_removedOn) B (hts (.codeWith yL_removedOn cL_removedOn 4 (some .int) [(0, 9, 12, 31)]) (by decide +kernel))
  have hC : Cx g p s m _ c cL_removedOn RL wsL_removedOn 4 := ⟨hx, hb, hml, hown, hts, hK⟩
  have hA : ∀ q : Nat, s.heap.size ≤ q → dA ad n s.heap.size q := fun q h => Or.inr h
  have hS : va_S (dA ad n s.heap.size) s.heap s.heap [] := va_S.rf
  have hl := lv_entry ([.ref (ad p0), .int p1, .ref (ad p2)]) (n := 4) (Nat.le_of_ble_eq_true rfl)
  rw [lg_entry_eq]
  generalize (lg_sl ([.ref (ad p0), .int p1, .ref (ad p2)]) ++ List.replicate (4 - (lg_sl ([.ref (ad p0), .int p1, .ref (ad p2)])).length) Slot.unset).toArray = ls at hl ⊢
  have hl : lv_has ls 4 [(0, .ref (ad p0)), (1, .int p1), (2, .ref (ad p2))] := hl
  have w_0 := hts (.classLink RL 31 "java/util/NoSuchElementException") (by decide +kernel)
  have hGE := hGs.2.2.2.2.2.2.1
  have hGM := hGs.2.2.2.2.2.2.2.1
  unfold f_L_removedOn at hf
  refine lv_aload_n hx hb dL_removedOn_0 rfl (lv_at hl 2 rfl) ?_
  refine lv_iconst (v := 0) hx hb dL_removedOn_1 (by decide) ?_
  refine lv_aload_n hx hb dL_removedOn_2 rfl (lv_at hl 0 rfl) ?_
  refine lv_iload_n hx hb dL_removedOn_3 rfl (lv_at hl 1 rfl) ?_
  replace hf := obE hf
  obtain ⟨z1, hz1, hf⟩ := hf
  obtain ⟨oz1, S2⟩ := z1
  replace hf := ltE hf S2 rfl
  refine x_tcallV (As := [.int p1]) (rest := [.int 0, .ref (ad p2)]) (S1 := S2) (o := oz1) (vr := (fun r => some (.int r))) (P := True) hC hl.1 hW hS hGs hA tp0 rfl (show vwCl[9]? = some (RX10, TX10, 11) ∧ 9 < 11 from ⟨rfl, by decide⟩) (c_X10_removedOn l hfl g ad n K s.heap.size F S0 p0 p1 tp0 oz1 S2 hz1) (cwV 1 hts gL_removedOn_X10_removedOn rfl rfl rfl (by decide +kernel) ⟨Nat.le_of_ble_eq_true rfl, Nat.le_of_ble_eq_true rfl⟩) rfl rfl (Nat.le_of_ble_eq_true rfl) dL_removedOn_4 ⟨Nat.le_of_ble_eq_true rfl, Nat.le_of_ble_eq_true rfl⟩ (fun x5 H locs ce q9 ho hW hS hc1 hc2 hc3 => ?_) (fun r3 H locs ho hP hW hS => ?_)
  · replace hf := smL ho hf
    by_cases c9 : x5 = 4
    · replace hf := ifT c9 hf
      subst c9
      refine x_caught (x := 4) (name := "java/util/NoSuchElementException") hC hGs [] ⟨0, 9, 12, 31⟩ [] (htab.trans rfl) (fun _ h => absurd h List.not_mem_nil) ⟨by decide, by decide, rfl, by decide +kernel⟩ w_0 hc1 hc2 hc3 ?_
      refine lv_astore_n (lv' := [(3, .ref q9), (0, .ref (ad p0)), (1, .int p1), (2, .ref (ad p2))]) hx hb dL_removedOn_12 rfl hl (by decide) rfl (fun ls hl => ?_)
      refine lv_iconst (v := 1) hx hb dL_removedOn_13 (by decide) ?_
      obtain ⟨e1, e2⟩ := so2 hf
      subst e1
      subst e2
      exact W.iret (v := 1) hx hb hr (fun t ht hWm => ⟨⟨rfl, by unfold QB; rw [ht]; exact ⟨hW, trivial⟩⟩, hS.F ht⟩) hS.2.2 dL_removedOn_14 hlk
    · replace hf := ifF c9 hf
      cases hf
  · replace hf := smR ho hf
    refine W.widen (k := 1) (n := 6) (Nat.le_of_ble_eq_true rfl) (Nat.le_of_ble_eq_true rfl) ?_
    refine W.eq (g2 := F0 m 7 ls [.int r3, .int 0, .ref (ad p2)]) rfl ?_
    refine lv_i2l (v := r3.toInt64) hx hb dL_removedOn_7 rfl ?_
    replace hf := ckiE hf
    obtain ⟨h10, hf⟩ := hf
    refine x_last hC hW hS tp2 rfl rfl h10 dL_removedOn_8 (fun S11 H locs eS11 hW hS => ?_)
    replace hf := ltE hf S11 eS11
    refine lv_goto (tgt := 15) hx hb dL_removedOn_9 (by decide) ?_
    refine lv_iconst (v := 0) hx hb dL_removedOn_15 (by decide) ?_
    obtain ⟨e1, e2⟩ := so2 hf
    subst e1
    subst e2
    exact W.iret (v := 0) hx hb hr (fun t ht hWm => ⟨⟨rfl, by unfold QB; rw [ht]; exact ⟨hW, trivial⟩⟩, hS.F ht⟩) hS.2.2 dL_removedOn_16 hlk
set_option maxHeartbeats 4000000 in
set_option maxRecDepth 100000 in
theorem c_L_bytesAfter (l : Launch) (hfl : l.stackTraces = false) (g : GP) (ad : Nat → Nat) (n : Nat) (K : Nat → Nat) (sz F : Nat) (S0 : St) (p0 : Nat) (p1 : Int32) (p2 : Nat) (tp0 : p0 < n ∧ K p0 = 9) (tp2 : p2 < n ∧ K p2 = 13) (r9 : Int32) (S9 : St) (hf : f_L_bytesAfter F S0 p0 p1 p2 = some (r9, S9)) : Met l yL_bytesAfter wsL_bytesAfter { frames := 8, cells := 1, slots := 6, locals := 160 } (va_Pc [.ref (ad p0), .int p1, .ref (ad p2)] (PB g ad n K S0 sz)) (QR (some (.int r9)) (QB g ad n K S9 (dA ad n sz) (True)) (dA ad n sz)) 1 6 (dA ad n sz) := by
  refine x_ofWH (cc := cL_bytesAfter) (maxL := 4) (ret := (some .int)) (hh := [(0, 9, 12, 19)]) (by decide) rfl ?_
  intro p e s m args below meth c s₁ B hml hv
  obtain ⟨rfl, hsz, hW, hK, hGs⟩ := x_start hv
  subst hsz
  have hx := B.exec
  have hb := B.bytes
  have hr := B.returns
  have hts := atoms_spec (ws := wsL_bytesAfter) B.pre
  have hown : s.vm.findClass RL = some m.cls := findClass_of_methodNamed B.named
  have hlk := B.notSynchronized
  have htab := vx_table (x := yL_bytesAfter) B (hts (.codeWith yL_bytesAfter cL_bytesAfter 4 (some .int) [(0, 9, 12, 19)]) (by decide +kernel))
  have hC : Cx g p s m _ c cL_bytesAfter RL wsL_bytesAfter 4 := ⟨hx, hb, hml, hown, hts, hK⟩
  have hA : ∀ q : Nat, s.heap.size ≤ q → dA ad n s.heap.size q := fun q h => Or.inr h
  have hS : va_S (dA ad n s.heap.size) s.heap s.heap [] := va_S.rf
  have hl := lv_entry ([.ref (ad p0), .int p1, .ref (ad p2)]) (n := 4) (Nat.le_of_ble_eq_true rfl)
  rw [lg_entry_eq]
  generalize (lg_sl ([.ref (ad p0), .int p1, .ref (ad p2)]) ++ List.replicate (4 - (lg_sl ([.ref (ad p0), .int p1, .ref (ad p2)])).length) Slot.unset).toArray = ls at hl ⊢
  have hl : lv_has ls 4 [(0, .ref (ad p0)), (1, .int p1), (2, .ref (ad p2))] := hl
  have w_0 := hts (.classLink RL 19 "java/lang/IllegalArgumentException") (by decide +kernel)
  have hGE := hGs.2.2.2.2.2.2.1
  have hGM := hGs.2.2.2.2.2.2.2.1
  unfold f_L_bytesAfter at hf
  refine lv_aload_n hx hb dL_bytesAfter_0 rfl (lv_at hl 2 rfl) ?_
  refine lv_iconst (v := 0) hx hb dL_bytesAfter_1 (by decide) ?_
  refine lv_aload_n hx hb dL_bytesAfter_2 rfl (lv_at hl 0 rfl) ?_
  refine lv_iload_n hx hb dL_bytesAfter_3 rfl (lv_at hl 1 rfl) ?_
  replace hf := obE hf
  obtain ⟨z1, hz1, hf⟩ := hf
  obtain ⟨oz1, S2⟩ := z1
  replace hf := ltE hf S2 rfl
  refine x_tcallV (As := [.int p1]) (rest := [.int 0, .ref (ad p2)]) (S1 := S2) (o := oz1) (vr := (fun r => some (.int r))) (P := True) hC hl.1 hW hS hGs hA tp0 rfl (show vwCl[9]? = some (RX10, TX10, 11) ∧ 9 < 11 from ⟨rfl, by decide⟩) (c_X10_bytesAfter l hfl g ad n K s.heap.size F S0 p0 p1 tp0 oz1 S2 hz1) (cwV 1 hts gL_bytesAfter_X10_bytesAfter rfl rfl rfl (by decide +kernel) ⟨Nat.le_of_ble_eq_true rfl, Nat.le_of_ble_eq_true rfl⟩) rfl rfl (Nat.le_of_ble_eq_true rfl) dL_bytesAfter_4 ⟨Nat.le_of_ble_eq_true rfl, Nat.le_of_ble_eq_true rfl⟩ (fun x5 H locs ce q9 ho hW hS hc1 hc2 hc3 => ?_) (fun r3 H locs ho hP hW hS => ?_)
  · replace hf := smL ho hf
    by_cases c9 : x5 = 2
    · replace hf := ifT c9 hf
      subst c9
      refine x_caught (x := 2) (name := "java/lang/IllegalArgumentException") hC hGs [] ⟨0, 9, 12, 19⟩ [] (htab.trans rfl) (fun _ h => absurd h List.not_mem_nil) ⟨by decide, by decide, rfl, by decide +kernel⟩ w_0 hc1 hc2 hc3 ?_
      refine lv_astore_n (lv' := [(3, .ref q9), (0, .ref (ad p0)), (1, .int p1), (2, .ref (ad p2))]) hx hb dL_bytesAfter_12 rfl hl (by decide) rfl (fun ls hl => ?_)
      refine lv_iconst (v := 1) hx hb dL_bytesAfter_13 (by decide) ?_
      obtain ⟨e1, e2⟩ := so2 hf
      subst e1
      subst e2
      exact W.iret (v := 1) hx hb hr (fun t ht hWm => ⟨⟨rfl, by unfold QB; rw [ht]; exact ⟨hW, trivial⟩⟩, hS.F ht⟩) hS.2.2 dL_bytesAfter_14 hlk
    · replace hf := ifF c9 hf
      cases hf
  · replace hf := smR ho hf
    refine W.widen (k := 1) (n := 6) (Nat.le_of_ble_eq_true rfl) (Nat.le_of_ble_eq_true rfl) ?_
    refine W.eq (g2 := F0 m 7 ls [.int r3, .int 0, .ref (ad p2)]) rfl ?_
    refine lv_i2l (v := r3.toInt64) hx hb dL_bytesAfter_7 rfl ?_
    replace hf := ckiE hf
    obtain ⟨h10, hf⟩ := hf
    refine x_last hC hW hS tp2 rfl rfl h10 dL_bytesAfter_8 (fun S11 H locs eS11 hW hS => ?_)
    replace hf := ltE hf S11 eS11
    refine lv_goto (tgt := 15) hx hb dL_bytesAfter_9 (by decide) ?_
    refine lv_iconst (v := 0) hx hb dL_bytesAfter_15 (by decide) ?_
    obtain ⟨e1, e2⟩ := so2 hf
    subst e1
    subst e2
    exact W.iret (v := 0) hx hb hr (fun t ht hWm => ⟨⟨rfl, by unfold QB; rw [ht]; exact ⟨hW, trivial⟩⟩, hS.F ht⟩) hS.2.2 dL_bytesAfter_16 hlk
set_option maxHeartbeats 4000000 in
set_option maxRecDepth 100000 in
theorem c_L_goneAfter (l : Launch) (hfl : l.stackTraces = false) (g : GP) (ad : Nat → Nat) (n : Nat) (K : Nat → Nat) (sz F : Nat) (S0 : St) (p0 : Nat) (p1 : Int32) (p2 : Int32) (p3 : Nat) (tp0 : p0 < n ∧ K p0 = 9) (tp3 : p3 < n ∧ K p3 = 13) (r9 : Int32) (S9 : St) (hf : f_L_goneAfter F S0 p0 p1 p2 p3 = some (r9, S9)) : Met l yL_goneAfter wsL_goneAfter { frames := 8, cells := 2, slots := 12, locals := 161 } (va_Pc [.ref (ad p0), .int p1, .int p2, .ref (ad p3)] (PB g ad n K S0 sz)) (QR (some (.int r9)) (QB g ad n K S9 (dA ad n sz) (True)) (dA ad n sz)) 2 12 (dA ad n sz) := by
  refine x_ofWH (cc := cL_goneAfter) (maxL := 5) (ret := (some .int)) (hh := [(0, 10, 13, 31), (0, 10, 17, 19)]) (by decide) rfl ?_
  intro p e s m args below meth c s₁ B hml hv
  obtain ⟨rfl, hsz, hW, hK, hGs⟩ := x_start hv
  subst hsz
  have hx := B.exec
  have hb := B.bytes
  have hr := B.returns
  have hts := atoms_spec (ws := wsL_goneAfter) B.pre
  have hown : s.vm.findClass RL = some m.cls := findClass_of_methodNamed B.named
  have hlk := B.notSynchronized
  have htab := vx_table (x := yL_goneAfter) B (hts (.codeWith yL_goneAfter cL_goneAfter 5 (some .int) [(0, 10, 13, 31), (0, 10, 17, 19)]) (by decide +kernel))
  have hC : Cx g p s m _ c cL_goneAfter RL wsL_goneAfter 5 := ⟨hx, hb, hml, hown, hts, hK⟩
  have hA : ∀ q : Nat, s.heap.size ≤ q → dA ad n s.heap.size q := fun q h => Or.inr h
  have hS : va_S (dA ad n s.heap.size) s.heap s.heap [] := va_S.rf
  have hl := lv_entry ([.ref (ad p0), .int p1, .int p2, .ref (ad p3)]) (n := 5) (Nat.le_of_ble_eq_true rfl)
  rw [lg_entry_eq]
  generalize (lg_sl ([.ref (ad p0), .int p1, .int p2, .ref (ad p3)]) ++ List.replicate (5 - (lg_sl ([.ref (ad p0), .int p1, .int p2, .ref (ad p3)])).length) Slot.unset).toArray = ls at hl ⊢
  have hl : lv_has ls 5 [(0, .ref (ad p0)), (1, .int p1), (2, .int p2), (3, .ref (ad p3))] := hl
  have w_0 := hts (.classLink RL 31 "java/util/NoSuchElementException") (by decide +kernel)
  have w_1 := hts (.classLink RL 19 "java/lang/IllegalArgumentException") (by decide +kernel)
  have hGE := hGs.2.2.2.2.2.2.1
  have hGM := hGs.2.2.2.2.2.2.2.1
  unfold f_L_goneAfter at hf
  refine lv_aload_n hx hb dL_goneAfter_0 rfl (lv_at hl 3 rfl) ?_
  refine lv_iconst (v := 0) hx hb dL_goneAfter_1 (by decide) ?_
  refine lv_aload_n hx hb dL_goneAfter_2 rfl (lv_at hl 0 rfl) ?_
  refine lv_iload_n hx hb dL_goneAfter_3 rfl (lv_at hl 1 rfl) ?_
  refine lv_iload_n hx hb dL_goneAfter_4 rfl (lv_at hl 2 rfl) ?_
  replace hf := obE hf
  obtain ⟨z1, hz1, hf⟩ := hf
  obtain ⟨oz1, S2⟩ := z1
  replace hf := ltE hf S2 rfl
  refine x_tcallV (As := [.int p1, .int p2]) (rest := [.int 0, .ref (ad p3)]) (S1 := S2) (o := oz1) (vr := (fun r => some (.int r))) (P := True) hC hl.1 hW hS hGs hA tp0 rfl (show vwCl[9]? = some (RX10, TX10, 11) ∧ 9 < 11 from ⟨rfl, by decide⟩) (c_X10_goneAfter l hfl g ad n K s.heap.size F S0 p0 p1 p2 tp0 oz1 S2 hz1) (cwV 2 hts gL_goneAfter_X10_goneAfter rfl rfl rfl (by decide +kernel) ⟨Nat.le_of_ble_eq_true rfl, Nat.le_of_ble_eq_true rfl⟩) rfl rfl (Nat.le_of_ble_eq_true rfl) dL_goneAfter_5 ⟨Nat.le_of_ble_eq_true rfl, Nat.le_of_ble_eq_true rfl⟩ (fun x5 H locs ce q9 ho hW hS hc1 hc2 hc3 => ?_) (fun r3 H locs ho hP hW hS => ?_)
  · replace hf := smL ho hf
    by_cases c9 : x5 = 4
    · replace hf := ifT c9 hf
      subst c9
      refine x_caught (x := 4) (name := "java/util/NoSuchElementException") hC hGs [] ⟨0, 10, 13, 31⟩ [⟨0, 10, 17, 19⟩] (htab.trans rfl) (fun _ h => absurd h List.not_mem_nil) ⟨by decide, by decide, rfl, by decide +kernel⟩ w_0 hc1 hc2 hc3 ?_
      refine lv_astore (lv' := [(4, .ref q9), (0, .ref (ad p0)), (1, .int p1), (2, .int p2), (3, .ref (ad p3))]) hx hb dL_goneAfter_13 hl (by decide) rfl (fun ls hl => ?_)
      refine lv_iconst (v := 1) hx hb dL_goneAfter_15 (by decide) ?_
      obtain ⟨e1, e2⟩ := so2 hf
      subst e1
      subst e2
      exact W.iret (v := 1) hx hb hr (fun t ht hWm => ⟨⟨rfl, by unfold QB; rw [ht]; exact ⟨hW, trivial⟩⟩, hS.F ht⟩) hS.2.2 dL_goneAfter_16 hlk
    · replace hf := ifF c9 hf
      by_cases c10 : x5 = 2
      · replace hf := ifT c10 hf
        subst c10
        refine x_caught (x := 2) (name := "java/lang/IllegalArgumentException") hC hGs [⟨0, 10, 13, 31⟩] ⟨0, 10, 17, 19⟩ [] (htab.trans rfl) (fun z hz => by simp only [List.mem_cons, List.not_mem_nil, or_false] at hz; rcases hz with rfl <;> first | exact Or.inr ⟨by decide, _, w_0, x_nc hGs (by decide)⟩) ⟨by decide, by decide, rfl, by decide +kernel⟩ w_1 hc1 hc2 hc3 ?_
        refine lv_astore (lv' := [(4, .ref q9), (0, .ref (ad p0)), (1, .int p1), (2, .int p2), (3, .ref (ad p3))]) hx hb dL_goneAfter_17 hl (by decide) rfl (fun ls hl => ?_)
        refine lv_iconst (v := 2) hx hb dL_goneAfter_19 (by decide) ?_
        obtain ⟨e1, e2⟩ := so2 hf
        subst e1
        subst e2
        exact W.iret (v := 2) hx hb hr (fun t ht hWm => ⟨⟨rfl, by unfold QB; rw [ht]; exact ⟨hW, trivial⟩⟩, hS.F ht⟩) hS.2.2 dL_goneAfter_20 hlk
      · replace hf := ifF c10 hf
        cases hf
  · replace hf := smR ho hf
    refine W.widen (k := 2) (n := 12) (Nat.le_of_ble_eq_true rfl) (Nat.le_of_ble_eq_true rfl) ?_
    refine W.eq (g2 := F0 m 8 ls [.int r3, .int 0, .ref (ad p3)]) rfl ?_
    refine lv_i2l (v := r3.toInt64) hx hb dL_goneAfter_8 rfl ?_
    replace hf := ckiE hf
    obtain ⟨h11, hf⟩ := hf
    refine x_last hC hW hS tp3 rfl rfl h11 dL_goneAfter_9 (fun S12 H locs eS12 hW hS => ?_)
    replace hf := ltE hf S12 eS12
    refine lv_goto (tgt := 21) hx hb dL_goneAfter_10 (by decide) ?_
    refine lv_iconst (v := 0) hx hb dL_goneAfter_21 (by decide) ?_
    obtain ⟨e1, e2⟩ := so2 hf
    subst e1
    subst e2
    exact W.iret (v := 0) hx hb hr (fun t ht hWm => ⟨⟨rfl, by unfold QB; rw [ht]; exact ⟨hW, trivial⟩⟩, hS.F ht⟩) hS.2.2 dL_goneAfter_22 hlk
set_option maxHeartbeats 4000000 in
set_option maxRecDepth 100000 in
theorem c_L_event (l : Launch) (hfl : l.stackTraces = false) (g : GP) (ad : Nat → Nat) (n : Nat) (K : Nat → Nat) (sz F : Nat) (S0 : St) (p0 : Nat) (p1 : Int32) (p2 : Int32) (p3 : Nat) (tp0 : p0 < n ∧ K p0 = 9) (tp3 : p3 < n ∧ K p3 = 13) (r9 : Int32) (S9 : St) (hf : f_L_event F S0 p0 p1 p2 p3 = some (r9, S9)) : Met l yL_event wsL_event { frames := 8, cells := 1, slots := 6, locals := 143 } (va_Pc [.ref (ad p0), .int p1, .int p2, .ref (ad p3)] (PB g ad n K S0 sz)) (QR (some (.int r9)) (QB g ad n K S9 (dA ad n sz) (True)) (dA ad n sz)) 1 6 (dA ad n sz) := by
  refine x_ofWH (cc := cL_event) (maxL := 5) (ret := (some .int)) (hh := [(0, 10, 13, 31), (0, 10, 17, 19)]) (by decide) rfl ?_
  intro p e s m args below meth c s₁ B hml hv
  obtain ⟨rfl, hsz, hW, hK, hGs⟩ := x_start hv
  subst hsz
  have hx := B.exec
  have hb := B.bytes
  have hr := B.returns
  have hts := atoms_spec (ws := wsL_event) B.pre
  have hown : s.vm.findClass RL = some m.cls := findClass_of_methodNamed B.named
  have hlk := B.notSynchronized
  have htab := vx_table (x := yL_event) B (hts (.codeWith yL_event cL_event 5 (some .int) [(0, 10, 13, 31), (0, 10, 17, 19)]) (by decide +kernel))
  have hC : Cx g p s m _ c cL_event RL wsL_event 5 := ⟨hx, hb, hml, hown, hts, hK⟩
  have hA : ∀ q : Nat, s.heap.size ≤ q → dA ad n s.heap.size q := fun q h => Or.inr h
  have hS : va_S (dA ad n s.heap.size) s.heap s.heap [] := va_S.rf
  have hl := lv_entry ([.ref (ad p0), .int p1, .int p2, .ref (ad p3)]) (n := 5) (Nat.le_of_ble_eq_true rfl)
  rw [lg_entry_eq]
  generalize (lg_sl ([.ref (ad p0), .int p1, .int p2, .ref (ad p3)]) ++ List.replicate (5 - (lg_sl ([.ref (ad p0), .int p1, .int p2, .ref (ad p3)])).length) Slot.unset).toArray = ls at hl ⊢
  have hl : lv_has ls 5 [(0, .ref (ad p0)), (1, .int p1), (2, .int p2), (3, .ref (ad p3))] := hl
  have w_0 := hts (.classLink RL 31 "java/util/NoSuchElementException") (by decide +kernel)
  have w_1 := hts (.classLink RL 19 "java/lang/IllegalArgumentException") (by decide +kernel)
  have hGE := hGs.2.2.2.2.2.2.1
  have hGM := hGs.2.2.2.2.2.2.2.1
  unfold f_L_event at hf
  refine lv_aload_n hx hb dL_event_0 rfl (lv_at hl 3 rfl) ?_
  refine lv_iconst (v := 0) hx hb dL_event_1 (by decide) ?_
  refine lv_aload_n hx hb dL_event_2 rfl (lv_at hl 0 rfl) ?_
  refine lv_iload_n hx hb dL_event_3 rfl (lv_at hl 1 rfl) ?_
  refine lv_iload_n hx hb dL_event_4 rfl (lv_at hl 2 rfl) ?_
  replace hf := obE hf
  obtain ⟨z1, hz1, hf⟩ := hf
  obtain ⟨oz1, S2⟩ := z1
  replace hf := ltE hf S2 rfl
  refine x_tcallV (As := [.int p1, .int p2]) (rest := [.int 0, .ref (ad p3)]) (S1 := S2) (o := oz1) (vr := (fun r => some (.int r))) (P := True) hC hl.1 hW hS hGs hA tp0 rfl (show vwCl[9]? = some (RX10, TX10, 11) ∧ 9 < 11 from ⟨rfl, by decide⟩) (c_X10_event l hfl g ad n K s.heap.size F S0 p0 p1 p2 tp0 oz1 S2 hz1) (cwV 2 hts gL_event_X10_event rfl rfl rfl (by decide +kernel) ⟨Nat.le_of_ble_eq_true rfl, Nat.le_of_ble_eq_true rfl⟩) rfl rfl (Nat.le_of_ble_eq_true rfl) dL_event_5 ⟨Nat.le_of_ble_eq_true rfl, Nat.le_of_ble_eq_true rfl⟩ (fun x5 H locs ce q9 ho hW hS hc1 hc2 hc3 => ?_) (fun r3 H locs ho hP hW hS => ?_)
  · replace hf := smL ho hf
    by_cases c9 : x5 = 4
    · replace hf := ifT c9 hf
      subst c9
      refine x_caught (x := 4) (name := "java/util/NoSuchElementException") hC hGs [] ⟨0, 10, 13, 31⟩ [⟨0, 10, 17, 19⟩] (htab.trans rfl) (fun _ h => absurd h List.not_mem_nil) ⟨by decide, by decide, rfl, by decide +kernel⟩ w_0 hc1 hc2 hc3 ?_
      refine lv_astore (lv' := [(4, .ref q9), (0, .ref (ad p0)), (1, .int p1), (2, .int p2), (3, .ref (ad p3))]) hx hb dL_event_13 hl (by decide) rfl (fun ls hl => ?_)
      refine lv_iconst (v := 1) hx hb dL_event_15 (by decide) ?_
      obtain ⟨e1, e2⟩ := so2 hf
      subst e1
      subst e2
      exact W.iret (v := 1) hx hb hr (fun t ht hWm => ⟨⟨rfl, by unfold QB; rw [ht]; exact ⟨hW, trivial⟩⟩, hS.F ht⟩) hS.2.2 dL_event_16 hlk
    · replace hf := ifF c9 hf
      by_cases c10 : x5 = 2
      · replace hf := ifT c10 hf
        subst c10
        refine x_caught (x := 2) (name := "java/lang/IllegalArgumentException") hC hGs [⟨0, 10, 13, 31⟩] ⟨0, 10, 17, 19⟩ [] (htab.trans rfl) (fun z hz => by simp only [List.mem_cons, List.not_mem_nil, or_false] at hz; rcases hz with rfl <;> first | exact Or.inr ⟨by decide, _, w_0, x_nc hGs (by decide)⟩) ⟨by decide, by decide, rfl, by decide +kernel⟩ w_1 hc1 hc2 hc3 ?_
        refine lv_astore (lv' := [(4, .ref q9), (0, .ref (ad p0)), (1, .int p1), (2, .int p2), (3, .ref (ad p3))]) hx hb dL_event_17 hl (by decide) rfl (fun ls hl => ?_)
        refine lv_iconst (v := 2) hx hb dL_event_19 (by decide) ?_
        obtain ⟨e1, e2⟩ := so2 hf
        subst e1
        subst e2
        exact W.iret (v := 2) hx hb hr (fun t ht hWm => ⟨⟨rfl, by unfold QB; rw [ht]; exact ⟨hW, trivial⟩⟩, hS.F ht⟩) hS.2.2 dL_event_20 hlk
      · replace hf := ifF c10 hf
        cases hf
  · replace hf := smR ho hf
    refine W.widen (k := 1) (n := 6) (Nat.le_of_ble_eq_true rfl) (Nat.le_of_ble_eq_true rfl) ?_
    refine W.eq (g2 := F0 m 8 ls [.int r3, .int 0, .ref (ad p3)]) rfl ?_
    refine lv_i2l (v := r3.toInt64) hx hb dL_event_8 rfl ?_
    replace hf := ckiE hf
    obtain ⟨h11, hf⟩ := hf
    refine x_last hC hW hS tp3 rfl rfl h11 dL_event_9 (fun S12 H locs eS12 hW hS => ?_)
    replace hf := ltE hf S12 eS12
    refine lv_goto (tgt := 21) hx hb dL_event_10 (by decide) ?_
    refine lv_iconst (v := 0) hx hb dL_event_21 (by decide) ?_
    obtain ⟨e1, e2⟩ := so2 hf
    subst e1
    subst e2
    exact W.iret (v := 0) hx hb hr (fun t ht hWm => ⟨⟨rfl, by unfold QB; rw [ht]; exact ⟨hW, trivial⟩⟩, hS.F ht⟩) hS.2.2 dL_event_22 hlk
set_option maxHeartbeats 4000000 in
set_option maxRecDepth 100000 in
theorem c_L_eventsOf (l : Launch) (hfl : l.stackTraces = false) (g : GP) (ad : Nat → Nat) (n : Nat) (K : Nat → Nat) (sz F : Nat) (S0 : St) (p0 : Nat) (p1 : Int32) (p2 : Nat) (tp0 : p0 < n ∧ K p0 = 9) (tp2 : p2 < n ∧ K p2 = 13) (r9 : Int32) (S9 : St) (hf : f_L_eventsOf F S0 p0 p1 p2 = some (r9, S9)) : Met l yL_eventsOf wsL_eventsOf { frames := 7, cells := 1, slots := 6, locals := 123 } (va_Pc [.ref (ad p0), .int p1, .ref (ad p2)] (PB g ad n K S0 sz)) (QR (some (.int r9)) (QB g ad n K S9 (dA ad n sz) (True)) (dA ad n sz)) 1 6 (dA ad n sz) := by
  refine x_ofWH (cc := cL_eventsOf) (maxL := 4) (ret := (some .int)) (hh := [(0, 9, 12, 19)]) (by decide) rfl ?_
  intro p e s m args below meth c s₁ B hml hv
  obtain ⟨rfl, hsz, hW, hK, hGs⟩ := x_start hv
  subst hsz
  have hx := B.exec
  have hb := B.bytes
  have hr := B.returns
  have hts := atoms_spec (ws := wsL_eventsOf) B.pre
  have hown : s.vm.findClass RL = some m.cls := findClass_of_methodNamed B.named
  have hlk := B.notSynchronized
  have htab := vx_table (x := yL_eventsOf) B (hts (.codeWith yL_eventsOf cL_eventsOf 4 (some .int) [(0, 9, 12, 19)]) (by decide +kernel))
  have hC : Cx g p s m _ c cL_eventsOf RL wsL_eventsOf 4 := ⟨hx, hb, hml, hown, hts, hK⟩
  have hA : ∀ q : Nat, s.heap.size ≤ q → dA ad n s.heap.size q := fun q h => Or.inr h
  have hS : va_S (dA ad n s.heap.size) s.heap s.heap [] := va_S.rf
  have hl := lv_entry ([.ref (ad p0), .int p1, .ref (ad p2)]) (n := 4) (Nat.le_of_ble_eq_true rfl)
  rw [lg_entry_eq]
  generalize (lg_sl ([.ref (ad p0), .int p1, .ref (ad p2)]) ++ List.replicate (4 - (lg_sl ([.ref (ad p0), .int p1, .ref (ad p2)])).length) Slot.unset).toArray = ls at hl ⊢
  have hl : lv_has ls 4 [(0, .ref (ad p0)), (1, .int p1), (2, .ref (ad p2))] := hl
  have w_0 := hts (.classLink RL 19 "java/lang/IllegalArgumentException") (by decide +kernel)
  have hGE := hGs.2.2.2.2.2.2.1
  have hGM := hGs.2.2.2.2.2.2.2.1
  unfold f_L_eventsOf at hf
  refine lv_aload_n hx hb dL_eventsOf_0 rfl (lv_at hl 2 rfl) ?_
  refine lv_iconst (v := 0) hx hb dL_eventsOf_1 (by decide) ?_
  refine lv_aload_n hx hb dL_eventsOf_2 rfl (lv_at hl 0 rfl) ?_
  refine lv_iload_n hx hb dL_eventsOf_3 rfl (lv_at hl 1 rfl) ?_
  replace hf := obE hf
  obtain ⟨z1, hz1, hf⟩ := hf
  obtain ⟨oz1, S2⟩ := z1
  replace hf := ltE hf S2 rfl
  refine x_tcallV (As := [.int p1]) (rest := [.int 0, .ref (ad p2)]) (S1 := S2) (o := oz1) (vr := (fun r => some (.int r))) (P := True) hC hl.1 hW hS hGs hA tp0 rfl (show vwCl[9]? = some (RX10, TX10, 11) ∧ 9 < 11 from ⟨rfl, by decide⟩) (c_X10_eventsOf l hfl g ad n K s.heap.size F S0 p0 p1 tp0 oz1 S2 hz1) (cwV 1 hts gL_eventsOf_X10_eventsOf rfl rfl rfl (by decide +kernel) ⟨Nat.le_of_ble_eq_true rfl, Nat.le_of_ble_eq_true rfl⟩) rfl rfl (Nat.le_of_ble_eq_true rfl) dL_eventsOf_4 ⟨Nat.le_of_ble_eq_true rfl, Nat.le_of_ble_eq_true rfl⟩ (fun x5 H locs ce q9 ho hW hS hc1 hc2 hc3 => ?_) (fun r3 H locs ho hP hW hS => ?_)
  · replace hf := smL ho hf
    by_cases c9 : x5 = 2
    · replace hf := ifT c9 hf
      subst c9
      refine x_caught (x := 2) (name := "java/lang/IllegalArgumentException") hC hGs [] ⟨0, 9, 12, 19⟩ [] (htab.trans rfl) (fun _ h => absurd h List.not_mem_nil) ⟨by decide, by decide, rfl, by decide +kernel⟩ w_0 hc1 hc2 hc3 ?_
      refine lv_astore_n (lv' := [(3, .ref q9), (0, .ref (ad p0)), (1, .int p1), (2, .ref (ad p2))]) hx hb dL_eventsOf_12 rfl hl (by decide) rfl (fun ls hl => ?_)
      refine lv_iconst (v := 1) hx hb dL_eventsOf_13 (by decide) ?_
      obtain ⟨e1, e2⟩ := so2 hf
      subst e1
      subst e2
      exact W.iret (v := 1) hx hb hr (fun t ht hWm => ⟨⟨rfl, by unfold QB; rw [ht]; exact ⟨hW, trivial⟩⟩, hS.F ht⟩) hS.2.2 dL_eventsOf_14 hlk
    · replace hf := ifF c9 hf
      cases hf
  · replace hf := smR ho hf
    refine W.widen (k := 1) (n := 6) (Nat.le_of_ble_eq_true rfl) (Nat.le_of_ble_eq_true rfl) ?_
    refine W.eq (g2 := F0 m 7 ls [.int r3, .int 0, .ref (ad p2)]) rfl ?_
    refine lv_i2l (v := r3.toInt64) hx hb dL_eventsOf_7 rfl ?_
    replace hf := ckiE hf
    obtain ⟨h10, hf⟩ := hf
    refine x_last hC hW hS tp2 rfl rfl h10 dL_eventsOf_8 (fun S11 H locs eS11 hW hS => ?_)
    replace hf := ltE hf S11 eS11
    refine lv_goto (tgt := 15) hx hb dL_eventsOf_9 (by decide) ?_
    refine lv_iconst (v := 0) hx hb dL_eventsOf_15 (by decide) ?_
    obtain ⟨e1, e2⟩ := so2 hf
    subst e1
    subst e2
    exact W.iret (v := 0) hx hb hr (fun t ht hWm => ⟨⟨rfl, by unfold QB; rw [ht]; exact ⟨hW, trivial⟩⟩, hS.F ht⟩) hS.2.2 dL_eventsOf_16 hlk
set_option maxHeartbeats 4000000 in
set_option maxRecDepth 100000 in
theorem c_L_undo (l : Launch) (hfl : l.stackTraces = false) (g : GP) (ad : Nat → Nat) (n : Nat) (K : Nat → Nat) (sz F : Nat) (S0 : St) (p0 : Nat) (p1 : Nat) (tp0 : p0 < n ∧ K p0 = 9) (tp1 : p1 < n ∧ K p1 = 13) (r9 : Int32) (S9 : St) (hf : f_L_undo F S0 p0 p1 = some (r9, S9)) : Met l yL_undo wsL_undo { frames := 7, cells := 1, slots := 6, locals := 126 } (va_Pc [.ref (ad p0), .ref (ad p1)] (PB g ad n K S0 sz)) (QR (some (.int r9)) (QB g ad n K S9 (dA ad n sz) (True)) (dA ad n sz)) 1 6 (dA ad n sz) := by
  refine x_ofWH (cc := cL_undo) (maxL := 3) (ret := (some .int)) (hh := [(0, 8, 11, 13)]) (by decide) rfl ?_
  intro p e s m args below meth c s₁ B hml hv
  obtain ⟨rfl, hsz, hW, hK, hGs⟩ := x_start hv
  subst hsz
  have hx := B.exec
  have hb := B.bytes
  have hr := B.returns
  have hts := atoms_spec (ws := wsL_undo) B.pre
  have hown : s.vm.findClass RL = some m.cls := findClass_of_methodNamed B.named
  have hlk := B.notSynchronized
  have htab := vx_table (x := yL_undo) B (hts (.codeWith yL_undo cL_undo 3 (some .int) [(0, 8, 11, 13)]) (by decide +kernel))
  have hC : Cx g p s m _ c cL_undo RL wsL_undo 3 := ⟨hx, hb, hml, hown, hts, hK⟩
  have hA : ∀ q : Nat, s.heap.size ≤ q → dA ad n s.heap.size q := fun q h => Or.inr h
  have hS : va_S (dA ad n s.heap.size) s.heap s.heap [] := va_S.rf
  have hl := lv_entry ([.ref (ad p0), .ref (ad p1)]) (n := 3) (Nat.le_of_ble_eq_true rfl)
  rw [lg_entry_eq]
  generalize (lg_sl ([.ref (ad p0), .ref (ad p1)]) ++ List.replicate (3 - (lg_sl ([.ref (ad p0), .ref (ad p1)])).length) Slot.unset).toArray = ls at hl ⊢
  have hl : lv_has ls 3 [(0, .ref (ad p0)), (1, .ref (ad p1))] := hl
  have w_0 := hts (.classLink RL 13 "java/lang/IllegalStateException") (by decide +kernel)
  have hGE := hGs.2.2.2.2.2.2.1
  have hGM := hGs.2.2.2.2.2.2.2.1
  unfold f_L_undo at hf
  refine lv_aload_n hx hb dL_undo_0 rfl (lv_at hl 1 rfl) ?_
  refine lv_iconst (v := 0) hx hb dL_undo_1 (by decide) ?_
  refine lv_aload_n hx hb dL_undo_2 rfl (lv_at hl 0 rfl) ?_
  replace hf := obE hf
  obtain ⟨z1, hz1, hf⟩ := hf
  obtain ⟨oz1, S2⟩ := z1
  replace hf := ltE hf S2 rfl
  refine x_tcallV (As := []) (rest := [.int 0, .ref (ad p1)]) (S1 := S2) (o := oz1) (vr := (fun r => some (.int r))) (P := True) hC hl.1 hW hS hGs hA tp0 rfl (show vwCl[9]? = some (RX10, TX10, 11) ∧ 9 < 11 from ⟨rfl, by decide⟩) (c_X10_undo l hfl g ad n K s.heap.size F S0 p0 tp0 oz1 S2 hz1) (cwV 0 hts gL_undo_X10_undo rfl rfl rfl (by decide +kernel) ⟨Nat.le_of_ble_eq_true rfl, Nat.le_of_ble_eq_true rfl⟩) rfl rfl (Nat.le_of_ble_eq_true rfl) dL_undo_3 ⟨Nat.le_of_ble_eq_true rfl, Nat.le_of_ble_eq_true rfl⟩ (fun x5 H locs ce q9 ho hW hS hc1 hc2 hc3 => ?_) (fun r3 H locs ho hP hW hS => ?_)
  · replace hf := smL ho hf
    by_cases c9 : x5 = 1
    · replace hf := ifT c9 hf
      subst c9
      refine x_caught (x := 1) (name := "java/lang/IllegalStateException") hC hGs [] ⟨0, 8, 11, 13⟩ [] (htab.trans rfl) (fun _ h => absurd h List.not_mem_nil) ⟨by decide, by decide, rfl, by decide +kernel⟩ w_0 hc1 hc2 hc3 ?_
      refine lv_astore_n (lv' := [(2, .ref q9), (0, .ref (ad p0)), (1, .ref (ad p1))]) hx hb dL_undo_11 rfl hl (by decide) rfl (fun ls hl => ?_)
      refine lv_iconst (v := 1) hx hb dL_undo_12 (by decide) ?_
      obtain ⟨e1, e2⟩ := so2 hf
      subst e1
      subst e2
      exact W.iret (v := 1) hx hb hr (fun t ht hWm => ⟨⟨rfl, by unfold QB; rw [ht]; exact ⟨hW, trivial⟩⟩, hS.F ht⟩) hS.2.2 dL_undo_13 hlk
    · replace hf := ifF c9 hf
      cases hf
  · replace hf := smR ho hf
    refine W.widen (k := 1) (n := 6) (Nat.le_of_ble_eq_true rfl) (Nat.le_of_ble_eq_true rfl) ?_
    refine W.eq (g2 := F0 m 6 ls [.int r3, .int 0, .ref (ad p1)]) rfl ?_
    refine lv_i2l (v := r3.toInt64) hx hb dL_undo_6 rfl ?_
    replace hf := ckiE hf
    obtain ⟨h10, hf⟩ := hf
    refine x_last hC hW hS tp1 rfl rfl h10 dL_undo_7 (fun S11 H locs eS11 hW hS => ?_)
    replace hf := ltE hf S11 eS11
    refine lv_goto (tgt := 14) hx hb dL_undo_8 (by decide) ?_
    refine lv_iconst (v := 0) hx hb dL_undo_14 (by decide) ?_
    obtain ⟨e1, e2⟩ := so2 hf
    subst e1
    subst e2
    exact W.iret (v := 0) hx hb hr (fun t ht hWm => ⟨⟨rfl, by unfold QB; rw [ht]; exact ⟨hW, trivial⟩⟩, hS.F ht⟩) hS.2.2 dL_undo_15 hlk
set_option maxHeartbeats 4000000 in
set_option maxRecDepth 100000 in
theorem c_L_writeMailbox (l : Launch) (hfl : l.stackTraces = false) (g : GP) (ad : Nat → Nat) (n : Nat) (K : Nat → Nat) (sz F : Nat) (S0 : St) (p0 : Nat) (p1 : Int32) (p2 : Nat) (tp0 : p0 < n ∧ K p0 = 9) (tp2 : p2 < n ∧ K p2 = 13) (r9 : Int32) (S9 : St) (hf : f_L_writeMailbox F S0 p0 p1 p2 = some (r9, S9)) : Met l yL_writeMailbox wsL_writeMailbox { frames := 8, cells := 1, slots := 6, locals := 143 } (va_Pc [.ref (ad p0), .int p1, .ref (ad p2)] (PB g ad n K S0 sz)) (QR (some (.int r9)) (QB g ad n K S9 (dA ad n sz) (True)) (dA ad n sz)) 1 6 (dA ad n sz) := by
  refine x_ofWH (cc := cL_writeMailbox) (maxL := 4) (ret := (some .int)) (hh := [(0, 9, 12, 31)]) (by decide) rfl ?_
  intro p e s m args below meth c s₁ B hml hv
  obtain ⟨rfl, hsz, hW, hK, hGs⟩ := x_start hv
  subst hsz
  have hx := B.exec
  have hb := B.bytes
  have hr := B.returns
  have hts := atoms_spec (ws := wsL_writeMailbox) B.pre
  have hown : s.vm.findClass RL = some m.cls := findClass_of_methodNamed B.named
  have hlk := B.notSynchronized
  have htab := vx_table (x := yL_writeMailbox) B (hts (.codeWith yL_writeMailbox cL_writeMailbox 4 (some .int) [(0, 9, 12, 31)]) (by decide +kernel))
  have hC : Cx g p s m _ c cL_writeMailbox RL wsL_writeMailbox 4 := ⟨hx, hb, hml, hown, hts, hK⟩
  have hA : ∀ q : Nat, s.heap.size ≤ q → dA ad n s.heap.size q := fun q h => Or.inr h
  have hS : va_S (dA ad n s.heap.size) s.heap s.heap [] := va_S.rf
  have hl := lv_entry ([.ref (ad p0), .int p1, .ref (ad p2)]) (n := 4) (Nat.le_of_ble_eq_true rfl)
  rw [lg_entry_eq]
  generalize (lg_sl ([.ref (ad p0), .int p1, .ref (ad p2)]) ++ List.replicate (4 - (lg_sl ([.ref (ad p0), .int p1, .ref (ad p2)])).length) Slot.unset).toArray = ls at hl ⊢
  have hl : lv_has ls 4 [(0, .ref (ad p0)), (1, .int p1), (2, .ref (ad p2))] := hl
  have w_0 := hts (.classLink RL 31 "java/util/NoSuchElementException") (by decide +kernel)
  have hGE := hGs.2.2.2.2.2.2.1
  have hGM := hGs.2.2.2.2.2.2.2.1
  unfold f_L_writeMailbox at hf
  refine lv_aload_n hx hb dL_writeMailbox_0 rfl (lv_at hl 2 rfl) ?_
  refine lv_iconst (v := 0) hx hb dL_writeMailbox_1 (by decide) ?_
  refine lv_aload_n hx hb dL_writeMailbox_2 rfl (lv_at hl 0 rfl) ?_
  refine lv_iload_n hx hb dL_writeMailbox_3 rfl (lv_at hl 1 rfl) ?_
  replace hf := obE hf
  obtain ⟨z1, hz1, hf⟩ := hf
  obtain ⟨oz1, S2⟩ := z1
  replace hf := ltE hf S2 rfl
  refine x_tcallV (As := [.int p1]) (rest := [.int 0, .ref (ad p2)]) (S1 := S2) (o := oz1) (vr := (fun r => some (.int r))) (P := True) hC hl.1 hW hS hGs hA tp0 rfl (show vwCl[9]? = some (RX10, TX10, 11) ∧ 9 < 11 from ⟨rfl, by decide⟩) (c_X10_writeMailbox l hfl g ad n K s.heap.size F S0 p0 p1 tp0 oz1 S2 hz1) (cwV 1 hts gL_writeMailbox_X10_writeMailbox rfl rfl rfl (by decide +kernel) ⟨Nat.le_of_ble_eq_true rfl, Nat.le_of_ble_eq_true rfl⟩) rfl rfl (Nat.le_of_ble_eq_true rfl) dL_writeMailbox_4 ⟨Nat.le_of_ble_eq_true rfl, Nat.le_of_ble_eq_true rfl⟩ (fun x5 H locs ce q9 ho hW hS hc1 hc2 hc3 => ?_) (fun r3 H locs ho hP hW hS => ?_)
  · replace hf := smL ho hf
    by_cases c9 : x5 = 4
    · replace hf := ifT c9 hf
      subst c9
      refine x_caught (x := 4) (name := "java/util/NoSuchElementException") hC hGs [] ⟨0, 9, 12, 31⟩ [] (htab.trans rfl) (fun _ h => absurd h List.not_mem_nil) ⟨by decide, by decide, rfl, by decide +kernel⟩ w_0 hc1 hc2 hc3 ?_
      refine lv_astore_n (lv' := [(3, .ref q9), (0, .ref (ad p0)), (1, .int p1), (2, .ref (ad p2))]) hx hb dL_writeMailbox_12 rfl hl (by decide) rfl (fun ls hl => ?_)
      refine lv_iconst (v := 1) hx hb dL_writeMailbox_13 (by decide) ?_
      obtain ⟨e1, e2⟩ := so2 hf
      subst e1
      subst e2
      exact W.iret (v := 1) hx hb hr (fun t ht hWm => ⟨⟨rfl, by unfold QB; rw [ht]; exact ⟨hW, trivial⟩⟩, hS.F ht⟩) hS.2.2 dL_writeMailbox_14 hlk
    · replace hf := ifF c9 hf
      cases hf
  · replace hf := smR ho hf
    refine W.widen (k := 1) (n := 6) (Nat.le_of_ble_eq_true rfl) (Nat.le_of_ble_eq_true rfl) ?_
    refine W.eq (g2 := F0 m 7 ls [.int r3, .int 0, .ref (ad p2)]) rfl ?_
    refine lv_i2l (v := r3.toInt64) hx hb dL_writeMailbox_7 rfl ?_
    replace hf := ckiE hf
    obtain ⟨h10, hf⟩ := hf
    refine x_last hC hW hS tp2 rfl rfl h10 dL_writeMailbox_8 (fun S11 H locs eS11 hW hS => ?_)
    replace hf := ltE hf S11 eS11
    refine lv_goto (tgt := 15) hx hb dL_writeMailbox_9 (by decide) ?_
    refine lv_iconst (v := 0) hx hb dL_writeMailbox_15 (by decide) ?_
    obtain ⟨e1, e2⟩ := so2 hf
    subst e1
    subst e2
    exact W.iret (v := 0) hx hb hr (fun t ht hWm => ⟨⟨rfl, by unfold QB; rw [ht]; exact ⟨hW, trivial⟩⟩, hS.F ht⟩) hS.2.2 dL_writeMailbox_16 hlk
set_option maxHeartbeats 4000000 in
set_option maxRecDepth 100000 in
theorem c_L_outputByte (l : Launch) (hfl : l.stackTraces = false) (g : GP) (ad : Nat → Nat) (n : Nat) (K : Nat → Nat) (sz F : Nat) (S0 : St) (p0 : Nat) (p1 : Int32) (p2 : Nat) (tp0 : p0 < n ∧ K p0 = 9) (tp2 : p2 < n ∧ K p2 = 13) (r9 : Int32) (S9 : St) (hf : f_L_outputByte F S0 p0 p1 p2 = some (r9, S9)) : Met l yL_outputByte wsL_outputByte { frames := 7, cells := 1, slots := 6, locals := 121 } (va_Pc [.ref (ad p0), .int p1, .ref (ad p2)] (PB g ad n K S0 sz)) (QR (some (.int r9)) (QB g ad n K S9 (dA ad n sz) (True)) (dA ad n sz)) 1 6 (dA ad n sz) := by
  refine x_ofWH (cc := cL_outputByte) (maxL := 4) (ret := (some .int)) (hh := [(0, 9, 12, 84)]) (by decide) rfl ?_
  intro p e s m args below meth c s₁ B hml hv
  obtain ⟨rfl, hsz, hW, hK, hGs⟩ := x_start hv
  subst hsz
  have hx := B.exec
  have hb := B.bytes
  have hr := B.returns
  have hts := atoms_spec (ws := wsL_outputByte) B.pre
  have hown : s.vm.findClass RL = some m.cls := findClass_of_methodNamed B.named
  have hlk := B.notSynchronized
  have htab := vx_table (x := yL_outputByte) B (hts (.codeWith yL_outputByte cL_outputByte 4 (some .int) [(0, 9, 12, 84)]) (by decide +kernel))
  have hC : Cx g p s m _ c cL_outputByte RL wsL_outputByte 4 := ⟨hx, hb, hml, hown, hts, hK⟩
  have hA : ∀ q : Nat, s.heap.size ≤ q → dA ad n s.heap.size q := fun q h => Or.inr h
  have hS : va_S (dA ad n s.heap.size) s.heap s.heap [] := va_S.rf
  have hl := lv_entry ([.ref (ad p0), .int p1, .ref (ad p2)]) (n := 4) (Nat.le_of_ble_eq_true rfl)
  rw [lg_entry_eq]
  generalize (lg_sl ([.ref (ad p0), .int p1, .ref (ad p2)]) ++ List.replicate (4 - (lg_sl ([.ref (ad p0), .int p1, .ref (ad p2)])).length) Slot.unset).toArray = ls at hl ⊢
  have hl : lv_has ls 4 [(0, .ref (ad p0)), (1, .int p1), (2, .ref (ad p2))] := hl
  have w_0 := hts (.classLink RL 84 "java/lang/IndexOutOfBoundsException") (by decide +kernel)
  have hGE := hGs.2.2.2.2.2.2.1
  have hGM := hGs.2.2.2.2.2.2.2.1
  unfold f_L_outputByte at hf
  refine lv_aload_n hx hb dL_outputByte_0 rfl (lv_at hl 2 rfl) ?_
  refine lv_iconst (v := 0) hx hb dL_outputByte_1 (by decide) ?_
  refine lv_aload_n hx hb dL_outputByte_2 rfl (lv_at hl 0 rfl) ?_
  refine lv_iload_n hx hb dL_outputByte_3 rfl (lv_at hl 1 rfl) ?_
  replace hf := obE hf
  obtain ⟨z1, hz1, hf⟩ := hf
  obtain ⟨oz1, S2⟩ := z1
  replace hf := ltE hf S2 rfl
  refine x_tcallV (As := [.int p1]) (rest := [.int 0, .ref (ad p2)]) (S1 := S2) (o := oz1) (vr := (fun r => some (.int r))) (P := True) hC hl.1 hW hS hGs hA tp0 rfl (show vwCl[9]? = some (RX10, TX10, 11) ∧ 9 < 11 from ⟨rfl, by decide⟩) (c_X10_outputByte l hfl g ad n K s.heap.size F S0 p0 p1 tp0 oz1 S2 hz1) (cwV 1 hts gL_outputByte_X10_outputByte rfl rfl rfl (by decide +kernel) ⟨Nat.le_of_ble_eq_true rfl, Nat.le_of_ble_eq_true rfl⟩) rfl rfl (Nat.le_of_ble_eq_true rfl) dL_outputByte_4 ⟨Nat.le_of_ble_eq_true rfl, Nat.le_of_ble_eq_true rfl⟩ (fun x5 H locs ce q9 ho hW hS hc1 hc2 hc3 => ?_) (fun r3 H locs ho hP hW hS => ?_)
  · replace hf := smL ho hf
    by_cases c9 : x5 = 3
    · replace hf := ifT c9 hf
      subst c9
      refine x_caught (x := 3) (name := "java/lang/IndexOutOfBoundsException") hC hGs [] ⟨0, 9, 12, 84⟩ [] (htab.trans rfl) (fun _ h => absurd h List.not_mem_nil) ⟨by decide, by decide, rfl, by decide +kernel⟩ w_0 hc1 hc2 hc3 ?_
      refine lv_astore_n (lv' := [(3, .ref q9), (0, .ref (ad p0)), (1, .int p1), (2, .ref (ad p2))]) hx hb dL_outputByte_12 rfl hl (by decide) rfl (fun ls hl => ?_)
      refine lv_iconst (v := 1) hx hb dL_outputByte_13 (by decide) ?_
      obtain ⟨e1, e2⟩ := so2 hf
      subst e1
      subst e2
      exact W.iret (v := 1) hx hb hr (fun t ht hWm => ⟨⟨rfl, by unfold QB; rw [ht]; exact ⟨hW, trivial⟩⟩, hS.F ht⟩) hS.2.2 dL_outputByte_14 hlk
    · replace hf := ifF c9 hf
      cases hf
  · replace hf := smR ho hf
    refine W.widen (k := 1) (n := 6) (Nat.le_of_ble_eq_true rfl) (Nat.le_of_ble_eq_true rfl) ?_
    refine W.eq (g2 := F0 m 7 ls [.int r3, .int 0, .ref (ad p2)]) rfl ?_
    refine lv_i2l (v := r3.toInt64) hx hb dL_outputByte_7 rfl ?_
    replace hf := ckiE hf
    obtain ⟨h10, hf⟩ := hf
    refine x_last hC hW hS tp2 rfl rfl h10 dL_outputByte_8 (fun S11 H locs eS11 hW hS => ?_)
    replace hf := ltE hf S11 eS11
    refine lv_goto (tgt := 15) hx hb dL_outputByte_9 (by decide) ?_
    refine lv_iconst (v := 0) hx hb dL_outputByte_15 (by decide) ?_
    obtain ⟨e1, e2⟩ := so2 hf
    subst e1
    subst e2
    exact W.iret (v := 0) hx hb hr (fun t ht hWm => ⟨⟨rfl, by unfold QB; rw [ht]; exact ⟨hW, trivial⟩⟩, hS.F ht⟩) hS.2.2 dL_outputByte_16 hlk
