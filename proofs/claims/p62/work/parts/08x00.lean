set_option maxHeartbeats 4000000 in
set_option maxRecDepth 100000 in
theorem c_L_draw (l : Launch) (g : GP) (ad : Nat → Nat) (n : Nat) (K : Nat → Nat) (sz F : Nat) (S0 : St) (p0 : XS) (p1 : Int32) (p2 : Int32) (tp0 : p0 = gX g) (r9 : Int32) (S9 : St) (hf : f_L_draw F S0 p0 p1 p2 = some (r9, S9)) : Met l yL_draw wsL_draw { frames := 0, cells := 0, slots := 0, locals := 0 } (va_Pc [.ref (gen g 98), .int p1, .int p2] (PB g ad n K S0 sz)) (QR (some (.int r9)) (QB g ad n K S9 (dA ad n sz) (True)) (dA ad n sz)) 0 0 (dA ad n sz) := by
  refine Met.ofW (cc := cL_draw) (maxL := 3) (ret := (some .int)) (by decide) rfl ?_
  intro p e s m args below meth c s₁ B hml hv
  obtain ⟨rfl, hsz, hW, hK, hGs⟩ := x_start hv
  subst hsz
  have hx := B.exec
  have hb := B.bytes
  have hr := B.returns
  have hts := atoms_spec (ws := wsL_draw) B.pre
  have hown : s.vm.findClass RL = some m.cls := findClass_of_methodNamed B.named
  have hlk := B.notSynchronized
  have hC : Cx g p s m _ c cL_draw RL wsL_draw 3 := ⟨hx, hb, hml, hown, hts, hK⟩
  have hA : ∀ q : Nat, s.heap.size ≤ q → dA ad n s.heap.size q := fun q h => Or.inr h
  have hS : va_S (dA ad n s.heap.size) s.heap s.heap [] := va_S.rf
  have hl := lv_entry ([.ref (gen g 98), .int p1, .int p2]) (n := 3) (Nat.le_of_ble_eq_true rfl)
  rw [lg_entry_eq]
  generalize (lg_sl ([.ref (gen g 98), .int p1, .int p2]) ++ List.replicate (3 - (lg_sl ([.ref (gen g 98), .int p1, .int p2])).length) Slot.unset).toArray = ls at hl ⊢
  have hl : lv_has ls 3 [(0, .ref (gen g 98)), (1, .int p1), (2, .int p2)] := hl
  have w_0 := hts (.constant RL 7 (2147483647)) (by decide +kernel)
  have hGE := hGs.2.2.2.1
  have hGM := hGs.2.2.2.2
  unfold f_L_draw at hf
  refine lv_iload_n hx hb dL_draw_0 rfl (lv_at hl 1 rfl) ?_
  refine lv_aload_n hx hb dL_draw_1 rfl (lv_at hl 0 rfl) ?_
  refine x_xlen hC hGM hS tp0 dL_draw_2 ?_
  refine lv_icmp_ge (tgt := 12) hx hb dL_draw_3 (by decide) (fun c1 => ?_) (fun c1 => ?_)
  · replace hf := ifT c1 hf
    refine lv_iconst (v := 0) hx hb dL_draw_12 (by decide) ?_
    refine lv_ldc (v := 2147483647) hx hb hown w_0 dL_draw_13 ?_
    refine lv_iand hx hb dL_draw_15 ?_
    refine lv_iload_n hx hb dL_draw_16 rfl (lv_at hl 2 rfl) ?_
    replace hf := ckE hf
    obtain ⟨h2, hf⟩ := hf
    refine lv_irem hx hb dL_draw_17 h2 ?_
    obtain ⟨e1, e2⟩ := so2 hf
    subst e1
    subst e2
    exact W.iret (v := (0 &&& 2147483647) - (0 &&& 2147483647) / p2 * p2) hx hb hr (fun t ht hWm => ⟨⟨rfl, by unfold QB; rw [ht]; exact ⟨hW, trivial⟩⟩, hS.F ht⟩) hS.2.2 dL_draw_18 hlk
  · replace hf := ifF c1 hf
    refine lv_aload_n hx hb dL_draw_6 rfl (lv_at hl 0 rfl) ?_
    refine lv_iload_n hx hb dL_draw_7 rfl (lv_at hl 1 rfl) ?_
    replace hf := ckiE hf
    obtain ⟨h3, hf⟩ := hf
    refine x_xld hC hGM hS tp0 h3 dL_draw_8 ?_
    refine lv_goto (tgt := 13) hx hb dL_draw_9 (by decide) ?_
    refine lv_ldc (v := 2147483647) hx hb hown w_0 dL_draw_13 ?_
    refine lv_iand hx hb dL_draw_15 ?_
    refine lv_iload_n hx hb dL_draw_16 rfl (lv_at hl 2 rfl) ?_
    replace hf := ckE hf
    obtain ⟨h4, hf⟩ := hf
    refine lv_irem hx hb dL_draw_17 h4 ?_
    obtain ⟨e1, e2⟩ := so2 hf
    subst e1
    subst e2
    exact W.iret (v := ((p0.1 (Int32.toNatClampNeg p1)) &&& 2147483647) - ((p0.1 (Int32.toNatClampNeg p1)) &&& 2147483647) / p2 * p2) hx hb hr (fun t ht hWm => ⟨⟨rfl, by unfold QB; rw [ht]; exact ⟨hW, trivial⟩⟩, hS.F ht⟩) hS.2.2 dL_draw_18 hlk
set_option maxHeartbeats 4000000 in
set_option maxRecDepth 100000 in
theorem c_L_four (l : Launch) (g : GP) (ad : Nat → Nat) (n : Nat) (K : Nat → Nat) (sz F : Nat) (S0 : St) (p0 : Nat) (p1 : Int32) (tp0 : tS 18 n K p0) (r9 : Int32) (S9 : St) (hf : f_L_four F S0 p0 p1 = some (r9, S9)) : Met l yL_four wsL_four { frames := 4, cells := 0, slots := 0, locals := 85 } (va_Pc [.ref ((sad g ad p0)), .int p1] (PB g ad n K S0 sz)) (QR (some (.int r9)) (QB g ad n K S9 (dA ad n sz) (True)) (dA ad n sz)) 0 0 (dA ad n sz) := by
  refine Met.ofW (cc := cL_four) (maxL := 4) (ret := (some .int)) (by decide) rfl ?_
  intro p e s m args below meth c s₁ B hml hv
  obtain ⟨rfl, hsz, hW, hK, hGs⟩ := x_start hv
  subst hsz
  have hx := B.exec
  have hb := B.bytes
  have hr := B.returns
  have hts := atoms_spec (ws := wsL_four) B.pre
  have hown : s.vm.findClass RL = some m.cls := findClass_of_methodNamed B.named
  have hlk := B.notSynchronized
  have hC : Cx g p s m _ c cL_four RL wsL_four 4 := ⟨hx, hb, hml, hown, hts, hK⟩
  have hA : ∀ q : Nat, s.heap.size ≤ q → dA ad n s.heap.size q := fun q h => Or.inr h
  have hS : va_S (dA ad n s.heap.size) s.heap s.heap [] := va_S.rf
  have hl := lv_entry ([.ref ((sad g ad p0)), .int p1]) (n := 4) (Nat.le_of_ble_eq_true rfl)
  rw [lg_entry_eq]
  generalize (lg_sl ([.ref ((sad g ad p0)), .int p1]) ++ List.replicate (4 - (lg_sl ([.ref ((sad g ad p0)), .int p1])).length) Slot.unset).toArray = ls at hl ⊢
  have hl : lv_has ls 4 [(0, .ref ((sad g ad p0))), (1, .int p1)] := hl
  have hGE := hGs.2.2.2.1
  have hGM := hGs.2.2.2.2
  have L4 : ∀ (fu4 : Nat) (S0 : St) (v0 : Nat) (v1 : Int32) (v2 : Int32) (v3 : Int32) (tv0 : tS 18 n K v0) (H : Heap) (locs : List Loc) (ls : Array Slot), f_L_four_L4 F fu4 S0 v0 v1 v2 v3 = some (r9, S9) → Wb g ad n K S0 (dA ad n s.heap.size) H → va_S (dA ad n s.heap.size) s.heap H locs → lv_has ls 4 [(0, .ref ((sad g ad v0))), (1, .int v1), (2, .int v2), (3, .int v3)] → W p l e (headSpec wsL_four { frames := 4, cells := 0, slots := 0, locals := 85 }).room s m (List.toArray [.ref ((sad g ad p0)), .int p1]) below meth c H locs 0 0 (MQ below (QR (some (.int r9)) (QB g ad n K S9 (dA ad n s.heap.size) (True)) (dA ad n s.heap.size)) (List.toArray [.ref ((sad g ad p0)), .int p1]) s 0 0 (dA ad n s.heap.size)) (F0 m 4 ls []) := by
    intro fu4
    induction fu4 with
    | zero =>
      intro S0 v0 v1 v2 v3 tv0 H locs ls hf
      cases hf
    | succ fu4 ih4 =>
      have L34 : ∀ (S0 : St) (v0 : Nat) (v1 : Int32) (v3 : Int32) (s0 : Int32) (s1 : Int32) (tv0 : tS 18 n K v0) (H : Heap) (locs : List Loc) (ls : Array Slot), f_L_four_L34 F (fun a0 a1 a2 a3 a4 => f_L_four_L4 F fu4 a0 a1 a2 a3 a4) S0 v0 v1 v3 s0 s1 = some (r9, S9) → Wb g ad n K S0 (dA ad n s.heap.size) H → va_S (dA ad n s.heap.size) s.heap H locs → lv_has ls 4 [(0, .ref ((sad g ad v0))), (1, .int v1), (3, .int v3)] → W p l e (headSpec wsL_four { frames := 4, cells := 0, slots := 0, locals := 85 }).room s m (List.toArray [.ref ((sad g ad p0)), .int p1]) below meth c H locs 0 0 (MQ below (QR (some (.int r9)) (QB g ad n K S9 (dA ad n s.heap.size) (True)) (dA ad n s.heap.size)) (List.toArray [.ref ((sad g ad p0)), .int p1]) s 0 0 (dA ad n s.heap.size)) (F0 m 34 ls [.int s0, .int s1]) := by
        intro S0 v0 v1 v3 s0 s1 tv0 H locs ls hf hW hS hl
        unfold f_L_four_L34 at hf
        refine lv_ior hx hb dL_four_34 ?_
        refine lv_topi (fun x3 ex3 => ?_)
        replace hf := ltE hf x3 ex3
        refine lv_istore_n (lv' := [(2, .int x3), (0, .ref ((sad g ad v0))), (1, .int v1), (3, .int v3)]) hx hb dL_four_35 rfl hl (by decide) rfl (fun ls hl => ?_)
        obtain ⟨x4, ex4⟩ : ∃ z : Int32, z = v3 + 1 := ⟨_, rfl⟩
        replace hf := ltE hf x4 ex4
        refine lv_iinc (v := x4) (lv' := [(3, .int x4), (2, .int x3), (0, .ref ((sad g ad v0))), (1, .int v1)]) hx hb dL_four_36 hl (k := 3) rfl (by rw [ex4]; rfl) (by decide) rfl (fun ls hl => ?_)
        refine lv_goto (tgt := 4) hx hb dL_four_39 (by decide) ?_
        exact ih4 S0 v0 v1 x3 x4 tv0 _ _ _ hf hW hS (lv_sub hl [2, 3, 1, 0] rfl)
      intro S0 v0 v1 v2 v3 tv0 H locs ls hf hW hS hl
      unfold f_L_four_L4 at hf
      refine lv_iload_n hx hb dL_four_4 rfl (lv_at hl 3 rfl) ?_
      refine lv_iconst (v := 4) hx hb dL_four_5 (by decide) ?_
      refine lv_icmp_ge (tgt := 42) hx hb dL_four_6 (by decide) (fun c15 => ?_) (fun c15 => ?_)
      · replace hf := ifT c15 hf
        refine lv_iload_n hx hb dL_four_42 rfl (lv_at hl 2 rfl) ?_
        obtain ⟨e1, e2⟩ := so2 hf
        subst e1
        subst e2
        exact W.iret (v := v2) hx hb hr (fun t ht hWm => ⟨⟨rfl, by unfold QB; rw [ht]; exact ⟨hW, trivial⟩⟩, hS.F ht⟩) hS.2.2 dL_four_43 hlk
      · replace hf := ifF c15 hf
        refine lv_iload_n hx hb dL_four_9 rfl (lv_at hl 2 rfl) ?_
        refine lv_bipush (v := 8) hx hb dL_four_10 (by decide) ?_
        refine lv_ishl hx hb dL_four_12 ?_
        refine lv_iload_n hx hb dL_four_13 rfl (lv_at hl 1 rfl) ?_
        refine lv_iload_n hx hb dL_four_14 rfl (lv_at hl 3 rfl) ?_
        refine lv_iadd hx hb dL_four_15 ?_
        refine lv_aload_n hx hb dL_four_16 rfl (lv_at hl 0 rfl) ?_
        replace hf := obE hf
        obtain ⟨z16, hz16, hf⟩ := hf
        obtain ⟨r18, S17⟩ := z16
        replace hf := ltE (ltE hf r18 rfl) S17 rfl
        refine x_callVs (As := []) (rest := [.int (v1 + v3), .int (v2 <<< (8 &&& 31))]) (o := (some (.int r18))) (S1 := S17) hC hl.1 hW hS hGs hA tv0 rfl (c_J0_length_8abf5 l g ad n K H.size F S0 v0 tv0 r18 S17 hz16) (cwV 0 hts gL_four_J0_length_8abf5 rfl rfl rfl (by decide +kernel) ⟨Nat.le_of_ble_eq_true rfl, Nat.le_of_ble_eq_true rfl⟩) rfl rfl (Nat.le_of_ble_eq_true rfl) dL_four_17 ⟨Nat.le_of_ble_eq_true rfl, Nat.le_of_ble_eq_true rfl⟩ (fun H locs hPz16 hW hS => ?_)
        refine W.eq (g2 := F0 m 20 ls [.int r18, .int (v1 + v3), .int (v2 <<< (8 &&& 31))]) rfl ?_
        refine lv_icmp_ge (tgt := 33) hx hb dL_four_20 (by decide) (fun c20 => ?_) (fun c20 => ?_)
        · replace hf := ifT c20 hf
          refine lv_iconst (v := 0) hx hb dL_four_33 (by decide) ?_
          exact L34 S17 v0 v1 v3 0 (v2 <<< (8 &&& 31)) tv0 _ _ _ hf hW hS (lv_sub hl [0, 1, 3] rfl)
        · replace hf := ifF c20 hf
          refine lv_aload_n hx hb dL_four_23 rfl (lv_at hl 0 rfl) ?_
          refine lv_iload_n hx hb dL_four_24 rfl (lv_at hl 1 rfl) ?_
          refine lv_iload_n hx hb dL_four_25 rfl (lv_at hl 3 rfl) ?_
          refine lv_iadd hx hb dL_four_26 ?_
          replace hf := obE hf
          obtain ⟨z21, hz21, hf⟩ := hf
          obtain ⟨r23, S22⟩ := z21
          replace hf := ltE (ltE hf r23 rfl) S22 rfl
          refine x_callVs (As := [.int (v1 + v3)]) (rest := [.int (v2 <<< (8 &&& 31))]) (o := (some (.int r23))) (S1 := S22) hC hl.1 hW hS hGs hA tv0 rfl (c_J0_charAt_5068e l g ad n K H.size F S17 v0 (v1 + v3) tv0 r23 S22 hz21) (cwV 1 hts gL_four_J0_charAt_5068e rfl rfl rfl (by decide +kernel) ⟨Nat.le_of_ble_eq_true rfl, Nat.le_of_ble_eq_true rfl⟩) rfl rfl (Nat.le_of_ble_eq_true rfl) dL_four_27 ⟨Nat.le_of_ble_eq_true rfl, Nat.le_of_ble_eq_true rfl⟩ (fun H locs hPz21 hW hS => ?_)
          refine W.eq (g2 := F0 m 30 ls [.int r23, .int (v2 <<< (8 &&& 31))]) rfl ?_
          refine lv_goto (tgt := 34) hx hb dL_four_30 (by decide) ?_
          exact L34 S22 v0 v1 v3 r23 (v2 <<< (8 &&& 31)) tv0 _ _ _ hf hW hS (lv_sub hl [0, 1, 3] rfl)
  unfold f_L_four at hf
  refine lv_iconst (v := 0) hx hb dL_four_0 (by decide) ?_
  refine lv_istore_n (lv' := [(2, .int 0), (0, .ref ((sad g ad p0))), (1, .int p1)]) hx hb dL_four_1 rfl hl (by decide) rfl (fun ls hl => ?_)
  refine lv_iconst (v := 0) hx hb dL_four_2 (by decide) ?_
  refine lv_istore_n (lv' := [(3, .int 0), (2, .int 0), (0, .ref ((sad g ad p0))), (1, .int p1)]) hx hb dL_four_3 rfl hl (by decide) rfl (fun ls hl => ?_)
  exact L4 F S0 p0 p1 0 0 tp0 _ _ _ hf hW hS (lv_sub hl [2, 3, 1, 0] rfl)
set_option maxHeartbeats 4000000 in
set_option maxRecDepth 100000 in
theorem c_L_feed (l : Launch) (g : GP) (ad : Nat → Nat) (n : Nat) (K : Nat → Nat) (sz F : Nat) (S0 : St) (p0 : Nat) (p1 : Nat) (tp0 : p0 < n ∧ K p0 = 9) (tp1 : tS 18 n K p1) (S9 : St) (hf : f_L_feed F S0 p0 p1 = some S9) : Met l yL_feed wsL_feed { frames := 5, cells := 0, slots := 0, locals := 108 } (va_Pc [.ref (ad p0), .ref ((sad g ad p1))] (PB g ad n K S0 sz)) (QR none (QB g ad n K S9 (dA ad n sz) (True)) (dA ad n sz)) 0 0 (dA ad n sz) := by
  refine Met.ofW (cc := cL_feed) (maxL := 4) (ret := none) (by decide) rfl ?_
  intro p e s m args below meth c s₁ B hml hv
  obtain ⟨rfl, hsz, hW, hK, hGs⟩ := x_start hv
  subst hsz
  have hx := B.exec
  have hb := B.bytes
  have hr := B.returns
  have hts := atoms_spec (ws := wsL_feed) B.pre
  have hown : s.vm.findClass RL = some m.cls := findClass_of_methodNamed B.named
  have hlk := B.notSynchronized
  have hC : Cx g p s m _ c cL_feed RL wsL_feed 4 := ⟨hx, hb, hml, hown, hts, hK⟩
  have hA : ∀ q : Nat, s.heap.size ≤ q → dA ad n s.heap.size q := fun q h => Or.inr h
  have hS : va_S (dA ad n s.heap.size) s.heap s.heap [] := va_S.rf
  have hl := lv_entry ([.ref (ad p0), .ref ((sad g ad p1))]) (n := 4) (Nat.le_of_ble_eq_true rfl)
  rw [lg_entry_eq]
  generalize (lg_sl ([.ref (ad p0), .ref ((sad g ad p1))]) ++ List.replicate (4 - (lg_sl ([.ref (ad p0), .ref ((sad g ad p1))])).length) Slot.unset).toArray = ls at hl ⊢
  have hl : lv_has ls 4 [(0, .ref (ad p0)), (1, .ref ((sad g ad p1)))] := hl
  have w_0 := hts (.methodLink RL 30 Lib.Math.min.name) (by decide +kernel)
  have w_1 := hts (.static Lib.Math.min.name) (by decide +kernel)
  have w_2 := hts (.initialized "java/lang/Math") (by decide +kernel)
  have w_3 := hts (.code Lib.Math.min.name Lib.Math.min.code 2 (some .int)) (by decide +kernel)
  have hGE := hGs.2.2.2.1
  have hGM := hGs.2.2.2.2
  have L4 : ∀ (fu4 : Nat) (S0 : St) (v0 : Nat) (v1 : Nat) (v2 : Int32) (v3 : Int32) (tv0 : v0 < n ∧ K v0 = 9) (tv1 : tS 18 n K v1) (H : Heap) (locs : List Loc) (ls : Array Slot), f_L_feed_L4 F fu4 S0 v0 v1 v2 v3 = some S9 → Wb g ad n K S0 (dA ad n s.heap.size) H → va_S (dA ad n s.heap.size) s.heap H locs → lv_has ls 4 [(0, .ref (ad v0)), (1, .ref ((sad g ad v1))), (2, .int v2), (3, .int v3)] → W p l e (headSpec wsL_feed { frames := 5, cells := 0, slots := 0, locals := 108 }).room s m (List.toArray [.ref (ad p0), .ref ((sad g ad p1))]) below meth c H locs 0 0 (MQ below (QR none (QB g ad n K S9 (dA ad n s.heap.size) (True)) (dA ad n s.heap.size)) (List.toArray [.ref (ad p0), .ref ((sad g ad p1))]) s 0 0 (dA ad n s.heap.size)) (F0 m 4 ls []) := by
    intro fu4
    induction fu4 with
    | zero =>
      intro S0 v0 v1 v2 v3 tv0 tv1 H locs ls hf
      cases hf
    | succ fu4 ih4 =>
      have L16 : ∀ (S0 : St) (v0 : Nat) (v1 : Nat) (v3 : Int32) (tv0 : v0 < n ∧ K v0 = 9) (tv1 : tS 18 n K v1) (H : Heap) (locs : List Loc) (ls : Array Slot), f_L_feed_L16 F (fun a0 a1 a2 a3 a4 => f_L_feed_L4 F fu4 a0 a1 a2 a3 a4) S0 v0 v1 v3 = some S9 → Wb g ad n K S0 (dA ad n s.heap.size) H → va_S (dA ad n s.heap.size) s.heap H locs → lv_has ls 4 [(0, .ref (ad v0)), (1, .ref ((sad g ad v1))), (3, .int v3)] → W p l e (headSpec wsL_feed { frames := 5, cells := 0, slots := 0, locals := 108 }).room s m (List.toArray [.ref (ad p0), .ref ((sad g ad p1))]) below meth c H locs 0 0 (MQ below (QR none (QB g ad n K S9 (dA ad n s.heap.size) (True)) (dA ad n s.heap.size)) (List.toArray [.ref (ad p0), .ref ((sad g ad p1))]) s 0 0 (dA ad n s.heap.size)) (F0 m 16 ls []) := by
        intro S0 v0 v1 v3 tv0 tv1 H locs ls hf hW hS hl
        unfold f_L_feed_L16 at hf
        refine lv_aload_n hx hb dL_feed_16 rfl (lv_at hl 0 rfl) ?_
        refine lv_aload_n hx hb dL_feed_17 rfl (lv_at hl 1 rfl) ?_
        refine lv_iload_n hx hb dL_feed_18 rfl (lv_at hl 2 rfl) ?_
        replace hf := obE hf
        obtain ⟨z26, hz26, hf⟩ := hf
        obtain ⟨r28, S27⟩ := z26
        replace hf := ltE (ltE hf r28 rfl) S27 rfl
        refine x_callS (As := [.ref ((sad g ad v1)), .int v3]) (rest := [.ref (ad v0)]) (o := (some (.int r28))) (S1 := S27) hC hl.1 hW hS hGs hA (c_L_four l g ad n K H.size F S0 v1 v3 tv1 r28 S27 hz26) (va_cwS 2 hts gL_feed_L_four rfl rfl rfl (by decide +kernel) ⟨Nat.le_of_ble_eq_true rfl, Nat.le_of_ble_eq_true rfl⟩) rfl rfl (Nat.le_of_ble_eq_true rfl) dL_feed_19 ⟨Nat.le_of_ble_eq_true rfl, Nat.le_of_ble_eq_true rfl⟩ (fun H locs hPz26 hW hS => ?_)
        refine W.eq (g2 := F0 m 22 ls [.int r28, .ref (ad v0)]) rfl ?_
        refine lv_aload_n hx hb dL_feed_22 rfl (lv_at hl 1 rfl) ?_
        refine lv_iload_n hx hb dL_feed_23 rfl (lv_at hl 2 rfl) ?_
        refine lv_iconst (v := 4) hx hb dL_feed_24 (by decide) ?_
        refine lv_iadd hx hb dL_feed_25 ?_
        replace hf := obE hf
        obtain ⟨z30, hz30, hf⟩ := hf
        obtain ⟨r32, S31⟩ := z30
        replace hf := ltE (ltE hf r32 rfl) S31 rfl
        refine x_callS (As := [.ref ((sad g ad v1)), .int (v3 + 4)]) (rest := [.int r28, .ref (ad v0)]) (o := (some (.int r32))) (S1 := S31) hC hl.1 hW hS hGs hA (c_L_four l g ad n K H.size F S27 v1 (v3 + 4) tv1 r32 S31 hz30) (va_cwS 2 hts gL_feed_L_four rfl rfl rfl (by decide +kernel) ⟨Nat.le_of_ble_eq_true rfl, Nat.le_of_ble_eq_true rfl⟩) rfl rfl (Nat.le_of_ble_eq_true rfl) dL_feed_26 ⟨Nat.le_of_ble_eq_true rfl, Nat.le_of_ble_eq_true rfl⟩ (fun H locs hPz30 hW hS => ?_)
        refine W.eq (g2 := F0 m 29 ls [.int r32, .int r28, .ref (ad v0)]) rfl ?_
        refine lv_aload_n hx hb dL_feed_29 rfl (lv_at hl 1 rfl) ?_
        refine lv_iload_n hx hb dL_feed_30 rfl (lv_at hl 2 rfl) ?_
        refine lv_bipush (v := 8) hx hb dL_feed_31 (by decide) ?_
        refine lv_iadd hx hb dL_feed_33 ?_
        replace hf := obE hf
        obtain ⟨z34, hz34, hf⟩ := hf
        obtain ⟨r36, S35⟩ := z34
        replace hf := ltE (ltE hf r36 rfl) S35 rfl
        refine x_callS (As := [.ref ((sad g ad v1)), .int (v3 + 8)]) (rest := [.int r32, .int r28, .ref (ad v0)]) (o := (some (.int r36))) (S1 := S35) hC hl.1 hW hS hGs hA (c_L_four l g ad n K H.size F S31 v1 (v3 + 8) tv1 r36 S35 hz34) (va_cwS 2 hts gL_feed_L_four rfl rfl rfl (by decide +kernel) ⟨Nat.le_of_ble_eq_true rfl, Nat.le_of_ble_eq_true rfl⟩) rfl rfl (Nat.le_of_ble_eq_true rfl) dL_feed_34 ⟨Nat.le_of_ble_eq_true rfl, Nat.le_of_ble_eq_true rfl⟩ (fun H locs hPz34 hW hS => ?_)
        refine W.eq (g2 := F0 m 37 ls [.int r36, .int r32, .int r28, .ref (ad v0)]) rfl ?_
        refine lv_aload_n hx hb dL_feed_37 rfl (lv_at hl 1 rfl) ?_
        refine lv_iload_n hx hb dL_feed_38 rfl (lv_at hl 2 rfl) ?_
        refine lv_bipush (v := 12) hx hb dL_feed_39 (by decide) ?_
        refine lv_iadd hx hb dL_feed_41 ?_
        replace hf := obE hf
        obtain ⟨z38, hz38, hf⟩ := hf
        obtain ⟨r40, S39⟩ := z38
        replace hf := ltE (ltE hf r40 rfl) S39 rfl
        refine x_callS (As := [.ref ((sad g ad v1)), .int (v3 + 12)]) (rest := [.int r36, .int r32, .int r28, .ref (ad v0)]) (o := (some (.int r40))) (S1 := S39) hC hl.1 hW hS hGs hA (c_L_four l g ad n K H.size F S35 v1 (v3 + 12) tv1 r40 S39 hz38) (va_cwS 2 hts gL_feed_L_four rfl rfl rfl (by decide +kernel) ⟨Nat.le_of_ble_eq_true rfl, Nat.le_of_ble_eq_true rfl⟩) rfl rfl (Nat.le_of_ble_eq_true rfl) dL_feed_42 ⟨Nat.le_of_ble_eq_true rfl, Nat.le_of_ble_eq_true rfl⟩ (fun H locs hPz38 hW hS => ?_)
        refine W.eq (g2 := F0 m 45 ls [.int r40, .int r36, .int r32, .int r28, .ref (ad v0)]) rfl ?_
        refine lv_aload_n hx hb dL_feed_45 rfl (lv_at hl 1 rfl) ?_
        refine lv_iload_n hx hb dL_feed_46 rfl (lv_at hl 2 rfl) ?_
        refine lv_bipush (v := 16) hx hb dL_feed_47 (by decide) ?_
        refine lv_iadd hx hb dL_feed_49 ?_
        replace hf := obE hf
        obtain ⟨z42, hz42, hf⟩ := hf
        obtain ⟨r44, S43⟩ := z42
        replace hf := ltE (ltE hf r44 rfl) S43 rfl
        refine x_callS (As := [.ref ((sad g ad v1)), .int (v3 + 16)]) (rest := [.int r40, .int r36, .int r32, .int r28, .ref (ad v0)]) (o := (some (.int r44))) (S1 := S43) hC hl.1 hW hS hGs hA (c_L_four l g ad n K H.size F S39 v1 (v3 + 16) tv1 r44 S43 hz42) (va_cwS 2 hts gL_feed_L_four rfl rfl rfl (by decide +kernel) ⟨Nat.le_of_ble_eq_true rfl, Nat.le_of_ble_eq_true rfl⟩) rfl rfl (Nat.le_of_ble_eq_true rfl) dL_feed_50 ⟨Nat.le_of_ble_eq_true rfl, Nat.le_of_ble_eq_true rfl⟩ (fun H locs hPz42 hW hS => ?_)
        refine W.eq (g2 := F0 m 53 ls [.int r44, .int r40, .int r36, .int r32, .int r28, .ref (ad v0)]) rfl ?_
        replace hf := obE hf
        obtain ⟨z46, hz46, hf⟩ := hf
        obtain ⟨oz46, S47⟩ := z46
        replace hf := ltE hf S47 rfl
        cases oz46 with
        | inl x =>
          replace hf := smL rfl hf
          cases hf
        | inr r48 =>
          replace hf := smR rfl hf
          refine x_callV (As := [.int r28, .int r32, .int r36, .int r40, .int r44]) (rest := []) (o := (some (.int r48))) (S1 := S47) (P := True) hC hl.1 hW hS hGs hA tv0 rfl (show vwCl[9]? = some (RX10, TX10, 11) ∧ ob 9 from ⟨rfl, by decide⟩) (c_X10_append l g ad n K H.size F S43 v0 r28 r32 r36 r40 r44 tv0 r48 S47 hz46) (cwV 5 hts gL_feed_X10_append rfl rfl rfl (by decide +kernel) ⟨Nat.le_of_ble_eq_true rfl, Nat.le_of_ble_eq_true rfl⟩) rfl rfl (Nat.le_of_ble_eq_true rfl) dL_feed_53 ⟨Nat.le_of_ble_eq_true rfl, Nat.le_of_ble_eq_true rfl⟩ (fun H locs hPz46 hW hS => ?_)
          refine W.eq (g2 := F0 m 56 ls [.int r48]) rfl ?_
          refine lv_istore_n (lv' := [(2, .int r48), (0, .ref (ad v0)), (1, .ref ((sad g ad v1))), (3, .int v3)]) hx hb dL_feed_56 rfl hl (by decide) rfl (fun ls hl => ?_)
          obtain ⟨x50, ex50⟩ : ∃ z : Int32, z = v3 + 20 := ⟨_, rfl⟩
          replace hf := ltE hf x50 ex50
          refine lv_iinc (v := x50) (lv' := [(3, .int x50), (2, .int r48), (0, .ref (ad v0)), (1, .ref ((sad g ad v1)))]) hx hb dL_feed_57 hl (k := 3) rfl (by rw [ex50]; rfl) (by decide) rfl (fun ls hl => ?_)
          refine lv_goto (tgt := 4) hx hb dL_feed_60 (by decide) ?_
          exact ih4 S47 v0 v1 r48 x50 tv0 tv1 _ _ _ hf hW hS (lv_sub hl [2, 3, 1, 0] rfl)
      intro S0 v0 v1 v2 v3 tv0 tv1 H locs ls hf hW hS hl
      unfold f_L_feed_L4 at hf
      refine lv_iload_n hx hb dL_feed_4 rfl (lv_at hl 3 rfl) ?_
      refine lv_aload_n hx hb dL_feed_5 rfl (lv_at hl 1 rfl) ?_
      replace hf := obE hf
      obtain ⟨z65, hz65, hf⟩ := hf
      obtain ⟨r67, S66⟩ := z65
      replace hf := ltE (ltE hf r67 rfl) S66 rfl
      refine x_callVs (As := []) (rest := [.int v3]) (o := (some (.int r67))) (S1 := S66) hC hl.1 hW hS hGs hA tv1 rfl (c_J0_length_8abf5 l g ad n K H.size F S0 v1 tv1 r67 S66 hz65) (cwV 0 hts gL_feed_J0_length_8abf5 rfl rfl rfl (by decide +kernel) ⟨Nat.le_of_ble_eq_true rfl, Nat.le_of_ble_eq_true rfl⟩) rfl rfl (Nat.le_of_ble_eq_true rfl) dL_feed_6 ⟨Nat.le_of_ble_eq_true rfl, Nat.le_of_ble_eq_true rfl⟩ (fun H locs hPz65 hW hS => ?_)
      refine W.eq (g2 := F0 m 9 ls [.int r67, .int v3]) rfl ?_
      refine lv_icmp_lt (tgt := 16) hx hb dL_feed_9 (by decide) (fun c69 => ?_) (fun c69 => ?_)
      · replace hf := ifT c69 hf
        exact L16 S66 v0 v1 v3 tv0 tv1 _ _ _ hf hW hS (lv_sub hl [0, 1, 3] rfl)
      · replace hf := ifF c69 hf
        refine lv_iload_n hx hb dL_feed_12 rfl (lv_at hl 3 rfl) ?_
        refine lv_if_ne (tgt := 63) hx hb dL_feed_13 (by decide) (fun c70 => ?_) (fun c70 => ?_)
        · replace hf := ifT c70 hf
          refine lv_aload_n hx hb dL_feed_63 rfl (lv_at hl 0 rfl) ?_
          refine lv_iload_n hx hb dL_feed_64 rfl (lv_at hl 2 rfl) ?_
          refine lv_aload_n hx hb dL_feed_65 rfl (lv_at hl 1 rfl) ?_
          replace hf := obE hf
          obtain ⟨z71, hz71, hf⟩ := hf
          obtain ⟨r73, S72⟩ := z71
          replace hf := ltE (ltE hf r73 rfl) S72 rfl
          refine x_callVs (As := []) (rest := [.int v2, .ref (ad v0)]) (o := (some (.int r73))) (S1 := S72) hC hl.1 hW hS hGs hA tv1 rfl (c_J0_length_8abf5 l g ad n K H.size F S66 v1 tv1 r73 S72 hz71) (cwV 0 hts gL_feed_J0_length_8abf5 rfl rfl rfl (by decide +kernel) ⟨Nat.le_of_ble_eq_true rfl, Nat.le_of_ble_eq_true rfl⟩) rfl rfl (Nat.le_of_ble_eq_true rfl) dL_feed_66 ⟨Nat.le_of_ble_eq_true rfl, Nat.le_of_ble_eq_true rfl⟩ (fun H locs hPz71 hW hS => ?_)
          refine W.eq (g2 := F0 m 69 ls [.int r73, .int v2, .ref (ad v0)]) rfl ?_
          refine va_mmin hx hb (hml.trans hl.1.symm) hown w_0 w_1 w_2 w_3 (by exact Nat.le_of_ble_eq_true rfl) (by exact Nat.le_of_ble_eq_true rfl) (by first | exact Nat.zero_le _ | exact Nat.le_of_ble_eq_true rfl) (by first | exact Nat.zero_le _ | exact Nat.le_of_ble_eq_true rfl) dL_feed_69 ?_
          replace hf := obE hf
          obtain ⟨z75, hz75, hf⟩ := hf
          obtain ⟨oz75, S76⟩ := z75
          replace hf := ltE hf S76 rfl
          cases oz75 with
          | inl x =>
            replace hf := smL rfl hf
            cases hf
          | inr r77 =>
            replace hf := smR rfl hf
            refine x_callV (As := [.int (if r73 < v2 then r73 else v2)]) (rest := []) (o := none) (S1 := S76) (P := True) hC hl.1 hW hS hGs hA tv0 rfl (show vwCl[9]? = some (RX10, TX10, 11) ∧ ob 9 from ⟨rfl, by decide⟩) (c_X10_truncate l g ad n K H.size F S72 v0 (if r73 < v2 then r73 else v2) tv0 r77 S76 hz75) (cwV 1 hts gL_feed_X10_truncate rfl rfl rfl (by decide +kernel) ⟨Nat.le_of_ble_eq_true rfl, Nat.le_of_ble_eq_true rfl⟩) rfl rfl (Nat.le_of_ble_eq_true rfl) dL_feed_72 ⟨Nat.le_of_ble_eq_true rfl, Nat.le_of_ble_eq_true rfl⟩ (fun H locs hPz75 hW hS => ?_)
            refine W.eq (g2 := F0 m 75 ls []) rfl ?_
            have e1 := Option.some.inj hf
            subst e1
            exact W.vret hx hb hr (fun t ht hWm => ⟨⟨rfl, by unfold QB; rw [ht]; exact ⟨hW, trivial⟩⟩, hS.F ht⟩) hS.2.2 dL_feed_75 hlk
        · replace hf := ifF (fun q => q c70) hf
          exact L16 S66 v0 v1 v3 tv0 tv1 _ _ _ hf hW hS (lv_sub hl [0, 1, 3] rfl)
  unfold f_L_feed at hf
  refine lv_iconst (v := 0) hx hb dL_feed_0 (by decide) ?_
  refine lv_istore_n (lv' := [(2, .int 0), (0, .ref (ad p0)), (1, .ref ((sad g ad p1)))]) hx hb dL_feed_1 rfl hl (by decide) rfl (fun ls hl => ?_)
  refine lv_iconst (v := 0) hx hb dL_feed_2 (by decide) ?_
  refine lv_istore_n (lv' := [(3, .int 0), (2, .int 0), (0, .ref (ad p0)), (1, .ref ((sad g ad p1)))]) hx hb dL_feed_3 rfl hl (by decide) rfl (fun ls hl => ?_)
  exact L4 F S0 p0 p1 0 0 tp0 tp1 _ _ _ hf hW hS (lv_sub hl [2, 3, 1, 0] rfl)
set_option maxHeartbeats 4000000 in
set_option maxRecDepth 100000 in
theorem c_L_grace (l : Launch) (g : GP) (ad : Nat → Nat) (n : Nat) (K : Nat → Nat) (sz F : Nat) (S0 : St) (p0 : XS) (tp0 : p0 = gX g) (r9 : Int32) (S9 : St) (hf : f_L_grace F S0 p0 = some (r9, S9)) : Met l yL_grace wsL_grace { frames := 1, cells := 0, slots := 0, locals := 22 } (va_Pc [.ref (gen g 98)] (PB g ad n K S0 sz)) (QR (some (.int r9)) (QB g ad n K S9 (dA ad n sz) (True)) (dA ad n sz)) 0 0 (dA ad n sz) := by
  refine Met.ofW (cc := cL_grace) (maxL := 1) (ret := (some .int)) (by decide) rfl ?_
  intro p e s m args below meth c s₁ B hml hv
  obtain ⟨rfl, hsz, hW, hK, hGs⟩ := x_start hv
  subst hsz
  have hx := B.exec
  have hb := B.bytes
  have hr := B.returns
  have hts := atoms_spec (ws := wsL_grace) B.pre
  have hown : s.vm.findClass RL = some m.cls := findClass_of_methodNamed B.named
  have hlk := B.notSynchronized
  have hC : Cx g p s m _ c cL_grace RL wsL_grace 1 := ⟨hx, hb, hml, hown, hts, hK⟩
  have hA : ∀ q : Nat, s.heap.size ≤ q → dA ad n s.heap.size q := fun q h => Or.inr h
  have hS : va_S (dA ad n s.heap.size) s.heap s.heap [] := va_S.rf
  have hl := lv_entry ([.ref (gen g 98)]) (n := 1) (Nat.le_of_ble_eq_true rfl)
  rw [lg_entry_eq]
  generalize (lg_sl ([.ref (gen g 98)]) ++ List.replicate (1 - (lg_sl ([.ref (gen g 98)])).length) Slot.unset).toArray = ls at hl ⊢
  have hl : lv_has ls 1 [(0, .ref (gen g 98))] := hl
  have hGE := hGs.2.2.2.1
  have hGM := hGs.2.2.2.2
  unfold f_L_grace at hf
  refine lv_aload_n hx hb dL_grace_0 rfl (lv_at hl 0 rfl) ?_
  refine lv_iconst (v := 0) hx hb dL_grace_1 (by decide) ?_
  refine lv_bipush (v := 6) hx hb dL_grace_2 (by decide) ?_
  replace hf := obE hf
  obtain ⟨z1, hz1, hf⟩ := hf
  obtain ⟨r3, S2⟩ := z1
  replace hf := ltE (ltE hf r3 rfl) S2 rfl
  refine x_callS (As := [.ref (gen g 98), .int 0, .int 6]) (rest := []) (o := (some (.int r3))) (S1 := S2) hC hl.1 hW hS hGs hA (c_L_draw l g ad n K s.heap.size F S0 p0 ((0 : Int32)) ((6 : Int32)) tp0 r3 S2 hz1) (va_cwS 3 hts gL_grace_L_draw rfl rfl rfl (by decide +kernel) ⟨Nat.le_of_ble_eq_true rfl, Nat.le_of_ble_eq_true rfl⟩) rfl rfl (Nat.le_of_ble_eq_true rfl) dL_grace_4 ⟨Nat.le_of_ble_eq_true rfl, Nat.le_of_ble_eq_true rfl⟩ (fun H locs hPz1 hW hS => ?_)
  refine W.eq (g2 := F0 m 7 ls [.int r3]) rfl ?_
  obtain ⟨e1, e2⟩ := so2 hf
  subst e1
  subst e2
  exact W.iret (v := r3) hx hb hr (fun t ht hWm => ⟨⟨rfl, by unfold QB; rw [ht]; exact ⟨hW, trivial⟩⟩, hS.F ht⟩) hS.2.2 dL_grace_7 hlk
set_option maxHeartbeats 4000000 in
set_option maxRecDepth 100000 in
theorem c_L_interval (l : Launch) (g : GP) (ad : Nat → Nat) (n : Nat) (K : Nat → Nat) (sz F : Nat) (S0 : St) (p0 : XS) (tp0 : p0 = gX g) (r9 : Int32) (S9 : St) (hf : f_L_interval F S0 p0 = some (r9, S9)) : Met l yL_interval wsL_interval { frames := 1, cells := 0, slots := 0, locals := 22 } (va_Pc [.ref (gen g 98)] (PB g ad n K S0 sz)) (QR (some (.int r9)) (QB g ad n K S9 (dA ad n sz) (True)) (dA ad n sz)) 0 0 (dA ad n sz) := by
  refine Met.ofW (cc := cL_interval) (maxL := 1) (ret := (some .int)) (by decide) rfl ?_
  intro p e s m args below meth c s₁ B hml hv
  obtain ⟨rfl, hsz, hW, hK, hGs⟩ := x_start hv
  subst hsz
  have hx := B.exec
  have hb := B.bytes
  have hr := B.returns
  have hts := atoms_spec (ws := wsL_interval) B.pre
  have hown : s.vm.findClass RL = some m.cls := findClass_of_methodNamed B.named
  have hlk := B.notSynchronized
  have hC : Cx g p s m _ c cL_interval RL wsL_interval 1 := ⟨hx, hb, hml, hown, hts, hK⟩
  have hA : ∀ q : Nat, s.heap.size ≤ q → dA ad n s.heap.size q := fun q h => Or.inr h
  have hS : va_S (dA ad n s.heap.size) s.heap s.heap [] := va_S.rf
  have hl := lv_entry ([.ref (gen g 98)]) (n := 1) (Nat.le_of_ble_eq_true rfl)
  rw [lg_entry_eq]
  generalize (lg_sl ([.ref (gen g 98)]) ++ List.replicate (1 - (lg_sl ([.ref (gen g 98)])).length) Slot.unset).toArray = ls at hl ⊢
  have hl : lv_has ls 1 [(0, .ref (gen g 98))] := hl
  have hGE := hGs.2.2.2.1
  have hGM := hGs.2.2.2.2
  unfold f_L_interval at hf
  refine lv_iconst (v := 1) hx hb dL_interval_0 (by decide) ?_
  refine lv_aload_n hx hb dL_interval_1 rfl (lv_at hl 0 rfl) ?_
  refine lv_iconst (v := 1) hx hb dL_interval_2 (by decide) ?_
  refine lv_iconst (v := 5) hx hb dL_interval_3 (by decide) ?_
  replace hf := obE hf
  obtain ⟨z1, hz1, hf⟩ := hf
  obtain ⟨r3, S2⟩ := z1
  replace hf := ltE (ltE hf r3 rfl) S2 rfl
  refine x_callS (As := [.ref (gen g 98), .int 1, .int 5]) (rest := [.int 1]) (o := (some (.int r3))) (S1 := S2) hC hl.1 hW hS hGs hA (c_L_draw l g ad n K s.heap.size F S0 p0 ((1 : Int32)) ((5 : Int32)) tp0 r3 S2 hz1) (va_cwS 3 hts gL_interval_L_draw rfl rfl rfl (by decide +kernel) ⟨Nat.le_of_ble_eq_true rfl, Nat.le_of_ble_eq_true rfl⟩) rfl rfl (Nat.le_of_ble_eq_true rfl) dL_interval_4 ⟨Nat.le_of_ble_eq_true rfl, Nat.le_of_ble_eq_true rfl⟩ (fun H locs hPz1 hW hS => ?_)
  refine W.eq (g2 := F0 m 7 ls [.int r3, .int 1]) rfl ?_
  refine lv_iadd hx hb dL_interval_7 ?_
  obtain ⟨e1, e2⟩ := so2 hf
  subst e1
  subst e2
  exact W.iret (v := 1 + r3) hx hb hr (fun t ht hWm => ⟨⟨rfl, by unfold QB; rw [ht]; exact ⟨hW, trivial⟩⟩, hS.F ht⟩) hS.2.2 dL_interval_8 hlk
set_option maxHeartbeats 4000000 in
set_option maxRecDepth 100000 in
theorem c_L_classes (l : Launch) (g : GP) (ad : Nat → Nat) (n : Nat) (K : Nat → Nat) (sz F : Nat) (S0 : St) (p0 : XS) (tp0 : p0 = gX g) (r9 : Int32) (S9 : St) (hf : f_L_classes F S0 p0 = some (r9, S9)) : Met l yL_classes wsL_classes { frames := 1, cells := 0, slots := 0, locals := 22 } (va_Pc [.ref (gen g 98)] (PB g ad n K S0 sz)) (QR (some (.int r9)) (QB g ad n K S9 (dA ad n sz) (True)) (dA ad n sz)) 0 0 (dA ad n sz) := by
  refine Met.ofW (cc := cL_classes) (maxL := 1) (ret := (some .int)) (by decide) rfl ?_
  intro p e s m args below meth c s₁ B hml hv
  obtain ⟨rfl, hsz, hW, hK, hGs⟩ := x_start hv
  subst hsz
  have hx := B.exec
  have hb := B.bytes
  have hr := B.returns
  have hts := atoms_spec (ws := wsL_classes) B.pre
  have hown : s.vm.findClass RL = some m.cls := findClass_of_methodNamed B.named
  have hlk := B.notSynchronized
  have hC : Cx g p s m _ c cL_classes RL wsL_classes 1 := ⟨hx, hb, hml, hown, hts, hK⟩
  have hA : ∀ q : Nat, s.heap.size ≤ q → dA ad n s.heap.size q := fun q h => Or.inr h
  have hS : va_S (dA ad n s.heap.size) s.heap s.heap [] := va_S.rf
  have hl := lv_entry ([.ref (gen g 98)]) (n := 1) (Nat.le_of_ble_eq_true rfl)
  rw [lg_entry_eq]
  generalize (lg_sl ([.ref (gen g 98)]) ++ List.replicate (1 - (lg_sl ([.ref (gen g 98)])).length) Slot.unset).toArray = ls at hl ⊢
  have hl : lv_has ls 1 [(0, .ref (gen g 98))] := hl
  have hGE := hGs.2.2.2.1
  have hGM := hGs.2.2.2.2
  unfold f_L_classes at hf
  refine lv_iconst (v := 1) hx hb dL_classes_0 (by decide) ?_
  refine lv_aload_n hx hb dL_classes_1 rfl (lv_at hl 0 rfl) ?_
  refine lv_iconst (v := 2) hx hb dL_classes_2 (by decide) ?_
  refine lv_iconst (v := 4) hx hb dL_classes_3 (by decide) ?_
  replace hf := obE hf
  obtain ⟨z1, hz1, hf⟩ := hf
  obtain ⟨r3, S2⟩ := z1
  replace hf := ltE (ltE hf r3 rfl) S2 rfl
  refine x_callS (As := [.ref (gen g 98), .int 2, .int 4]) (rest := [.int 1]) (o := (some (.int r3))) (S1 := S2) hC hl.1 hW hS hGs hA (c_L_draw l g ad n K s.heap.size F S0 p0 ((2 : Int32)) ((4 : Int32)) tp0 r3 S2 hz1) (va_cwS 3 hts gL_classes_L_draw rfl rfl rfl (by decide +kernel) ⟨Nat.le_of_ble_eq_true rfl, Nat.le_of_ble_eq_true rfl⟩) rfl rfl (Nat.le_of_ble_eq_true rfl) dL_classes_4 ⟨Nat.le_of_ble_eq_true rfl, Nat.le_of_ble_eq_true rfl⟩ (fun H locs hPz1 hW hS => ?_)
  refine W.eq (g2 := F0 m 7 ls [.int r3, .int 1]) rfl ?_
  refine lv_iadd hx hb dL_classes_7 ?_
  obtain ⟨e1, e2⟩ := so2 hf
  subst e1
  subst e2
  exact W.iret (v := 1 + r3) hx hb hr (fun t ht hWm => ⟨⟨rfl, by unfold QB; rw [ht]; exact ⟨hW, trivial⟩⟩, hS.F ht⟩) hS.2.2 dL_classes_8 hlk
set_option maxHeartbeats 4000000 in
set_option maxRecDepth 100000 in
theorem c_L_users (l : Launch) (g : GP) (ad : Nat → Nat) (n : Nat) (K : Nat → Nat) (sz F : Nat) (S0 : St) (p0 : XS) (tp0 : p0 = gX g) (r9 : Int32) (S9 : St) (hf : f_L_users F S0 p0 = some (r9, S9)) : Met l yL_users wsL_users { frames := 1, cells := 0, slots := 0, locals := 22 } (va_Pc [.ref (gen g 98)] (PB g ad n K S0 sz)) (QR (some (.int r9)) (QB g ad n K S9 (dA ad n sz) (True)) (dA ad n sz)) 0 0 (dA ad n sz) := by
  refine Met.ofW (cc := cL_users) (maxL := 1) (ret := (some .int)) (by decide) rfl ?_
  intro p e s m args below meth c s₁ B hml hv
  obtain ⟨rfl, hsz, hW, hK, hGs⟩ := x_start hv
  subst hsz
  have hx := B.exec
  have hb := B.bytes
  have hr := B.returns
  have hts := atoms_spec (ws := wsL_users) B.pre
  have hown : s.vm.findClass RL = some m.cls := findClass_of_methodNamed B.named
  have hlk := B.notSynchronized
  have hC : Cx g p s m _ c cL_users RL wsL_users 1 := ⟨hx, hb, hml, hown, hts, hK⟩
  have hA : ∀ q : Nat, s.heap.size ≤ q → dA ad n s.heap.size q := fun q h => Or.inr h
  have hS : va_S (dA ad n s.heap.size) s.heap s.heap [] := va_S.rf
  have hl := lv_entry ([.ref (gen g 98)]) (n := 1) (Nat.le_of_ble_eq_true rfl)
  rw [lg_entry_eq]
  generalize (lg_sl ([.ref (gen g 98)]) ++ List.replicate (1 - (lg_sl ([.ref (gen g 98)])).length) Slot.unset).toArray = ls at hl ⊢
  have hl : lv_has ls 1 [(0, .ref (gen g 98))] := hl
  have hGE := hGs.2.2.2.1
  have hGM := hGs.2.2.2.2
  unfold f_L_users at hf
  refine lv_iconst (v := 1) hx hb dL_users_0 (by decide) ?_
  refine lv_aload_n hx hb dL_users_1 rfl (lv_at hl 0 rfl) ?_
  refine lv_iconst (v := 3) hx hb dL_users_2 (by decide) ?_
  refine lv_iconst (v := 3) hx hb dL_users_3 (by decide) ?_
  replace hf := obE hf
  obtain ⟨z1, hz1, hf⟩ := hf
  obtain ⟨r3, S2⟩ := z1
  replace hf := ltE (ltE hf r3 rfl) S2 rfl
  refine x_callS (As := [.ref (gen g 98), .int 3, .int 3]) (rest := [.int 1]) (o := (some (.int r3))) (S1 := S2) hC hl.1 hW hS hGs hA (c_L_draw l g ad n K s.heap.size F S0 p0 ((3 : Int32)) ((3 : Int32)) tp0 r3 S2 hz1) (va_cwS 3 hts gL_users_L_draw rfl rfl rfl (by decide +kernel) ⟨Nat.le_of_ble_eq_true rfl, Nat.le_of_ble_eq_true rfl⟩) rfl rfl (Nat.le_of_ble_eq_true rfl) dL_users_4 ⟨Nat.le_of_ble_eq_true rfl, Nat.le_of_ble_eq_true rfl⟩ (fun H locs hPz1 hW hS => ?_)
  refine W.eq (g2 := F0 m 7 ls [.int r3, .int 1]) rfl ?_
  refine lv_iadd hx hb dL_users_7 ?_
  obtain ⟨e1, e2⟩ := so2 hf
  subst e1
  subst e2
  exact W.iret (v := 1 + r3) hx hb hr (fun t ht hWm => ⟨⟨rfl, by unfold QB; rw [ht]; exact ⟨hW, trivial⟩⟩, hS.F ht⟩) hS.2.2 dL_users_8 hlk
set_option maxHeartbeats 4000000 in
set_option maxRecDepth 100000 in
theorem c_L_holds (l : Launch) (g : GP) (ad : Nat → Nat) (n : Nat) (K : Nat → Nat) (sz F : Nat) (S0 : St) (p0 : XS) (tp0 : p0 = gX g) (r9 : Int32) (S9 : St) (hf : f_L_holds F S0 p0 = some (r9, S9)) : Met l yL_holds wsL_holds { frames := 1, cells := 0, slots := 0, locals := 22 } (va_Pc [.ref (gen g 98)] (PB g ad n K S0 sz)) (QR (some (.int r9)) (QB g ad n K S9 (dA ad n sz) (True)) (dA ad n sz)) 0 0 (dA ad n sz) := by
  refine Met.ofW (cc := cL_holds) (maxL := 1) (ret := (some .int)) (by decide) rfl ?_
  intro p e s m args below meth c s₁ B hml hv
  obtain ⟨rfl, hsz, hW, hK, hGs⟩ := x_start hv
  subst hsz
  have hx := B.exec
  have hb := B.bytes
  have hr := B.returns
  have hts := atoms_spec (ws := wsL_holds) B.pre
  have hown : s.vm.findClass RL = some m.cls := findClass_of_methodNamed B.named
  have hlk := B.notSynchronized
  have hC : Cx g p s m _ c cL_holds RL wsL_holds 1 := ⟨hx, hb, hml, hown, hts, hK⟩
  have hA : ∀ q : Nat, s.heap.size ≤ q → dA ad n s.heap.size q := fun q h => Or.inr h
  have hS : va_S (dA ad n s.heap.size) s.heap s.heap [] := va_S.rf
  have hl := lv_entry ([.ref (gen g 98)]) (n := 1) (Nat.le_of_ble_eq_true rfl)
  rw [lg_entry_eq]
  generalize (lg_sl ([.ref (gen g 98)]) ++ List.replicate (1 - (lg_sl ([.ref (gen g 98)])).length) Slot.unset).toArray = ls at hl ⊢
  have hl : lv_has ls 1 [(0, .ref (gen g 98))] := hl
  have hGE := hGs.2.2.2.1
  have hGM := hGs.2.2.2.2
  unfold f_L_holds at hf
  refine lv_aload_n hx hb dL_holds_0 rfl (lv_at hl 0 rfl) ?_
  refine lv_iconst (v := 4) hx hb dL_holds_1 (by decide) ?_
  refine lv_iconst (v := 3) hx hb dL_holds_2 (by decide) ?_
  replace hf := obE hf
  obtain ⟨z1, hz1, hf⟩ := hf
  obtain ⟨r3, S2⟩ := z1
  replace hf := ltE (ltE hf r3 rfl) S2 rfl
  refine x_callS (As := [.ref (gen g 98), .int 4, .int 3]) (rest := []) (o := (some (.int r3))) (S1 := S2) hC hl.1 hW hS hGs hA (c_L_draw l g ad n K s.heap.size F S0 p0 ((4 : Int32)) ((3 : Int32)) tp0 r3 S2 hz1) (va_cwS 3 hts gL_holds_L_draw rfl rfl rfl (by decide +kernel) ⟨Nat.le_of_ble_eq_true rfl, Nat.le_of_ble_eq_true rfl⟩) rfl rfl (Nat.le_of_ble_eq_true rfl) dL_holds_3 ⟨Nat.le_of_ble_eq_true rfl, Nat.le_of_ble_eq_true rfl⟩ (fun H locs hPz1 hW hS => ?_)
  refine W.eq (g2 := F0 m 6 ls [.int r3]) rfl ?_
  obtain ⟨e1, e2⟩ := so2 hf
  subst e1
  subst e2
  exact W.iret (v := r3) hx hb hr (fun t ht hWm => ⟨⟨rfl, by unfold QB; rw [ht]; exact ⟨hW, trivial⟩⟩, hS.F ht⟩) hS.2.2 dL_holds_6 hlk
set_option maxHeartbeats 4000000 in
set_option maxRecDepth 100000 in
theorem c_L_days (l : Launch) (g : GP) (ad : Nat → Nat) (n : Nat) (K : Nat → Nat) (sz F : Nat) (S0 : St) (p0 : XS) (p1 : Int32) (tp0 : p0 = gX g) (r9 : Int32) (S9 : St) (hf : f_L_days F S0 p0 p1 = some (r9, S9)) : Met l yL_days wsL_days { frames := 1, cells := 0, slots := 0, locals := 22 } (va_Pc [.ref (gen g 98), .int p1] (PB g ad n K S0 sz)) (QR (some (.int r9)) (QB g ad n K S9 (dA ad n sz) (True)) (dA ad n sz)) 0 0 (dA ad n sz) := by
  refine Met.ofW (cc := cL_days) (maxL := 2) (ret := (some .int)) (by decide) rfl ?_
  intro p e s m args below meth c s₁ B hml hv
  obtain ⟨rfl, hsz, hW, hK, hGs⟩ := x_start hv
  subst hsz
  have hx := B.exec
  have hb := B.bytes
  have hr := B.returns
  have hts := atoms_spec (ws := wsL_days) B.pre
  have hown : s.vm.findClass RL = some m.cls := findClass_of_methodNamed B.named
  have hlk := B.notSynchronized
  have hC : Cx g p s m _ c cL_days RL wsL_days 2 := ⟨hx, hb, hml, hown, hts, hK⟩
  have hA : ∀ q : Nat, s.heap.size ≤ q → dA ad n s.heap.size q := fun q h => Or.inr h
  have hS : va_S (dA ad n s.heap.size) s.heap s.heap [] := va_S.rf
  have hl := lv_entry ([.ref (gen g 98), .int p1]) (n := 2) (Nat.le_of_ble_eq_true rfl)
  rw [lg_entry_eq]
  generalize (lg_sl ([.ref (gen g 98), .int p1]) ++ List.replicate (2 - (lg_sl ([.ref (gen g 98), .int p1])).length) Slot.unset).toArray = ls at hl ⊢
  have hl : lv_has ls 2 [(0, .ref (gen g 98)), (1, .int p1)] := hl
  have hGE := hGs.2.2.2.1
  have hGM := hGs.2.2.2.2
  unfold f_L_days at hf
  refine lv_aload_n hx hb dL_days_0 rfl (lv_at hl 0 rfl) ?_
  refine lv_bipush (v := 10) hx hb dL_days_1 (by decide) ?_
  refine lv_iconst (v := 4) hx hb dL_days_3 (by decide) ?_
  refine lv_iload_n hx hb dL_days_4 rfl (lv_at hl 1 rfl) ?_
  refine lv_imul hx hb dL_days_5 ?_
  refine lv_iadd hx hb dL_days_6 ?_
  refine lv_bipush (v := 6) hx hb dL_days_7 (by decide) ?_
  replace hf := obE hf
  obtain ⟨z1, hz1, hf⟩ := hf
  obtain ⟨r3, S2⟩ := z1
  replace hf := ltE (ltE hf r3 rfl) S2 rfl
  refine x_callS (As := [.ref (gen g 98), .int (10 + (4 * p1)), .int 6]) (rest := []) (o := (some (.int r3))) (S1 := S2) hC hl.1 hW hS hGs hA (c_L_draw l g ad n K s.heap.size F S0 p0 (10 + (4 * p1)) ((6 : Int32)) tp0 r3 S2 hz1) (va_cwS 3 hts gL_days_L_draw rfl rfl rfl (by decide +kernel) ⟨Nat.le_of_ble_eq_true rfl, Nat.le_of_ble_eq_true rfl⟩) rfl rfl (Nat.le_of_ble_eq_true rfl) dL_days_9 ⟨Nat.le_of_ble_eq_true rfl, Nat.le_of_ble_eq_true rfl⟩ (fun H locs hPz1 hW hS => ?_)
  refine W.eq (g2 := F0 m 12 ls [.int r3]) rfl ?_
  refine lv_if_ne (tgt := 19) hx hb dL_days_12 (by decide) (fun c5 => ?_) (fun c5 => ?_)
  · replace hf := ifT c5 hf
    refine lv_iconst (v := 1) hx hb dL_days_19 (by decide) ?_
    refine lv_aload_n hx hb dL_days_20 rfl (lv_at hl 0 rfl) ?_
    refine lv_bipush (v := 11) hx hb dL_days_21 (by decide) ?_
    refine lv_iconst (v := 4) hx hb dL_days_23 (by decide) ?_
    refine lv_iload_n hx hb dL_days_24 rfl (lv_at hl 1 rfl) ?_
    refine lv_imul hx hb dL_days_25 ?_
    refine lv_iadd hx hb dL_days_26 ?_
    refine lv_bipush (v := 12) hx hb dL_days_27 (by decide) ?_
    replace hf := obE hf
    obtain ⟨z6, hz6, hf⟩ := hf
    obtain ⟨r8, S7⟩ := z6
    replace hf := ltE (ltE hf r8 rfl) S7 rfl
    refine x_callS (As := [.ref (gen g 98), .int (11 + (4 * p1)), .int 12]) (rest := [.int 1]) (o := (some (.int r8))) (S1 := S7) hC hl.1 hW hS hGs hA (c_L_draw l g ad n K H.size F S2 p0 (11 + (4 * p1)) ((12 : Int32)) tp0 r8 S7 hz6) (va_cwS 3 hts gL_days_L_draw rfl rfl rfl (by decide +kernel) ⟨Nat.le_of_ble_eq_true rfl, Nat.le_of_ble_eq_true rfl⟩) rfl rfl (Nat.le_of_ble_eq_true rfl) dL_days_29 ⟨Nat.le_of_ble_eq_true rfl, Nat.le_of_ble_eq_true rfl⟩ (fun H locs hPz6 hW hS => ?_)
    refine W.eq (g2 := F0 m 32 ls [.int r8, .int 1]) rfl ?_
    refine lv_iadd hx hb dL_days_32 ?_
    obtain ⟨e1, e2⟩ := so2 hf
    subst e1
    subst e2
    exact W.iret (v := 1 + r8) hx hb hr (fun t ht hWm => ⟨⟨rfl, by unfold QB; rw [ht]; exact ⟨hW, trivial⟩⟩, hS.F ht⟩) hS.2.2 dL_days_33 hlk
  · replace hf := ifF (fun q => q c5) hf
    refine lv_iconst (v := -1) hx hb dL_days_15 (by decide) ?_
    refine lv_goto (tgt := 33) hx hb dL_days_16 (by decide) ?_
    obtain ⟨e1, e2⟩ := so2 hf
    subst e1
    subst e2
    exact W.iret (v := (-1)) hx hb hr (fun t ht hWm => ⟨⟨rfl, by unfold QB; rw [ht]; exact ⟨hW, trivial⟩⟩, hS.F ht⟩) hS.2.2 dL_days_33 hlk
set_option maxHeartbeats 4000000 in
set_option maxRecDepth 100000 in
theorem c_L_keep (l : Launch) (g : GP) (ad : Nat → Nat) (n : Nat) (K : Nat → Nat) (sz F : Nat) (S0 : St) (p0 : XS) (p1 : Int32) (tp0 : p0 = gX g) (r9 : Int32) (S9 : St) (hf : f_L_keep F S0 p0 p1 = some (r9, S9)) : Met l yL_keep wsL_keep { frames := 1, cells := 0, slots := 0, locals := 22 } (va_Pc [.ref (gen g 98), .int p1] (PB g ad n K S0 sz)) (QR (some (.int r9)) (QB g ad n K S9 (dA ad n sz) (True)) (dA ad n sz)) 0 0 (dA ad n sz) := by
  refine Met.ofW (cc := cL_keep) (maxL := 2) (ret := (some .int)) (by decide) rfl ?_
  intro p e s m args below meth c s₁ B hml hv
  obtain ⟨rfl, hsz, hW, hK, hGs⟩ := x_start hv
  subst hsz
  have hx := B.exec
  have hb := B.bytes
  have hr := B.returns
  have hts := atoms_spec (ws := wsL_keep) B.pre
  have hown : s.vm.findClass RL = some m.cls := findClass_of_methodNamed B.named
  have hlk := B.notSynchronized
  have hC : Cx g p s m _ c cL_keep RL wsL_keep 2 := ⟨hx, hb, hml, hown, hts, hK⟩
  have hA : ∀ q : Nat, s.heap.size ≤ q → dA ad n s.heap.size q := fun q h => Or.inr h
  have hS : va_S (dA ad n s.heap.size) s.heap s.heap [] := va_S.rf
  have hl := lv_entry ([.ref (gen g 98), .int p1]) (n := 2) (Nat.le_of_ble_eq_true rfl)
  rw [lg_entry_eq]
  generalize (lg_sl ([.ref (gen g 98), .int p1]) ++ List.replicate (2 - (lg_sl ([.ref (gen g 98), .int p1])).length) Slot.unset).toArray = ls at hl ⊢
  have hl : lv_has ls 2 [(0, .ref (gen g 98)), (1, .int p1)] := hl
  have hGE := hGs.2.2.2.1
  have hGM := hGs.2.2.2.2
  unfold f_L_keep at hf
  refine lv_aload_n hx hb dL_keep_0 rfl (lv_at hl 0 rfl) ?_
  refine lv_bipush (v := 12) hx hb dL_keep_1 (by decide) ?_
  refine lv_iconst (v := 4) hx hb dL_keep_3 (by decide) ?_
  refine lv_iload_n hx hb dL_keep_4 rfl (lv_at hl 1 rfl) ?_
  refine lv_imul hx hb dL_keep_5 ?_
  refine lv_iadd hx hb dL_keep_6 ?_
  refine lv_iconst (v := 4) hx hb dL_keep_7 (by decide) ?_
  replace hf := obE hf
  obtain ⟨z1, hz1, hf⟩ := hf
  obtain ⟨r3, S2⟩ := z1
  replace hf := ltE (ltE hf r3 rfl) S2 rfl
  refine x_callS (As := [.ref (gen g 98), .int (12 + (4 * p1)), .int 4]) (rest := []) (o := (some (.int r3))) (S1 := S2) hC hl.1 hW hS hGs hA (c_L_draw l g ad n K s.heap.size F S0 p0 (12 + (4 * p1)) ((4 : Int32)) tp0 r3 S2 hz1) (va_cwS 3 hts gL_keep_L_draw rfl rfl rfl (by decide +kernel) ⟨Nat.le_of_ble_eq_true rfl, Nat.le_of_ble_eq_true rfl⟩) rfl rfl (Nat.le_of_ble_eq_true rfl) dL_keep_8 ⟨Nat.le_of_ble_eq_true rfl, Nat.le_of_ble_eq_true rfl⟩ (fun H locs hPz1 hW hS => ?_)
  refine W.eq (g2 := F0 m 11 ls [.int r3]) rfl ?_
  refine lv_iconst (v := 3) hx hb dL_keep_11 (by decide) ?_
  refine lv_irem hx hb dL_keep_12 (by decide) ?_
  obtain ⟨e1, e2⟩ := so2 hf
  subst e1
  subst e2
  exact W.iret (v := r3 - r3 / 3 * 3) hx hb hr (fun t ht hWm => ⟨⟨rfl, by unfold QB; rw [ht]; exact ⟨hW, trivial⟩⟩, hS.F ht⟩) hS.2.2 dL_keep_13 hlk
set_option maxHeartbeats 4000000 in
set_option maxRecDepth 100000 in
theorem c_L_then (l : Launch) (g : GP) (ad : Nat → Nat) (n : Nat) (K : Nat → Nat) (sz F : Nat) (S0 : St) (p0 : XS) (p1 : Int32) (tp0 : p0 = gX g) (r9 : Int32) (S9 : St) (hf : f_L_then F S0 p0 p1 = some (r9, S9)) : Met l yL_then wsL_then { frames := 1, cells := 0, slots := 0, locals := 22 } (va_Pc [.ref (gen g 98), .int p1] (PB g ad n K S0 sz)) (QR (some (.int r9)) (QB g ad n K S9 (dA ad n sz) (True)) (dA ad n sz)) 0 0 (dA ad n sz) := by
  refine Met.ofW (cc := cL_then) (maxL := 2) (ret := (some .int)) (by decide) rfl ?_
  intro p e s m args below meth c s₁ B hml hv
  obtain ⟨rfl, hsz, hW, hK, hGs⟩ := x_start hv
  subst hsz
  have hx := B.exec
  have hb := B.bytes
  have hr := B.returns
  have hts := atoms_spec (ws := wsL_then) B.pre
  have hown : s.vm.findClass RL = some m.cls := findClass_of_methodNamed B.named
  have hlk := B.notSynchronized
  have hC : Cx g p s m _ c cL_then RL wsL_then 2 := ⟨hx, hb, hml, hown, hts, hK⟩
  have hA : ∀ q : Nat, s.heap.size ≤ q → dA ad n s.heap.size q := fun q h => Or.inr h
  have hS : va_S (dA ad n s.heap.size) s.heap s.heap [] := va_S.rf
  have hl := lv_entry ([.ref (gen g 98), .int p1]) (n := 2) (Nat.le_of_ble_eq_true rfl)
  rw [lg_entry_eq]
  generalize (lg_sl ([.ref (gen g 98), .int p1]) ++ List.replicate (2 - (lg_sl ([.ref (gen g 98), .int p1])).length) Slot.unset).toArray = ls at hl ⊢
  have hl : lv_has ls 2 [(0, .ref (gen g 98)), (1, .int p1)] := hl
  have hGE := hGs.2.2.2.1
  have hGM := hGs.2.2.2.2
  unfold f_L_then at hf
  refine lv_iload_n hx hb dL_then_0 rfl (lv_at hl 1 rfl) ?_
  refine lv_if_eq (tgt := 18) hx hb dL_then_1 (by decide) (fun c1 => ?_) (fun c1 => ?_)
  · replace hf := ifT c1 hf
    refine lv_iconst (v := -1) hx hb dL_then_18 (by decide) ?_
    refine lv_goto (tgt := 37) hx hb dL_then_19 (by decide) ?_
    obtain ⟨e1, e2⟩ := so2 hf
    subst e1
    subst e2
    exact W.iret (v := (-1)) hx hb hr (fun t ht hWm => ⟨⟨rfl, by unfold QB; rw [ht]; exact ⟨hW, trivial⟩⟩, hS.F ht⟩) hS.2.2 dL_then_37 hlk
  · replace hf := ifF c1 hf
    refine lv_aload_n hx hb dL_then_4 rfl (lv_at hl 0 rfl) ?_
    refine lv_bipush (v := 13) hx hb dL_then_5 (by decide) ?_
    refine lv_iconst (v := 4) hx hb dL_then_7 (by decide) ?_
    refine lv_iload_n hx hb dL_then_8 rfl (lv_at hl 1 rfl) ?_
    refine lv_imul hx hb dL_then_9 ?_
    refine lv_iadd hx hb dL_then_10 ?_
    refine lv_iconst (v := 2) hx hb dL_then_11 (by decide) ?_
    replace hf := obE hf
    obtain ⟨z2, hz2, hf⟩ := hf
    obtain ⟨r4, S3⟩ := z2
    replace hf := ltE (ltE hf r4 rfl) S3 rfl
    refine x_callS (As := [.ref (gen g 98), .int (13 + (4 * p1)), .int 2]) (rest := []) (o := (some (.int r4))) (S1 := S3) hC hl.1 hW hS hGs hA (c_L_draw l g ad n K s.heap.size F S0 p0 (13 + (4 * p1)) ((2 : Int32)) tp0 r4 S3 hz2) (va_cwS 3 hts gL_then_L_draw rfl rfl rfl (by decide +kernel) ⟨Nat.le_of_ble_eq_true rfl, Nat.le_of_ble_eq_true rfl⟩) rfl rfl (Nat.le_of_ble_eq_true rfl) dL_then_12 ⟨Nat.le_of_ble_eq_true rfl, Nat.le_of_ble_eq_true rfl⟩ (fun H locs hPz2 hW hS => ?_)
    refine W.eq (g2 := F0 m 15 ls [.int r4]) rfl ?_
    refine lv_if_ne (tgt := 22) hx hb dL_then_15 (by decide) (fun c6 => ?_) (fun c6 => ?_)
    · replace hf := ifT c6 hf
      refine lv_aload_n hx hb dL_then_22 rfl (lv_at hl 0 rfl) ?_
      refine lv_bipush (v := 13) hx hb dL_then_23 (by decide) ?_
      refine lv_iconst (v := 4) hx hb dL_then_25 (by decide) ?_
      refine lv_iload_n hx hb dL_then_26 rfl (lv_at hl 1 rfl) ?_
      refine lv_imul hx hb dL_then_27 ?_
      refine lv_iadd hx hb dL_then_28 ?_
      refine lv_iconst (v := 2) hx hb dL_then_29 (by decide) ?_
      refine lv_iload_n hx hb dL_then_30 rfl (lv_at hl 1 rfl) ?_
      refine lv_imul hx hb dL_then_31 ?_
      replace hf := obE hf
      obtain ⟨z7, hz7, hf⟩ := hf
      obtain ⟨r9, S8⟩ := z7
      replace hf := ltE (ltE hf r9 rfl) S8 rfl
      refine x_callS (As := [.ref (gen g 98), .int (13 + (4 * p1)), .int (2 * p1)]) (rest := []) (o := (some (.int r9))) (S1 := S8) hC hl.1 hW hS hGs hA (c_L_draw l g ad n K H.size F S3 p0 (13 + (4 * p1)) (2 * p1) tp0 r9 S8 hz7) (va_cwS 3 hts gL_then_L_draw rfl rfl rfl (by decide +kernel) ⟨Nat.le_of_ble_eq_true rfl, Nat.le_of_ble_eq_true rfl⟩) rfl rfl (Nat.le_of_ble_eq_true rfl) dL_then_32 ⟨Nat.le_of_ble_eq_true rfl, Nat.le_of_ble_eq_true rfl⟩ (fun H locs hPz7 hW hS => ?_)
      refine W.eq (g2 := F0 m 35 ls [.int r9]) rfl ?_
      refine lv_iconst (v := 2) hx hb dL_then_35 (by decide) ?_
      refine lv_idiv hx hb dL_then_36 (by decide) ?_
      obtain ⟨e1, e2⟩ := so2 hf
      subst e1
      subst e2
      exact W.iret (v := r9 / 2) hx hb hr (fun t ht hWm => ⟨⟨rfl, by unfold QB; rw [ht]; exact ⟨hW, trivial⟩⟩, hS.F ht⟩) hS.2.2 dL_then_37 hlk
    · replace hf := ifF (fun q => q c6) hf
      refine lv_iconst (v := -1) hx hb dL_then_18 (by decide) ?_
      refine lv_goto (tgt := 37) hx hb dL_then_19 (by decide) ?_
      obtain ⟨e1, e2⟩ := so2 hf
      subst e1
      subst e2
      exact W.iret (v := (-1)) hx hb hr (fun t ht hWm => ⟨⟨rfl, by unfold QB; rw [ht]; exact ⟨hW, trivial⟩⟩, hS.F ht⟩) hS.2.2 dL_then_37 hlk
set_option maxHeartbeats 4000000 in
set_option maxRecDepth 100000 in
theorem c_L_classOf (l : Launch) (g : GP) (ad : Nat → Nat) (n : Nat) (K : Nat → Nat) (sz F : Nat) (S0 : St) (p0 : XS) (p1 : Int32) (tp0 : p0 = gX g) (r9 : Int32) (S9 : St) (hf : f_L_classOf F S0 p0 p1 = some (r9, S9)) : Met l yL_classOf wsL_classOf { frames := 2, cells := 0, slots := 0, locals := 42 } (va_Pc [.ref (gen g 98), .int p1] (PB g ad n K S0 sz)) (QR (some (.int r9)) (QB g ad n K S9 (dA ad n sz) (True)) (dA ad n sz)) 0 0 (dA ad n sz) := by
  refine Met.ofW (cc := cL_classOf) (maxL := 2) (ret := (some .int)) (by decide) rfl ?_
  intro p e s m args below meth c s₁ B hml hv
  obtain ⟨rfl, hsz, hW, hK, hGs⟩ := x_start hv
  subst hsz
  have hx := B.exec
  have hb := B.bytes
  have hr := B.returns
  have hts := atoms_spec (ws := wsL_classOf) B.pre
  have hown : s.vm.findClass RL = some m.cls := findClass_of_methodNamed B.named
  have hlk := B.notSynchronized
  have hC : Cx g p s m _ c cL_classOf RL wsL_classOf 2 := ⟨hx, hb, hml, hown, hts, hK⟩
  have hA : ∀ q : Nat, s.heap.size ≤ q → dA ad n s.heap.size q := fun q h => Or.inr h
  have hS : va_S (dA ad n s.heap.size) s.heap s.heap [] := va_S.rf
  have hl := lv_entry ([.ref (gen g 98), .int p1]) (n := 2) (Nat.le_of_ble_eq_true rfl)
  rw [lg_entry_eq]
  generalize (lg_sl ([.ref (gen g 98), .int p1]) ++ List.replicate (2 - (lg_sl ([.ref (gen g 98), .int p1])).length) Slot.unset).toArray = ls at hl ⊢
  have hl : lv_has ls 2 [(0, .ref (gen g 98)), (1, .int p1)] := hl
  have hGE := hGs.2.2.2.1
  have hGM := hGs.2.2.2.2
  unfold f_L_classOf at hf
  refine lv_aload_n hx hb dL_classOf_0 rfl (lv_at hl 0 rfl) ?_
  refine lv_bipush (v := 30) hx hb dL_classOf_1 (by decide) ?_
  refine lv_iconst (v := 2) hx hb dL_classOf_3 (by decide) ?_
  refine lv_iload_n hx hb dL_classOf_4 rfl (lv_at hl 1 rfl) ?_
  refine lv_imul hx hb dL_classOf_5 ?_
  refine lv_iadd hx hb dL_classOf_6 ?_
  refine lv_aload_n hx hb dL_classOf_7 rfl (lv_at hl 0 rfl) ?_
  replace hf := obE hf
  obtain ⟨z1, hz1, hf⟩ := hf
  obtain ⟨r3, S2⟩ := z1
  replace hf := ltE (ltE hf r3 rfl) S2 rfl
  refine x_callS (As := [.ref (gen g 98)]) (rest := [.int (30 + (2 * p1)), .ref (gen g 98)]) (o := (some (.int r3))) (S1 := S2) hC hl.1 hW hS hGs hA (c_L_classes l g ad n K s.heap.size F S0 p0 tp0 r3 S2 hz1) (va_cwS 1 hts gL_classOf_L_classes rfl rfl rfl (by decide +kernel) ⟨Nat.le_of_ble_eq_true rfl, Nat.le_of_ble_eq_true rfl⟩) rfl rfl (Nat.le_of_ble_eq_true rfl) dL_classOf_8 ⟨Nat.le_of_ble_eq_true rfl, Nat.le_of_ble_eq_true rfl⟩ (fun H locs hPz1 hW hS => ?_)
  refine W.eq (g2 := F0 m 11 ls [.int r3, .int (30 + (2 * p1)), .ref (gen g 98)]) rfl ?_
  replace hf := obE hf
  obtain ⟨z5, hz5, hf⟩ := hf
  obtain ⟨r7, S6⟩ := z5
  replace hf := ltE (ltE hf r7 rfl) S6 rfl
  refine x_callS (As := [.ref (gen g 98), .int (30 + (2 * p1)), .int r3]) (rest := []) (o := (some (.int r7))) (S1 := S6) hC hl.1 hW hS hGs hA (c_L_draw l g ad n K H.size F S2 p0 (30 + (2 * p1)) r3 tp0 r7 S6 hz5) (va_cwS 3 hts gL_classOf_L_draw rfl rfl rfl (by decide +kernel) ⟨Nat.le_of_ble_eq_true rfl, Nat.le_of_ble_eq_true rfl⟩) rfl rfl (Nat.le_of_ble_eq_true rfl) dL_classOf_11 ⟨Nat.le_of_ble_eq_true rfl, Nat.le_of_ble_eq_true rfl⟩ (fun H locs hPz5 hW hS => ?_)
  refine W.eq (g2 := F0 m 14 ls [.int r7]) rfl ?_
  obtain ⟨e1, e2⟩ := so2 hf
  subst e1
  subst e2
  exact W.iret (v := r7) hx hb hr (fun t ht hWm => ⟨⟨rfl, by unfold QB; rw [ht]; exact ⟨hW, trivial⟩⟩, hS.F ht⟩) hS.2.2 dL_classOf_14 hlk
set_option maxHeartbeats 4000000 in
set_option maxRecDepth 100000 in
theorem c_L_quota (l : Launch) (g : GP) (ad : Nat → Nat) (n : Nat) (K : Nat → Nat) (sz F : Nat) (S0 : St) (p0 : XS) (p1 : Int32) (tp0 : p0 = gX g) (r9 : Int32) (S9 : St) (hf : f_L_quota F S0 p0 p1 = some (r9, S9)) : Met l yL_quota wsL_quota { frames := 1, cells := 0, slots := 0, locals := 22 } (va_Pc [.ref (gen g 98), .int p1] (PB g ad n K S0 sz)) (QR (some (.int r9)) (QB g ad n K S9 (dA ad n sz) (True)) (dA ad n sz)) 0 0 (dA ad n sz) := by
  refine Met.ofW (cc := cL_quota) (maxL := 2) (ret := (some .int)) (by decide) rfl ?_
  intro p e s m args below meth c s₁ B hml hv
  obtain ⟨rfl, hsz, hW, hK, hGs⟩ := x_start hv
  subst hsz
  have hx := B.exec
  have hb := B.bytes
  have hr := B.returns
  have hts := atoms_spec (ws := wsL_quota) B.pre
  have hown : s.vm.findClass RL = some m.cls := findClass_of_methodNamed B.named
  have hlk := B.notSynchronized
  have hC : Cx g p s m _ c cL_quota RL wsL_quota 2 := ⟨hx, hb, hml, hown, hts, hK⟩
  have hA : ∀ q : Nat, s.heap.size ≤ q → dA ad n s.heap.size q := fun q h => Or.inr h
  have hS : va_S (dA ad n s.heap.size) s.heap s.heap [] := va_S.rf
  have hl := lv_entry ([.ref (gen g 98), .int p1]) (n := 2) (Nat.le_of_ble_eq_true rfl)
  rw [lg_entry_eq]
  generalize (lg_sl ([.ref (gen g 98), .int p1]) ++ List.replicate (2 - (lg_sl ([.ref (gen g 98), .int p1])).length) Slot.unset).toArray = ls at hl ⊢
  have hl : lv_has ls 2 [(0, .ref (gen g 98)), (1, .int p1)] := hl
  have hGE := hGs.2.2.2.1
  have hGM := hGs.2.2.2.2
  unfold f_L_quota at hf
  refine lv_bipush (v := 10) hx hb dL_quota_0 (by decide) ?_
  refine lv_aload_n hx hb dL_quota_2 rfl (lv_at hl 0 rfl) ?_
  refine lv_bipush (v := 31) hx hb dL_quota_3 (by decide) ?_
  refine lv_iconst (v := 2) hx hb dL_quota_5 (by decide) ?_
  refine lv_iload_n hx hb dL_quota_6 rfl (lv_at hl 1 rfl) ?_
  refine lv_imul hx hb dL_quota_7 ?_
  refine lv_iadd hx hb dL_quota_8 ?_
  refine lv_bipush (v := 90) hx hb dL_quota_9 (by decide) ?_
  replace hf := obE hf
  obtain ⟨z1, hz1, hf⟩ := hf
  obtain ⟨r3, S2⟩ := z1
  replace hf := ltE (ltE hf r3 rfl) S2 rfl
  refine x_callS (As := [.ref (gen g 98), .int (31 + (2 * p1)), .int 90]) (rest := [.int 10]) (o := (some (.int r3))) (S1 := S2) hC hl.1 hW hS hGs hA (c_L_draw l g ad n K s.heap.size F S0 p0 (31 + (2 * p1)) ((90 : Int32)) tp0 r3 S2 hz1) (va_cwS 3 hts gL_quota_L_draw rfl rfl rfl (by decide +kernel) ⟨Nat.le_of_ble_eq_true rfl, Nat.le_of_ble_eq_true rfl⟩) rfl rfl (Nat.le_of_ble_eq_true rfl) dL_quota_11 ⟨Nat.le_of_ble_eq_true rfl, Nat.le_of_ble_eq_true rfl⟩ (fun H locs hPz1 hW hS => ?_)
  refine W.eq (g2 := F0 m 14 ls [.int r3, .int 10]) rfl ?_
  refine lv_iadd hx hb dL_quota_14 ?_
  obtain ⟨e1, e2⟩ := so2 hf
  subst e1
  subst e2
  exact W.iret (v := 10 + r3) hx hb hr (fun t ht hWm => ⟨⟨rfl, by unfold QB; rw [ht]; exact ⟨hW, trivial⟩⟩, hS.F ht⟩) hS.2.2 dL_quota_15 hlk
set_option maxHeartbeats 4000000 in
set_option maxRecDepth 100000 in
theorem c_L_holder (l : Launch) (g : GP) (ad : Nat → Nat) (n : Nat) (K : Nat → Nat) (sz F : Nat) (S0 : St) (p0 : XS) (p1 : Int32) (tp0 : p0 = gX g) (r9 : Int32) (S9 : St) (hf : f_L_holder F S0 p0 p1 = some (r9, S9)) : Met l yL_holder wsL_holder { frames := 2, cells := 0, slots := 0, locals := 42 } (va_Pc [.ref (gen g 98), .int p1] (PB g ad n K S0 sz)) (QR (some (.int r9)) (QB g ad n K S9 (dA ad n sz) (True)) (dA ad n sz)) 0 0 (dA ad n sz) := by
  refine Met.ofW (cc := cL_holder) (maxL := 2) (ret := (some .int)) (by decide) rfl ?_
  intro p e s m args below meth c s₁ B hml hv
  obtain ⟨rfl, hsz, hW, hK, hGs⟩ := x_start hv
  subst hsz
  have hx := B.exec
  have hb := B.bytes
  have hr := B.returns
  have hts := atoms_spec (ws := wsL_holder) B.pre
  have hown : s.vm.findClass RL = some m.cls := findClass_of_methodNamed B.named
  have hlk := B.notSynchronized
  have hC : Cx g p s m _ c cL_holder RL wsL_holder 2 := ⟨hx, hb, hml, hown, hts, hK⟩
  have hA : ∀ q : Nat, s.heap.size ≤ q → dA ad n s.heap.size q := fun q h => Or.inr h
  have hS : va_S (dA ad n s.heap.size) s.heap s.heap [] := va_S.rf
  have hl := lv_entry ([.ref (gen g 98), .int p1]) (n := 2) (Nat.le_of_ble_eq_true rfl)
  rw [lg_entry_eq]
  generalize (lg_sl ([.ref (gen g 98), .int p1]) ++ List.replicate (2 - (lg_sl ([.ref (gen g 98), .int p1])).length) Slot.unset).toArray = ls at hl ⊢
  have hl : lv_has ls 2 [(0, .ref (gen g 98)), (1, .int p1)] := hl
  have hGE := hGs.2.2.2.1
  have hGM := hGs.2.2.2.2
  unfold f_L_holder at hf
  refine lv_aload_n hx hb dL_holder_0 rfl (lv_at hl 0 rfl) ?_
  refine lv_bipush (v := 40) hx hb dL_holder_1 (by decide) ?_
  refine lv_iconst (v := 4) hx hb dL_holder_3 (by decide) ?_
  refine lv_iload_n hx hb dL_holder_4 rfl (lv_at hl 1 rfl) ?_
  refine lv_imul hx hb dL_holder_5 ?_
  refine lv_iadd hx hb dL_holder_6 ?_
  refine lv_aload_n hx hb dL_holder_7 rfl (lv_at hl 0 rfl) ?_
  replace hf := obE hf
  obtain ⟨z1, hz1, hf⟩ := hf
  obtain ⟨r3, S2⟩ := z1
  replace hf := ltE (ltE hf r3 rfl) S2 rfl
  refine x_callS (As := [.ref (gen g 98)]) (rest := [.int (40 + (4 * p1)), .ref (gen g 98)]) (o := (some (.int r3))) (S1 := S2) hC hl.1 hW hS hGs hA (c_L_users l g ad n K s.heap.size F S0 p0 tp0 r3 S2 hz1) (va_cwS 1 hts gL_holder_L_users rfl rfl rfl (by decide +kernel) ⟨Nat.le_of_ble_eq_true rfl, Nat.le_of_ble_eq_true rfl⟩) rfl rfl (Nat.le_of_ble_eq_true rfl) dL_holder_8 ⟨Nat.le_of_ble_eq_true rfl, Nat.le_of_ble_eq_true rfl⟩ (fun H locs hPz1 hW hS => ?_)
  refine W.eq (g2 := F0 m 11 ls [.int r3, .int (40 + (4 * p1)), .ref (gen g 98)]) rfl ?_
  replace hf := obE hf
  obtain ⟨z5, hz5, hf⟩ := hf
  obtain ⟨r7, S6⟩ := z5
  replace hf := ltE (ltE hf r7 rfl) S6 rfl
  refine x_callS (As := [.ref (gen g 98), .int (40 + (4 * p1)), .int r3]) (rest := []) (o := (some (.int r7))) (S1 := S6) hC hl.1 hW hS hGs hA (c_L_draw l g ad n K H.size F S2 p0 (40 + (4 * p1)) r3 tp0 r7 S6 hz5) (va_cwS 3 hts gL_holder_L_draw rfl rfl rfl (by decide +kernel) ⟨Nat.le_of_ble_eq_true rfl, Nat.le_of_ble_eq_true rfl⟩) rfl rfl (Nat.le_of_ble_eq_true rfl) dL_holder_11 ⟨Nat.le_of_ble_eq_true rfl, Nat.le_of_ble_eq_true rfl⟩ (fun H locs hPz5 hW hS => ?_)
  refine W.eq (g2 := F0 m 14 ls [.int r7]) rfl ?_
  obtain ⟨e1, e2⟩ := so2 hf
  subst e1
  subst e2
  exact W.iret (v := r7) hx hb hr (fun t ht hWm => ⟨⟨rfl, by unfold QB; rw [ht]; exact ⟨hW, trivial⟩⟩, hS.F ht⟩) hS.2.2 dL_holder_14 hlk
set_option maxHeartbeats 4000000 in
set_option maxRecDepth 100000 in
theorem c_L_hasDays (l : Launch) (g : GP) (ad : Nat → Nat) (n : Nat) (K : Nat → Nat) (sz F : Nat) (S0 : St) (p0 : XS) (p1 : Int32) (tp0 : p0 = gX g) (r9 : Int32) (S9 : St) (hf : f_L_hasDays F S0 p0 p1 = some (r9, S9)) : Met l yL_hasDays wsL_hasDays { frames := 1, cells := 0, slots := 0, locals := 22 } (va_Pc [.ref (gen g 98), .int p1] (PB g ad n K S0 sz)) (QR (some (.int r9)) (QB g ad n K S9 (dA ad n sz) (True)) (dA ad n sz)) 0 0 (dA ad n sz) := by
  refine Met.ofW (cc := cL_hasDays) (maxL := 2) (ret := (some .boolean)) (by decide) rfl ?_
  intro p e s m args below meth c s₁ B hml hv
  obtain ⟨rfl, hsz, hW, hK, hGs⟩ := x_start hv
  subst hsz
  have hx := B.exec
  have hb := B.bytes
  have hr := B.returns
  have hts := atoms_spec (ws := wsL_hasDays) B.pre
  have hown : s.vm.findClass RL = some m.cls := findClass_of_methodNamed B.named
  have hlk := B.notSynchronized
  have hC : Cx g p s m _ c cL_hasDays RL wsL_hasDays 2 := ⟨hx, hb, hml, hown, hts, hK⟩
  have hA : ∀ q : Nat, s.heap.size ≤ q → dA ad n s.heap.size q := fun q h => Or.inr h
  have hS : va_S (dA ad n s.heap.size) s.heap s.heap [] := va_S.rf
  have hl := lv_entry ([.ref (gen g 98), .int p1]) (n := 2) (Nat.le_of_ble_eq_true rfl)
  rw [lg_entry_eq]
  generalize (lg_sl ([.ref (gen g 98), .int p1]) ++ List.replicate (2 - (lg_sl ([.ref (gen g 98), .int p1])).length) Slot.unset).toArray = ls at hl ⊢
  have hl : lv_has ls 2 [(0, .ref (gen g 98)), (1, .int p1)] := hl
  have hGE := hGs.2.2.2.1
  have hGM := hGs.2.2.2.2
  unfold f_L_hasDays at hf
  refine lv_aload_n hx hb dL_hasDays_0 rfl (lv_at hl 0 rfl) ?_
  refine lv_bipush (v := 41) hx hb dL_hasDays_1 (by decide) ?_
  refine lv_iconst (v := 4) hx hb dL_hasDays_3 (by decide) ?_
  refine lv_iload_n hx hb dL_hasDays_4 rfl (lv_at hl 1 rfl) ?_
  refine lv_imul hx hb dL_hasDays_5 ?_
  refine lv_iadd hx hb dL_hasDays_6 ?_
  refine lv_iconst (v := 2) hx hb dL_hasDays_7 (by decide) ?_
  replace hf := obE hf
  obtain ⟨z1, hz1, hf⟩ := hf
  obtain ⟨r3, S2⟩ := z1
  replace hf := ltE (ltE hf r3 rfl) S2 rfl
  refine x_callS (As := [.ref (gen g 98), .int (41 + (4 * p1)), .int 2]) (rest := []) (o := (some (.int r3))) (S1 := S2) hC hl.1 hW hS hGs hA (c_L_draw l g ad n K s.heap.size F S0 p0 (41 + (4 * p1)) ((2 : Int32)) tp0 r3 S2 hz1) (va_cwS 3 hts gL_hasDays_L_draw rfl rfl rfl (by decide +kernel) ⟨Nat.le_of_ble_eq_true rfl, Nat.le_of_ble_eq_true rfl⟩) rfl rfl (Nat.le_of_ble_eq_true rfl) dL_hasDays_8 ⟨Nat.le_of_ble_eq_true rfl, Nat.le_of_ble_eq_true rfl⟩ (fun H locs hPz1 hW hS => ?_)
  refine W.eq (g2 := F0 m 11 ls [.int r3]) rfl ?_
  refine lv_if_ne (tgt := 18) hx hb dL_hasDays_11 (by decide) (fun c5 => ?_) (fun c5 => ?_)
  · replace hf := ifT c5 hf
    refine lv_iconst (v := 0) hx hb dL_hasDays_18 (by decide) ?_
    obtain ⟨e1, e2⟩ := so2 hf
    subst e1
    subst e2
    exact W.zret (v := 0) hx hb hr rfl (fun t ht hWm => ⟨⟨rfl, by unfold QB; rw [ht]; exact ⟨hW, trivial⟩⟩, hS.F ht⟩) hS.2.2 dL_hasDays_19 hlk
  · replace hf := ifF (fun q => q c5) hf
    refine lv_iconst (v := 1) hx hb dL_hasDays_14 (by decide) ?_
    refine lv_goto (tgt := 19) hx hb dL_hasDays_15 (by decide) ?_
    obtain ⟨e1, e2⟩ := so2 hf
    subst e1
    subst e2
    exact W.zret (v := 1) hx hb hr rfl (fun t ht hWm => ⟨⟨rfl, by unfold QB; rw [ht]; exact ⟨hW, trivial⟩⟩, hS.F ht⟩) hS.2.2 dL_hasDays_19 hlk
set_option maxHeartbeats 4000000 in
set_option maxRecDepth 100000 in
theorem c_L_hasWord (l : Launch) (g : GP) (ad : Nat → Nat) (n : Nat) (K : Nat → Nat) (sz F : Nat) (S0 : St) (p0 : XS) (p1 : Int32) (tp0 : p0 = gX g) (r9 : Int32) (S9 : St) (hf : f_L_hasWord F S0 p0 p1 = some (r9, S9)) : Met l yL_hasWord wsL_hasWord { frames := 1, cells := 0, slots := 0, locals := 22 } (va_Pc [.ref (gen g 98), .int p1] (PB g ad n K S0 sz)) (QR (some (.int r9)) (QB g ad n K S9 (dA ad n sz) (True)) (dA ad n sz)) 0 0 (dA ad n sz) := by
  refine Met.ofW (cc := cL_hasWord) (maxL := 2) (ret := (some .boolean)) (by decide) rfl ?_
  intro p e s m args below meth c s₁ B hml hv
  obtain ⟨rfl, hsz, hW, hK, hGs⟩ := x_start hv
  subst hsz
  have hx := B.exec
  have hb := B.bytes
  have hr := B.returns
  have hts := atoms_spec (ws := wsL_hasWord) B.pre
  have hown : s.vm.findClass RL = some m.cls := findClass_of_methodNamed B.named
  have hlk := B.notSynchronized
  have hC : Cx g p s m _ c cL_hasWord RL wsL_hasWord 2 := ⟨hx, hb, hml, hown, hts, hK⟩
  have hA : ∀ q : Nat, s.heap.size ≤ q → dA ad n s.heap.size q := fun q h => Or.inr h
  have hS : va_S (dA ad n s.heap.size) s.heap s.heap [] := va_S.rf
  have hl := lv_entry ([.ref (gen g 98), .int p1]) (n := 2) (Nat.le_of_ble_eq_true rfl)
  rw [lg_entry_eq]
  generalize (lg_sl ([.ref (gen g 98), .int p1]) ++ List.replicate (2 - (lg_sl ([.ref (gen g 98), .int p1])).length) Slot.unset).toArray = ls at hl ⊢
  have hl : lv_has ls 2 [(0, .ref (gen g 98)), (1, .int p1)] := hl
  have hGE := hGs.2.2.2.1
  have hGM := hGs.2.2.2.2
  unfold f_L_hasWord at hf
  refine lv_aload_n hx hb dL_hasWord_0 rfl (lv_at hl 0 rfl) ?_
  refine lv_bipush (v := 42) hx hb dL_hasWord_1 (by decide) ?_
  refine lv_iconst (v := 4) hx hb dL_hasWord_3 (by decide) ?_
  refine lv_iload_n hx hb dL_hasWord_4 rfl (lv_at hl 1 rfl) ?_
  refine lv_imul hx hb dL_hasWord_5 ?_
  refine lv_iadd hx hb dL_hasWord_6 ?_
  refine lv_iconst (v := 2) hx hb dL_hasWord_7 (by decide) ?_
  replace hf := obE hf
  obtain ⟨z1, hz1, hf⟩ := hf
  obtain ⟨r3, S2⟩ := z1
  replace hf := ltE (ltE hf r3 rfl) S2 rfl
  refine x_callS (As := [.ref (gen g 98), .int (42 + (4 * p1)), .int 2]) (rest := []) (o := (some (.int r3))) (S1 := S2) hC hl.1 hW hS hGs hA (c_L_draw l g ad n K s.heap.size F S0 p0 (42 + (4 * p1)) ((2 : Int32)) tp0 r3 S2 hz1) (va_cwS 3 hts gL_hasWord_L_draw rfl rfl rfl (by decide +kernel) ⟨Nat.le_of_ble_eq_true rfl, Nat.le_of_ble_eq_true rfl⟩) rfl rfl (Nat.le_of_ble_eq_true rfl) dL_hasWord_8 ⟨Nat.le_of_ble_eq_true rfl, Nat.le_of_ble_eq_true rfl⟩ (fun H locs hPz1 hW hS => ?_)
  refine W.eq (g2 := F0 m 11 ls [.int r3]) rfl ?_
  refine lv_if_ne (tgt := 18) hx hb dL_hasWord_11 (by decide) (fun c5 => ?_) (fun c5 => ?_)
  · replace hf := ifT c5 hf
    refine lv_iconst (v := 0) hx hb dL_hasWord_18 (by decide) ?_
    obtain ⟨e1, e2⟩ := so2 hf
    subst e1
    subst e2
    exact W.zret (v := 0) hx hb hr rfl (fun t ht hWm => ⟨⟨rfl, by unfold QB; rw [ht]; exact ⟨hW, trivial⟩⟩, hS.F ht⟩) hS.2.2 dL_hasWord_19 hlk
  · replace hf := ifF (fun q => q c5) hf
    refine lv_iconst (v := 1) hx hb dL_hasWord_14 (by decide) ?_
    refine lv_goto (tgt := 19) hx hb dL_hasWord_15 (by decide) ?_
    obtain ⟨e1, e2⟩ := so2 hf
    subst e1
    subst e2
    exact W.zret (v := 1) hx hb hr rfl (fun t ht hWm => ⟨⟨rfl, by unfold QB; rw [ht]; exact ⟨hW, trivial⟩⟩, hS.F ht⟩) hS.2.2 dL_hasWord_19 hlk
