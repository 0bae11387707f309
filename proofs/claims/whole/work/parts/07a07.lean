set_option maxHeartbeats 4000000 in
set_option maxRecDepth 100000 in
theorem c_X11_undoCount (l : Launch) (g : GP) (ad : Nat → Nat) (n : Nat) (K : Nat → Nat) (sz F : Nat) (S0 : St) (p0 : Nat) (tp0 : p0 < n ∧ K p0 = 10) (r9 : Int32) (S9 : St) (hf : f_X11_undoCount F S0 p0 = some (r9, S9)) : Met l yX11_undoCount wsX11_undoCount { frames := 0, cells := 0, slots := 0, locals := 0 } (va_Pc [.ref (ad p0)] (PB g ad n K S0 sz)) (QR (some (.int r9)) (QB g ad n K S9 (dA ad n sz) (True)) (dA ad n sz)) 0 0 (dA ad n sz) := by
  refine Met.ofW (cc := cX11_undoCount) (maxL := 1) (ret := (some .int)) (by decide) rfl ?_
  intro p e s m args below meth c s₁ B hml hv
  obtain ⟨rfl, hsz, hW, hK, hGs⟩ := x_start hv
  subst hsz
  have hx := B.exec
  have hb := B.bytes
  have hr := B.returns
  have hts := atoms_spec (ws := wsX11_undoCount) B.pre
  have hown : s.vm.findClass RX11 = some m.cls := findClass_of_methodNamed B.named
  have hlk := B.notSynchronized
  have hC : Cx g p s m _ c cX11_undoCount RX11 wsX11_undoCount 1 := ⟨hx, hb, hml, hown, hts, hK⟩
  have hA : ∀ q : Nat, s.heap.size ≤ q → dA ad n s.heap.size q := fun q h => Or.inr h
  have hS : va_S (dA ad n s.heap.size) s.heap s.heap [] := va_S.rf
  have hl := lv_entry ([.ref (ad p0)]) (n := 1) (Nat.le_of_ble_eq_true rfl)
  rw [lg_entry_eq]
  generalize (lg_sl ([.ref (ad p0)]) ++ List.replicate (1 - (lg_sl ([.ref (ad p0)])).length) Slot.unset).toArray = ls at hl ⊢
  have hl : lv_has ls 1 [(0, .ref (ad p0))] := hl
  have hin11 : ∀ w ∈ wsX110, w ∈ wsX11_undoCount := by decide +kernel
  have w_0 := hts (.fieldLink RX11 3 "MailSpoolModel" "thrown" "I") (by decide +kernel)
  have w_1 := hts (.fieldLink RX11 479 "MailSpoolModel" "remembered" "I") (by decide +kernel)
  have hGE := hGs.2.2.2.2.2.2.1
  have hGM := hGs.2.2.2.2.2.2.2.1
  unfold f_X11_undoCount at hf
  refine lv_aload_n hx hb dX11_undoCount_0 rfl (lv_at hl 0 rfl) ?_
  refine lv_iconst (v := 0) hx hb dX11_undoCount_1 (by decide) ?_
  refine x_puti 1000 (ci := 10) (C := RX11) (T := TX11) (N := 30) (v := 0) (ty := .int) 0 hC hin11 tyX11_ok nmX11 hW hS tp0 rfl rfl ⟨by decide, by decide, rfl, rfl⟩ rfl w_0 rfl (by decide +kernel) rfl rfl dX11_undoCount_2 (fun S1 H locs eS1 hW hS => ?_)
  replace hf := ltE hf S1 eS1
  refine lv_aload_n hx hb dX11_undoCount_5 rfl (lv_at hl 0 rfl) ?_
  refine x_geti 1026 (ci := 10) (C := RX11) (T := TX11) (N := 30) 26 hC hin11 hW tp0 rfl rfl ⟨by decide, by decide, rfl, rfl⟩ rfl w_1 dX11_undoCount_6 ?_
  obtain ⟨e1, e2⟩ := so2 hf
  subst e1
  subst e2
  exact W.iret (v := si S1 1026 p0) hx hb hr (fun t ht hWm => ⟨⟨rfl, by unfold QB; rw [ht]; exact ⟨hW, trivial⟩⟩, hS.F ht⟩) hS.2.2 dX11_undoCount_9 hlk
set_option maxHeartbeats 4000000 in
set_option maxRecDepth 100000 in
theorem c_X11_write (l : Launch) (g : GP) (ad : Nat → Nat) (n : Nat) (K : Nat → Nat) (sz F : Nat) (S0 : St) (p0 : Nat) (p1 : Int32) (tp0 : p0 < n ∧ K p0 = 10) (S9 : St) (hf : f_X11_write F S0 p0 p1 = some S9) : Met l yX11_write wsX11_write { frames := 0, cells := 0, slots := 0, locals := 0 } (va_Pc [.ref (ad p0), .int p1] (PB g ad n K S0 sz)) (QR none (QB g ad n K S9 (dA ad n sz) (True)) (dA ad n sz)) 0 0 (dA ad n sz) := by
  refine Met.ofW (cc := cX11_write) (maxL := 2) (ret := none) (by decide) rfl ?_
  intro p e s m args below meth c s₁ B hml hv
  obtain ⟨rfl, hsz, hW, hK, hGs⟩ := x_start hv
  subst hsz
  have hx := B.exec
  have hb := B.bytes
  have hr := B.returns
  have hts := atoms_spec (ws := wsX11_write) B.pre
  have hown : s.vm.findClass RX11 = some m.cls := findClass_of_methodNamed B.named
  have hlk := B.notSynchronized
  have hC : Cx g p s m _ c cX11_write RX11 wsX11_write 2 := ⟨hx, hb, hml, hown, hts, hK⟩
  have hA : ∀ q : Nat, s.heap.size ≤ q → dA ad n s.heap.size q := fun q h => Or.inr h
  have hS : va_S (dA ad n s.heap.size) s.heap s.heap [] := va_S.rf
  have hl := lv_entry ([.ref (ad p0), .int p1]) (n := 2) (Nat.le_of_ble_eq_true rfl)
  rw [lg_entry_eq]
  generalize (lg_sl ([.ref (ad p0), .int p1]) ++ List.replicate (2 - (lg_sl ([.ref (ad p0), .int p1])).length) Slot.unset).toArray = ls at hl ⊢
  have hl : lv_has ls 2 [(0, .ref (ad p0)), (1, .int p1)] := hl
  have hin11 : ∀ w ∈ wsX110, w ∈ wsX11_write := by decide +kernel
  have w_0 := hts (.fieldLink RX11 61 "MailSpoolModel" "output" "[B") (by decide +kernel)
  have w_1 := hts (.fieldLink RX11 485 "MailSpoolModel" "outputSize" "I") (by decide +kernel)
  have hGE := hGs.2.2.2.2.2.2.1
  have hGM := hGs.2.2.2.2.2.2.2.1
  unfold f_X11_write at hf
  refine lv_aload_n hx hb dX11_write_0 rfl (lv_at hl 0 rfl) ?_
  replace hf := obE hf
  obtain ⟨j1, qj1, hf⟩ := hf
  have tj1 := x_rt hW qj1 11 ⟨by decide, rfl⟩
  refine x_getr 1028 (ci := 10) (C := RX11) (T := TX11) (N := 30) 28 hC hin11 hW tp0 rfl rfl ⟨by decide, by decide, rfl, rfl⟩ rfl w_0 dX11_write_1 qj1 ?_
  refine lv_aload_n hx hb dX11_write_4 rfl (lv_at hl 0 rfl) ?_
  refine x_geti 1029 (ci := 10) (C := RX11) (T := TX11) (N := 30) 29 hC hin11 hW tp0 rfl rfl ⟨by decide, by decide, rfl, rfl⟩ rfl w_1 dX11_write_5 ?_
  refine lv_iload_n hx hb dX11_write_8 rfl (lv_at hl 1 rfl) ?_
  refine lv_i2b (v := p1.toInt8.toInt32) hx hb dX11_write_9 rfl ?_
  replace hf := ckiE hf
  obtain ⟨h2, hf⟩ := hf
  refine x_bast hC hW hS tj1 rfl rfl h2 dX11_write_10 (fun S3 H locs eS3 hW hS => ?_)
  replace hf := ltE hf S3 eS3
  refine lv_aload_n hx hb dX11_write_11 rfl (lv_at hl 0 rfl) ?_
  refine lv_dup hx hb dX11_write_12 rfl ?_
  refine x_geti 1029 (ci := 10) (C := RX11) (T := TX11) (N := 30) 29 hC hin11 hW tp0 rfl rfl ⟨by decide, by decide, rfl, rfl⟩ rfl w_1 dX11_write_13 ?_
  refine lv_iconst (v := 1) hx hb dX11_write_16 (by decide) ?_
  refine lv_iadd hx hb dX11_write_17 ?_
  refine x_puti 1029 (ci := 10) (C := RX11) (T := TX11) (N := 30) (v := (si S3 1029 p0) + 1) (ty := .int) 29 hC hin11 tyX11_ok nmX11 hW hS tp0 rfl rfl ⟨by decide, by decide, rfl, rfl⟩ rfl w_1 rfl (by decide +kernel) rfl rfl dX11_write_18 (fun S4 H locs eS4 hW hS => ?_)
  replace hf := ltE hf S4 eS4
  have e1 := Option.some.inj hf
  subst e1
  exact W.vret hx hb hr (fun t ht hWm => ⟨⟨rfl, by unfold QB; rw [ht]; exact ⟨hW, trivial⟩⟩, hS.F ht⟩) hS.2.2 dX11_write_21 hlk
set_option maxHeartbeats 4000000 in
set_option maxRecDepth 100000 in
theorem c_X11_writeNumber (l : Launch) (g : GP) (ad : Nat → Nat) (n : Nat) (K : Nat → Nat) (sz F : Nat) (S0 : St) (p0 : Nat) (p1 : Int32) (tp0 : p0 < n ∧ K p0 = 10) (S9 : St) (hf : f_X11_writeNumber F S0 p0 p1 = some S9) : Met l yX11_writeNumber wsX11_writeNumber { frames := 1, cells := 0, slots := 0, locals := 21 } (va_Pc [.ref (ad p0), .int p1] (PB g ad n K S0 sz)) (QR none (QB g ad n K S9 (dA ad n sz) (True)) (dA ad n sz)) 0 0 (dA ad n sz) := by
  refine Met.ofW (cc := cX11_writeNumber) (maxL := 4) (ret := none) (by decide) rfl ?_
  intro p e s m args below meth c s₁ B hml hv
  obtain ⟨rfl, hsz, hW, hK, hGs⟩ := x_start hv
  subst hsz
  have hx := B.exec
  have hb := B.bytes
  have hr := B.returns
  have hts := atoms_spec (ws := wsX11_writeNumber) B.pre
  have hown : s.vm.findClass RX11 = some m.cls := findClass_of_methodNamed B.named
  have hlk := B.notSynchronized
  have hC : Cx g p s m _ c cX11_writeNumber RX11 wsX11_writeNumber 4 := ⟨hx, hb, hml, hown, hts, hK⟩
  have hA : ∀ q : Nat, s.heap.size ≤ q → dA ad n s.heap.size q := fun q h => Or.inr h
  have hS : va_S (dA ad n s.heap.size) s.heap s.heap [] := va_S.rf
  have hl := lv_entry ([.ref (ad p0), .int p1]) (n := 4) (Nat.le_of_ble_eq_true rfl)
  rw [lg_entry_eq]
  generalize (lg_sl ([.ref (ad p0), .int p1]) ++ List.replicate (4 - (lg_sl ([.ref (ad p0), .int p1])).length) Slot.unset).toArray = ls at hl ⊢
  have hl : lv_has ls 4 [(0, .ref (ad p0)), (1, .int p1)] := hl
  have hGE := hGs.2.2.2.2.2.2.1
  have hGM := hGs.2.2.2.2.2.2.2.1
  have L20 : ∀ (fu20 : Nat) (S0 : St) (v0 : Nat) (v1 : Int32) (v3 : Int32) (tv0 : v0 < n ∧ K v0 = 10) (H : Heap) (locs : List Loc) (ls : Array Slot), f_X11_writeNumber_L20 F fu20 S0 v0 v1 v3 = some S9 → Wb g ad n K S0 (dA ad n s.heap.size) H → va_S (dA ad n s.heap.size) s.heap H locs → lv_has ls 4 [(0, .ref (ad v0)), (1, .int v1), (3, .int v3)] → W p l e (headSpec wsX11_writeNumber { frames := 1, cells := 0, slots := 0, locals := 21 }).room s m (List.toArray [.ref (ad p0), .int p1]) below meth c H locs 0 0 (MQ below (QR none (QB g ad n K S9 (dA ad n s.heap.size) (True)) (dA ad n s.heap.size)) (List.toArray [.ref (ad p0), .int p1]) s 0 0 (dA ad n s.heap.size)) (F0 m 20 ls []) := by
    intro fu20
    induction fu20 with
    | zero =>
      intro S0 v0 v1 v3 tv0 H locs ls hf
      cases hf
    | succ fu20 ih20 =>
      intro S0 v0 v1 v3 tv0 H locs ls hf hW hS hl
      unfold f_X11_writeNumber_L20 at hf
      refine lv_iload_n hx hb dX11_writeNumber_20 rfl (lv_at hl 2 rfl) ?_
      refine lv_if_le (tgt := 45) hx hb dX11_writeNumber_21 (by decide) (fun c8 => ?_) (fun c8 => ?_)
      · replace hf := ifT c8 hf
        have e1 := Option.some.inj hf
        subst e1
        exact W.vret hx hb hr (fun t ht hWm => ⟨⟨rfl, by unfold QB; rw [ht]; exact ⟨hW, trivial⟩⟩, hS.F ht⟩) hS.2.2 dX11_writeNumber_45 hlk
      · replace hf := ifF c8 hf
        refine lv_aload_n hx hb dX11_writeNumber_24 rfl (lv_at hl 0 rfl) ?_
        refine lv_bipush (v := 48) hx hb dX11_writeNumber_25 (by decide) ?_
        refine lv_iload_n hx hb dX11_writeNumber_27 rfl (lv_at hl 1 rfl) ?_
        refine lv_iload_n hx hb dX11_writeNumber_28 rfl (lv_at hl 2 rfl) ?_
        replace hf := ckE hf
        obtain ⟨h9, hf⟩ := hf
        refine lv_idiv hx hb dX11_writeNumber_29 h9 ?_
        refine lv_bipush (v := 10) hx hb dX11_writeNumber_30 (by decide) ?_
        refine lv_irem hx hb dX11_writeNumber_32 (by decide) ?_
        refine lv_iadd hx hb dX11_writeNumber_33 ?_
        replace hf := obE hf
        obtain ⟨S11, hz10, hf⟩ := hf
        refine x_callV (As := [.int (48 + ((v1 / v3) - (v1 / v3) / 10 * 10))]) (rest := []) (o := none) (S1 := S11) hC hl.1 hW hS hGs hA tv0 rfl (show vwCl[10]? = some (RX11, TX11, 30) ∧ 10 < 11 from ⟨rfl, by decide⟩) (c_X11_write l g ad n K H.size F S0 v0 (48 + ((v1 / v3) - (v1 / v3) / 10 * 10)) tv0 S11 hz10) (cwV 1 hts gX11_writeNumber_X11_write rfl rfl rfl (by decide +kernel) ⟨Nat.le_of_ble_eq_true rfl, Nat.le_of_ble_eq_true rfl⟩) rfl rfl (Nat.le_of_ble_eq_true rfl) dX11_writeNumber_34 ⟨Nat.le_of_ble_eq_true rfl, Nat.le_of_ble_eq_true rfl⟩ (fun H locs hPz10 hW hS => ?_)
        refine W.eq (g2 := F0 m 37 ls []) rfl ?_
        refine lv_iload_n hx hb dX11_writeNumber_37 rfl (lv_at hl 2 rfl) ?_
        refine lv_bipush (v := 10) hx hb dX11_writeNumber_38 (by decide) ?_
        refine lv_idiv hx hb dX11_writeNumber_40 (by decide) ?_
        refine lv_topi (fun x14 ex14 => ?_)
        replace hf := ltE hf x14 ex14
        refine lv_istore_n (lv' := [(3, .int x14), (0, .ref (ad v0)), (1, .int v1)]) hx hb dX11_writeNumber_41 rfl hl (by decide) rfl (fun ls hl => ?_)
        refine lv_goto (tgt := 20) hx hb dX11_writeNumber_42 (by decide) ?_
        exact ih20 S11 v0 v1 x14 tv0 _ _ _ hf hW hS (lv_sub hl [1, 2, 0] rfl)
  have L2 : ∀ (fu2 : Nat) (S0 : St) (v0 : Nat) (v1 : Int32) (v2 : Int32) (tv0 : v0 < n ∧ K v0 = 10) (H : Heap) (locs : List Loc) (ls : Array Slot), f_X11_writeNumber_L2 F fu2 S0 v0 v1 v2 = some S9 → Wb g ad n K S0 (dA ad n s.heap.size) H → va_S (dA ad n s.heap.size) s.heap H locs → lv_has ls 4 [(0, .ref (ad v0)), (1, .int v1), (2, .int v2)] → W p l e (headSpec wsX11_writeNumber { frames := 1, cells := 0, slots := 0, locals := 21 }).room s m (List.toArray [.ref (ad p0), .int p1]) below meth c H locs 0 0 (MQ below (QR none (QB g ad n K S9 (dA ad n s.heap.size) (True)) (dA ad n s.heap.size)) (List.toArray [.ref (ad p0), .int p1]) s 0 0 (dA ad n s.heap.size)) (F0 m 2 ls []) := by
    intro fu2
    induction fu2 with
    | zero =>
      intro S0 v0 v1 v2 tv0 H locs ls hf
      cases hf
    | succ fu2 ih2 =>
      intro S0 v0 v1 v2 tv0 H locs ls hf hW hS hl
      unfold f_X11_writeNumber_L2 at hf
      refine lv_iload_n hx hb dX11_writeNumber_2 rfl (lv_at hl 1 rfl) ?_
      refine lv_iload_n hx hb dX11_writeNumber_3 rfl (lv_at hl 2 rfl) ?_
      replace hf := ckE hf
      obtain ⟨h18, hf⟩ := hf
      refine lv_idiv hx hb dX11_writeNumber_4 h18 ?_
      refine lv_bipush (v := 10) hx hb dX11_writeNumber_5 (by decide) ?_
      refine lv_icmp_lt (tgt := 18) hx hb dX11_writeNumber_7 (by decide) (fun c19 => ?_) (fun c19 => ?_)
      · replace hf := ifT c19 hf
        refine lv_iload_n hx hb dX11_writeNumber_18 rfl (lv_at hl 2 rfl) ?_
        refine lv_istore_n (lv' := [(3, .int v2), (0, .ref (ad v0)), (1, .int v1), (2, .int v2)]) hx hb dX11_writeNumber_19 rfl hl (by decide) rfl (fun ls hl => ?_)
        exact L20 F S0 v0 v1 v2 tv0 _ _ _ hf hW hS (lv_sub hl [1, 2, 0] rfl)
      · replace hf := ifF c19 hf
        refine lv_iload_n hx hb dX11_writeNumber_10 rfl (lv_at hl 2 rfl) ?_
        refine lv_bipush (v := 10) hx hb dX11_writeNumber_11 (by decide) ?_
        refine lv_imul hx hb dX11_writeNumber_13 ?_
        refine lv_topi (fun x20 ex20 => ?_)
        replace hf := ltE hf x20 ex20
        refine lv_istore_n (lv' := [(2, .int x20), (0, .ref (ad v0)), (1, .int v1)]) hx hb dX11_writeNumber_14 rfl hl (by decide) rfl (fun ls hl => ?_)
        refine lv_goto (tgt := 2) hx hb dX11_writeNumber_15 (by decide) ?_
        exact ih2 S0 v0 v1 x20 tv0 _ _ _ hf hW hS (lv_sub hl [1, 2, 0] rfl)
  unfold f_X11_writeNumber at hf
  refine lv_iconst (v := 1) hx hb dX11_writeNumber_0 (by decide) ?_
  refine lv_istore_n (lv' := [(2, .int 1), (0, .ref (ad p0)), (1, .int p1)]) hx hb dX11_writeNumber_1 rfl hl (by decide) rfl (fun ls hl => ?_)
  exact L2 F S0 p0 p1 1 tp0 _ _ _ hf hW hS (lv_sub hl [1, 2, 0] rfl)
set_option maxHeartbeats 4000000 in
set_option maxRecDepth 100000 in
theorem c_X11_writeClass (l : Launch) (g : GP) (ad : Nat → Nat) (n : Nat) (K : Nat → Nat) (sz F : Nat) (S0 : St) (p0 : Nat) (p1 : Int32) (tp0 : p0 < n ∧ K p0 = 10) (S9 : St) (hf : f_X11_writeClass F S0 p0 p1 = some S9) : Met l yX11_writeClass wsX11_writeClass { frames := 1, cells := 0, slots := 0, locals := 22 } (va_Pc [.ref (ad p0), .int p1] (PB g ad n K S0 sz)) (QR none (QB g ad n K S9 (dA ad n sz) (True)) (dA ad n sz)) 0 0 (dA ad n sz) := by
  refine Met.ofW (cc := cX11_writeClass) (maxL := 3) (ret := none) (by decide) rfl ?_
  intro p e s m args below meth c s₁ B hml hv
  obtain ⟨rfl, hsz, hW, hK, hGs⟩ := x_start hv
  subst hsz
  have hx := B.exec
  have hb := B.bytes
  have hr := B.returns
  have hts := atoms_spec (ws := wsX11_writeClass) B.pre
  have hown : s.vm.findClass RX11 = some m.cls := findClass_of_methodNamed B.named
  have hlk := B.notSynchronized
  have hC : Cx g p s m _ c cX11_writeClass RX11 wsX11_writeClass 3 := ⟨hx, hb, hml, hown, hts, hK⟩
  have hA : ∀ q : Nat, s.heap.size ≤ q → dA ad n s.heap.size q := fun q h => Or.inr h
  have hS : va_S (dA ad n s.heap.size) s.heap s.heap [] := va_S.rf
  have hl := lv_entry ([.ref (ad p0), .int p1]) (n := 3) (Nat.le_of_ble_eq_true rfl)
  rw [lg_entry_eq]
  generalize (lg_sl ([.ref (ad p0), .int p1]) ++ List.replicate (3 - (lg_sl ([.ref (ad p0), .int p1])).length) Slot.unset).toArray = ls at hl ⊢
  have hl : lv_has ls 3 [(0, .ref (ad p0)), (1, .int p1)] := hl
  have hGE := hGs.2.2.2.2.2.2.1
  have hGM := hGs.2.2.2.2.2.2.2.1
  have L2 : ∀ (fu2 : Nat) (S0 : St) (v0 : Nat) (v1 : Int32) (v2 : Int32) (tv0 : v0 < n ∧ K v0 = 10) (H : Heap) (locs : List Loc) (ls : Array Slot), f_X11_writeClass_L2 F fu2 S0 v0 v1 v2 = some S9 → Wb g ad n K S0 (dA ad n s.heap.size) H → va_S (dA ad n s.heap.size) s.heap H locs → lv_has ls 3 [(0, .ref (ad v0)), (1, .int v1), (2, .int v2)] → W p l e (headSpec wsX11_writeClass { frames := 1, cells := 0, slots := 0, locals := 22 }).room s m (List.toArray [.ref (ad p0), .int p1]) below meth c H locs 0 0 (MQ below (QR none (QB g ad n K S9 (dA ad n s.heap.size) (True)) (dA ad n s.heap.size)) (List.toArray [.ref (ad p0), .int p1]) s 0 0 (dA ad n s.heap.size)) (F0 m 2 ls []) := by
    intro fu2
    induction fu2 with
    | zero =>
      intro S0 v0 v1 v2 tv0 H locs ls hf
      cases hf
    | succ fu2 ih2 =>
      intro S0 v0 v1 v2 tv0 H locs ls hf hW hS hl
      unfold f_X11_writeClass_L2 at hf
      refine lv_iload_n hx hb dX11_writeClass_2 rfl (lv_at hl 2 rfl) ?_
      refine lv_bipush (v := 6) hx hb dX11_writeClass_3 (by decide) ?_
      refine lv_icmp_ge (tgt := 37) hx hb dX11_writeClass_5 (by decide) (fun c16 => ?_) (fun c16 => ?_)
      · replace hf := ifT c16 hf
        have e1 := Option.some.inj hf
        subst e1
        exact W.vret hx hb hr (fun t ht hWm => ⟨⟨rfl, by unfold QB; rw [ht]; exact ⟨hW, trivial⟩⟩, hS.F ht⟩) hS.2.2 dX11_writeClass_37 hlk
      · replace hf := ifF c16 hf
        refine lv_aload_n hx hb dX11_writeClass_8 rfl (lv_at hl 0 rfl) ?_
        refine lv_iload_n hx hb dX11_writeClass_9 rfl (lv_at hl 1 rfl) ?_
        refine lv_iconst (v := 3) hx hb dX11_writeClass_10 (by decide) ?_
        refine lv_iload_n hx hb dX11_writeClass_11 rfl (lv_at hl 2 rfl) ?_
        refine lv_iadd hx hb dX11_writeClass_12 ?_
        replace hf := obE hf
        obtain ⟨z17, hz17, hf⟩ := hf
        obtain ⟨r19, S18⟩ := z17
        replace hf := ltE (ltE hf r19 rfl) S18 rfl
        refine x_callV (As := [.int v1, .int (3 + v2)]) (rest := []) (o := (some (.int r19))) (S1 := S18) hC hl.1 hW hS hGs hA tv0 rfl (show vwCl[10]? = some (RX11, TX11, 30) ∧ 10 < 11 from ⟨rfl, by decide⟩) (c_X11_classValue l g ad n K H.size F S0 v0 v1 (3 + v2) tv0 r19 S18 hz17) (cwV 2 hts gX11_writeClass_X11_classValue rfl rfl rfl (by decide +kernel) ⟨Nat.le_of_ble_eq_true rfl, Nat.le_of_ble_eq_true rfl⟩) rfl rfl (Nat.le_of_ble_eq_true rfl) dX11_writeClass_13 ⟨Nat.le_of_ble_eq_true rfl, Nat.le_of_ble_eq_true rfl⟩ (fun H locs hPz17 hW hS => ?_)
        refine W.eq (g2 := F0 m 16 ls [.int r19]) rfl ?_
        refine lv_if_eq (tgt := 37) hx hb dX11_writeClass_16 (by decide) (fun c21 => ?_) (fun c21 => ?_)
        · replace hf := ifT c21 hf
          have e1 := Option.some.inj hf
          subst e1
          exact W.vret hx hb hr (fun t ht hWm => ⟨⟨rfl, by unfold QB; rw [ht]; exact ⟨hW, trivial⟩⟩, hS.F ht⟩) hS.2.2 dX11_writeClass_37 hlk
        · replace hf := ifF c21 hf
          refine lv_aload_n hx hb dX11_writeClass_19 rfl (lv_at hl 0 rfl) ?_
          refine lv_aload_n hx hb dX11_writeClass_20 rfl (lv_at hl 0 rfl) ?_
          refine lv_iload_n hx hb dX11_writeClass_21 rfl (lv_at hl 1 rfl) ?_
          refine lv_iconst (v := 3) hx hb dX11_writeClass_22 (by decide) ?_
          refine lv_iload_n hx hb dX11_writeClass_23 rfl (lv_at hl 2 rfl) ?_
          refine lv_iadd hx hb dX11_writeClass_24 ?_
          replace hf := obE hf
          obtain ⟨z22, hz22, hf⟩ := hf
          obtain ⟨r24, S23⟩ := z22
          replace hf := ltE (ltE hf r24 rfl) S23 rfl
          refine x_callV (As := [.int v1, .int (3 + v2)]) (rest := [.ref (ad v0)]) (o := (some (.int r24))) (S1 := S23) hC hl.1 hW hS hGs hA tv0 rfl (show vwCl[10]? = some (RX11, TX11, 30) ∧ 10 < 11 from ⟨rfl, by decide⟩) (c_X11_classValue l g ad n K H.size F S18 v0 v1 (3 + v2) tv0 r24 S23 hz22) (cwV 2 hts gX11_writeClass_X11_classValue rfl rfl rfl (by decide +kernel) ⟨Nat.le_of_ble_eq_true rfl, Nat.le_of_ble_eq_true rfl⟩) rfl rfl (Nat.le_of_ble_eq_true rfl) dX11_writeClass_25 ⟨Nat.le_of_ble_eq_true rfl, Nat.le_of_ble_eq_true rfl⟩ (fun H locs hPz22 hW hS => ?_)
          refine W.eq (g2 := F0 m 28 ls [.int r24, .ref (ad v0)]) rfl ?_
          replace hf := obE hf
          obtain ⟨S27, hz26, hf⟩ := hf
          refine x_callV (As := [.int r24]) (rest := []) (o := none) (S1 := S27) hC hl.1 hW hS hGs hA tv0 rfl (show vwCl[10]? = some (RX11, TX11, 30) ∧ 10 < 11 from ⟨rfl, by decide⟩) (c_X11_write l g ad n K H.size F S23 v0 r24 tv0 S27 hz26) (cwV 1 hts gX11_writeClass_X11_write rfl rfl rfl (by decide +kernel) ⟨Nat.le_of_ble_eq_true rfl, Nat.le_of_ble_eq_true rfl⟩) rfl rfl (Nat.le_of_ble_eq_true rfl) dX11_writeClass_28 ⟨Nat.le_of_ble_eq_true rfl, Nat.le_of_ble_eq_true rfl⟩ (fun H locs hPz26 hW hS => ?_)
          refine W.eq (g2 := F0 m 31 ls []) rfl ?_
          obtain ⟨x30, ex30⟩ : ∃ z : Int32, z = v2 + 1 := ⟨_, rfl⟩
          replace hf := ltE hf x30 ex30
          refine lv_iinc (v := x30) (lv' := [(2, .int x30), (0, .ref (ad v0)), (1, .int v1)]) hx hb dX11_writeClass_31 hl (k := 2) rfl (by rw [ex30]; rfl) (by decide) rfl (fun ls hl => ?_)
          refine lv_goto (tgt := 2) hx hb dX11_writeClass_34 (by decide) ?_
          exact ih2 S27 v0 v1 x30 tv0 _ _ _ hf hW hS (lv_sub hl [1, 2, 0] rfl)
  unfold f_X11_writeClass at hf
  refine lv_iconst (v := 0) hx hb dX11_writeClass_0 (by decide) ?_
  refine lv_istore_n (lv' := [(2, .int 0), (0, .ref (ad p0)), (1, .int p1)]) hx hb dX11_writeClass_1 rfl hl (by decide) rfl (fun ls hl => ?_)
  exact L2 F S0 p0 p1 0 tp0 _ _ _ hf hW hS (lv_sub hl [1, 2, 0] rfl)
set_option maxHeartbeats 4000000 in
set_option maxRecDepth 100000 in
theorem c_X11_writeMailbox (l : Launch) (g : GP) (ad : Nat → Nat) (n : Nat) (K : Nat → Nat) (sz F : Nat) (S0 : St) (p0 : Nat) (p1 : Int32) (tp0 : p0 < n ∧ K p0 = 10) (r9 : Int32) (S9 : St) (hf : f_X11_writeMailbox F S0 p0 p1 = some (r9, S9)) : Met l yX11_writeMailbox wsX11_writeMailbox { frames := 3, cells := 0, slots := 0, locals := 65 } (va_Pc [.ref (ad p0), .int p1] (PB g ad n K S0 sz)) (QR (some (.int r9)) (QB g ad n K S9 (dA ad n sz) (True)) (dA ad n sz)) 0 0 (dA ad n sz) := by
  refine Met.ofW (cc := cX11_writeMailbox) (maxL := 3) (ret := (some .int)) (by decide) rfl ?_
  intro p e s m args below meth c s₁ B hml hv
  obtain ⟨rfl, hsz, hW, hK, hGs⟩ := x_start hv
  subst hsz
  have hx := B.exec
  have hb := B.bytes
  have hr := B.returns
  have hts := atoms_spec (ws := wsX11_writeMailbox) B.pre
  have hown : s.vm.findClass RX11 = some m.cls := findClass_of_methodNamed B.named
  have hlk := B.notSynchronized
  have hC : Cx g p s m _ c cX11_writeMailbox RX11 wsX11_writeMailbox 3 := ⟨hx, hb, hml, hown, hts, hK⟩
  have hA : ∀ q : Nat, s.heap.size ≤ q → dA ad n s.heap.size q := fun q h => Or.inr h
  have hS : va_S (dA ad n s.heap.size) s.heap s.heap [] := va_S.rf
  have hl := lv_entry ([.ref (ad p0), .int p1]) (n := 3) (Nat.le_of_ble_eq_true rfl)
  rw [lg_entry_eq]
  generalize (lg_sl ([.ref (ad p0), .int p1]) ++ List.replicate (3 - (lg_sl ([.ref (ad p0), .int p1])).length) Slot.unset).toArray = ls at hl ⊢
  have hl : lv_has ls 3 [(0, .ref (ad p0)), (1, .int p1)] := hl
  have hin11 : ∀ w ∈ wsX110, w ∈ wsX11_writeMailbox := by decide +kernel
  have w_0 := hts (.fieldLink RX11 17 "MailSpoolModel" "net" "[I") (by decide +kernel)
  have w_1 := hts (.fieldLink RX11 485 "MailSpoolModel" "outputSize" "I") (by decide +kernel)
  have hGE := hGs.2.2.2.2.2.2.1
  have hGM := hGs.2.2.2.2.2.2.2.1
  have L21 : ∀ (fu21 : Nat) (S0 : St) (v0 : Nat) (v1 : Int32) (v2 : Int32) (tv0 : v0 < n ∧ K v0 = 10) (H : Heap) (locs : List Loc) (ls : Array Slot), f_X11_writeMailbox_L21 F fu21 S0 v0 v1 v2 = some (r9, S9) → Wb g ad n K S0 (dA ad n s.heap.size) H → va_S (dA ad n s.heap.size) s.heap H locs → lv_has ls 3 [(0, .ref (ad v0)), (1, .int v1), (2, .int v2)] → W p l e (headSpec wsX11_writeMailbox { frames := 3, cells := 0, slots := 0, locals := 65 }).room s m (List.toArray [.ref (ad p0), .int p1]) below meth c H locs 0 0 (MQ below (QR (some (.int r9)) (QB g ad n K S9 (dA ad n s.heap.size) (True)) (dA ad n s.heap.size)) (List.toArray [.ref (ad p0), .int p1]) s 0 0 (dA ad n s.heap.size)) (F0 m 21 ls []) := by
    intro fu21
    induction fu21 with
    | zero =>
      intro S0 v0 v1 v2 tv0 H locs ls hf
      cases hf
    | succ fu21 ih21 =>
      have L99 : ∀ (S0 : St) (v0 : Nat) (v1 : Int32) (v2 : Int32) (tv0 : v0 < n ∧ K v0 = 10) (H : Heap) (locs : List Loc) (ls : Array Slot), f_X11_writeMailbox_L99 F (fun a0 a1 a2 a3 => f_X11_writeMailbox_L21 F fu21 a0 a1 a2 a3) S0 v0 v1 v2 = some (r9, S9) → Wb g ad n K S0 (dA ad n s.heap.size) H → va_S (dA ad n s.heap.size) s.heap H locs → lv_has ls 3 [(0, .ref (ad v0)), (1, .int v1), (2, .int v2)] → W p l e (headSpec wsX11_writeMailbox { frames := 3, cells := 0, slots := 0, locals := 65 }).room s m (List.toArray [.ref (ad p0), .int p1]) below meth c H locs 0 0 (MQ below (QR (some (.int r9)) (QB g ad n K S9 (dA ad n s.heap.size) (True)) (dA ad n s.heap.size)) (List.toArray [.ref (ad p0), .int p1]) s 0 0 (dA ad n s.heap.size)) (F0 m 99 ls []) := by
        intro S0 v0 v1 v2 tv0 H locs ls hf hW hS hl
        unfold f_X11_writeMailbox_L99 at hf
        obtain ⟨x2, ex2⟩ : ∃ z : Int32, z = v2 + 1 := ⟨_, rfl⟩
        replace hf := ltE hf x2 ex2
        refine lv_iinc (v := x2) (lv' := [(2, .int x2), (0, .ref (ad v0)), (1, .int v1)]) hx hb dX11_writeMailbox_99 hl (k := 2) rfl (by rw [ex2]; rfl) (by decide) rfl (fun ls hl => ?_)
        refine lv_goto (tgt := 21) hx hb dX11_writeMailbox_102 (by decide) ?_
        exact ih21 S0 v0 v1 x2 tv0 _ _ _ hf hW hS (lv_sub hl [1, 2, 0] rfl)
      intro S0 v0 v1 v2 tv0 H locs ls hf hW hS hl
      unfold f_X11_writeMailbox_L21 at hf
      refine lv_iload_n hx hb dX11_writeMailbox_21 rfl (lv_at hl 2 rfl) ?_
      refine lv_aload_n hx hb dX11_writeMailbox_22 rfl (lv_at hl 0 rfl) ?_
      replace hf := obE hf
      obtain ⟨j47, qj47, hf⟩ := hf
      have tj47 := x_rt hW qj47 12 ⟨by decide, rfl⟩
      refine x_getr 1001 (ci := 10) (C := RX11) (T := TX11) (N := 30) 1 hC hin11 hW tv0 rfl rfl ⟨by decide, by decide, rfl, rfl⟩ rfl w_0 dX11_writeMailbox_23 qj47 ?_
      refine lv_bipush (v := 7) hx hb dX11_writeMailbox_26 (by decide) ?_
      replace hf := ckiE hf
      obtain ⟨h48, hf⟩ := hf
      refine x_iald hC hW tj47 rfl rfl h48 dX11_writeMailbox_28 ?_
      refine lv_icmp_ge (tgt := 105) hx hb dX11_writeMailbox_29 (by decide) (fun c49 => ?_) (fun c49 => ?_)
      · replace hf := ifT c49 hf
        refine lv_aload_n hx hb dX11_writeMailbox_105 rfl (lv_at hl 0 rfl) ?_
        refine x_geti 1029 (ci := 10) (C := RX11) (T := TX11) (N := 30) 29 hC hin11 hW tv0 rfl rfl ⟨by decide, by decide, rfl, rfl⟩ rfl w_1 dX11_writeMailbox_106 ?_
        obtain ⟨e1, e2⟩ := so2 hf
        subst e1
        subst e2
        exact W.iret (v := si S0 1029 v0) hx hb hr (fun t ht hWm => ⟨⟨rfl, by unfold QB; rw [ht]; exact ⟨hW, trivial⟩⟩, hS.F ht⟩) hS.2.2 dX11_writeMailbox_109 hlk
      · replace hf := ifF c49 hf
        refine lv_aload_n hx hb dX11_writeMailbox_32 rfl (lv_at hl 0 rfl) ?_
        refine lv_iload_n hx hb dX11_writeMailbox_33 rfl (lv_at hl 2 rfl) ?_
        refine lv_iload_n hx hb dX11_writeMailbox_34 rfl (lv_at hl 1 rfl) ?_
        replace hf := obE hf
        obtain ⟨z50, hz50, hf⟩ := hf
        obtain ⟨r52, S51⟩ := z50
        replace hf := ltE (ltE hf r52 rfl) S51 rfl
        refine x_callV (As := [.int v2, .int v1]) (rest := []) (o := (some (.int r52))) (S1 := S51) hC hl.1 hW hS hGs hA tv0 rfl (show vwCl[10]? = some (RX11, TX11, 30) ∧ 10 < 11 from ⟨rfl, by decide⟩) (c_X11_isLive l g ad n K H.size F S0 v0 v2 v1 tv0 r52 S51 hz50) (cwV 2 hts gX11_writeMailbox_X11_isLive rfl rfl rfl (by decide +kernel) ⟨Nat.le_of_ble_eq_true rfl, Nat.le_of_ble_eq_true rfl⟩) rfl rfl (Nat.le_of_ble_eq_true rfl) dX11_writeMailbox_35 ⟨Nat.le_of_ble_eq_true rfl, Nat.le_of_ble_eq_true rfl⟩ (fun H locs hPz50 hW hS => ?_)
        refine W.eq (g2 := F0 m 38 ls [.int r52]) rfl ?_
        refine lv_if_ne (tgt := 44) hx hb dX11_writeMailbox_38 (by decide) (fun c54 => ?_) (fun c54 => ?_)
        · replace hf := ifT c54 hf
          refine lv_aload_n hx hb dX11_writeMailbox_44 rfl (lv_at hl 0 rfl) ?_
          refine lv_iload_n hx hb dX11_writeMailbox_45 rfl (lv_at hl 2 rfl) ?_
          replace hf := obE hf
          obtain ⟨S56, hz55, hf⟩ := hf
          refine x_callV (As := [.int v2]) (rest := []) (o := none) (S1 := S56) hC hl.1 hW hS hGs hA tv0 rfl (show vwCl[10]? = some (RX11, TX11, 30) ∧ 10 < 11 from ⟨rfl, by decide⟩) (c_X11_writeNumber l g ad n K H.size F S51 v0 v2 tv0 S56 hz55) (cwV 1 hts gX11_writeMailbox_X11_writeNumber rfl rfl rfl (by decide +kernel) ⟨Nat.le_of_ble_eq_true rfl, Nat.le_of_ble_eq_true rfl⟩) rfl rfl (Nat.le_of_ble_eq_true rfl) dX11_writeMailbox_46 ⟨Nat.le_of_ble_eq_true rfl, Nat.le_of_ble_eq_true rfl⟩ (fun H locs hPz55 hW hS => ?_)
          refine W.eq (g2 := F0 m 49 ls []) rfl ?_
          refine lv_aload_n hx hb dX11_writeMailbox_49 rfl (lv_at hl 0 rfl) ?_
          refine lv_bipush (v := 58) hx hb dX11_writeMailbox_50 (by decide) ?_
          replace hf := obE hf
          obtain ⟨S60, hz59, hf⟩ := hf
          refine x_callV (As := [.int 58]) (rest := []) (o := none) (S1 := S60) hC hl.1 hW hS hGs hA tv0 rfl (show vwCl[10]? = some (RX11, TX11, 30) ∧ 10 < 11 from ⟨rfl, by decide⟩) (c_X11_write l g ad n K H.size F S56 v0 ((58 : Int32)) tv0 S60 hz59) (cwV 1 hts gX11_writeMailbox_X11_write rfl rfl rfl (by decide +kernel) ⟨Nat.le_of_ble_eq_true rfl, Nat.le_of_ble_eq_true rfl⟩) rfl rfl (Nat.le_of_ble_eq_true rfl) dX11_writeMailbox_52 ⟨Nat.le_of_ble_eq_true rfl, Nat.le_of_ble_eq_true rfl⟩ (fun H locs hPz59 hW hS => ?_)
          refine W.eq (g2 := F0 m 55 ls []) rfl ?_
          refine lv_aload_n hx hb dX11_writeMailbox_55 rfl (lv_at hl 0 rfl) ?_
          refine lv_aload_n hx hb dX11_writeMailbox_56 rfl (lv_at hl 0 rfl) ?_
          replace hf := obE hf
          obtain ⟨j63, qj63, hf⟩ := hf
          have tj63 := x_rt hW qj63 12 ⟨by decide, rfl⟩
          refine x_getr 1001 (ci := 10) (C := RX11) (T := TX11) (N := 30) 1 hC hin11 hW tv0 rfl rfl ⟨by decide, by decide, rfl, rfl⟩ rfl w_0 dX11_writeMailbox_57 qj63 ?_
          refine lv_iload_n hx hb dX11_writeMailbox_60 rfl (lv_at hl 2 rfl) ?_
          refine lv_iload_n hx hb dX11_writeMailbox_61 rfl (lv_at hl 1 rfl) ?_
          replace hf := obE hf
          obtain ⟨z64, hz64, hf⟩ := hf
          obtain ⟨r66, S65⟩ := z64
          replace hf := ltE (ltE hf r66 rfl) S65 rfl
          refine x_callS (As := [.int v2, .int v1]) (rest := [.ref (ad j63), .ref (ad v0)]) (o := (some (.int r66))) (S1 := S65) hC hl.1 hW hS hGs hA (c_X11_refAt l g ad n K H.size F S60 v2 v1 r66 S65 hz64) (va_cwS 2 hts gX11_writeMailbox_X11_refAt rfl rfl rfl (by decide +kernel) ⟨Nat.le_of_ble_eq_true rfl, Nat.le_of_ble_eq_true rfl⟩) rfl rfl (Nat.le_of_ble_eq_true rfl) dX11_writeMailbox_62 ⟨Nat.le_of_ble_eq_true rfl, Nat.le_of_ble_eq_true rfl⟩ (fun H locs hPz64 hW hS => ?_)
          refine W.eq (g2 := F0 m 65 ls [.int r66, .ref (ad j63), .ref (ad v0)]) rfl ?_
          refine lv_iconst (v := 1) hx hb dX11_writeMailbox_65 (by decide) ?_
          refine lv_iadd hx hb dX11_writeMailbox_66 ?_
          replace hf := ckiE hf
          obtain ⟨h68, hf⟩ := hf
          refine x_iald hC hW tj63 rfl rfl h68 dX11_writeMailbox_67 ?_
          replace hf := obE hf
          obtain ⟨S70, hz69, hf⟩ := hf
          refine x_callV (As := [.int (ai S65 j63 (Int32.toNatClampNeg (r66 + 1)))]) (rest := []) (o := none) (S1 := S70) hC hl.1 hW hS hGs hA tv0 rfl (show vwCl[10]? = some (RX11, TX11, 30) ∧ 10 < 11 from ⟨rfl, by decide⟩) (c_X11_writeClass l g ad n K H.size F S65 v0 (ai S65 j63 (Int32.toNatClampNeg (r66 + 1))) tv0 S70 hz69) (cwV 1 hts gX11_writeMailbox_X11_writeClass rfl rfl rfl (by decide +kernel) ⟨Nat.le_of_ble_eq_true rfl, Nat.le_of_ble_eq_true rfl⟩) rfl rfl (Nat.le_of_ble_eq_true rfl) dX11_writeMailbox_68 ⟨Nat.le_of_ble_eq_true rfl, Nat.le_of_ble_eq_true rfl⟩ (fun H locs hPz69 hW hS => ?_)
          refine W.eq (g2 := F0 m 71 ls []) rfl ?_
          refine lv_aload_n hx hb dX11_writeMailbox_71 rfl (lv_at hl 0 rfl) ?_
          refine lv_bipush (v := 47) hx hb dX11_writeMailbox_72 (by decide) ?_
          replace hf := obE hf
          obtain ⟨S74, hz73, hf⟩ := hf
          refine x_callV (As := [.int 47]) (rest := []) (o := none) (S1 := S74) hC hl.1 hW hS hGs hA tv0 rfl (show vwCl[10]? = some (RX11, TX11, 30) ∧ 10 < 11 from ⟨rfl, by decide⟩) (c_X11_write l g ad n K H.size F S70 v0 ((47 : Int32)) tv0 S74 hz73) (cwV 1 hts gX11_writeMailbox_X11_write rfl rfl rfl (by decide +kernel) ⟨Nat.le_of_ble_eq_true rfl, Nat.le_of_ble_eq_true rfl⟩) rfl rfl (Nat.le_of_ble_eq_true rfl) dX11_writeMailbox_74 ⟨Nat.le_of_ble_eq_true rfl, Nat.le_of_ble_eq_true rfl⟩ (fun H locs hPz73 hW hS => ?_)
          refine W.eq (g2 := F0 m 77 ls []) rfl ?_
          refine lv_aload_n hx hb dX11_writeMailbox_77 rfl (lv_at hl 0 rfl) ?_
          refine lv_aload_n hx hb dX11_writeMailbox_78 rfl (lv_at hl 0 rfl) ?_
          replace hf := obE hf
          obtain ⟨j77, qj77, hf⟩ := hf
          have tj77 := x_rt hW qj77 12 ⟨by decide, rfl⟩
          refine x_getr 1001 (ci := 10) (C := RX11) (T := TX11) (N := 30) 1 hC hin11 hW tv0 rfl rfl ⟨by decide, by decide, rfl, rfl⟩ rfl w_0 dX11_writeMailbox_79 qj77 ?_
          refine lv_iload_n hx hb dX11_writeMailbox_82 rfl (lv_at hl 2 rfl) ?_
          refine lv_iload_n hx hb dX11_writeMailbox_83 rfl (lv_at hl 1 rfl) ?_
          replace hf := obE hf
          obtain ⟨z78, hz78, hf⟩ := hf
          obtain ⟨r80, S79⟩ := z78
          replace hf := ltE (ltE hf r80 rfl) S79 rfl
          refine x_callS (As := [.int v2, .int v1]) (rest := [.ref (ad j77), .ref (ad v0)]) (o := (some (.int r80))) (S1 := S79) hC hl.1 hW hS hGs hA (c_X11_refAt l g ad n K H.size F S74 v2 v1 r80 S79 hz78) (va_cwS 2 hts gX11_writeMailbox_X11_refAt rfl rfl rfl (by decide +kernel) ⟨Nat.le_of_ble_eq_true rfl, Nat.le_of_ble_eq_true rfl⟩) rfl rfl (Nat.le_of_ble_eq_true rfl) dX11_writeMailbox_84 ⟨Nat.le_of_ble_eq_true rfl, Nat.le_of_ble_eq_true rfl⟩ (fun H locs hPz78 hW hS => ?_)
          refine W.eq (g2 := F0 m 87 ls [.int r80, .ref (ad j77), .ref (ad v0)]) rfl ?_
          refine lv_iconst (v := 2) hx hb dX11_writeMailbox_87 (by decide) ?_
          refine lv_iadd hx hb dX11_writeMailbox_88 ?_
          replace hf := ckiE hf
          obtain ⟨h82, hf⟩ := hf
          refine x_iald hC hW tj77 rfl rfl h82 dX11_writeMailbox_89 ?_
          replace hf := obE hf
          obtain ⟨S84, hz83, hf⟩ := hf
          refine x_callV (As := [.int (ai S79 j77 (Int32.toNatClampNeg (r80 + 2)))]) (rest := []) (o := none) (S1 := S84) hC hl.1 hW hS hGs hA tv0 rfl (show vwCl[10]? = some (RX11, TX11, 30) ∧ 10 < 11 from ⟨rfl, by decide⟩) (c_X11_writeNumber l g ad n K H.size F S79 v0 (ai S79 j77 (Int32.toNatClampNeg (r80 + 2))) tv0 S84 hz83) (cwV 1 hts gX11_writeMailbox_X11_writeNumber rfl rfl rfl (by decide +kernel) ⟨Nat.le_of_ble_eq_true rfl, Nat.le_of_ble_eq_true rfl⟩) rfl rfl (Nat.le_of_ble_eq_true rfl) dX11_writeMailbox_90 ⟨Nat.le_of_ble_eq_true rfl, Nat.le_of_ble_eq_true rfl⟩ (fun H locs hPz83 hW hS => ?_)
          refine W.eq (g2 := F0 m 93 ls []) rfl ?_
          refine lv_aload_n hx hb dX11_writeMailbox_93 rfl (lv_at hl 0 rfl) ?_
          refine lv_bipush (v := 10) hx hb dX11_writeMailbox_94 (by decide) ?_
          replace hf := obE hf
          obtain ⟨S88, hz87, hf⟩ := hf
          refine x_callV (As := [.int 10]) (rest := []) (o := none) (S1 := S88) hC hl.1 hW hS hGs hA tv0 rfl (show vwCl[10]? = some (RX11, TX11, 30) ∧ 10 < 11 from ⟨rfl, by decide⟩) (c_X11_write l g ad n K H.size F S84 v0 ((10 : Int32)) tv0 S88 hz87) (cwV 1 hts gX11_writeMailbox_X11_write rfl rfl rfl (by decide +kernel) ⟨Nat.le_of_ble_eq_true rfl, Nat.le_of_ble_eq_true rfl⟩) rfl rfl (Nat.le_of_ble_eq_true rfl) dX11_writeMailbox_96 ⟨Nat.le_of_ble_eq_true rfl, Nat.le_of_ble_eq_true rfl⟩ (fun H locs hPz87 hW hS => ?_)
          refine W.eq (g2 := F0 m 99 ls []) rfl ?_
          exact L99 S88 v0 v1 v2 tv0 _ _ _ hf hW hS (lv_sub hl [0, 1, 2] rfl)
        · replace hf := ifF (fun q => q c54) hf
          refine lv_goto (tgt := 99) hx hb dX11_writeMailbox_41 (by decide) ?_
          exact L99 S51 v0 v1 v2 tv0 _ _ _ hf hW hS (lv_sub hl [0, 1, 2] rfl)
  unfold f_X11_writeMailbox at hf
  refine lv_aload_n hx hb dX11_writeMailbox_0 rfl (lv_at hl 0 rfl) ?_
  refine lv_aload_n hx hb dX11_writeMailbox_1 rfl (lv_at hl 0 rfl) ?_
  refine lv_iload_n hx hb dX11_writeMailbox_2 rfl (lv_at hl 1 rfl) ?_
  replace hf := obE hf
  obtain ⟨z91, hz91, hf⟩ := hf
  obtain ⟨r93, S92⟩ := z91
  replace hf := ltE (ltE hf r93 rfl) S92 rfl
  refine x_callV (As := [.int p1]) (rest := [.ref (ad p0)]) (o := (some (.int r93))) (S1 := S92) hC hl.1 hW hS hGs hA tp0 rfl (show vwCl[10]? = some (RX11, TX11, 30) ∧ 10 < 11 from ⟨rfl, by decide⟩) (c_X11_isUser l g ad n K s.heap.size F S0 p0 p1 tp0 r93 S92 hz91) (cwV 1 hts gX11_writeMailbox_X11_isUser rfl rfl rfl (by decide +kernel) ⟨Nat.le_of_ble_eq_true rfl, Nat.le_of_ble_eq_true rfl⟩) rfl rfl (Nat.le_of_ble_eq_true rfl) dX11_writeMailbox_3 ⟨Nat.le_of_ble_eq_true rfl, Nat.le_of_ble_eq_true rfl⟩ (fun H locs hPz91 hW hS => ?_)
  refine W.eq (g2 := F0 m 6 ls [.int r93, .ref (ad p0)]) rfl ?_
  replace hf := obE hf
  obtain ⟨z95, hz95, hf⟩ := hf
  obtain ⟨r97, S96⟩ := z95
  replace hf := ltE (ltE hf r97 rfl) S96 rfl
  refine x_callV (As := [.int r93]) (rest := []) (o := (some (.int r97))) (S1 := S96) hC hl.1 hW hS hGs hA tp0 rfl (show vwCl[10]? = some (RX11, TX11, 30) ∧ 10 < 11 from ⟨rfl, by decide⟩) (c_X11_passes l g ad n K H.size F S92 p0 r93 tp0 r97 S96 hz95) (cwV 1 hts gX11_writeMailbox_X11_passes rfl rfl rfl (by decide +kernel) ⟨Nat.le_of_ble_eq_true rfl, Nat.le_of_ble_eq_true rfl⟩) rfl rfl (Nat.le_of_ble_eq_true rfl) dX11_writeMailbox_6 ⟨Nat.le_of_ble_eq_true rfl, Nat.le_of_ble_eq_true rfl⟩ (fun H locs hPz95 hW hS => ?_)
  refine W.eq (g2 := F0 m 9 ls [.int r97]) rfl ?_
  refine lv_if_ne (tgt := 14) hx hb dX11_writeMailbox_9 (by decide) (fun c99 => ?_) (fun c99 => ?_)
  · replace hf := ifT c99 hf
    refine lv_aload_n hx hb dX11_writeMailbox_14 rfl (lv_at hl 0 rfl) ?_
    refine lv_iconst (v := 0) hx hb dX11_writeMailbox_15 (by decide) ?_
    refine x_puti 1029 (ci := 10) (C := RX11) (T := TX11) (N := 30) (v := 0) (ty := .int) 29 hC hin11 tyX11_ok nmX11 hW hS tp0 rfl rfl ⟨by decide, by decide, rfl, rfl⟩ rfl w_1 rfl (by decide +kernel) rfl rfl dX11_writeMailbox_16 (fun S100 H locs eS100 hW hS => ?_)
    replace hf := ltE hf S100 eS100
    refine lv_iconst (v := 0) hx hb dX11_writeMailbox_19 (by decide) ?_
    refine lv_istore_n (lv' := [(2, .int 0), (0, .ref (ad p0)), (1, .int p1)]) hx hb dX11_writeMailbox_20 rfl hl (by decide) rfl (fun ls hl => ?_)
    exact L21 F S100 p0 p1 0 tp0 _ _ _ hf hW hS (lv_sub hl [1, 2, 0] rfl)
  · replace hf := ifF (fun q => q c99) hf
    refine lv_iconst (v := 0) hx hb dX11_writeMailbox_12 (by decide) ?_
    obtain ⟨e1, e2⟩ := so2 hf
    subst e1
    subst e2
    exact W.iret (v := 0) hx hb hr (fun t ht hWm => ⟨⟨rfl, by unfold QB; rw [ht]; exact ⟨hW, trivial⟩⟩, hS.F ht⟩) hS.2.2 dX11_writeMailbox_13 hlk
set_option maxHeartbeats 4000000 in
set_option maxRecDepth 100000 in
theorem c_X11_outputByte (l : Launch) (g : GP) (ad : Nat → Nat) (n : Nat) (K : Nat → Nat) (sz F : Nat) (S0 : St) (p0 : Nat) (p1 : Int32) (tp0 : p0 < n ∧ K p0 = 10) (r9 : Int32) (S9 : St) (hf : f_X11_outputByte F S0 p0 p1 = some (r9, S9)) : Met l yX11_outputByte wsX11_outputByte { frames := 2, cells := 0, slots := 0, locals := 44 } (va_Pc [.ref (ad p0), .int p1] (PB g ad n K S0 sz)) (QR (some (.int r9)) (QB g ad n K S9 (dA ad n sz) (True)) (dA ad n sz)) 0 0 (dA ad n sz) := by
  refine Met.ofW (cc := cX11_outputByte) (maxL := 2) (ret := (some .int)) (by decide) rfl ?_
  intro p e s m args below meth c s₁ B hml hv
  obtain ⟨rfl, hsz, hW, hK, hGs⟩ := x_start hv
  subst hsz
  have hx := B.exec
  have hb := B.bytes
  have hr := B.returns
  have hts := atoms_spec (ws := wsX11_outputByte) B.pre
  have hown : s.vm.findClass RX11 = some m.cls := findClass_of_methodNamed B.named
  have hlk := B.notSynchronized
  have hC : Cx g p s m _ c cX11_outputByte RX11 wsX11_outputByte 2 := ⟨hx, hb, hml, hown, hts, hK⟩
  have hA : ∀ q : Nat, s.heap.size ≤ q → dA ad n s.heap.size q := fun q h => Or.inr h
  have hS : va_S (dA ad n s.heap.size) s.heap s.heap [] := va_S.rf
  have hl := lv_entry ([.ref (ad p0), .int p1]) (n := 2) (Nat.le_of_ble_eq_true rfl)
  rw [lg_entry_eq]
  generalize (lg_sl ([.ref (ad p0), .int p1]) ++ List.replicate (2 - (lg_sl ([.ref (ad p0), .int p1])).length) Slot.unset).toArray = ls at hl ⊢
  have hl : lv_has ls 2 [(0, .ref (ad p0)), (1, .int p1)] := hl
  have hin11 : ∀ w ∈ wsX110, w ∈ wsX11_outputByte := by decide +kernel
  have w_0 := hts (.fieldLink RX11 485 "MailSpoolModel" "outputSize" "I") (by decide +kernel)
  have w_1 := hts (.fieldLink RX11 61 "MailSpoolModel" "output" "[B") (by decide +kernel)
  have hGE := hGs.2.2.2.2.2.2.1
  have hGM := hGs.2.2.2.2.2.2.2.1
  unfold f_X11_outputByte at hf
  refine lv_aload_n hx hb dX11_outputByte_0 rfl (lv_at hl 0 rfl) ?_
  refine lv_iload_n hx hb dX11_outputByte_1 rfl (lv_at hl 1 rfl) ?_
  refine lv_i2l (v := p1.toInt64) hx hb dX11_outputByte_2 rfl ?_
  refine lv_lconst (v := 0) hx hb dX11_outputByte_3 (by decide) ?_
  refine lv_aload_n hx hb dX11_outputByte_4 rfl (lv_at hl 0 rfl) ?_
  refine x_geti 1029 (ci := 10) (C := RX11) (T := TX11) (N := 30) 29 hC hin11 hW tp0 rfl rfl ⟨by decide, by decide, rfl, rfl⟩ rfl w_0 dX11_outputByte_5 ?_
  refine lv_iconst (v := 1) hx hb dX11_outputByte_8 (by decide) ?_
  refine lv_isub hx hb dX11_outputByte_9 ?_
  refine lv_i2l (v := ((si S0 1029 p0) - 1).toInt64) hx hb dX11_outputByte_10 rfl ?_
  replace hf := obE hf
  obtain ⟨z1, hz1, hf⟩ := hf
  obtain ⟨r3, S2⟩ := z1
  replace hf := ltE (ltE hf r3 rfl) S2 rfl
  refine x_callS (As := [.long (p1.toInt64), .long (0), .long (((si S0 1029 p0) - 1).toInt64)]) (rest := [.ref (ad p0)]) (o := (some (.int r3))) (S1 := S2) hC hl.1 hW hS hGs hA (c_X11_in l g ad n K s.heap.size F S0 p1.toInt64 ((0 : Int64)) (((si S0 1029 p0) - 1).toInt64) r3 S2 hz1) (va_cwS 3 hts gX11_outputByte_X11_in rfl rfl rfl (by decide +kernel) ⟨Nat.le_of_ble_eq_true rfl, Nat.le_of_ble_eq_true rfl⟩) rfl rfl (Nat.le_of_ble_eq_true rfl) dX11_outputByte_11 ⟨Nat.le_of_ble_eq_true rfl, Nat.le_of_ble_eq_true rfl⟩ (fun H locs hPz1 hW hS => ?_)
  refine W.eq (g2 := F0 m 14 ls [.int r3, .ref (ad p0)]) rfl ?_
  replace hf := obE hf
  obtain ⟨z5, hz5, hf⟩ := hf
  obtain ⟨r7, S6⟩ := z5
  replace hf := ltE (ltE hf r7 rfl) S6 rfl
  refine x_callV (As := [.int r3]) (rest := []) (o := (some (.int r7))) (S1 := S6) hC hl.1 hW hS hGs hA tp0 rfl (show vwCl[10]? = some (RX11, TX11, 30) ∧ 10 < 11 from ⟨rfl, by decide⟩) (c_X11_passes l g ad n K H.size F S2 p0 r3 tp0 r7 S6 hz5) (cwV 1 hts gX11_outputByte_X11_passes rfl rfl rfl (by decide +kernel) ⟨Nat.le_of_ble_eq_true rfl, Nat.le_of_ble_eq_true rfl⟩) rfl rfl (Nat.le_of_ble_eq_true rfl) dX11_outputByte_14 ⟨Nat.le_of_ble_eq_true rfl, Nat.le_of_ble_eq_true rfl⟩ (fun H locs hPz5 hW hS => ?_)
  refine W.eq (g2 := F0 m 17 ls [.int r7]) rfl ?_
  refine lv_if_eq (tgt := 29) hx hb dX11_outputByte_17 (by decide) (fun c9 => ?_) (fun c9 => ?_)
  · replace hf := ifT c9 hf
    refine lv_iconst (v := 0) hx hb dX11_outputByte_29 (by decide) ?_
    obtain ⟨e1, e2⟩ := so2 hf
    subst e1
    subst e2
    exact W.iret (v := 0) hx hb hr (fun t ht hWm => ⟨⟨rfl, by unfold QB; rw [ht]; exact ⟨hW, trivial⟩⟩, hS.F ht⟩) hS.2.2 dX11_outputByte_30 hlk
  · replace hf := ifF c9 hf
    refine lv_aload_n hx hb dX11_outputByte_20 rfl (lv_at hl 0 rfl) ?_
    replace hf := obE hf
    obtain ⟨j10, qj10, hf⟩ := hf
    have tj10 := x_rt hW qj10 11 ⟨by decide, rfl⟩
    refine x_getr 1028 (ci := 10) (C := RX11) (T := TX11) (N := 30) 28 hC hin11 hW tp0 rfl rfl ⟨by decide, by decide, rfl, rfl⟩ rfl w_1 dX11_outputByte_21 qj10 ?_
    refine lv_iload_n hx hb dX11_outputByte_24 rfl (lv_at hl 1 rfl) ?_
    replace hf := ckiE hf
    obtain ⟨h11, hf⟩ := hf
    refine x_bald hC hW tj10 rfl rfl h11 dX11_outputByte_25 ?_
    refine lv_goto (tgt := 30) hx hb dX11_outputByte_26 (by decide) ?_
    obtain ⟨e1, e2⟩ := so2 hf
    subst e1
    subst e2
    exact W.iret (v := ai S6 j10 (Int32.toNatClampNeg p1)) hx hb hr (fun t ht hWm => ⟨⟨rfl, by unfold QB; rw [ht]; exact ⟨hW, trivial⟩⟩, hS.F ht⟩) hS.2.2 dX11_outputByte_30 hlk
