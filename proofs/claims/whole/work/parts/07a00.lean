set_option maxHeartbeats 4000000 in
set_option maxRecDepth 100000 in
theorem c_X11_thrown (l : Launch) (g : GP) (ad : Nat → Nat) (n : Nat) (K : Nat → Nat) (sz F : Nat) (S0 : St) (p0 : Nat) (tp0 : p0 < n ∧ K p0 = 10) (r9 : Int32) (S9 : St) (hf : f_X11_thrown F S0 p0 = some (r9, S9)) : Met l yX11_thrown wsX11_thrown { frames := 0, cells := 0, slots := 0, locals := 0 } (va_Pc [.ref (ad p0)] (PB g ad n K S0 sz)) (QR (some (.int r9)) (QB g ad n K S9 (dA ad n sz) (True)) (dA ad n sz)) 0 0 (dA ad n sz) := by
  refine Met.ofW (cc := cX11_thrown) (maxL := 1) (ret := (some .int)) (by decide) rfl ?_
  intro p e s m args below meth c s₁ B hml hv
  obtain ⟨rfl, hsz, hW, hK, hGs⟩ := x_start hv
  subst hsz
  have hx := B.exec
  have hb := B.bytes
  have hr := B.returns
  have hts := atoms_spec (ws := wsX11_thrown) B.pre
  have hown : s.vm.findClass RX11 = some m.cls := findClass_of_methodNamed B.named
  have hlk := B.notSynchronized
  have hC : Cx g p s m _ c cX11_thrown RX11 wsX11_thrown 1 := ⟨hx, hb, hml, hown, hts, hK⟩
  have hA : ∀ q : Nat, s.heap.size ≤ q → dA ad n s.heap.size q := fun q h => Or.inr h
  have hS : va_S (dA ad n s.heap.size) s.heap s.heap [] := va_S.rf
  have hl := lv_entry ([.ref (ad p0)]) (n := 1) (Nat.le_of_ble_eq_true rfl)
  rw [lg_entry_eq]
  generalize (lg_sl ([.ref (ad p0)]) ++ List.replicate (1 - (lg_sl ([.ref (ad p0)])).length) Slot.unset).toArray = ls at hl ⊢
  have hl : lv_has ls 1 [(0, .ref (ad p0))] := hl
  have hin11 : ∀ w ∈ wsX110, w ∈ wsX11_thrown := by decide +kernel
  have w_0 := hts (.fieldLink RX11 3 "MailSpoolModel" "thrown" "I") (by decide +kernel)
  have hGE := hGs.2.2.2.2.2.2.1
  have hGM := hGs.2.2.2.2.2.2.2.1
  unfold f_X11_thrown at hf
  refine lv_aload_n hx hb dX11_thrown_0 rfl (lv_at hl 0 rfl) ?_
  refine x_geti 1000 (ci := 10) (C := RX11) (T := TX11) (N := 30) 0 hC hin11 hW tp0 rfl rfl ⟨by decide, by decide, rfl, rfl⟩ rfl w_0 dX11_thrown_1 ?_
  obtain ⟨e1, e2⟩ := so2 hf
  subst e1
  subst e2
  exact W.iret (v := si S0 1000 p0) hx hb hr (fun t ht hWm => ⟨⟨rfl, by unfold QB; rw [ht]; exact ⟨hW, trivial⟩⟩, hS.F ht⟩) hS.2.2 dX11_thrown_4 hlk
set_option maxHeartbeats 4000000 in
set_option maxRecDepth 100000 in
theorem c_X11_in (l : Launch) (g : GP) (ad : Nat → Nat) (n : Nat) (K : Nat → Nat) (sz F : Nat) (S0 : St) (p0 : Int64) (p1 : Int64) (p2 : Int64) (r9 : Int32) (S9 : St) (hf : f_X11_in F S0 p0 p1 p2 = some (r9, S9)) : Met l yX11_in wsX11_in { frames := 0, cells := 0, slots := 0, locals := 0 } (va_Pc [.long (p0), .long (p1), .long (p2)] (PB g ad n K S0 sz)) (QR (some (.int r9)) (QB g ad n K S9 (dA ad n sz) (True)) (dA ad n sz)) 0 0 (dA ad n sz) := by
  refine Met.ofW (cc := cX11_in) (maxL := 6) (ret := (some .boolean)) (by decide) rfl ?_
  intro p e s m args below meth c s₁ B hml hv
  obtain ⟨rfl, hsz, hW, hK, hGs⟩ := x_start hv
  subst hsz
  have hx := B.exec
  have hb := B.bytes
  have hr := B.returns
  have hts := atoms_spec (ws := wsX11_in) B.pre
  have hown : s.vm.findClass RX11 = some m.cls := findClass_of_methodNamed B.named
  have hlk := B.notSynchronized
  have hC : Cx g p s m _ c cX11_in RX11 wsX11_in 6 := ⟨hx, hb, hml, hown, hts, hK⟩
  have hA : ∀ q : Nat, s.heap.size ≤ q → dA ad n s.heap.size q := fun q h => Or.inr h
  have hS : va_S (dA ad n s.heap.size) s.heap s.heap [] := va_S.rf
  have hl := lv_entry ([.long (p0), .long (p1), .long (p2)]) (n := 6) (Nat.le_of_ble_eq_true rfl)
  rw [lg_entry_eq]
  generalize (lg_sl ([.long (p0), .long (p1), .long (p2)]) ++ List.replicate (6 - (lg_sl ([.long (p0), .long (p1), .long (p2)])).length) Slot.unset).toArray = ls at hl ⊢
  have hl : lv_has ls 6 [(0, .long (p0)), (2, .long (p1)), (4, .long (p2))] := hl
  have hGE := hGs.2.2.2.2.2.2.1
  have hGM := hGs.2.2.2.2.2.2.2.1
  unfold f_X11_in at hf
  refine lv_lload_n hx hb dX11_in_0 rfl (lv_at hl 0 rfl) ?_
  refine lv_lload_n hx hb dX11_in_1 rfl (lv_at hl 1 rfl) ?_
  refine W.lcmp hx hb dX11_in_2 ?_
  refine lv_if_lt (tgt := 17) hx hb dX11_in_3 (by decide) (fun c1 => ?_) (fun c1 => ?_)
  · replace hf := ifT c1 hf
    refine lv_iconst (v := 0) hx hb dX11_in_17 (by decide) ?_
    obtain ⟨e1, e2⟩ := so2 hf
    subst e1
    subst e2
    exact W.zret (v := 0) hx hb hr rfl (fun t ht hWm => ⟨⟨rfl, by unfold QB; rw [ht]; exact ⟨hW, trivial⟩⟩, hS.F ht⟩) hS.2.2 dX11_in_18 hlk
  · replace hf := ifF c1 hf
    refine lv_lload_n hx hb dX11_in_6 rfl (lv_at hl 0 rfl) ?_
    refine lv_lload hx hb dX11_in_7 (lv_at hl 2 rfl) ?_
    refine W.lcmp hx hb dX11_in_9 ?_
    refine lv_if_gt (tgt := 17) hx hb dX11_in_10 (by decide) (fun c2 => ?_) (fun c2 => ?_)
    · replace hf := ifT c2 hf
      refine lv_iconst (v := 0) hx hb dX11_in_17 (by decide) ?_
      obtain ⟨e1, e2⟩ := so2 hf
      subst e1
      subst e2
      exact W.zret (v := 0) hx hb hr rfl (fun t ht hWm => ⟨⟨rfl, by unfold QB; rw [ht]; exact ⟨hW, trivial⟩⟩, hS.F ht⟩) hS.2.2 dX11_in_18 hlk
    · replace hf := ifF c2 hf
      refine lv_iconst (v := 1) hx hb dX11_in_13 (by decide) ?_
      refine lv_goto (tgt := 18) hx hb dX11_in_14 (by decide) ?_
      obtain ⟨e1, e2⟩ := so2 hf
      subst e1
      subst e2
      exact W.zret (v := 1) hx hb hr rfl (fun t ht hWm => ⟨⟨rfl, by unfold QB; rw [ht]; exact ⟨hW, trivial⟩⟩, hS.F ht⟩) hS.2.2 dX11_in_18 hlk
set_option maxHeartbeats 4000000 in
set_option maxRecDepth 100000 in
theorem c_X11_passes3 (l : Launch) (g : GP) (ad : Nat → Nat) (n : Nat) (K : Nat → Nat) (sz F : Nat) (S0 : St) (p0 : Nat) (p1 : Int32) (p2 : Int32) (p3 : Int32) (tp0 : p0 < n ∧ K p0 = 10) (r9 : Int32) (S9 : St) (hf : f_X11_passes3 F S0 p0 p1 p2 p3 = some (r9, S9)) : Met l yX11_passes3 wsX11_passes3 { frames := 0, cells := 0, slots := 0, locals := 0 } (va_Pc [.ref (ad p0), .int p1, .int p2, .int p3] (PB g ad n K S0 sz)) (QR (some (.int r9)) (QB g ad n K S9 (dA ad n sz) (True)) (dA ad n sz)) 0 0 (dA ad n sz) := by
  refine Met.ofW (cc := cX11_passes3) (maxL := 4) (ret := (some .boolean)) (by decide) rfl ?_
  intro p e s m args below meth c s₁ B hml hv
  obtain ⟨rfl, hsz, hW, hK, hGs⟩ := x_start hv
  subst hsz
  have hx := B.exec
  have hb := B.bytes
  have hr := B.returns
  have hts := atoms_spec (ws := wsX11_passes3) B.pre
  have hown : s.vm.findClass RX11 = some m.cls := findClass_of_methodNamed B.named
  have hlk := B.notSynchronized
  have hC : Cx g p s m _ c cX11_passes3 RX11 wsX11_passes3 4 := ⟨hx, hb, hml, hown, hts, hK⟩
  have hA : ∀ q : Nat, s.heap.size ≤ q → dA ad n s.heap.size q := fun q h => Or.inr h
  have hS : va_S (dA ad n s.heap.size) s.heap s.heap [] := va_S.rf
  have hl := lv_entry ([.ref (ad p0), .int p1, .int p2, .int p3]) (n := 4) (Nat.le_of_ble_eq_true rfl)
  rw [lg_entry_eq]
  generalize (lg_sl ([.ref (ad p0), .int p1, .int p2, .int p3]) ++ List.replicate (4 - (lg_sl ([.ref (ad p0), .int p1, .int p2, .int p3])).length) Slot.unset).toArray = ls at hl ⊢
  have hl : lv_has ls 4 [(0, .ref (ad p0)), (1, .int p1), (2, .int p2), (3, .int p3)] := hl
  have hin11 : ∀ w ∈ wsX110, w ∈ wsX11_passes3 := by decide +kernel
  have w_0 := hts (.fieldLink RX11 3 "MailSpoolModel" "thrown" "I") (by decide +kernel)
  have hGE := hGs.2.2.2.2.2.2.1
  have hGM := hGs.2.2.2.2.2.2.2.1
  have L26 : ∀ (S0 : St) (v0 : Nat) (s0 : Int32) (s1 : Nat) (tv0 : v0 < n ∧ K v0 = 10) (ts1 : s1 < n ∧ K s1 = 10) (H : Heap) (locs : List Loc) (ls : Array Slot), f_X11_passes3_L26 F S0 v0 s0 s1 = some (r9, S9) → Wb g ad n K S0 (dA ad n s.heap.size) H → va_S (dA ad n s.heap.size) s.heap H locs → lv_has ls 4 [(0, .ref (ad v0))] → W p l e (headSpec wsX11_passes3 { frames := 0, cells := 0, slots := 0, locals := 0 }).room s m (List.toArray [.ref (ad p0), .int p1, .int p2, .int p3]) below meth c H locs 0 0 (MQ below (QR (some (.int r9)) (QB g ad n K S9 (dA ad n s.heap.size) (True)) (dA ad n s.heap.size)) (List.toArray [.ref (ad p0), .int p1, .int p2, .int p3]) s 0 0 (dA ad n s.heap.size)) (F0 m 26 ls [.int s0, .ref (ad s1)]) := by
    intro S0 v0 s0 s1 tv0 ts1 H locs ls hf hW hS hl
    unfold f_X11_passes3_L26 at hf
    refine x_puti 1000 (ci := 10) (C := RX11) (T := TX11) (N := 30) (v := s0) (ty := .int) 0 hC hin11 tyX11_ok nmX11 hW hS ts1 rfl rfl ⟨by decide, by decide, rfl, rfl⟩ rfl w_0 rfl (by decide +kernel) rfl rfl dX11_passes3_26 (fun S3 H locs eS3 hW hS => ?_)
    replace hf := ltE hf S3 eS3
    refine lv_aload_n hx hb dX11_passes3_29 rfl (lv_at hl 0 rfl) ?_
    refine x_geti 1000 (ci := 10) (C := RX11) (T := TX11) (N := 30) 0 hC hin11 hW tv0 rfl rfl ⟨by decide, by decide, rfl, rfl⟩ rfl w_0 dX11_passes3_30 ?_
    refine lv_if_ne (tgt := 40) hx hb dX11_passes3_33 (by decide) (fun c4 => ?_) (fun c4 => ?_)
    · replace hf := ifT c4 hf
      refine lv_iconst (v := 0) hx hb dX11_passes3_40 (by decide) ?_
      obtain ⟨e1, e2⟩ := so2 hf
      subst e1
      subst e2
      exact W.zret (v := 0) hx hb hr rfl (fun t ht hWm => ⟨⟨rfl, by unfold QB; rw [ht]; exact ⟨hW, trivial⟩⟩, hS.F ht⟩) hS.2.2 dX11_passes3_41 hlk
    · replace hf := ifF (fun q => q c4) hf
      refine lv_iconst (v := 1) hx hb dX11_passes3_36 (by decide) ?_
      refine lv_goto (tgt := 41) hx hb dX11_passes3_37 (by decide) ?_
      obtain ⟨e1, e2⟩ := so2 hf
      subst e1
      subst e2
      exact W.zret (v := 1) hx hb hr rfl (fun t ht hWm => ⟨⟨rfl, by unfold QB; rw [ht]; exact ⟨hW, trivial⟩⟩, hS.F ht⟩) hS.2.2 dX11_passes3_41 hlk
  unfold f_X11_passes3 at hf
  refine lv_aload_n hx hb dX11_passes3_0 rfl (lv_at hl 0 rfl) ?_
  refine lv_iload_n hx hb dX11_passes3_1 rfl (lv_at hl 1 rfl) ?_
  refine lv_if_ne (tgt := 9) hx hb dX11_passes3_2 (by decide) (fun c5 => ?_) (fun c5 => ?_)
  · replace hf := ifT c5 hf
    refine lv_iload_n hx hb dX11_passes3_9 rfl (lv_at hl 2 rfl) ?_
    refine lv_if_ne (tgt := 17) hx hb dX11_passes3_10 (by decide) (fun c6 => ?_) (fun c6 => ?_)
    · replace hf := ifT c6 hf
      refine lv_iload_n hx hb dX11_passes3_17 rfl (lv_at hl 3 rfl) ?_
      refine lv_if_ne (tgt := 25) hx hb dX11_passes3_18 (by decide) (fun c7 => ?_) (fun c7 => ?_)
      · replace hf := ifT c7 hf
        refine lv_iconst (v := 0) hx hb dX11_passes3_25 (by decide) ?_
        exact L26 S0 p0 0 p0 tp0 tp0 _ _ _ hf hW hS (lv_sub hl [0] rfl)
      · replace hf := ifF (fun q => q c7) hf
        refine lv_iconst (v := 3) hx hb dX11_passes3_21 (by decide) ?_
        refine lv_goto (tgt := 26) hx hb dX11_passes3_22 (by decide) ?_
        exact L26 S0 p0 3 p0 tp0 tp0 _ _ _ hf hW hS (lv_sub hl [0] rfl)
    · replace hf := ifF (fun q => q c6) hf
      refine lv_iconst (v := 2) hx hb dX11_passes3_13 (by decide) ?_
      refine lv_goto (tgt := 26) hx hb dX11_passes3_14 (by decide) ?_
      exact L26 S0 p0 2 p0 tp0 tp0 _ _ _ hf hW hS (lv_sub hl [0] rfl)
  · replace hf := ifF (fun q => q c5) hf
    refine lv_iconst (v := 1) hx hb dX11_passes3_5 (by decide) ?_
    refine lv_goto (tgt := 26) hx hb dX11_passes3_6 (by decide) ?_
    exact L26 S0 p0 1 p0 tp0 tp0 _ _ _ hf hW hS (lv_sub hl [0] rfl)
set_option maxHeartbeats 4000000 in
set_option maxRecDepth 100000 in
theorem c_X11_passes2 (l : Launch) (g : GP) (ad : Nat → Nat) (n : Nat) (K : Nat → Nat) (sz F : Nat) (S0 : St) (p0 : Nat) (p1 : Int32) (p2 : Int32) (tp0 : p0 < n ∧ K p0 = 10) (r9 : Int32) (S9 : St) (hf : f_X11_passes2 F S0 p0 p1 p2 = some (r9, S9)) : Met l yX11_passes2 wsX11_passes2 { frames := 1, cells := 0, slots := 0, locals := 23 } (va_Pc [.ref (ad p0), .int p1, .int p2] (PB g ad n K S0 sz)) (QR (some (.int r9)) (QB g ad n K S9 (dA ad n sz) (True)) (dA ad n sz)) 0 0 (dA ad n sz) := by
  refine Met.ofW (cc := cX11_passes2) (maxL := 3) (ret := (some .boolean)) (by decide) rfl ?_
  intro p e s m args below meth c s₁ B hml hv
  obtain ⟨rfl, hsz, hW, hK, hGs⟩ := x_start hv
  subst hsz
  have hx := B.exec
  have hb := B.bytes
  have hr := B.returns
  have hts := atoms_spec (ws := wsX11_passes2) B.pre
  have hown : s.vm.findClass RX11 = some m.cls := findClass_of_methodNamed B.named
  have hlk := B.notSynchronized
  have hC : Cx g p s m _ c cX11_passes2 RX11 wsX11_passes2 3 := ⟨hx, hb, hml, hown, hts, hK⟩
  have hA : ∀ q : Nat, s.heap.size ≤ q → dA ad n s.heap.size q := fun q h => Or.inr h
  have hS : va_S (dA ad n s.heap.size) s.heap s.heap [] := va_S.rf
  have hl := lv_entry ([.ref (ad p0), .int p1, .int p2]) (n := 3) (Nat.le_of_ble_eq_true rfl)
  rw [lg_entry_eq]
  generalize (lg_sl ([.ref (ad p0), .int p1, .int p2]) ++ List.replicate (3 - (lg_sl ([.ref (ad p0), .int p1, .int p2])).length) Slot.unset).toArray = ls at hl ⊢
  have hl : lv_has ls 3 [(0, .ref (ad p0)), (1, .int p1), (2, .int p2)] := hl
  have hGE := hGs.2.2.2.2.2.2.1
  have hGM := hGs.2.2.2.2.2.2.2.1
  unfold f_X11_passes2 at hf
  refine lv_aload_n hx hb dX11_passes2_0 rfl (lv_at hl 0 rfl) ?_
  refine lv_iload_n hx hb dX11_passes2_1 rfl (lv_at hl 1 rfl) ?_
  refine lv_iload_n hx hb dX11_passes2_2 rfl (lv_at hl 2 rfl) ?_
  refine lv_iconst (v := 1) hx hb dX11_passes2_3 (by decide) ?_
  replace hf := obE hf
  obtain ⟨z1, hz1, hf⟩ := hf
  obtain ⟨r3, S2⟩ := z1
  replace hf := ltE (ltE hf r3 rfl) S2 rfl
  refine x_callV (As := [.int p1, .int p2, .int 1]) (rest := []) (o := (some (.int r3))) (S1 := S2) hC hl.1 hW hS hGs hA tp0 rfl (show vwCl[10]? = some (RX11, TX11, 30) ∧ 10 < 11 from ⟨rfl, by decide⟩) (c_X11_passes3 l g ad n K s.heap.size F S0 p0 p1 p2 ((1 : Int32)) tp0 r3 S2 hz1) (cwV 3 hts gX11_passes2_X11_passes3 rfl rfl rfl (by decide +kernel) ⟨Nat.le_of_ble_eq_true rfl, Nat.le_of_ble_eq_true rfl⟩) rfl rfl (Nat.le_of_ble_eq_true rfl) dX11_passes2_4 ⟨Nat.le_of_ble_eq_true rfl, Nat.le_of_ble_eq_true rfl⟩ (fun H locs hPz1 hW hS => ?_)
  refine W.eq (g2 := F0 m 7 ls [.int r3]) rfl ?_
  replace hf := ckE hf
  obtain ⟨h5, hf⟩ := hf
  obtain ⟨e1, e2⟩ := so2 hf
  subst e1
  subst e2
  exact W.zret (v := r3) hx hb hr (zn h5) (fun t ht hWm => ⟨⟨rfl, by unfold QB; rw [ht]; exact ⟨hW, trivial⟩⟩, hS.F ht⟩) hS.2.2 dX11_passes2_7 hlk
set_option maxHeartbeats 4000000 in
set_option maxRecDepth 100000 in
theorem c_X11_passes (l : Launch) (g : GP) (ad : Nat → Nat) (n : Nat) (K : Nat → Nat) (sz F : Nat) (S0 : St) (p0 : Nat) (p1 : Int32) (tp0 : p0 < n ∧ K p0 = 10) (r9 : Int32) (S9 : St) (hf : f_X11_passes F S0 p0 p1 = some (r9, S9)) : Met l yX11_passes wsX11_passes { frames := 1, cells := 0, slots := 0, locals := 23 } (va_Pc [.ref (ad p0), .int p1] (PB g ad n K S0 sz)) (QR (some (.int r9)) (QB g ad n K S9 (dA ad n sz) (True)) (dA ad n sz)) 0 0 (dA ad n sz) := by
  refine Met.ofW (cc := cX11_passes) (maxL := 2) (ret := (some .boolean)) (by decide) rfl ?_
  intro p e s m args below meth c s₁ B hml hv
  obtain ⟨rfl, hsz, hW, hK, hGs⟩ := x_start hv
  subst hsz
  have hx := B.exec
  have hb := B.bytes
  have hr := B.returns
  have hts := atoms_spec (ws := wsX11_passes) B.pre
  have hown : s.vm.findClass RX11 = some m.cls := findClass_of_methodNamed B.named
  have hlk := B.notSynchronized
  have hC : Cx g p s m _ c cX11_passes RX11 wsX11_passes 2 := ⟨hx, hb, hml, hown, hts, hK⟩
  have hA : ∀ q : Nat, s.heap.size ≤ q → dA ad n s.heap.size q := fun q h => Or.inr h
  have hS : va_S (dA ad n s.heap.size) s.heap s.heap [] := va_S.rf
  have hl := lv_entry ([.ref (ad p0), .int p1]) (n := 2) (Nat.le_of_ble_eq_true rfl)
  rw [lg_entry_eq]
  generalize (lg_sl ([.ref (ad p0), .int p1]) ++ List.replicate (2 - (lg_sl ([.ref (ad p0), .int p1])).length) Slot.unset).toArray = ls at hl ⊢
  have hl : lv_has ls 2 [(0, .ref (ad p0)), (1, .int p1)] := hl
  have hGE := hGs.2.2.2.2.2.2.1
  have hGM := hGs.2.2.2.2.2.2.2.1
  unfold f_X11_passes at hf
  refine lv_aload_n hx hb dX11_passes_0 rfl (lv_at hl 0 rfl) ?_
  refine lv_iload_n hx hb dX11_passes_1 rfl (lv_at hl 1 rfl) ?_
  refine lv_iconst (v := 1) hx hb dX11_passes_2 (by decide) ?_
  refine lv_iconst (v := 1) hx hb dX11_passes_3 (by decide) ?_
  replace hf := obE hf
  obtain ⟨z1, hz1, hf⟩ := hf
  obtain ⟨r3, S2⟩ := z1
  replace hf := ltE (ltE hf r3 rfl) S2 rfl
  refine x_callV (As := [.int p1, .int 1, .int 1]) (rest := []) (o := (some (.int r3))) (S1 := S2) hC hl.1 hW hS hGs hA tp0 rfl (show vwCl[10]? = some (RX11, TX11, 30) ∧ 10 < 11 from ⟨rfl, by decide⟩) (c_X11_passes3 l g ad n K s.heap.size F S0 p0 p1 ((1 : Int32)) ((1 : Int32)) tp0 r3 S2 hz1) (cwV 3 hts gX11_passes_X11_passes3 rfl rfl rfl (by decide +kernel) ⟨Nat.le_of_ble_eq_true rfl, Nat.le_of_ble_eq_true rfl⟩) rfl rfl (Nat.le_of_ble_eq_true rfl) dX11_passes_4 ⟨Nat.le_of_ble_eq_true rfl, Nat.le_of_ble_eq_true rfl⟩ (fun H locs hPz1 hW hS => ?_)
  refine W.eq (g2 := F0 m 7 ls [.int r3]) rfl ?_
  replace hf := ckE hf
  obtain ⟨h5, hf⟩ := hf
  obtain ⟨e1, e2⟩ := so2 hf
  subst e1
  subst e2
  exact W.zret (v := r3) hx hb hr (zn h5) (fun t ht hWm => ⟨⟨rfl, by unfold QB; rw [ht]; exact ⟨hW, trivial⟩⟩, hS.F ht⟩) hS.2.2 dX11_passes_7 hlk
set_option maxHeartbeats 4000000 in
set_option maxRecDepth 100000 in
theorem c_X11_hasBit (l : Launch) (g : GP) (ad : Nat → Nat) (n : Nat) (K : Nat → Nat) (sz F : Nat) (S0 : St) (p0 : Int32) (p1 : Int32) (r9 : Int32) (S9 : St) (hf : f_X11_hasBit F S0 p0 p1 = some (r9, S9)) : Met l yX11_hasBit wsX11_hasBit { frames := 0, cells := 0, slots := 0, locals := 0 } (va_Pc [.int p0, .int p1] (PB g ad n K S0 sz)) (QR (some (.int r9)) (QB g ad n K S9 (dA ad n sz) (True)) (dA ad n sz)) 0 0 (dA ad n sz) := by
  refine Met.ofW (cc := cX11_hasBit) (maxL := 2) (ret := (some .boolean)) (by decide) rfl ?_
  intro p e s m args below meth c s₁ B hml hv
  obtain ⟨rfl, hsz, hW, hK, hGs⟩ := x_start hv
  subst hsz
  have hx := B.exec
  have hb := B.bytes
  have hr := B.returns
  have hts := atoms_spec (ws := wsX11_hasBit) B.pre
  have hown : s.vm.findClass RX11 = some m.cls := findClass_of_methodNamed B.named
  have hlk := B.notSynchronized
  have hC : Cx g p s m _ c cX11_hasBit RX11 wsX11_hasBit 2 := ⟨hx, hb, hml, hown, hts, hK⟩
  have hA : ∀ q : Nat, s.heap.size ≤ q → dA ad n s.heap.size q := fun q h => Or.inr h
  have hS : va_S (dA ad n s.heap.size) s.heap s.heap [] := va_S.rf
  have hl := lv_entry ([.int p0, .int p1]) (n := 2) (Nat.le_of_ble_eq_true rfl)
  rw [lg_entry_eq]
  generalize (lg_sl ([.int p0, .int p1]) ++ List.replicate (2 - (lg_sl ([.int p0, .int p1])).length) Slot.unset).toArray = ls at hl ⊢
  have hl : lv_has ls 2 [(0, .int p0), (1, .int p1)] := hl
  have hGE := hGs.2.2.2.2.2.2.1
  have hGM := hGs.2.2.2.2.2.2.2.1
  unfold f_X11_hasBit at hf
  refine lv_iload_n hx hb dX11_hasBit_0 rfl (lv_at hl 0 rfl) ?_
  refine lv_iload_n hx hb dX11_hasBit_1 rfl (lv_at hl 1 rfl) ?_
  refine lv_ishr hx hb dX11_hasBit_2 ?_
  refine lv_iconst (v := 1) hx hb dX11_hasBit_3 (by decide) ?_
  refine lv_iand hx hb dX11_hasBit_4 ?_
  refine lv_iconst (v := 1) hx hb dX11_hasBit_5 (by decide) ?_
  refine lv_icmp_ne (tgt := 13) hx hb dX11_hasBit_6 (by decide) (fun c1 => ?_) (fun c1 => ?_)
  · replace hf := ifT c1 hf
    refine lv_iconst (v := 0) hx hb dX11_hasBit_13 (by decide) ?_
    obtain ⟨e1, e2⟩ := so2 hf
    subst e1
    subst e2
    exact W.zret (v := 0) hx hb hr rfl (fun t ht hWm => ⟨⟨rfl, by unfold QB; rw [ht]; exact ⟨hW, trivial⟩⟩, hS.F ht⟩) hS.2.2 dX11_hasBit_14 hlk
  · replace hf := ifF (fun q => q c1) hf
    refine lv_iconst (v := 1) hx hb dX11_hasBit_9 (by decide) ?_
    refine lv_goto (tgt := 14) hx hb dX11_hasBit_10 (by decide) ?_
    obtain ⟨e1, e2⟩ := so2 hf
    subst e1
    subst e2
    exact W.zret (v := 1) hx hb hr rfl (fun t ht hWm => ⟨⟨rfl, by unfold QB; rw [ht]; exact ⟨hW, trivial⟩⟩, hS.F ht⟩) hS.2.2 dX11_hasBit_14 hlk
set_option maxHeartbeats 4000000 in
set_option maxRecDepth 100000 in
theorem c_X11_init (l : Launch) (g : GP) (ad : Nat → Nat) (n : Nat) (K : Nat → Nat) (sz F : Nat) (S0 : St) (p0 : Nat) (tp0 : p0 < n ∧ K p0 = 10) (S9 : St) (n9 : Nat) (hf : f_X11_init F S0 n p0 = some (S9, n9)) : Met l yX11_init wsX11_init { frames := 1, cells := 12, slots := 735091, locals := 20 } (va_Pc [.ref (ad p0)] (PB g ad n K S0 sz)) (QA ad K n (fun _ => none) g n9 S9 (dA ad n sz) (fun _ => True)) 12 735091 (dA ad n sz) := by
  refine Met.ofW (cc := cX11_init) (maxL := 1) (ret := none) (by decide) rfl ?_
  intro p e s m args below meth c s₁ B hml hv
  obtain ⟨rfl, hsz, hW, hK, hGs⟩ := x_start hv
  subst hsz
  have hx := B.exec
  have hb := B.bytes
  have hr := B.returns
  have hts := atoms_spec (ws := wsX11_init) B.pre
  have hown : s.vm.findClass RX11 = some m.cls := findClass_of_methodNamed B.named
  have hlk := B.notSynchronized
  have hinI : meth.name = "<init>" := (name_of_methodNamed B.named B.method).1
  have hC : Cx g p s m _ c cX11_init RX11 wsX11_init 1 := ⟨hx, hb, hml, hown, hts, hK⟩
  have hA : ∀ q : Nat, s.heap.size ≤ q → dA ad n s.heap.size q := fun q h => Or.inr h
  have hS : va_S (dA ad n s.heap.size) s.heap s.heap [] := va_S.rf
  have hl := lv_entry ([.ref (ad p0)]) (n := 1) (Nat.le_of_ble_eq_true rfl)
  rw [lg_entry_eq]
  generalize (lg_sl ([.ref (ad p0)]) ++ List.replicate (1 - (lg_sl ([.ref (ad p0)])).length) Slot.unset).toArray = ls at hl ⊢
  have hl : lv_has ls 1 [(0, .ref (ad p0))] := hl
  have hin11 : ∀ w ∈ wsX110, w ∈ wsX11_init := by decide +kernel
  have w_0 := hts (.methodLink RX11 11 objectInit) (by decide +kernel)
  have w_1 := hts (.instanceMethod objectInit) (by decide +kernel)
  have w_2 := hts (.code objectInit ⟨#[0xb1]⟩ 1 none) (by decide +kernel)
  have w_3 := hts (.arrayClass .int) (by decide +kernel)
  have w_4 := hts (.fieldLink RX11 17 "MailSpoolModel" "net" "[I") (by decide +kernel)
  have w_5 := hts (.fieldLink RX11 21 "MailSpoolModel" "draft" "[I") (by decide +kernel)
  have w_6 := hts (.constant RX11 24 (96000)) (by decide +kernel)
  have w_7 := hts (.arrayClass .byte) (by decide +kernel)
  have w_8 := hts (.fieldLink RX11 25 "MailSpoolModel" "bytes" "[B") (by decide +kernel)
  have w_9 := hts (.fieldLink RX11 29 "MailSpoolModel" "now" "[I") (by decide +kernel)
  have w_10 := hts (.fieldLink RX11 32 "MailSpoolModel" "input" "[B") (by decide +kernel)
  have w_11 := hts (.fieldLink RX11 35 "MailSpoolModel" "errorPlace" "I") (by decide +kernel)
  have w_12 := hts (.fieldLink RX11 38 "MailSpoolModel" "wanted" "[I") (by decide +kernel)
  have w_13 := hts (.fieldLink RX11 41 "MailSpoolModel" "partStart" "[I") (by decide +kernel)
  have w_14 := hts (.fieldLink RX11 44 "MailSpoolModel" "livesIn" "[I") (by decide +kernel)
  have w_15 := hts (.fieldLink RX11 47 "MailSpoolModel" "seenIn" "[I") (by decide +kernel)
  have w_16 := hts (.fieldLink RX11 50 "MailSpoolModel" "aside" "[I") (by decide +kernel)
  have w_17 := hts (.constant RX11 53 (38346)) (by decide +kernel)
  have w_18 := hts (.fieldLink RX11 54 "MailSpoolModel" "history" "[I") (by decide +kernel)
  have w_19 := hts (.constant RX11 57 (576000)) (by decide +kernel)
  have w_20 := hts (.fieldLink RX11 58 "MailSpoolModel" "historyBytes" "[B") (by decide +kernel)
  have w_21 := hts (.fieldLink RX11 61 "MailSpoolModel" "output" "[B") (by decide +kernel)
  have hGE := hGs.2.2.2.2.2.2.1
  have hGM := hGs.2.2.2.2.2.2.2.1
  unfold f_X11_init at hf
  refine lv_aload_n hx hb dX11_init_0 rfl (lv_at hl 0 rfl) ?_
  refine W.objInit hx hb hown w_0 w_1 w_2 rfl (by rw [hml]; exact hl.1) rfl dX11_init_1 (Nat.le_of_ble_eq_true rfl) (Nat.le_of_ble_eq_true rfl) ?_
  refine W.eq (g2 := F0 m 4 ls []) rfl ?_
  refine lv_aload_n hx hb dX11_init_4 rfl (lv_at hl 0 rfl) ?_
  refine lv_sipush (v := 6391) hx hb dX11_init_5 (by decide) ?_
  refine x_newaI (len := 6391) hC w_3 hW hS hA (by decide) (by decide) (Nat.le_of_ble_eq_true rfl) (Nat.le_of_ble_eq_true rfl) (Nat.le_of_ble_eq_true rfl) dX11_init_8 (fun q1 ad2 K3 S4 H eS4 hag6 eqq1 ekq1 hW hS => ?_)
  replace hf := ltE hf S4 eS4
  obtain ⟨n5, en5⟩ : ∃ z, z = n + 1 := ⟨_, rfl⟩
  rw [← en5] at hag6 hW
  replace hf := ltE hf n5 en5
  have tq1 : n < n5 ∧ K3 n = 12 := ⟨by omega, ekq1⟩
  refine W.widen (k := 1) (n := 6391) (Nat.le_of_ble_eq_true rfl) (Nat.le_of_ble_eq_true rfl) ?_
  refine x_putrF 1001 (ci := 10) (C := RX11) (T := TX11) (N := 30) (ty := (.array .int)) 1 hC hin11 tyX11_ok nmX11 hW hS (hag6.t tp0) (hag6.e tp0 rfl) tq1 eqq1 rfl rfl ⟨by decide, by decide, rfl, rfl⟩ rfl w_4 rfl hinI rfl (by decide +kernel) rfl rfl dX11_init_10 (fun S7 H locs eS7 hW hS => ?_)
  replace hf := ltE hf S7 eS7
  refine lv_aload_n hx hb dX11_init_13 rfl (lv_at hl 0 rfl) ?_
  refine lv_sipush (v := 6391) hx hb dX11_init_14 (by decide) ?_
  refine x_newaI (len := 6391) hC w_3 hW hS hA (by decide) (by decide) (Nat.le_of_ble_eq_true rfl) (Nat.le_of_ble_eq_true rfl) (Nat.le_of_ble_eq_true rfl) dX11_init_17 (fun q8 ad9 K10 S11 H eS11 hag13 eqq8 ekq8 hW hS => ?_)
  replace hf := ltE hf S11 eS11
  obtain ⟨n12, en12⟩ : ∃ z, z = n5 + 1 := ⟨_, rfl⟩
  rw [← en12] at hag13 hW
  replace hf := ltE hf n12 en12
  have tq8 : n5 < n12 ∧ K10 n5 = 12 := ⟨by omega, ekq8⟩
  refine W.widen (k := 2) (n := 12782) (Nat.le_of_ble_eq_true rfl) (Nat.le_of_ble_eq_true rfl) ?_
  refine x_putrF 1002 (ci := 10) (C := RX11) (T := TX11) (N := 30) (ty := (.array .int)) 2 hC hin11 tyX11_ok nmX11 hW hS (hag13.t (hag6.t tp0)) (hag13.e (hag6.t tp0) (hag6.e tp0 rfl)) tq8 eqq8 rfl rfl ⟨by decide, by decide, rfl, rfl⟩ rfl w_5 rfl hinI rfl (by decide +kernel) rfl rfl dX11_init_19 (fun S14 H locs eS14 hW hS => ?_)
  replace hf := ltE hf S14 eS14
  refine lv_aload_n hx hb dX11_init_22 rfl (lv_at hl 0 rfl) ?_
  refine lv_ldc (v := 96000) hx hb hown w_6 dX11_init_23 ?_
  refine x_newaB (len := 96000) hC w_7 hW hS hA (by decide) (by decide) (Nat.le_of_ble_eq_true rfl) (Nat.le_of_ble_eq_true rfl) (Nat.le_of_ble_eq_true rfl) dX11_init_25 (fun q15 ad16 K17 S18 H eS18 hag20 eqq15 ekq15 hW hS => ?_)
  replace hf := ltE hf S18 eS18
  obtain ⟨n19, en19⟩ : ∃ z, z = n12 + 1 := ⟨_, rfl⟩
  rw [← en19] at hag20 hW
  replace hf := ltE hf n19 en19
  have tq15 : n12 < n19 ∧ K17 n12 = 11 := ⟨by omega, ekq15⟩
  refine W.widen (k := 3) (n := 108782) (Nat.le_of_ble_eq_true rfl) (Nat.le_of_ble_eq_true rfl) ?_
  refine x_putrF 1003 (ci := 10) (C := RX11) (T := TX11) (N := 30) (ty := (.array .byte)) 3 hC hin11 tyX11_ok nmX11 hW hS (hag20.t (hag13.t (hag6.t tp0))) (hag20.e (hag13.t (hag6.t tp0)) (hag13.e (hag6.t tp0) (hag6.e tp0 rfl))) tq15 eqq15 rfl rfl ⟨by decide, by decide, rfl, rfl⟩ rfl w_8 rfl hinI rfl (by decide +kernel) rfl rfl dX11_init_27 (fun S21 H locs eS21 hW hS => ?_)
  replace hf := ltE hf S21 eS21
  refine lv_aload_n hx hb dX11_init_30 rfl (lv_at hl 0 rfl) ?_
  refine lv_aload_n hx hb dX11_init_31 rfl (lv_at hl 0 rfl) ?_
  replace hf := obE hf
  obtain ⟨j22, qj22, hf⟩ := hf
  have tj22 := x_rt hW qj22 12 ⟨by decide, rfl⟩
  refine x_getr 1001 (ci := 10) (C := RX11) (T := TX11) (N := 30) 1 hC hin11 hW (hag20.t (hag13.t (hag6.t tp0))) (hag20.e (hag13.t (hag6.t tp0)) (hag13.e (hag6.t tp0) (hag6.e tp0 rfl))) rfl ⟨by decide, by decide, rfl, rfl⟩ rfl w_4 dX11_init_32 qj22 ?_
  refine x_putr 1004 (ci := 10) (C := RX11) (T := TX11) (N := 30) (ty := (.array .int)) 4 hC hin11 tyX11_ok nmX11 hW hS (hag20.t (hag13.t (hag6.t tp0))) (hag20.e (hag13.t (hag6.t tp0)) (hag13.e (hag6.t tp0) (hag6.e tp0 rfl))) tj22 rfl rfl rfl ⟨by decide, by decide, rfl, rfl⟩ rfl w_9 rfl (by decide +kernel) rfl rfl dX11_init_35 (fun S23 H locs eS23 hW hS => ?_)
  replace hf := ltE hf S23 eS23
  refine lv_aload_n hx hb dX11_init_38 rfl (lv_at hl 0 rfl) ?_
  refine lv_sipush (v := 1200) hx hb dX11_init_39 (by decide) ?_
  refine x_newaB (len := 1200) hC w_7 hW hS hA (by decide) (by decide) (Nat.le_of_ble_eq_true rfl) (Nat.le_of_ble_eq_true rfl) (Nat.le_of_ble_eq_true rfl) dX11_init_42 (fun q24 ad25 K26 S27 H eS27 hag29 eqq24 ekq24 hW hS => ?_)
  replace hf := ltE hf S27 eS27
  obtain ⟨n28, en28⟩ : ∃ z, z = n19 + 1 := ⟨_, rfl⟩
  rw [← en28] at hag29 hW
  replace hf := ltE hf n28 en28
  have tq24 : n19 < n28 ∧ K26 n19 = 11 := ⟨by omega, ekq24⟩
  refine W.widen (k := 4) (n := 109982) (Nat.le_of_ble_eq_true rfl) (Nat.le_of_ble_eq_true rfl) ?_
  refine x_putrF 1006 (ci := 10) (C := RX11) (T := TX11) (N := 30) (ty := (.array .byte)) 6 hC hin11 tyX11_ok nmX11 hW hS (hag29.t (hag20.t (hag13.t (hag6.t tp0)))) (hag29.e (hag20.t (hag13.t (hag6.t tp0))) (hag20.e (hag13.t (hag6.t tp0)) (hag13.e (hag6.t tp0) (hag6.e tp0 rfl)))) tq24 eqq24 rfl rfl ⟨by decide, by decide, rfl, rfl⟩ rfl w_10 rfl hinI rfl (by decide +kernel) rfl rfl dX11_init_44 (fun S30 H locs eS30 hW hS => ?_)
  replace hf := ltE hf S30 eS30
  refine lv_aload_n hx hb dX11_init_47 rfl (lv_at hl 0 rfl) ?_
  refine lv_iconst (v := -1) hx hb dX11_init_48 (by decide) ?_
  refine x_puti 1014 (ci := 10) (C := RX11) (T := TX11) (N := 30) (v := (-1)) (ty := .int) 14 hC hin11 tyX11_ok nmX11 hW hS (hag29.t (hag20.t (hag13.t (hag6.t tp0)))) (hag29.e (hag20.t (hag13.t (hag6.t tp0))) (hag20.e (hag13.t (hag6.t tp0)) (hag13.e (hag6.t tp0) (hag6.e tp0 rfl)))) rfl ⟨by decide, by decide, rfl, rfl⟩ rfl w_11 rfl (by decide +kernel) rfl rfl dX11_init_49 (fun S31 H locs eS31 hW hS => ?_)
  replace hf := ltE hf S31 eS31
  refine lv_aload_n hx hb dX11_init_52 rfl (lv_at hl 0 rfl) ?_
  refine lv_bipush (v := 10) hx hb dX11_init_53 (by decide) ?_
  refine x_newaI (len := 10) hC w_3 hW hS hA (by decide) (by decide) (Nat.le_of_ble_eq_true rfl) (Nat.le_of_ble_eq_true rfl) (Nat.le_of_ble_eq_true rfl) dX11_init_55 (fun q32 ad33 K34 S35 H eS35 hag37 eqq32 ekq32 hW hS => ?_)
  replace hf := ltE hf S35 eS35
  obtain ⟨n36, en36⟩ : ∃ z, z = n28 + 1 := ⟨_, rfl⟩
  rw [← en36] at hag37 hW
  replace hf := ltE hf n36 en36
  have tq32 : n28 < n36 ∧ K34 n28 = 12 := ⟨by omega, ekq32⟩
  refine W.widen (k := 5) (n := 109992) (Nat.le_of_ble_eq_true rfl) (Nat.le_of_ble_eq_true rfl) ?_
  refine x_putrF 1015 (ci := 10) (C := RX11) (T := TX11) (N := 30) (ty := (.array .int)) 15 hC hin11 tyX11_ok nmX11 hW hS (hag37.t (hag29.t (hag20.t (hag13.t (hag6.t tp0))))) (hag37.e (hag29.t (hag20.t (hag13.t (hag6.t tp0)))) (hag29.e (hag20.t (hag13.t (hag6.t tp0))) (hag20.e (hag13.t (hag6.t tp0)) (hag13.e (hag6.t tp0) (hag6.e tp0 rfl))))) tq32 eqq32 rfl rfl ⟨by decide, by decide, rfl, rfl⟩ rfl w_12 rfl hinI rfl (by decide +kernel) rfl rfl dX11_init_57 (fun S38 H locs eS38 hW hS => ?_)
  replace hf := ltE hf S38 eS38
  refine lv_aload_n hx hb dX11_init_60 rfl (lv_at hl 0 rfl) ?_
  refine lv_sipush (v := 1202) hx hb dX11_init_61 (by decide) ?_
  refine x_newaI (len := 1202) hC w_3 hW hS hA (by decide) (by decide) (Nat.le_of_ble_eq_true rfl) (Nat.le_of_ble_eq_true rfl) (Nat.le_of_ble_eq_true rfl) dX11_init_64 (fun q39 ad40 K41 S42 H eS42 hag44 eqq39 ekq39 hW hS => ?_)
  replace hf := ltE hf S42 eS42
  obtain ⟨n43, en43⟩ : ∃ z, z = n36 + 1 := ⟨_, rfl⟩
  rw [← en43] at hag44 hW
  replace hf := ltE hf n43 en43
  have tq39 : n36 < n43 ∧ K41 n36 = 12 := ⟨by omega, ekq39⟩
  refine W.widen (k := 6) (n := 111194) (Nat.le_of_ble_eq_true rfl) (Nat.le_of_ble_eq_true rfl) ?_
  refine x_putrF 1017 (ci := 10) (C := RX11) (T := TX11) (N := 30) (ty := (.array .int)) 17 hC hin11 tyX11_ok nmX11 hW hS (hag44.t (hag37.t (hag29.t (hag20.t (hag13.t (hag6.t tp0)))))) (hag44.e (hag37.t (hag29.t (hag20.t (hag13.t (hag6.t tp0))))) (hag37.e (hag29.t (hag20.t (hag13.t (hag6.t tp0)))) (hag29.e (hag20.t (hag13.t (hag6.t tp0))) (hag20.e (hag13.t (hag6.t tp0)) (hag13.e (hag6.t tp0) (hag6.e tp0 rfl)))))) tq39 eqq39 rfl rfl ⟨by decide, by decide, rfl, rfl⟩ rfl w_13 rfl hinI rfl (by decide +kernel) rfl rfl dX11_init_66 (fun S45 H locs eS45 hW hS => ?_)
  replace hf := ltE hf S45 eS45
  refine lv_aload_n hx hb dX11_init_69 rfl (lv_at hl 0 rfl) ?_
  refine lv_bipush (v := 80) hx hb dX11_init_70 (by decide) ?_
  refine x_newaI (len := 80) hC w_3 hW hS hA (by decide) (by decide) (Nat.le_of_ble_eq_true rfl) (Nat.le_of_ble_eq_true rfl) (Nat.le_of_ble_eq_true rfl) dX11_init_72 (fun q46 ad47 K48 S49 H eS49 hag51 eqq46 ekq46 hW hS => ?_)
  replace hf := ltE hf S49 eS49
  obtain ⟨n50, en50⟩ : ∃ z, z = n43 + 1 := ⟨_, rfl⟩
  rw [← en50] at hag51 hW
  replace hf := ltE hf n50 en50
  have tq46 : n43 < n50 ∧ K48 n43 = 12 := ⟨by omega, ekq46⟩
  refine W.widen (k := 7) (n := 111274) (Nat.le_of_ble_eq_true rfl) (Nat.le_of_ble_eq_true rfl) ?_
  refine x_putrF 1019 (ci := 10) (C := RX11) (T := TX11) (N := 30) (ty := (.array .int)) 19 hC hin11 tyX11_ok nmX11 hW hS (hag51.t (hag44.t (hag37.t (hag29.t (hag20.t (hag13.t (hag6.t tp0))))))) (hag51.e (hag44.t (hag37.t (hag29.t (hag20.t (hag13.t (hag6.t tp0)))))) (hag44.e (hag37.t (hag29.t (hag20.t (hag13.t (hag6.t tp0))))) (hag37.e (hag29.t (hag20.t (hag13.t (hag6.t tp0)))) (hag29.e (hag20.t (hag13.t (hag6.t tp0))) (hag20.e (hag13.t (hag6.t tp0)) (hag13.e (hag6.t tp0) (hag6.e tp0 rfl))))))) tq46 eqq46 rfl rfl ⟨by decide, by decide, rfl, rfl⟩ rfl w_14 rfl hinI rfl (by decide +kernel) rfl rfl dX11_init_74 (fun S52 H locs eS52 hW hS => ?_)
  replace hf := ltE hf S52 eS52
  refine lv_aload_n hx hb dX11_init_77 rfl (lv_at hl 0 rfl) ?_
  refine lv_bipush (v := 80) hx hb dX11_init_78 (by decide) ?_
  refine x_newaI (len := 80) hC w_3 hW hS hA (by decide) (by decide) (Nat.le_of_ble_eq_true rfl) (Nat.le_of_ble_eq_true rfl) (Nat.le_of_ble_eq_true rfl) dX11_init_80 (fun q53 ad54 K55 S56 H eS56 hag58 eqq53 ekq53 hW hS => ?_)
  replace hf := ltE hf S56 eS56
  obtain ⟨n57, en57⟩ : ∃ z, z = n50 + 1 := ⟨_, rfl⟩
  rw [← en57] at hag58 hW
  replace hf := ltE hf n57 en57
  have tq53 : n50 < n57 ∧ K55 n50 = 12 := ⟨by omega, ekq53⟩
  refine W.widen (k := 8) (n := 111354) (Nat.le_of_ble_eq_true rfl) (Nat.le_of_ble_eq_true rfl) ?_
  refine x_putrF 1020 (ci := 10) (C := RX11) (T := TX11) (N := 30) (ty := (.array .int)) 20 hC hin11 tyX11_ok nmX11 hW hS (hag58.t (hag51.t (hag44.t (hag37.t (hag29.t (hag20.t (hag13.t (hag6.t tp0)))))))) (hag58.e (hag51.t (hag44.t (hag37.t (hag29.t (hag20.t (hag13.t (hag6.t tp0))))))) (hag51.e (hag44.t (hag37.t (hag29.t (hag20.t (hag13.t (hag6.t tp0)))))) (hag44.e (hag37.t (hag29.t (hag20.t (hag13.t (hag6.t tp0))))) (hag37.e (hag29.t (hag20.t (hag13.t (hag6.t tp0)))) (hag29.e (hag20.t (hag13.t (hag6.t tp0))) (hag20.e (hag13.t (hag6.t tp0)) (hag13.e (hag6.t tp0) (hag6.e tp0 rfl)))))))) tq53 eqq53 rfl rfl ⟨by decide, by decide, rfl, rfl⟩ rfl w_15 rfl hinI rfl (by decide +kernel) rfl rfl dX11_init_82 (fun S59 H locs eS59 hW hS => ?_)
  replace hf := ltE hf S59 eS59
  refine lv_aload_n hx hb dX11_init_85 rfl (lv_at hl 0 rfl) ?_
  refine lv_sipush (v := 6391) hx hb dX11_init_86 (by decide) ?_
  refine x_newaI (len := 6391) hC w_3 hW hS hA (by decide) (by decide) (Nat.le_of_ble_eq_true rfl) (Nat.le_of_ble_eq_true rfl) (Nat.le_of_ble_eq_true rfl) dX11_init_89 (fun q60 ad61 K62 S63 H eS63 hag65 eqq60 ekq60 hW hS => ?_)
  replace hf := ltE hf S63 eS63
  obtain ⟨n64, en64⟩ : ∃ z, z = n57 + 1 := ⟨_, rfl⟩
  rw [← en64] at hag65 hW
  replace hf := ltE hf n64 en64
  have tq60 : n57 < n64 ∧ K62 n57 = 12 := ⟨by omega, ekq60⟩
  refine W.widen (k := 9) (n := 117745) (Nat.le_of_ble_eq_true rfl) (Nat.le_of_ble_eq_true rfl) ?_
  refine x_putrF 1023 (ci := 10) (C := RX11) (T := TX11) (N := 30) (ty := (.array .int)) 23 hC hin11 tyX11_ok nmX11 hW hS (hag65.t (hag58.t (hag51.t (hag44.t (hag37.t (hag29.t (hag20.t (hag13.t (hag6.t tp0))))))))) (hag65.e (hag58.t (hag51.t (hag44.t (hag37.t (hag29.t (hag20.t (hag13.t (hag6.t tp0)))))))) (hag58.e (hag51.t (hag44.t (hag37.t (hag29.t (hag20.t (hag13.t (hag6.t tp0))))))) (hag51.e (hag44.t (hag37.t (hag29.t (hag20.t (hag13.t (hag6.t tp0)))))) (hag44.e (hag37.t (hag29.t (hag20.t (hag13.t (hag6.t tp0))))) (hag37.e (hag29.t (hag20.t (hag13.t (hag6.t tp0)))) (hag29.e (hag20.t (hag13.t (hag6.t tp0))) (hag20.e (hag13.t (hag6.t tp0)) (hag13.e (hag6.t tp0) (hag6.e tp0 rfl))))))))) tq60 eqq60 rfl rfl ⟨by decide, by decide, rfl, rfl⟩ rfl w_16 rfl hinI rfl (by decide +kernel) rfl rfl dX11_init_91 (fun S66 H locs eS66 hW hS => ?_)
  replace hf := ltE hf S66 eS66
  refine lv_aload_n hx hb dX11_init_94 rfl (lv_at hl 0 rfl) ?_
  refine lv_ldc (v := 38346) hx hb hown w_17 dX11_init_95 ?_
  refine x_newaI (len := 38346) hC w_3 hW hS hA (by decide) (by decide) (Nat.le_of_ble_eq_true rfl) (Nat.le_of_ble_eq_true rfl) (Nat.le_of_ble_eq_true rfl) dX11_init_97 (fun q67 ad68 K69 S70 H eS70 hag72 eqq67 ekq67 hW hS => ?_)
  replace hf := ltE hf S70 eS70
  obtain ⟨n71, en71⟩ : ∃ z, z = n64 + 1 := ⟨_, rfl⟩
  rw [← en71] at hag72 hW
  replace hf := ltE hf n71 en71
  have tq67 : n64 < n71 ∧ K69 n64 = 12 := ⟨by omega, ekq67⟩
  refine W.widen (k := 10) (n := 156091) (Nat.le_of_ble_eq_true rfl) (Nat.le_of_ble_eq_true rfl) ?_
  refine x_putrF 1024 (ci := 10) (C := RX11) (T := TX11) (N := 30) (ty := (.array .int)) 24 hC hin11 tyX11_ok nmX11 hW hS (hag72.t (hag65.t (hag58.t (hag51.t (hag44.t (hag37.t (hag29.t (hag20.t (hag13.t (hag6.t tp0)))))))))) (hag72.e (hag65.t (hag58.t (hag51.t (hag44.t (hag37.t (hag29.t (hag20.t (hag13.t (hag6.t tp0))))))))) (hag65.e (hag58.t (hag51.t (hag44.t (hag37.t (hag29.t (hag20.t (hag13.t (hag6.t tp0)))))))) (hag58.e (hag51.t (hag44.t (hag37.t (hag29.t (hag20.t (hag13.t (hag6.t tp0))))))) (hag51.e (hag44.t (hag37.t (hag29.t (hag20.t (hag13.t (hag6.t tp0)))))) (hag44.e (hag37.t (hag29.t (hag20.t (hag13.t (hag6.t tp0))))) (hag37.e (hag29.t (hag20.t (hag13.t (hag6.t tp0)))) (hag29.e (hag20.t (hag13.t (hag6.t tp0))) (hag20.e (hag13.t (hag6.t tp0)) (hag13.e (hag6.t tp0) (hag6.e tp0 rfl)))))))))) tq67 eqq67 rfl rfl ⟨by decide, by decide, rfl, rfl⟩ rfl w_18 rfl hinI rfl (by decide +kernel) rfl rfl dX11_init_99 (fun S73 H locs eS73 hW hS => ?_)
  replace hf := ltE hf S73 eS73
  refine lv_aload_n hx hb dX11_init_102 rfl (lv_at hl 0 rfl) ?_
  refine lv_ldc (v := 576000) hx hb hown w_19 dX11_init_103 ?_
  refine x_newaB (len := 576000) hC w_7 hW hS hA (by decide) (by decide) (Nat.le_of_ble_eq_true rfl) (Nat.le_of_ble_eq_true rfl) (Nat.le_of_ble_eq_true rfl) dX11_init_105 (fun q74 ad75 K76 S77 H eS77 hag79 eqq74 ekq74 hW hS => ?_)
  replace hf := ltE hf S77 eS77
  obtain ⟨n78, en78⟩ : ∃ z, z = n71 + 1 := ⟨_, rfl⟩
  rw [← en78] at hag79 hW
  replace hf := ltE hf n78 en78
  have tq74 : n71 < n78 ∧ K76 n71 = 11 := ⟨by omega, ekq74⟩
  refine W.widen (k := 11) (n := 732091) (Nat.le_of_ble_eq_true rfl) (Nat.le_of_ble_eq_true rfl) ?_
  refine x_putrF 1025 (ci := 10) (C := RX11) (T := TX11) (N := 30) (ty := (.array .byte)) 25 hC hin11 tyX11_ok nmX11 hW hS (hag79.t (hag72.t (hag65.t (hag58.t (hag51.t (hag44.t (hag37.t (hag29.t (hag20.t (hag13.t (hag6.t tp0))))))))))) (hag79.e (hag72.t (hag65.t (hag58.t (hag51.t (hag44.t (hag37.t (hag29.t (hag20.t (hag13.t (hag6.t tp0)))))))))) (hag72.e (hag65.t (hag58.t (hag51.t (hag44.t (hag37.t (hag29.t (hag20.t (hag13.t (hag6.t tp0))))))))) (hag65.e (hag58.t (hag51.t (hag44.t (hag37.t (hag29.t (hag20.t (hag13.t (hag6.t tp0)))))))) (hag58.e (hag51.t (hag44.t (hag37.t (hag29.t (hag20.t (hag13.t (hag6.t tp0))))))) (hag51.e (hag44.t (hag37.t (hag29.t (hag20.t (hag13.t (hag6.t tp0)))))) (hag44.e (hag37.t (hag29.t (hag20.t (hag13.t (hag6.t tp0))))) (hag37.e (hag29.t (hag20.t (hag13.t (hag6.t tp0)))) (hag29.e (hag20.t (hag13.t (hag6.t tp0))) (hag20.e (hag13.t (hag6.t tp0)) (hag13.e (hag6.t tp0) (hag6.e tp0 rfl))))))))))) tq74 eqq74 rfl rfl ⟨by decide, by decide, rfl, rfl⟩ rfl w_20 rfl hinI rfl (by decide +kernel) rfl rfl dX11_init_107 (fun S80 H locs eS80 hW hS => ?_)
  replace hf := ltE hf S80 eS80
  refine lv_aload_n hx hb dX11_init_110 rfl (lv_at hl 0 rfl) ?_
  refine lv_sipush (v := 3000) hx hb dX11_init_111 (by decide) ?_
  refine x_newaB (len := 3000) hC w_7 hW hS hA (by decide) (by decide) (Nat.le_of_ble_eq_true rfl) (Nat.le_of_ble_eq_true rfl) (Nat.le_of_ble_eq_true rfl) dX11_init_114 (fun q81 ad82 K83 S84 H eS84 hag86 eqq81 ekq81 hW hS => ?_)
  replace hf := ltE hf S84 eS84
  obtain ⟨n85, en85⟩ : ∃ z, z = n78 + 1 := ⟨_, rfl⟩
  rw [← en85] at hag86 hW
  replace hf := ltE hf n85 en85
  have tq81 : n78 < n85 ∧ K83 n78 = 11 := ⟨by omega, ekq81⟩
  refine W.widen (k := 12) (n := 735091) (Nat.le_of_ble_eq_true rfl) (Nat.le_of_ble_eq_true rfl) ?_
  refine x_putrF 1028 (ci := 10) (C := RX11) (T := TX11) (N := 30) (ty := (.array .byte)) 28 hC hin11 tyX11_ok nmX11 hW hS (hag86.t (hag79.t (hag72.t (hag65.t (hag58.t (hag51.t (hag44.t (hag37.t (hag29.t (hag20.t (hag13.t (hag6.t tp0)))))))))))) (hag86.e (hag79.t (hag72.t (hag65.t (hag58.t (hag51.t (hag44.t (hag37.t (hag29.t (hag20.t (hag13.t (hag6.t tp0))))))))))) (hag79.e (hag72.t (hag65.t (hag58.t (hag51.t (hag44.t (hag37.t (hag29.t (hag20.t (hag13.t (hag6.t tp0)))))))))) (hag72.e (hag65.t (hag58.t (hag51.t (hag44.t (hag37.t (hag29.t (hag20.t (hag13.t (hag6.t tp0))))))))) (hag65.e (hag58.t (hag51.t (hag44.t (hag37.t (hag29.t (hag20.t (hag13.t (hag6.t tp0)))))))) (hag58.e (hag51.t (hag44.t (hag37.t (hag29.t (hag20.t (hag13.t (hag6.t tp0))))))) (hag51.e (hag44.t (hag37.t (hag29.t (hag20.t (hag13.t (hag6.t tp0)))))) (hag44.e (hag37.t (hag29.t (hag20.t (hag13.t (hag6.t tp0))))) (hag37.e (hag29.t (hag20.t (hag13.t (hag6.t tp0)))) (hag29.e (hag20.t (hag13.t (hag6.t tp0))) (hag20.e (hag13.t (hag6.t tp0)) (hag13.e (hag6.t tp0) (hag6.e tp0 rfl)))))))))))) tq81 eqq81 rfl rfl ⟨by decide, by decide, rfl, rfl⟩ rfl w_21 rfl hinI rfl (by decide +kernel) rfl rfl dX11_init_116 (fun S87 H locs eS87 hW hS => ?_)
  replace hf := ltE hf S87 eS87
  refine lv_aload_n hx hb dX11_init_119 rfl (lv_at hl 0 rfl) ?_
  replace hf := obE hf
  obtain ⟨j88, qj88, hf⟩ := hf
  have tj88 := x_rt hW qj88 12 ⟨by decide, rfl⟩
  refine x_getr 1001 (ci := 10) (C := RX11) (T := TX11) (N := 30) 1 hC hin11 hW (hag86.t (hag79.t (hag72.t (hag65.t (hag58.t (hag51.t (hag44.t (hag37.t (hag29.t (hag20.t (hag13.t (hag6.t tp0)))))))))))) (hag86.e (hag79.t (hag72.t (hag65.t (hag58.t (hag51.t (hag44.t (hag37.t (hag29.t (hag20.t (hag13.t (hag6.t tp0))))))))))) (hag79.e (hag72.t (hag65.t (hag58.t (hag51.t (hag44.t (hag37.t (hag29.t (hag20.t (hag13.t (hag6.t tp0)))))))))) (hag72.e (hag65.t (hag58.t (hag51.t (hag44.t (hag37.t (hag29.t (hag20.t (hag13.t (hag6.t tp0))))))))) (hag65.e (hag58.t (hag51.t (hag44.t (hag37.t (hag29.t (hag20.t (hag13.t (hag6.t tp0)))))))) (hag58.e (hag51.t (hag44.t (hag37.t (hag29.t (hag20.t (hag13.t (hag6.t tp0))))))) (hag51.e (hag44.t (hag37.t (hag29.t (hag20.t (hag13.t (hag6.t tp0)))))) (hag44.e (hag37.t (hag29.t (hag20.t (hag13.t (hag6.t tp0))))) (hag37.e (hag29.t (hag20.t (hag13.t (hag6.t tp0)))) (hag29.e (hag20.t (hag13.t (hag6.t tp0))) (hag20.e (hag13.t (hag6.t tp0)) (hag13.e (hag6.t tp0) (hag6.e tp0 rfl)))))))))))) rfl ⟨by decide, by decide, rfl, rfl⟩ rfl w_4 dX11_init_120 qj88 ?_
  refine lv_iconst (v := 1) hx hb dX11_init_123 (by decide) ?_
  refine lv_iconst (v := 1) hx hb dX11_init_124 (by decide) ?_
  replace hf := ckiE hf
  obtain ⟨h89, hf⟩ := hf
  refine x_iast hC hW hS tj88 rfl rfl h89 dX11_init_125 (fun S90 H locs eS90 hW hS => ?_)
  replace hf := ltE hf S90 eS90
  obtain ⟨e1, e2⟩ := so2 hf
  subst e1
  subst e2
  exact W.vret hx hb hr (fun t ht hWm => ⟨⟨ad82, K83, rfl, (((((((((((Ag.rf.tr hag6).tr hag13).tr hag20).tr hag29).tr hag37).tr hag44).tr hag51).tr hag58).tr hag65).tr hag72).tr hag79).tr hag86, trivial, by rw [ht]; exact hW⟩, hS.F ht⟩) hS.2.2 dX11_init_126 hlk
set_option maxHeartbeats 4000000 in
set_option maxRecDepth 100000 in
theorem c_X11_isClass (l : Launch) (g : GP) (ad : Nat → Nat) (n : Nat) (K : Nat → Nat) (sz F : Nat) (S0 : St) (p0 : Nat) (p1 : Int32) (tp0 : p0 < n ∧ K p0 = 10) (r9 : Int32) (S9 : St) (hf : f_X11_isClass F S0 p0 p1 = some (r9, S9)) : Met l yX11_isClass wsX11_isClass { frames := 1, cells := 0, slots := 0, locals := 25 } (va_Pc [.ref (ad p0), .int p1] (PB g ad n K S0 sz)) (QR (some (.int r9)) (QB g ad n K S9 (dA ad n sz) (True)) (dA ad n sz)) 0 0 (dA ad n sz) := by
  refine Met.ofW (cc := cX11_isClass) (maxL := 2) (ret := (some .boolean)) (by decide) rfl ?_
  intro p e s m args below meth c s₁ B hml hv
  obtain ⟨rfl, hsz, hW, hK, hGs⟩ := x_start hv
  subst hsz
  have hx := B.exec
  have hb := B.bytes
  have hr := B.returns
  have hts := atoms_spec (ws := wsX11_isClass) B.pre
  have hown : s.vm.findClass RX11 = some m.cls := findClass_of_methodNamed B.named
  have hlk := B.notSynchronized
  have hC : Cx g p s m _ c cX11_isClass RX11 wsX11_isClass 2 := ⟨hx, hb, hml, hown, hts, hK⟩
  have hA : ∀ q : Nat, s.heap.size ≤ q → dA ad n s.heap.size q := fun q h => Or.inr h
  have hS : va_S (dA ad n s.heap.size) s.heap s.heap [] := va_S.rf
  have hl := lv_entry ([.ref (ad p0), .int p1]) (n := 2) (Nat.le_of_ble_eq_true rfl)
  rw [lg_entry_eq]
  generalize (lg_sl ([.ref (ad p0), .int p1]) ++ List.replicate (2 - (lg_sl ([.ref (ad p0), .int p1])).length) Slot.unset).toArray = ls at hl ⊢
  have hl : lv_has ls 2 [(0, .ref (ad p0)), (1, .int p1)] := hl
  have hin11 : ∀ w ∈ wsX110, w ∈ wsX11_isClass := by decide +kernel
  have w_0 := hts (.fieldLink RX11 17 "MailSpoolModel" "net" "[I") (by decide +kernel)
  have hGE := hGs.2.2.2.2.2.2.1
  have hGM := hGs.2.2.2.2.2.2.2.1
  unfold f_X11_isClass at hf
  refine lv_iload_n hx hb dX11_isClass_0 rfl (lv_at hl 1 rfl) ?_
  refine lv_i2l (v := p1.toInt64) hx hb dX11_isClass_1 rfl ?_
  refine lv_lconst (v := 0) hx hb dX11_isClass_2 (by decide) ?_
  refine lv_aload_n hx hb dX11_isClass_3 rfl (lv_at hl 0 rfl) ?_
  replace hf := obE hf
  obtain ⟨j1, qj1, hf⟩ := hf
  have tj1 := x_rt hW qj1 12 ⟨by decide, rfl⟩
  refine x_getr 1001 (ci := 10) (C := RX11) (T := TX11) (N := 30) 1 hC hin11 hW tp0 rfl rfl ⟨by decide, by decide, rfl, rfl⟩ rfl w_0 dX11_isClass_4 qj1 ?_
  refine lv_iconst (v := 3) hx hb dX11_isClass_7 (by decide) ?_
  replace hf := ckiE hf
  obtain ⟨h2, hf⟩ := hf
  refine x_iald hC hW tj1 rfl rfl h2 dX11_isClass_8 ?_
  refine lv_iconst (v := 1) hx hb dX11_isClass_9 (by decide) ?_
  refine lv_isub hx hb dX11_isClass_10 ?_
  refine lv_i2l (v := ((ai S0 j1 (Int32.toNatClampNeg 3)) - 1).toInt64) hx hb dX11_isClass_11 rfl ?_
  replace hf := obE hf
  obtain ⟨z3, hz3, hf⟩ := hf
  obtain ⟨r5, S4⟩ := z3
  replace hf := ltE (ltE hf r5 rfl) S4 rfl
  refine x_callS (As := [.long (p1.toInt64), .long (0), .long (((ai S0 j1 (Int32.toNatClampNeg 3)) - 1).toInt64)]) (rest := []) (o := (some (.int r5))) (S1 := S4) hC hl.1 hW hS hGs hA (c_X11_in l g ad n K s.heap.size F S0 p1.toInt64 ((0 : Int64)) (((ai S0 j1 (Int32.toNatClampNeg 3)) - 1).toInt64) r5 S4 hz3) (va_cwS 3 hts gX11_isClass_X11_in rfl rfl rfl (by decide +kernel) ⟨Nat.le_of_ble_eq_true rfl, Nat.le_of_ble_eq_true rfl⟩) rfl rfl (Nat.le_of_ble_eq_true rfl) dX11_isClass_12 ⟨Nat.le_of_ble_eq_true rfl, Nat.le_of_ble_eq_true rfl⟩ (fun H locs hPz3 hW hS => ?_)
  refine W.eq (g2 := F0 m 15 ls [.int r5]) rfl ?_
  replace hf := ckE hf
  obtain ⟨h7, hf⟩ := hf
  obtain ⟨e1, e2⟩ := so2 hf
  subst e1
  subst e2
  exact W.zret (v := r5) hx hb hr (zn h7) (fun t ht hWm => ⟨⟨rfl, by unfold QB; rw [ht]; exact ⟨hW, trivial⟩⟩, hS.F ht⟩) hS.2.2 dX11_isClass_15 hlk
set_option maxHeartbeats 4000000 in
set_option maxRecDepth 100000 in
theorem c_X11_isUser (l : Launch) (g : GP) (ad : Nat → Nat) (n : Nat) (K : Nat → Nat) (sz F : Nat) (S0 : St) (p0 : Nat) (p1 : Int32) (tp0 : p0 < n ∧ K p0 = 10) (r9 : Int32) (S9 : St) (hf : f_X11_isUser F S0 p0 p1 = some (r9, S9)) : Met l yX11_isUser wsX11_isUser { frames := 1, cells := 0, slots := 0, locals := 25 } (va_Pc [.ref (ad p0), .int p1] (PB g ad n K S0 sz)) (QR (some (.int r9)) (QB g ad n K S9 (dA ad n sz) (True)) (dA ad n sz)) 0 0 (dA ad n sz) := by
  refine Met.ofW (cc := cX11_isUser) (maxL := 2) (ret := (some .boolean)) (by decide) rfl ?_
  intro p e s m args below meth c s₁ B hml hv
  obtain ⟨rfl, hsz, hW, hK, hGs⟩ := x_start hv
  subst hsz
  have hx := B.exec
  have hb := B.bytes
  have hr := B.returns
  have hts := atoms_spec (ws := wsX11_isUser) B.pre
  have hown : s.vm.findClass RX11 = some m.cls := findClass_of_methodNamed B.named
  have hlk := B.notSynchronized
  have hC : Cx g p s m _ c cX11_isUser RX11 wsX11_isUser 2 := ⟨hx, hb, hml, hown, hts, hK⟩
  have hA : ∀ q : Nat, s.heap.size ≤ q → dA ad n s.heap.size q := fun q h => Or.inr h
  have hS : va_S (dA ad n s.heap.size) s.heap s.heap [] := va_S.rf
  have hl := lv_entry ([.ref (ad p0), .int p1]) (n := 2) (Nat.le_of_ble_eq_true rfl)
  rw [lg_entry_eq]
  generalize (lg_sl ([.ref (ad p0), .int p1]) ++ List.replicate (2 - (lg_sl ([.ref (ad p0), .int p1])).length) Slot.unset).toArray = ls at hl ⊢
  have hl : lv_has ls 2 [(0, .ref (ad p0)), (1, .int p1)] := hl
  have hin11 : ∀ w ∈ wsX110, w ∈ wsX11_isUser := by decide +kernel
  have w_0 := hts (.fieldLink RX11 17 "MailSpoolModel" "net" "[I") (by decide +kernel)
  have hGE := hGs.2.2.2.2.2.2.1
  have hGM := hGs.2.2.2.2.2.2.2.1
  unfold f_X11_isUser at hf
  refine lv_iload_n hx hb dX11_isUser_0 rfl (lv_at hl 1 rfl) ?_
  refine lv_i2l (v := p1.toInt64) hx hb dX11_isUser_1 rfl ?_
  refine lv_lconst (v := 0) hx hb dX11_isUser_2 (by decide) ?_
  refine lv_aload_n hx hb dX11_isUser_3 rfl (lv_at hl 0 rfl) ?_
  replace hf := obE hf
  obtain ⟨j1, qj1, hf⟩ := hf
  have tj1 := x_rt hW qj1 12 ⟨by decide, rfl⟩
  refine x_getr 1001 (ci := 10) (C := RX11) (T := TX11) (N := 30) 1 hC hin11 hW tp0 rfl rfl ⟨by decide, by decide, rfl, rfl⟩ rfl w_0 dX11_isUser_4 qj1 ?_
  refine lv_iconst (v := 4) hx hb dX11_isUser_7 (by decide) ?_
  replace hf := ckiE hf
  obtain ⟨h2, hf⟩ := hf
  refine x_iald hC hW tj1 rfl rfl h2 dX11_isUser_8 ?_
  refine lv_iconst (v := 1) hx hb dX11_isUser_9 (by decide) ?_
  refine lv_isub hx hb dX11_isUser_10 ?_
  refine lv_i2l (v := ((ai S0 j1 (Int32.toNatClampNeg 4)) - 1).toInt64) hx hb dX11_isUser_11 rfl ?_
  replace hf := obE hf
  obtain ⟨z3, hz3, hf⟩ := hf
  obtain ⟨r5, S4⟩ := z3
  replace hf := ltE (ltE hf r5 rfl) S4 rfl
  refine x_callS (As := [.long (p1.toInt64), .long (0), .long (((ai S0 j1 (Int32.toNatClampNeg 4)) - 1).toInt64)]) (rest := []) (o := (some (.int r5))) (S1 := S4) hC hl.1 hW hS hGs hA (c_X11_in l g ad n K s.heap.size F S0 p1.toInt64 ((0 : Int64)) (((ai S0 j1 (Int32.toNatClampNeg 4)) - 1).toInt64) r5 S4 hz3) (va_cwS 3 hts gX11_isUser_X11_in rfl rfl rfl (by decide +kernel) ⟨Nat.le_of_ble_eq_true rfl, Nat.le_of_ble_eq_true rfl⟩) rfl rfl (Nat.le_of_ble_eq_true rfl) dX11_isUser_12 ⟨Nat.le_of_ble_eq_true rfl, Nat.le_of_ble_eq_true rfl⟩ (fun H locs hPz3 hW hS => ?_)
  refine W.eq (g2 := F0 m 15 ls [.int r5]) rfl ?_
  replace hf := ckE hf
  obtain ⟨h7, hf⟩ := hf
  obtain ⟨e1, e2⟩ := so2 hf
  subst e1
  subst e2
  exact W.zret (v := r5) hx hb hr (zn h7) (fun t ht hWm => ⟨⟨rfl, by unfold QB; rw [ht]; exact ⟨hW, trivial⟩⟩, hS.F ht⟩) hS.2.2 dX11_isUser_15 hlk
set_option maxHeartbeats 4000000 in
set_option maxRecDepth 100000 in
theorem c_X11_isHold (l : Launch) (g : GP) (ad : Nat → Nat) (n : Nat) (K : Nat → Nat) (sz F : Nat) (S0 : St) (p0 : Nat) (p1 : Int32) (tp0 : p0 < n ∧ K p0 = 10) (r9 : Int32) (S9 : St) (hf : f_X11_isHold F S0 p0 p1 = some (r9, S9)) : Met l yX11_isHold wsX11_isHold { frames := 1, cells := 0, slots := 0, locals := 25 } (va_Pc [.ref (ad p0), .int p1] (PB g ad n K S0 sz)) (QR (some (.int r9)) (QB g ad n K S9 (dA ad n sz) (True)) (dA ad n sz)) 0 0 (dA ad n sz) := by
  refine Met.ofW (cc := cX11_isHold) (maxL := 2) (ret := (some .boolean)) (by decide) rfl ?_
  intro p e s m args below meth c s₁ B hml hv
  obtain ⟨rfl, hsz, hW, hK, hGs⟩ := x_start hv
  subst hsz
  have hx := B.exec
  have hb := B.bytes
  have hr := B.returns
  have hts := atoms_spec (ws := wsX11_isHold) B.pre
  have hown : s.vm.findClass RX11 = some m.cls := findClass_of_methodNamed B.named
  have hlk := B.notSynchronized
  have hC : Cx g p s m _ c cX11_isHold RX11 wsX11_isHold 2 := ⟨hx, hb, hml, hown, hts, hK⟩
  have hA : ∀ q : Nat, s.heap.size ≤ q → dA ad n s.heap.size q := fun q h => Or.inr h
  have hS : va_S (dA ad n s.heap.size) s.heap s.heap [] := va_S.rf
  have hl := lv_entry ([.ref (ad p0), .int p1]) (n := 2) (Nat.le_of_ble_eq_true rfl)
  rw [lg_entry_eq]
  generalize (lg_sl ([.ref (ad p0), .int p1]) ++ List.replicate (2 - (lg_sl ([.ref (ad p0), .int p1])).length) Slot.unset).toArray = ls at hl ⊢
  have hl : lv_has ls 2 [(0, .ref (ad p0)), (1, .int p1)] := hl
  have hin11 : ∀ w ∈ wsX110, w ∈ wsX11_isHold := by decide +kernel
  have w_0 := hts (.fieldLink RX11 17 "MailSpoolModel" "net" "[I") (by decide +kernel)
  have hGE := hGs.2.2.2.2.2.2.1
  have hGM := hGs.2.2.2.2.2.2.2.1
  unfold f_X11_isHold at hf
  refine lv_iload_n hx hb dX11_isHold_0 rfl (lv_at hl 1 rfl) ?_
  refine lv_i2l (v := p1.toInt64) hx hb dX11_isHold_1 rfl ?_
  refine lv_lconst (v := 0) hx hb dX11_isHold_2 (by decide) ?_
  refine lv_aload_n hx hb dX11_isHold_3 rfl (lv_at hl 0 rfl) ?_
  replace hf := obE hf
  obtain ⟨j1, qj1, hf⟩ := hf
  have tj1 := x_rt hW qj1 12 ⟨by decide, rfl⟩
  refine x_getr 1001 (ci := 10) (C := RX11) (T := TX11) (N := 30) 1 hC hin11 hW tp0 rfl rfl ⟨by decide, by decide, rfl, rfl⟩ rfl w_0 dX11_isHold_4 qj1 ?_
  refine lv_bipush (v := 6) hx hb dX11_isHold_7 (by decide) ?_
  replace hf := ckiE hf
  obtain ⟨h2, hf⟩ := hf
  refine x_iald hC hW tj1 rfl rfl h2 dX11_isHold_9 ?_
  refine lv_iconst (v := 1) hx hb dX11_isHold_10 (by decide) ?_
  refine lv_isub hx hb dX11_isHold_11 ?_
  refine lv_i2l (v := ((ai S0 j1 (Int32.toNatClampNeg 6)) - 1).toInt64) hx hb dX11_isHold_12 rfl ?_
  replace hf := obE hf
  obtain ⟨z3, hz3, hf⟩ := hf
  obtain ⟨r5, S4⟩ := z3
  replace hf := ltE (ltE hf r5 rfl) S4 rfl
  refine x_callS (As := [.long (p1.toInt64), .long (0), .long (((ai S0 j1 (Int32.toNatClampNeg 6)) - 1).toInt64)]) (rest := []) (o := (some (.int r5))) (S1 := S4) hC hl.1 hW hS hGs hA (c_X11_in l g ad n K s.heap.size F S0 p1.toInt64 ((0 : Int64)) (((ai S0 j1 (Int32.toNatClampNeg 6)) - 1).toInt64) r5 S4 hz3) (va_cwS 3 hts gX11_isHold_X11_in rfl rfl rfl (by decide +kernel) ⟨Nat.le_of_ble_eq_true rfl, Nat.le_of_ble_eq_true rfl⟩) rfl rfl (Nat.le_of_ble_eq_true rfl) dX11_isHold_13 ⟨Nat.le_of_ble_eq_true rfl, Nat.le_of_ble_eq_true rfl⟩ (fun H locs hPz3 hW hS => ?_)
  refine W.eq (g2 := F0 m 16 ls [.int r5]) rfl ?_
  replace hf := ckE hf
  obtain ⟨h7, hf⟩ := hf
  obtain ⟨e1, e2⟩ := so2 hf
  subst e1
  subst e2
  exact W.zret (v := r5) hx hb hr (zn h7) (fun t ht hWm => ⟨⟨rfl, by unfold QB; rw [ht]; exact ⟨hW, trivial⟩⟩, hS.F ht⟩) hS.2.2 dX11_isHold_16 hlk
set_option maxHeartbeats 4000000 in
set_option maxRecDepth 100000 in
theorem c_X11_isMessage (l : Launch) (g : GP) (ad : Nat → Nat) (n : Nat) (K : Nat → Nat) (sz F : Nat) (S0 : St) (p0 : Nat) (p1 : Int32) (tp0 : p0 < n ∧ K p0 = 10) (r9 : Int32) (S9 : St) (hf : f_X11_isMessage F S0 p0 p1 = some (r9, S9)) : Met l yX11_isMessage wsX11_isMessage { frames := 1, cells := 0, slots := 0, locals := 25 } (va_Pc [.ref (ad p0), .int p1] (PB g ad n K S0 sz)) (QR (some (.int r9)) (QB g ad n K S9 (dA ad n sz) (True)) (dA ad n sz)) 0 0 (dA ad n sz) := by
  refine Met.ofW (cc := cX11_isMessage) (maxL := 2) (ret := (some .boolean)) (by decide) rfl ?_
  intro p e s m args below meth c s₁ B hml hv
  obtain ⟨rfl, hsz, hW, hK, hGs⟩ := x_start hv
  subst hsz
  have hx := B.exec
  have hb := B.bytes
  have hr := B.returns
  have hts := atoms_spec (ws := wsX11_isMessage) B.pre
  have hown : s.vm.findClass RX11 = some m.cls := findClass_of_methodNamed B.named
  have hlk := B.notSynchronized
  have hC : Cx g p s m _ c cX11_isMessage RX11 wsX11_isMessage 2 := ⟨hx, hb, hml, hown, hts, hK⟩
  have hA : ∀ q : Nat, s.heap.size ≤ q → dA ad n s.heap.size q := fun q h => Or.inr h
  have hS : va_S (dA ad n s.heap.size) s.heap s.heap [] := va_S.rf
  have hl := lv_entry ([.ref (ad p0), .int p1]) (n := 2) (Nat.le_of_ble_eq_true rfl)
  rw [lg_entry_eq]
  generalize (lg_sl ([.ref (ad p0), .int p1]) ++ List.replicate (2 - (lg_sl ([.ref (ad p0), .int p1])).length) Slot.unset).toArray = ls at hl ⊢
  have hl : lv_has ls 2 [(0, .ref (ad p0)), (1, .int p1)] := hl
  have hin11 : ∀ w ∈ wsX110, w ∈ wsX11_isMessage := by decide +kernel
  have w_0 := hts (.fieldLink RX11 17 "MailSpoolModel" "net" "[I") (by decide +kernel)
  have hGE := hGs.2.2.2.2.2.2.1
  have hGM := hGs.2.2.2.2.2.2.2.1
  unfold f_X11_isMessage at hf
  refine lv_iload_n hx hb dX11_isMessage_0 rfl (lv_at hl 1 rfl) ?_
  refine lv_i2l (v := p1.toInt64) hx hb dX11_isMessage_1 rfl ?_
  refine lv_lconst (v := 0) hx hb dX11_isMessage_2 (by decide) ?_
  refine lv_aload_n hx hb dX11_isMessage_3 rfl (lv_at hl 0 rfl) ?_
  replace hf := obE hf
  obtain ⟨j1, qj1, hf⟩ := hf
  have tj1 := x_rt hW qj1 12 ⟨by decide, rfl⟩
  refine x_getr 1001 (ci := 10) (C := RX11) (T := TX11) (N := 30) 1 hC hin11 hW tp0 rfl rfl ⟨by decide, by decide, rfl, rfl⟩ rfl w_0 dX11_isMessage_4 qj1 ?_
  refine lv_bipush (v := 7) hx hb dX11_isMessage_7 (by decide) ?_
  replace hf := ckiE hf
  obtain ⟨h2, hf⟩ := hf
  refine x_iald hC hW tj1 rfl rfl h2 dX11_isMessage_9 ?_
  refine lv_iconst (v := 1) hx hb dX11_isMessage_10 (by decide) ?_
  refine lv_isub hx hb dX11_isMessage_11 ?_
  refine lv_i2l (v := ((ai S0 j1 (Int32.toNatClampNeg 7)) - 1).toInt64) hx hb dX11_isMessage_12 rfl ?_
  replace hf := obE hf
  obtain ⟨z3, hz3, hf⟩ := hf
  obtain ⟨r5, S4⟩ := z3
  replace hf := ltE (ltE hf r5 rfl) S4 rfl
  refine x_callS (As := [.long (p1.toInt64), .long (0), .long (((ai S0 j1 (Int32.toNatClampNeg 7)) - 1).toInt64)]) (rest := []) (o := (some (.int r5))) (S1 := S4) hC hl.1 hW hS hGs hA (c_X11_in l g ad n K s.heap.size F S0 p1.toInt64 ((0 : Int64)) (((ai S0 j1 (Int32.toNatClampNeg 7)) - 1).toInt64) r5 S4 hz3) (va_cwS 3 hts gX11_isMessage_X11_in rfl rfl rfl (by decide +kernel) ⟨Nat.le_of_ble_eq_true rfl, Nat.le_of_ble_eq_true rfl⟩) rfl rfl (Nat.le_of_ble_eq_true rfl) dX11_isMessage_13 ⟨Nat.le_of_ble_eq_true rfl, Nat.le_of_ble_eq_true rfl⟩ (fun H locs hPz3 hW hS => ?_)
  refine W.eq (g2 := F0 m 16 ls [.int r5]) rfl ?_
  replace hf := ckE hf
  obtain ⟨h7, hf⟩ := hf
  obtain ⟨e1, e2⟩ := so2 hf
  subst e1
  subst e2
  exact W.zret (v := r5) hx hb hr (zn h7) (fun t ht hWm => ⟨⟨rfl, by unfold QB; rw [ht]; exact ⟨hW, trivial⟩⟩, hS.F ht⟩) hS.2.2 dX11_isMessage_16 hlk
set_option maxHeartbeats 4000000 in
set_option maxRecDepth 100000 in
theorem c_X11_classValue (l : Launch) (g : GP) (ad : Nat → Nat) (n : Nat) (K : Nat → Nat) (sz F : Nat) (S0 : St) (p0 : Nat) (p1 : Int32) (p2 : Int32) (tp0 : p0 < n ∧ K p0 = 10) (r9 : Int32) (S9 : St) (hf : f_X11_classValue F S0 p0 p1 p2 = some (r9, S9)) : Met l yX11_classValue wsX11_classValue { frames := 0, cells := 0, slots := 0, locals := 0 } (va_Pc [.ref (ad p0), .int p1, .int p2] (PB g ad n K S0 sz)) (QR (some (.int r9)) (QB g ad n K S9 (dA ad n sz) (True)) (dA ad n sz)) 0 0 (dA ad n sz) := by
  refine Met.ofW (cc := cX11_classValue) (maxL := 3) (ret := (some .int)) (by decide) rfl ?_
  intro p e s m args below meth c s₁ B hml hv
  obtain ⟨rfl, hsz, hW, hK, hGs⟩ := x_start hv
  subst hsz
  have hx := B.exec
  have hb := B.bytes
  have hr := B.returns
  have hts := atoms_spec (ws := wsX11_classValue) B.pre
  have hown : s.vm.findClass RX11 = some m.cls := findClass_of_methodNamed B.named
  have hlk := B.notSynchronized
  have hC : Cx g p s m _ c cX11_classValue RX11 wsX11_classValue 3 := ⟨hx, hb, hml, hown, hts, hK⟩
  have hA : ∀ q : Nat, s.heap.size ≤ q → dA ad n s.heap.size q := fun q h => Or.inr h
  have hS : va_S (dA ad n s.heap.size) s.heap s.heap [] := va_S.rf
  have hl := lv_entry ([.ref (ad p0), .int p1, .int p2]) (n := 3) (Nat.le_of_ble_eq_true rfl)
  rw [lg_entry_eq]
  generalize (lg_sl ([.ref (ad p0), .int p1, .int p2]) ++ List.replicate (3 - (lg_sl ([.ref (ad p0), .int p1, .int p2])).length) Slot.unset).toArray = ls at hl ⊢
  have hl : lv_has ls 3 [(0, .ref (ad p0)), (1, .int p1), (2, .int p2)] := hl
  have hin11 : ∀ w ∈ wsX110, w ∈ wsX11_classValue := by decide +kernel
  have w_0 := hts (.fieldLink RX11 17 "MailSpoolModel" "net" "[I") (by decide +kernel)
  have hGE := hGs.2.2.2.2.2.2.1
  have hGM := hGs.2.2.2.2.2.2.2.1
  unfold f_X11_classValue at hf
  refine lv_aload_n hx hb dX11_classValue_0 rfl (lv_at hl 0 rfl) ?_
  replace hf := obE hf
  obtain ⟨j1, qj1, hf⟩ := hf
  have tj1 := x_rt hW qj1 12 ⟨by decide, rfl⟩
  refine x_getr 1001 (ci := 10) (C := RX11) (T := TX11) (N := 30) 1 hC hin11 hW tp0 rfl rfl ⟨by decide, by decide, rfl, rfl⟩ rfl w_0 dX11_classValue_1 qj1 ?_
  refine lv_bipush (v := 11) hx hb dX11_classValue_4 (by decide) ?_
  refine lv_bipush (v := 9) hx hb dX11_classValue_6 (by decide) ?_
  refine lv_iload_n hx hb dX11_classValue_8 rfl (lv_at hl 1 rfl) ?_
  refine lv_imul hx hb dX11_classValue_9 ?_
  refine lv_iadd hx hb dX11_classValue_10 ?_
  refine lv_iload_n hx hb dX11_classValue_11 rfl (lv_at hl 2 rfl) ?_
  refine lv_iadd hx hb dX11_classValue_12 ?_
  replace hf := ckiE hf
  obtain ⟨h2, hf⟩ := hf
  refine x_iald hC hW tj1 rfl rfl h2 dX11_classValue_13 ?_
  obtain ⟨e1, e2⟩ := so2 hf
  subst e1
  subst e2
  exact W.iret (v := ai S0 j1 (Int32.toNatClampNeg ((11 + (9 * p1)) + p2))) hx hb hr (fun t ht hWm => ⟨⟨rfl, by unfold QB; rw [ht]; exact ⟨hW, trivial⟩⟩, hS.F ht⟩) hS.2.2 dX11_classValue_14 hlk
set_option maxHeartbeats 4000000 in
set_option maxRecDepth 100000 in
theorem c_X11_holdValue (l : Launch) (g : GP) (ad : Nat → Nat) (n : Nat) (K : Nat → Nat) (sz F : Nat) (S0 : St) (p0 : Nat) (p1 : Int32) (p2 : Int32) (tp0 : p0 < n ∧ K p0 = 10) (r9 : Int32) (S9 : St) (hf : f_X11_holdValue F S0 p0 p1 p2 = some (r9, S9)) : Met l yX11_holdValue wsX11_holdValue { frames := 0, cells := 0, slots := 0, locals := 0 } (va_Pc [.ref (ad p0), .int p1, .int p2] (PB g ad n K S0 sz)) (QR (some (.int r9)) (QB g ad n K S9 (dA ad n sz) (True)) (dA ad n sz)) 0 0 (dA ad n sz) := by
  refine Met.ofW (cc := cX11_holdValue) (maxL := 3) (ret := (some .int)) (by decide) rfl ?_
  intro p e s m args below meth c s₁ B hml hv
  obtain ⟨rfl, hsz, hW, hK, hGs⟩ := x_start hv
  subst hsz
  have hx := B.exec
  have hb := B.bytes
  have hr := B.returns
  have hts := atoms_spec (ws := wsX11_holdValue) B.pre
  have hown : s.vm.findClass RX11 = some m.cls := findClass_of_methodNamed B.named
  have hlk := B.notSynchronized
  have hC : Cx g p s m _ c cX11_holdValue RX11 wsX11_holdValue 3 := ⟨hx, hb, hml, hown, hts, hK⟩
  have hA : ∀ q : Nat, s.heap.size ≤ q → dA ad n s.heap.size q := fun q h => Or.inr h
  have hS : va_S (dA ad n s.heap.size) s.heap s.heap [] := va_S.rf
  have hl := lv_entry ([.ref (ad p0), .int p1, .int p2]) (n := 3) (Nat.le_of_ble_eq_true rfl)
  rw [lg_entry_eq]
  generalize (lg_sl ([.ref (ad p0), .int p1, .int p2]) ++ List.replicate (3 - (lg_sl ([.ref (ad p0), .int p1, .int p2])).length) Slot.unset).toArray = ls at hl ⊢
  have hl : lv_has ls 3 [(0, .ref (ad p0)), (1, .int p1), (2, .int p2)] := hl
  have hin11 : ∀ w ∈ wsX110, w ∈ wsX11_holdValue := by decide +kernel
  have w_0 := hts (.fieldLink RX11 17 "MailSpoolModel" "net" "[I") (by decide +kernel)
  have hGE := hGs.2.2.2.2.2.2.1
  have hGM := hGs.2.2.2.2.2.2.2.1
  unfold f_X11_holdValue at hf
  refine lv_aload_n hx hb dX11_holdValue_0 rfl (lv_at hl 0 rfl) ?_
  replace hf := obE hf
  obtain ⟨j1, qj1, hf⟩ := hf
  have tj1 := x_rt hW qj1 12 ⟨by decide, rfl⟩
  refine x_getr 1001 (ci := 10) (C := RX11) (T := TX11) (N := 30) 1 hC hin11 hW tp0 rfl rfl ⟨by decide, by decide, rfl, rfl⟩ rfl w_0 dX11_holdValue_1 qj1 ?_
  refine lv_sipush (v := 205) hx hb dX11_holdValue_4 (by decide) ?_
  refine lv_bipush (v := 21) hx hb dX11_holdValue_7 (by decide) ?_
  refine lv_iload_n hx hb dX11_holdValue_9 rfl (lv_at hl 1 rfl) ?_
  refine lv_imul hx hb dX11_holdValue_10 ?_
  refine lv_iadd hx hb dX11_holdValue_11 ?_
  refine lv_iload_n hx hb dX11_holdValue_12 rfl (lv_at hl 2 rfl) ?_
  refine lv_iadd hx hb dX11_holdValue_13 ?_
  replace hf := ckiE hf
  obtain ⟨h2, hf⟩ := hf
  refine x_iald hC hW tj1 rfl rfl h2 dX11_holdValue_14 ?_
  obtain ⟨e1, e2⟩ := so2 hf
  subst e1
  subst e2
  exact W.iret (v := ai S0 j1 (Int32.toNatClampNeg ((205 + (21 * p1)) + p2))) hx hb hr (fun t ht hWm => ⟨⟨rfl, by unfold QB; rw [ht]; exact ⟨hW, trivial⟩⟩, hS.F ht⟩) hS.2.2 dX11_holdValue_15 hlk
set_option maxHeartbeats 4000000 in
set_option maxRecDepth 100000 in
theorem c_X11_messageValue (l : Launch) (g : GP) (ad : Nat → Nat) (n : Nat) (K : Nat → Nat) (sz F : Nat) (S0 : St) (p0 : Nat) (p1 : Int32) (p2 : Int32) (tp0 : p0 < n ∧ K p0 = 10) (r9 : Int32) (S9 : St) (hf : f_X11_messageValue F S0 p0 p1 p2 = some (r9, S9)) : Met l yX11_messageValue wsX11_messageValue { frames := 0, cells := 0, slots := 0, locals := 0 } (va_Pc [.ref (ad p0), .int p1, .int p2] (PB g ad n K S0 sz)) (QR (some (.int r9)) (QB g ad n K S9 (dA ad n sz) (True)) (dA ad n sz)) 0 0 (dA ad n sz) := by
  refine Met.ofW (cc := cX11_messageValue) (maxL := 3) (ret := (some .int)) (by decide) rfl ?_
  intro p e s m args below meth c s₁ B hml hv
  obtain ⟨rfl, hsz, hW, hK, hGs⟩ := x_start hv
  subst hsz
  have hx := B.exec
  have hb := B.bytes
  have hr := B.returns
  have hts := atoms_spec (ws := wsX11_messageValue) B.pre
  have hown : s.vm.findClass RX11 = some m.cls := findClass_of_methodNamed B.named
  have hlk := B.notSynchronized
  have hC : Cx g p s m _ c cX11_messageValue RX11 wsX11_messageValue 3 := ⟨hx, hb, hml, hown, hts, hK⟩
  have hA : ∀ q : Nat, s.heap.size ≤ q → dA ad n s.heap.size q := fun q h => Or.inr h
  have hS : va_S (dA ad n s.heap.size) s.heap s.heap [] := va_S.rf
  have hl := lv_entry ([.ref (ad p0), .int p1, .int p2]) (n := 3) (Nat.le_of_ble_eq_true rfl)
  rw [lg_entry_eq]
  generalize (lg_sl ([.ref (ad p0), .int p1, .int p2]) ++ List.replicate (3 - (lg_sl ([.ref (ad p0), .int p1, .int p2])).length) Slot.unset).toArray = ls at hl ⊢
  have hl : lv_has ls 3 [(0, .ref (ad p0)), (1, .int p1), (2, .int p2)] := hl
  have hin11 : ∀ w ∈ wsX110, w ∈ wsX11_messageValue := by decide +kernel
  have w_0 := hts (.fieldLink RX11 17 "MailSpoolModel" "net" "[I") (by decide +kernel)
  have hGE := hGs.2.2.2.2.2.2.1
  have hGM := hGs.2.2.2.2.2.2.2.1
  unfold f_X11_messageValue at hf
  refine lv_aload_n hx hb dX11_messageValue_0 rfl (lv_at hl 0 rfl) ?_
  replace hf := obE hf
  obtain ⟨j1, qj1, hf⟩ := hf
  have tj1 := x_rt hW qj1 12 ⟨by decide, rfl⟩
  refine x_getr 1001 (ci := 10) (C := RX11) (T := TX11) (N := 30) 1 hC hin11 hW tp0 rfl rfl ⟨by decide, by decide, rfl, rfl⟩ rfl w_0 dX11_messageValue_1 qj1 ?_
  refine lv_sipush (v := 331) hx hb dX11_messageValue_4 (by decide) ?_
  refine lv_bipush (v := 7) hx hb dX11_messageValue_7 (by decide) ?_
  refine lv_iload_n hx hb dX11_messageValue_9 rfl (lv_at hl 1 rfl) ?_
  refine lv_imul hx hb dX11_messageValue_10 ?_
  refine lv_iadd hx hb dX11_messageValue_11 ?_
  refine lv_iload_n hx hb dX11_messageValue_12 rfl (lv_at hl 2 rfl) ?_
  refine lv_iadd hx hb dX11_messageValue_13 ?_
  replace hf := ckiE hf
  obtain ⟨h2, hf⟩ := hf
  refine x_iald hC hW tj1 rfl rfl h2 dX11_messageValue_14 ?_
  obtain ⟨e1, e2⟩ := so2 hf
  subst e1
  subst e2
  exact W.iret (v := ai S0 j1 (Int32.toNatClampNeg ((331 + (7 * p1)) + p2))) hx hb hr (fun t ht hWm => ⟨⟨rfl, by unfold QB; rw [ht]; exact ⟨hW, trivial⟩⟩, hS.F ht⟩) hS.2.2 dX11_messageValue_15 hlk
set_option maxHeartbeats 4000000 in
set_option maxRecDepth 100000 in
theorem c_X11_refAt (l : Launch) (g : GP) (ad : Nat → Nat) (n : Nat) (K : Nat → Nat) (sz F : Nat) (S0 : St) (p0 : Int32) (p1 : Int32) (r9 : Int32) (S9 : St) (hf : f_X11_refAt F S0 p0 p1 = some (r9, S9)) : Met l yX11_refAt wsX11_refAt { frames := 0, cells := 0, slots := 0, locals := 0 } (va_Pc [.int p0, .int p1] (PB g ad n K S0 sz)) (QR (some (.int r9)) (QB g ad n K S9 (dA ad n sz) (True)) (dA ad n sz)) 0 0 (dA ad n sz) := by
  refine Met.ofW (cc := cX11_refAt) (maxL := 2) (ret := (some .int)) (by decide) rfl ?_
  intro p e s m args below meth c s₁ B hml hv
  obtain ⟨rfl, hsz, hW, hK, hGs⟩ := x_start hv
  subst hsz
  have hx := B.exec
  have hb := B.bytes
  have hr := B.returns
  have hts := atoms_spec (ws := wsX11_refAt) B.pre
  have hown : s.vm.findClass RX11 = some m.cls := findClass_of_methodNamed B.named
  have hlk := B.notSynchronized
  have hC : Cx g p s m _ c cX11_refAt RX11 wsX11_refAt 2 := ⟨hx, hb, hml, hown, hts, hK⟩
  have hA : ∀ q : Nat, s.heap.size ≤ q → dA ad n s.heap.size q := fun q h => Or.inr h
  have hS : va_S (dA ad n s.heap.size) s.heap s.heap [] := va_S.rf
  have hl := lv_entry ([.int p0, .int p1]) (n := 2) (Nat.le_of_ble_eq_true rfl)
  rw [lg_entry_eq]
  generalize (lg_sl ([.int p0, .int p1]) ++ List.replicate (2 - (lg_sl ([.int p0, .int p1])).length) Slot.unset).toArray = ls at hl ⊢
  have hl : lv_has ls 2 [(0, .int p0), (1, .int p1)] := hl
  have hGE := hGs.2.2.2.2.2.2.1
  have hGM := hGs.2.2.2.2.2.2.2.1
  unfold f_X11_refAt at hf
  refine lv_sipush (v := 1171) hx hb dX11_refAt_0 (by decide) ?_
  refine lv_iconst (v := 3) hx hb dX11_refAt_3 (by decide) ?_
  refine lv_bipush (v := 10) hx hb dX11_refAt_4 (by decide) ?_
  refine lv_iload_n hx hb dX11_refAt_6 rfl (lv_at hl 0 rfl) ?_
  refine lv_imul hx hb dX11_refAt_7 ?_
  refine lv_iload_n hx hb dX11_refAt_8 rfl (lv_at hl 1 rfl) ?_
  refine lv_iadd hx hb dX11_refAt_9 ?_
  refine lv_imul hx hb dX11_refAt_10 ?_
  refine lv_iadd hx hb dX11_refAt_11 ?_
  obtain ⟨e1, e2⟩ := so2 hf
  subst e1
  subst e2
  exact W.iret (v := 1171 + (3 * ((10 * p0) + p1))) hx hb hr (fun t ht hWm => ⟨⟨rfl, by unfold QB; rw [ht]; exact ⟨hW, trivial⟩⟩, hS.F ht⟩) hS.2.2 dX11_refAt_12 hlk
set_option maxHeartbeats 4000000 in
set_option maxRecDepth 100000 in
theorem c_X11_stateOf (l : Launch) (g : GP) (ad : Nat → Nat) (n : Nat) (K : Nat → Nat) (sz F : Nat) (S0 : St) (p0 : Nat) (p1 : Int32) (p2 : Int32) (tp0 : p0 < n ∧ K p0 = 10) (r9 : Int32) (S9 : St) (hf : f_X11_stateOf F S0 p0 p1 p2 = some (r9, S9)) : Met l yX11_stateOf wsX11_stateOf { frames := 1, cells := 0, slots := 0, locals := 21 } (va_Pc [.ref (ad p0), .int p1, .int p2] (PB g ad n K S0 sz)) (QR (some (.int r9)) (QB g ad n K S9 (dA ad n sz) (True)) (dA ad n sz)) 0 0 (dA ad n sz) := by
  refine Met.ofW (cc := cX11_stateOf) (maxL := 3) (ret := (some .int)) (by decide) rfl ?_
  intro p e s m args below meth c s₁ B hml hv
  obtain ⟨rfl, hsz, hW, hK, hGs⟩ := x_start hv
  subst hsz
  have hx := B.exec
  have hb := B.bytes
  have hr := B.returns
  have hts := atoms_spec (ws := wsX11_stateOf) B.pre
  have hown : s.vm.findClass RX11 = some m.cls := findClass_of_methodNamed B.named
  have hlk := B.notSynchronized
  have hC : Cx g p s m _ c cX11_stateOf RX11 wsX11_stateOf 3 := ⟨hx, hb, hml, hown, hts, hK⟩
  have hA : ∀ q : Nat, s.heap.size ≤ q → dA ad n s.heap.size q := fun q h => Or.inr h
  have hS : va_S (dA ad n s.heap.size) s.heap s.heap [] := va_S.rf
  have hl := lv_entry ([.ref (ad p0), .int p1, .int p2]) (n := 3) (Nat.le_of_ble_eq_true rfl)
  rw [lg_entry_eq]
  generalize (lg_sl ([.ref (ad p0), .int p1, .int p2]) ++ List.replicate (3 - (lg_sl ([.ref (ad p0), .int p1, .int p2])).length) Slot.unset).toArray = ls at hl ⊢
  have hl : lv_has ls 3 [(0, .ref (ad p0)), (1, .int p1), (2, .int p2)] := hl
  have hin11 : ∀ w ∈ wsX110, w ∈ wsX11_stateOf := by decide +kernel
  have w_0 := hts (.fieldLink RX11 17 "MailSpoolModel" "net" "[I") (by decide +kernel)
  have hGE := hGs.2.2.2.2.2.2.1
  have hGM := hGs.2.2.2.2.2.2.2.1
  unfold f_X11_stateOf at hf
  refine lv_aload_n hx hb dX11_stateOf_0 rfl (lv_at hl 0 rfl) ?_
  replace hf := obE hf
  obtain ⟨j1, qj1, hf⟩ := hf
  have tj1 := x_rt hW qj1 12 ⟨by decide, rfl⟩
  refine x_getr 1001 (ci := 10) (C := RX11) (T := TX11) (N := 30) 1 hC hin11 hW tp0 rfl rfl ⟨by decide, by decide, rfl, rfl⟩ rfl w_0 dX11_stateOf_1 qj1 ?_
  refine lv_iload_n hx hb dX11_stateOf_4 rfl (lv_at hl 1 rfl) ?_
  refine lv_iload_n hx hb dX11_stateOf_5 rfl (lv_at hl 2 rfl) ?_
  replace hf := obE hf
  obtain ⟨z2, hz2, hf⟩ := hf
  obtain ⟨r4, S3⟩ := z2
  replace hf := ltE (ltE hf r4 rfl) S3 rfl
  refine x_callS (As := [.int p1, .int p2]) (rest := [.ref (ad j1)]) (o := (some (.int r4))) (S1 := S3) hC hl.1 hW hS hGs hA (c_X11_refAt l g ad n K s.heap.size F S0 p1 p2 r4 S3 hz2) (va_cwS 2 hts gX11_stateOf_X11_refAt rfl rfl rfl (by decide +kernel) ⟨Nat.le_of_ble_eq_true rfl, Nat.le_of_ble_eq_true rfl⟩) rfl rfl (Nat.le_of_ble_eq_true rfl) dX11_stateOf_6 ⟨Nat.le_of_ble_eq_true rfl, Nat.le_of_ble_eq_true rfl⟩ (fun H locs hPz2 hW hS => ?_)
  refine W.eq (g2 := F0 m 9 ls [.int r4, .ref (ad j1)]) rfl ?_
  refine lv_iconst (v := 0) hx hb dX11_stateOf_9 (by decide) ?_
  refine lv_iadd hx hb dX11_stateOf_10 ?_
  replace hf := ckiE hf
  obtain ⟨h6, hf⟩ := hf
  refine x_iald hC hW tj1 rfl rfl h6 dX11_stateOf_11 ?_
  obtain ⟨e1, e2⟩ := so2 hf
  subst e1
  subst e2
  exact W.iret (v := ai S3 j1 (Int32.toNatClampNeg (r4 + 0))) hx hb hr (fun t ht hWm => ⟨⟨rfl, by unfold QB; rw [ht]; exact ⟨hW, trivial⟩⟩, hS.F ht⟩) hS.2.2 dX11_stateOf_12 hlk
set_option maxHeartbeats 4000000 in
set_option maxRecDepth 100000 in
theorem c_X11_isRef (l : Launch) (g : GP) (ad : Nat → Nat) (n : Nat) (K : Nat → Nat) (sz F : Nat) (S0 : St) (p0 : Nat) (p1 : Int32) (p2 : Int32) (tp0 : p0 < n ∧ K p0 = 10) (r9 : Int32) (S9 : St) (hf : f_X11_isRef F S0 p0 p1 p2 = some (r9, S9)) : Met l yX11_isRef wsX11_isRef { frames := 2, cells := 0, slots := 0, locals := 46 } (va_Pc [.ref (ad p0), .int p1, .int p2] (PB g ad n K S0 sz)) (QR (some (.int r9)) (QB g ad n K S9 (dA ad n sz) (True)) (dA ad n sz)) 0 0 (dA ad n sz) := by
  refine Met.ofW (cc := cX11_isRef) (maxL := 3) (ret := (some .boolean)) (by decide) rfl ?_
  intro p e s m args below meth c s₁ B hml hv
  obtain ⟨rfl, hsz, hW, hK, hGs⟩ := x_start hv
  subst hsz
  have hx := B.exec
  have hb := B.bytes
  have hr := B.returns
  have hts := atoms_spec (ws := wsX11_isRef) B.pre
  have hown : s.vm.findClass RX11 = some m.cls := findClass_of_methodNamed B.named
  have hlk := B.notSynchronized
  have hC : Cx g p s m _ c cX11_isRef RX11 wsX11_isRef 3 := ⟨hx, hb, hml, hown, hts, hK⟩
  have hA : ∀ q : Nat, s.heap.size ≤ q → dA ad n s.heap.size q := fun q h => Or.inr h
  have hS : va_S (dA ad n s.heap.size) s.heap s.heap [] := va_S.rf
  have hl := lv_entry ([.ref (ad p0), .int p1, .int p2]) (n := 3) (Nat.le_of_ble_eq_true rfl)
  rw [lg_entry_eq]
  generalize (lg_sl ([.ref (ad p0), .int p1, .int p2]) ++ List.replicate (3 - (lg_sl ([.ref (ad p0), .int p1, .int p2])).length) Slot.unset).toArray = ls at hl ⊢
  have hl : lv_has ls 3 [(0, .ref (ad p0)), (1, .int p1), (2, .int p2)] := hl
  have hGE := hGs.2.2.2.2.2.2.1
  have hGM := hGs.2.2.2.2.2.2.2.1
  unfold f_X11_isRef at hf
  refine lv_aload_n hx hb dX11_isRef_0 rfl (lv_at hl 0 rfl) ?_
  refine lv_iload_n hx hb dX11_isRef_1 rfl (lv_at hl 1 rfl) ?_
  replace hf := obE hf
  obtain ⟨z1, hz1, hf⟩ := hf
  obtain ⟨r3, S2⟩ := z1
  replace hf := ltE (ltE hf r3 rfl) S2 rfl
  refine x_callV (As := [.int p1]) (rest := []) (o := (some (.int r3))) (S1 := S2) hC hl.1 hW hS hGs hA tp0 rfl (show vwCl[10]? = some (RX11, TX11, 30) ∧ 10 < 11 from ⟨rfl, by decide⟩) (c_X11_isMessage l g ad n K s.heap.size F S0 p0 p1 tp0 r3 S2 hz1) (cwV 1 hts gX11_isRef_X11_isMessage rfl rfl rfl (by decide +kernel) ⟨Nat.le_of_ble_eq_true rfl, Nat.le_of_ble_eq_true rfl⟩) rfl rfl (Nat.le_of_ble_eq_true rfl) dX11_isRef_2 ⟨Nat.le_of_ble_eq_true rfl, Nat.le_of_ble_eq_true rfl⟩ (fun H locs hPz1 hW hS => ?_)
  refine W.eq (g2 := F0 m 5 ls [.int r3]) rfl ?_
  refine lv_if_eq (tgt := 30) hx hb dX11_isRef_5 (by decide) (fun c5 => ?_) (fun c5 => ?_)
  · replace hf := ifT c5 hf
    refine lv_iconst (v := 0) hx hb dX11_isRef_30 (by decide) ?_
    obtain ⟨e1, e2⟩ := so2 hf
    subst e1
    subst e2
    exact W.zret (v := 0) hx hb hr rfl (fun t ht hWm => ⟨⟨rfl, by unfold QB; rw [ht]; exact ⟨hW, trivial⟩⟩, hS.F ht⟩) hS.2.2 dX11_isRef_31 hlk
  · replace hf := ifF c5 hf
    refine lv_aload_n hx hb dX11_isRef_8 rfl (lv_at hl 0 rfl) ?_
    refine lv_iload_n hx hb dX11_isRef_9 rfl (lv_at hl 2 rfl) ?_
    replace hf := obE hf
    obtain ⟨z6, hz6, hf⟩ := hf
    obtain ⟨r8, S7⟩ := z6
    replace hf := ltE (ltE hf r8 rfl) S7 rfl
    refine x_callV (As := [.int p2]) (rest := []) (o := (some (.int r8))) (S1 := S7) hC hl.1 hW hS hGs hA tp0 rfl (show vwCl[10]? = some (RX11, TX11, 30) ∧ 10 < 11 from ⟨rfl, by decide⟩) (c_X11_isUser l g ad n K H.size F S2 p0 p2 tp0 r8 S7 hz6) (cwV 1 hts gX11_isRef_X11_isUser rfl rfl rfl (by decide +kernel) ⟨Nat.le_of_ble_eq_true rfl, Nat.le_of_ble_eq_true rfl⟩) rfl rfl (Nat.le_of_ble_eq_true rfl) dX11_isRef_10 ⟨Nat.le_of_ble_eq_true rfl, Nat.le_of_ble_eq_true rfl⟩ (fun H locs hPz6 hW hS => ?_)
    refine W.eq (g2 := F0 m 13 ls [.int r8]) rfl ?_
    refine lv_if_eq (tgt := 30) hx hb dX11_isRef_13 (by decide) (fun c10 => ?_) (fun c10 => ?_)
    · replace hf := ifT c10 hf
      refine lv_iconst (v := 0) hx hb dX11_isRef_30 (by decide) ?_
      obtain ⟨e1, e2⟩ := so2 hf
      subst e1
      subst e2
      exact W.zret (v := 0) hx hb hr rfl (fun t ht hWm => ⟨⟨rfl, by unfold QB; rw [ht]; exact ⟨hW, trivial⟩⟩, hS.F ht⟩) hS.2.2 dX11_isRef_31 hlk
    · replace hf := ifF c10 hf
      refine lv_aload_n hx hb dX11_isRef_16 rfl (lv_at hl 0 rfl) ?_
      refine lv_iload_n hx hb dX11_isRef_17 rfl (lv_at hl 1 rfl) ?_
      refine lv_iload_n hx hb dX11_isRef_18 rfl (lv_at hl 2 rfl) ?_
      replace hf := obE hf
      obtain ⟨z11, hz11, hf⟩ := hf
      obtain ⟨r13, S12⟩ := z11
      replace hf := ltE (ltE hf r13 rfl) S12 rfl
      refine x_callV (As := [.int p1, .int p2]) (rest := []) (o := (some (.int r13))) (S1 := S12) hC hl.1 hW hS hGs hA tp0 rfl (show vwCl[10]? = some (RX11, TX11, 30) ∧ 10 < 11 from ⟨rfl, by decide⟩) (c_X11_stateOf l g ad n K H.size F S7 p0 p1 p2 tp0 r13 S12 hz11) (cwV 2 hts gX11_isRef_X11_stateOf rfl rfl rfl (by decide +kernel) ⟨Nat.le_of_ble_eq_true rfl, Nat.le_of_ble_eq_true rfl⟩) rfl rfl (Nat.le_of_ble_eq_true rfl) dX11_isRef_19 ⟨Nat.le_of_ble_eq_true rfl, Nat.le_of_ble_eq_true rfl⟩ (fun H locs hPz11 hW hS => ?_)
      refine W.eq (g2 := F0 m 22 ls [.int r13]) rfl ?_
      refine lv_iconst (v := -1) hx hb dX11_isRef_22 (by decide) ?_
      refine lv_icmp_eq (tgt := 30) hx hb dX11_isRef_23 (by decide) (fun c15 => ?_) (fun c15 => ?_)
      · replace hf := ifT c15 hf
        refine lv_iconst (v := 0) hx hb dX11_isRef_30 (by decide) ?_
        obtain ⟨e1, e2⟩ := so2 hf
        subst e1
        subst e2
        exact W.zret (v := 0) hx hb hr rfl (fun t ht hWm => ⟨⟨rfl, by unfold QB; rw [ht]; exact ⟨hW, trivial⟩⟩, hS.F ht⟩) hS.2.2 dX11_isRef_31 hlk
      · replace hf := ifF c15 hf
        refine lv_iconst (v := 1) hx hb dX11_isRef_26 (by decide) ?_
        refine lv_goto (tgt := 31) hx hb dX11_isRef_27 (by decide) ?_
        obtain ⟨e1, e2⟩ := so2 hf
        subst e1
        subst e2
        exact W.zret (v := 1) hx hb hr rfl (fun t ht hWm => ⟨⟨rfl, by unfold QB; rw [ht]; exact ⟨hW, trivial⟩⟩, hS.F ht⟩) hS.2.2 dX11_isRef_31 hlk
set_option maxHeartbeats 4000000 in
set_option maxRecDepth 100000 in
theorem c_X11_isLive (l : Launch) (g : GP) (ad : Nat → Nat) (n : Nat) (K : Nat → Nat) (sz F : Nat) (S0 : St) (p0 : Nat) (p1 : Int32) (p2 : Int32) (tp0 : p0 < n ∧ K p0 = 10) (r9 : Int32) (S9 : St) (hf : f_X11_isLive F S0 p0 p1 p2 = some (r9, S9)) : Met l yX11_isLive wsX11_isLive { frames := 2, cells := 0, slots := 0, locals := 43 } (va_Pc [.ref (ad p0), .int p1, .int p2] (PB g ad n K S0 sz)) (QR (some (.int r9)) (QB g ad n K S9 (dA ad n sz) (True)) (dA ad n sz)) 0 0 (dA ad n sz) := by
  refine Met.ofW (cc := cX11_isLive) (maxL := 3) (ret := (some .boolean)) (by decide) rfl ?_
  intro p e s m args below meth c s₁ B hml hv
  obtain ⟨rfl, hsz, hW, hK, hGs⟩ := x_start hv
  subst hsz
  have hx := B.exec
  have hb := B.bytes
  have hr := B.returns
  have hts := atoms_spec (ws := wsX11_isLive) B.pre
  have hown : s.vm.findClass RX11 = some m.cls := findClass_of_methodNamed B.named
  have hlk := B.notSynchronized
  have hC : Cx g p s m _ c cX11_isLive RX11 wsX11_isLive 3 := ⟨hx, hb, hml, hown, hts, hK⟩
  have hA : ∀ q : Nat, s.heap.size ≤ q → dA ad n s.heap.size q := fun q h => Or.inr h
  have hS : va_S (dA ad n s.heap.size) s.heap s.heap [] := va_S.rf
  have hl := lv_entry ([.ref (ad p0), .int p1, .int p2]) (n := 3) (Nat.le_of_ble_eq_true rfl)
  rw [lg_entry_eq]
  generalize (lg_sl ([.ref (ad p0), .int p1, .int p2]) ++ List.replicate (3 - (lg_sl ([.ref (ad p0), .int p1, .int p2])).length) Slot.unset).toArray = ls at hl ⊢
  have hl : lv_has ls 3 [(0, .ref (ad p0)), (1, .int p1), (2, .int p2)] := hl
  have hGE := hGs.2.2.2.2.2.2.1
  have hGM := hGs.2.2.2.2.2.2.2.1
  unfold f_X11_isLive at hf
  refine lv_aload_n hx hb dX11_isLive_0 rfl (lv_at hl 0 rfl) ?_
  refine lv_iload_n hx hb dX11_isLive_1 rfl (lv_at hl 1 rfl) ?_
  refine lv_iload_n hx hb dX11_isLive_2 rfl (lv_at hl 2 rfl) ?_
  replace hf := obE hf
  obtain ⟨z1, hz1, hf⟩ := hf
  obtain ⟨r3, S2⟩ := z1
  replace hf := ltE (ltE hf r3 rfl) S2 rfl
  refine x_callV (As := [.int p1, .int p2]) (rest := []) (o := (some (.int r3))) (S1 := S2) hC hl.1 hW hS hGs hA tp0 rfl (show vwCl[10]? = some (RX11, TX11, 30) ∧ 10 < 11 from ⟨rfl, by decide⟩) (c_X11_stateOf l g ad n K s.heap.size F S0 p0 p1 p2 tp0 r3 S2 hz1) (cwV 2 hts gX11_isLive_X11_stateOf rfl rfl rfl (by decide +kernel) ⟨Nat.le_of_ble_eq_true rfl, Nat.le_of_ble_eq_true rfl⟩) rfl rfl (Nat.le_of_ble_eq_true rfl) dX11_isLive_3 ⟨Nat.le_of_ble_eq_true rfl, Nat.le_of_ble_eq_true rfl⟩ (fun H locs hPz1 hW hS => ?_)
  refine W.eq (g2 := F0 m 6 ls [.int r3]) rfl ?_
  refine lv_if_ne (tgt := 13) hx hb dX11_isLive_6 (by decide) (fun c5 => ?_) (fun c5 => ?_)
  · replace hf := ifT c5 hf
    refine lv_iconst (v := 0) hx hb dX11_isLive_13 (by decide) ?_
    obtain ⟨e1, e2⟩ := so2 hf
    subst e1
    subst e2
    exact W.zret (v := 0) hx hb hr rfl (fun t ht hWm => ⟨⟨rfl, by unfold QB; rw [ht]; exact ⟨hW, trivial⟩⟩, hS.F ht⟩) hS.2.2 dX11_isLive_14 hlk
  · replace hf := ifF (fun q => q c5) hf
    refine lv_iconst (v := 1) hx hb dX11_isLive_9 (by decide) ?_
    refine lv_goto (tgt := 14) hx hb dX11_isLive_10 (by decide) ?_
    obtain ⟨e1, e2⟩ := so2 hf
    subst e1
    subst e2
    exact W.zret (v := 1) hx hb hr rfl (fun t ht hWm => ⟨⟨rfl, by unfold QB; rw [ht]; exact ⟨hW, trivial⟩⟩, hS.F ht⟩) hS.2.2 dX11_isLive_14 hlk
set_option maxHeartbeats 4000000 in
set_option maxRecDepth 100000 in
theorem c_X11_isHidden (l : Launch) (g : GP) (ad : Nat → Nat) (n : Nat) (K : Nat → Nat) (sz F : Nat) (S0 : St) (p0 : Nat) (p1 : Int32) (p2 : Int32) (tp0 : p0 < n ∧ K p0 = 10) (r9 : Int32) (S9 : St) (hf : f_X11_isHidden F S0 p0 p1 p2 = some (r9, S9)) : Met l yX11_isHidden wsX11_isHidden { frames := 2, cells := 0, slots := 0, locals := 43 } (va_Pc [.ref (ad p0), .int p1, .int p2] (PB g ad n K S0 sz)) (QR (some (.int r9)) (QB g ad n K S9 (dA ad n sz) (True)) (dA ad n sz)) 0 0 (dA ad n sz) := by
  refine Met.ofW (cc := cX11_isHidden) (maxL := 3) (ret := (some .boolean)) (by decide) rfl ?_
  intro p e s m args below meth c s₁ B hml hv
  obtain ⟨rfl, hsz, hW, hK, hGs⟩ := x_start hv
  subst hsz
  have hx := B.exec
  have hb := B.bytes
  have hr := B.returns
  have hts := atoms_spec (ws := wsX11_isHidden) B.pre
  have hown : s.vm.findClass RX11 = some m.cls := findClass_of_methodNamed B.named
  have hlk := B.notSynchronized
  have hC : Cx g p s m _ c cX11_isHidden RX11 wsX11_isHidden 3 := ⟨hx, hb, hml, hown, hts, hK⟩
  have hA : ∀ q : Nat, s.heap.size ≤ q → dA ad n s.heap.size q := fun q h => Or.inr h
  have hS : va_S (dA ad n s.heap.size) s.heap s.heap [] := va_S.rf
  have hl := lv_entry ([.ref (ad p0), .int p1, .int p2]) (n := 3) (Nat.le_of_ble_eq_true rfl)
  rw [lg_entry_eq]
  generalize (lg_sl ([.ref (ad p0), .int p1, .int p2]) ++ List.replicate (3 - (lg_sl ([.ref (ad p0), .int p1, .int p2])).length) Slot.unset).toArray = ls at hl ⊢
  have hl : lv_has ls 3 [(0, .ref (ad p0)), (1, .int p1), (2, .int p2)] := hl
  have w_0 := hts (.constantLong RX11 82 (2)) (by decide +kernel)
  have hGE := hGs.2.2.2.2.2.2.1
  have hGM := hGs.2.2.2.2.2.2.2.1
  unfold f_X11_isHidden at hf
  refine lv_aload_n hx hb dX11_isHidden_0 rfl (lv_at hl 0 rfl) ?_
  refine lv_iload_n hx hb dX11_isHidden_1 rfl (lv_at hl 1 rfl) ?_
  refine lv_iload_n hx hb dX11_isHidden_2 rfl (lv_at hl 2 rfl) ?_
  replace hf := obE hf
  obtain ⟨z1, hz1, hf⟩ := hf
  obtain ⟨r3, S2⟩ := z1
  replace hf := ltE (ltE hf r3 rfl) S2 rfl
  refine x_callV (As := [.int p1, .int p2]) (rest := []) (o := (some (.int r3))) (S1 := S2) hC hl.1 hW hS hGs hA tp0 rfl (show vwCl[10]? = some (RX11, TX11, 30) ∧ 10 < 11 from ⟨rfl, by decide⟩) (c_X11_stateOf l g ad n K s.heap.size F S0 p0 p1 p2 tp0 r3 S2 hz1) (cwV 2 hts gX11_isHidden_X11_stateOf rfl rfl rfl (by decide +kernel) ⟨Nat.le_of_ble_eq_true rfl, Nat.le_of_ble_eq_true rfl⟩) rfl rfl (Nat.le_of_ble_eq_true rfl) dX11_isHidden_3 ⟨Nat.le_of_ble_eq_true rfl, Nat.le_of_ble_eq_true rfl⟩ (fun H locs hPz1 hW hS => ?_)
  refine W.eq (g2 := F0 m 6 ls [.int r3]) rfl ?_
  refine lv_i2l (v := r3.toInt64) hx hb dX11_isHidden_6 rfl ?_
  refine lv_lconst (v := 1) hx hb dX11_isHidden_7 (by decide) ?_
  refine lv_ldc2 (v := (2)) hx hb hown w_0 dX11_isHidden_8 ?_
  replace hf := obE hf
  obtain ⟨z5, hz5, hf⟩ := hf
  obtain ⟨r7, S6⟩ := z5
  replace hf := ltE (ltE hf r7 rfl) S6 rfl
  refine x_callS (As := [.long (r3.toInt64), .long (1), .long ((2))]) (rest := []) (o := (some (.int r7))) (S1 := S6) hC hl.1 hW hS hGs hA (c_X11_in l g ad n K H.size F S2 r3.toInt64 ((1 : Int64)) (((2) : Int64)) r7 S6 hz5) (va_cwS 3 hts gX11_isHidden_X11_in rfl rfl rfl (by decide +kernel) ⟨Nat.le_of_ble_eq_true rfl, Nat.le_of_ble_eq_true rfl⟩) rfl rfl (Nat.le_of_ble_eq_true rfl) dX11_isHidden_11 ⟨Nat.le_of_ble_eq_true rfl, Nat.le_of_ble_eq_true rfl⟩ (fun H locs hPz5 hW hS => ?_)
  refine W.eq (g2 := F0 m 14 ls [.int r7]) rfl ?_
  replace hf := ckE hf
  obtain ⟨h9, hf⟩ := hf
  obtain ⟨e1, e2⟩ := so2 hf
  subst e1
  subst e2
  exact W.zret (v := r7) hx hb hr (zn h9) (fun t ht hWm => ⟨⟨rfl, by unfold QB; rw [ht]; exact ⟨hW, trivial⟩⟩, hS.F ht⟩) hS.2.2 dX11_isHidden_14 hlk
set_option maxHeartbeats 4000000 in
set_option maxRecDepth 100000 in
theorem c_X11_partValue (l : Launch) (g : GP) (ad : Nat → Nat) (n : Nat) (K : Nat → Nat) (sz F : Nat) (S0 : St) (p0 : Nat) (p1 : Int32) (p2 : Int32) (tp0 : p0 < n ∧ K p0 = 10) (r9 : Int32) (S9 : St) (hf : f_X11_partValue F S0 p0 p1 p2 = some (r9, S9)) : Met l yX11_partValue wsX11_partValue { frames := 0, cells := 0, slots := 0, locals := 0 } (va_Pc [.ref (ad p0), .int p1, .int p2] (PB g ad n K S0 sz)) (QR (some (.int r9)) (QB g ad n K S9 (dA ad n sz) (True)) (dA ad n sz)) 0 0 (dA ad n sz) := by
  refine Met.ofW (cc := cX11_partValue) (maxL := 3) (ret := (some .int)) (by decide) rfl ?_
  intro p e s m args below meth c s₁ B hml hv
  obtain ⟨rfl, hsz, hW, hK, hGs⟩ := x_start hv
  subst hsz
  have hx := B.exec
  have hb := B.bytes
  have hr := B.returns
  have hts := atoms_spec (ws := wsX11_partValue) B.pre
  have hown : s.vm.findClass RX11 = some m.cls := findClass_of_methodNamed B.named
  have hlk := B.notSynchronized
  have hC : Cx g p s m _ c cX11_partValue RX11 wsX11_partValue 3 := ⟨hx, hb, hml, hown, hts, hK⟩
  have hA : ∀ q : Nat, s.heap.size ≤ q → dA ad n s.heap.size q := fun q h => Or.inr h
  have hS : va_S (dA ad n s.heap.size) s.heap s.heap [] := va_S.rf
  have hl := lv_entry ([.ref (ad p0), .int p1, .int p2]) (n := 3) (Nat.le_of_ble_eq_true rfl)
  rw [lg_entry_eq]
  generalize (lg_sl ([.ref (ad p0), .int p1, .int p2]) ++ List.replicate (3 - (lg_sl ([.ref (ad p0), .int p1, .int p2])).length) Slot.unset).toArray = ls at hl ⊢
  have hl : lv_has ls 3 [(0, .ref (ad p0)), (1, .int p1), (2, .int p2)] := hl
  have hin11 : ∀ w ∈ wsX110, w ∈ wsX11_partValue := by decide +kernel
  have w_0 := hts (.fieldLink RX11 17 "MailSpoolModel" "net" "[I") (by decide +kernel)
  have hGE := hGs.2.2.2.2.2.2.1
  have hGM := hGs.2.2.2.2.2.2.2.1
  unfold f_X11_partValue at hf
  refine lv_aload_n hx hb dX11_partValue_0 rfl (lv_at hl 0 rfl) ?_
  replace hf := obE hf
  obtain ⟨j1, qj1, hf⟩ := hf
  have tj1 := x_rt hW qj1 12 ⟨by decide, rfl⟩
  refine x_getr 1001 (ci := 10) (C := RX11) (T := TX11) (N := 30) 1 hC hin11 hW tp0 rfl rfl ⟨by decide, by decide, rfl, rfl⟩ rfl w_0 dX11_partValue_1 qj1 ?_
  refine lv_sipush (v := 4771) hx hb dX11_partValue_4 (by decide) ?_
  refine lv_iconst (v := 3) hx hb dX11_partValue_7 (by decide) ?_
  refine lv_iload_n hx hb dX11_partValue_8 rfl (lv_at hl 1 rfl) ?_
  refine lv_imul hx hb dX11_partValue_9 ?_
  refine lv_iadd hx hb dX11_partValue_10 ?_
  refine lv_iload_n hx hb dX11_partValue_11 rfl (lv_at hl 2 rfl) ?_
  refine lv_iadd hx hb dX11_partValue_12 ?_
  replace hf := ckiE hf
  obtain ⟨h2, hf⟩ := hf
  refine x_iald hC hW tj1 rfl rfl h2 dX11_partValue_13 ?_
  obtain ⟨e1, e2⟩ := so2 hf
  subst e1
  subst e2
  exact W.iret (v := ai S0 j1 (Int32.toNatClampNeg ((4771 + (3 * p1)) + p2))) hx hb hr (fun t ht hWm => ⟨⟨rfl, by unfold QB; rw [ht]; exact ⟨hW, trivial⟩⟩, hS.F ht⟩) hS.2.2 dX11_partValue_14 hlk
set_option maxHeartbeats 4000000 in
set_option maxRecDepth 100000 in
theorem c_X11_isStored (l : Launch) (g : GP) (ad : Nat → Nat) (n : Nat) (K : Nat → Nat) (sz F : Nat) (S0 : St) (p0 : Nat) (p1 : Int32) (tp0 : p0 < n ∧ K p0 = 10) (r9 : Int32) (S9 : St) (hf : f_X11_isStored F S0 p0 p1 = some (r9, S9)) : Met l yX11_isStored wsX11_isStored { frames := 1, cells := 0, slots := 0, locals := 25 } (va_Pc [.ref (ad p0), .int p1] (PB g ad n K S0 sz)) (QR (some (.int r9)) (QB g ad n K S9 (dA ad n sz) (True)) (dA ad n sz)) 0 0 (dA ad n sz) := by
  refine Met.ofW (cc := cX11_isStored) (maxL := 2) (ret := (some .boolean)) (by decide) rfl ?_
  intro p e s m args below meth c s₁ B hml hv
  obtain ⟨rfl, hsz, hW, hK, hGs⟩ := x_start hv
  subst hsz
  have hx := B.exec
  have hb := B.bytes
  have hr := B.returns
  have hts := atoms_spec (ws := wsX11_isStored) B.pre
  have hown : s.vm.findClass RX11 = some m.cls := findClass_of_methodNamed B.named
  have hlk := B.notSynchronized
  have hC : Cx g p s m _ c cX11_isStored RX11 wsX11_isStored 2 := ⟨hx, hb, hml, hown, hts, hK⟩
  have hA : ∀ q : Nat, s.heap.size ≤ q → dA ad n s.heap.size q := fun q h => Or.inr h
  have hS : va_S (dA ad n s.heap.size) s.heap s.heap [] := va_S.rf
  have hl := lv_entry ([.ref (ad p0), .int p1]) (n := 2) (Nat.le_of_ble_eq_true rfl)
  rw [lg_entry_eq]
  generalize (lg_sl ([.ref (ad p0), .int p1]) ++ List.replicate (2 - (lg_sl ([.ref (ad p0), .int p1])).length) Slot.unset).toArray = ls at hl ⊢
  have hl : lv_has ls 2 [(0, .ref (ad p0)), (1, .int p1)] := hl
  have hin11 : ∀ w ∈ wsX110, w ∈ wsX11_isStored := by decide +kernel
  have w_0 := hts (.fieldLink RX11 17 "MailSpoolModel" "net" "[I") (by decide +kernel)
  have hGE := hGs.2.2.2.2.2.2.1
  have hGM := hGs.2.2.2.2.2.2.2.1
  unfold f_X11_isStored at hf
  refine lv_iload_n hx hb dX11_isStored_0 rfl (lv_at hl 1 rfl) ?_
  refine lv_i2l (v := p1.toInt64) hx hb dX11_isStored_1 rfl ?_
  refine lv_lconst (v := 0) hx hb dX11_isStored_2 (by decide) ?_
  refine lv_aload_n hx hb dX11_isStored_3 rfl (lv_at hl 0 rfl) ?_
  replace hf := obE hf
  obtain ⟨j1, qj1, hf⟩ := hf
  have tj1 := x_rt hW qj1 12 ⟨by decide, rfl⟩
  refine x_getr 1001 (ci := 10) (C := RX11) (T := TX11) (N := 30) 1 hC hin11 hW tp0 rfl rfl ⟨by decide, by decide, rfl, rfl⟩ rfl w_0 dX11_isStored_4 qj1 ?_
  refine lv_bipush (v := 8) hx hb dX11_isStored_7 (by decide) ?_
  replace hf := ckiE hf
  obtain ⟨h2, hf⟩ := hf
  refine x_iald hC hW tj1 rfl rfl h2 dX11_isStored_9 ?_
  refine lv_iconst (v := 1) hx hb dX11_isStored_10 (by decide) ?_
  refine lv_isub hx hb dX11_isStored_11 ?_
  refine lv_i2l (v := ((ai S0 j1 (Int32.toNatClampNeg 8)) - 1).toInt64) hx hb dX11_isStored_12 rfl ?_
  replace hf := obE hf
  obtain ⟨z3, hz3, hf⟩ := hf
  obtain ⟨r5, S4⟩ := z3
  replace hf := ltE (ltE hf r5 rfl) S4 rfl
  refine x_callS (As := [.long (p1.toInt64), .long (0), .long (((ai S0 j1 (Int32.toNatClampNeg 8)) - 1).toInt64)]) (rest := []) (o := (some (.int r5))) (S1 := S4) hC hl.1 hW hS hGs hA (c_X11_in l g ad n K s.heap.size F S0 p1.toInt64 ((0 : Int64)) (((ai S0 j1 (Int32.toNatClampNeg 8)) - 1).toInt64) r5 S4 hz3) (va_cwS 3 hts gX11_isStored_X11_in rfl rfl rfl (by decide +kernel) ⟨Nat.le_of_ble_eq_true rfl, Nat.le_of_ble_eq_true rfl⟩) rfl rfl (Nat.le_of_ble_eq_true rfl) dX11_isStored_13 ⟨Nat.le_of_ble_eq_true rfl, Nat.le_of_ble_eq_true rfl⟩ (fun H locs hPz3 hW hS => ?_)
  refine W.eq (g2 := F0 m 16 ls [.int r5]) rfl ?_
  refine lv_if_eq (tgt := 33) hx hb dX11_isStored_16 (by decide) (fun c7 => ?_) (fun c7 => ?_)
  · replace hf := ifT c7 hf
    refine lv_iconst (v := 0) hx hb dX11_isStored_33 (by decide) ?_
    obtain ⟨e1, e2⟩ := so2 hf
    subst e1
    subst e2
    exact W.zret (v := 0) hx hb hr rfl (fun t ht hWm => ⟨⟨rfl, by unfold QB; rw [ht]; exact ⟨hW, trivial⟩⟩, hS.F ht⟩) hS.2.2 dX11_isStored_34 hlk
  · replace hf := ifF c7 hf
    refine lv_aload_n hx hb dX11_isStored_19 rfl (lv_at hl 0 rfl) ?_
    refine lv_iload_n hx hb dX11_isStored_20 rfl (lv_at hl 1 rfl) ?_
    refine lv_iconst (v := 1) hx hb dX11_isStored_21 (by decide) ?_
    replace hf := obE hf
    obtain ⟨z8, hz8, hf⟩ := hf
    obtain ⟨r10, S9⟩ := z8
    replace hf := ltE (ltE hf r10 rfl) S9 rfl
    refine x_callV (As := [.int p1, .int 1]) (rest := []) (o := (some (.int r10))) (S1 := S9) hC hl.1 hW hS hGs hA tp0 rfl (show vwCl[10]? = some (RX11, TX11, 30) ∧ 10 < 11 from ⟨rfl, by decide⟩) (c_X11_partValue l g ad n K H.size F S4 p0 p1 ((1 : Int32)) tp0 r10 S9 hz8) (cwV 2 hts gX11_isStored_X11_partValue rfl rfl rfl (by decide +kernel) ⟨Nat.le_of_ble_eq_true rfl, Nat.le_of_ble_eq_true rfl⟩) rfl rfl (Nat.le_of_ble_eq_true rfl) dX11_isStored_22 ⟨Nat.le_of_ble_eq_true rfl, Nat.le_of_ble_eq_true rfl⟩ (fun H locs hPz8 hW hS => ?_)
    refine W.eq (g2 := F0 m 25 ls [.int r10]) rfl ?_
    refine lv_iconst (v := 1) hx hb dX11_isStored_25 (by decide) ?_
    refine lv_icmp_ne (tgt := 33) hx hb dX11_isStored_26 (by decide) (fun c12 => ?_) (fun c12 => ?_)
    · replace hf := ifT c12 hf
      refine lv_iconst (v := 0) hx hb dX11_isStored_33 (by decide) ?_
      obtain ⟨e1, e2⟩ := so2 hf
      subst e1
      subst e2
      exact W.zret (v := 0) hx hb hr rfl (fun t ht hWm => ⟨⟨rfl, by unfold QB; rw [ht]; exact ⟨hW, trivial⟩⟩, hS.F ht⟩) hS.2.2 dX11_isStored_34 hlk
    · replace hf := ifF (fun q => q c12) hf
      refine lv_iconst (v := 1) hx hb dX11_isStored_29 (by decide) ?_
      refine lv_goto (tgt := 34) hx hb dX11_isStored_30 (by decide) ?_
      obtain ⟨e1, e2⟩ := so2 hf
      subst e1
      subst e2
      exact W.zret (v := 1) hx hb hr rfl (fun t ht hWm => ⟨⟨rfl, by unfold QB; rw [ht]; exact ⟨hW, trivial⟩⟩, hS.F ht⟩) hS.2.2 dX11_isStored_34 hlk
set_option maxHeartbeats 4000000 in
set_option maxRecDepth 100000 in
theorem c_X11_isDead (l : Launch) (g : GP) (ad : Nat → Nat) (n : Nat) (K : Nat → Nat) (sz F : Nat) (S0 : St) (p0 : Nat) (p1 : Int32) (tp0 : p0 < n ∧ K p0 = 10) (r9 : Int32) (S9 : St) (hf : f_X11_isDead F S0 p0 p1 = some (r9, S9)) : Met l yX11_isDead wsX11_isDead { frames := 1, cells := 0, slots := 0, locals := 22 } (va_Pc [.ref (ad p0), .int p1] (PB g ad n K S0 sz)) (QR (some (.int r9)) (QB g ad n K S9 (dA ad n sz) (True)) (dA ad n sz)) 0 0 (dA ad n sz) := by
  refine Met.ofW (cc := cX11_isDead) (maxL := 2) (ret := (some .boolean)) (by decide) rfl ?_
  intro p e s m args below meth c s₁ B hml hv
  obtain ⟨rfl, hsz, hW, hK, hGs⟩ := x_start hv
  subst hsz
  have hx := B.exec
  have hb := B.bytes
  have hr := B.returns
  have hts := atoms_spec (ws := wsX11_isDead) B.pre
  have hown : s.vm.findClass RX11 = some m.cls := findClass_of_methodNamed B.named
  have hlk := B.notSynchronized
  have hC : Cx g p s m _ c cX11_isDead RX11 wsX11_isDead 2 := ⟨hx, hb, hml, hown, hts, hK⟩
  have hA : ∀ q : Nat, s.heap.size ≤ q → dA ad n s.heap.size q := fun q h => Or.inr h
  have hS : va_S (dA ad n s.heap.size) s.heap s.heap [] := va_S.rf
  have hl := lv_entry ([.ref (ad p0), .int p1]) (n := 2) (Nat.le_of_ble_eq_true rfl)
  rw [lg_entry_eq]
  generalize (lg_sl ([.ref (ad p0), .int p1]) ++ List.replicate (2 - (lg_sl ([.ref (ad p0), .int p1])).length) Slot.unset).toArray = ls at hl ⊢
  have hl : lv_has ls 2 [(0, .ref (ad p0)), (1, .int p1)] := hl
  have hGE := hGs.2.2.2.2.2.2.1
  have hGM := hGs.2.2.2.2.2.2.2.1
  unfold f_X11_isDead at hf
  refine lv_aload_n hx hb dX11_isDead_0 rfl (lv_at hl 0 rfl) ?_
  refine lv_iload_n hx hb dX11_isDead_1 rfl (lv_at hl 1 rfl) ?_
  refine lv_iconst (v := 2) hx hb dX11_isDead_2 (by decide) ?_
  replace hf := obE hf
  obtain ⟨z1, hz1, hf⟩ := hf
  obtain ⟨r3, S2⟩ := z1
  replace hf := ltE (ltE hf r3 rfl) S2 rfl
  refine x_callV (As := [.int p1, .int 2]) (rest := []) (o := (some (.int r3))) (S1 := S2) hC hl.1 hW hS hGs hA tp0 rfl (show vwCl[10]? = some (RX11, TX11, 30) ∧ 10 < 11 from ⟨rfl, by decide⟩) (c_X11_partValue l g ad n K s.heap.size F S0 p0 p1 ((2 : Int32)) tp0 r3 S2 hz1) (cwV 2 hts gX11_isDead_X11_partValue rfl rfl rfl (by decide +kernel) ⟨Nat.le_of_ble_eq_true rfl, Nat.le_of_ble_eq_true rfl⟩) rfl rfl (Nat.le_of_ble_eq_true rfl) dX11_isDead_3 ⟨Nat.le_of_ble_eq_true rfl, Nat.le_of_ble_eq_true rfl⟩ (fun H locs hPz1 hW hS => ?_)
  refine W.eq (g2 := F0 m 6 ls [.int r3]) rfl ?_
  refine lv_iconst (v := -1) hx hb dX11_isDead_6 (by decide) ?_
  refine lv_icmp_eq (tgt := 14) hx hb dX11_isDead_7 (by decide) (fun c5 => ?_) (fun c5 => ?_)
  · replace hf := ifT c5 hf
    refine lv_iconst (v := 0) hx hb dX11_isDead_14 (by decide) ?_
    obtain ⟨e1, e2⟩ := so2 hf
    subst e1
    subst e2
    exact W.zret (v := 0) hx hb hr rfl (fun t ht hWm => ⟨⟨rfl, by unfold QB; rw [ht]; exact ⟨hW, trivial⟩⟩, hS.F ht⟩) hS.2.2 dX11_isDead_15 hlk
  · replace hf := ifF c5 hf
    refine lv_iconst (v := 1) hx hb dX11_isDead_10 (by decide) ?_
    refine lv_goto (tgt := 15) hx hb dX11_isDead_11 (by decide) ?_
    obtain ⟨e1, e2⟩ := so2 hf
    subst e1
    subst e2
    exact W.zret (v := 1) hx hb hr rfl (fun t ht hWm => ⟨⟨rfl, by unfold QB; rw [ht]; exact ⟨hW, trivial⟩⟩, hS.F ht⟩) hS.2.2 dX11_isDead_15 hlk
set_option maxHeartbeats 4000000 in
set_option maxRecDepth 100000 in
theorem c_X11_log (l : Launch) (g : GP) (ad : Nat → Nat) (n : Nat) (K : Nat → Nat) (sz F : Nat) (S0 : St) (p0 : Nat) (p1 : Int32) (p2 : Int32) (tp0 : p0 < n ∧ K p0 = 10) (S9 : St) (hf : f_X11_log F S0 p0 p1 p2 = some S9) : Met l yX11_log wsX11_log { frames := 0, cells := 0, slots := 0, locals := 0 } (va_Pc [.ref (ad p0), .int p1, .int p2] (PB g ad n K S0 sz)) (QR none (QB g ad n K S9 (dA ad n sz) (True)) (dA ad n sz)) 0 0 (dA ad n sz) := by
  refine Met.ofW (cc := cX11_log) (maxL := 4) (ret := none) (by decide) rfl ?_
  intro p e s m args below meth c s₁ B hml hv
  obtain ⟨rfl, hsz, hW, hK, hGs⟩ := x_start hv
  subst hsz
  have hx := B.exec
  have hb := B.bytes
  have hr := B.returns
  have hts := atoms_spec (ws := wsX11_log) B.pre
  have hown : s.vm.findClass RX11 = some m.cls := findClass_of_methodNamed B.named
  have hlk := B.notSynchronized
  have hC : Cx g p s m _ c cX11_log RX11 wsX11_log 4 := ⟨hx, hb, hml, hown, hts, hK⟩
  have hA : ∀ q : Nat, s.heap.size ≤ q → dA ad n s.heap.size q := fun q h => Or.inr h
  have hS : va_S (dA ad n s.heap.size) s.heap s.heap [] := va_S.rf
  have hl := lv_entry ([.ref (ad p0), .int p1, .int p2]) (n := 4) (Nat.le_of_ble_eq_true rfl)
  rw [lg_entry_eq]
  generalize (lg_sl ([.ref (ad p0), .int p1, .int p2]) ++ List.replicate (4 - (lg_sl ([.ref (ad p0), .int p1, .int p2])).length) Slot.unset).toArray = ls at hl ⊢
  have hl : lv_has ls 4 [(0, .ref (ad p0)), (1, .int p1), (2, .int p2)] := hl
  have hin11 : ∀ w ∈ wsX110, w ∈ wsX11_log := by decide +kernel
  have w_0 := hts (.fieldLink RX11 17 "MailSpoolModel" "net" "[I") (by decide +kernel)
  have w_1 := hts (.fieldLink RX11 87 "MailSpoolModel" "isThought" "Z") (by decide +kernel)
  have hGE := hGs.2.2.2.2.2.2.1
  have hGM := hGs.2.2.2.2.2.2.2.1
  have L66 : ∀ (S0 : St) (v0 : Nat) (v1 : Int32) (v2 : Int32) (tv0 : v0 < n ∧ K v0 = 10) (H : Heap) (locs : List Loc) (ls : Array Slot), f_X11_log_L66 F S0 v0 v1 v2 = some S9 → Wb g ad n K S0 (dA ad n s.heap.size) H → va_S (dA ad n s.heap.size) s.heap H locs → lv_has ls 4 [(0, .ref (ad v0)), (1, .int v1), (2, .int v2)] → W p l e (headSpec wsX11_log { frames := 0, cells := 0, slots := 0, locals := 0 }).room s m (List.toArray [.ref (ad p0), .int p1, .int p2]) below meth c H locs 0 0 (MQ below (QR none (QB g ad n K S9 (dA ad n s.heap.size) (True)) (dA ad n s.heap.size)) (List.toArray [.ref (ad p0), .int p1, .int p2]) s 0 0 (dA ad n s.heap.size)) (F0 m 66 ls []) := by
    intro S0 v0 v1 v2 tv0 H locs ls hf hW hS hl
    unfold f_X11_log_L66 at hf
    refine lv_sipush (v := 6211) hx hb dX11_log_66 (by decide) ?_
    refine lv_iconst (v := 3) hx hb dX11_log_69 (by decide) ?_
    refine lv_aload_n hx hb dX11_log_70 rfl (lv_at hl 0 rfl) ?_
    replace hf := obE hf
    obtain ⟨j19, qj19, hf⟩ := hf
    have tj19 := x_rt hW qj19 12 ⟨by decide, rfl⟩
    refine x_getr 1001 (ci := 10) (C := RX11) (T := TX11) (N := 30) 1 hC hin11 hW tv0 rfl rfl ⟨by decide, by decide, rfl, rfl⟩ rfl w_0 dX11_log_71 qj19 ?_
    refine lv_bipush (v := 9) hx hb dX11_log_74 (by decide) ?_
    replace hf := ckiE hf
    obtain ⟨h20, hf⟩ := hf
    refine x_iald hC hW tj19 rfl rfl h20 dX11_log_76 ?_
    refine lv_imul hx hb dX11_log_77 ?_
    refine lv_iadd hx hb dX11_log_78 ?_
    refine lv_topi (fun x21 ex21 => ?_)
    replace hf := ltE hf x21 ex21
    refine lv_istore_n (lv' := [(3, .int x21), (0, .ref (ad v0)), (1, .int v1), (2, .int v2)]) hx hb dX11_log_79 rfl hl (by decide) rfl (fun ls hl => ?_)
    refine lv_aload_n hx hb dX11_log_80 rfl (lv_at hl 1 rfl) ?_
    replace hf := obE hf
    obtain ⟨j22, qj22, hf⟩ := hf
    have tj22 := x_rt hW qj22 12 ⟨by decide, rfl⟩
    refine x_getr 1001 (ci := 10) (C := RX11) (T := TX11) (N := 30) 1 hC hin11 hW tv0 rfl rfl ⟨by decide, by decide, rfl, rfl⟩ rfl w_0 dX11_log_81 qj22 ?_
    refine lv_iload_n hx hb dX11_log_84 rfl (lv_at hl 0 rfl) ?_
    refine lv_aload_n hx hb dX11_log_85 rfl (lv_at hl 1 rfl) ?_
    replace hf := obE hf
    obtain ⟨j23, qj23, hf⟩ := hf
    have tj23 := x_rt hW qj23 12 ⟨by decide, rfl⟩
    refine x_getr 1001 (ci := 10) (C := RX11) (T := TX11) (N := 30) 1 hC hin11 hW tv0 rfl rfl ⟨by decide, by decide, rfl, rfl⟩ rfl w_0 dX11_log_86 qj23 ?_
    refine lv_iconst (v := 2) hx hb dX11_log_89 (by decide) ?_
    replace hf := ckiE hf
    obtain ⟨h24, hf⟩ := hf
    refine x_iald hC hW tj23 rfl rfl h24 dX11_log_90 ?_
    replace hf := ckiE hf
    obtain ⟨h25, hf⟩ := hf
    refine x_iast hC hW hS tj22 rfl rfl h25 dX11_log_91 (fun S26 H locs eS26 hW hS => ?_)
    replace hf := ltE hf S26 eS26
    refine lv_aload_n hx hb dX11_log_92 rfl (lv_at hl 1 rfl) ?_
    replace hf := obE hf
    obtain ⟨j27, qj27, hf⟩ := hf
    have tj27 := x_rt hW qj27 12 ⟨by decide, rfl⟩
    refine x_getr 1001 (ci := 10) (C := RX11) (T := TX11) (N := 30) 1 hC hin11 hW tv0 rfl rfl ⟨by decide, by decide, rfl, rfl⟩ rfl w_0 dX11_log_93 qj27 ?_
    refine lv_iload_n hx hb dX11_log_96 rfl (lv_at hl 0 rfl) ?_
    refine lv_iconst (v := 1) hx hb dX11_log_97 (by decide) ?_
    refine lv_iadd hx hb dX11_log_98 ?_
    refine lv_iload_n hx hb dX11_log_99 rfl (lv_at hl 2 rfl) ?_
    replace hf := ckiE hf
    obtain ⟨h28, hf⟩ := hf
    refine x_iast hC hW hS tj27 rfl rfl h28 dX11_log_100 (fun S29 H locs eS29 hW hS => ?_)
    replace hf := ltE hf S29 eS29
    refine lv_aload_n hx hb dX11_log_101 rfl (lv_at hl 1 rfl) ?_
    replace hf := obE hf
    obtain ⟨j30, qj30, hf⟩ := hf
    have tj30 := x_rt hW qj30 12 ⟨by decide, rfl⟩
    refine x_getr 1001 (ci := 10) (C := RX11) (T := TX11) (N := 30) 1 hC hin11 hW tv0 rfl rfl ⟨by decide, by decide, rfl, rfl⟩ rfl w_0 dX11_log_102 qj30 ?_
    refine lv_iload_n hx hb dX11_log_105 rfl (lv_at hl 0 rfl) ?_
    refine lv_iconst (v := 2) hx hb dX11_log_106 (by decide) ?_
    refine lv_iadd hx hb dX11_log_107 ?_
    refine lv_iload_n hx hb dX11_log_108 rfl (lv_at hl 3 rfl) ?_
    replace hf := ckiE hf
    obtain ⟨h31, hf⟩ := hf
    refine x_iast hC hW hS tj30 rfl rfl h31 dX11_log_109 (fun S32 H locs eS32 hW hS => ?_)
    replace hf := ltE hf S32 eS32
    refine lv_aload_n hx hb dX11_log_110 rfl (lv_at hl 1 rfl) ?_
    replace hf := obE hf
    obtain ⟨j33, qj33, hf⟩ := hf
    have tj33 := x_rt hW qj33 12 ⟨by decide, rfl⟩
    refine x_getr 1001 (ci := 10) (C := RX11) (T := TX11) (N := 30) 1 hC hin11 hW tv0 rfl rfl ⟨by decide, by decide, rfl, rfl⟩ rfl w_0 dX11_log_111 qj33 ?_
    refine lv_bipush (v := 9) hx hb dX11_log_114 (by decide) ?_
    refine lv_dup2_11 hx hb dX11_log_116 rfl rfl ?_
    replace hf := ckiE hf
    obtain ⟨h34, hf⟩ := hf
    refine x_iald hC hW tj33 rfl rfl h34 dX11_log_117 ?_
    refine lv_iconst (v := 1) hx hb dX11_log_118 (by decide) ?_
    refine lv_iadd hx hb dX11_log_119 ?_
    replace hf := ckiE hf
    obtain ⟨h35, hf⟩ := hf
    refine x_iast hC hW hS tj33 rfl rfl h35 dX11_log_120 (fun S36 H locs eS36 hW hS => ?_)
    replace hf := ltE hf S36 eS36
    have e1 := Option.some.inj hf
    subst e1
    exact W.vret hx hb hr (fun t ht hWm => ⟨⟨rfl, by unfold QB; rw [ht]; exact ⟨hW, trivial⟩⟩, hS.F ht⟩) hS.2.2 dX11_log_121 hlk
  have L22 : ∀ (fu22 : Nat) (S0 : St) (v0 : Nat) (v1 : Int32) (v2 : Int32) (v3 : Int32) (tv0 : v0 < n ∧ K v0 = 10) (H : Heap) (locs : List Loc) (ls : Array Slot), f_X11_log_L22 F fu22 S0 v0 v1 v2 v3 = some S9 → Wb g ad n K S0 (dA ad n s.heap.size) H → va_S (dA ad n s.heap.size) s.heap H locs → lv_has ls 4 [(0, .ref (ad v0)), (1, .int v1), (2, .int v2), (3, .int v3)] → W p l e (headSpec wsX11_log { frames := 0, cells := 0, slots := 0, locals := 0 }).room s m (List.toArray [.ref (ad p0), .int p1, .int p2]) below meth c H locs 0 0 (MQ below (QR none (QB g ad n K S9 (dA ad n s.heap.size) (True)) (dA ad n s.heap.size)) (List.toArray [.ref (ad p0), .int p1, .int p2]) s 0 0 (dA ad n s.heap.size)) (F0 m 22 ls []) := by
    intro fu22
    induction fu22 with
    | zero =>
      intro S0 v0 v1 v2 v3 tv0 H locs ls hf
      cases hf
    | succ fu22 ih22 =>
      intro S0 v0 v1 v2 v3 tv0 H locs ls hf hW hS hl
      unfold f_X11_log_L22 at hf
      refine lv_iload_n hx hb dX11_log_22 rfl (lv_at hl 3 rfl) ?_
      refine lv_sipush (v := 177) hx hb dX11_log_23 (by decide) ?_
      refine lv_icmp_ge (tgt := 55) hx hb dX11_log_26 (by decide) (fun c48 => ?_) (fun c48 => ?_)
      · replace hf := ifT c48 hf
        refine lv_aload_n hx hb dX11_log_55 rfl (lv_at hl 0 rfl) ?_
        replace hf := obE hf
        obtain ⟨j49, qj49, hf⟩ := hf
        have tj49 := x_rt hW qj49 12 ⟨by decide, rfl⟩
        refine x_getr 1001 (ci := 10) (C := RX11) (T := TX11) (N := 30) 1 hC hin11 hW tv0 rfl rfl ⟨by decide, by decide, rfl, rfl⟩ rfl w_0 dX11_log_56 qj49 ?_
        refine lv_bipush (v := 9) hx hb dX11_log_59 (by decide) ?_
        refine lv_dup2_11 hx hb dX11_log_61 rfl rfl ?_
        replace hf := ckiE hf
        obtain ⟨h50, hf⟩ := hf
        refine x_iald hC hW tj49 rfl rfl h50 dX11_log_62 ?_
        refine lv_iconst (v := 1) hx hb dX11_log_63 (by decide) ?_
        refine lv_isub hx hb dX11_log_64 ?_
        replace hf := ckiE hf
        obtain ⟨h51, hf⟩ := hf
        refine x_iast hC hW hS tj49 rfl rfl h51 dX11_log_65 (fun S52 H locs eS52 hW hS => ?_)
        replace hf := ltE hf S52 eS52
        exact L66 S52 v0 v1 v2 tv0 _ _ _ hf hW hS (lv_sub hl [0, 1, 2] rfl)
      · replace hf := ifF c48 hf
        refine lv_aload_n hx hb dX11_log_29 rfl (lv_at hl 0 rfl) ?_
        replace hf := obE hf
        obtain ⟨j53, qj53, hf⟩ := hf
        have tj53 := x_rt hW qj53 12 ⟨by decide, rfl⟩
        refine x_getr 1001 (ci := 10) (C := RX11) (T := TX11) (N := 30) 1 hC hin11 hW tv0 rfl rfl ⟨by decide, by decide, rfl, rfl⟩ rfl w_0 dX11_log_30 qj53 ?_
        refine lv_sipush (v := 6211) hx hb dX11_log_33 (by decide) ?_
        refine lv_iload_n hx hb dX11_log_36 rfl (lv_at hl 3 rfl) ?_
        refine lv_iadd hx hb dX11_log_37 ?_
        refine lv_aload_n hx hb dX11_log_38 rfl (lv_at hl 0 rfl) ?_
        replace hf := obE hf
        obtain ⟨j54, qj54, hf⟩ := hf
        have tj54 := x_rt hW qj54 12 ⟨by decide, rfl⟩
        refine x_getr 1001 (ci := 10) (C := RX11) (T := TX11) (N := 30) 1 hC hin11 hW tv0 rfl rfl ⟨by decide, by decide, rfl, rfl⟩ rfl w_0 dX11_log_39 qj54 ?_
        refine lv_sipush (v := 6214) hx hb dX11_log_42 (by decide) ?_
        refine lv_iload_n hx hb dX11_log_45 rfl (lv_at hl 3 rfl) ?_
        refine lv_iadd hx hb dX11_log_46 ?_
        replace hf := ckiE hf
        obtain ⟨h55, hf⟩ := hf
        refine x_iald hC hW tj54 rfl rfl h55 dX11_log_47 ?_
        replace hf := ckiE hf
        obtain ⟨h56, hf⟩ := hf
        refine x_iast hC hW hS tj53 rfl rfl h56 dX11_log_48 (fun S57 H locs eS57 hW hS => ?_)
        replace hf := ltE hf S57 eS57
        obtain ⟨x58, ex58⟩ : ∃ z : Int32, z = v3 + 1 := ⟨_, rfl⟩
        replace hf := ltE hf x58 ex58
        refine lv_iinc (v := x58) (lv' := [(3, .int x58), (0, .ref (ad v0)), (1, .int v1), (2, .int v2)]) hx hb dX11_log_49 hl (k := 3) rfl (by rw [ex58]; rfl) (by decide) rfl (fun ls hl => ?_)
        refine lv_goto (tgt := 22) hx hb dX11_log_52 (by decide) ?_
        exact ih22 S57 v0 v1 v2 x58 tv0 _ _ _ hf hW hS (lv_sub hl [1, 2, 3, 0] rfl)
  unfold f_X11_log at hf
  refine lv_aload_n hx hb dX11_log_0 rfl (lv_at hl 0 rfl) ?_
  refine x_geti 1005 (ci := 10) (C := RX11) (T := TX11) (N := 30) 5 hC hin11 hW tp0 rfl rfl ⟨by decide, by decide, rfl, rfl⟩ rfl w_1 dX11_log_1 ?_
  refine lv_if_eq (tgt := 8) hx hb dX11_log_4 (by decide) (fun c59 => ?_) (fun c59 => ?_)
  · replace hf := ifT c59 hf
    refine lv_aload_n hx hb dX11_log_8 rfl (lv_at hl 0 rfl) ?_
    replace hf := obE hf
    obtain ⟨j60, qj60, hf⟩ := hf
    have tj60 := x_rt hW qj60 12 ⟨by decide, rfl⟩
    refine x_getr 1001 (ci := 10) (C := RX11) (T := TX11) (N := 30) 1 hC hin11 hW tp0 rfl rfl ⟨by decide, by decide, rfl, rfl⟩ rfl w_0 dX11_log_9 qj60 ?_
    refine lv_bipush (v := 9) hx hb dX11_log_12 (by decide) ?_
    replace hf := ckiE hf
    obtain ⟨h61, hf⟩ := hf
    refine x_iald hC hW tj60 rfl rfl h61 dX11_log_14 ?_
    refine lv_bipush (v := 60) hx hb dX11_log_15 (by decide) ?_
    refine lv_icmp_ne (tgt := 66) hx hb dX11_log_17 (by decide) (fun c62 => ?_) (fun c62 => ?_)
    · replace hf := ifT c62 hf
      exact L66 S0 p0 p1 p2 tp0 _ _ _ hf hW hS (lv_sub hl [0, 1, 2] rfl)
    · replace hf := ifF (fun q => q c62) hf
      refine lv_iconst (v := 0) hx hb dX11_log_20 (by decide) ?_
      refine lv_istore_n (lv' := [(3, .int 0), (0, .ref (ad p0)), (1, .int p1), (2, .int p2)]) hx hb dX11_log_21 rfl hl (by decide) rfl (fun ls hl => ?_)
      exact L22 F S0 p0 p1 p2 0 tp0 _ _ _ hf hW hS (lv_sub hl [1, 2, 3, 0] rfl)
  · replace hf := ifF c59 hf
    have e1 := Option.some.inj hf
    subst e1
    exact W.vret hx hb hr (fun t ht hWm => ⟨⟨rfl, by unfold QB; rw [ht]; exact ⟨hW, trivial⟩⟩, hS.F ht⟩) hS.2.2 dX11_log_7 hlk
set_option maxHeartbeats 4000000 in
set_option maxRecDepth 100000 in
theorem c_X11_appendFour (l : Launch) (g : GP) (ad : Nat → Nat) (n : Nat) (K : Nat → Nat) (sz F : Nat) (S0 : St) (p0 : Nat) (p1 : Int32) (tp0 : p0 < n ∧ K p0 = 10) (S9 : St) (hf : f_X11_appendFour F S0 p0 p1 = some S9) : Met l yX11_appendFour wsX11_appendFour { frames := 0, cells := 0, slots := 0, locals := 0 } (va_Pc [.ref (ad p0), .int p1] (PB g ad n K S0 sz)) (QR none (QB g ad n K S9 (dA ad n sz) (True)) (dA ad n sz)) 0 0 (dA ad n sz) := by
  refine Met.ofW (cc := cX11_appendFour) (maxL := 3) (ret := none) (by decide) rfl ?_
  intro p e s m args below meth c s₁ B hml hv
  obtain ⟨rfl, hsz, hW, hK, hGs⟩ := x_start hv
  subst hsz
  have hx := B.exec
  have hb := B.bytes
  have hr := B.returns
  have hts := atoms_spec (ws := wsX11_appendFour) B.pre
  have hown : s.vm.findClass RX11 = some m.cls := findClass_of_methodNamed B.named
  have hlk := B.notSynchronized
  have hC : Cx g p s m _ c cX11_appendFour RX11 wsX11_appendFour 3 := ⟨hx, hb, hml, hown, hts, hK⟩
  have hA : ∀ q : Nat, s.heap.size ≤ q → dA ad n s.heap.size q := fun q h => Or.inr h
  have hS : va_S (dA ad n s.heap.size) s.heap s.heap [] := va_S.rf
  have hl := lv_entry ([.ref (ad p0), .int p1]) (n := 3) (Nat.le_of_ble_eq_true rfl)
  rw [lg_entry_eq]
  generalize (lg_sl ([.ref (ad p0), .int p1]) ++ List.replicate (3 - (lg_sl ([.ref (ad p0), .int p1])).length) Slot.unset).toArray = ls at hl ⊢
  have hl : lv_has ls 3 [(0, .ref (ad p0)), (1, .int p1)] := hl
  have hin11 : ∀ w ∈ wsX110, w ∈ wsX11_appendFour := by decide +kernel
  have w_0 := hts (.fieldLink RX11 32 "MailSpoolModel" "input" "[B") (by decide +kernel)
  have w_1 := hts (.fieldLink RX11 91 "MailSpoolModel" "inputSize" "I") (by decide +kernel)
  have hGE := hGs.2.2.2.2.2.2.1
  have hGM := hGs.2.2.2.2.2.2.2.1
  have L3 : ∀ (fu3 : Nat) (S0 : St) (v0 : Nat) (v1 : Int32) (v2 : Int32) (tv0 : v0 < n ∧ K v0 = 10) (H : Heap) (locs : List Loc) (ls : Array Slot), f_X11_appendFour_L3 F fu3 S0 v0 v1 v2 = some S9 → Wb g ad n K S0 (dA ad n s.heap.size) H → va_S (dA ad n s.heap.size) s.heap H locs → lv_has ls 3 [(0, .ref (ad v0)), (1, .int v1), (2, .int v2)] → W p l e (headSpec wsX11_appendFour { frames := 0, cells := 0, slots := 0, locals := 0 }).room s m (List.toArray [.ref (ad p0), .int p1]) below meth c H locs 0 0 (MQ below (QR none (QB g ad n K S9 (dA ad n s.heap.size) (True)) (dA ad n s.heap.size)) (List.toArray [.ref (ad p0), .int p1]) s 0 0 (dA ad n s.heap.size)) (F0 m 3 ls []) := by
    intro fu3
    induction fu3 with
    | zero =>
      intro S0 v0 v1 v2 tv0 H locs ls hf
      cases hf
    | succ fu3 ih3 =>
      intro S0 v0 v1 v2 tv0 H locs ls hf hW hS hl
      unfold f_X11_appendFour_L3 at hf
      refine lv_iload_n hx hb dX11_appendFour_3 rfl (lv_at hl 2 rfl) ?_
      refine lv_if_lt (tgt := 36) hx hb dX11_appendFour_4 (by decide) (fun c7 => ?_) (fun c7 => ?_)
      · replace hf := ifT c7 hf
        have e1 := Option.some.inj hf
        subst e1
        exact W.vret hx hb hr (fun t ht hWm => ⟨⟨rfl, by unfold QB; rw [ht]; exact ⟨hW, trivial⟩⟩, hS.F ht⟩) hS.2.2 dX11_appendFour_36 hlk
      · replace hf := ifF c7 hf
        refine lv_aload_n hx hb dX11_appendFour_7 rfl (lv_at hl 0 rfl) ?_
        replace hf := obE hf
        obtain ⟨j8, qj8, hf⟩ := hf
        have tj8 := x_rt hW qj8 11 ⟨by decide, rfl⟩
        refine x_getr 1006 (ci := 10) (C := RX11) (T := TX11) (N := 30) 6 hC hin11 hW tv0 rfl rfl ⟨by decide, by decide, rfl, rfl⟩ rfl w_0 dX11_appendFour_8 qj8 ?_
        refine lv_aload_n hx hb dX11_appendFour_11 rfl (lv_at hl 0 rfl) ?_
        refine x_geti 1007 (ci := 10) (C := RX11) (T := TX11) (N := 30) 7 hC hin11 hW tv0 rfl rfl ⟨by decide, by decide, rfl, rfl⟩ rfl w_1 dX11_appendFour_12 ?_
        refine lv_iload_n hx hb dX11_appendFour_15 rfl (lv_at hl 1 rfl) ?_
        refine lv_iload_n hx hb dX11_appendFour_16 rfl (lv_at hl 2 rfl) ?_
        refine lv_ishr hx hb dX11_appendFour_17 ?_
        refine lv_i2b (v := (v1 >>> (v2 &&& 31)).toInt8.toInt32) hx hb dX11_appendFour_18 rfl ?_
        replace hf := ckiE hf
        obtain ⟨h9, hf⟩ := hf
        refine x_bast hC hW hS tj8 rfl rfl h9 dX11_appendFour_19 (fun S10 H locs eS10 hW hS => ?_)
        replace hf := ltE hf S10 eS10
        refine lv_aload_n hx hb dX11_appendFour_20 rfl (lv_at hl 0 rfl) ?_
        refine lv_dup hx hb dX11_appendFour_21 rfl ?_
        refine x_geti 1007 (ci := 10) (C := RX11) (T := TX11) (N := 30) 7 hC hin11 hW tv0 rfl rfl ⟨by decide, by decide, rfl, rfl⟩ rfl w_1 dX11_appendFour_22 ?_
        refine lv_iconst (v := 1) hx hb dX11_appendFour_25 (by decide) ?_
        refine lv_iadd hx hb dX11_appendFour_26 ?_
        refine x_puti 1007 (ci := 10) (C := RX11) (T := TX11) (N := 30) (v := (si S10 1007 v0) + 1) (ty := .int) 7 hC hin11 tyX11_ok nmX11 hW hS tv0 rfl rfl ⟨by decide, by decide, rfl, rfl⟩ rfl w_1 rfl (by decide +kernel) rfl rfl dX11_appendFour_27 (fun S11 H locs eS11 hW hS => ?_)
        replace hf := ltE hf S11 eS11
        obtain ⟨x12, ex12⟩ : ∃ z : Int32, z = v2 + (-8) := ⟨_, rfl⟩
        replace hf := ltE hf x12 ex12
        refine lv_iinc (v := x12) (lv' := [(2, .int x12), (0, .ref (ad v0)), (1, .int v1)]) hx hb dX11_appendFour_30 hl (k := 2) rfl (by rw [ex12]; rfl) (by decide) rfl (fun ls hl => ?_)
        refine lv_goto (tgt := 3) hx hb dX11_appendFour_33 (by decide) ?_
        exact ih3 S11 v0 v1 x12 tv0 _ _ _ hf hW hS (lv_sub hl [1, 2, 0] rfl)
  unfold f_X11_appendFour at hf
  refine lv_bipush (v := 24) hx hb dX11_appendFour_0 (by decide) ?_
  refine lv_istore_n (lv' := [(2, .int 24), (0, .ref (ad p0)), (1, .int p1)]) hx hb dX11_appendFour_2 rfl hl (by decide) rfl (fun ls hl => ?_)
  exact L3 F S0 p0 p1 24 tp0 _ _ _ hf hW hS (lv_sub hl [1, 2, 0] rfl)
set_option maxHeartbeats 4000000 in
set_option maxRecDepth 100000 in
theorem c_X11_append (l : Launch) (g : GP) (ad : Nat → Nat) (n : Nat) (K : Nat → Nat) (sz F : Nat) (S0 : St) (p0 : Nat) (p1 : Int32) (p2 : Int32) (p3 : Int32) (p4 : Int32) (p5 : Int32) (tp0 : p0 < n ∧ K p0 = 10) (r9 : Int32) (S9 : St) (hf : f_X11_append F S0 p0 p1 p2 p3 p4 p5 = some (r9, S9)) : Met l yX11_append wsX11_append { frames := 2, cells := 0, slots := 0, locals := 44 } (va_Pc [.ref (ad p0), .int p1, .int p2, .int p3, .int p4, .int p5] (PB g ad n K S0 sz)) (QR (some (.int r9)) (QB g ad n K S9 (dA ad n sz) (True)) (dA ad n sz)) 0 0 (dA ad n sz) := by
  refine Met.ofW (cc := cX11_append) (maxL := 6) (ret := (some .int)) (by decide) rfl ?_
  intro p e s m args below meth c s₁ B hml hv
  obtain ⟨rfl, hsz, hW, hK, hGs⟩ := x_start hv
  subst hsz
  have hx := B.exec
  have hb := B.bytes
  have hr := B.returns
  have hts := atoms_spec (ws := wsX11_append) B.pre
  have hown : s.vm.findClass RX11 = some m.cls := findClass_of_methodNamed B.named
  have hlk := B.notSynchronized
  have hC : Cx g p s m _ c cX11_append RX11 wsX11_append 6 := ⟨hx, hb, hml, hown, hts, hK⟩
  have hA : ∀ q : Nat, s.heap.size ≤ q → dA ad n s.heap.size q := fun q h => Or.inr h
  have hS : va_S (dA ad n s.heap.size) s.heap s.heap [] := va_S.rf
  have hl := lv_entry ([.ref (ad p0), .int p1, .int p2, .int p3, .int p4, .int p5]) (n := 6) (Nat.le_of_ble_eq_true rfl)
  rw [lg_entry_eq]
  generalize (lg_sl ([.ref (ad p0), .int p1, .int p2, .int p3, .int p4, .int p5]) ++ List.replicate (6 - (lg_sl ([.ref (ad p0), .int p1, .int p2, .int p3, .int p4, .int p5])).length) Slot.unset).toArray = ls at hl ⊢
  have hl : lv_has ls 6 [(0, .ref (ad p0)), (1, .int p1), (2, .int p2), (3, .int p3), (4, .int p4), (5, .int p5)] := hl
  have hin11 : ∀ w ∈ wsX110, w ∈ wsX11_append := by decide +kernel
  have w_0 := hts (.fieldLink RX11 91 "MailSpoolModel" "inputSize" "I") (by decide +kernel)
  have hGE := hGs.2.2.2.2.2.2.1
  have hGM := hGs.2.2.2.2.2.2.2.1
  have L19 : ∀ (S0 : St) (v0 : Nat) (v1 : Int32) (v2 : Int32) (v3 : Int32) (v4 : Int32) (v5 : Int32) (s0 : Int32) (s1 : Nat) (tv0 : v0 < n ∧ K v0 = 10) (ts1 : s1 < n ∧ K s1 = 10) (H : Heap) (locs : List Loc) (ls : Array Slot), f_X11_append_L19 F S0 v0 v1 v2 v3 v4 v5 s0 s1 = some (r9, S9) → Wb g ad n K S0 (dA ad n s.heap.size) H → va_S (dA ad n s.heap.size) s.heap H locs → lv_has ls 6 [(0, .ref (ad v0)), (1, .int v1), (2, .int v2), (3, .int v3), (4, .int v4), (5, .int v5)] → W p l e (headSpec wsX11_append { frames := 2, cells := 0, slots := 0, locals := 44 }).room s m (List.toArray [.ref (ad p0), .int p1, .int p2, .int p3, .int p4, .int p5]) below meth c H locs 0 0 (MQ below (QR (some (.int r9)) (QB g ad n K S9 (dA ad n s.heap.size) (True)) (dA ad n s.heap.size)) (List.toArray [.ref (ad p0), .int p1, .int p2, .int p3, .int p4, .int p5]) s 0 0 (dA ad n s.heap.size)) (F0 m 19 ls [.int s0, .ref (ad s1)]) := by
    intro S0 v0 v1 v2 v3 v4 v5 s0 s1 tv0 ts1 H locs ls hf hW hS hl
    unfold f_X11_append_L19 at hf
    replace hf := obE hf
    obtain ⟨z26, hz26, hf⟩ := hf
    obtain ⟨r28, S27⟩ := z26
    replace hf := ltE (ltE hf r28 rfl) S27 rfl
    refine x_callV (As := [.int s0]) (rest := []) (o := (some (.int r28))) (S1 := S27) hC hl.1 hW hS hGs hA ts1 rfl (show vwCl[10]? = some (RX11, TX11, 30) ∧ 10 < 11 from ⟨rfl, by decide⟩) (c_X11_passes l g ad n K H.size F S0 s1 s0 ts1 r28 S27 hz26) (cwV 1 hts gX11_append_X11_passes rfl rfl rfl (by decide +kernel) ⟨Nat.le_of_ble_eq_true rfl, Nat.le_of_ble_eq_true rfl⟩) rfl rfl (Nat.le_of_ble_eq_true rfl) dX11_append_19 ⟨Nat.le_of_ble_eq_true rfl, Nat.le_of_ble_eq_true rfl⟩ (fun H locs hPz26 hW hS => ?_)
    refine W.eq (g2 := F0 m 22 ls [.int r28]) rfl ?_
    refine lv_if_ne (tgt := 27) hx hb dX11_append_22 (by decide) (fun c30 => ?_) (fun c30 => ?_)
    · replace hf := ifT c30 hf
      refine lv_aload_n hx hb dX11_append_27 rfl (lv_at hl 0 rfl) ?_
      refine lv_iload_n hx hb dX11_append_28 rfl (lv_at hl 1 rfl) ?_
      replace hf := obE hf
      obtain ⟨S32, hz31, hf⟩ := hf
      refine x_callV (As := [.int v1]) (rest := []) (o := none) (S1 := S32) hC hl.1 hW hS hGs hA tv0 rfl (show vwCl[10]? = some (RX11, TX11, 30) ∧ 10 < 11 from ⟨rfl, by decide⟩) (c_X11_appendFour l g ad n K H.size F S27 v0 v1 tv0 S32 hz31) (cwV 1 hts gX11_append_X11_appendFour rfl rfl rfl (by decide +kernel) ⟨Nat.le_of_ble_eq_true rfl, Nat.le_of_ble_eq_true rfl⟩) rfl rfl (Nat.le_of_ble_eq_true rfl) dX11_append_29 ⟨Nat.le_of_ble_eq_true rfl, Nat.le_of_ble_eq_true rfl⟩ (fun H locs hPz31 hW hS => ?_)
      refine W.eq (g2 := F0 m 32 ls []) rfl ?_
      refine lv_aload_n hx hb dX11_append_32 rfl (lv_at hl 0 rfl) ?_
      refine lv_iload_n hx hb dX11_append_33 rfl (lv_at hl 2 rfl) ?_
      replace hf := obE hf
      obtain ⟨S36, hz35, hf⟩ := hf
      refine x_callV (As := [.int v2]) (rest := []) (o := none) (S1 := S36) hC hl.1 hW hS hGs hA tv0 rfl (show vwCl[10]? = some (RX11, TX11, 30) ∧ 10 < 11 from ⟨rfl, by decide⟩) (c_X11_appendFour l g ad n K H.size F S32 v0 v2 tv0 S36 hz35) (cwV 1 hts gX11_append_X11_appendFour rfl rfl rfl (by decide +kernel) ⟨Nat.le_of_ble_eq_true rfl, Nat.le_of_ble_eq_true rfl⟩) rfl rfl (Nat.le_of_ble_eq_true rfl) dX11_append_34 ⟨Nat.le_of_ble_eq_true rfl, Nat.le_of_ble_eq_true rfl⟩ (fun H locs hPz35 hW hS => ?_)
      refine W.eq (g2 := F0 m 37 ls []) rfl ?_
      refine lv_aload_n hx hb dX11_append_37 rfl (lv_at hl 0 rfl) ?_
      refine lv_iload_n hx hb dX11_append_38 rfl (lv_at hl 3 rfl) ?_
      replace hf := obE hf
      obtain ⟨S40, hz39, hf⟩ := hf
      refine x_callV (As := [.int v3]) (rest := []) (o := none) (S1 := S40) hC hl.1 hW hS hGs hA tv0 rfl (show vwCl[10]? = some (RX11, TX11, 30) ∧ 10 < 11 from ⟨rfl, by decide⟩) (c_X11_appendFour l g ad n K H.size F S36 v0 v3 tv0 S40 hz39) (cwV 1 hts gX11_append_X11_appendFour rfl rfl rfl (by decide +kernel) ⟨Nat.le_of_ble_eq_true rfl, Nat.le_of_ble_eq_true rfl⟩) rfl rfl (Nat.le_of_ble_eq_true rfl) dX11_append_39 ⟨Nat.le_of_ble_eq_true rfl, Nat.le_of_ble_eq_true rfl⟩ (fun H locs hPz39 hW hS => ?_)
      refine W.eq (g2 := F0 m 42 ls []) rfl ?_
      refine lv_aload_n hx hb dX11_append_42 rfl (lv_at hl 0 rfl) ?_
      refine lv_iload hx hb dX11_append_43 (lv_at hl 4 rfl) ?_
      replace hf := obE hf
      obtain ⟨S44, hz43, hf⟩ := hf
      refine x_callV (As := [.int v4]) (rest := []) (o := none) (S1 := S44) hC hl.1 hW hS hGs hA tv0 rfl (show vwCl[10]? = some (RX11, TX11, 30) ∧ 10 < 11 from ⟨rfl, by decide⟩) (c_X11_appendFour l g ad n K H.size F S40 v0 v4 tv0 S44 hz43) (cwV 1 hts gX11_append_X11_appendFour rfl rfl rfl (by decide +kernel) ⟨Nat.le_of_ble_eq_true rfl, Nat.le_of_ble_eq_true rfl⟩) rfl rfl (Nat.le_of_ble_eq_true rfl) dX11_append_45 ⟨Nat.le_of_ble_eq_true rfl, Nat.le_of_ble_eq_true rfl⟩ (fun H locs hPz43 hW hS => ?_)
      refine W.eq (g2 := F0 m 48 ls []) rfl ?_
      refine lv_aload_n hx hb dX11_append_48 rfl (lv_at hl 0 rfl) ?_
      refine lv_iload hx hb dX11_append_49 (lv_at hl 5 rfl) ?_
      replace hf := obE hf
      obtain ⟨S48, hz47, hf⟩ := hf
      refine x_callV (As := [.int v5]) (rest := []) (o := none) (S1 := S48) hC hl.1 hW hS hGs hA tv0 rfl (show vwCl[10]? = some (RX11, TX11, 30) ∧ 10 < 11 from ⟨rfl, by decide⟩) (c_X11_appendFour l g ad n K H.size F S44 v0 v5 tv0 S48 hz47) (cwV 1 hts gX11_append_X11_appendFour rfl rfl rfl (by decide +kernel) ⟨Nat.le_of_ble_eq_true rfl, Nat.le_of_ble_eq_true rfl⟩) rfl rfl (Nat.le_of_ble_eq_true rfl) dX11_append_51 ⟨Nat.le_of_ble_eq_true rfl, Nat.le_of_ble_eq_true rfl⟩ (fun H locs hPz47 hW hS => ?_)
      refine W.eq (g2 := F0 m 54 ls []) rfl ?_
      refine lv_aload_n hx hb dX11_append_54 rfl (lv_at hl 0 rfl) ?_
      refine x_geti 1007 (ci := 10) (C := RX11) (T := TX11) (N := 30) 7 hC hin11 hW tv0 rfl rfl ⟨by decide, by decide, rfl, rfl⟩ rfl w_0 dX11_append_55 ?_
      obtain ⟨e1, e2⟩ := so2 hf
      subst e1
      subst e2
      exact W.iret (v := si S48 1007 v0) hx hb hr (fun t ht hWm => ⟨⟨rfl, by unfold QB; rw [ht]; exact ⟨hW, trivial⟩⟩, hS.F ht⟩) hS.2.2 dX11_append_58 hlk
    · replace hf := ifF (fun q => q c30) hf
      refine lv_iconst (v := 0) hx hb dX11_append_25 (by decide) ?_
      obtain ⟨e1, e2⟩ := so2 hf
      subst e1
      subst e2
      exact W.iret (v := 0) hx hb hr (fun t ht hWm => ⟨⟨rfl, by unfold QB; rw [ht]; exact ⟨hW, trivial⟩⟩, hS.F ht⟩) hS.2.2 dX11_append_26 hlk
  unfold f_X11_append at hf
  refine lv_aload_n hx hb dX11_append_0 rfl (lv_at hl 0 rfl) ?_
  refine lv_aload_n hx hb dX11_append_1 rfl (lv_at hl 0 rfl) ?_
  refine x_geti 1007 (ci := 10) (C := RX11) (T := TX11) (N := 30) 7 hC hin11 hW tp0 rfl rfl ⟨by decide, by decide, rfl, rfl⟩ rfl w_0 dX11_append_2 ?_
  refine lv_bipush (v := 20) hx hb dX11_append_5 (by decide) ?_
  refine lv_iadd hx hb dX11_append_7 ?_
  refine lv_sipush (v := 1200) hx hb dX11_append_8 (by decide) ?_
  refine lv_icmp_gt (tgt := 18) hx hb dX11_append_11 (by decide) (fun c51 => ?_) (fun c51 => ?_)
  · replace hf := ifT c51 hf
    refine lv_iconst (v := 0) hx hb dX11_append_18 (by decide) ?_
    exact L19 S0 p0 p1 p2 p3 p4 p5 0 p0 tp0 tp0 _ _ _ hf hW hS (lv_sub hl [0, 1, 2, 3, 4, 5] rfl)
  · replace hf := ifF c51 hf
    refine lv_iconst (v := 1) hx hb dX11_append_14 (by decide) ?_
    refine lv_goto (tgt := 19) hx hb dX11_append_15 (by decide) ?_
    exact L19 S0 p0 p1 p2 p3 p4 p5 1 p0 tp0 tp0 _ _ _ hf hW hS (lv_sub hl [0, 1, 2, 3, 4, 5] rfl)
set_option maxHeartbeats 4000000 in
set_option maxRecDepth 100000 in
theorem c_X11_truncate (l : Launch) (g : GP) (ad : Nat → Nat) (n : Nat) (K : Nat → Nat) (sz F : Nat) (S0 : St) (p0 : Nat) (p1 : Int32) (tp0 : p0 < n ∧ K p0 = 10) (S9 : St) (hf : f_X11_truncate F S0 p0 p1 = some S9) : Met l yX11_truncate wsX11_truncate { frames := 2, cells := 0, slots := 0, locals := 44 } (va_Pc [.ref (ad p0), .int p1] (PB g ad n K S0 sz)) (QR none (QB g ad n K S9 (dA ad n sz) (True)) (dA ad n sz)) 0 0 (dA ad n sz) := by
  refine Met.ofW (cc := cX11_truncate) (maxL := 2) (ret := none) (by decide) rfl ?_
  intro p e s m args below meth c s₁ B hml hv
  obtain ⟨rfl, hsz, hW, hK, hGs⟩ := x_start hv
  subst hsz
  have hx := B.exec
  have hb := B.bytes
  have hr := B.returns
  have hts := atoms_spec (ws := wsX11_truncate) B.pre
  have hown : s.vm.findClass RX11 = some m.cls := findClass_of_methodNamed B.named
  have hlk := B.notSynchronized
  have hC : Cx g p s m _ c cX11_truncate RX11 wsX11_truncate 2 := ⟨hx, hb, hml, hown, hts, hK⟩
  have hA : ∀ q : Nat, s.heap.size ≤ q → dA ad n s.heap.size q := fun q h => Or.inr h
  have hS : va_S (dA ad n s.heap.size) s.heap s.heap [] := va_S.rf
  have hl := lv_entry ([.ref (ad p0), .int p1]) (n := 2) (Nat.le_of_ble_eq_true rfl)
  rw [lg_entry_eq]
  generalize (lg_sl ([.ref (ad p0), .int p1]) ++ List.replicate (2 - (lg_sl ([.ref (ad p0), .int p1])).length) Slot.unset).toArray = ls at hl ⊢
  have hl : lv_has ls 2 [(0, .ref (ad p0)), (1, .int p1)] := hl
  have hin11 : ∀ w ∈ wsX110, w ∈ wsX11_truncate := by decide +kernel
  have w_0 := hts (.fieldLink RX11 91 "MailSpoolModel" "inputSize" "I") (by decide +kernel)
  have hGE := hGs.2.2.2.2.2.2.1
  have hGM := hGs.2.2.2.2.2.2.2.1
  unfold f_X11_truncate at hf
  refine lv_aload_n hx hb dX11_truncate_0 rfl (lv_at hl 0 rfl) ?_
  refine lv_iload_n hx hb dX11_truncate_1 rfl (lv_at hl 1 rfl) ?_
  refine lv_i2l (v := p1.toInt64) hx hb dX11_truncate_2 rfl ?_
  refine lv_lconst (v := 0) hx hb dX11_truncate_3 (by decide) ?_
  refine lv_aload_n hx hb dX11_truncate_4 rfl (lv_at hl 0 rfl) ?_
  refine x_geti 1007 (ci := 10) (C := RX11) (T := TX11) (N := 30) 7 hC hin11 hW tp0 rfl rfl ⟨by decide, by decide, rfl, rfl⟩ rfl w_0 dX11_truncate_5 ?_
  refine lv_i2l (v := (si S0 1007 p0).toInt64) hx hb dX11_truncate_8 rfl ?_
  replace hf := obE hf
  obtain ⟨z1, hz1, hf⟩ := hf
  obtain ⟨r3, S2⟩ := z1
  replace hf := ltE (ltE hf r3 rfl) S2 rfl
  refine x_callS (As := [.long (p1.toInt64), .long (0), .long ((si S0 1007 p0).toInt64)]) (rest := [.ref (ad p0)]) (o := (some (.int r3))) (S1 := S2) hC hl.1 hW hS hGs hA (c_X11_in l g ad n K s.heap.size F S0 p1.toInt64 ((0 : Int64)) ((si S0 1007 p0).toInt64) r3 S2 hz1) (va_cwS 3 hts gX11_truncate_X11_in rfl rfl rfl (by decide +kernel) ⟨Nat.le_of_ble_eq_true rfl, Nat.le_of_ble_eq_true rfl⟩) rfl rfl (Nat.le_of_ble_eq_true rfl) dX11_truncate_9 ⟨Nat.le_of_ble_eq_true rfl, Nat.le_of_ble_eq_true rfl⟩ (fun H locs hPz1 hW hS => ?_)
  refine W.eq (g2 := F0 m 12 ls [.int r3, .ref (ad p0)]) rfl ?_
  replace hf := obE hf
  obtain ⟨z5, hz5, hf⟩ := hf
  obtain ⟨r7, S6⟩ := z5
  replace hf := ltE (ltE hf r7 rfl) S6 rfl
  refine x_callV (As := [.int r3]) (rest := []) (o := (some (.int r7))) (S1 := S6) hC hl.1 hW hS hGs hA tp0 rfl (show vwCl[10]? = some (RX11, TX11, 30) ∧ 10 < 11 from ⟨rfl, by decide⟩) (c_X11_passes l g ad n K H.size F S2 p0 r3 tp0 r7 S6 hz5) (cwV 1 hts gX11_truncate_X11_passes rfl rfl rfl (by decide +kernel) ⟨Nat.le_of_ble_eq_true rfl, Nat.le_of_ble_eq_true rfl⟩) rfl rfl (Nat.le_of_ble_eq_true rfl) dX11_truncate_12 ⟨Nat.le_of_ble_eq_true rfl, Nat.le_of_ble_eq_true rfl⟩ (fun H locs hPz5 hW hS => ?_)
  refine W.eq (g2 := F0 m 15 ls [.int r7]) rfl ?_
  refine lv_if_eq (tgt := 23) hx hb dX11_truncate_15 (by decide) (fun c9 => ?_) (fun c9 => ?_)
  · replace hf := ifT c9 hf
    have e1 := Option.some.inj hf
    subst e1
    exact W.vret hx hb hr (fun t ht hWm => ⟨⟨rfl, by unfold QB; rw [ht]; exact ⟨hW, trivial⟩⟩, hS.F ht⟩) hS.2.2 dX11_truncate_23 hlk
  · replace hf := ifF c9 hf
    refine lv_aload_n hx hb dX11_truncate_18 rfl (lv_at hl 0 rfl) ?_
    refine lv_iload_n hx hb dX11_truncate_19 rfl (lv_at hl 1 rfl) ?_
    refine x_puti 1007 (ci := 10) (C := RX11) (T := TX11) (N := 30) (v := p1) (ty := .int) 7 hC hin11 tyX11_ok nmX11 hW hS tp0 rfl rfl ⟨by decide, by decide, rfl, rfl⟩ rfl w_0 rfl (by decide +kernel) rfl rfl dX11_truncate_20 (fun S10 H locs eS10 hW hS => ?_)
    replace hf := ltE hf S10 eS10
    have e1 := Option.some.inj hf
    subst e1
    exact W.vret hx hb hr (fun t ht hWm => ⟨⟨rfl, by unfold QB; rw [ht]; exact ⟨hW, trivial⟩⟩, hS.F ht⟩) hS.2.2 dX11_truncate_23 hlk
set_option maxHeartbeats 4000000 in
set_option maxRecDepth 100000 in
theorem c_X11_good (l : Launch) (g : GP) (ad : Nat → Nat) (n : Nat) (K : Nat → Nat) (sz F : Nat) (S0 : St) (p0 : Nat) (tp0 : p0 < n ∧ K p0 = 10) (r9 : Int32) (S9 : St) (hf : f_X11_good F S0 p0 = some (r9, S9)) : Met l yX11_good wsX11_good { frames := 0, cells := 0, slots := 0, locals := 0 } (va_Pc [.ref (ad p0)] (PB g ad n K S0 sz)) (QR (some (.int r9)) (QB g ad n K S9 (dA ad n sz) (True)) (dA ad n sz)) 0 0 (dA ad n sz) := by
  refine Met.ofW (cc := cX11_good) (maxL := 1) (ret := (some .boolean)) (by decide) rfl ?_
  intro p e s m args below meth c s₁ B hml hv
  obtain ⟨rfl, hsz, hW, hK, hGs⟩ := x_start hv
  subst hsz
  have hx := B.exec
  have hb := B.bytes
  have hr := B.returns
  have hts := atoms_spec (ws := wsX11_good) B.pre
  have hown : s.vm.findClass RX11 = some m.cls := findClass_of_methodNamed B.named
  have hlk := B.notSynchronized
  have hC : Cx g p s m _ c cX11_good RX11 wsX11_good 1 := ⟨hx, hb, hml, hown, hts, hK⟩
  have hA : ∀ q : Nat, s.heap.size ≤ q → dA ad n s.heap.size q := fun q h => Or.inr h
  have hS : va_S (dA ad n s.heap.size) s.heap s.heap [] := va_S.rf
  have hl := lv_entry ([.ref (ad p0)]) (n := 1) (Nat.le_of_ble_eq_true rfl)
  rw [lg_entry_eq]
  generalize (lg_sl ([.ref (ad p0)]) ++ List.replicate (1 - (lg_sl ([.ref (ad p0)])).length) Slot.unset).toArray = ls at hl ⊢
  have hl : lv_has ls 1 [(0, .ref (ad p0))] := hl
  have hin11 : ∀ w ∈ wsX110, w ∈ wsX11_good := by decide +kernel
  have w_0 := hts (.fieldLink RX11 102 "MailSpoolModel" "errorFound" "I") (by decide +kernel)
  have hGE := hGs.2.2.2.2.2.2.1
  have hGM := hGs.2.2.2.2.2.2.2.1
  unfold f_X11_good at hf
  refine lv_aload_n hx hb dX11_good_0 rfl (lv_at hl 0 rfl) ?_
  refine x_geti 1013 (ci := 10) (C := RX11) (T := TX11) (N := 30) 13 hC hin11 hW tp0 rfl rfl ⟨by decide, by decide, rfl, rfl⟩ rfl w_0 dX11_good_1 ?_
  refine lv_if_ne (tgt := 11) hx hb dX11_good_4 (by decide) (fun c1 => ?_) (fun c1 => ?_)
  · replace hf := ifT c1 hf
    refine lv_iconst (v := 0) hx hb dX11_good_11 (by decide) ?_
    obtain ⟨e1, e2⟩ := so2 hf
    subst e1
    subst e2
    exact W.zret (v := 0) hx hb hr rfl (fun t ht hWm => ⟨⟨rfl, by unfold QB; rw [ht]; exact ⟨hW, trivial⟩⟩, hS.F ht⟩) hS.2.2 dX11_good_12 hlk
  · replace hf := ifF (fun q => q c1) hf
    refine lv_iconst (v := 1) hx hb dX11_good_7 (by decide) ?_
    refine lv_goto (tgt := 12) hx hb dX11_good_8 (by decide) ?_
    obtain ⟨e1, e2⟩ := so2 hf
    subst e1
    subst e2
    exact W.zret (v := 1) hx hb hr rfl (fun t ht hWm => ⟨⟨rfl, by unfold QB; rw [ht]; exact ⟨hW, trivial⟩⟩, hS.F ht⟩) hS.2.2 dX11_good_12 hlk
set_option maxHeartbeats 4000000 in
set_option maxRecDepth 100000 in
theorem c_X11_errs (l : Launch) (g : GP) (ad : Nat → Nat) (n : Nat) (K : Nat → Nat) (sz F : Nat) (S0 : St) (p0 : Nat) (p1 : Int32) (tp0 : p0 < n ∧ K p0 = 10) (S9 : St) (hf : f_X11_errs F S0 p0 p1 = some S9) : Met l yX11_errs wsX11_errs { frames := 1, cells := 0, slots := 0, locals := 20 } (va_Pc [.ref (ad p0), .int p1] (PB g ad n K S0 sz)) (QR none (QB g ad n K S9 (dA ad n sz) (True)) (dA ad n sz)) 0 0 (dA ad n sz) := by
  refine Met.ofW (cc := cX11_errs) (maxL := 2) (ret := none) (by decide) rfl ?_
  intro p e s m args below meth c s₁ B hml hv
  obtain ⟨rfl, hsz, hW, hK, hGs⟩ := x_start hv
  subst hsz
  have hx := B.exec
  have hb := B.bytes
  have hr := B.returns
  have hts := atoms_spec (ws := wsX11_errs) B.pre
  have hown : s.vm.findClass RX11 = some m.cls := findClass_of_methodNamed B.named
  have hlk := B.notSynchronized
  have hC : Cx g p s m _ c cX11_errs RX11 wsX11_errs 2 := ⟨hx, hb, hml, hown, hts, hK⟩
  have hA : ∀ q : Nat, s.heap.size ≤ q → dA ad n s.heap.size q := fun q h => Or.inr h
  have hS : va_S (dA ad n s.heap.size) s.heap s.heap [] := va_S.rf
  have hl := lv_entry ([.ref (ad p0), .int p1]) (n := 2) (Nat.le_of_ble_eq_true rfl)
  rw [lg_entry_eq]
  generalize (lg_sl ([.ref (ad p0), .int p1]) ++ List.replicate (2 - (lg_sl ([.ref (ad p0), .int p1])).length) Slot.unset).toArray = ls at hl ⊢
  have hl : lv_has ls 2 [(0, .ref (ad p0)), (1, .int p1)] := hl
  have hin11 : ∀ w ∈ wsX110, w ∈ wsX11_errs := by decide +kernel
  have w_0 := hts (.fieldLink RX11 102 "MailSpoolModel" "errorFound" "I") (by decide +kernel)
  have w_1 := hts (.fieldLink RX11 109 "MailSpoolModel" "start" "I") (by decide +kernel)
  have w_2 := hts (.fieldLink RX11 35 "MailSpoolModel" "errorPlace" "I") (by decide +kernel)
  have hGE := hGs.2.2.2.2.2.2.1
  have hGM := hGs.2.2.2.2.2.2.2.1
  unfold f_X11_errs at hf
  refine lv_aload_n hx hb dX11_errs_0 rfl (lv_at hl 0 rfl) ?_
  replace hf := obE hf
  obtain ⟨z1, hz1, hf⟩ := hf
  obtain ⟨r3, S2⟩ := z1
  replace hf := ltE (ltE hf r3 rfl) S2 rfl
  refine x_callV (As := []) (rest := []) (o := (some (.int r3))) (S1 := S2) hC hl.1 hW hS hGs hA tp0 rfl (show vwCl[10]? = some (RX11, TX11, 30) ∧ 10 < 11 from ⟨rfl, by decide⟩) (c_X11_good l g ad n K s.heap.size F S0 p0 tp0 r3 S2 hz1) (cwV 0 hts gX11_errs_X11_good rfl rfl rfl (by decide +kernel) ⟨Nat.le_of_ble_eq_true rfl, Nat.le_of_ble_eq_true rfl⟩) rfl rfl (Nat.le_of_ble_eq_true rfl) dX11_errs_1 ⟨Nat.le_of_ble_eq_true rfl, Nat.le_of_ble_eq_true rfl⟩ (fun H locs hPz1 hW hS => ?_)
  refine W.eq (g2 := F0 m 4 ls [.int r3]) rfl ?_
  refine lv_if_ne (tgt := 8) hx hb dX11_errs_4 (by decide) (fun c5 => ?_) (fun c5 => ?_)
  · replace hf := ifT c5 hf
    refine lv_aload_n hx hb dX11_errs_8 rfl (lv_at hl 0 rfl) ?_
    refine lv_iload_n hx hb dX11_errs_9 rfl (lv_at hl 1 rfl) ?_
    refine x_puti 1013 (ci := 10) (C := RX11) (T := TX11) (N := 30) (v := p1) (ty := .int) 13 hC hin11 tyX11_ok nmX11 hW hS tp0 rfl rfl ⟨by decide, by decide, rfl, rfl⟩ rfl w_0 rfl (by decide +kernel) rfl rfl dX11_errs_10 (fun S6 H locs eS6 hW hS => ?_)
    replace hf := ltE hf S6 eS6
    refine lv_aload_n hx hb dX11_errs_13 rfl (lv_at hl 0 rfl) ?_
    refine lv_aload_n hx hb dX11_errs_14 rfl (lv_at hl 0 rfl) ?_
    refine x_geti 1010 (ci := 10) (C := RX11) (T := TX11) (N := 30) 10 hC hin11 hW tp0 rfl rfl ⟨by decide, by decide, rfl, rfl⟩ rfl w_1 dX11_errs_15 ?_
    refine x_puti 1014 (ci := 10) (C := RX11) (T := TX11) (N := 30) (v := si S6 1010 p0) (ty := .int) 14 hC hin11 tyX11_ok nmX11 hW hS tp0 rfl rfl ⟨by decide, by decide, rfl, rfl⟩ rfl w_2 rfl (by decide +kernel) rfl rfl dX11_errs_18 (fun S7 H locs eS7 hW hS => ?_)
    replace hf := ltE hf S7 eS7
    have e1 := Option.some.inj hf
    subst e1
    exact W.vret hx hb hr (fun t ht hWm => ⟨⟨rfl, by unfold QB; rw [ht]; exact ⟨hW, trivial⟩⟩, hS.F ht⟩) hS.2.2 dX11_errs_21 hlk
  · replace hf := ifF (fun q => q c5) hf
    have e1 := Option.some.inj hf
    subst e1
    exact W.vret hx hb hr (fun t ht hWm => ⟨⟨rfl, by unfold QB; rw [ht]; exact ⟨hW, trivial⟩⟩, hS.F ht⟩) hS.2.2 dX11_errs_7 hlk
set_option maxHeartbeats 4000000 in
set_option maxRecDepth 100000 in
theorem c_X11_byteAt (l : Launch) (g : GP) (ad : Nat → Nat) (n : Nat) (K : Nat → Nat) (sz F : Nat) (S0 : St) (p0 : Nat) (p1 : Int32) (tp0 : p0 < n ∧ K p0 = 10) (r9 : Int32) (S9 : St) (hf : f_X11_byteAt F S0 p0 p1 = some (r9, S9)) : Met l yX11_byteAt wsX11_byteAt { frames := 0, cells := 0, slots := 0, locals := 0 } (va_Pc [.ref (ad p0), .int p1] (PB g ad n K S0 sz)) (QR (some (.int r9)) (QB g ad n K S9 (dA ad n sz) (True)) (dA ad n sz)) 0 0 (dA ad n sz) := by
  refine Met.ofW (cc := cX11_byteAt) (maxL := 2) (ret := (some .int)) (by decide) rfl ?_
  intro p e s m args below meth c s₁ B hml hv
  obtain ⟨rfl, hsz, hW, hK, hGs⟩ := x_start hv
  subst hsz
  have hx := B.exec
  have hb := B.bytes
  have hr := B.returns
  have hts := atoms_spec (ws := wsX11_byteAt) B.pre
  have hown : s.vm.findClass RX11 = some m.cls := findClass_of_methodNamed B.named
  have hlk := B.notSynchronized
  have hC : Cx g p s m _ c cX11_byteAt RX11 wsX11_byteAt 2 := ⟨hx, hb, hml, hown, hts, hK⟩
  have hA : ∀ q : Nat, s.heap.size ≤ q → dA ad n s.heap.size q := fun q h => Or.inr h
  have hS : va_S (dA ad n s.heap.size) s.heap s.heap [] := va_S.rf
  have hl := lv_entry ([.ref (ad p0), .int p1]) (n := 2) (Nat.le_of_ble_eq_true rfl)
  rw [lg_entry_eq]
  generalize (lg_sl ([.ref (ad p0), .int p1]) ++ List.replicate (2 - (lg_sl ([.ref (ad p0), .int p1])).length) Slot.unset).toArray = ls at hl ⊢
  have hl : lv_has ls 2 [(0, .ref (ad p0)), (1, .int p1)] := hl
  have hin11 : ∀ w ∈ wsX110, w ∈ wsX11_byteAt := by decide +kernel
  have w_0 := hts (.fieldLink RX11 112 "MailSpoolModel" "size" "I") (by decide +kernel)
  have w_1 := hts (.fieldLink RX11 32 "MailSpoolModel" "input" "[B") (by decide +kernel)
  have hGE := hGs.2.2.2.2.2.2.1
  have hGM := hGs.2.2.2.2.2.2.2.1
  unfold f_X11_byteAt at hf
  refine lv_iload_n hx hb dX11_byteAt_0 rfl (lv_at hl 1 rfl) ?_
  refine lv_aload_n hx hb dX11_byteAt_1 rfl (lv_at hl 0 rfl) ?_
  refine x_geti 1008 (ci := 10) (C := RX11) (T := TX11) (N := 30) 8 hC hin11 hW tp0 rfl rfl ⟨by decide, by decide, rfl, rfl⟩ rfl w_0 dX11_byteAt_2 ?_
  refine lv_icmp_ge (tgt := 21) hx hb dX11_byteAt_5 (by decide) (fun c1 => ?_) (fun c1 => ?_)
  · replace hf := ifT c1 hf
    refine lv_iconst (v := -1) hx hb dX11_byteAt_21 (by decide) ?_
    obtain ⟨e1, e2⟩ := so2 hf
    subst e1
    subst e2
    exact W.iret (v := (-1)) hx hb hr (fun t ht hWm => ⟨⟨rfl, by unfold QB; rw [ht]; exact ⟨hW, trivial⟩⟩, hS.F ht⟩) hS.2.2 dX11_byteAt_22 hlk
  · replace hf := ifF c1 hf
    refine lv_aload_n hx hb dX11_byteAt_8 rfl (lv_at hl 0 rfl) ?_
    replace hf := obE hf
    obtain ⟨j2, qj2, hf⟩ := hf
    have tj2 := x_rt hW qj2 11 ⟨by decide, rfl⟩
    refine x_getr 1006 (ci := 10) (C := RX11) (T := TX11) (N := 30) 6 hC hin11 hW tp0 rfl rfl ⟨by decide, by decide, rfl, rfl⟩ rfl w_1 dX11_byteAt_9 qj2 ?_
    refine lv_iload_n hx hb dX11_byteAt_12 rfl (lv_at hl 1 rfl) ?_
    replace hf := ckiE hf
    obtain ⟨h3, hf⟩ := hf
    refine x_bald hC hW tj2 rfl rfl h3 dX11_byteAt_13 ?_
    refine lv_sipush (v := 255) hx hb dX11_byteAt_14 (by decide) ?_
    refine lv_iand hx hb dX11_byteAt_17 ?_
    refine lv_goto (tgt := 22) hx hb dX11_byteAt_18 (by decide) ?_
    obtain ⟨e1, e2⟩ := so2 hf
    subst e1
    subst e2
    exact W.iret (v := (ai S0 j2 (Int32.toNatClampNeg p1)) &&& 255) hx hb hr (fun t ht hWm => ⟨⟨rfl, by unfold QB; rw [ht]; exact ⟨hW, trivial⟩⟩, hS.F ht⟩) hS.2.2 dX11_byteAt_22 hlk
set_option maxHeartbeats 4000000 in
set_option maxRecDepth 100000 in
theorem c_X11_scan (l : Launch) (g : GP) (ad : Nat → Nat) (n : Nat) (K : Nat → Nat) (sz F : Nat) (S0 : St) (p0 : Nat) (tp0 : p0 < n ∧ K p0 = 10) (S9 : St) (hf : f_X11_scan F S0 p0 = some S9) : Met l yX11_scan wsX11_scan { frames := 1, cells := 0, slots := 0, locals := 25 } (va_Pc [.ref (ad p0)] (PB g ad n K S0 sz)) (QR none (QB g ad n K S9 (dA ad n sz) (True)) (dA ad n sz)) 0 0 (dA ad n sz) := by
  refine Met.ofW (cc := cX11_scan) (maxL := 2) (ret := none) (by decide) rfl ?_
  intro p e s m args below meth c s₁ B hml hv
  obtain ⟨rfl, hsz, hW, hK, hGs⟩ := x_start hv
  subst hsz
  have hx := B.exec
  have hb := B.bytes
  have hr := B.returns
  have hts := atoms_spec (ws := wsX11_scan) B.pre
  have hown : s.vm.findClass RX11 = some m.cls := findClass_of_methodNamed B.named
  have hlk := B.notSynchronized
  have hC : Cx g p s m _ c cX11_scan RX11 wsX11_scan 2 := ⟨hx, hb, hml, hown, hts, hK⟩
  have hA : ∀ q : Nat, s.heap.size ≤ q → dA ad n s.heap.size q := fun q h => Or.inr h
  have hS : va_S (dA ad n s.heap.size) s.heap s.heap [] := va_S.rf
  have hl := lv_entry ([.ref (ad p0)]) (n := 2) (Nat.le_of_ble_eq_true rfl)
  rw [lg_entry_eq]
  generalize (lg_sl ([.ref (ad p0)]) ++ List.replicate (2 - (lg_sl ([.ref (ad p0)])).length) Slot.unset).toArray = ls at hl ⊢
  have hl : lv_has ls 2 [(0, .ref (ad p0))] := hl
  have hin11 : ∀ w ∈ wsX110, w ∈ wsX11_scan := by decide +kernel
  have w_0 := hts (.fieldLink RX11 115 "MailSpoolModel" "next" "I") (by decide +kernel)
  have w_1 := hts (.constantLong RX11 129 (48)) (by decide +kernel)
  have w_2 := hts (.constantLong RX11 131 (57)) (by decide +kernel)
  have w_3 := hts (.fieldLink RX11 122 "MailSpoolModel" "token" "I") (by decide +kernel)
  have w_4 := hts (.constant RX11 136 (999999)) (by decide +kernel)
  have w_5 := hts (.fieldLink RX11 133 "MailSpoolModel" "value" "I") (by decide +kernel)
  have w_6 := hts (.methodLink RX11 137 Lib.Math.min.name) (by decide +kernel)
  have w_7 := hts (.static Lib.Math.min.name) (by decide +kernel)
  have w_8 := hts (.initialized "java/lang/Math") (by decide +kernel)
  have w_9 := hts (.code Lib.Math.min.name Lib.Math.min.code 2 (some .int)) (by decide +kernel)
  have w_10 := hts (.constantLong RX11 125 (97)) (by decide +kernel)
  have w_11 := hts (.constantLong RX11 127 (122)) (by decide +kernel)
  have w_12 := hts (.fieldLink RX11 109 "MailSpoolModel" "start" "I") (by decide +kernel)
  have hGE := hGs.2.2.2.2.2.2.1
  have hGM := hGs.2.2.2.2.2.2.2.1
  have L144 : ∀ (fu144 : Nat) (S0 : St) (v0 : Nat) (tv0 : v0 < n ∧ K v0 = 10) (H : Heap) (locs : List Loc) (ls : Array Slot), f_X11_scan_L144 F fu144 S0 v0 = some S9 → Wb g ad n K S0 (dA ad n s.heap.size) H → va_S (dA ad n s.heap.size) s.heap H locs → lv_has ls 2 [(0, .ref (ad v0))] → W p l e (headSpec wsX11_scan { frames := 1, cells := 0, slots := 0, locals := 25 }).room s m (List.toArray [.ref (ad p0)]) below meth c H locs 0 0 (MQ below (QR none (QB g ad n K S9 (dA ad n s.heap.size) (True)) (dA ad n s.heap.size)) (List.toArray [.ref (ad p0)]) s 0 0 (dA ad n s.heap.size)) (F0 m 144 ls []) := by
    intro fu144
    induction fu144 with
    | zero =>
      intro S0 v0 tv0 H locs ls hf
      cases hf
    | succ fu144 ih144 =>
      intro S0 v0 tv0 H locs ls hf hW hS hl
      unfold f_X11_scan_L144 at hf
      refine lv_aload_n hx hb dX11_scan_144 rfl (lv_at hl 0 rfl) ?_
      refine lv_aload_n hx hb dX11_scan_145 rfl (lv_at hl 0 rfl) ?_
      refine x_geti 1009 (ci := 10) (C := RX11) (T := TX11) (N := 30) 9 hC hin11 hW tv0 rfl rfl ⟨by decide, by decide, rfl, rfl⟩ rfl w_0 dX11_scan_146 ?_
      replace hf := obE hf
      obtain ⟨z17, hz17, hf⟩ := hf
      obtain ⟨r19, S18⟩ := z17
      replace hf := ltE (ltE hf r19 rfl) S18 rfl
      refine x_callV (As := [.int (si S0 1009 v0)]) (rest := []) (o := (some (.int r19))) (S1 := S18) hC hl.1 hW hS hGs hA tv0 rfl (show vwCl[10]? = some (RX11, TX11, 30) ∧ 10 < 11 from ⟨rfl, by decide⟩) (c_X11_byteAt l g ad n K H.size F S0 v0 (si S0 1009 v0) tv0 r19 S18 hz17) (cwV 1 hts gX11_scan_X11_byteAt rfl rfl rfl (by decide +kernel) ⟨Nat.le_of_ble_eq_true rfl, Nat.le_of_ble_eq_true rfl⟩) rfl rfl (Nat.le_of_ble_eq_true rfl) dX11_scan_149 ⟨Nat.le_of_ble_eq_true rfl, Nat.le_of_ble_eq_true rfl⟩ (fun H locs hPz17 hW hS => ?_)
      refine W.eq (g2 := F0 m 152 ls [.int r19]) rfl ?_
      refine lv_i2l (v := r19.toInt64) hx hb dX11_scan_152 rfl ?_
      refine lv_ldc2 (v := (48)) hx hb hown w_1 dX11_scan_153 ?_
      refine lv_ldc2 (v := (57)) hx hb hown w_2 dX11_scan_156 ?_
      replace hf := obE hf
      obtain ⟨z21, hz21, hf⟩ := hf
      obtain ⟨r23, S22⟩ := z21
      replace hf := ltE (ltE hf r23 rfl) S22 rfl
      refine x_callS (As := [.long (r19.toInt64), .long ((48)), .long ((57))]) (rest := []) (o := (some (.int r23))) (S1 := S22) hC hl.1 hW hS hGs hA (c_X11_in l g ad n K H.size F S18 r19.toInt64 (((48) : Int64)) (((57) : Int64)) r23 S22 hz21) (va_cwS 3 hts gX11_scan_X11_in rfl rfl rfl (by decide +kernel) ⟨Nat.le_of_ble_eq_true rfl, Nat.le_of_ble_eq_true rfl⟩) rfl rfl (Nat.le_of_ble_eq_true rfl) dX11_scan_159 ⟨Nat.le_of_ble_eq_true rfl, Nat.le_of_ble_eq_true rfl⟩ (fun H locs hPz21 hW hS => ?_)
      refine W.eq (g2 := F0 m 162 ls [.int r23]) rfl ?_
      refine lv_if_eq (tgt := 206) hx hb dX11_scan_162 (by decide) (fun c25 => ?_) (fun c25 => ?_)
      · replace hf := ifT c25 hf
        refine lv_aload_n hx hb dX11_scan_206 rfl (lv_at hl 0 rfl) ?_
        refine lv_iconst (v := 2) hx hb dX11_scan_207 (by decide) ?_
        refine x_puti 1011 (ci := 10) (C := RX11) (T := TX11) (N := 30) (v := 2) (ty := .int) 11 hC hin11 tyX11_ok nmX11 hW hS tv0 rfl rfl ⟨by decide, by decide, rfl, rfl⟩ rfl w_3 rfl (by decide +kernel) rfl rfl dX11_scan_208 (fun S26 H locs eS26 hW hS => ?_)
        replace hf := ltE hf S26 eS26
        refine lv_goto (tgt := 234) hx hb dX11_scan_211 (by decide) ?_
        have e1 := Option.some.inj hf
        subst e1
        exact W.vret hx hb hr (fun t ht hWm => ⟨⟨rfl, by unfold QB; rw [ht]; exact ⟨hW, trivial⟩⟩, hS.F ht⟩) hS.2.2 dX11_scan_234 hlk
      · replace hf := ifF c25 hf
        refine lv_aload_n hx hb dX11_scan_165 rfl (lv_at hl 0 rfl) ?_
        refine lv_ldc (v := 999999) hx hb hown w_4 dX11_scan_166 ?_
        refine lv_bipush (v := 10) hx hb dX11_scan_168 (by decide) ?_
        refine lv_aload_n hx hb dX11_scan_170 rfl (lv_at hl 0 rfl) ?_
        refine x_geti 1012 (ci := 10) (C := RX11) (T := TX11) (N := 30) 12 hC hin11 hW tv0 rfl rfl ⟨by decide, by decide, rfl, rfl⟩ rfl w_5 dX11_scan_171 ?_
        refine lv_imul hx hb dX11_scan_174 ?_
        refine lv_aload_n hx hb dX11_scan_175 rfl (lv_at hl 0 rfl) ?_
        refine lv_aload_n hx hb dX11_scan_176 rfl (lv_at hl 0 rfl) ?_
        refine x_geti 1009 (ci := 10) (C := RX11) (T := TX11) (N := 30) 9 hC hin11 hW tv0 rfl rfl ⟨by decide, by decide, rfl, rfl⟩ rfl w_0 dX11_scan_177 ?_
        replace hf := obE hf
        obtain ⟨z27, hz27, hf⟩ := hf
        obtain ⟨r29, S28⟩ := z27
        replace hf := ltE (ltE hf r29 rfl) S28 rfl
        refine x_callV (As := [.int (si S22 1009 v0)]) (rest := [.int (10 * (si S22 1012 v0)), .int 999999, .ref (ad v0)]) (o := (some (.int r29))) (S1 := S28) hC hl.1 hW hS hGs hA tv0 rfl (show vwCl[10]? = some (RX11, TX11, 30) ∧ 10 < 11 from ⟨rfl, by decide⟩) (c_X11_byteAt l g ad n K H.size F S22 v0 (si S22 1009 v0) tv0 r29 S28 hz27) (cwV 1 hts gX11_scan_X11_byteAt rfl rfl rfl (by decide +kernel) ⟨Nat.le_of_ble_eq_true rfl, Nat.le_of_ble_eq_true rfl⟩) rfl rfl (Nat.le_of_ble_eq_true rfl) dX11_scan_180 ⟨Nat.le_of_ble_eq_true rfl, Nat.le_of_ble_eq_true rfl⟩ (fun H locs hPz27 hW hS => ?_)
        refine W.eq (g2 := F0 m 183 ls [.int r29, .int (10 * (si S22 1012 v0)), .int 999999, .ref (ad v0)]) rfl ?_
        refine lv_iadd hx hb dX11_scan_183 ?_
        refine lv_bipush (v := 48) hx hb dX11_scan_184 (by decide) ?_
        refine lv_isub hx hb dX11_scan_186 ?_
        refine va_mmin hx hb (hml.trans hl.1.symm) hown w_6 w_7 w_8 w_9 (Nat.le_of_ble_eq_true rfl) (Nat.le_of_ble_eq_true rfl) (Nat.zero_le _) (Nat.zero_le _) dX11_scan_187 ?_
        refine x_puti 1012 (ci := 10) (C := RX11) (T := TX11) (N := 30) (v := if (((10 * (si S22 1012 v0)) + r29) - 48) < (999999 : Int32) then (((10 * (si S22 1012 v0)) + r29) - 48) else (999999 : Int32)) (ty := .int) 12 hC hin11 tyX11_ok nmX11 hW hS tv0 rfl rfl ⟨by decide, by decide, rfl, rfl⟩ rfl w_5 rfl (by decide +kernel) rfl rfl dX11_scan_190 (fun S31 H locs eS31 hW hS => ?_)
        replace hf := ltE hf S31 eS31
        refine lv_aload_n hx hb dX11_scan_193 rfl (lv_at hl 0 rfl) ?_
        refine lv_dup hx hb dX11_scan_194 rfl ?_
        refine x_geti 1009 (ci := 10) (C := RX11) (T := TX11) (N := 30) 9 hC hin11 hW tv0 rfl rfl ⟨by decide, by decide, rfl, rfl⟩ rfl w_0 dX11_scan_195 ?_
        refine lv_iconst (v := 1) hx hb dX11_scan_198 (by decide) ?_
        refine lv_iadd hx hb dX11_scan_199 ?_
        refine x_puti 1009 (ci := 10) (C := RX11) (T := TX11) (N := 30) (v := (si S31 1009 v0) + 1) (ty := .int) 9 hC hin11 tyX11_ok nmX11 hW hS tv0 rfl rfl ⟨by decide, by decide, rfl, rfl⟩ rfl w_0 rfl (by decide +kernel) rfl rfl dX11_scan_200 (fun S32 H locs eS32 hW hS => ?_)
        replace hf := ltE hf S32 eS32
        refine lv_goto (tgt := 144) hx hb dX11_scan_203 (by decide) ?_
        exact ih144 S32 v0 tv0 _ _ _ hf hW hS (lv_sub hl [0] rfl)
  have L83 : ∀ (fu83 : Nat) (S0 : St) (v0 : Nat) (tv0 : v0 < n ∧ K v0 = 10) (H : Heap) (locs : List Loc) (ls : Array Slot), f_X11_scan_L83 F fu83 S0 v0 = some S9 → Wb g ad n K S0 (dA ad n s.heap.size) H → va_S (dA ad n s.heap.size) s.heap H locs → lv_has ls 2 [(0, .ref (ad v0))] → W p l e (headSpec wsX11_scan { frames := 1, cells := 0, slots := 0, locals := 25 }).room s m (List.toArray [.ref (ad p0)]) below meth c H locs 0 0 (MQ below (QR none (QB g ad n K S9 (dA ad n s.heap.size) (True)) (dA ad n s.heap.size)) (List.toArray [.ref (ad p0)]) s 0 0 (dA ad n s.heap.size)) (F0 m 83 ls []) := by
    intro fu83
    induction fu83 with
    | zero =>
      intro S0 v0 tv0 H locs ls hf
      cases hf
    | succ fu83 ih83 =>
      intro S0 v0 tv0 H locs ls hf hW hS hl
      unfold f_X11_scan_L83 at hf
      refine lv_aload_n hx hb dX11_scan_83 rfl (lv_at hl 0 rfl) ?_
      refine lv_aload_n hx hb dX11_scan_84 rfl (lv_at hl 0 rfl) ?_
      refine x_geti 1009 (ci := 10) (C := RX11) (T := TX11) (N := 30) 9 hC hin11 hW tv0 rfl rfl ⟨by decide, by decide, rfl, rfl⟩ rfl w_0 dX11_scan_85 ?_
      replace hf := obE hf
      obtain ⟨z44, hz44, hf⟩ := hf
      obtain ⟨r46, S45⟩ := z44
      replace hf := ltE (ltE hf r46 rfl) S45 rfl
      refine x_callV (As := [.int (si S0 1009 v0)]) (rest := []) (o := (some (.int r46))) (S1 := S45) hC hl.1 hW hS hGs hA tv0 rfl (show vwCl[10]? = some (RX11, TX11, 30) ∧ 10 < 11 from ⟨rfl, by decide⟩) (c_X11_byteAt l g ad n K H.size F S0 v0 (si S0 1009 v0) tv0 r46 S45 hz44) (cwV 1 hts gX11_scan_X11_byteAt rfl rfl rfl (by decide +kernel) ⟨Nat.le_of_ble_eq_true rfl, Nat.le_of_ble_eq_true rfl⟩) rfl rfl (Nat.le_of_ble_eq_true rfl) dX11_scan_88 ⟨Nat.le_of_ble_eq_true rfl, Nat.le_of_ble_eq_true rfl⟩ (fun H locs hPz44 hW hS => ?_)
      refine W.eq (g2 := F0 m 91 ls [.int r46]) rfl ?_
      refine lv_i2l (v := r46.toInt64) hx hb dX11_scan_91 rfl ?_
      refine lv_ldc2 (v := (97)) hx hb hown w_10 dX11_scan_92 ?_
      refine lv_ldc2 (v := (122)) hx hb hown w_11 dX11_scan_95 ?_
      replace hf := obE hf
      obtain ⟨z48, hz48, hf⟩ := hf
      obtain ⟨r50, S49⟩ := z48
      replace hf := ltE (ltE hf r50 rfl) S49 rfl
      refine x_callS (As := [.long (r46.toInt64), .long ((97)), .long ((122))]) (rest := []) (o := (some (.int r50))) (S1 := S49) hC hl.1 hW hS hGs hA (c_X11_in l g ad n K H.size F S45 r46.toInt64 (((97) : Int64)) (((122) : Int64)) r50 S49 hz48) (va_cwS 3 hts gX11_scan_X11_in rfl rfl rfl (by decide +kernel) ⟨Nat.le_of_ble_eq_true rfl, Nat.le_of_ble_eq_true rfl⟩) rfl rfl (Nat.le_of_ble_eq_true rfl) dX11_scan_98 ⟨Nat.le_of_ble_eq_true rfl, Nat.le_of_ble_eq_true rfl⟩ (fun H locs hPz48 hW hS => ?_)
      refine W.eq (g2 := F0 m 101 ls [.int r50]) rfl ?_
      refine lv_if_eq (tgt := 117) hx hb dX11_scan_101 (by decide) (fun c52 => ?_) (fun c52 => ?_)
      · replace hf := ifT c52 hf
        refine lv_aload_n hx hb dX11_scan_117 rfl (lv_at hl 0 rfl) ?_
        refine lv_iconst (v := 1) hx hb dX11_scan_118 (by decide) ?_
        refine x_puti 1011 (ci := 10) (C := RX11) (T := TX11) (N := 30) (v := 1) (ty := .int) 11 hC hin11 tyX11_ok nmX11 hW hS tv0 rfl rfl ⟨by decide, by decide, rfl, rfl⟩ rfl w_3 rfl (by decide +kernel) rfl rfl dX11_scan_119 (fun S53 H locs eS53 hW hS => ?_)
        replace hf := ltE hf S53 eS53
        refine lv_goto (tgt := 234) hx hb dX11_scan_122 (by decide) ?_
        have e1 := Option.some.inj hf
        subst e1
        exact W.vret hx hb hr (fun t ht hWm => ⟨⟨rfl, by unfold QB; rw [ht]; exact ⟨hW, trivial⟩⟩, hS.F ht⟩) hS.2.2 dX11_scan_234 hlk
      · replace hf := ifF c52 hf
        refine lv_aload_n hx hb dX11_scan_104 rfl (lv_at hl 0 rfl) ?_
        refine lv_dup hx hb dX11_scan_105 rfl ?_
        refine x_geti 1009 (ci := 10) (C := RX11) (T := TX11) (N := 30) 9 hC hin11 hW tv0 rfl rfl ⟨by decide, by decide, rfl, rfl⟩ rfl w_0 dX11_scan_106 ?_
        refine lv_iconst (v := 1) hx hb dX11_scan_109 (by decide) ?_
        refine lv_iadd hx hb dX11_scan_110 ?_
        refine x_puti 1009 (ci := 10) (C := RX11) (T := TX11) (N := 30) (v := (si S49 1009 v0) + 1) (ty := .int) 9 hC hin11 tyX11_ok nmX11 hW hS tv0 rfl rfl ⟨by decide, by decide, rfl, rfl⟩ rfl w_0 rfl (by decide +kernel) rfl rfl dX11_scan_111 (fun S54 H locs eS54 hW hS => ?_)
        replace hf := ltE hf S54 eS54
        refine lv_goto (tgt := 83) hx hb dX11_scan_114 (by decide) ?_
        exact ih83 S54 v0 tv0 _ _ _ hf hW hS (lv_sub hl [0] rfl)
  have L0 : ∀ (fu0 : Nat) (S0 : St) (v0 : Nat) (tv0 : v0 < n ∧ K v0 = 10) (H : Heap) (locs : List Loc) (ls : Array Slot), f_X11_scan_L0 F fu0 S0 v0 = some S9 → Wb g ad n K S0 (dA ad n s.heap.size) H → va_S (dA ad n s.heap.size) s.heap H locs → lv_has ls 2 [(0, .ref (ad v0))] → W p l e (headSpec wsX11_scan { frames := 1, cells := 0, slots := 0, locals := 25 }).room s m (List.toArray [.ref (ad p0)]) below meth c H locs 0 0 (MQ below (QR none (QB g ad n K S9 (dA ad n s.heap.size) (True)) (dA ad n s.heap.size)) (List.toArray [.ref (ad p0)]) s 0 0 (dA ad n s.heap.size)) (F0 m 0 ls []) := by
    intro fu0
    induction fu0 with
    | zero =>
      intro S0 v0 tv0 H locs ls hf
      cases hf
    | succ fu0 ih0 =>
      have L26 : ∀ (S0 : St) (v0 : Nat) (tv0 : v0 < n ∧ K v0 = 10) (H : Heap) (locs : List Loc) (ls : Array Slot), f_X11_scan_L26 F (fun a0 a1 => f_X11_scan_L0 F fu0 a0 a1) S0 v0 = some S9 → Wb g ad n K S0 (dA ad n s.heap.size) H → va_S (dA ad n s.heap.size) s.heap H locs → lv_has ls 2 [(0, .ref (ad v0))] → W p l e (headSpec wsX11_scan { frames := 1, cells := 0, slots := 0, locals := 25 }).room s m (List.toArray [.ref (ad p0)]) below meth c H locs 0 0 (MQ below (QR none (QB g ad n K S9 (dA ad n s.heap.size) (True)) (dA ad n s.heap.size)) (List.toArray [.ref (ad p0)]) s 0 0 (dA ad n s.heap.size)) (F0 m 26 ls []) := by
        intro S0 v0 tv0 H locs ls hf hW hS hl
        unfold f_X11_scan_L26 at hf
        refine lv_aload_n hx hb dX11_scan_26 rfl (lv_at hl 0 rfl) ?_
        refine lv_dup hx hb dX11_scan_27 rfl ?_
        refine x_geti 1009 (ci := 10) (C := RX11) (T := TX11) (N := 30) 9 hC hin11 hW tv0 rfl rfl ⟨by decide, by decide, rfl, rfl⟩ rfl w_0 dX11_scan_28 ?_
        refine lv_iconst (v := 1) hx hb dX11_scan_31 (by decide) ?_
        refine lv_iadd hx hb dX11_scan_32 ?_
        refine x_puti 1009 (ci := 10) (C := RX11) (T := TX11) (N := 30) (v := (si S0 1009 v0) + 1) (ty := .int) 9 hC hin11 tyX11_ok nmX11 hW hS tv0 rfl rfl ⟨by decide, by decide, rfl, rfl⟩ rfl w_0 rfl (by decide +kernel) rfl rfl dX11_scan_33 (fun S56 H locs eS56 hW hS => ?_)
        replace hf := ltE hf S56 eS56
        refine lv_goto (tgt := 0) hx hb dX11_scan_36 (by decide) ?_
        exact ih0 S56 v0 tv0 _ _ _ hf hW hS (lv_sub hl [0] rfl)
      intro S0 v0 tv0 H locs ls hf hW hS hl
      unfold f_X11_scan_L0 at hf
      refine lv_aload_n hx hb dX11_scan_0 rfl (lv_at hl 0 rfl) ?_
      refine lv_aload_n hx hb dX11_scan_1 rfl (lv_at hl 0 rfl) ?_
      refine x_geti 1009 (ci := 10) (C := RX11) (T := TX11) (N := 30) 9 hC hin11 hW tv0 rfl rfl ⟨by decide, by decide, rfl, rfl⟩ rfl w_0 dX11_scan_2 ?_
      replace hf := obE hf
      obtain ⟨z88, hz88, hf⟩ := hf
      obtain ⟨r90, S89⟩ := z88
      replace hf := ltE (ltE hf r90 rfl) S89 rfl
      refine x_callV (As := [.int (si S0 1009 v0)]) (rest := []) (o := (some (.int r90))) (S1 := S89) hC hl.1 hW hS hGs hA tv0 rfl (show vwCl[10]? = some (RX11, TX11, 30) ∧ 10 < 11 from ⟨rfl, by decide⟩) (c_X11_byteAt l g ad n K H.size F S0 v0 (si S0 1009 v0) tv0 r90 S89 hz88) (cwV 1 hts gX11_scan_X11_byteAt rfl rfl rfl (by decide +kernel) ⟨Nat.le_of_ble_eq_true rfl, Nat.le_of_ble_eq_true rfl⟩) rfl rfl (Nat.le_of_ble_eq_true rfl) dX11_scan_5 ⟨Nat.le_of_ble_eq_true rfl, Nat.le_of_ble_eq_true rfl⟩ (fun H locs hPz88 hW hS => ?_)
      refine W.eq (g2 := F0 m 8 ls [.int r90]) rfl ?_
      refine lv_bipush (v := 32) hx hb dX11_scan_8 (by decide) ?_
      refine lv_icmp_eq (tgt := 26) hx hb dX11_scan_10 (by decide) (fun c92 => ?_) (fun c92 => ?_)
      · replace hf := ifT c92 hf
        exact L26 S89 v0 tv0 _ _ _ hf hW hS (lv_sub hl [0] rfl)
      · replace hf := ifF c92 hf
        refine lv_aload_n hx hb dX11_scan_13 rfl (lv_at hl 0 rfl) ?_
        refine lv_aload_n hx hb dX11_scan_14 rfl (lv_at hl 0 rfl) ?_
        refine x_geti 1009 (ci := 10) (C := RX11) (T := TX11) (N := 30) 9 hC hin11 hW tv0 rfl rfl ⟨by decide, by decide, rfl, rfl⟩ rfl w_0 dX11_scan_15 ?_
        replace hf := obE hf
        obtain ⟨z93, hz93, hf⟩ := hf
        obtain ⟨r95, S94⟩ := z93
        replace hf := ltE (ltE hf r95 rfl) S94 rfl
        refine x_callV (As := [.int (si S89 1009 v0)]) (rest := []) (o := (some (.int r95))) (S1 := S94) hC hl.1 hW hS hGs hA tv0 rfl (show vwCl[10]? = some (RX11, TX11, 30) ∧ 10 < 11 from ⟨rfl, by decide⟩) (c_X11_byteAt l g ad n K H.size F S89 v0 (si S89 1009 v0) tv0 r95 S94 hz93) (cwV 1 hts gX11_scan_X11_byteAt rfl rfl rfl (by decide +kernel) ⟨Nat.le_of_ble_eq_true rfl, Nat.le_of_ble_eq_true rfl⟩) rfl rfl (Nat.le_of_ble_eq_true rfl) dX11_scan_18 ⟨Nat.le_of_ble_eq_true rfl, Nat.le_of_ble_eq_true rfl⟩ (fun H locs hPz93 hW hS => ?_)
        refine W.eq (g2 := F0 m 21 ls [.int r95]) rfl ?_
        refine lv_bipush (v := 10) hx hb dX11_scan_21 (by decide) ?_
        refine lv_icmp_ne (tgt := 39) hx hb dX11_scan_23 (by decide) (fun c97 => ?_) (fun c97 => ?_)
        · replace hf := ifT c97 hf
          refine lv_aload_n hx hb dX11_scan_39 rfl (lv_at hl 0 rfl) ?_
          refine lv_aload_n hx hb dX11_scan_40 rfl (lv_at hl 0 rfl) ?_
          refine x_geti 1009 (ci := 10) (C := RX11) (T := TX11) (N := 30) 9 hC hin11 hW tv0 rfl rfl ⟨by decide, by decide, rfl, rfl⟩ rfl w_0 dX11_scan_41 ?_
          refine x_puti 1010 (ci := 10) (C := RX11) (T := TX11) (N := 30) (v := si S94 1009 v0) (ty := .int) 10 hC hin11 tyX11_ok nmX11 hW hS tv0 rfl rfl ⟨by decide, by decide, rfl, rfl⟩ rfl w_12 rfl (by decide +kernel) rfl rfl dX11_scan_44 (fun S98 H locs eS98 hW hS => ?_)
          replace hf := ltE hf S98 eS98
          refine lv_aload_n hx hb dX11_scan_47 rfl (lv_at hl 0 rfl) ?_
          refine lv_aload_n hx hb dX11_scan_48 rfl (lv_at hl 0 rfl) ?_
          refine x_geti 1009 (ci := 10) (C := RX11) (T := TX11) (N := 30) 9 hC hin11 hW tv0 rfl rfl ⟨by decide, by decide, rfl, rfl⟩ rfl w_0 dX11_scan_49 ?_
          replace hf := obE hf
          obtain ⟨z99, hz99, hf⟩ := hf
          obtain ⟨r101, S100⟩ := z99
          replace hf := ltE (ltE hf r101 rfl) S100 rfl
          refine x_callV (As := [.int (si S98 1009 v0)]) (rest := []) (o := (some (.int r101))) (S1 := S100) hC hl.1 hW hS hGs hA tv0 rfl (show vwCl[10]? = some (RX11, TX11, 30) ∧ 10 < 11 from ⟨rfl, by decide⟩) (c_X11_byteAt l g ad n K H.size F S98 v0 (si S98 1009 v0) tv0 r101 S100 hz99) (cwV 1 hts gX11_scan_X11_byteAt rfl rfl rfl (by decide +kernel) ⟨Nat.le_of_ble_eq_true rfl, Nat.le_of_ble_eq_true rfl⟩) rfl rfl (Nat.le_of_ble_eq_true rfl) dX11_scan_52 ⟨Nat.le_of_ble_eq_true rfl, Nat.le_of_ble_eq_true rfl⟩ (fun H locs hPz99 hW hS => ?_)
          refine W.eq (g2 := F0 m 55 ls [.int r101]) rfl ?_
          refine lv_istore_n (lv' := [(1, .int r101), (0, .ref (ad v0))]) hx hb dX11_scan_55 rfl hl (by decide) rfl (fun ls hl => ?_)
          refine lv_iload_n hx hb dX11_scan_56 rfl (lv_at hl 0 rfl) ?_
          refine lv_iconst (v := -1) hx hb dX11_scan_57 (by decide) ?_
          refine lv_icmp_ne (tgt := 69) hx hb dX11_scan_58 (by decide) (fun c103 => ?_) (fun c103 => ?_)
          · replace hf := ifT c103 hf
            refine lv_iload_n hx hb dX11_scan_69 rfl (lv_at hl 0 rfl) ?_
            refine lv_i2l (v := r101.toInt64) hx hb dX11_scan_70 rfl ?_
            refine lv_ldc2 (v := (97)) hx hb hown w_10 dX11_scan_71 ?_
            refine lv_ldc2 (v := (122)) hx hb hown w_11 dX11_scan_74 ?_
            replace hf := obE hf
            obtain ⟨z104, hz104, hf⟩ := hf
            obtain ⟨r106, S105⟩ := z104
            replace hf := ltE (ltE hf r106 rfl) S105 rfl
            refine x_callS (As := [.long (r101.toInt64), .long ((97)), .long ((122))]) (rest := []) (o := (some (.int r106))) (S1 := S105) hC hl.1 hW hS hGs hA (c_X11_in l g ad n K H.size F S100 r101.toInt64 (((97) : Int64)) (((122) : Int64)) r106 S105 hz104) (va_cwS 3 hts gX11_scan_X11_in rfl rfl rfl (by decide +kernel) ⟨Nat.le_of_ble_eq_true rfl, Nat.le_of_ble_eq_true rfl⟩) rfl rfl (Nat.le_of_ble_eq_true rfl) dX11_scan_77 ⟨Nat.le_of_ble_eq_true rfl, Nat.le_of_ble_eq_true rfl⟩ (fun H locs hPz104 hW hS => ?_)
            refine W.eq (g2 := F0 m 80 ls [.int r106]) rfl ?_
            refine lv_if_eq (tgt := 125) hx hb dX11_scan_80 (by decide) (fun c108 => ?_) (fun c108 => ?_)
            · replace hf := ifT c108 hf
              refine lv_iload_n hx hb dX11_scan_125 rfl (lv_at hl 0 rfl) ?_
              refine lv_i2l (v := r101.toInt64) hx hb dX11_scan_126 rfl ?_
              refine lv_ldc2 (v := (48)) hx hb hown w_1 dX11_scan_127 ?_
              refine lv_ldc2 (v := (57)) hx hb hown w_2 dX11_scan_130 ?_
              replace hf := obE hf
              obtain ⟨z109, hz109, hf⟩ := hf
              obtain ⟨r111, S110⟩ := z109
              replace hf := ltE (ltE hf r111 rfl) S110 rfl
              refine x_callS (As := [.long (r101.toInt64), .long ((48)), .long ((57))]) (rest := []) (o := (some (.int r111))) (S1 := S110) hC hl.1 hW hS hGs hA (c_X11_in l g ad n K H.size F S105 r101.toInt64 (((48) : Int64)) (((57) : Int64)) r111 S110 hz109) (va_cwS 3 hts gX11_scan_X11_in rfl rfl rfl (by decide +kernel) ⟨Nat.le_of_ble_eq_true rfl, Nat.le_of_ble_eq_true rfl⟩) rfl rfl (Nat.le_of_ble_eq_true rfl) dX11_scan_133 ⟨Nat.le_of_ble_eq_true rfl, Nat.le_of_ble_eq_true rfl⟩ (fun H locs hPz109 hW hS => ?_)
              refine W.eq (g2 := F0 m 136 ls [.int r111]) rfl ?_
              refine lv_if_eq (tgt := 214) hx hb dX11_scan_136 (by decide) (fun c113 => ?_) (fun c113 => ?_)
              · replace hf := ifT c113 hf
                refine lv_aload_n hx hb dX11_scan_214 rfl (lv_at hl 1 rfl) ?_
                refine lv_iconst (v := 3) hx hb dX11_scan_215 (by decide) ?_
                refine x_puti 1011 (ci := 10) (C := RX11) (T := TX11) (N := 30) (v := 3) (ty := .int) 11 hC hin11 tyX11_ok nmX11 hW hS tv0 rfl rfl ⟨by decide, by decide, rfl, rfl⟩ rfl w_3 rfl (by decide +kernel) rfl rfl dX11_scan_216 (fun S114 H locs eS114 hW hS => ?_)
                replace hf := ltE hf S114 eS114
                refine lv_aload_n hx hb dX11_scan_219 rfl (lv_at hl 1 rfl) ?_
                refine lv_iload_n hx hb dX11_scan_220 rfl (lv_at hl 0 rfl) ?_
                refine x_puti 1012 (ci := 10) (C := RX11) (T := TX11) (N := 30) (v := r101) (ty := .int) 12 hC hin11 tyX11_ok nmX11 hW hS tv0 rfl rfl ⟨by decide, by decide, rfl, rfl⟩ rfl w_5 rfl (by decide +kernel) rfl rfl dX11_scan_221 (fun S115 H locs eS115 hW hS => ?_)
                replace hf := ltE hf S115 eS115
                refine lv_aload_n hx hb dX11_scan_224 rfl (lv_at hl 1 rfl) ?_
                refine lv_dup hx hb dX11_scan_225 rfl ?_
                refine x_geti 1009 (ci := 10) (C := RX11) (T := TX11) (N := 30) 9 hC hin11 hW tv0 rfl rfl ⟨by decide, by decide, rfl, rfl⟩ rfl w_0 dX11_scan_226 ?_
                refine lv_iconst (v := 1) hx hb dX11_scan_229 (by decide) ?_
                refine lv_iadd hx hb dX11_scan_230 ?_
                refine x_puti 1009 (ci := 10) (C := RX11) (T := TX11) (N := 30) (v := (si S115 1009 v0) + 1) (ty := .int) 9 hC hin11 tyX11_ok nmX11 hW hS tv0 rfl rfl ⟨by decide, by decide, rfl, rfl⟩ rfl w_0 rfl (by decide +kernel) rfl rfl dX11_scan_231 (fun S116 H locs eS116 hW hS => ?_)
                replace hf := ltE hf S116 eS116
                have e1 := Option.some.inj hf
                subst e1
                exact W.vret hx hb hr (fun t ht hWm => ⟨⟨rfl, by unfold QB; rw [ht]; exact ⟨hW, trivial⟩⟩, hS.F ht⟩) hS.2.2 dX11_scan_234 hlk
              · replace hf := ifF c113 hf
                refine lv_aload_n hx hb dX11_scan_139 rfl (lv_at hl 1 rfl) ?_
                refine lv_iconst (v := 0) hx hb dX11_scan_140 (by decide) ?_
                refine x_puti 1012 (ci := 10) (C := RX11) (T := TX11) (N := 30) (v := 0) (ty := .int) 12 hC hin11 tyX11_ok nmX11 hW hS tv0 rfl rfl ⟨by decide, by decide, rfl, rfl⟩ rfl w_5 rfl (by decide +kernel) rfl rfl dX11_scan_141 (fun S117 H locs eS117 hW hS => ?_)
                replace hf := ltE hf S117 eS117
                exact L144 F S117 v0 tv0 _ _ _ hf hW hS (lv_sub hl [1] rfl)
            · replace hf := ifF c108 hf
              exact L83 F S105 v0 tv0 _ _ _ hf hW hS (lv_sub hl [1] rfl)
          · replace hf := ifF (fun q => q c103) hf
            refine lv_aload_n hx hb dX11_scan_61 rfl (lv_at hl 1 rfl) ?_
            refine lv_iconst (v := 0) hx hb dX11_scan_62 (by decide) ?_
            refine x_puti 1011 (ci := 10) (C := RX11) (T := TX11) (N := 30) (v := 0) (ty := .int) 11 hC hin11 tyX11_ok nmX11 hW hS tv0 rfl rfl ⟨by decide, by decide, rfl, rfl⟩ rfl w_3 rfl (by decide +kernel) rfl rfl dX11_scan_63 (fun S118 H locs eS118 hW hS => ?_)
            replace hf := ltE hf S118 eS118
            refine lv_goto (tgt := 234) hx hb dX11_scan_66 (by decide) ?_
            have e1 := Option.some.inj hf
            subst e1
            exact W.vret hx hb hr (fun t ht hWm => ⟨⟨rfl, by unfold QB; rw [ht]; exact ⟨hW, trivial⟩⟩, hS.F ht⟩) hS.2.2 dX11_scan_234 hlk
        · replace hf := ifF (fun q => q c97) hf
          exact L26 S94 v0 tv0 _ _ _ hf hW hS (lv_sub hl [0] rfl)
  unfold f_X11_scan at hf
  exact L0 F S0 p0 tp0 _ _ _ hf hW hS (lv_sub hl [0] rfl)
set_option maxHeartbeats 4000000 in
set_option maxRecDepth 100000 in
theorem c_X11_goOn (l : Launch) (g : GP) (ad : Nat → Nat) (n : Nat) (K : Nat → Nat) (sz F : Nat) (S0 : St) (p0 : Nat) (tp0 : p0 < n ∧ K p0 = 10) (S9 : St) (hf : f_X11_goOn F S0 p0 = some S9) : Met l yX11_goOn wsX11_goOn { frames := 2, cells := 0, slots := 0, locals := 46 } (va_Pc [.ref (ad p0)] (PB g ad n K S0 sz)) (QR none (QB g ad n K S9 (dA ad n sz) (True)) (dA ad n sz)) 0 0 (dA ad n sz) := by
  refine Met.ofW (cc := cX11_goOn) (maxL := 1) (ret := none) (by decide) rfl ?_
  intro p e s m args below meth c s₁ B hml hv
  obtain ⟨rfl, hsz, hW, hK, hGs⟩ := x_start hv
  subst hsz
  have hx := B.exec
  have hb := B.bytes
  have hr := B.returns
  have hts := atoms_spec (ws := wsX11_goOn) B.pre
  have hown : s.vm.findClass RX11 = some m.cls := findClass_of_methodNamed B.named
  have hlk := B.notSynchronized
  have hC : Cx g p s m _ c cX11_goOn RX11 wsX11_goOn 1 := ⟨hx, hb, hml, hown, hts, hK⟩
  have hA : ∀ q : Nat, s.heap.size ≤ q → dA ad n s.heap.size q := fun q h => Or.inr h
  have hS : va_S (dA ad n s.heap.size) s.heap s.heap [] := va_S.rf
  have hl := lv_entry ([.ref (ad p0)]) (n := 1) (Nat.le_of_ble_eq_true rfl)
  rw [lg_entry_eq]
  generalize (lg_sl ([.ref (ad p0)]) ++ List.replicate (1 - (lg_sl ([.ref (ad p0)])).length) Slot.unset).toArray = ls at hl ⊢
  have hl : lv_has ls 1 [(0, .ref (ad p0))] := hl
  have hGE := hGs.2.2.2.2.2.2.1
  have hGM := hGs.2.2.2.2.2.2.2.1
  unfold f_X11_goOn at hf
  refine lv_aload_n hx hb dX11_goOn_0 rfl (lv_at hl 0 rfl) ?_
  replace hf := obE hf
  obtain ⟨z1, hz1, hf⟩ := hf
  obtain ⟨r3, S2⟩ := z1
  replace hf := ltE (ltE hf r3 rfl) S2 rfl
  refine x_callV (As := []) (rest := []) (o := (some (.int r3))) (S1 := S2) hC hl.1 hW hS hGs hA tp0 rfl (show vwCl[10]? = some (RX11, TX11, 30) ∧ 10 < 11 from ⟨rfl, by decide⟩) (c_X11_good l g ad n K s.heap.size F S0 p0 tp0 r3 S2 hz1) (cwV 0 hts gX11_goOn_X11_good rfl rfl rfl (by decide +kernel) ⟨Nat.le_of_ble_eq_true rfl, Nat.le_of_ble_eq_true rfl⟩) rfl rfl (Nat.le_of_ble_eq_true rfl) dX11_goOn_1 ⟨Nat.le_of_ble_eq_true rfl, Nat.le_of_ble_eq_true rfl⟩ (fun H locs hPz1 hW hS => ?_)
  refine W.eq (g2 := F0 m 4 ls [.int r3]) rfl ?_
  refine lv_if_eq (tgt := 11) hx hb dX11_goOn_4 (by decide) (fun c5 => ?_) (fun c5 => ?_)
  · replace hf := ifT c5 hf
    have e1 := Option.some.inj hf
    subst e1
    exact W.vret hx hb hr (fun t ht hWm => ⟨⟨rfl, by unfold QB; rw [ht]; exact ⟨hW, trivial⟩⟩, hS.F ht⟩) hS.2.2 dX11_goOn_11 hlk
  · replace hf := ifF c5 hf
    refine lv_aload_n hx hb dX11_goOn_7 rfl (lv_at hl 0 rfl) ?_
    replace hf := obE hf
    obtain ⟨S7, hz6, hf⟩ := hf
    refine x_callV (As := []) (rest := []) (o := none) (S1 := S7) hC hl.1 hW hS hGs hA tp0 rfl (show vwCl[10]? = some (RX11, TX11, 30) ∧ 10 < 11 from ⟨rfl, by decide⟩) (c_X11_scan l g ad n K H.size F S2 p0 tp0 S7 hz6) (cwV 0 hts gX11_goOn_X11_scan rfl rfl rfl (by decide +kernel) ⟨Nat.le_of_ble_eq_true rfl, Nat.le_of_ble_eq_true rfl⟩) rfl rfl (Nat.le_of_ble_eq_true rfl) dX11_goOn_8 ⟨Nat.le_of_ble_eq_true rfl, Nat.le_of_ble_eq_true rfl⟩ (fun H locs hPz6 hW hS => ?_)
    refine W.eq (g2 := F0 m 11 ls []) rfl ?_
    have e1 := Option.some.inj hf
    subst e1
    exact W.vret hx hb hr (fun t ht hWm => ⟨⟨rfl, by unfold QB; rw [ht]; exact ⟨hW, trivial⟩⟩, hS.F ht⟩) hS.2.2 dX11_goOn_11 hlk
set_option maxHeartbeats 4000000 in
set_option maxRecDepth 100000 in
theorem c_X11_isText (l : Launch) (g : GP) (ad : Nat → Nat) (n : Nat) (K : Nat → Nat) (sz F : Nat) (S0 : St) (p0 : Nat) (p1 : Nat) (tp0 : p0 < n ∧ K p0 = 10) (tp1 : p1 < 15) (r9 : Int32) (S9 : St) (hf : f_X11_isText F S0 p0 p1 = some (r9, S9)) : Met l yX11_isText wsX11_isText { frames := 5, cells := 0, slots := 0, locals := 106 } (va_Pc [.ref (ad p0), .ref (gen g (100 + p1))] (PB g ad n K S0 sz)) (QR (some (.int r9)) (QB g ad n K S9 (dA ad n sz) (True)) (dA ad n sz)) 0 0 (dA ad n sz) := by
  refine Met.ofW (cc := cX11_isText) (maxL := 4) (ret := (some .boolean)) (by decide) rfl ?_
  intro p e s m args below meth c s₁ B hml hv
  obtain ⟨rfl, hsz, hW, hK, hGs⟩ := x_start hv
  subst hsz
  have hx := B.exec
  have hb := B.bytes
  have hr := B.returns
  have hts := atoms_spec (ws := wsX11_isText) B.pre
  have hown : s.vm.findClass RX11 = some m.cls := findClass_of_methodNamed B.named
  have hlk := B.notSynchronized
  have hC : Cx g p s m _ c cX11_isText RX11 wsX11_isText 4 := ⟨hx, hb, hml, hown, hts, hK⟩
  have hA : ∀ q : Nat, s.heap.size ≤ q → dA ad n s.heap.size q := fun q h => Or.inr h
  have hS : va_S (dA ad n s.heap.size) s.heap s.heap [] := va_S.rf
  have hl := lv_entry ([.ref (ad p0), .ref (gen g (100 + p1))]) (n := 4) (Nat.le_of_ble_eq_true rfl)
  rw [lg_entry_eq]
  generalize (lg_sl ([.ref (ad p0), .ref (gen g (100 + p1))]) ++ List.replicate (4 - (lg_sl ([.ref (ad p0), .ref (gen g (100 + p1))])).length) Slot.unset).toArray = ls at hl ⊢
  have hl : lv_has ls 4 [(0, .ref (ad p0)), (1, .ref (gen g (100 + p1)))] := hl
  have hin11 : ∀ w ∈ wsX110, w ∈ wsX11_isText := by decide +kernel
  have w_0 := hts (.fieldLink RX11 32 "MailSpoolModel" "input" "[B") (by decide +kernel)
  have w_1 := hts (.fieldLink RX11 109 "MailSpoolModel" "start" "I") (by decide +kernel)
  have w_2 := hts (.fieldLink RX11 122 "MailSpoolModel" "token" "I") (by decide +kernel)
  have w_3 := hts (.fieldLink RX11 115 "MailSpoolModel" "next" "I") (by decide +kernel)
  have hGE := hGs.2.2.2.2.2.2.1
  have hGM := hGs.2.2.2.2.2.2.2.1
  have L39 : ∀ (fu39 : Nat) (S0 : St) (v0 : Nat) (v1 : Nat) (v2 : Int32) (v3 : Int32) (tv0 : v0 < n ∧ K v0 = 10) (tv1 : v1 < 15) (H : Heap) (locs : List Loc) (ls : Array Slot), f_X11_isText_L39 F fu39 S0 v0 v1 v2 v3 = some (r9, S9) → Wb g ad n K S0 (dA ad n s.heap.size) H → va_S (dA ad n s.heap.size) s.heap H locs → lv_has ls 4 [(0, .ref (ad v0)), (1, .ref (gen g (100 + v1))), (2, .int v2), (3, .int v3)] → W p l e (headSpec wsX11_isText { frames := 5, cells := 0, slots := 0, locals := 106 }).room s m (List.toArray [.ref (ad p0), .ref (gen g (100 + p1))]) below meth c H locs 0 0 (MQ below (QR (some (.int r9)) (QB g ad n K S9 (dA ad n s.heap.size) (True)) (dA ad n s.heap.size)) (List.toArray [.ref (ad p0), .ref (gen g (100 + p1))]) s 0 0 (dA ad n s.heap.size)) (F0 m 39 ls []) := by
    intro fu39
    induction fu39 with
    | zero =>
      intro S0 v0 v1 v2 v3 tv0 tv1 H locs ls hf
      cases hf
    | succ fu39 ih39 =>
      have L75 : ∀ (S0 : St) (v0 : Nat) (v1 : Nat) (v3 : Int32) (s0 : Int32) (tv0 : v0 < n ∧ K v0 = 10) (tv1 : v1 < 15) (H : Heap) (locs : List Loc) (ls : Array Slot), f_X11_isText_L75 F (fun a0 a1 a2 a3 a4 => f_X11_isText_L39 F fu39 a0 a1 a2 a3 a4) S0 v0 v1 v3 s0 = some (r9, S9) → Wb g ad n K S0 (dA ad n s.heap.size) H → va_S (dA ad n s.heap.size) s.heap H locs → lv_has ls 4 [(0, .ref (ad v0)), (1, .ref (gen g (100 + v1))), (3, .int v3)] → W p l e (headSpec wsX11_isText { frames := 5, cells := 0, slots := 0, locals := 106 }).room s m (List.toArray [.ref (ad p0), .ref (gen g (100 + p1))]) below meth c H locs 0 0 (MQ below (QR (some (.int r9)) (QB g ad n K S9 (dA ad n s.heap.size) (True)) (dA ad n s.heap.size)) (List.toArray [.ref (ad p0), .ref (gen g (100 + p1))]) s 0 0 (dA ad n s.heap.size)) (F0 m 75 ls [.int s0]) := by
        intro S0 v0 v1 v3 s0 tv0 tv1 H locs ls hf hW hS hl
        unfold f_X11_isText_L75 at hf
        refine lv_istore_n (lv' := [(2, .int s0), (0, .ref (ad v0)), (1, .ref (gen g (100 + v1))), (3, .int v3)]) hx hb dX11_isText_75 rfl hl (by decide) rfl (fun ls hl => ?_)
        obtain ⟨x2, ex2⟩ : ∃ z : Int32, z = v3 + 1 := ⟨_, rfl⟩
        replace hf := ltE hf x2 ex2
        refine lv_iinc (v := x2) (lv' := [(3, .int x2), (2, .int s0), (0, .ref (ad v0)), (1, .ref (gen g (100 + v1)))]) hx hb dX11_isText_76 hl (k := 3) rfl (by rw [ex2]; rfl) (by decide) rfl (fun ls hl => ?_)
        refine lv_goto (tgt := 39) hx hb dX11_isText_79 (by decide) ?_
        exact ih39 S0 v0 v1 s0 x2 tv0 tv1 _ _ _ hf hW hS (lv_sub hl [2, 3, 1, 0] rfl)
      intro S0 v0 v1 v2 v3 tv0 tv1 H locs ls hf hW hS hl
      unfold f_X11_isText_L39 at hf
      refine lv_iload_n hx hb dX11_isText_39 rfl (lv_at hl 3 rfl) ?_
      refine lv_aload_n hx hb dX11_isText_40 rfl (lv_at hl 1 rfl) ?_
      replace hf := obE hf
      obtain ⟨z18, hz18, hf⟩ := hf
      obtain ⟨r20, S19⟩ := z18
      replace hf := ltE (ltE hf r20 rfl) S19 rfl
      refine x_callVs (As := []) (rest := [.int v3]) (o := (some (.int r20))) (S1 := S19) hC hl.1 hW hS hGs hA tv1 (c_J0_length_8abf5 l g ad n K H.size F S0 v1 tv1 r20 S19 hz18) (cwV 0 hts gX11_isText_J0_length_8abf5 rfl rfl rfl (by decide +kernel) ⟨Nat.le_of_ble_eq_true rfl, Nat.le_of_ble_eq_true rfl⟩) rfl rfl (Nat.le_of_ble_eq_true rfl) dX11_isText_41 ⟨Nat.le_of_ble_eq_true rfl, Nat.le_of_ble_eq_true rfl⟩ (fun H locs hPz18 hW hS => ?_)
      refine W.eq (g2 := F0 m 44 ls [.int r20, .int v3]) rfl ?_
      refine lv_icmp_ge (tgt := 82) hx hb dX11_isText_44 (by decide) (fun c22 => ?_) (fun c22 => ?_)
      · replace hf := ifT c22 hf
        refine lv_iload_n hx hb dX11_isText_82 rfl (lv_at hl 2 rfl) ?_
        replace hf := ckE hf
        obtain ⟨h23, hf⟩ := hf
        obtain ⟨e1, e2⟩ := so2 hf
        subst e1
        subst e2
        exact W.zret (v := v2) hx hb hr (zn h23) (fun t ht hWm => ⟨⟨rfl, by unfold QB; rw [ht]; exact ⟨hW, trivial⟩⟩, hS.F ht⟩) hS.2.2 dX11_isText_83 hlk
      · replace hf := ifF c22 hf
        refine lv_iload_n hx hb dX11_isText_47 rfl (lv_at hl 2 rfl) ?_
        refine lv_if_eq (tgt := 82) hx hb dX11_isText_48 (by decide) (fun c24 => ?_) (fun c24 => ?_)
        · replace hf := ifT c24 hf
          refine lv_iload_n hx hb dX11_isText_82 rfl (lv_at hl 2 rfl) ?_
          replace hf := ckE hf
          obtain ⟨h25, hf⟩ := hf
          obtain ⟨e1, e2⟩ := so2 hf
          subst e1
          subst e2
          exact W.zret (v := v2) hx hb hr (zn h25) (fun t ht hWm => ⟨⟨rfl, by unfold QB; rw [ht]; exact ⟨hW, trivial⟩⟩, hS.F ht⟩) hS.2.2 dX11_isText_83 hlk
        · replace hf := ifF c24 hf
          refine lv_aload_n hx hb dX11_isText_51 rfl (lv_at hl 0 rfl) ?_
          replace hf := obE hf
          obtain ⟨j26, qj26, hf⟩ := hf
          have tj26 := x_rt hW qj26 11 ⟨by decide, rfl⟩
          refine x_getr 1006 (ci := 10) (C := RX11) (T := TX11) (N := 30) 6 hC hin11 hW tv0 rfl rfl ⟨by decide, by decide, rfl, rfl⟩ rfl w_0 dX11_isText_52 qj26 ?_
          refine lv_aload_n hx hb dX11_isText_55 rfl (lv_at hl 0 rfl) ?_
          refine x_geti 1010 (ci := 10) (C := RX11) (T := TX11) (N := 30) 10 hC hin11 hW tv0 rfl rfl ⟨by decide, by decide, rfl, rfl⟩ rfl w_1 dX11_isText_56 ?_
          refine lv_iload_n hx hb dX11_isText_59 rfl (lv_at hl 3 rfl) ?_
          refine lv_iadd hx hb dX11_isText_60 ?_
          replace hf := ckiE hf
          obtain ⟨h27, hf⟩ := hf
          refine x_bald hC hW tj26 rfl rfl h27 dX11_isText_61 ?_
          refine lv_aload_n hx hb dX11_isText_62 rfl (lv_at hl 1 rfl) ?_
          refine lv_iload_n hx hb dX11_isText_63 rfl (lv_at hl 3 rfl) ?_
          replace hf := obE hf
          obtain ⟨z28, hz28, hf⟩ := hf
          obtain ⟨r30, S29⟩ := z28
          replace hf := ltE (ltE hf r30 rfl) S29 rfl
          refine x_callVs (As := [.int v3]) (rest := [.int (ai S19 j26 (Int32.toNatClampNeg ((si S19 1010 v0) + v3)))]) (o := (some (.int r30))) (S1 := S29) hC hl.1 hW hS hGs hA tv1 (c_J0_charAt_5068e l g ad n K H.size F S19 v1 v3 tv1 r30 S29 hz28) (cwV 1 hts gX11_isText_J0_charAt_5068e rfl rfl rfl (by decide +kernel) ⟨Nat.le_of_ble_eq_true rfl, Nat.le_of_ble_eq_true rfl⟩) rfl rfl (Nat.le_of_ble_eq_true rfl) dX11_isText_64 ⟨Nat.le_of_ble_eq_true rfl, Nat.le_of_ble_eq_true rfl⟩ (fun H locs hPz28 hW hS => ?_)
          refine W.eq (g2 := F0 m 67 ls [.int r30, .int (ai S19 j26 (Int32.toNatClampNeg ((si S19 1010 v0) + v3)))]) rfl ?_
          refine lv_icmp_ne (tgt := 74) hx hb dX11_isText_67 (by decide) (fun c32 => ?_) (fun c32 => ?_)
          · replace hf := ifT c32 hf
            refine lv_iconst (v := 0) hx hb dX11_isText_74 (by decide) ?_
            exact L75 S29 v0 v1 v3 0 tv0 tv1 _ _ _ hf hW hS (lv_sub hl [0, 1, 3] rfl)
          · replace hf := ifF (fun q => q c32) hf
            refine lv_iconst (v := 1) hx hb dX11_isText_70 (by decide) ?_
            refine lv_goto (tgt := 75) hx hb dX11_isText_71 (by decide) ?_
            exact L75 S29 v0 v1 v3 1 tv0 tv1 _ _ _ hf hW hS (lv_sub hl [0, 1, 3] rfl)
  have L36 : ∀ (S0 : St) (v0 : Nat) (v1 : Nat) (s0 : Int32) (tv0 : v0 < n ∧ K v0 = 10) (tv1 : v1 < 15) (H : Heap) (locs : List Loc) (ls : Array Slot), f_X11_isText_L36 F S0 v0 v1 s0 = some (r9, S9) → Wb g ad n K S0 (dA ad n s.heap.size) H → va_S (dA ad n s.heap.size) s.heap H locs → lv_has ls 4 [(0, .ref (ad v0)), (1, .ref (gen g (100 + v1)))] → W p l e (headSpec wsX11_isText { frames := 5, cells := 0, slots := 0, locals := 106 }).room s m (List.toArray [.ref (ad p0), .ref (gen g (100 + p1))]) below meth c H locs 0 0 (MQ below (QR (some (.int r9)) (QB g ad n K S9 (dA ad n s.heap.size) (True)) (dA ad n s.heap.size)) (List.toArray [.ref (ad p0), .ref (gen g (100 + p1))]) s 0 0 (dA ad n s.heap.size)) (F0 m 36 ls [.int s0]) := by
    intro S0 v0 v1 s0 tv0 tv1 H locs ls hf hW hS hl
    unfold f_X11_isText_L36 at hf
    refine lv_istore_n (lv' := [(2, .int s0), (0, .ref (ad v0)), (1, .ref (gen g (100 + v1)))]) hx hb dX11_isText_36 rfl hl (by decide) rfl (fun ls hl => ?_)
    refine lv_iconst (v := 0) hx hb dX11_isText_37 (by decide) ?_
    refine lv_istore_n (lv' := [(3, .int 0), (2, .int s0), (0, .ref (ad v0)), (1, .ref (gen g (100 + v1)))]) hx hb dX11_isText_38 rfl hl (by decide) rfl (fun ls hl => ?_)
    exact L39 F S0 v0 v1 s0 0 tv0 tv1 _ _ _ hf hW hS (lv_sub hl [2, 3, 1, 0] rfl)
  have L35 : ∀ (S0 : St) (v0 : Nat) (v1 : Nat) (tv0 : v0 < n ∧ K v0 = 10) (tv1 : v1 < 15) (H : Heap) (locs : List Loc) (ls : Array Slot), f_X11_isText_L35 F S0 v0 v1 = some (r9, S9) → Wb g ad n K S0 (dA ad n s.heap.size) H → va_S (dA ad n s.heap.size) s.heap H locs → lv_has ls 4 [(0, .ref (ad v0)), (1, .ref (gen g (100 + v1)))] → W p l e (headSpec wsX11_isText { frames := 5, cells := 0, slots := 0, locals := 106 }).room s m (List.toArray [.ref (ad p0), .ref (gen g (100 + p1))]) below meth c H locs 0 0 (MQ below (QR (some (.int r9)) (QB g ad n K S9 (dA ad n s.heap.size) (True)) (dA ad n s.heap.size)) (List.toArray [.ref (ad p0), .ref (gen g (100 + p1))]) s 0 0 (dA ad n s.heap.size)) (F0 m 35 ls []) := by
    intro S0 v0 v1 tv0 tv1 H locs ls hf hW hS hl
    unfold f_X11_isText_L35 at hf
    refine lv_iconst (v := 0) hx hb dX11_isText_35 (by decide) ?_
    exact L36 S0 v0 v1 0 tv0 tv1 _ _ _ hf hW hS (lv_sub hl [0, 1] rfl)
  unfold f_X11_isText at hf
  refine lv_aload_n hx hb dX11_isText_0 rfl (lv_at hl 0 rfl) ?_
  replace hf := obE hf
  obtain ⟨z33, hz33, hf⟩ := hf
  obtain ⟨r35, S34⟩ := z33
  replace hf := ltE (ltE hf r35 rfl) S34 rfl
  refine x_callV (As := []) (rest := []) (o := (some (.int r35))) (S1 := S34) hC hl.1 hW hS hGs hA tp0 rfl (show vwCl[10]? = some (RX11, TX11, 30) ∧ 10 < 11 from ⟨rfl, by decide⟩) (c_X11_good l g ad n K s.heap.size F S0 p0 tp0 r35 S34 hz33) (cwV 0 hts gX11_isText_X11_good rfl rfl rfl (by decide +kernel) ⟨Nat.le_of_ble_eq_true rfl, Nat.le_of_ble_eq_true rfl⟩) rfl rfl (Nat.le_of_ble_eq_true rfl) dX11_isText_1 ⟨Nat.le_of_ble_eq_true rfl, Nat.le_of_ble_eq_true rfl⟩ (fun H locs hPz33 hW hS => ?_)
  refine W.eq (g2 := F0 m 4 ls [.int r35]) rfl ?_
  refine lv_if_eq (tgt := 35) hx hb dX11_isText_4 (by decide) (fun c37 => ?_) (fun c37 => ?_)
  · replace hf := ifT c37 hf
    exact L35 S34 p0 p1 tp0 tp1 _ _ _ hf hW hS (lv_sub hl [0, 1] rfl)
  · replace hf := ifF c37 hf
    refine lv_aload_n hx hb dX11_isText_7 rfl (lv_at hl 0 rfl) ?_
    refine x_geti 1011 (ci := 10) (C := RX11) (T := TX11) (N := 30) 11 hC hin11 hW tp0 rfl rfl ⟨by decide, by decide, rfl, rfl⟩ rfl w_2 dX11_isText_8 ?_
    refine lv_iconst (v := 1) hx hb dX11_isText_11 (by decide) ?_
    refine lv_icmp_ne (tgt := 35) hx hb dX11_isText_12 (by decide) (fun c38 => ?_) (fun c38 => ?_)
    · replace hf := ifT c38 hf
      exact L35 S34 p0 p1 tp0 tp1 _ _ _ hf hW hS (lv_sub hl [0, 1] rfl)
    · replace hf := ifF (fun q => q c38) hf
      refine lv_aload_n hx hb dX11_isText_15 rfl (lv_at hl 0 rfl) ?_
      refine x_geti 1009 (ci := 10) (C := RX11) (T := TX11) (N := 30) 9 hC hin11 hW tp0 rfl rfl ⟨by decide, by decide, rfl, rfl⟩ rfl w_3 dX11_isText_16 ?_
      refine lv_aload_n hx hb dX11_isText_19 rfl (lv_at hl 0 rfl) ?_
      refine x_geti 1010 (ci := 10) (C := RX11) (T := TX11) (N := 30) 10 hC hin11 hW tp0 rfl rfl ⟨by decide, by decide, rfl, rfl⟩ rfl w_1 dX11_isText_20 ?_
      refine lv_isub hx hb dX11_isText_23 ?_
      refine lv_aload_n hx hb dX11_isText_24 rfl (lv_at hl 1 rfl) ?_
      replace hf := obE hf
      obtain ⟨z39, hz39, hf⟩ := hf
      obtain ⟨r41, S40⟩ := z39
      replace hf := ltE (ltE hf r41 rfl) S40 rfl
      refine x_callVs (As := []) (rest := [.int ((si S34 1009 p0) - (si S34 1010 p0))]) (o := (some (.int r41))) (S1 := S40) hC hl.1 hW hS hGs hA tp1 (c_J0_length_8abf5 l g ad n K H.size F S34 p1 tp1 r41 S40 hz39) (cwV 0 hts gX11_isText_J0_length_8abf5 rfl rfl rfl (by decide +kernel) ⟨Nat.le_of_ble_eq_true rfl, Nat.le_of_ble_eq_true rfl⟩) rfl rfl (Nat.le_of_ble_eq_true rfl) dX11_isText_25 ⟨Nat.le_of_ble_eq_true rfl, Nat.le_of_ble_eq_true rfl⟩ (fun H locs hPz39 hW hS => ?_)
      refine W.eq (g2 := F0 m 28 ls [.int r41, .int ((si S34 1009 p0) - (si S34 1010 p0))]) rfl ?_
      refine lv_icmp_ne (tgt := 35) hx hb dX11_isText_28 (by decide) (fun c43 => ?_) (fun c43 => ?_)
      · replace hf := ifT c43 hf
        exact L35 S40 p0 p1 tp0 tp1 _ _ _ hf hW hS (lv_sub hl [0, 1] rfl)
      · replace hf := ifF (fun q => q c43) hf
        refine lv_iconst (v := 1) hx hb dX11_isText_31 (by decide) ?_
        refine lv_goto (tgt := 36) hx hb dX11_isText_32 (by decide) ?_
        exact L36 S40 p0 p1 1 tp0 tp1 _ _ _ hf hW hS (lv_sub hl [0, 1] rfl)
set_option maxHeartbeats 4000000 in
set_option maxRecDepth 100000 in
theorem c_X11_isSymbol (l : Launch) (g : GP) (ad : Nat → Nat) (n : Nat) (K : Nat → Nat) (sz F : Nat) (S0 : St) (p0 : Nat) (p1 : Int32) (tp0 : p0 < n ∧ K p0 = 10) (r9 : Int32) (S9 : St) (hf : f_X11_isSymbol F S0 p0 p1 = some (r9, S9)) : Met l yX11_isSymbol wsX11_isSymbol { frames := 1, cells := 0, slots := 0, locals := 20 } (va_Pc [.ref (ad p0), .int p1] (PB g ad n K S0 sz)) (QR (some (.int r9)) (QB g ad n K S9 (dA ad n sz) (True)) (dA ad n sz)) 0 0 (dA ad n sz) := by
  refine Met.ofW (cc := cX11_isSymbol) (maxL := 2) (ret := (some .boolean)) (by decide) rfl ?_
  intro p e s m args below meth c s₁ B hml hv
  obtain ⟨rfl, hsz, hW, hK, hGs⟩ := x_start hv
  subst hsz
  have hx := B.exec
  have hb := B.bytes
  have hr := B.returns
  have hts := atoms_spec (ws := wsX11_isSymbol) B.pre
  have hown : s.vm.findClass RX11 = some m.cls := findClass_of_methodNamed B.named
  have hlk := B.notSynchronized
  have hC : Cx g p s m _ c cX11_isSymbol RX11 wsX11_isSymbol 2 := ⟨hx, hb, hml, hown, hts, hK⟩
  have hA : ∀ q : Nat, s.heap.size ≤ q → dA ad n s.heap.size q := fun q h => Or.inr h
  have hS : va_S (dA ad n s.heap.size) s.heap s.heap [] := va_S.rf
  have hl := lv_entry ([.ref (ad p0), .int p1]) (n := 2) (Nat.le_of_ble_eq_true rfl)
  rw [lg_entry_eq]
  generalize (lg_sl ([.ref (ad p0), .int p1]) ++ List.replicate (2 - (lg_sl ([.ref (ad p0), .int p1])).length) Slot.unset).toArray = ls at hl ⊢
  have hl : lv_has ls 2 [(0, .ref (ad p0)), (1, .int p1)] := hl
  have hin11 : ∀ w ∈ wsX110, w ∈ wsX11_isSymbol := by decide +kernel
  have w_0 := hts (.fieldLink RX11 122 "MailSpoolModel" "token" "I") (by decide +kernel)
  have w_1 := hts (.fieldLink RX11 133 "MailSpoolModel" "value" "I") (by decide +kernel)
  have hGE := hGs.2.2.2.2.2.2.1
  have hGM := hGs.2.2.2.2.2.2.2.1
  unfold f_X11_isSymbol at hf
  refine lv_aload_n hx hb dX11_isSymbol_0 rfl (lv_at hl 0 rfl) ?_
  replace hf := obE hf
  obtain ⟨z1, hz1, hf⟩ := hf
  obtain ⟨r3, S2⟩ := z1
  replace hf := ltE (ltE hf r3 rfl) S2 rfl
  refine x_callV (As := []) (rest := []) (o := (some (.int r3))) (S1 := S2) hC hl.1 hW hS hGs hA tp0 rfl (show vwCl[10]? = some (RX11, TX11, 30) ∧ 10 < 11 from ⟨rfl, by decide⟩) (c_X11_good l g ad n K s.heap.size F S0 p0 tp0 r3 S2 hz1) (cwV 0 hts gX11_isSymbol_X11_good rfl rfl rfl (by decide +kernel) ⟨Nat.le_of_ble_eq_true rfl, Nat.le_of_ble_eq_true rfl⟩) rfl rfl (Nat.le_of_ble_eq_true rfl) dX11_isSymbol_1 ⟨Nat.le_of_ble_eq_true rfl, Nat.le_of_ble_eq_true rfl⟩ (fun H locs hPz1 hW hS => ?_)
  refine W.eq (g2 := F0 m 4 ls [.int r3]) rfl ?_
  refine lv_if_eq (tgt := 27) hx hb dX11_isSymbol_4 (by decide) (fun c5 => ?_) (fun c5 => ?_)
  · replace hf := ifT c5 hf
    refine lv_iconst (v := 0) hx hb dX11_isSymbol_27 (by decide) ?_
    obtain ⟨e1, e2⟩ := so2 hf
    subst e1
    subst e2
    exact W.zret (v := 0) hx hb hr rfl (fun t ht hWm => ⟨⟨rfl, by unfold QB; rw [ht]; exact ⟨hW, trivial⟩⟩, hS.F ht⟩) hS.2.2 dX11_isSymbol_28 hlk
  · replace hf := ifF c5 hf
    refine lv_aload_n hx hb dX11_isSymbol_7 rfl (lv_at hl 0 rfl) ?_
    refine x_geti 1011 (ci := 10) (C := RX11) (T := TX11) (N := 30) 11 hC hin11 hW tp0 rfl rfl ⟨by decide, by decide, rfl, rfl⟩ rfl w_0 dX11_isSymbol_8 ?_
    refine lv_iconst (v := 3) hx hb dX11_isSymbol_11 (by decide) ?_
    refine lv_icmp_ne (tgt := 27) hx hb dX11_isSymbol_12 (by decide) (fun c6 => ?_) (fun c6 => ?_)
    · replace hf := ifT c6 hf
      refine lv_iconst (v := 0) hx hb dX11_isSymbol_27 (by decide) ?_
      obtain ⟨e1, e2⟩ := so2 hf
      subst e1
      subst e2
      exact W.zret (v := 0) hx hb hr rfl (fun t ht hWm => ⟨⟨rfl, by unfold QB; rw [ht]; exact ⟨hW, trivial⟩⟩, hS.F ht⟩) hS.2.2 dX11_isSymbol_28 hlk
    · replace hf := ifF (fun q => q c6) hf
      refine lv_aload_n hx hb dX11_isSymbol_15 rfl (lv_at hl 0 rfl) ?_
      refine x_geti 1012 (ci := 10) (C := RX11) (T := TX11) (N := 30) 12 hC hin11 hW tp0 rfl rfl ⟨by decide, by decide, rfl, rfl⟩ rfl w_1 dX11_isSymbol_16 ?_
      refine lv_iload_n hx hb dX11_isSymbol_19 rfl (lv_at hl 1 rfl) ?_
      refine lv_icmp_ne (tgt := 27) hx hb dX11_isSymbol_20 (by decide) (fun c7 => ?_) (fun c7 => ?_)
      · replace hf := ifT c7 hf
        refine lv_iconst (v := 0) hx hb dX11_isSymbol_27 (by decide) ?_
        obtain ⟨e1, e2⟩ := so2 hf
        subst e1
        subst e2
        exact W.zret (v := 0) hx hb hr rfl (fun t ht hWm => ⟨⟨rfl, by unfold QB; rw [ht]; exact ⟨hW, trivial⟩⟩, hS.F ht⟩) hS.2.2 dX11_isSymbol_28 hlk
      · replace hf := ifF (fun q => q c7) hf
        refine lv_iconst (v := 1) hx hb dX11_isSymbol_23 (by decide) ?_
        refine lv_goto (tgt := 28) hx hb dX11_isSymbol_24 (by decide) ?_
        obtain ⟨e1, e2⟩ := so2 hf
        subst e1
        subst e2
        exact W.zret (v := 1) hx hb hr rfl (fun t ht hWm => ⟨⟨rfl, by unfold QB; rw [ht]; exact ⟨hW, trivial⟩⟩, hS.F ht⟩) hS.2.2 dX11_isSymbol_28 hlk
set_option maxHeartbeats 4000000 in
set_option maxRecDepth 100000 in
theorem c_X11_isKeyword (l : Launch) (g : GP) (ad : Nat → Nat) (n : Nat) (K : Nat → Nat) (sz F : Nat) (S0 : St) (p0 : Nat) (tp0 : p0 < n ∧ K p0 = 10) (r9 : Int32) (S9 : St) (hf : f_X11_isKeyword F S0 p0 = some (r9, S9)) : Met l yX11_isKeyword wsX11_isKeyword { frames := 6, cells := 0, slots := 0, locals := 129 } (va_Pc [.ref (ad p0)] (PB g ad n K S0 sz)) (QR (some (.int r9)) (QB g ad n K S9 (dA ad n sz) (True)) (dA ad n sz)) 0 0 (dA ad n sz) := by
  refine Met.ofW (cc := cX11_isKeyword) (maxL := 2) (ret := (some .boolean)) (by decide) rfl ?_
  intro p e s m args below meth c s₁ B hml hv
  obtain ⟨rfl, hsz, hW, hK, hGs⟩ := x_start hv
  subst hsz
  have hx := B.exec
  have hb := B.bytes
  have hr := B.returns
  have hts := atoms_spec (ws := wsX11_isKeyword) B.pre
  have hown : s.vm.findClass RX11 = some m.cls := findClass_of_methodNamed B.named
  have hlk := B.notSynchronized
  have hC : Cx g p s m _ c cX11_isKeyword RX11 wsX11_isKeyword 2 := ⟨hx, hb, hml, hown, hts, hK⟩
  have hA : ∀ q : Nat, s.heap.size ≤ q → dA ad n s.heap.size q := fun q h => Or.inr h
  have hS : va_S (dA ad n s.heap.size) s.heap s.heap [] := va_S.rf
  have hl := lv_entry ([.ref (ad p0)]) (n := 2) (Nat.le_of_ble_eq_true rfl)
  rw [lg_entry_eq]
  generalize (lg_sl ([.ref (ad p0)]) ++ List.replicate (2 - (lg_sl ([.ref (ad p0)])).length) Slot.unset).toArray = ls at hl ⊢
  have hl : lv_has ls 2 [(0, .ref (ad p0))] := hl
  have hGE := hGs.2.2.2.2.2.2.1
  have hGM := hGs.2.2.2.2.2.2.2.1
  have L77 : ∀ (S0 : St) (v0 : Nat) (s0 : Int32) (tv0 : v0 < n ∧ K v0 = 10) (H : Heap) (locs : List Loc) (ls : Array Slot), f_X11_isKeyword_L77 F S0 v0 s0 = some (r9, S9) → Wb g ad n K S0 (dA ad n s.heap.size) H → va_S (dA ad n s.heap.size) s.heap H locs → lv_has ls 2 [(0, .ref (ad v0))] → W p l e (headSpec wsX11_isKeyword { frames := 6, cells := 0, slots := 0, locals := 129 }).room s m (List.toArray [.ref (ad p0)]) below meth c H locs 0 0 (MQ below (QR (some (.int r9)) (QB g ad n K S9 (dA ad n s.heap.size) (True)) (dA ad n s.heap.size)) (List.toArray [.ref (ad p0)]) s 0 0 (dA ad n s.heap.size)) (F0 m 77 ls [.int s0]) := by
    intro S0 v0 s0 tv0 H locs ls hf hW hS hl
    unfold f_X11_isKeyword_L77 at hf
    refine lv_istore_n (lv' := [(1, .int s0), (0, .ref (ad v0))]) hx hb dX11_isKeyword_77 rfl hl (by decide) rfl (fun ls hl => ?_)
    refine lv_iload_n hx hb dX11_isKeyword_78 rfl (lv_at hl 0 rfl) ?_
    refine lv_if_ne (tgt := 145) hx hb dX11_isKeyword_79 (by decide) (fun c37 => ?_) (fun c37 => ?_)
    · replace hf := ifT c37 hf
      refine lv_iconst (v := 1) hx hb dX11_isKeyword_145 (by decide) ?_
      refine lv_goto (tgt := 150) hx hb dX11_isKeyword_146 (by decide) ?_
      obtain ⟨e1, e2⟩ := so2 hf
      subst e1
      subst e2
      exact W.zret (v := 1) hx hb hr rfl (fun t ht hWm => ⟨⟨rfl, by unfold QB; rw [ht]; exact ⟨hW, trivial⟩⟩, hS.F ht⟩) hS.2.2 dX11_isKeyword_150 hlk
    · replace hf := ifF (fun q => q c37) hf
      refine lv_aload_n hx hb dX11_isKeyword_82 rfl (lv_at hl 1 rfl) ?_
      refine x_ldcM 8 (tx := "user") hC hGM ⟨rfl, by decide⟩ dX11_isKeyword_83 ?_
      replace hf := obE hf
      obtain ⟨z38, hz38, hf⟩ := hf
      obtain ⟨r40, S39⟩ := z38
      replace hf := ltE (ltE hf r40 rfl) S39 rfl
      refine x_callV (As := [.ref (gen g (100 + 8))]) (rest := []) (o := (some (.int r40))) (S1 := S39) hC hl.1 hW hS hGs hA tv0 rfl (show vwCl[10]? = some (RX11, TX11, 30) ∧ 10 < 11 from ⟨rfl, by decide⟩) (c_X11_isText l g ad n K H.size F S0 v0 8 tv0 (by decide) r40 S39 hz38) (cwV 1 hts gX11_isKeyword_X11_isText rfl rfl rfl (by decide +kernel) ⟨Nat.le_of_ble_eq_true rfl, Nat.le_of_ble_eq_true rfl⟩) rfl rfl (Nat.le_of_ble_eq_true rfl) dX11_isKeyword_85 ⟨Nat.le_of_ble_eq_true rfl, Nat.le_of_ble_eq_true rfl⟩ (fun H locs hPz38 hW hS => ?_)
      refine W.eq (g2 := F0 m 88 ls [.int r40]) rfl ?_
      refine lv_if_ne (tgt := 145) hx hb dX11_isKeyword_88 (by decide) (fun c42 => ?_) (fun c42 => ?_)
      · replace hf := ifT c42 hf
        refine lv_iconst (v := 1) hx hb dX11_isKeyword_145 (by decide) ?_
        refine lv_goto (tgt := 150) hx hb dX11_isKeyword_146 (by decide) ?_
        obtain ⟨e1, e2⟩ := so2 hf
        subst e1
        subst e2
        exact W.zret (v := 1) hx hb hr rfl (fun t ht hWm => ⟨⟨rfl, by unfold QB; rw [ht]; exact ⟨hW, trivial⟩⟩, hS.F ht⟩) hS.2.2 dX11_isKeyword_150 hlk
      · replace hf := ifF (fun q => q c42) hf
        refine lv_aload_n hx hb dX11_isKeyword_91 rfl (lv_at hl 1 rfl) ?_
        refine x_ldcM 9 (tx := "quota") hC hGM ⟨rfl, by decide⟩ dX11_isKeyword_92 ?_
        replace hf := obE hf
        obtain ⟨z43, hz43, hf⟩ := hf
        obtain ⟨r45, S44⟩ := z43
        replace hf := ltE (ltE hf r45 rfl) S44 rfl
        refine x_callV (As := [.ref (gen g (100 + 9))]) (rest := []) (o := (some (.int r45))) (S1 := S44) hC hl.1 hW hS hGs hA tv0 rfl (show vwCl[10]? = some (RX11, TX11, 30) ∧ 10 < 11 from ⟨rfl, by decide⟩) (c_X11_isText l g ad n K H.size F S39 v0 9 tv0 (by decide) r45 S44 hz43) (cwV 1 hts gX11_isKeyword_X11_isText rfl rfl rfl (by decide +kernel) ⟨Nat.le_of_ble_eq_true rfl, Nat.le_of_ble_eq_true rfl⟩) rfl rfl (Nat.le_of_ble_eq_true rfl) dX11_isKeyword_94 ⟨Nat.le_of_ble_eq_true rfl, Nat.le_of_ble_eq_true rfl⟩ (fun H locs hPz43 hW hS => ?_)
        refine W.eq (g2 := F0 m 97 ls [.int r45]) rfl ?_
        refine lv_if_ne (tgt := 145) hx hb dX11_isKeyword_97 (by decide) (fun c47 => ?_) (fun c47 => ?_)
        · replace hf := ifT c47 hf
          refine lv_iconst (v := 1) hx hb dX11_isKeyword_145 (by decide) ?_
          refine lv_goto (tgt := 150) hx hb dX11_isKeyword_146 (by decide) ?_
          obtain ⟨e1, e2⟩ := so2 hf
          subst e1
          subst e2
          exact W.zret (v := 1) hx hb hr rfl (fun t ht hWm => ⟨⟨rfl, by unfold QB; rw [ht]; exact ⟨hW, trivial⟩⟩, hS.F ht⟩) hS.2.2 dX11_isKeyword_150 hlk
        · replace hf := ifF (fun q => q c47) hf
          refine lv_aload_n hx hb dX11_isKeyword_100 rfl (lv_at hl 1 rfl) ?_
          refine x_ldcM 10 (tx := "group") hC hGM ⟨rfl, by decide⟩ dX11_isKeyword_101 ?_
          replace hf := obE hf
          obtain ⟨z48, hz48, hf⟩ := hf
          obtain ⟨r50, S49⟩ := z48
          replace hf := ltE (ltE hf r50 rfl) S49 rfl
          refine x_callV (As := [.ref (gen g (100 + 10))]) (rest := []) (o := (some (.int r50))) (S1 := S49) hC hl.1 hW hS hGs hA tv0 rfl (show vwCl[10]? = some (RX11, TX11, 30) ∧ 10 < 11 from ⟨rfl, by decide⟩) (c_X11_isText l g ad n K H.size F S44 v0 10 tv0 (by decide) r50 S49 hz48) (cwV 1 hts gX11_isKeyword_X11_isText rfl rfl rfl (by decide +kernel) ⟨Nat.le_of_ble_eq_true rfl, Nat.le_of_ble_eq_true rfl⟩) rfl rfl (Nat.le_of_ble_eq_true rfl) dX11_isKeyword_103 ⟨Nat.le_of_ble_eq_true rfl, Nat.le_of_ble_eq_true rfl⟩ (fun H locs hPz48 hW hS => ?_)
          refine W.eq (g2 := F0 m 106 ls [.int r50]) rfl ?_
          refine lv_if_ne (tgt := 145) hx hb dX11_isKeyword_106 (by decide) (fun c52 => ?_) (fun c52 => ?_)
          · replace hf := ifT c52 hf
            refine lv_iconst (v := 1) hx hb dX11_isKeyword_145 (by decide) ?_
            refine lv_goto (tgt := 150) hx hb dX11_isKeyword_146 (by decide) ?_
            obtain ⟨e1, e2⟩ := so2 hf
            subst e1
            subst e2
            exact W.zret (v := 1) hx hb hr rfl (fun t ht hWm => ⟨⟨rfl, by unfold QB; rw [ht]; exact ⟨hW, trivial⟩⟩, hS.F ht⟩) hS.2.2 dX11_isKeyword_150 hlk
          · replace hf := ifF (fun q => q c52) hf
            refine lv_aload_n hx hb dX11_isKeyword_109 rfl (lv_at hl 1 rfl) ?_
            refine x_ldcM 11 (tx := "hold") hC hGM ⟨rfl, by decide⟩ dX11_isKeyword_110 ?_
            replace hf := obE hf
            obtain ⟨z53, hz53, hf⟩ := hf
            obtain ⟨r55, S54⟩ := z53
            replace hf := ltE (ltE hf r55 rfl) S54 rfl
            refine x_callV (As := [.ref (gen g (100 + 11))]) (rest := []) (o := (some (.int r55))) (S1 := S54) hC hl.1 hW hS hGs hA tv0 rfl (show vwCl[10]? = some (RX11, TX11, 30) ∧ 10 < 11 from ⟨rfl, by decide⟩) (c_X11_isText l g ad n K H.size F S49 v0 11 tv0 (by decide) r55 S54 hz53) (cwV 1 hts gX11_isKeyword_X11_isText rfl rfl rfl (by decide +kernel) ⟨Nat.le_of_ble_eq_true rfl, Nat.le_of_ble_eq_true rfl⟩) rfl rfl (Nat.le_of_ble_eq_true rfl) dX11_isKeyword_112 ⟨Nat.le_of_ble_eq_true rfl, Nat.le_of_ble_eq_true rfl⟩ (fun H locs hPz53 hW hS => ?_)
            refine W.eq (g2 := F0 m 115 ls [.int r55]) rfl ?_
            refine lv_if_ne (tgt := 145) hx hb dX11_isKeyword_115 (by decide) (fun c57 => ?_) (fun c57 => ?_)
            · replace hf := ifT c57 hf
              refine lv_iconst (v := 1) hx hb dX11_isKeyword_145 (by decide) ?_
              refine lv_goto (tgt := 150) hx hb dX11_isKeyword_146 (by decide) ?_
              obtain ⟨e1, e2⟩ := so2 hf
              subst e1
              subst e2
              exact W.zret (v := 1) hx hb hr rfl (fun t ht hWm => ⟨⟨rfl, by unfold QB; rw [ht]; exact ⟨hW, trivial⟩⟩, hS.F ht⟩) hS.2.2 dX11_isKeyword_150 hlk
            · replace hf := ifF (fun q => q c57) hf
              refine lv_aload_n hx hb dX11_isKeyword_118 rfl (lv_at hl 1 rfl) ?_
              refine x_ldcM 12 (tx := "from") hC hGM ⟨rfl, by decide⟩ dX11_isKeyword_119 ?_
              replace hf := obE hf
              obtain ⟨z58, hz58, hf⟩ := hf
              obtain ⟨r60, S59⟩ := z58
              replace hf := ltE (ltE hf r60 rfl) S59 rfl
              refine x_callV (As := [.ref (gen g (100 + 12))]) (rest := []) (o := (some (.int r60))) (S1 := S59) hC hl.1 hW hS hGs hA tv0 rfl (show vwCl[10]? = some (RX11, TX11, 30) ∧ 10 < 11 from ⟨rfl, by decide⟩) (c_X11_isText l g ad n K H.size F S54 v0 12 tv0 (by decide) r60 S59 hz58) (cwV 1 hts gX11_isKeyword_X11_isText rfl rfl rfl (by decide +kernel) ⟨Nat.le_of_ble_eq_true rfl, Nat.le_of_ble_eq_true rfl⟩) rfl rfl (Nat.le_of_ble_eq_true rfl) dX11_isKeyword_121 ⟨Nat.le_of_ble_eq_true rfl, Nat.le_of_ble_eq_true rfl⟩ (fun H locs hPz58 hW hS => ?_)
              refine W.eq (g2 := F0 m 124 ls [.int r60]) rfl ?_
              refine lv_if_ne (tgt := 145) hx hb dX11_isKeyword_124 (by decide) (fun c62 => ?_) (fun c62 => ?_)
              · replace hf := ifT c62 hf
                refine lv_iconst (v := 1) hx hb dX11_isKeyword_145 (by decide) ?_
                refine lv_goto (tgt := 150) hx hb dX11_isKeyword_146 (by decide) ?_
                obtain ⟨e1, e2⟩ := so2 hf
                subst e1
                subst e2
                exact W.zret (v := 1) hx hb hr rfl (fun t ht hWm => ⟨⟨rfl, by unfold QB; rw [ht]; exact ⟨hW, trivial⟩⟩, hS.F ht⟩) hS.2.2 dX11_isKeyword_150 hlk
              · replace hf := ifF (fun q => q c62) hf
                refine lv_aload_n hx hb dX11_isKeyword_127 rfl (lv_at hl 1 rfl) ?_
                refine x_ldcM 13 (tx := "to") hC hGM ⟨rfl, by decide⟩ dX11_isKeyword_128 ?_
                replace hf := obE hf
                obtain ⟨z63, hz63, hf⟩ := hf
                obtain ⟨r65, S64⟩ := z63
                replace hf := ltE (ltE hf r65 rfl) S64 rfl
                refine x_callV (As := [.ref (gen g (100 + 13))]) (rest := []) (o := (some (.int r65))) (S1 := S64) hC hl.1 hW hS hGs hA tv0 rfl (show vwCl[10]? = some (RX11, TX11, 30) ∧ 10 < 11 from ⟨rfl, by decide⟩) (c_X11_isText l g ad n K H.size F S59 v0 13 tv0 (by decide) r65 S64 hz63) (cwV 1 hts gX11_isKeyword_X11_isText rfl rfl rfl (by decide +kernel) ⟨Nat.le_of_ble_eq_true rfl, Nat.le_of_ble_eq_true rfl⟩) rfl rfl (Nat.le_of_ble_eq_true rfl) dX11_isKeyword_130 ⟨Nat.le_of_ble_eq_true rfl, Nat.le_of_ble_eq_true rfl⟩ (fun H locs hPz63 hW hS => ?_)
                refine W.eq (g2 := F0 m 133 ls [.int r65]) rfl ?_
                refine lv_if_ne (tgt := 145) hx hb dX11_isKeyword_133 (by decide) (fun c67 => ?_) (fun c67 => ?_)
                · replace hf := ifT c67 hf
                  refine lv_iconst (v := 1) hx hb dX11_isKeyword_145 (by decide) ?_
                  refine lv_goto (tgt := 150) hx hb dX11_isKeyword_146 (by decide) ?_
                  obtain ⟨e1, e2⟩ := so2 hf
                  subst e1
                  subst e2
                  exact W.zret (v := 1) hx hb hr rfl (fun t ht hWm => ⟨⟨rfl, by unfold QB; rw [ht]; exact ⟨hW, trivial⟩⟩, hS.F ht⟩) hS.2.2 dX11_isKeyword_150 hlk
                · replace hf := ifF (fun q => q c67) hf
                  refine lv_aload_n hx hb dX11_isKeyword_136 rfl (lv_at hl 1 rfl) ?_
                  refine x_ldcM 14 (tx := "word") hC hGM ⟨rfl, by decide⟩ dX11_isKeyword_137 ?_
                  replace hf := obE hf
                  obtain ⟨z68, hz68, hf⟩ := hf
                  obtain ⟨r70, S69⟩ := z68
                  replace hf := ltE (ltE hf r70 rfl) S69 rfl
                  refine x_callV (As := [.ref (gen g (100 + 14))]) (rest := []) (o := (some (.int r70))) (S1 := S69) hC hl.1 hW hS hGs hA tv0 rfl (show vwCl[10]? = some (RX11, TX11, 30) ∧ 10 < 11 from ⟨rfl, by decide⟩) (c_X11_isText l g ad n K H.size F S64 v0 14 tv0 (by decide) r70 S69 hz68) (cwV 1 hts gX11_isKeyword_X11_isText rfl rfl rfl (by decide +kernel) ⟨Nat.le_of_ble_eq_true rfl, Nat.le_of_ble_eq_true rfl⟩) rfl rfl (Nat.le_of_ble_eq_true rfl) dX11_isKeyword_139 ⟨Nat.le_of_ble_eq_true rfl, Nat.le_of_ble_eq_true rfl⟩ (fun H locs hPz68 hW hS => ?_)
                  refine W.eq (g2 := F0 m 142 ls [.int r70]) rfl ?_
                  refine lv_if_eq (tgt := 149) hx hb dX11_isKeyword_142 (by decide) (fun c72 => ?_) (fun c72 => ?_)
                  · replace hf := ifT c72 hf
                    refine lv_iconst (v := 0) hx hb dX11_isKeyword_149 (by decide) ?_
                    obtain ⟨e1, e2⟩ := so2 hf
                    subst e1
                    subst e2
                    exact W.zret (v := 0) hx hb hr rfl (fun t ht hWm => ⟨⟨rfl, by unfold QB; rw [ht]; exact ⟨hW, trivial⟩⟩, hS.F ht⟩) hS.2.2 dX11_isKeyword_150 hlk
                  · replace hf := ifF c72 hf
                    refine lv_iconst (v := 1) hx hb dX11_isKeyword_145 (by decide) ?_
                    refine lv_goto (tgt := 150) hx hb dX11_isKeyword_146 (by decide) ?_
                    obtain ⟨e1, e2⟩ := so2 hf
                    subst e1
                    subst e2
                    exact W.zret (v := 1) hx hb hr rfl (fun t ht hWm => ⟨⟨rfl, by unfold QB; rw [ht]; exact ⟨hW, trivial⟩⟩, hS.F ht⟩) hS.2.2 dX11_isKeyword_150 hlk
  have L72 : ∀ (S0 : St) (v0 : Nat) (tv0 : v0 < n ∧ K v0 = 10) (H : Heap) (locs : List Loc) (ls : Array Slot), f_X11_isKeyword_L72 F S0 v0 = some (r9, S9) → Wb g ad n K S0 (dA ad n s.heap.size) H → va_S (dA ad n s.heap.size) s.heap H locs → lv_has ls 2 [(0, .ref (ad v0))] → W p l e (headSpec wsX11_isKeyword { frames := 6, cells := 0, slots := 0, locals := 129 }).room s m (List.toArray [.ref (ad p0)]) below meth c H locs 0 0 (MQ below (QR (some (.int r9)) (QB g ad n K S9 (dA ad n s.heap.size) (True)) (dA ad n s.heap.size)) (List.toArray [.ref (ad p0)]) s 0 0 (dA ad n s.heap.size)) (F0 m 72 ls []) := by
    intro S0 v0 tv0 H locs ls hf hW hS hl
    unfold f_X11_isKeyword_L72 at hf
    refine lv_iconst (v := 1) hx hb dX11_isKeyword_72 (by decide) ?_
    refine lv_goto (tgt := 77) hx hb dX11_isKeyword_73 (by decide) ?_
    exact L77 S0 v0 1 tv0 _ _ _ hf hW hS (lv_sub hl [0] rfl)
  unfold f_X11_isKeyword at hf
  refine lv_aload_n hx hb dX11_isKeyword_0 rfl (lv_at hl 0 rfl) ?_
  refine x_ldcM 0 (tx := "spool") hC hGM ⟨rfl, by decide⟩ dX11_isKeyword_1 ?_
  replace hf := obE hf
  obtain ⟨z73, hz73, hf⟩ := hf
  obtain ⟨r75, S74⟩ := z73
  replace hf := ltE (ltE hf r75 rfl) S74 rfl
  refine x_callV (As := [.ref (gen g (100 + 0))]) (rest := []) (o := (some (.int r75))) (S1 := S74) hC hl.1 hW hS hGs hA tp0 rfl (show vwCl[10]? = some (RX11, TX11, 30) ∧ 10 < 11 from ⟨rfl, by decide⟩) (c_X11_isText l g ad n K s.heap.size F S0 p0 0 tp0 (by decide) r75 S74 hz73) (cwV 1 hts gX11_isKeyword_X11_isText rfl rfl rfl (by decide +kernel) ⟨Nat.le_of_ble_eq_true rfl, Nat.le_of_ble_eq_true rfl⟩) rfl rfl (Nat.le_of_ble_eq_true rfl) dX11_isKeyword_3 ⟨Nat.le_of_ble_eq_true rfl, Nat.le_of_ble_eq_true rfl⟩ (fun H locs hPz73 hW hS => ?_)
  refine W.eq (g2 := F0 m 6 ls [.int r75]) rfl ?_
  refine lv_if_ne (tgt := 72) hx hb dX11_isKeyword_6 (by decide) (fun c77 => ?_) (fun c77 => ?_)
  · replace hf := ifT c77 hf
    exact L72 S74 p0 tp0 _ _ _ hf hW hS (lv_sub hl [0] rfl)
  · replace hf := ifF (fun q => q c77) hf
    refine lv_aload_n hx hb dX11_isKeyword_9 rfl (lv_at hl 0 rfl) ?_
    refine x_ldcM 1 (tx := "grace") hC hGM ⟨rfl, by decide⟩ dX11_isKeyword_10 ?_
    replace hf := obE hf
    obtain ⟨z78, hz78, hf⟩ := hf
    obtain ⟨r80, S79⟩ := z78
    replace hf := ltE (ltE hf r80 rfl) S79 rfl
    refine x_callV (As := [.ref (gen g (100 + 1))]) (rest := []) (o := (some (.int r80))) (S1 := S79) hC hl.1 hW hS hGs hA tp0 rfl (show vwCl[10]? = some (RX11, TX11, 30) ∧ 10 < 11 from ⟨rfl, by decide⟩) (c_X11_isText l g ad n K H.size F S74 p0 1 tp0 (by decide) r80 S79 hz78) (cwV 1 hts gX11_isKeyword_X11_isText rfl rfl rfl (by decide +kernel) ⟨Nat.le_of_ble_eq_true rfl, Nat.le_of_ble_eq_true rfl⟩) rfl rfl (Nat.le_of_ble_eq_true rfl) dX11_isKeyword_12 ⟨Nat.le_of_ble_eq_true rfl, Nat.le_of_ble_eq_true rfl⟩ (fun H locs hPz78 hW hS => ?_)
    refine W.eq (g2 := F0 m 15 ls [.int r80]) rfl ?_
    refine lv_if_ne (tgt := 72) hx hb dX11_isKeyword_15 (by decide) (fun c82 => ?_) (fun c82 => ?_)
    · replace hf := ifT c82 hf
      exact L72 S79 p0 tp0 _ _ _ hf hW hS (lv_sub hl [0] rfl)
    · replace hf := ifF (fun q => q c82) hf
      refine lv_aload_n hx hb dX11_isKeyword_18 rfl (lv_at hl 0 rfl) ?_
      refine x_ldcM 2 (tx := "round") hC hGM ⟨rfl, by decide⟩ dX11_isKeyword_19 ?_
      replace hf := obE hf
      obtain ⟨z83, hz83, hf⟩ := hf
      obtain ⟨r85, S84⟩ := z83
      replace hf := ltE (ltE hf r85 rfl) S84 rfl
      refine x_callV (As := [.ref (gen g (100 + 2))]) (rest := []) (o := (some (.int r85))) (S1 := S84) hC hl.1 hW hS hGs hA tp0 rfl (show vwCl[10]? = some (RX11, TX11, 30) ∧ 10 < 11 from ⟨rfl, by decide⟩) (c_X11_isText l g ad n K H.size F S79 p0 2 tp0 (by decide) r85 S84 hz83) (cwV 1 hts gX11_isKeyword_X11_isText rfl rfl rfl (by decide +kernel) ⟨Nat.le_of_ble_eq_true rfl, Nat.le_of_ble_eq_true rfl⟩) rfl rfl (Nat.le_of_ble_eq_true rfl) dX11_isKeyword_21 ⟨Nat.le_of_ble_eq_true rfl, Nat.le_of_ble_eq_true rfl⟩ (fun H locs hPz83 hW hS => ?_)
      refine W.eq (g2 := F0 m 24 ls [.int r85]) rfl ?_
      refine lv_if_ne (tgt := 72) hx hb dX11_isKeyword_24 (by decide) (fun c87 => ?_) (fun c87 => ?_)
      · replace hf := ifT c87 hf
        exact L72 S84 p0 tp0 _ _ _ hf hW hS (lv_sub hl [0] rfl)
      · replace hf := ifF (fun q => q c87) hf
        refine lv_aload_n hx hb dX11_isKeyword_27 rfl (lv_at hl 0 rfl) ?_
        refine x_ldcM 3 (tx := "class") hC hGM ⟨rfl, by decide⟩ dX11_isKeyword_28 ?_
        replace hf := obE hf
        obtain ⟨z88, hz88, hf⟩ := hf
        obtain ⟨r90, S89⟩ := z88
        replace hf := ltE (ltE hf r90 rfl) S89 rfl
        refine x_callV (As := [.ref (gen g (100 + 3))]) (rest := []) (o := (some (.int r90))) (S1 := S89) hC hl.1 hW hS hGs hA tp0 rfl (show vwCl[10]? = some (RX11, TX11, 30) ∧ 10 < 11 from ⟨rfl, by decide⟩) (c_X11_isText l g ad n K H.size F S84 p0 3 tp0 (by decide) r90 S89 hz88) (cwV 1 hts gX11_isKeyword_X11_isText rfl rfl rfl (by decide +kernel) ⟨Nat.le_of_ble_eq_true rfl, Nat.le_of_ble_eq_true rfl⟩) rfl rfl (Nat.le_of_ble_eq_true rfl) dX11_isKeyword_30 ⟨Nat.le_of_ble_eq_true rfl, Nat.le_of_ble_eq_true rfl⟩ (fun H locs hPz88 hW hS => ?_)
        refine W.eq (g2 := F0 m 33 ls [.int r90]) rfl ?_
        refine lv_if_ne (tgt := 72) hx hb dX11_isKeyword_33 (by decide) (fun c92 => ?_) (fun c92 => ?_)
        · replace hf := ifT c92 hf
          exact L72 S89 p0 tp0 _ _ _ hf hW hS (lv_sub hl [0] rfl)
        · replace hf := ifF (fun q => q c92) hf
          refine lv_aload_n hx hb dX11_isKeyword_36 rfl (lv_at hl 0 rfl) ?_
          refine x_ldcM 4 (tx := "days") hC hGM ⟨rfl, by decide⟩ dX11_isKeyword_37 ?_
          replace hf := obE hf
          obtain ⟨z93, hz93, hf⟩ := hf
          obtain ⟨r95, S94⟩ := z93
          replace hf := ltE (ltE hf r95 rfl) S94 rfl
          refine x_callV (As := [.ref (gen g (100 + 4))]) (rest := []) (o := (some (.int r95))) (S1 := S94) hC hl.1 hW hS hGs hA tp0 rfl (show vwCl[10]? = some (RX11, TX11, 30) ∧ 10 < 11 from ⟨rfl, by decide⟩) (c_X11_isText l g ad n K H.size F S89 p0 4 tp0 (by decide) r95 S94 hz93) (cwV 1 hts gX11_isKeyword_X11_isText rfl rfl rfl (by decide +kernel) ⟨Nat.le_of_ble_eq_true rfl, Nat.le_of_ble_eq_true rfl⟩) rfl rfl (Nat.le_of_ble_eq_true rfl) dX11_isKeyword_39 ⟨Nat.le_of_ble_eq_true rfl, Nat.le_of_ble_eq_true rfl⟩ (fun H locs hPz93 hW hS => ?_)
          refine W.eq (g2 := F0 m 42 ls [.int r95]) rfl ?_
          refine lv_if_ne (tgt := 72) hx hb dX11_isKeyword_42 (by decide) (fun c97 => ?_) (fun c97 => ?_)
          · replace hf := ifT c97 hf
            exact L72 S94 p0 tp0 _ _ _ hf hW hS (lv_sub hl [0] rfl)
          · replace hf := ifF (fun q => q c97) hf
            refine lv_aload_n hx hb dX11_isKeyword_45 rfl (lv_at hl 0 rfl) ?_
            refine x_ldcM 5 (tx := "forever") hC hGM ⟨rfl, by decide⟩ dX11_isKeyword_46 ?_
            replace hf := obE hf
            obtain ⟨z98, hz98, hf⟩ := hf
            obtain ⟨r100, S99⟩ := z98
            replace hf := ltE (ltE hf r100 rfl) S99 rfl
            refine x_callV (As := [.ref (gen g (100 + 5))]) (rest := []) (o := (some (.int r100))) (S1 := S99) hC hl.1 hW hS hGs hA tp0 rfl (show vwCl[10]? = some (RX11, TX11, 30) ∧ 10 < 11 from ⟨rfl, by decide⟩) (c_X11_isText l g ad n K H.size F S94 p0 5 tp0 (by decide) r100 S99 hz98) (cwV 1 hts gX11_isKeyword_X11_isText rfl rfl rfl (by decide +kernel) ⟨Nat.le_of_ble_eq_true rfl, Nat.le_of_ble_eq_true rfl⟩) rfl rfl (Nat.le_of_ble_eq_true rfl) dX11_isKeyword_48 ⟨Nat.le_of_ble_eq_true rfl, Nat.le_of_ble_eq_true rfl⟩ (fun H locs hPz98 hW hS => ?_)
            refine W.eq (g2 := F0 m 51 ls [.int r100]) rfl ?_
            refine lv_if_ne (tgt := 72) hx hb dX11_isKeyword_51 (by decide) (fun c102 => ?_) (fun c102 => ?_)
            · replace hf := ifT c102 hf
              exact L72 S99 p0 tp0 _ _ _ hf hW hS (lv_sub hl [0] rfl)
            · replace hf := ifF (fun q => q c102) hf
              refine lv_aload_n hx hb dX11_isKeyword_54 rfl (lv_at hl 0 rfl) ?_
              refine x_ldcM 6 (tx := "keep") hC hGM ⟨rfl, by decide⟩ dX11_isKeyword_55 ?_
              replace hf := obE hf
              obtain ⟨z103, hz103, hf⟩ := hf
              obtain ⟨r105, S104⟩ := z103
              replace hf := ltE (ltE hf r105 rfl) S104 rfl
              refine x_callV (As := [.ref (gen g (100 + 6))]) (rest := []) (o := (some (.int r105))) (S1 := S104) hC hl.1 hW hS hGs hA tp0 rfl (show vwCl[10]? = some (RX11, TX11, 30) ∧ 10 < 11 from ⟨rfl, by decide⟩) (c_X11_isText l g ad n K H.size F S99 p0 6 tp0 (by decide) r105 S104 hz103) (cwV 1 hts gX11_isKeyword_X11_isText rfl rfl rfl (by decide +kernel) ⟨Nat.le_of_ble_eq_true rfl, Nat.le_of_ble_eq_true rfl⟩) rfl rfl (Nat.le_of_ble_eq_true rfl) dX11_isKeyword_57 ⟨Nat.le_of_ble_eq_true rfl, Nat.le_of_ble_eq_true rfl⟩ (fun H locs hPz103 hW hS => ?_)
              refine W.eq (g2 := F0 m 60 ls [.int r105]) rfl ?_
              refine lv_if_ne (tgt := 72) hx hb dX11_isKeyword_60 (by decide) (fun c107 => ?_) (fun c107 => ?_)
              · replace hf := ifT c107 hf
                exact L72 S104 p0 tp0 _ _ _ hf hW hS (lv_sub hl [0] rfl)
              · replace hf := ifF (fun q => q c107) hf
                refine lv_aload_n hx hb dX11_isKeyword_63 rfl (lv_at hl 0 rfl) ?_
                refine x_ldcM 7 (tx := "then") hC hGM ⟨rfl, by decide⟩ dX11_isKeyword_64 ?_
                replace hf := obE hf
                obtain ⟨z108, hz108, hf⟩ := hf
                obtain ⟨r110, S109⟩ := z108
                replace hf := ltE (ltE hf r110 rfl) S109 rfl
                refine x_callV (As := [.ref (gen g (100 + 7))]) (rest := []) (o := (some (.int r110))) (S1 := S109) hC hl.1 hW hS hGs hA tp0 rfl (show vwCl[10]? = some (RX11, TX11, 30) ∧ 10 < 11 from ⟨rfl, by decide⟩) (c_X11_isText l g ad n K H.size F S104 p0 7 tp0 (by decide) r110 S109 hz108) (cwV 1 hts gX11_isKeyword_X11_isText rfl rfl rfl (by decide +kernel) ⟨Nat.le_of_ble_eq_true rfl, Nat.le_of_ble_eq_true rfl⟩) rfl rfl (Nat.le_of_ble_eq_true rfl) dX11_isKeyword_66 ⟨Nat.le_of_ble_eq_true rfl, Nat.le_of_ble_eq_true rfl⟩ (fun H locs hPz108 hW hS => ?_)
                refine W.eq (g2 := F0 m 69 ls [.int r110]) rfl ?_
                refine lv_if_eq (tgt := 76) hx hb dX11_isKeyword_69 (by decide) (fun c112 => ?_) (fun c112 => ?_)
                · replace hf := ifT c112 hf
                  refine lv_iconst (v := 0) hx hb dX11_isKeyword_76 (by decide) ?_
                  exact L77 S109 p0 0 tp0 _ _ _ hf hW hS (lv_sub hl [0] rfl)
                · replace hf := ifF c112 hf
                  exact L72 S109 p0 tp0 _ _ _ hf hW hS (lv_sub hl [0] rfl)
