set_option maxHeartbeats 4000000 in
set_option maxRecDepth 100000 in
theorem c_X11_bounced (l : Launch) (g : GP) (ad : Nat → Nat) (n : Nat) (K : Nat → Nat) (sz F : Nat) (S0 : St) (p0 : Nat) (tp0 : p0 < n ∧ K p0 = 10) (r9 : Int32) (S9 : St) (hf : f_X11_bounced F S0 p0 = some (r9, S9)) : Met l yX11_bounced wsX11_bounced { frames := 0, cells := 0, slots := 0, locals := 0 } (va_Pc [.ref (ad p0)] (PB g ad n K S0 sz)) (QR (some (.int r9)) (QB g ad n K S9 (dA ad n sz) (True)) (dA ad n sz)) 0 0 (dA ad n sz) := by
  refine Met.ofW (cc := cX11_bounced) (maxL := 1) (ret := (some .int)) (by decide) rfl ?_
  intro p e s m args below meth c s₁ B hml hv
  obtain ⟨rfl, hsz, hW, hK, hGs⟩ := x_start hv
  subst hsz
  have hx := B.exec
  have hb := B.bytes
  have hr := B.returns
  have hts := atoms_spec (ws := wsX11_bounced) B.pre
  have hown : s.vm.findClass RX11 = some m.cls := findClass_of_methodNamed B.named
  have hlk := B.notSynchronized
  have hC : Cx g p s m _ c cX11_bounced RX11 wsX11_bounced 1 := ⟨hx, hb, hml, hown, hts, hK⟩
  have hA : ∀ q : Nat, s.heap.size ≤ q → dA ad n s.heap.size q := fun q h => Or.inr h
  have hS : va_S (dA ad n s.heap.size) s.heap s.heap [] := va_S.rf
  have hl := lv_entry ([.ref (ad p0)]) (n := 1) (Nat.le_of_ble_eq_true rfl)
  rw [lg_entry_eq]
  generalize (lg_sl ([.ref (ad p0)]) ++ List.replicate (1 - (lg_sl ([.ref (ad p0)])).length) Slot.unset).toArray = ls at hl ⊢
  have hl : lv_has ls 1 [(0, .ref (ad p0))] := hl
  have hin11 : ∀ w ∈ wsX110, w ∈ wsX11_bounced := by decide +kernel
  have w_0 := hts (.fieldLink RX11 3 "MailSpoolModel" "thrown" "I") (by decide +kernel)
  have w_1 := hts (.fieldLink RX11 17 "MailSpoolModel" "net" "[I") (by decide +kernel)
  have hGE := hGs.2.2.2.2.2.2.1
  have hGM := hGs.2.2.2.2.2.2.2.1
  unfold f_X11_bounced at hf
  refine lv_aload_n hx hb dX11_bounced_0 rfl (lv_at hl 0 rfl) ?_
  refine lv_iconst (v := 0) hx hb dX11_bounced_1 (by decide) ?_
  refine x_puti 1000 (ci := 10) (C := RX11) (T := TX11) (N := 30) (v := 0) (ty := .int) 0 hC hin11 tyX11_ok nmX11 hW hS tp0 rfl rfl ⟨by decide, by decide, rfl, rfl⟩ rfl w_0 rfl (by decide +kernel) rfl rfl dX11_bounced_2 (fun S1 H locs eS1 hW hS => ?_)
  replace hf := ltE hf S1 eS1
  refine lv_aload_n hx hb dX11_bounced_5 rfl (lv_at hl 0 rfl) ?_
  replace hf := obE hf
  obtain ⟨j2, qj2, hf⟩ := hf
  have tj2 := x_rt hW qj2 12 ⟨by decide, rfl⟩
  refine x_getr 1001 (ci := 10) (C := RX11) (T := TX11) (N := 30) 1 hC hin11 hW tp0 rfl rfl ⟨by decide, by decide, rfl, rfl⟩ rfl w_1 dX11_bounced_6 qj2 ?_
  refine lv_bipush (v := 10) hx hb dX11_bounced_9 (by decide) ?_
  replace hf := ckiE hf
  obtain ⟨h3, hf⟩ := hf
  refine x_iald hC hW tj2 rfl rfl h3 dX11_bounced_11 ?_
  obtain ⟨e1, e2⟩ := so2 hf
  subst e1
  subst e2
  exact W.iret (v := ai S1 j2 (Int32.toNatClampNeg 10)) hx hb hr (fun t ht hWm => ⟨⟨rfl, by unfold QB; rw [ht]; exact ⟨hW, trivial⟩⟩, hS.F ht⟩) hS.2.2 dX11_bounced_12 hlk
set_option maxHeartbeats 4000000 in
set_option maxRecDepth 100000 in
theorem c_X11_messageCount (l : Launch) (g : GP) (ad : Nat → Nat) (n : Nat) (K : Nat → Nat) (sz F : Nat) (S0 : St) (p0 : Nat) (tp0 : p0 < n ∧ K p0 = 10) (r9 : Int32) (S9 : St) (hf : f_X11_messageCount F S0 p0 = some (r9, S9)) : Met l yX11_messageCount wsX11_messageCount { frames := 0, cells := 0, slots := 0, locals := 0 } (va_Pc [.ref (ad p0)] (PB g ad n K S0 sz)) (QR (some (.int r9)) (QB g ad n K S9 (dA ad n sz) (True)) (dA ad n sz)) 0 0 (dA ad n sz) := by
  refine Met.ofW (cc := cX11_messageCount) (maxL := 1) (ret := (some .int)) (by decide) rfl ?_
  intro p e s m args below meth c s₁ B hml hv
  obtain ⟨rfl, hsz, hW, hK, hGs⟩ := x_start hv
  subst hsz
  have hx := B.exec
  have hb := B.bytes
  have hr := B.returns
  have hts := atoms_spec (ws := wsX11_messageCount) B.pre
  have hown : s.vm.findClass RX11 = some m.cls := findClass_of_methodNamed B.named
  have hlk := B.notSynchronized
  have hC : Cx g p s m _ c cX11_messageCount RX11 wsX11_messageCount 1 := ⟨hx, hb, hml, hown, hts, hK⟩
  have hA : ∀ q : Nat, s.heap.size ≤ q → dA ad n s.heap.size q := fun q h => Or.inr h
  have hS : va_S (dA ad n s.heap.size) s.heap s.heap [] := va_S.rf
  have hl := lv_entry ([.ref (ad p0)]) (n := 1) (Nat.le_of_ble_eq_true rfl)
  rw [lg_entry_eq]
  generalize (lg_sl ([.ref (ad p0)]) ++ List.replicate (1 - (lg_sl ([.ref (ad p0)])).length) Slot.unset).toArray = ls at hl ⊢
  have hl : lv_has ls 1 [(0, .ref (ad p0))] := hl
  have hin11 : ∀ w ∈ wsX110, w ∈ wsX11_messageCount := by decide +kernel
  have w_0 := hts (.fieldLink RX11 3 "MailSpoolModel" "thrown" "I") (by decide +kernel)
  have w_1 := hts (.fieldLink RX11 17 "MailSpoolModel" "net" "[I") (by decide +kernel)
  have hGE := hGs.2.2.2.2.2.2.1
  have hGM := hGs.2.2.2.2.2.2.2.1
  unfold f_X11_messageCount at hf
  refine lv_aload_n hx hb dX11_messageCount_0 rfl (lv_at hl 0 rfl) ?_
  refine lv_iconst (v := 0) hx hb dX11_messageCount_1 (by decide) ?_
  refine x_puti 1000 (ci := 10) (C := RX11) (T := TX11) (N := 30) (v := 0) (ty := .int) 0 hC hin11 tyX11_ok nmX11 hW hS tp0 rfl rfl ⟨by decide, by decide, rfl, rfl⟩ rfl w_0 rfl (by decide +kernel) rfl rfl dX11_messageCount_2 (fun S1 H locs eS1 hW hS => ?_)
  replace hf := ltE hf S1 eS1
  refine lv_aload_n hx hb dX11_messageCount_5 rfl (lv_at hl 0 rfl) ?_
  replace hf := obE hf
  obtain ⟨j2, qj2, hf⟩ := hf
  have tj2 := x_rt hW qj2 12 ⟨by decide, rfl⟩
  refine x_getr 1001 (ci := 10) (C := RX11) (T := TX11) (N := 30) 1 hC hin11 hW tp0 rfl rfl ⟨by decide, by decide, rfl, rfl⟩ rfl w_1 dX11_messageCount_6 qj2 ?_
  refine lv_bipush (v := 7) hx hb dX11_messageCount_9 (by decide) ?_
  replace hf := ckiE hf
  obtain ⟨h3, hf⟩ := hf
  refine x_iald hC hW tj2 rfl rfl h3 dX11_messageCount_11 ?_
  obtain ⟨e1, e2⟩ := so2 hf
  subst e1
  subst e2
  exact W.iret (v := ai S1 j2 (Int32.toNatClampNeg 7)) hx hb hr (fun t ht hWm => ⟨⟨rfl, by unfold QB; rw [ht]; exact ⟨hW, trivial⟩⟩, hS.F ht⟩) hS.2.2 dX11_messageCount_12 hlk
set_option maxHeartbeats 4000000 in
set_option maxRecDepth 100000 in
theorem c_X11_message (l : Launch) (g : GP) (ad : Nat → Nat) (n : Nat) (K : Nat → Nat) (sz F : Nat) (S0 : St) (p0 : Nat) (p1 : Int32) (p2 : Int32) (tp0 : p0 < n ∧ K p0 = 10) (r9 : Int32) (S9 : St) (hf : f_X11_message F S0 p0 p1 p2 = some (r9, S9)) : Met l yX11_message wsX11_message { frames := 3, cells := 0, slots := 0, locals := 66 } (va_Pc [.ref (ad p0), .int p1, .int p2] (PB g ad n K S0 sz)) (QR (some (.int r9)) (QB g ad n K S9 (dA ad n sz) (True)) (dA ad n sz)) 0 0 (dA ad n sz) := by
  refine Met.ofW (cc := cX11_message) (maxL := 3) (ret := (some .int)) (by decide) rfl ?_
  intro p e s m args below meth c s₁ B hml hv
  obtain ⟨rfl, hsz, hW, hK, hGs⟩ := x_start hv
  subst hsz
  have hx := B.exec
  have hb := B.bytes
  have hr := B.returns
  have hts := atoms_spec (ws := wsX11_message) B.pre
  have hown : s.vm.findClass RX11 = some m.cls := findClass_of_methodNamed B.named
  have hlk := B.notSynchronized
  have hC : Cx g p s m _ c cX11_message RX11 wsX11_message 3 := ⟨hx, hb, hml, hown, hts, hK⟩
  have hA : ∀ q : Nat, s.heap.size ≤ q → dA ad n s.heap.size q := fun q h => Or.inr h
  have hS : va_S (dA ad n s.heap.size) s.heap s.heap [] := va_S.rf
  have hl := lv_entry ([.ref (ad p0), .int p1, .int p2]) (n := 3) (Nat.le_of_ble_eq_true rfl)
  rw [lg_entry_eq]
  generalize (lg_sl ([.ref (ad p0), .int p1, .int p2]) ++ List.replicate (3 - (lg_sl ([.ref (ad p0), .int p1, .int p2])).length) Slot.unset).toArray = ls at hl ⊢
  have hl : lv_has ls 3 [(0, .ref (ad p0)), (1, .int p1), (2, .int p2)] := hl
  have w_0 := hts (.constantLong RX11 385 (4)) (by decide +kernel)
  have hGE := hGs.2.2.2.2.2.2.1
  have hGM := hGs.2.2.2.2.2.2.2.1
  unfold f_X11_message at hf
  refine lv_aload_n hx hb dX11_message_0 rfl (lv_at hl 0 rfl) ?_
  refine lv_aload_n hx hb dX11_message_1 rfl (lv_at hl 0 rfl) ?_
  refine lv_iload_n hx hb dX11_message_2 rfl (lv_at hl 1 rfl) ?_
  replace hf := obE hf
  obtain ⟨z1, hz1, hf⟩ := hf
  obtain ⟨r3, S2⟩ := z1
  replace hf := ltE (ltE hf r3 rfl) S2 rfl
  refine x_callV (As := [.int p1]) (rest := [.ref (ad p0)]) (o := (some (.int r3))) (S1 := S2) hC hl.1 hW hS hGs hA tp0 rfl (show vwCl[10]? = some (RX11, TX11, 30) ∧ 10 < 11 from ⟨rfl, by decide⟩) (c_X11_isMessage l g ad n K s.heap.size F S0 p0 p1 tp0 r3 S2 hz1) (cwV 1 hts gX11_message_X11_isMessage rfl rfl rfl (by decide +kernel) ⟨Nat.le_of_ble_eq_true rfl, Nat.le_of_ble_eq_true rfl⟩) rfl rfl (Nat.le_of_ble_eq_true rfl) dX11_message_3 ⟨Nat.le_of_ble_eq_true rfl, Nat.le_of_ble_eq_true rfl⟩ (fun H locs hPz1 hW hS => ?_)
  refine W.eq (g2 := F0 m 6 ls [.int r3, .ref (ad p0)]) rfl ?_
  refine lv_iload_n hx hb dX11_message_6 rfl (lv_at hl 2 rfl) ?_
  refine lv_i2l (v := p2.toInt64) hx hb dX11_message_7 rfl ?_
  refine lv_lconst (v := 0) hx hb dX11_message_8 (by decide) ?_
  refine lv_ldc2 (v := (4)) hx hb hown w_0 dX11_message_9 ?_
  replace hf := obE hf
  obtain ⟨z5, hz5, hf⟩ := hf
  obtain ⟨r7, S6⟩ := z5
  replace hf := ltE (ltE hf r7 rfl) S6 rfl
  refine x_callS (As := [.long (p2.toInt64), .long (0), .long ((4))]) (rest := [.int r3, .ref (ad p0)]) (o := (some (.int r7))) (S1 := S6) hC hl.1 hW hS hGs hA (c_X11_in l g ad n K H.size F S2 p2.toInt64 ((0 : Int64)) (((4) : Int64)) r7 S6 hz5) (va_cwS 3 hts gX11_message_X11_in rfl rfl rfl (by decide +kernel) ⟨Nat.le_of_ble_eq_true rfl, Nat.le_of_ble_eq_true rfl⟩) rfl rfl (Nat.le_of_ble_eq_true rfl) dX11_message_12 ⟨Nat.le_of_ble_eq_true rfl, Nat.le_of_ble_eq_true rfl⟩ (fun H locs hPz5 hW hS => ?_)
  refine W.eq (g2 := F0 m 15 ls [.int r7, .int r3, .ref (ad p0)]) rfl ?_
  replace hf := obE hf
  obtain ⟨z9, hz9, hf⟩ := hf
  obtain ⟨r11, S10⟩ := z9
  replace hf := ltE (ltE hf r11 rfl) S10 rfl
  refine x_callV (As := [.int r3, .int r7]) (rest := []) (o := (some (.int r11))) (S1 := S10) hC hl.1 hW hS hGs hA tp0 rfl (show vwCl[10]? = some (RX11, TX11, 30) ∧ 10 < 11 from ⟨rfl, by decide⟩) (c_X11_passes2 l g ad n K H.size F S6 p0 r3 r7 tp0 r11 S10 hz9) (cwV 2 hts gX11_message_X11_passes2 rfl rfl rfl (by decide +kernel) ⟨Nat.le_of_ble_eq_true rfl, Nat.le_of_ble_eq_true rfl⟩) rfl rfl (Nat.le_of_ble_eq_true rfl) dX11_message_15 ⟨Nat.le_of_ble_eq_true rfl, Nat.le_of_ble_eq_true rfl⟩ (fun H locs hPz9 hW hS => ?_)
  refine W.eq (g2 := F0 m 18 ls [.int r11]) rfl ?_
  refine lv_if_ne (tgt := 23) hx hb dX11_message_18 (by decide) (fun c13 => ?_) (fun c13 => ?_)
  · replace hf := ifT c13 hf
    refine lv_iload_n hx hb dX11_message_23 rfl (lv_at hl 2 rfl) ?_
    refine lv_iconst (v := 3) hx hb dX11_message_24 (by decide) ?_
    refine lv_icmp_ge (tgt := 37) hx hb dX11_message_25 (by decide) (fun c14 => ?_) (fun c14 => ?_)
    · replace hf := ifT c14 hf
      refine lv_iload_n hx hb dX11_message_37 rfl (lv_at hl 2 rfl) ?_
      refine lv_iconst (v := 3) hx hb dX11_message_38 (by decide) ?_
      refine lv_icmp_ne (tgt := 50) hx hb dX11_message_39 (by decide) (fun c15 => ?_) (fun c15 => ?_)
      · replace hf := ifT c15 hf
        refine lv_aload_n hx hb dX11_message_50 rfl (lv_at hl 0 rfl) ?_
        refine lv_iload_n hx hb dX11_message_51 rfl (lv_at hl 1 rfl) ?_
        replace hf := obE hf
        obtain ⟨z16, hz16, hf⟩ := hf
        obtain ⟨r18, S17⟩ := z16
        replace hf := ltE (ltE hf r18 rfl) S17 rfl
        refine x_callV (As := [.int p1]) (rest := []) (o := (some (.int r18))) (S1 := S17) hC hl.1 hW hS hGs hA tp0 rfl (show vwCl[10]? = some (RX11, TX11, 30) ∧ 10 < 11 from ⟨rfl, by decide⟩) (c_X11_isKeptMessage l g ad n K H.size F S10 p0 p1 tp0 r18 S17 hz16) (cwV 1 hts gX11_message_X11_isKeptMessage rfl rfl rfl (by decide +kernel) ⟨Nat.le_of_ble_eq_true rfl, Nat.le_of_ble_eq_true rfl⟩) rfl rfl (Nat.le_of_ble_eq_true rfl) dX11_message_52 ⟨Nat.le_of_ble_eq_true rfl, Nat.le_of_ble_eq_true rfl⟩ (fun H locs hPz16 hW hS => ?_)
        refine W.eq (g2 := F0 m 55 ls [.int r18]) rfl ?_
        refine lv_if_eq (tgt := 62) hx hb dX11_message_55 (by decide) (fun c20 => ?_) (fun c20 => ?_)
        · replace hf := ifT c20 hf
          refine lv_iconst (v := 0) hx hb dX11_message_62 (by decide) ?_
          obtain ⟨e1, e2⟩ := so2 hf
          subst e1
          subst e2
          exact W.iret (v := 0) hx hb hr (fun t ht hWm => ⟨⟨rfl, by unfold QB; rw [ht]; exact ⟨hW, trivial⟩⟩, hS.F ht⟩) hS.2.2 dX11_message_63 hlk
        · replace hf := ifF c20 hf
          refine lv_iconst (v := 1) hx hb dX11_message_58 (by decide) ?_
          refine lv_goto (tgt := 63) hx hb dX11_message_59 (by decide) ?_
          obtain ⟨e1, e2⟩ := so2 hf
          subst e1
          subst e2
          exact W.iret (v := 1) hx hb hr (fun t ht hWm => ⟨⟨rfl, by unfold QB; rw [ht]; exact ⟨hW, trivial⟩⟩, hS.F ht⟩) hS.2.2 dX11_message_63 hlk
      · replace hf := ifF (fun q => q c15) hf
        refine lv_aload_n hx hb dX11_message_42 rfl (lv_at hl 0 rfl) ?_
        refine lv_iload_n hx hb dX11_message_43 rfl (lv_at hl 1 rfl) ?_
        replace hf := obE hf
        obtain ⟨z21, hz21, hf⟩ := hf
        obtain ⟨r23, S22⟩ := z21
        replace hf := ltE (ltE hf r23 rfl) S22 rfl
        refine x_callV (As := [.int p1]) (rest := []) (o := (some (.int r23))) (S1 := S22) hC hl.1 hW hS hGs hA tp0 rfl (show vwCl[10]? = some (RX11, TX11, 30) ∧ 10 < 11 from ⟨rfl, by decide⟩) (c_X11_sizeOf l g ad n K H.size F S10 p0 p1 tp0 r23 S22 hz21) (cwV 1 hts gX11_message_X11_sizeOf rfl rfl rfl (by decide +kernel) ⟨Nat.le_of_ble_eq_true rfl, Nat.le_of_ble_eq_true rfl⟩) rfl rfl (Nat.le_of_ble_eq_true rfl) dX11_message_44 ⟨Nat.le_of_ble_eq_true rfl, Nat.le_of_ble_eq_true rfl⟩ (fun H locs hPz21 hW hS => ?_)
        refine W.eq (g2 := F0 m 47 ls [.int r23]) rfl ?_
        refine lv_goto (tgt := 63) hx hb dX11_message_47 (by decide) ?_
        obtain ⟨e1, e2⟩ := so2 hf
        subst e1
        subst e2
        exact W.iret (v := r23) hx hb hr (fun t ht hWm => ⟨⟨rfl, by unfold QB; rw [ht]; exact ⟨hW, trivial⟩⟩, hS.F ht⟩) hS.2.2 dX11_message_63 hlk
    · replace hf := ifF c14 hf
      refine lv_aload_n hx hb dX11_message_28 rfl (lv_at hl 0 rfl) ?_
      refine lv_iload_n hx hb dX11_message_29 rfl (lv_at hl 1 rfl) ?_
      refine lv_iload_n hx hb dX11_message_30 rfl (lv_at hl 2 rfl) ?_
      replace hf := obE hf
      obtain ⟨z25, hz25, hf⟩ := hf
      obtain ⟨r27, S26⟩ := z25
      replace hf := ltE (ltE hf r27 rfl) S26 rfl
      refine x_callV (As := [.int p1, .int p2]) (rest := []) (o := (some (.int r27))) (S1 := S26) hC hl.1 hW hS hGs hA tp0 rfl (show vwCl[10]? = some (RX11, TX11, 30) ∧ 10 < 11 from ⟨rfl, by decide⟩) (c_X11_messageValue l g ad n K H.size F S10 p0 p1 p2 tp0 r27 S26 hz25) (cwV 2 hts gX11_message_X11_messageValue rfl rfl rfl (by decide +kernel) ⟨Nat.le_of_ble_eq_true rfl, Nat.le_of_ble_eq_true rfl⟩) rfl rfl (Nat.le_of_ble_eq_true rfl) dX11_message_31 ⟨Nat.le_of_ble_eq_true rfl, Nat.le_of_ble_eq_true rfl⟩ (fun H locs hPz25 hW hS => ?_)
      refine W.eq (g2 := F0 m 34 ls [.int r27]) rfl ?_
      refine lv_goto (tgt := 63) hx hb dX11_message_34 (by decide) ?_
      obtain ⟨e1, e2⟩ := so2 hf
      subst e1
      subst e2
      exact W.iret (v := r27) hx hb hr (fun t ht hWm => ⟨⟨rfl, by unfold QB; rw [ht]; exact ⟨hW, trivial⟩⟩, hS.F ht⟩) hS.2.2 dX11_message_63 hlk
  · replace hf := ifF (fun q => q c13) hf
    refine lv_iconst (v := 0) hx hb dX11_message_21 (by decide) ?_
    obtain ⟨e1, e2⟩ := so2 hf
    subst e1
    subst e2
    exact W.iret (v := 0) hx hb hr (fun t ht hWm => ⟨⟨rfl, by unfold QB; rw [ht]; exact ⟨hW, trivial⟩⟩, hS.F ht⟩) hS.2.2 dX11_message_22 hlk
set_option maxHeartbeats 4000000 in
set_option maxRecDepth 100000 in
theorem c_X11_partOf (l : Launch) (g : GP) (ad : Nat → Nat) (n : Nat) (K : Nat → Nat) (sz F : Nat) (S0 : St) (p0 : Nat) (p1 : Int32) (p2 : Int32) (tp0 : p0 < n ∧ K p0 = 10) (r9 : Int32) (S9 : St) (hf : f_X11_partOf F S0 p0 p1 p2 = some (r9, S9)) : Met l yX11_partOf wsX11_partOf { frames := 2, cells := 0, slots := 0, locals := 46 } (va_Pc [.ref (ad p0), .int p1, .int p2] (PB g ad n K S0 sz)) (QR (some (.int r9)) (QB g ad n K S9 (dA ad n sz) (True)) (dA ad n sz)) 0 0 (dA ad n sz) := by
  refine Met.ofW (cc := cX11_partOf) (maxL := 3) (ret := (some .int)) (by decide) rfl ?_
  intro p e s m args below meth c s₁ B hml hv
  obtain ⟨rfl, hsz, hW, hK, hGs⟩ := x_start hv
  subst hsz
  have hx := B.exec
  have hb := B.bytes
  have hr := B.returns
  have hts := atoms_spec (ws := wsX11_partOf) B.pre
  have hown : s.vm.findClass RX11 = some m.cls := findClass_of_methodNamed B.named
  have hlk := B.notSynchronized
  have hC : Cx g p s m _ c cX11_partOf RX11 wsX11_partOf 3 := ⟨hx, hb, hml, hown, hts, hK⟩
  have hA : ∀ q : Nat, s.heap.size ≤ q → dA ad n s.heap.size q := fun q h => Or.inr h
  have hS : va_S (dA ad n s.heap.size) s.heap s.heap [] := va_S.rf
  have hl := lv_entry ([.ref (ad p0), .int p1, .int p2]) (n := 3) (Nat.le_of_ble_eq_true rfl)
  rw [lg_entry_eq]
  generalize (lg_sl ([.ref (ad p0), .int p1, .int p2]) ++ List.replicate (3 - (lg_sl ([.ref (ad p0), .int p1, .int p2])).length) Slot.unset).toArray = ls at hl ⊢
  have hl : lv_has ls 3 [(0, .ref (ad p0)), (1, .int p1), (2, .int p2)] := hl
  have hGE := hGs.2.2.2.2.2.2.1
  have hGM := hGs.2.2.2.2.2.2.2.1
  have L32 : ∀ (S0 : St) (v0 : Nat) (v1 : Int32) (v2 : Int32) (s0 : Int32) (s1 : Nat) (tv0 : v0 < n ∧ K v0 = 10) (ts1 : s1 < n ∧ K s1 = 10) (H : Heap) (locs : List Loc) (ls : Array Slot), f_X11_partOf_L32 F S0 v0 v1 v2 s0 s1 = some (r9, S9) → Wb g ad n K S0 (dA ad n s.heap.size) H → va_S (dA ad n s.heap.size) s.heap H locs → lv_has ls 3 [(0, .ref (ad v0)), (1, .int v1), (2, .int v2)] → W p l e (headSpec wsX11_partOf { frames := 2, cells := 0, slots := 0, locals := 46 }).room s m (List.toArray [.ref (ad p0), .int p1, .int p2]) below meth c H locs 0 0 (MQ below (QR (some (.int r9)) (QB g ad n K S9 (dA ad n s.heap.size) (True)) (dA ad n s.heap.size)) (List.toArray [.ref (ad p0), .int p1, .int p2]) s 0 0 (dA ad n s.heap.size)) (F0 m 32 ls [.int s0, .ref (ad s1)]) := by
    intro S0 v0 v1 v2 s0 s1 tv0 ts1 H locs ls hf hW hS hl
    unfold f_X11_partOf_L32 at hf
    replace hf := obE hf
    obtain ⟨z10, hz10, hf⟩ := hf
    obtain ⟨r12, S11⟩ := z10
    replace hf := ltE (ltE hf r12 rfl) S11 rfl
    refine x_callV (As := [.int s0]) (rest := []) (o := (some (.int r12))) (S1 := S11) hC hl.1 hW hS hGs hA ts1 rfl (show vwCl[10]? = some (RX11, TX11, 30) ∧ 10 < 11 from ⟨rfl, by decide⟩) (c_X11_passes l g ad n K H.size F S0 s1 s0 ts1 r12 S11 hz10) (cwV 1 hts gX11_partOf_X11_passes rfl rfl rfl (by decide +kernel) ⟨Nat.le_of_ble_eq_true rfl, Nat.le_of_ble_eq_true rfl⟩) rfl rfl (Nat.le_of_ble_eq_true rfl) dX11_partOf_32 ⟨Nat.le_of_ble_eq_true rfl, Nat.le_of_ble_eq_true rfl⟩ (fun H locs hPz10 hW hS => ?_)
    refine W.eq (g2 := F0 m 35 ls [.int r12]) rfl ?_
    refine lv_if_eq (tgt := 49) hx hb dX11_partOf_35 (by decide) (fun c14 => ?_) (fun c14 => ?_)
    · replace hf := ifT c14 hf
      refine lv_iconst (v := 0) hx hb dX11_partOf_49 (by decide) ?_
      obtain ⟨e1, e2⟩ := so2 hf
      subst e1
      subst e2
      exact W.iret (v := 0) hx hb hr (fun t ht hWm => ⟨⟨rfl, by unfold QB; rw [ht]; exact ⟨hW, trivial⟩⟩, hS.F ht⟩) hS.2.2 dX11_partOf_50 hlk
    · replace hf := ifF c14 hf
      refine lv_aload_n hx hb dX11_partOf_38 rfl (lv_at hl 0 rfl) ?_
      refine lv_iload_n hx hb dX11_partOf_39 rfl (lv_at hl 1 rfl) ?_
      refine lv_iconst (v := 3) hx hb dX11_partOf_40 (by decide) ?_
      refine lv_iload_n hx hb dX11_partOf_41 rfl (lv_at hl 2 rfl) ?_
      refine lv_iadd hx hb dX11_partOf_42 ?_
      replace hf := obE hf
      obtain ⟨z15, hz15, hf⟩ := hf
      obtain ⟨r17, S16⟩ := z15
      replace hf := ltE (ltE hf r17 rfl) S16 rfl
      refine x_callV (As := [.int v1, .int (3 + v2)]) (rest := []) (o := (some (.int r17))) (S1 := S16) hC hl.1 hW hS hGs hA tv0 rfl (show vwCl[10]? = some (RX11, TX11, 30) ∧ 10 < 11 from ⟨rfl, by decide⟩) (c_X11_messageValue l g ad n K H.size F S11 v0 v1 (3 + v2) tv0 r17 S16 hz15) (cwV 2 hts gX11_partOf_X11_messageValue rfl rfl rfl (by decide +kernel) ⟨Nat.le_of_ble_eq_true rfl, Nat.le_of_ble_eq_true rfl⟩) rfl rfl (Nat.le_of_ble_eq_true rfl) dX11_partOf_43 ⟨Nat.le_of_ble_eq_true rfl, Nat.le_of_ble_eq_true rfl⟩ (fun H locs hPz15 hW hS => ?_)
      refine W.eq (g2 := F0 m 46 ls [.int r17]) rfl ?_
      refine lv_goto (tgt := 50) hx hb dX11_partOf_46 (by decide) ?_
      obtain ⟨e1, e2⟩ := so2 hf
      subst e1
      subst e2
      exact W.iret (v := r17) hx hb hr (fun t ht hWm => ⟨⟨rfl, by unfold QB; rw [ht]; exact ⟨hW, trivial⟩⟩, hS.F ht⟩) hS.2.2 dX11_partOf_50 hlk
  have L31 : ∀ (S0 : St) (v0 : Nat) (v1 : Int32) (v2 : Int32) (s0 : Nat) (tv0 : v0 < n ∧ K v0 = 10) (ts0 : s0 < n ∧ K s0 = 10) (H : Heap) (locs : List Loc) (ls : Array Slot), f_X11_partOf_L31 F S0 v0 v1 v2 s0 = some (r9, S9) → Wb g ad n K S0 (dA ad n s.heap.size) H → va_S (dA ad n s.heap.size) s.heap H locs → lv_has ls 3 [(0, .ref (ad v0)), (1, .int v1), (2, .int v2)] → W p l e (headSpec wsX11_partOf { frames := 2, cells := 0, slots := 0, locals := 46 }).room s m (List.toArray [.ref (ad p0), .int p1, .int p2]) below meth c H locs 0 0 (MQ below (QR (some (.int r9)) (QB g ad n K S9 (dA ad n s.heap.size) (True)) (dA ad n s.heap.size)) (List.toArray [.ref (ad p0), .int p1, .int p2]) s 0 0 (dA ad n s.heap.size)) (F0 m 31 ls [.ref (ad s0)]) := by
    intro S0 v0 v1 v2 s0 tv0 ts0 H locs ls hf hW hS hl
    unfold f_X11_partOf_L31 at hf
    refine lv_iconst (v := 0) hx hb dX11_partOf_31 (by decide) ?_
    exact L32 S0 v0 v1 v2 0 s0 tv0 ts0 _ _ _ hf hW hS (lv_sub hl [0, 1, 2] rfl)
  unfold f_X11_partOf at hf
  refine lv_aload_n hx hb dX11_partOf_0 rfl (lv_at hl 0 rfl) ?_
  refine lv_aload_n hx hb dX11_partOf_1 rfl (lv_at hl 0 rfl) ?_
  refine lv_iload_n hx hb dX11_partOf_2 rfl (lv_at hl 1 rfl) ?_
  replace hf := obE hf
  obtain ⟨z19, hz19, hf⟩ := hf
  obtain ⟨r21, S20⟩ := z19
  replace hf := ltE (ltE hf r21 rfl) S20 rfl
  refine x_callV (As := [.int p1]) (rest := [.ref (ad p0)]) (o := (some (.int r21))) (S1 := S20) hC hl.1 hW hS hGs hA tp0 rfl (show vwCl[10]? = some (RX11, TX11, 30) ∧ 10 < 11 from ⟨rfl, by decide⟩) (c_X11_isMessage l g ad n K s.heap.size F S0 p0 p1 tp0 r21 S20 hz19) (cwV 1 hts gX11_partOf_X11_isMessage rfl rfl rfl (by decide +kernel) ⟨Nat.le_of_ble_eq_true rfl, Nat.le_of_ble_eq_true rfl⟩) rfl rfl (Nat.le_of_ble_eq_true rfl) dX11_partOf_3 ⟨Nat.le_of_ble_eq_true rfl, Nat.le_of_ble_eq_true rfl⟩ (fun H locs hPz19 hW hS => ?_)
  refine W.eq (g2 := F0 m 6 ls [.int r21, .ref (ad p0)]) rfl ?_
  refine lv_if_eq (tgt := 31) hx hb dX11_partOf_6 (by decide) (fun c23 => ?_) (fun c23 => ?_)
  · replace hf := ifT c23 hf
    exact L31 S20 p0 p1 p2 p0 tp0 tp0 _ _ _ hf hW hS (lv_sub hl [0, 1, 2] rfl)
  · replace hf := ifF c23 hf
    refine lv_iload_n hx hb dX11_partOf_9 rfl (lv_at hl 2 rfl) ?_
    refine lv_i2l (v := p2.toInt64) hx hb dX11_partOf_10 rfl ?_
    refine lv_lconst (v := 0) hx hb dX11_partOf_11 (by decide) ?_
    refine lv_aload_n hx hb dX11_partOf_12 rfl (lv_at hl 0 rfl) ?_
    refine lv_iload_n hx hb dX11_partOf_13 rfl (lv_at hl 1 rfl) ?_
    refine lv_iconst (v := 2) hx hb dX11_partOf_14 (by decide) ?_
    replace hf := obE hf
    obtain ⟨z24, hz24, hf⟩ := hf
    obtain ⟨r26, S25⟩ := z24
    replace hf := ltE (ltE hf r26 rfl) S25 rfl
    refine x_callV (As := [.int p1, .int 2]) (rest := [.long (0), .long (p2.toInt64), .ref (ad p0)]) (o := (some (.int r26))) (S1 := S25) hC hl.1 hW hS hGs hA tp0 rfl (show vwCl[10]? = some (RX11, TX11, 30) ∧ 10 < 11 from ⟨rfl, by decide⟩) (c_X11_messageValue l g ad n K H.size F S20 p0 p1 ((2 : Int32)) tp0 r26 S25 hz24) (cwV 2 hts gX11_partOf_X11_messageValue rfl rfl rfl (by decide +kernel) ⟨Nat.le_of_ble_eq_true rfl, Nat.le_of_ble_eq_true rfl⟩) rfl rfl (Nat.le_of_ble_eq_true rfl) dX11_partOf_15 ⟨Nat.le_of_ble_eq_true rfl, Nat.le_of_ble_eq_true rfl⟩ (fun H locs hPz24 hW hS => ?_)
    refine W.eq (g2 := F0 m 18 ls [.int r26, .long (0), .long (p2.toInt64), .ref (ad p0)]) rfl ?_
    refine lv_iconst (v := 1) hx hb dX11_partOf_18 (by decide) ?_
    refine lv_isub hx hb dX11_partOf_19 ?_
    refine lv_i2l (v := (r26 - 1).toInt64) hx hb dX11_partOf_20 rfl ?_
    replace hf := obE hf
    obtain ⟨z28, hz28, hf⟩ := hf
    obtain ⟨r30, S29⟩ := z28
    replace hf := ltE (ltE hf r30 rfl) S29 rfl
    refine x_callS (As := [.long (p2.toInt64), .long (0), .long ((r26 - 1).toInt64)]) (rest := [.ref (ad p0)]) (o := (some (.int r30))) (S1 := S29) hC hl.1 hW hS hGs hA (c_X11_in l g ad n K H.size F S25 p2.toInt64 ((0 : Int64)) ((r26 - 1).toInt64) r30 S29 hz28) (va_cwS 3 hts gX11_partOf_X11_in rfl rfl rfl (by decide +kernel) ⟨Nat.le_of_ble_eq_true rfl, Nat.le_of_ble_eq_true rfl⟩) rfl rfl (Nat.le_of_ble_eq_true rfl) dX11_partOf_21 ⟨Nat.le_of_ble_eq_true rfl, Nat.le_of_ble_eq_true rfl⟩ (fun H locs hPz28 hW hS => ?_)
    refine W.eq (g2 := F0 m 24 ls [.int r30, .ref (ad p0)]) rfl ?_
    refine lv_if_eq (tgt := 31) hx hb dX11_partOf_24 (by decide) (fun c32 => ?_) (fun c32 => ?_)
    · replace hf := ifT c32 hf
      exact L31 S29 p0 p1 p2 p0 tp0 tp0 _ _ _ hf hW hS (lv_sub hl [0, 1, 2] rfl)
    · replace hf := ifF c32 hf
      refine lv_iconst (v := 1) hx hb dX11_partOf_27 (by decide) ?_
      refine lv_goto (tgt := 32) hx hb dX11_partOf_28 (by decide) ?_
      exact L32 S29 p0 p1 p2 1 p0 tp0 tp0 _ _ _ hf hW hS (lv_sub hl [0, 1, 2] rfl)
set_option maxHeartbeats 4000000 in
set_option maxRecDepth 100000 in
theorem c_X11_readers (l : Launch) (g : GP) (ad : Nat → Nat) (n : Nat) (K : Nat → Nat) (sz F : Nat) (S0 : St) (p0 : Nat) (p1 : Int32) (tp0 : p0 < n ∧ K p0 = 10) (r9 : Int32) (S9 : St) (hf : f_X11_readers F S0 p0 p1 = some (r9, S9)) : Met l yX11_readers wsX11_readers { frames := 3, cells := 0, slots := 0, locals := 65 } (va_Pc [.ref (ad p0), .int p1] (PB g ad n K S0 sz)) (QR (some (.int r9)) (QB g ad n K S9 (dA ad n sz) (True)) (dA ad n sz)) 0 0 (dA ad n sz) := by
  refine Met.ofW (cc := cX11_readers) (maxL := 4) (ret := (some .int)) (by decide) rfl ?_
  intro p e s m args below meth c s₁ B hml hv
  obtain ⟨rfl, hsz, hW, hK, hGs⟩ := x_start hv
  subst hsz
  have hx := B.exec
  have hb := B.bytes
  have hr := B.returns
  have hts := atoms_spec (ws := wsX11_readers) B.pre
  have hown : s.vm.findClass RX11 = some m.cls := findClass_of_methodNamed B.named
  have hlk := B.notSynchronized
  have hC : Cx g p s m _ c cX11_readers RX11 wsX11_readers 4 := ⟨hx, hb, hml, hown, hts, hK⟩
  have hA : ∀ q : Nat, s.heap.size ≤ q → dA ad n s.heap.size q := fun q h => Or.inr h
  have hS : va_S (dA ad n s.heap.size) s.heap s.heap [] := va_S.rf
  have hl := lv_entry ([.ref (ad p0), .int p1]) (n := 4) (Nat.le_of_ble_eq_true rfl)
  rw [lg_entry_eq]
  generalize (lg_sl ([.ref (ad p0), .int p1]) ++ List.replicate (4 - (lg_sl ([.ref (ad p0), .int p1])).length) Slot.unset).toArray = ls at hl ⊢
  have hl : lv_has ls 4 [(0, .ref (ad p0)), (1, .int p1)] := hl
  have hin11 : ∀ w ∈ wsX110, w ∈ wsX11_readers := by decide +kernel
  have w_0 := hts (.fieldLink RX11 17 "MailSpoolModel" "net" "[I") (by decide +kernel)
  have hGE := hGs.2.2.2.2.2.2.1
  have hGM := hGs.2.2.2.2.2.2.2.1
  have L18 : ∀ (fu18 : Nat) (S0 : St) (v0 : Nat) (v1 : Int32) (v2 : Int32) (v3 : Int32) (tv0 : v0 < n ∧ K v0 = 10) (H : Heap) (locs : List Loc) (ls : Array Slot), f_X11_readers_L18 F fu18 S0 v0 v1 v2 v3 = some (r9, S9) → Wb g ad n K S0 (dA ad n s.heap.size) H → va_S (dA ad n s.heap.size) s.heap H locs → lv_has ls 4 [(0, .ref (ad v0)), (1, .int v1), (2, .int v2), (3, .int v3)] → W p l e (headSpec wsX11_readers { frames := 3, cells := 0, slots := 0, locals := 65 }).room s m (List.toArray [.ref (ad p0), .int p1]) below meth c H locs 0 0 (MQ below (QR (some (.int r9)) (QB g ad n K S9 (dA ad n s.heap.size) (True)) (dA ad n s.heap.size)) (List.toArray [.ref (ad p0), .int p1]) s 0 0 (dA ad n s.heap.size)) (F0 m 18 ls []) := by
    intro fu18
    induction fu18 with
    | zero =>
      intro S0 v0 v1 v2 v3 tv0 H locs ls hf
      cases hf
    | succ fu18 ih18 =>
      have L45 : ∀ (S0 : St) (v0 : Nat) (v1 : Int32) (v3 : Int32) (s0 : Int32) (s1 : Int32) (tv0 : v0 < n ∧ K v0 = 10) (H : Heap) (locs : List Loc) (ls : Array Slot), f_X11_readers_L45 F (fun a0 a1 a2 a3 a4 => f_X11_readers_L18 F fu18 a0 a1 a2 a3 a4) S0 v0 v1 v3 s0 s1 = some (r9, S9) → Wb g ad n K S0 (dA ad n s.heap.size) H → va_S (dA ad n s.heap.size) s.heap H locs → lv_has ls 4 [(0, .ref (ad v0)), (1, .int v1), (3, .int v3)] → W p l e (headSpec wsX11_readers { frames := 3, cells := 0, slots := 0, locals := 65 }).room s m (List.toArray [.ref (ad p0), .int p1]) below meth c H locs 0 0 (MQ below (QR (some (.int r9)) (QB g ad n K S9 (dA ad n s.heap.size) (True)) (dA ad n s.heap.size)) (List.toArray [.ref (ad p0), .int p1]) s 0 0 (dA ad n s.heap.size)) (F0 m 45 ls [.int s0, .int s1]) := by
        intro S0 v0 v1 v3 s0 s1 tv0 H locs ls hf hW hS hl
        unfold f_X11_readers_L45 at hf
        refine lv_ior hx hb dX11_readers_45 ?_
        refine lv_topi (fun x3 ex3 => ?_)
        replace hf := ltE hf x3 ex3
        refine lv_istore_n (lv' := [(2, .int x3), (0, .ref (ad v0)), (1, .int v1), (3, .int v3)]) hx hb dX11_readers_46 rfl hl (by decide) rfl (fun ls hl => ?_)
        obtain ⟨x4, ex4⟩ : ∃ z : Int32, z = v3 + 1 := ⟨_, rfl⟩
        replace hf := ltE hf x4 ex4
        refine lv_iinc (v := x4) (lv' := [(3, .int x4), (2, .int x3), (0, .ref (ad v0)), (1, .int v1)]) hx hb dX11_readers_47 hl (k := 3) rfl (by rw [ex4]; rfl) (by decide) rfl (fun ls hl => ?_)
        refine lv_goto (tgt := 18) hx hb dX11_readers_50 (by decide) ?_
        exact ih18 S0 v0 v1 x3 x4 tv0 _ _ _ hf hW hS (lv_sub hl [2, 3, 1, 0] rfl)
      intro S0 v0 v1 v2 v3 tv0 H locs ls hf hW hS hl
      unfold f_X11_readers_L18 at hf
      refine lv_iload_n hx hb dX11_readers_18 rfl (lv_at hl 3 rfl) ?_
      refine lv_aload_n hx hb dX11_readers_19 rfl (lv_at hl 0 rfl) ?_
      replace hf := obE hf
      obtain ⟨j13, qj13, hf⟩ := hf
      have tj13 := x_rt hW qj13 12 ⟨by decide, rfl⟩
      refine x_getr 1001 (ci := 10) (C := RX11) (T := TX11) (N := 30) 1 hC hin11 hW tv0 rfl rfl ⟨by decide, by decide, rfl, rfl⟩ rfl w_0 dX11_readers_20 qj13 ?_
      refine lv_iconst (v := 4) hx hb dX11_readers_23 (by decide) ?_
      replace hf := ckiE hf
      obtain ⟨h14, hf⟩ := hf
      refine x_iald hC hW tj13 rfl rfl h14 dX11_readers_24 ?_
      refine lv_icmp_ge (tgt := 53) hx hb dX11_readers_25 (by decide) (fun c15 => ?_) (fun c15 => ?_)
      · replace hf := ifT c15 hf
        refine lv_iload_n hx hb dX11_readers_53 rfl (lv_at hl 2 rfl) ?_
        obtain ⟨e1, e2⟩ := so2 hf
        subst e1
        subst e2
        exact W.iret (v := v2) hx hb hr (fun t ht hWm => ⟨⟨rfl, by unfold QB; rw [ht]; exact ⟨hW, trivial⟩⟩, hS.F ht⟩) hS.2.2 dX11_readers_54 hlk
      · replace hf := ifF c15 hf
        refine lv_iload_n hx hb dX11_readers_28 rfl (lv_at hl 2 rfl) ?_
        refine lv_aload_n hx hb dX11_readers_29 rfl (lv_at hl 0 rfl) ?_
        refine lv_iload_n hx hb dX11_readers_30 rfl (lv_at hl 1 rfl) ?_
        refine lv_iload_n hx hb dX11_readers_31 rfl (lv_at hl 3 rfl) ?_
        replace hf := obE hf
        obtain ⟨z16, hz16, hf⟩ := hf
        obtain ⟨r18, S17⟩ := z16
        replace hf := ltE (ltE hf r18 rfl) S17 rfl
        refine x_callV (As := [.int v1, .int v3]) (rest := [.int v2]) (o := (some (.int r18))) (S1 := S17) hC hl.1 hW hS hGs hA tv0 rfl (show vwCl[10]? = some (RX11, TX11, 30) ∧ 10 < 11 from ⟨rfl, by decide⟩) (c_X11_isLive l g ad n K H.size F S0 v0 v1 v3 tv0 r18 S17 hz16) (cwV 2 hts gX11_readers_X11_isLive rfl rfl rfl (by decide +kernel) ⟨Nat.le_of_ble_eq_true rfl, Nat.le_of_ble_eq_true rfl⟩) rfl rfl (Nat.le_of_ble_eq_true rfl) dX11_readers_32 ⟨Nat.le_of_ble_eq_true rfl, Nat.le_of_ble_eq_true rfl⟩ (fun H locs hPz16 hW hS => ?_)
        refine W.eq (g2 := F0 m 35 ls [.int r18, .int v2]) rfl ?_
        refine lv_if_eq (tgt := 44) hx hb dX11_readers_35 (by decide) (fun c20 => ?_) (fun c20 => ?_)
        · replace hf := ifT c20 hf
          refine lv_iconst (v := 0) hx hb dX11_readers_44 (by decide) ?_
          exact L45 S17 v0 v1 v3 0 v2 tv0 _ _ _ hf hW hS (lv_sub hl [0, 1, 3] rfl)
        · replace hf := ifF c20 hf
          refine lv_iconst (v := 1) hx hb dX11_readers_38 (by decide) ?_
          refine lv_iload_n hx hb dX11_readers_39 rfl (lv_at hl 3 rfl) ?_
          refine lv_ishl hx hb dX11_readers_40 ?_
          refine lv_goto (tgt := 45) hx hb dX11_readers_41 (by decide) ?_
          exact L45 S17 v0 v1 v3 (1 <<< (v3 &&& 31)) v2 tv0 _ _ _ hf hW hS (lv_sub hl [0, 1, 3] rfl)
  unfold f_X11_readers at hf
  refine lv_aload_n hx hb dX11_readers_0 rfl (lv_at hl 0 rfl) ?_
  refine lv_aload_n hx hb dX11_readers_1 rfl (lv_at hl 0 rfl) ?_
  refine lv_iload_n hx hb dX11_readers_2 rfl (lv_at hl 1 rfl) ?_
  replace hf := obE hf
  obtain ⟨z21, hz21, hf⟩ := hf
  obtain ⟨r23, S22⟩ := z21
  replace hf := ltE (ltE hf r23 rfl) S22 rfl
  refine x_callV (As := [.int p1]) (rest := [.ref (ad p0)]) (o := (some (.int r23))) (S1 := S22) hC hl.1 hW hS hGs hA tp0 rfl (show vwCl[10]? = some (RX11, TX11, 30) ∧ 10 < 11 from ⟨rfl, by decide⟩) (c_X11_isMessage l g ad n K s.heap.size F S0 p0 p1 tp0 r23 S22 hz21) (cwV 1 hts gX11_readers_X11_isMessage rfl rfl rfl (by decide +kernel) ⟨Nat.le_of_ble_eq_true rfl, Nat.le_of_ble_eq_true rfl⟩) rfl rfl (Nat.le_of_ble_eq_true rfl) dX11_readers_3 ⟨Nat.le_of_ble_eq_true rfl, Nat.le_of_ble_eq_true rfl⟩ (fun H locs hPz21 hW hS => ?_)
  refine W.eq (g2 := F0 m 6 ls [.int r23, .ref (ad p0)]) rfl ?_
  replace hf := obE hf
  obtain ⟨z25, hz25, hf⟩ := hf
  obtain ⟨r27, S26⟩ := z25
  replace hf := ltE (ltE hf r27 rfl) S26 rfl
  refine x_callV (As := [.int r23]) (rest := []) (o := (some (.int r27))) (S1 := S26) hC hl.1 hW hS hGs hA tp0 rfl (show vwCl[10]? = some (RX11, TX11, 30) ∧ 10 < 11 from ⟨rfl, by decide⟩) (c_X11_passes l g ad n K H.size F S22 p0 r23 tp0 r27 S26 hz25) (cwV 1 hts gX11_readers_X11_passes rfl rfl rfl (by decide +kernel) ⟨Nat.le_of_ble_eq_true rfl, Nat.le_of_ble_eq_true rfl⟩) rfl rfl (Nat.le_of_ble_eq_true rfl) dX11_readers_6 ⟨Nat.le_of_ble_eq_true rfl, Nat.le_of_ble_eq_true rfl⟩ (fun H locs hPz25 hW hS => ?_)
  refine W.eq (g2 := F0 m 9 ls [.int r27]) rfl ?_
  refine lv_if_ne (tgt := 14) hx hb dX11_readers_9 (by decide) (fun c29 => ?_) (fun c29 => ?_)
  · replace hf := ifT c29 hf
    refine lv_iconst (v := 0) hx hb dX11_readers_14 (by decide) ?_
    refine lv_istore_n (lv' := [(2, .int 0), (0, .ref (ad p0)), (1, .int p1)]) hx hb dX11_readers_15 rfl hl (by decide) rfl (fun ls hl => ?_)
    refine lv_iconst (v := 0) hx hb dX11_readers_16 (by decide) ?_
    refine lv_istore_n (lv' := [(3, .int 0), (2, .int 0), (0, .ref (ad p0)), (1, .int p1)]) hx hb dX11_readers_17 rfl hl (by decide) rfl (fun ls hl => ?_)
    exact L18 F S26 p0 p1 0 0 tp0 _ _ _ hf hW hS (lv_sub hl [2, 3, 1, 0] rfl)
  · replace hf := ifF (fun q => q c29) hf
    refine lv_iconst (v := 0) hx hb dX11_readers_12 (by decide) ?_
    obtain ⟨e1, e2⟩ := so2 hf
    subst e1
    subst e2
    exact W.iret (v := 0) hx hb hr (fun t ht hWm => ⟨⟨rfl, by unfold QB; rw [ht]; exact ⟨hW, trivial⟩⟩, hS.F ht⟩) hS.2.2 dX11_readers_13 hlk
set_option maxHeartbeats 4000000 in
set_option maxRecDepth 100000 in
theorem c_X11_hidden (l : Launch) (g : GP) (ad : Nat → Nat) (n : Nat) (K : Nat → Nat) (sz F : Nat) (S0 : St) (p0 : Nat) (p1 : Int32) (tp0 : p0 < n ∧ K p0 = 10) (r9 : Int32) (S9 : St) (hf : f_X11_hidden F S0 p0 p1 = some (r9, S9)) : Met l yX11_hidden wsX11_hidden { frames := 3, cells := 0, slots := 0, locals := 65 } (va_Pc [.ref (ad p0), .int p1] (PB g ad n K S0 sz)) (QR (some (.int r9)) (QB g ad n K S9 (dA ad n sz) (True)) (dA ad n sz)) 0 0 (dA ad n sz) := by
  refine Met.ofW (cc := cX11_hidden) (maxL := 4) (ret := (some .int)) (by decide) rfl ?_
  intro p e s m args below meth c s₁ B hml hv
  obtain ⟨rfl, hsz, hW, hK, hGs⟩ := x_start hv
  subst hsz
  have hx := B.exec
  have hb := B.bytes
  have hr := B.returns
  have hts := atoms_spec (ws := wsX11_hidden) B.pre
  have hown : s.vm.findClass RX11 = some m.cls := findClass_of_methodNamed B.named
  have hlk := B.notSynchronized
  have hC : Cx g p s m _ c cX11_hidden RX11 wsX11_hidden 4 := ⟨hx, hb, hml, hown, hts, hK⟩
  have hA : ∀ q : Nat, s.heap.size ≤ q → dA ad n s.heap.size q := fun q h => Or.inr h
  have hS : va_S (dA ad n s.heap.size) s.heap s.heap [] := va_S.rf
  have hl := lv_entry ([.ref (ad p0), .int p1]) (n := 4) (Nat.le_of_ble_eq_true rfl)
  rw [lg_entry_eq]
  generalize (lg_sl ([.ref (ad p0), .int p1]) ++ List.replicate (4 - (lg_sl ([.ref (ad p0), .int p1])).length) Slot.unset).toArray = ls at hl ⊢
  have hl : lv_has ls 4 [(0, .ref (ad p0)), (1, .int p1)] := hl
  have hin11 : ∀ w ∈ wsX110, w ∈ wsX11_hidden := by decide +kernel
  have w_0 := hts (.fieldLink RX11 17 "MailSpoolModel" "net" "[I") (by decide +kernel)
  have hGE := hGs.2.2.2.2.2.2.1
  have hGM := hGs.2.2.2.2.2.2.2.1
  have L18 : ∀ (fu18 : Nat) (S0 : St) (v0 : Nat) (v1 : Int32) (v2 : Int32) (v3 : Int32) (tv0 : v0 < n ∧ K v0 = 10) (H : Heap) (locs : List Loc) (ls : Array Slot), f_X11_hidden_L18 F fu18 S0 v0 v1 v2 v3 = some (r9, S9) → Wb g ad n K S0 (dA ad n s.heap.size) H → va_S (dA ad n s.heap.size) s.heap H locs → lv_has ls 4 [(0, .ref (ad v0)), (1, .int v1), (2, .int v2), (3, .int v3)] → W p l e (headSpec wsX11_hidden { frames := 3, cells := 0, slots := 0, locals := 65 }).room s m (List.toArray [.ref (ad p0), .int p1]) below meth c H locs 0 0 (MQ below (QR (some (.int r9)) (QB g ad n K S9 (dA ad n s.heap.size) (True)) (dA ad n s.heap.size)) (List.toArray [.ref (ad p0), .int p1]) s 0 0 (dA ad n s.heap.size)) (F0 m 18 ls []) := by
    intro fu18
    induction fu18 with
    | zero =>
      intro S0 v0 v1 v2 v3 tv0 H locs ls hf
      cases hf
    | succ fu18 ih18 =>
      have L45 : ∀ (S0 : St) (v0 : Nat) (v1 : Int32) (v3 : Int32) (s0 : Int32) (s1 : Int32) (tv0 : v0 < n ∧ K v0 = 10) (H : Heap) (locs : List Loc) (ls : Array Slot), f_X11_hidden_L45 F (fun a0 a1 a2 a3 a4 => f_X11_hidden_L18 F fu18 a0 a1 a2 a3 a4) S0 v0 v1 v3 s0 s1 = some (r9, S9) → Wb g ad n K S0 (dA ad n s.heap.size) H → va_S (dA ad n s.heap.size) s.heap H locs → lv_has ls 4 [(0, .ref (ad v0)), (1, .int v1), (3, .int v3)] → W p l e (headSpec wsX11_hidden { frames := 3, cells := 0, slots := 0, locals := 65 }).room s m (List.toArray [.ref (ad p0), .int p1]) below meth c H locs 0 0 (MQ below (QR (some (.int r9)) (QB g ad n K S9 (dA ad n s.heap.size) (True)) (dA ad n s.heap.size)) (List.toArray [.ref (ad p0), .int p1]) s 0 0 (dA ad n s.heap.size)) (F0 m 45 ls [.int s0, .int s1]) := by
        intro S0 v0 v1 v3 s0 s1 tv0 H locs ls hf hW hS hl
        unfold f_X11_hidden_L45 at hf
        refine lv_ior hx hb dX11_hidden_45 ?_
        refine lv_topi (fun x3 ex3 => ?_)
        replace hf := ltE hf x3 ex3
        refine lv_istore_n (lv' := [(2, .int x3), (0, .ref (ad v0)), (1, .int v1), (3, .int v3)]) hx hb dX11_hidden_46 rfl hl (by decide) rfl (fun ls hl => ?_)
        obtain ⟨x4, ex4⟩ : ∃ z : Int32, z = v3 + 1 := ⟨_, rfl⟩
        replace hf := ltE hf x4 ex4
        refine lv_iinc (v := x4) (lv' := [(3, .int x4), (2, .int x3), (0, .ref (ad v0)), (1, .int v1)]) hx hb dX11_hidden_47 hl (k := 3) rfl (by rw [ex4]; rfl) (by decide) rfl (fun ls hl => ?_)
        refine lv_goto (tgt := 18) hx hb dX11_hidden_50 (by decide) ?_
        exact ih18 S0 v0 v1 x3 x4 tv0 _ _ _ hf hW hS (lv_sub hl [2, 3, 1, 0] rfl)
      intro S0 v0 v1 v2 v3 tv0 H locs ls hf hW hS hl
      unfold f_X11_hidden_L18 at hf
      refine lv_iload_n hx hb dX11_hidden_18 rfl (lv_at hl 3 rfl) ?_
      refine lv_aload_n hx hb dX11_hidden_19 rfl (lv_at hl 0 rfl) ?_
      replace hf := obE hf
      obtain ⟨j13, qj13, hf⟩ := hf
      have tj13 := x_rt hW qj13 12 ⟨by decide, rfl⟩
      refine x_getr 1001 (ci := 10) (C := RX11) (T := TX11) (N := 30) 1 hC hin11 hW tv0 rfl rfl ⟨by decide, by decide, rfl, rfl⟩ rfl w_0 dX11_hidden_20 qj13 ?_
      refine lv_iconst (v := 4) hx hb dX11_hidden_23 (by decide) ?_
      replace hf := ckiE hf
      obtain ⟨h14, hf⟩ := hf
      refine x_iald hC hW tj13 rfl rfl h14 dX11_hidden_24 ?_
      refine lv_icmp_ge (tgt := 53) hx hb dX11_hidden_25 (by decide) (fun c15 => ?_) (fun c15 => ?_)
      · replace hf := ifT c15 hf
        refine lv_iload_n hx hb dX11_hidden_53 rfl (lv_at hl 2 rfl) ?_
        obtain ⟨e1, e2⟩ := so2 hf
        subst e1
        subst e2
        exact W.iret (v := v2) hx hb hr (fun t ht hWm => ⟨⟨rfl, by unfold QB; rw [ht]; exact ⟨hW, trivial⟩⟩, hS.F ht⟩) hS.2.2 dX11_hidden_54 hlk
      · replace hf := ifF c15 hf
        refine lv_iload_n hx hb dX11_hidden_28 rfl (lv_at hl 2 rfl) ?_
        refine lv_aload_n hx hb dX11_hidden_29 rfl (lv_at hl 0 rfl) ?_
        refine lv_iload_n hx hb dX11_hidden_30 rfl (lv_at hl 1 rfl) ?_
        refine lv_iload_n hx hb dX11_hidden_31 rfl (lv_at hl 3 rfl) ?_
        replace hf := obE hf
        obtain ⟨z16, hz16, hf⟩ := hf
        obtain ⟨r18, S17⟩ := z16
        replace hf := ltE (ltE hf r18 rfl) S17 rfl
        refine x_callV (As := [.int v1, .int v3]) (rest := [.int v2]) (o := (some (.int r18))) (S1 := S17) hC hl.1 hW hS hGs hA tv0 rfl (show vwCl[10]? = some (RX11, TX11, 30) ∧ 10 < 11 from ⟨rfl, by decide⟩) (c_X11_isHidden l g ad n K H.size F S0 v0 v1 v3 tv0 r18 S17 hz16) (cwV 2 hts gX11_hidden_X11_isHidden rfl rfl rfl (by decide +kernel) ⟨Nat.le_of_ble_eq_true rfl, Nat.le_of_ble_eq_true rfl⟩) rfl rfl (Nat.le_of_ble_eq_true rfl) dX11_hidden_32 ⟨Nat.le_of_ble_eq_true rfl, Nat.le_of_ble_eq_true rfl⟩ (fun H locs hPz16 hW hS => ?_)
        refine W.eq (g2 := F0 m 35 ls [.int r18, .int v2]) rfl ?_
        refine lv_if_eq (tgt := 44) hx hb dX11_hidden_35 (by decide) (fun c20 => ?_) (fun c20 => ?_)
        · replace hf := ifT c20 hf
          refine lv_iconst (v := 0) hx hb dX11_hidden_44 (by decide) ?_
          exact L45 S17 v0 v1 v3 0 v2 tv0 _ _ _ hf hW hS (lv_sub hl [0, 1, 3] rfl)
        · replace hf := ifF c20 hf
          refine lv_iconst (v := 1) hx hb dX11_hidden_38 (by decide) ?_
          refine lv_iload_n hx hb dX11_hidden_39 rfl (lv_at hl 3 rfl) ?_
          refine lv_ishl hx hb dX11_hidden_40 ?_
          refine lv_goto (tgt := 45) hx hb dX11_hidden_41 (by decide) ?_
          exact L45 S17 v0 v1 v3 (1 <<< (v3 &&& 31)) v2 tv0 _ _ _ hf hW hS (lv_sub hl [0, 1, 3] rfl)
  unfold f_X11_hidden at hf
  refine lv_aload_n hx hb dX11_hidden_0 rfl (lv_at hl 0 rfl) ?_
  refine lv_aload_n hx hb dX11_hidden_1 rfl (lv_at hl 0 rfl) ?_
  refine lv_iload_n hx hb dX11_hidden_2 rfl (lv_at hl 1 rfl) ?_
  replace hf := obE hf
  obtain ⟨z21, hz21, hf⟩ := hf
  obtain ⟨r23, S22⟩ := z21
  replace hf := ltE (ltE hf r23 rfl) S22 rfl
  refine x_callV (As := [.int p1]) (rest := [.ref (ad p0)]) (o := (some (.int r23))) (S1 := S22) hC hl.1 hW hS hGs hA tp0 rfl (show vwCl[10]? = some (RX11, TX11, 30) ∧ 10 < 11 from ⟨rfl, by decide⟩) (c_X11_isMessage l g ad n K s.heap.size F S0 p0 p1 tp0 r23 S22 hz21) (cwV 1 hts gX11_hidden_X11_isMessage rfl rfl rfl (by decide +kernel) ⟨Nat.le_of_ble_eq_true rfl, Nat.le_of_ble_eq_true rfl⟩) rfl rfl (Nat.le_of_ble_eq_true rfl) dX11_hidden_3 ⟨Nat.le_of_ble_eq_true rfl, Nat.le_of_ble_eq_true rfl⟩ (fun H locs hPz21 hW hS => ?_)
  refine W.eq (g2 := F0 m 6 ls [.int r23, .ref (ad p0)]) rfl ?_
  replace hf := obE hf
  obtain ⟨z25, hz25, hf⟩ := hf
  obtain ⟨r27, S26⟩ := z25
  replace hf := ltE (ltE hf r27 rfl) S26 rfl
  refine x_callV (As := [.int r23]) (rest := []) (o := (some (.int r27))) (S1 := S26) hC hl.1 hW hS hGs hA tp0 rfl (show vwCl[10]? = some (RX11, TX11, 30) ∧ 10 < 11 from ⟨rfl, by decide⟩) (c_X11_passes l g ad n K H.size F S22 p0 r23 tp0 r27 S26 hz25) (cwV 1 hts gX11_hidden_X11_passes rfl rfl rfl (by decide +kernel) ⟨Nat.le_of_ble_eq_true rfl, Nat.le_of_ble_eq_true rfl⟩) rfl rfl (Nat.le_of_ble_eq_true rfl) dX11_hidden_6 ⟨Nat.le_of_ble_eq_true rfl, Nat.le_of_ble_eq_true rfl⟩ (fun H locs hPz25 hW hS => ?_)
  refine W.eq (g2 := F0 m 9 ls [.int r27]) rfl ?_
  refine lv_if_ne (tgt := 14) hx hb dX11_hidden_9 (by decide) (fun c29 => ?_) (fun c29 => ?_)
  · replace hf := ifT c29 hf
    refine lv_iconst (v := 0) hx hb dX11_hidden_14 (by decide) ?_
    refine lv_istore_n (lv' := [(2, .int 0), (0, .ref (ad p0)), (1, .int p1)]) hx hb dX11_hidden_15 rfl hl (by decide) rfl (fun ls hl => ?_)
    refine lv_iconst (v := 0) hx hb dX11_hidden_16 (by decide) ?_
    refine lv_istore_n (lv' := [(3, .int 0), (2, .int 0), (0, .ref (ad p0)), (1, .int p1)]) hx hb dX11_hidden_17 rfl hl (by decide) rfl (fun ls hl => ?_)
    exact L18 F S26 p0 p1 0 0 tp0 _ _ _ hf hW hS (lv_sub hl [2, 3, 1, 0] rfl)
  · replace hf := ifF (fun q => q c29) hf
    refine lv_iconst (v := 0) hx hb dX11_hidden_12 (by decide) ?_
    obtain ⟨e1, e2⟩ := so2 hf
    subst e1
    subst e2
    exact W.iret (v := 0) hx hb hr (fun t ht hWm => ⟨⟨rfl, by unfold QB; rw [ht]; exact ⟨hW, trivial⟩⟩, hS.F ht⟩) hS.2.2 dX11_hidden_13 hlk
set_option maxHeartbeats 4000000 in
set_option maxRecDepth 100000 in
theorem c_X11_refValue (l : Launch) (g : GP) (ad : Nat → Nat) (n : Nat) (K : Nat → Nat) (sz F : Nat) (S0 : St) (p0 : Nat) (p1 : Int32) (p2 : Int32) (p3 : Int32) (tp0 : p0 < n ∧ K p0 = 10) (r9 : Int32) (S9 : St) (hf : f_X11_refValue F S0 p0 p1 p2 p3 = some (r9, S9)) : Met l yX11_refValue wsX11_refValue { frames := 3, cells := 0, slots := 0, locals := 68 } (va_Pc [.ref (ad p0), .int p1, .int p2, .int p3] (PB g ad n K S0 sz)) (QR (some (.int r9)) (QB g ad n K S9 (dA ad n sz) (True)) (dA ad n sz)) 0 0 (dA ad n sz) := by
  refine Met.ofW (cc := cX11_refValue) (maxL := 4) (ret := (some .int)) (by decide) rfl ?_
  intro p e s m args below meth c s₁ B hml hv
  obtain ⟨rfl, hsz, hW, hK, hGs⟩ := x_start hv
  subst hsz
  have hx := B.exec
  have hb := B.bytes
  have hr := B.returns
  have hts := atoms_spec (ws := wsX11_refValue) B.pre
  have hown : s.vm.findClass RX11 = some m.cls := findClass_of_methodNamed B.named
  have hlk := B.notSynchronized
  have hC : Cx g p s m _ c cX11_refValue RX11 wsX11_refValue 4 := ⟨hx, hb, hml, hown, hts, hK⟩
  have hA : ∀ q : Nat, s.heap.size ≤ q → dA ad n s.heap.size q := fun q h => Or.inr h
  have hS : va_S (dA ad n s.heap.size) s.heap s.heap [] := va_S.rf
  have hl := lv_entry ([.ref (ad p0), .int p1, .int p2, .int p3]) (n := 4) (Nat.le_of_ble_eq_true rfl)
  rw [lg_entry_eq]
  generalize (lg_sl ([.ref (ad p0), .int p1, .int p2, .int p3]) ++ List.replicate (4 - (lg_sl ([.ref (ad p0), .int p1, .int p2, .int p3])).length) Slot.unset).toArray = ls at hl ⊢
  have hl : lv_has ls 4 [(0, .ref (ad p0)), (1, .int p1), (2, .int p2), (3, .int p3)] := hl
  have hin11 : ∀ w ∈ wsX110, w ∈ wsX11_refValue := by decide +kernel
  have w_0 := hts (.fieldLink RX11 17 "MailSpoolModel" "net" "[I") (by decide +kernel)
  have hGE := hGs.2.2.2.2.2.2.1
  have hGM := hGs.2.2.2.2.2.2.2.1
  unfold f_X11_refValue at hf
  refine lv_aload_n hx hb dX11_refValue_0 rfl (lv_at hl 0 rfl) ?_
  refine lv_aload_n hx hb dX11_refValue_1 rfl (lv_at hl 0 rfl) ?_
  refine lv_iload_n hx hb dX11_refValue_2 rfl (lv_at hl 1 rfl) ?_
  refine lv_iload_n hx hb dX11_refValue_3 rfl (lv_at hl 2 rfl) ?_
  replace hf := obE hf
  obtain ⟨z1, hz1, hf⟩ := hf
  obtain ⟨r3, S2⟩ := z1
  replace hf := ltE (ltE hf r3 rfl) S2 rfl
  refine x_callV (As := [.int p1, .int p2]) (rest := [.ref (ad p0)]) (o := (some (.int r3))) (S1 := S2) hC hl.1 hW hS hGs hA tp0 rfl (show vwCl[10]? = some (RX11, TX11, 30) ∧ 10 < 11 from ⟨rfl, by decide⟩) (c_X11_isRef l g ad n K s.heap.size F S0 p0 p1 p2 tp0 r3 S2 hz1) (cwV 2 hts gX11_refValue_X11_isRef rfl rfl rfl (by decide +kernel) ⟨Nat.le_of_ble_eq_true rfl, Nat.le_of_ble_eq_true rfl⟩) rfl rfl (Nat.le_of_ble_eq_true rfl) dX11_refValue_4 ⟨Nat.le_of_ble_eq_true rfl, Nat.le_of_ble_eq_true rfl⟩ (fun H locs hPz1 hW hS => ?_)
  refine W.eq (g2 := F0 m 7 ls [.int r3, .ref (ad p0)]) rfl ?_
  replace hf := obE hf
  obtain ⟨z5, hz5, hf⟩ := hf
  obtain ⟨r7, S6⟩ := z5
  replace hf := ltE (ltE hf r7 rfl) S6 rfl
  refine x_callV (As := [.int r3]) (rest := []) (o := (some (.int r7))) (S1 := S6) hC hl.1 hW hS hGs hA tp0 rfl (show vwCl[10]? = some (RX11, TX11, 30) ∧ 10 < 11 from ⟨rfl, by decide⟩) (c_X11_passes l g ad n K H.size F S2 p0 r3 tp0 r7 S6 hz5) (cwV 1 hts gX11_refValue_X11_passes rfl rfl rfl (by decide +kernel) ⟨Nat.le_of_ble_eq_true rfl, Nat.le_of_ble_eq_true rfl⟩) rfl rfl (Nat.le_of_ble_eq_true rfl) dX11_refValue_7 ⟨Nat.le_of_ble_eq_true rfl, Nat.le_of_ble_eq_true rfl⟩ (fun H locs hPz5 hW hS => ?_)
  refine W.eq (g2 := F0 m 10 ls [.int r7]) rfl ?_
  refine lv_if_eq (tgt := 28) hx hb dX11_refValue_10 (by decide) (fun c9 => ?_) (fun c9 => ?_)
  · replace hf := ifT c9 hf
    refine lv_iconst (v := 0) hx hb dX11_refValue_28 (by decide) ?_
    obtain ⟨e1, e2⟩ := so2 hf
    subst e1
    subst e2
    exact W.iret (v := 0) hx hb hr (fun t ht hWm => ⟨⟨rfl, by unfold QB; rw [ht]; exact ⟨hW, trivial⟩⟩, hS.F ht⟩) hS.2.2 dX11_refValue_29 hlk
  · replace hf := ifF c9 hf
    refine lv_aload_n hx hb dX11_refValue_13 rfl (lv_at hl 0 rfl) ?_
    replace hf := obE hf
    obtain ⟨j10, qj10, hf⟩ := hf
    have tj10 := x_rt hW qj10 12 ⟨by decide, rfl⟩
    refine x_getr 1001 (ci := 10) (C := RX11) (T := TX11) (N := 30) 1 hC hin11 hW tp0 rfl rfl ⟨by decide, by decide, rfl, rfl⟩ rfl w_0 dX11_refValue_14 qj10 ?_
    refine lv_iload_n hx hb dX11_refValue_17 rfl (lv_at hl 1 rfl) ?_
    refine lv_iload_n hx hb dX11_refValue_18 rfl (lv_at hl 2 rfl) ?_
    replace hf := obE hf
    obtain ⟨z11, hz11, hf⟩ := hf
    obtain ⟨r13, S12⟩ := z11
    replace hf := ltE (ltE hf r13 rfl) S12 rfl
    refine x_callS (As := [.int p1, .int p2]) (rest := [.ref (ad j10)]) (o := (some (.int r13))) (S1 := S12) hC hl.1 hW hS hGs hA (c_X11_refAt l g ad n K H.size F S6 p1 p2 r13 S12 hz11) (va_cwS 2 hts gX11_refValue_X11_refAt rfl rfl rfl (by decide +kernel) ⟨Nat.le_of_ble_eq_true rfl, Nat.le_of_ble_eq_true rfl⟩) rfl rfl (Nat.le_of_ble_eq_true rfl) dX11_refValue_19 ⟨Nat.le_of_ble_eq_true rfl, Nat.le_of_ble_eq_true rfl⟩ (fun H locs hPz11 hW hS => ?_)
    refine W.eq (g2 := F0 m 22 ls [.int r13, .ref (ad j10)]) rfl ?_
    refine lv_iload_n hx hb dX11_refValue_22 rfl (lv_at hl 3 rfl) ?_
    refine lv_iadd hx hb dX11_refValue_23 ?_
    replace hf := ckiE hf
    obtain ⟨h15, hf⟩ := hf
    refine x_iald hC hW tj10 rfl rfl h15 dX11_refValue_24 ?_
    refine lv_goto (tgt := 29) hx hb dX11_refValue_25 (by decide) ?_
    obtain ⟨e1, e2⟩ := so2 hf
    subst e1
    subst e2
    exact W.iret (v := ai S12 j10 (Int32.toNatClampNeg (r13 + p3))) hx hb hr (fun t ht hWm => ⟨⟨rfl, by unfold QB; rw [ht]; exact ⟨hW, trivial⟩⟩, hS.F ht⟩) hS.2.2 dX11_refValue_29 hlk
set_option maxHeartbeats 4000000 in
set_option maxRecDepth 100000 in
theorem c_X11_state (l : Launch) (g : GP) (ad : Nat → Nat) (n : Nat) (K : Nat → Nat) (sz F : Nat) (S0 : St) (p0 : Nat) (p1 : Int32) (p2 : Int32) (tp0 : p0 < n ∧ K p0 = 10) (r9 : Int32) (S9 : St) (hf : f_X11_state F S0 p0 p1 p2 = some (r9, S9)) : Met l yX11_state wsX11_state { frames := 4, cells := 0, slots := 0, locals := 91 } (va_Pc [.ref (ad p0), .int p1, .int p2] (PB g ad n K S0 sz)) (QR (some (.int r9)) (QB g ad n K S9 (dA ad n sz) (True)) (dA ad n sz)) 0 0 (dA ad n sz) := by
  refine Met.ofW (cc := cX11_state) (maxL := 3) (ret := (some .int)) (by decide) rfl ?_
  intro p e s m args below meth c s₁ B hml hv
  obtain ⟨rfl, hsz, hW, hK, hGs⟩ := x_start hv
  subst hsz
  have hx := B.exec
  have hb := B.bytes
  have hr := B.returns
  have hts := atoms_spec (ws := wsX11_state) B.pre
  have hown : s.vm.findClass RX11 = some m.cls := findClass_of_methodNamed B.named
  have hlk := B.notSynchronized
  have hC : Cx g p s m _ c cX11_state RX11 wsX11_state 3 := ⟨hx, hb, hml, hown, hts, hK⟩
  have hA : ∀ q : Nat, s.heap.size ≤ q → dA ad n s.heap.size q := fun q h => Or.inr h
  have hS : va_S (dA ad n s.heap.size) s.heap s.heap [] := va_S.rf
  have hl := lv_entry ([.ref (ad p0), .int p1, .int p2]) (n := 3) (Nat.le_of_ble_eq_true rfl)
  rw [lg_entry_eq]
  generalize (lg_sl ([.ref (ad p0), .int p1, .int p2]) ++ List.replicate (3 - (lg_sl ([.ref (ad p0), .int p1, .int p2])).length) Slot.unset).toArray = ls at hl ⊢
  have hl : lv_has ls 3 [(0, .ref (ad p0)), (1, .int p1), (2, .int p2)] := hl
  have hGE := hGs.2.2.2.2.2.2.1
  have hGM := hGs.2.2.2.2.2.2.2.1
  unfold f_X11_state at hf
  refine lv_aload_n hx hb dX11_state_0 rfl (lv_at hl 0 rfl) ?_
  refine lv_iload_n hx hb dX11_state_1 rfl (lv_at hl 1 rfl) ?_
  refine lv_iload_n hx hb dX11_state_2 rfl (lv_at hl 2 rfl) ?_
  refine lv_iconst (v := 0) hx hb dX11_state_3 (by decide) ?_
  replace hf := obE hf
  obtain ⟨z1, hz1, hf⟩ := hf
  obtain ⟨r3, S2⟩ := z1
  replace hf := ltE (ltE hf r3 rfl) S2 rfl
  refine x_callV (As := [.int p1, .int p2, .int 0]) (rest := []) (o := (some (.int r3))) (S1 := S2) hC hl.1 hW hS hGs hA tp0 rfl (show vwCl[10]? = some (RX11, TX11, 30) ∧ 10 < 11 from ⟨rfl, by decide⟩) (c_X11_refValue l g ad n K s.heap.size F S0 p0 p1 p2 ((0 : Int32)) tp0 r3 S2 hz1) (cwV 3 hts gX11_state_X11_refValue rfl rfl rfl (by decide +kernel) ⟨Nat.le_of_ble_eq_true rfl, Nat.le_of_ble_eq_true rfl⟩) rfl rfl (Nat.le_of_ble_eq_true rfl) dX11_state_4 ⟨Nat.le_of_ble_eq_true rfl, Nat.le_of_ble_eq_true rfl⟩ (fun H locs hPz1 hW hS => ?_)
  refine W.eq (g2 := F0 m 7 ls [.int r3]) rfl ?_
  obtain ⟨e1, e2⟩ := so2 hf
  subst e1
  subst e2
  exact W.iret (v := r3) hx hb hr (fun t ht hWm => ⟨⟨rfl, by unfold QB; rw [ht]; exact ⟨hW, trivial⟩⟩, hS.F ht⟩) hS.2.2 dX11_state_7 hlk
set_option maxHeartbeats 4000000 in
set_option maxRecDepth 100000 in
theorem c_X11_classOf (l : Launch) (g : GP) (ad : Nat → Nat) (n : Nat) (K : Nat → Nat) (sz F : Nat) (S0 : St) (p0 : Nat) (p1 : Int32) (p2 : Int32) (tp0 : p0 < n ∧ K p0 = 10) (r9 : Int32) (S9 : St) (hf : f_X11_classOf F S0 p0 p1 p2 = some (r9, S9)) : Met l yX11_classOf wsX11_classOf { frames := 4, cells := 0, slots := 0, locals := 91 } (va_Pc [.ref (ad p0), .int p1, .int p2] (PB g ad n K S0 sz)) (QR (some (.int r9)) (QB g ad n K S9 (dA ad n sz) (True)) (dA ad n sz)) 0 0 (dA ad n sz) := by
  refine Met.ofW (cc := cX11_classOf) (maxL := 3) (ret := (some .int)) (by decide) rfl ?_
  intro p e s m args below meth c s₁ B hml hv
  obtain ⟨rfl, hsz, hW, hK, hGs⟩ := x_start hv
  subst hsz
  have hx := B.exec
  have hb := B.bytes
  have hr := B.returns
  have hts := atoms_spec (ws := wsX11_classOf) B.pre
  have hown : s.vm.findClass RX11 = some m.cls := findClass_of_methodNamed B.named
  have hlk := B.notSynchronized
  have hC : Cx g p s m _ c cX11_classOf RX11 wsX11_classOf 3 := ⟨hx, hb, hml, hown, hts, hK⟩
  have hA : ∀ q : Nat, s.heap.size ≤ q → dA ad n s.heap.size q := fun q h => Or.inr h
  have hS : va_S (dA ad n s.heap.size) s.heap s.heap [] := va_S.rf
  have hl := lv_entry ([.ref (ad p0), .int p1, .int p2]) (n := 3) (Nat.le_of_ble_eq_true rfl)
  rw [lg_entry_eq]
  generalize (lg_sl ([.ref (ad p0), .int p1, .int p2]) ++ List.replicate (3 - (lg_sl ([.ref (ad p0), .int p1, .int p2])).length) Slot.unset).toArray = ls at hl ⊢
  have hl : lv_has ls 3 [(0, .ref (ad p0)), (1, .int p1), (2, .int p2)] := hl
  have hGE := hGs.2.2.2.2.2.2.1
  have hGM := hGs.2.2.2.2.2.2.2.1
  unfold f_X11_classOf at hf
  refine lv_aload_n hx hb dX11_classOf_0 rfl (lv_at hl 0 rfl) ?_
  refine lv_iload_n hx hb dX11_classOf_1 rfl (lv_at hl 1 rfl) ?_
  refine lv_iload_n hx hb dX11_classOf_2 rfl (lv_at hl 2 rfl) ?_
  refine lv_iconst (v := 1) hx hb dX11_classOf_3 (by decide) ?_
  replace hf := obE hf
  obtain ⟨z1, hz1, hf⟩ := hf
  obtain ⟨r3, S2⟩ := z1
  replace hf := ltE (ltE hf r3 rfl) S2 rfl
  refine x_callV (As := [.int p1, .int p2, .int 1]) (rest := []) (o := (some (.int r3))) (S1 := S2) hC hl.1 hW hS hGs hA tp0 rfl (show vwCl[10]? = some (RX11, TX11, 30) ∧ 10 < 11 from ⟨rfl, by decide⟩) (c_X11_refValue l g ad n K s.heap.size F S0 p0 p1 p2 ((1 : Int32)) tp0 r3 S2 hz1) (cwV 3 hts gX11_classOf_X11_refValue rfl rfl rfl (by decide +kernel) ⟨Nat.le_of_ble_eq_true rfl, Nat.le_of_ble_eq_true rfl⟩) rfl rfl (Nat.le_of_ble_eq_true rfl) dX11_classOf_4 ⟨Nat.le_of_ble_eq_true rfl, Nat.le_of_ble_eq_true rfl⟩ (fun H locs hPz1 hW hS => ?_)
  refine W.eq (g2 := F0 m 7 ls [.int r3]) rfl ?_
  obtain ⟨e1, e2⟩ := so2 hf
  subst e1
  subst e2
  exact W.iret (v := r3) hx hb hr (fun t ht hWm => ⟨⟨rfl, by unfold QB; rw [ht]; exact ⟨hW, trivial⟩⟩, hS.F ht⟩) hS.2.2 dX11_classOf_7 hlk
set_option maxHeartbeats 4000000 in
set_option maxRecDepth 100000 in
theorem c_X11_enteredOn (l : Launch) (g : GP) (ad : Nat → Nat) (n : Nat) (K : Nat → Nat) (sz F : Nat) (S0 : St) (p0 : Nat) (p1 : Int32) (p2 : Int32) (tp0 : p0 < n ∧ K p0 = 10) (r9 : Int32) (S9 : St) (hf : f_X11_enteredOn F S0 p0 p1 p2 = some (r9, S9)) : Met l yX11_enteredOn wsX11_enteredOn { frames := 4, cells := 0, slots := 0, locals := 91 } (va_Pc [.ref (ad p0), .int p1, .int p2] (PB g ad n K S0 sz)) (QR (some (.int r9)) (QB g ad n K S9 (dA ad n sz) (True)) (dA ad n sz)) 0 0 (dA ad n sz) := by
  refine Met.ofW (cc := cX11_enteredOn) (maxL := 3) (ret := (some .int)) (by decide) rfl ?_
  intro p e s m args below meth c s₁ B hml hv
  obtain ⟨rfl, hsz, hW, hK, hGs⟩ := x_start hv
  subst hsz
  have hx := B.exec
  have hb := B.bytes
  have hr := B.returns
  have hts := atoms_spec (ws := wsX11_enteredOn) B.pre
  have hown : s.vm.findClass RX11 = some m.cls := findClass_of_methodNamed B.named
  have hlk := B.notSynchronized
  have hC : Cx g p s m _ c cX11_enteredOn RX11 wsX11_enteredOn 3 := ⟨hx, hb, hml, hown, hts, hK⟩
  have hA : ∀ q : Nat, s.heap.size ≤ q → dA ad n s.heap.size q := fun q h => Or.inr h
  have hS : va_S (dA ad n s.heap.size) s.heap s.heap [] := va_S.rf
  have hl := lv_entry ([.ref (ad p0), .int p1, .int p2]) (n := 3) (Nat.le_of_ble_eq_true rfl)
  rw [lg_entry_eq]
  generalize (lg_sl ([.ref (ad p0), .int p1, .int p2]) ++ List.replicate (3 - (lg_sl ([.ref (ad p0), .int p1, .int p2])).length) Slot.unset).toArray = ls at hl ⊢
  have hl : lv_has ls 3 [(0, .ref (ad p0)), (1, .int p1), (2, .int p2)] := hl
  have hGE := hGs.2.2.2.2.2.2.1
  have hGM := hGs.2.2.2.2.2.2.2.1
  unfold f_X11_enteredOn at hf
  refine lv_aload_n hx hb dX11_enteredOn_0 rfl (lv_at hl 0 rfl) ?_
  refine lv_iload_n hx hb dX11_enteredOn_1 rfl (lv_at hl 1 rfl) ?_
  refine lv_iload_n hx hb dX11_enteredOn_2 rfl (lv_at hl 2 rfl) ?_
  refine lv_iconst (v := 2) hx hb dX11_enteredOn_3 (by decide) ?_
  replace hf := obE hf
  obtain ⟨z1, hz1, hf⟩ := hf
  obtain ⟨r3, S2⟩ := z1
  replace hf := ltE (ltE hf r3 rfl) S2 rfl
  refine x_callV (As := [.int p1, .int p2, .int 2]) (rest := []) (o := (some (.int r3))) (S1 := S2) hC hl.1 hW hS hGs hA tp0 rfl (show vwCl[10]? = some (RX11, TX11, 30) ∧ 10 < 11 from ⟨rfl, by decide⟩) (c_X11_refValue l g ad n K s.heap.size F S0 p0 p1 p2 ((2 : Int32)) tp0 r3 S2 hz1) (cwV 3 hts gX11_enteredOn_X11_refValue rfl rfl rfl (by decide +kernel) ⟨Nat.le_of_ble_eq_true rfl, Nat.le_of_ble_eq_true rfl⟩) rfl rfl (Nat.le_of_ble_eq_true rfl) dX11_enteredOn_4 ⟨Nat.le_of_ble_eq_true rfl, Nat.le_of_ble_eq_true rfl⟩ (fun H locs hPz1 hW hS => ?_)
  refine W.eq (g2 := F0 m 7 ls [.int r3]) rfl ?_
  obtain ⟨e1, e2⟩ := so2 hf
  subst e1
  subst e2
  exact W.iret (v := r3) hx hb hr (fun t ht hWm => ⟨⟨rfl, by unfold QB; rw [ht]; exact ⟨hW, trivial⟩⟩, hS.F ht⟩) hS.2.2 dX11_enteredOn_7 hlk
set_option maxHeartbeats 4000000 in
set_option maxRecDepth 100000 in
theorem c_X11_expiresOn (l : Launch) (g : GP) (ad : Nat → Nat) (n : Nat) (K : Nat → Nat) (sz F : Nat) (S0 : St) (p0 : Nat) (p1 : Int32) (p2 : Int32) (tp0 : p0 < n ∧ K p0 = 10) (r9 : Int32) (S9 : St) (hf : f_X11_expiresOn F S0 p0 p1 p2 = some (r9, S9)) : Met l yX11_expiresOn wsX11_expiresOn { frames := 3, cells := 0, slots := 0, locals := 68 } (va_Pc [.ref (ad p0), .int p1, .int p2] (PB g ad n K S0 sz)) (QR (some (.int r9)) (QB g ad n K S9 (dA ad n sz) (True)) (dA ad n sz)) 0 0 (dA ad n sz) := by
  refine Met.ofW (cc := cX11_expiresOn) (maxL := 5) (ret := (some .int)) (by decide) rfl ?_
  intro p e s m args below meth c s₁ B hml hv
  obtain ⟨rfl, hsz, hW, hK, hGs⟩ := x_start hv
  subst hsz
  have hx := B.exec
  have hb := B.bytes
  have hr := B.returns
  have hts := atoms_spec (ws := wsX11_expiresOn) B.pre
  have hown : s.vm.findClass RX11 = some m.cls := findClass_of_methodNamed B.named
  have hlk := B.notSynchronized
  have hC : Cx g p s m _ c cX11_expiresOn RX11 wsX11_expiresOn 5 := ⟨hx, hb, hml, hown, hts, hK⟩
  have hA : ∀ q : Nat, s.heap.size ≤ q → dA ad n s.heap.size q := fun q h => Or.inr h
  have hS : va_S (dA ad n s.heap.size) s.heap s.heap [] := va_S.rf
  have hl := lv_entry ([.ref (ad p0), .int p1, .int p2]) (n := 5) (Nat.le_of_ble_eq_true rfl)
  rw [lg_entry_eq]
  generalize (lg_sl ([.ref (ad p0), .int p1, .int p2]) ++ List.replicate (5 - (lg_sl ([.ref (ad p0), .int p1, .int p2])).length) Slot.unset).toArray = ls at hl ⊢
  have hl : lv_has ls 5 [(0, .ref (ad p0)), (1, .int p1), (2, .int p2)] := hl
  have hin11 : ∀ w ∈ wsX110, w ∈ wsX11_expiresOn := by decide +kernel
  have w_0 := hts (.fieldLink RX11 17 "MailSpoolModel" "net" "[I") (by decide +kernel)
  have w_1 := hts (.methodLink RX11 397 Lib.Math.max.name) (by decide +kernel)
  have w_2 := hts (.static Lib.Math.max.name) (by decide +kernel)
  have w_3 := hts (.initialized "java/lang/Math") (by decide +kernel)
  have w_4 := hts (.code Lib.Math.max.name Lib.Math.max.code 2 (some .int)) (by decide +kernel)
  have hGE := hGs.2.2.2.2.2.2.1
  have hGM := hGs.2.2.2.2.2.2.2.1
  unfold f_X11_expiresOn at hf
  refine lv_aload_n hx hb dX11_expiresOn_0 rfl (lv_at hl 0 rfl) ?_
  refine lv_aload_n hx hb dX11_expiresOn_1 rfl (lv_at hl 0 rfl) ?_
  refine lv_iload_n hx hb dX11_expiresOn_2 rfl (lv_at hl 1 rfl) ?_
  refine lv_iload_n hx hb dX11_expiresOn_3 rfl (lv_at hl 2 rfl) ?_
  replace hf := obE hf
  obtain ⟨z1, hz1, hf⟩ := hf
  obtain ⟨r3, S2⟩ := z1
  replace hf := ltE (ltE hf r3 rfl) S2 rfl
  refine x_callV (As := [.int p1, .int p2]) (rest := [.ref (ad p0)]) (o := (some (.int r3))) (S1 := S2) hC hl.1 hW hS hGs hA tp0 rfl (show vwCl[10]? = some (RX11, TX11, 30) ∧ 10 < 11 from ⟨rfl, by decide⟩) (c_X11_isRef l g ad n K s.heap.size F S0 p0 p1 p2 tp0 r3 S2 hz1) (cwV 2 hts gX11_expiresOn_X11_isRef rfl rfl rfl (by decide +kernel) ⟨Nat.le_of_ble_eq_true rfl, Nat.le_of_ble_eq_true rfl⟩) rfl rfl (Nat.le_of_ble_eq_true rfl) dX11_expiresOn_4 ⟨Nat.le_of_ble_eq_true rfl, Nat.le_of_ble_eq_true rfl⟩ (fun H locs hPz1 hW hS => ?_)
  refine W.eq (g2 := F0 m 7 ls [.int r3, .ref (ad p0)]) rfl ?_
  replace hf := obE hf
  obtain ⟨z5, hz5, hf⟩ := hf
  obtain ⟨r7, S6⟩ := z5
  replace hf := ltE (ltE hf r7 rfl) S6 rfl
  refine x_callV (As := [.int r3]) (rest := []) (o := (some (.int r7))) (S1 := S6) hC hl.1 hW hS hGs hA tp0 rfl (show vwCl[10]? = some (RX11, TX11, 30) ∧ 10 < 11 from ⟨rfl, by decide⟩) (c_X11_passes l g ad n K H.size F S2 p0 r3 tp0 r7 S6 hz5) (cwV 1 hts gX11_expiresOn_X11_passes rfl rfl rfl (by decide +kernel) ⟨Nat.le_of_ble_eq_true rfl, Nat.le_of_ble_eq_true rfl⟩) rfl rfl (Nat.le_of_ble_eq_true rfl) dX11_expiresOn_7 ⟨Nat.le_of_ble_eq_true rfl, Nat.le_of_ble_eq_true rfl⟩ (fun H locs hPz5 hW hS => ?_)
  refine W.eq (g2 := F0 m 10 ls [.int r7]) rfl ?_
  refine lv_if_ne (tgt := 15) hx hb dX11_expiresOn_10 (by decide) (fun c9 => ?_) (fun c9 => ?_)
  · replace hf := ifT c9 hf
    refine lv_aload_n hx hb dX11_expiresOn_15 rfl (lv_at hl 0 rfl) ?_
    replace hf := obE hf
    obtain ⟨j10, qj10, hf⟩ := hf
    have tj10 := x_rt hW qj10 12 ⟨by decide, rfl⟩
    refine x_getr 1001 (ci := 10) (C := RX11) (T := TX11) (N := 30) 1 hC hin11 hW tp0 rfl rfl ⟨by decide, by decide, rfl, rfl⟩ rfl w_0 dX11_expiresOn_16 qj10 ?_
    refine lv_iload_n hx hb dX11_expiresOn_19 rfl (lv_at hl 1 rfl) ?_
    refine lv_iload_n hx hb dX11_expiresOn_20 rfl (lv_at hl 2 rfl) ?_
    replace hf := obE hf
    obtain ⟨z11, hz11, hf⟩ := hf
    obtain ⟨r13, S12⟩ := z11
    replace hf := ltE (ltE hf r13 rfl) S12 rfl
    refine x_callS (As := [.int p1, .int p2]) (rest := [.ref (ad j10)]) (o := (some (.int r13))) (S1 := S12) hC hl.1 hW hS hGs hA (c_X11_refAt l g ad n K H.size F S6 p1 p2 r13 S12 hz11) (va_cwS 2 hts gX11_expiresOn_X11_refAt rfl rfl rfl (by decide +kernel) ⟨Nat.le_of_ble_eq_true rfl, Nat.le_of_ble_eq_true rfl⟩) rfl rfl (Nat.le_of_ble_eq_true rfl) dX11_expiresOn_21 ⟨Nat.le_of_ble_eq_true rfl, Nat.le_of_ble_eq_true rfl⟩ (fun H locs hPz11 hW hS => ?_)
    refine W.eq (g2 := F0 m 24 ls [.int r13, .ref (ad j10)]) rfl ?_
    refine lv_iconst (v := 1) hx hb dX11_expiresOn_24 (by decide) ?_
    refine lv_iadd hx hb dX11_expiresOn_25 ?_
    replace hf := ckiE hf
    obtain ⟨h15, hf⟩ := hf
    refine x_iald hC hW tj10 rfl rfl h15 dX11_expiresOn_26 ?_
    refine lv_topi (fun x16 ex16 => ?_)
    replace hf := ltE hf x16 ex16
    refine lv_istore_n (lv' := [(3, .int x16), (0, .ref (ad p0)), (1, .int p1), (2, .int p2)]) hx hb dX11_expiresOn_27 rfl hl (by decide) rfl (fun ls hl => ?_)
    refine lv_aload_n hx hb dX11_expiresOn_28 rfl (lv_at hl 1 rfl) ?_
    refine lv_iload_n hx hb dX11_expiresOn_29 rfl (lv_at hl 2 rfl) ?_
    refine lv_iload_n hx hb dX11_expiresOn_30 rfl (lv_at hl 3 rfl) ?_
    replace hf := obE hf
    obtain ⟨z17, hz17, hf⟩ := hf
    obtain ⟨r19, S18⟩ := z17
    replace hf := ltE (ltE hf r19 rfl) S18 rfl
    refine x_callV (As := [.int p1, .int p2]) (rest := []) (o := (some (.int r19))) (S1 := S18) hC hl.1 hW hS hGs hA tp0 rfl (show vwCl[10]? = some (RX11, TX11, 30) ∧ 10 < 11 from ⟨rfl, by decide⟩) (c_X11_isLive l g ad n K H.size F S12 p0 p1 p2 tp0 r19 S18 hz17) (cwV 2 hts gX11_expiresOn_X11_isLive rfl rfl rfl (by decide +kernel) ⟨Nat.le_of_ble_eq_true rfl, Nat.le_of_ble_eq_true rfl⟩) rfl rfl (Nat.le_of_ble_eq_true rfl) dX11_expiresOn_31 ⟨Nat.le_of_ble_eq_true rfl, Nat.le_of_ble_eq_true rfl⟩ (fun H locs hPz17 hW hS => ?_)
    refine W.eq (g2 := F0 m 34 ls [.int r19]) rfl ?_
    refine lv_if_eq (tgt := 46) hx hb dX11_expiresOn_34 (by decide) (fun c21 => ?_) (fun c21 => ?_)
    · replace hf := ifT c21 hf
      refine lv_iconst (v := -1) hx hb dX11_expiresOn_46 (by decide) ?_
      obtain ⟨e1, e2⟩ := so2 hf
      subst e1
      subst e2
      exact W.iret (v := (-1)) hx hb hr (fun t ht hWm => ⟨⟨rfl, by unfold QB; rw [ht]; exact ⟨hW, trivial⟩⟩, hS.F ht⟩) hS.2.2 dX11_expiresOn_47 hlk
    · replace hf := ifF c21 hf
      refine lv_aload_n hx hb dX11_expiresOn_37 rfl (lv_at hl 1 rfl) ?_
      refine lv_iload_n hx hb dX11_expiresOn_38 rfl (lv_at hl 0 rfl) ?_
      replace hf := obE hf
      obtain ⟨z22, hz22, hf⟩ := hf
      obtain ⟨r24, S23⟩ := z22
      replace hf := ltE (ltE hf r24 rfl) S23 rfl
      refine x_callV (As := [.int x16]) (rest := []) (o := (some (.int r24))) (S1 := S23) hC hl.1 hW hS hGs hA tp0 rfl (show vwCl[10]? = some (RX11, TX11, 30) ∧ 10 < 11 from ⟨rfl, by decide⟩) (c_X11_ladder l g ad n K H.size F S18 p0 x16 tp0 r24 S23 hz22) (cwV 1 hts gX11_expiresOn_X11_ladder rfl rfl rfl (by decide +kernel) ⟨Nat.le_of_ble_eq_true rfl, Nat.le_of_ble_eq_true rfl⟩) rfl rfl (Nat.le_of_ble_eq_true rfl) dX11_expiresOn_39 ⟨Nat.le_of_ble_eq_true rfl, Nat.le_of_ble_eq_true rfl⟩ (fun H locs hPz22 hW hS => ?_)
      refine W.eq (g2 := F0 m 42 ls [.int r24]) rfl ?_
      refine lv_iconst (v := -1) hx hb dX11_expiresOn_42 (by decide) ?_
      refine lv_icmp_ne (tgt := 48) hx hb dX11_expiresOn_43 (by decide) (fun c26 => ?_) (fun c26 => ?_)
      · replace hf := ifT c26 hf
        refine lv_iconst (v := 0) hx hb dX11_expiresOn_48 (by decide) ?_
        refine lv_aload_n hx hb dX11_expiresOn_49 rfl (lv_at hl 1 rfl) ?_
        replace hf := obE hf
        obtain ⟨j27, qj27, hf⟩ := hf
        have tj27 := x_rt hW qj27 12 ⟨by decide, rfl⟩
        refine x_getr 1001 (ci := 10) (C := RX11) (T := TX11) (N := 30) 1 hC hin11 hW tp0 rfl rfl ⟨by decide, by decide, rfl, rfl⟩ rfl w_0 dX11_expiresOn_50 qj27 ?_
        refine lv_iconst (v := 2) hx hb dX11_expiresOn_53 (by decide) ?_
        replace hf := ckiE hf
        obtain ⟨h28, hf⟩ := hf
        refine x_iald hC hW tj27 rfl rfl h28 dX11_expiresOn_54 ?_
        refine lv_iconst (v := 1) hx hb dX11_expiresOn_55 (by decide) ?_
        refine lv_iadd hx hb dX11_expiresOn_56 ?_
        refine lv_aload_n hx hb dX11_expiresOn_57 rfl (lv_at hl 1 rfl) ?_
        replace hf := obE hf
        obtain ⟨j29, qj29, hf⟩ := hf
        have tj29 := x_rt hW qj29 12 ⟨by decide, rfl⟩
        refine x_getr 1001 (ci := 10) (C := RX11) (T := TX11) (N := 30) 1 hC hin11 hW tp0 rfl rfl ⟨by decide, by decide, rfl, rfl⟩ rfl w_0 dX11_expiresOn_58 qj29 ?_
        refine lv_iload_n hx hb dX11_expiresOn_61 rfl (lv_at hl 2 rfl) ?_
        refine lv_iload_n hx hb dX11_expiresOn_62 rfl (lv_at hl 3 rfl) ?_
        replace hf := obE hf
        obtain ⟨z30, hz30, hf⟩ := hf
        obtain ⟨r32, S31⟩ := z30
        replace hf := ltE (ltE hf r32 rfl) S31 rfl
        refine x_callS (As := [.int p1, .int p2]) (rest := [.ref (ad j29), .int ((ai S23 j27 (Int32.toNatClampNeg 2)) + 1), .int 0]) (o := (some (.int r32))) (S1 := S31) hC hl.1 hW hS hGs hA (c_X11_refAt l g ad n K H.size F S23 p1 p2 r32 S31 hz30) (va_cwS 2 hts gX11_expiresOn_X11_refAt rfl rfl rfl (by decide +kernel) ⟨Nat.le_of_ble_eq_true rfl, Nat.le_of_ble_eq_true rfl⟩) rfl rfl (Nat.le_of_ble_eq_true rfl) dX11_expiresOn_63 ⟨Nat.le_of_ble_eq_true rfl, Nat.le_of_ble_eq_true rfl⟩ (fun H locs hPz30 hW hS => ?_)
        refine W.eq (g2 := F0 m 66 ls [.int r32, .ref (ad j29), .int ((ai S23 j27 (Int32.toNatClampNeg 2)) + 1), .int 0]) rfl ?_
        refine lv_iconst (v := 2) hx hb dX11_expiresOn_66 (by decide) ?_
        refine lv_iadd hx hb dX11_expiresOn_67 ?_
        replace hf := ckiE hf
        obtain ⟨h34, hf⟩ := hf
        refine x_iald hC hW tj29 rfl rfl h34 dX11_expiresOn_68 ?_
        refine lv_isub hx hb dX11_expiresOn_69 ?_
        refine lv_aload_n hx hb dX11_expiresOn_70 rfl (lv_at hl 1 rfl) ?_
        refine lv_iload_n hx hb dX11_expiresOn_71 rfl (lv_at hl 0 rfl) ?_
        refine lv_iconst (v := 0) hx hb dX11_expiresOn_72 (by decide) ?_
        replace hf := obE hf
        obtain ⟨z35, hz35, hf⟩ := hf
        obtain ⟨r37, S36⟩ := z35
        replace hf := ltE (ltE hf r37 rfl) S36 rfl
        refine x_callV (As := [.int x16, .int 0]) (rest := [.int (((ai S23 j27 (Int32.toNatClampNeg 2)) + 1) - (ai S31 j29 (Int32.toNatClampNeg (r32 + 2)))), .int 0]) (o := (some (.int r37))) (S1 := S36) hC hl.1 hW hS hGs hA tp0 rfl (show vwCl[10]? = some (RX11, TX11, 30) ∧ 10 < 11 from ⟨rfl, by decide⟩) (c_X11_classValue l g ad n K H.size F S31 p0 x16 ((0 : Int32)) tp0 r37 S36 hz35) (cwV 2 hts gX11_expiresOn_X11_classValue rfl rfl rfl (by decide +kernel) ⟨Nat.le_of_ble_eq_true rfl, Nat.le_of_ble_eq_true rfl⟩) rfl rfl (Nat.le_of_ble_eq_true rfl) dX11_expiresOn_73 ⟨Nat.le_of_ble_eq_true rfl, Nat.le_of_ble_eq_true rfl⟩ (fun H locs hPz35 hW hS => ?_)
        refine W.eq (g2 := F0 m 76 ls [.int r37, .int (((ai S23 j27 (Int32.toNatClampNeg 2)) + 1) - (ai S31 j29 (Int32.toNatClampNeg (r32 + 2)))), .int 0]) rfl ?_
        refine lv_isub hx hb dX11_expiresOn_76 ?_
        refine va_mmax hx hb (hml.trans hl.1.symm) hown w_1 w_2 w_3 w_4 (Nat.le_of_ble_eq_true rfl) (Nat.le_of_ble_eq_true rfl) (Nat.zero_le _) (Nat.zero_le _) dX11_expiresOn_77 ?_
        refine lv_topi (fun x39 ex39 => ?_)
        replace hf := ltE hf x39 ex39
        refine lv_istore (lv' := [(4, .int x39), (3, .int x16), (0, .ref (ad p0)), (1, .int p1), (2, .int p2)]) hx hb dX11_expiresOn_80 hl (by decide) rfl (fun ls hl => ?_)
        refine lv_aload_n hx hb dX11_expiresOn_82 rfl (lv_at hl 2 rfl) ?_
        replace hf := obE hf
        obtain ⟨j40, qj40, hf⟩ := hf
        have tj40 := x_rt hW qj40 12 ⟨by decide, rfl⟩
        refine x_getr 1001 (ci := 10) (C := RX11) (T := TX11) (N := 30) 1 hC hin11 hW tp0 rfl rfl ⟨by decide, by decide, rfl, rfl⟩ rfl w_0 dX11_expiresOn_83 qj40 ?_
        refine lv_iload_n hx hb dX11_expiresOn_86 rfl (lv_at hl 3 rfl) ?_
        refine lv_iload_n hx hb dX11_expiresOn_87 rfl (lv_at hl 4 rfl) ?_
        replace hf := obE hf
        obtain ⟨z41, hz41, hf⟩ := hf
        obtain ⟨r43, S42⟩ := z41
        replace hf := ltE (ltE hf r43 rfl) S42 rfl
        refine x_callS (As := [.int p1, .int p2]) (rest := [.ref (ad j40)]) (o := (some (.int r43))) (S1 := S42) hC hl.1 hW hS hGs hA (c_X11_refAt l g ad n K H.size F S36 p1 p2 r43 S42 hz41) (va_cwS 2 hts gX11_expiresOn_X11_refAt rfl rfl rfl (by decide +kernel) ⟨Nat.le_of_ble_eq_true rfl, Nat.le_of_ble_eq_true rfl⟩) rfl rfl (Nat.le_of_ble_eq_true rfl) dX11_expiresOn_88 ⟨Nat.le_of_ble_eq_true rfl, Nat.le_of_ble_eq_true rfl⟩ (fun H locs hPz41 hW hS => ?_)
        refine W.eq (g2 := F0 m 91 ls [.int r43, .ref (ad j40)]) rfl ?_
        refine lv_iconst (v := 2) hx hb dX11_expiresOn_91 (by decide) ?_
        refine lv_iadd hx hb dX11_expiresOn_92 ?_
        replace hf := ckiE hf
        obtain ⟨h45, hf⟩ := hf
        refine x_iald hC hW tj40 rfl rfl h45 dX11_expiresOn_93 ?_
        refine lv_iload hx hb dX11_expiresOn_94 (lv_at hl 0 rfl) ?_
        refine lv_iadd hx hb dX11_expiresOn_96 ?_
        refine lv_aload_n hx hb dX11_expiresOn_97 rfl (lv_at hl 2 rfl) ?_
        refine lv_iload_n hx hb dX11_expiresOn_98 rfl (lv_at hl 1 rfl) ?_
        replace hf := obE hf
        obtain ⟨z46, hz46, hf⟩ := hf
        obtain ⟨r48, S47⟩ := z46
        replace hf := ltE (ltE hf r48 rfl) S47 rfl
        refine x_callV (As := [.int x16]) (rest := [.int ((ai S42 j40 (Int32.toNatClampNeg (r43 + 2))) + x39)]) (o := (some (.int r48))) (S1 := S47) hC hl.1 hW hS hGs hA tp0 rfl (show vwCl[10]? = some (RX11, TX11, 30) ∧ 10 < 11 from ⟨rfl, by decide⟩) (c_X11_ladder l g ad n K H.size F S42 p0 x16 tp0 r48 S47 hz46) (cwV 1 hts gX11_expiresOn_X11_ladder rfl rfl rfl (by decide +kernel) ⟨Nat.le_of_ble_eq_true rfl, Nat.le_of_ble_eq_true rfl⟩) rfl rfl (Nat.le_of_ble_eq_true rfl) dX11_expiresOn_99 ⟨Nat.le_of_ble_eq_true rfl, Nat.le_of_ble_eq_true rfl⟩ (fun H locs hPz46 hW hS => ?_)
        refine W.eq (g2 := F0 m 102 ls [.int r48, .int ((ai S42 j40 (Int32.toNatClampNeg (r43 + 2))) + x39)]) rfl ?_
        refine lv_iadd hx hb dX11_expiresOn_102 ?_
        obtain ⟨e1, e2⟩ := so2 hf
        subst e1
        subst e2
        exact W.iret (v := ((ai S42 j40 (Int32.toNatClampNeg (r43 + 2))) + x39) + r48) hx hb hr (fun t ht hWm => ⟨⟨rfl, by unfold QB; rw [ht]; exact ⟨hW, trivial⟩⟩, hS.F ht⟩) hS.2.2 dX11_expiresOn_103 hlk
      · replace hf := ifF (fun q => q c26) hf
        refine lv_iconst (v := -1) hx hb dX11_expiresOn_46 (by decide) ?_
        obtain ⟨e1, e2⟩ := so2 hf
        subst e1
        subst e2
        exact W.iret (v := (-1)) hx hb hr (fun t ht hWm => ⟨⟨rfl, by unfold QB; rw [ht]; exact ⟨hW, trivial⟩⟩, hS.F ht⟩) hS.2.2 dX11_expiresOn_47 hlk
  · replace hf := ifF (fun q => q c9) hf
    refine lv_iconst (v := 0) hx hb dX11_expiresOn_13 (by decide) ?_
    obtain ⟨e1, e2⟩ := so2 hf
    subst e1
    subst e2
    exact W.iret (v := 0) hx hb hr (fun t ht hWm => ⟨⟨rfl, by unfold QB; rw [ht]; exact ⟨hW, trivial⟩⟩, hS.F ht⟩) hS.2.2 dX11_expiresOn_14 hlk
set_option maxHeartbeats 4000000 in
set_option maxRecDepth 100000 in
theorem c_X11_isKeptRef (l : Launch) (g : GP) (ad : Nat → Nat) (n : Nat) (K : Nat → Nat) (sz F : Nat) (S0 : St) (p0 : Nat) (p1 : Int32) (p2 : Int32) (tp0 : p0 < n ∧ K p0 = 10) (r9 : Int32) (S9 : St) (hf : f_X11_isKeptRef F S0 p0 p1 p2 = some (r9, S9)) : Met l yX11_isKeptRef wsX11_isKeptRef { frames := 3, cells := 0, slots := 0, locals := 65 } (va_Pc [.ref (ad p0), .int p1, .int p2] (PB g ad n K S0 sz)) (QR (some (.int r9)) (QB g ad n K S9 (dA ad n sz) (True)) (dA ad n sz)) 0 0 (dA ad n sz) := by
  refine Met.ofW (cc := cX11_isKeptRef) (maxL := 6) (ret := (some .boolean)) (by decide) rfl ?_
  intro p e s m args below meth c s₁ B hml hv
  obtain ⟨rfl, hsz, hW, hK, hGs⟩ := x_start hv
  subst hsz
  have hx := B.exec
  have hb := B.bytes
  have hr := B.returns
  have hts := atoms_spec (ws := wsX11_isKeptRef) B.pre
  have hown : s.vm.findClass RX11 = some m.cls := findClass_of_methodNamed B.named
  have hlk := B.notSynchronized
  have hC : Cx g p s m _ c cX11_isKeptRef RX11 wsX11_isKeptRef 6 := ⟨hx, hb, hml, hown, hts, hK⟩
  have hA : ∀ q : Nat, s.heap.size ≤ q → dA ad n s.heap.size q := fun q h => Or.inr h
  have hS : va_S (dA ad n s.heap.size) s.heap s.heap [] := va_S.rf
  have hl := lv_entry ([.ref (ad p0), .int p1, .int p2]) (n := 6) (Nat.le_of_ble_eq_true rfl)
  rw [lg_entry_eq]
  generalize (lg_sl ([.ref (ad p0), .int p1, .int p2]) ++ List.replicate (6 - (lg_sl ([.ref (ad p0), .int p1, .int p2])).length) Slot.unset).toArray = ls at hl ⊢
  have hl : lv_has ls 6 [(0, .ref (ad p0)), (1, .int p1), (2, .int p2)] := hl
  have hin11 : ∀ w ∈ wsX110, w ∈ wsX11_isKeptRef := by decide +kernel
  have w_0 := hts (.fieldLink RX11 17 "MailSpoolModel" "net" "[I") (by decide +kernel)
  have hGE := hGs.2.2.2.2.2.2.1
  have hGM := hGs.2.2.2.2.2.2.2.1
  have L21 : ∀ (fu21 : Nat) (S0 : St) (v0 : Nat) (v2 : Int32) (v3 : Int32) (v4 : Int32) (v5 : Int32) (tv0 : v0 < n ∧ K v0 = 10) (H : Heap) (locs : List Loc) (ls : Array Slot), f_X11_isKeptRef_L21 F fu21 S0 v0 v2 v3 v4 v5 = some (r9, S9) → Wb g ad n K S0 (dA ad n s.heap.size) H → va_S (dA ad n s.heap.size) s.heap H locs → lv_has ls 6 [(0, .ref (ad v0)), (2, .int v2), (3, .int v3), (4, .int v4), (5, .int v5)] → W p l e (headSpec wsX11_isKeptRef { frames := 3, cells := 0, slots := 0, locals := 65 }).room s m (List.toArray [.ref (ad p0), .int p1, .int p2]) below meth c H locs 0 0 (MQ below (QR (some (.int r9)) (QB g ad n K S9 (dA ad n s.heap.size) (True)) (dA ad n s.heap.size)) (List.toArray [.ref (ad p0), .int p1, .int p2]) s 0 0 (dA ad n s.heap.size)) (F0 m 21 ls []) := by
    intro fu21
    induction fu21 with
    | zero =>
      intro S0 v0 v2 v3 v4 v5 tv0 H locs ls hf
      cases hf
    | succ fu21 ih21 =>
      have L67 : ∀ (S0 : St) (v0 : Nat) (v2 : Int32) (v3 : Int32) (v5 : Int32) (s0 : Int32) (s1 : Int32) (tv0 : v0 < n ∧ K v0 = 10) (H : Heap) (locs : List Loc) (ls : Array Slot), f_X11_isKeptRef_L67 F (fun a0 a1 a2 a3 a4 a5 => f_X11_isKeptRef_L21 F fu21 a0 a1 a2 a3 a4 a5) S0 v0 v2 v3 v5 s0 s1 = some (r9, S9) → Wb g ad n K S0 (dA ad n s.heap.size) H → va_S (dA ad n s.heap.size) s.heap H locs → lv_has ls 6 [(0, .ref (ad v0)), (2, .int v2), (3, .int v3), (5, .int v5)] → W p l e (headSpec wsX11_isKeptRef { frames := 3, cells := 0, slots := 0, locals := 65 }).room s m (List.toArray [.ref (ad p0), .int p1, .int p2]) below meth c H locs 0 0 (MQ below (QR (some (.int r9)) (QB g ad n K S9 (dA ad n s.heap.size) (True)) (dA ad n s.heap.size)) (List.toArray [.ref (ad p0), .int p1, .int p2]) s 0 0 (dA ad n s.heap.size)) (F0 m 67 ls [.int s0, .int s1]) := by
        intro S0 v0 v2 v3 v5 s0 s1 tv0 H locs ls hf hW hS hl
        unfold f_X11_isKeptRef_L67 at hf
        refine lv_iadd hx hb dX11_isKeptRef_67 ?_
        refine lv_topi (fun x3 ex3 => ?_)
        replace hf := ltE hf x3 ex3
        refine lv_istore (lv' := [(4, .int x3), (0, .ref (ad v0)), (2, .int v2), (3, .int v3), (5, .int v5)]) hx hb dX11_isKeptRef_68 hl (by decide) rfl (fun ls hl => ?_)
        obtain ⟨x4, ex4⟩ : ∃ z : Int32, z = v5 + 1 := ⟨_, rfl⟩
        replace hf := ltE hf x4 ex4
        refine lv_iinc (v := x4) (lv' := [(5, .int x4), (4, .int x3), (0, .ref (ad v0)), (2, .int v2), (3, .int v3)]) hx hb dX11_isKeptRef_70 hl (k := 4) rfl (by rw [ex4]; rfl) (by decide) rfl (fun ls hl => ?_)
        refine lv_goto (tgt := 21) hx hb dX11_isKeptRef_73 (by decide) ?_
        exact ih21 S0 v0 v2 v3 x3 x4 tv0 _ _ _ hf hW hS (lv_sub hl [2, 3, 4, 1, 0] rfl)
      have L66 : ∀ (S0 : St) (v0 : Nat) (v2 : Int32) (v3 : Int32) (v5 : Int32) (s0 : Int32) (tv0 : v0 < n ∧ K v0 = 10) (H : Heap) (locs : List Loc) (ls : Array Slot), f_X11_isKeptRef_L66 F (fun a0 a1 a2 a3 a4 a5 => f_X11_isKeptRef_L21 F fu21 a0 a1 a2 a3 a4 a5) S0 v0 v2 v3 v5 s0 = some (r9, S9) → Wb g ad n K S0 (dA ad n s.heap.size) H → va_S (dA ad n s.heap.size) s.heap H locs → lv_has ls 6 [(0, .ref (ad v0)), (2, .int v2), (3, .int v3), (5, .int v5)] → W p l e (headSpec wsX11_isKeptRef { frames := 3, cells := 0, slots := 0, locals := 65 }).room s m (List.toArray [.ref (ad p0), .int p1, .int p2]) below meth c H locs 0 0 (MQ below (QR (some (.int r9)) (QB g ad n K S9 (dA ad n s.heap.size) (True)) (dA ad n s.heap.size)) (List.toArray [.ref (ad p0), .int p1, .int p2]) s 0 0 (dA ad n s.heap.size)) (F0 m 66 ls [.int s0]) := by
        intro S0 v0 v2 v3 v5 s0 tv0 H locs ls hf hW hS hl
        unfold f_X11_isKeptRef_L66 at hf
        refine lv_iconst (v := 0) hx hb dX11_isKeptRef_66 (by decide) ?_
        exact L67 S0 v0 v2 v3 v5 0 s0 tv0 _ _ _ hf hW hS (lv_sub hl [0, 1, 2, 3] rfl)
      intro S0 v0 v2 v3 v4 v5 tv0 H locs ls hf hW hS hl
      unfold f_X11_isKeptRef_L21 at hf
      refine lv_iload hx hb dX11_isKeptRef_21 (lv_at hl 4 rfl) ?_
      refine lv_aload_n hx hb dX11_isKeptRef_23 rfl (lv_at hl 0 rfl) ?_
      replace hf := obE hf
      obtain ⟨j25, qj25, hf⟩ := hf
      have tj25 := x_rt hW qj25 12 ⟨by decide, rfl⟩
      refine x_getr 1001 (ci := 10) (C := RX11) (T := TX11) (N := 30) 1 hC hin11 hW tv0 rfl rfl ⟨by decide, by decide, rfl, rfl⟩ rfl w_0 dX11_isKeptRef_24 qj25 ?_
      refine lv_bipush (v := 7) hx hb dX11_isKeptRef_27 (by decide) ?_
      replace hf := ckiE hf
      obtain ⟨h26, hf⟩ := hf
      refine x_iald hC hW tj25 rfl rfl h26 dX11_isKeptRef_29 ?_
      refine lv_icmp_ge (tgt := 76) hx hb dX11_isKeptRef_30 (by decide) (fun c27 => ?_) (fun c27 => ?_)
      · replace hf := ifT c27 hf
        refine lv_iload hx hb dX11_isKeptRef_76 (lv_at hl 3 rfl) ?_
        refine lv_aload_n hx hb dX11_isKeptRef_78 rfl (lv_at hl 0 rfl) ?_
        refine lv_iload_n hx hb dX11_isKeptRef_79 rfl (lv_at hl 2 rfl) ?_
        refine lv_iconst (v := 1) hx hb dX11_isKeptRef_80 (by decide) ?_
        replace hf := obE hf
        obtain ⟨z28, hz28, hf⟩ := hf
        obtain ⟨r30, S29⟩ := z28
        replace hf := ltE (ltE hf r30 rfl) S29 rfl
        refine x_callV (As := [.int v3, .int 1]) (rest := [.int v4]) (o := (some (.int r30))) (S1 := S29) hC hl.1 hW hS hGs hA tv0 rfl (show vwCl[10]? = some (RX11, TX11, 30) ∧ 10 < 11 from ⟨rfl, by decide⟩) (c_X11_classValue l g ad n K H.size F S0 v0 v3 ((1 : Int32)) tv0 r30 S29 hz28) (cwV 2 hts gX11_isKeptRef_X11_classValue rfl rfl rfl (by decide +kernel) ⟨Nat.le_of_ble_eq_true rfl, Nat.le_of_ble_eq_true rfl⟩) rfl rfl (Nat.le_of_ble_eq_true rfl) dX11_isKeptRef_81 ⟨Nat.le_of_ble_eq_true rfl, Nat.le_of_ble_eq_true rfl⟩ (fun H locs hPz28 hW hS => ?_)
        refine W.eq (g2 := F0 m 84 ls [.int r30, .int v4]) rfl ?_
        refine lv_icmp_ge (tgt := 91) hx hb dX11_isKeptRef_84 (by decide) (fun c32 => ?_) (fun c32 => ?_)
        · replace hf := ifT c32 hf
          refine lv_iconst (v := 0) hx hb dX11_isKeptRef_91 (by decide) ?_
          obtain ⟨e1, e2⟩ := so2 hf
          subst e1
          subst e2
          exact W.zret (v := 0) hx hb hr rfl (fun t ht hWm => ⟨⟨rfl, by unfold QB; rw [ht]; exact ⟨hW, trivial⟩⟩, hS.F ht⟩) hS.2.2 dX11_isKeptRef_92 hlk
        · replace hf := ifF c32 hf
          refine lv_iconst (v := 1) hx hb dX11_isKeptRef_87 (by decide) ?_
          refine lv_goto (tgt := 92) hx hb dX11_isKeptRef_88 (by decide) ?_
          obtain ⟨e1, e2⟩ := so2 hf
          subst e1
          subst e2
          exact W.zret (v := 1) hx hb hr rfl (fun t ht hWm => ⟨⟨rfl, by unfold QB; rw [ht]; exact ⟨hW, trivial⟩⟩, hS.F ht⟩) hS.2.2 dX11_isKeptRef_92 hlk
      · replace hf := ifF c27 hf
        refine lv_iload hx hb dX11_isKeptRef_33 (lv_at hl 3 rfl) ?_
        refine lv_aload_n hx hb dX11_isKeptRef_35 rfl (lv_at hl 0 rfl) ?_
        refine lv_iload hx hb dX11_isKeptRef_36 (lv_at hl 4 rfl) ?_
        refine lv_iload_n hx hb dX11_isKeptRef_38 rfl (lv_at hl 1 rfl) ?_
        replace hf := obE hf
        obtain ⟨z33, hz33, hf⟩ := hf
        obtain ⟨r35, S34⟩ := z33
        replace hf := ltE (ltE hf r35 rfl) S34 rfl
        refine x_callV (As := [.int v5, .int v2]) (rest := [.int v4]) (o := (some (.int r35))) (S1 := S34) hC hl.1 hW hS hGs hA tv0 rfl (show vwCl[10]? = some (RX11, TX11, 30) ∧ 10 < 11 from ⟨rfl, by decide⟩) (c_X11_isLive l g ad n K H.size F S0 v0 v5 v2 tv0 r35 S34 hz33) (cwV 2 hts gX11_isKeptRef_X11_isLive rfl rfl rfl (by decide +kernel) ⟨Nat.le_of_ble_eq_true rfl, Nat.le_of_ble_eq_true rfl⟩) rfl rfl (Nat.le_of_ble_eq_true rfl) dX11_isKeptRef_39 ⟨Nat.le_of_ble_eq_true rfl, Nat.le_of_ble_eq_true rfl⟩ (fun H locs hPz33 hW hS => ?_)
        refine W.eq (g2 := F0 m 42 ls [.int r35, .int v4]) rfl ?_
        refine lv_if_eq (tgt := 66) hx hb dX11_isKeptRef_42 (by decide) (fun c37 => ?_) (fun c37 => ?_)
        · replace hf := ifT c37 hf
          exact L66 S34 v0 v2 v3 v5 v4 tv0 _ _ _ hf hW hS (lv_sub hl [0, 1, 2, 4] rfl)
        · replace hf := ifF c37 hf
          refine lv_aload_n hx hb dX11_isKeptRef_45 rfl (lv_at hl 0 rfl) ?_
          replace hf := obE hf
          obtain ⟨j38, qj38, hf⟩ := hf
          have tj38 := x_rt hW qj38 12 ⟨by decide, rfl⟩
          refine x_getr 1001 (ci := 10) (C := RX11) (T := TX11) (N := 30) 1 hC hin11 hW tv0 rfl rfl ⟨by decide, by decide, rfl, rfl⟩ rfl w_0 dX11_isKeptRef_46 qj38 ?_
          refine lv_iload hx hb dX11_isKeptRef_49 (lv_at hl 4 rfl) ?_
          refine lv_iload_n hx hb dX11_isKeptRef_51 rfl (lv_at hl 1 rfl) ?_
          replace hf := obE hf
          obtain ⟨z39, hz39, hf⟩ := hf
          obtain ⟨r41, S40⟩ := z39
          replace hf := ltE (ltE hf r41 rfl) S40 rfl
          refine x_callS (As := [.int v5, .int v2]) (rest := [.ref (ad j38), .int v4]) (o := (some (.int r41))) (S1 := S40) hC hl.1 hW hS hGs hA (c_X11_refAt l g ad n K H.size F S34 v5 v2 r41 S40 hz39) (va_cwS 2 hts gX11_isKeptRef_X11_refAt rfl rfl rfl (by decide +kernel) ⟨Nat.le_of_ble_eq_true rfl, Nat.le_of_ble_eq_true rfl⟩) rfl rfl (Nat.le_of_ble_eq_true rfl) dX11_isKeptRef_52 ⟨Nat.le_of_ble_eq_true rfl, Nat.le_of_ble_eq_true rfl⟩ (fun H locs hPz39 hW hS => ?_)
          refine W.eq (g2 := F0 m 55 ls [.int r41, .ref (ad j38), .int v4]) rfl ?_
          refine lv_iconst (v := 1) hx hb dX11_isKeptRef_55 (by decide) ?_
          refine lv_iadd hx hb dX11_isKeptRef_56 ?_
          replace hf := ckiE hf
          obtain ⟨h43, hf⟩ := hf
          refine x_iald hC hW tj38 rfl rfl h43 dX11_isKeptRef_57 ?_
          refine lv_iload_n hx hb dX11_isKeptRef_58 rfl (lv_at hl 2 rfl) ?_
          refine lv_icmp_ne (tgt := 66) hx hb dX11_isKeptRef_59 (by decide) (fun c44 => ?_) (fun c44 => ?_)
          · replace hf := ifT c44 hf
            exact L66 S40 v0 v2 v3 v5 v4 tv0 _ _ _ hf hW hS (lv_sub hl [0, 1, 2, 4] rfl)
          · replace hf := ifF (fun q => q c44) hf
            refine lv_iconst (v := 1) hx hb dX11_isKeptRef_62 (by decide) ?_
            refine lv_goto (tgt := 67) hx hb dX11_isKeptRef_63 (by decide) ?_
            exact L67 S40 v0 v2 v3 v5 1 v4 tv0 _ _ _ hf hW hS (lv_sub hl [0, 1, 2, 4] rfl)
  unfold f_X11_isKeptRef at hf
  refine lv_aload_n hx hb dX11_isKeptRef_0 rfl (lv_at hl 0 rfl) ?_
  replace hf := obE hf
  obtain ⟨j45, qj45, hf⟩ := hf
  have tj45 := x_rt hW qj45 12 ⟨by decide, rfl⟩
  refine x_getr 1001 (ci := 10) (C := RX11) (T := TX11) (N := 30) 1 hC hin11 hW tp0 rfl rfl ⟨by decide, by decide, rfl, rfl⟩ rfl w_0 dX11_isKeptRef_1 qj45 ?_
  refine lv_iload_n hx hb dX11_isKeptRef_4 rfl (lv_at hl 1 rfl) ?_
  refine lv_iload_n hx hb dX11_isKeptRef_5 rfl (lv_at hl 2 rfl) ?_
  replace hf := obE hf
  obtain ⟨z46, hz46, hf⟩ := hf
  obtain ⟨r48, S47⟩ := z46
  replace hf := ltE (ltE hf r48 rfl) S47 rfl
  refine x_callS (As := [.int p1, .int p2]) (rest := [.ref (ad j45)]) (o := (some (.int r48))) (S1 := S47) hC hl.1 hW hS hGs hA (c_X11_refAt l g ad n K s.heap.size F S0 p1 p2 r48 S47 hz46) (va_cwS 2 hts gX11_isKeptRef_X11_refAt rfl rfl rfl (by decide +kernel) ⟨Nat.le_of_ble_eq_true rfl, Nat.le_of_ble_eq_true rfl⟩) rfl rfl (Nat.le_of_ble_eq_true rfl) dX11_isKeptRef_6 ⟨Nat.le_of_ble_eq_true rfl, Nat.le_of_ble_eq_true rfl⟩ (fun H locs hPz46 hW hS => ?_)
  refine W.eq (g2 := F0 m 9 ls [.int r48, .ref (ad j45)]) rfl ?_
  refine lv_iconst (v := 1) hx hb dX11_isKeptRef_9 (by decide) ?_
  refine lv_iadd hx hb dX11_isKeptRef_10 ?_
  replace hf := ckiE hf
  obtain ⟨h50, hf⟩ := hf
  refine x_iald hC hW tj45 rfl rfl h50 dX11_isKeptRef_11 ?_
  refine lv_topi (fun x51 ex51 => ?_)
  replace hf := ltE hf x51 ex51
  refine lv_istore_n (lv' := [(3, .int x51), (0, .ref (ad p0)), (1, .int p1), (2, .int p2)]) hx hb dX11_isKeptRef_12 rfl hl (by decide) rfl (fun ls hl => ?_)
  refine lv_iconst (v := 0) hx hb dX11_isKeptRef_13 (by decide) ?_
  refine lv_istore (lv' := [(4, .int 0), (3, .int x51), (0, .ref (ad p0)), (1, .int p1), (2, .int p2)]) hx hb dX11_isKeptRef_14 hl (by decide) rfl (fun ls hl => ?_)
  refine lv_iload_n hx hb dX11_isKeptRef_16 rfl (lv_at hl 3 rfl) ?_
  refine lv_iconst (v := 1) hx hb dX11_isKeptRef_17 (by decide) ?_
  refine lv_iadd hx hb dX11_isKeptRef_18 ?_
  refine lv_topi (fun x52 ex52 => ?_)
  replace hf := ltE hf x52 ex52
  refine lv_istore (lv' := [(5, .int x52), (4, .int 0), (3, .int x51), (0, .ref (ad p0)), (1, .int p1), (2, .int p2)]) hx hb dX11_isKeptRef_19 hl (by decide) rfl (fun ls hl => ?_)
  exact L21 F S47 p0 p2 x51 0 x52 tp0 _ _ _ hf hW hS (lv_sub hl [3, 5, 2, 1, 0] rfl)
set_option maxHeartbeats 4000000 in
set_option maxRecDepth 100000 in
theorem c_X11_isKept (l : Launch) (g : GP) (ad : Nat → Nat) (n : Nat) (K : Nat → Nat) (sz F : Nat) (S0 : St) (p0 : Nat) (p1 : Int32) (p2 : Int32) (tp0 : p0 < n ∧ K p0 = 10) (r9 : Int32) (S9 : St) (hf : f_X11_isKept F S0 p0 p1 p2 = some (r9, S9)) : Met l yX11_isKept wsX11_isKept { frames := 4, cells := 0, slots := 0, locals := 90 } (va_Pc [.ref (ad p0), .int p1, .int p2] (PB g ad n K S0 sz)) (QR (some (.int r9)) (QB g ad n K S9 (dA ad n sz) (True)) (dA ad n sz)) 0 0 (dA ad n sz) := by
  refine Met.ofW (cc := cX11_isKept) (maxL := 3) (ret := (some .boolean)) (by decide) rfl ?_
  intro p e s m args below meth c s₁ B hml hv
  obtain ⟨rfl, hsz, hW, hK, hGs⟩ := x_start hv
  subst hsz
  have hx := B.exec
  have hb := B.bytes
  have hr := B.returns
  have hts := atoms_spec (ws := wsX11_isKept) B.pre
  have hown : s.vm.findClass RX11 = some m.cls := findClass_of_methodNamed B.named
  have hlk := B.notSynchronized
  have hC : Cx g p s m _ c cX11_isKept RX11 wsX11_isKept 3 := ⟨hx, hb, hml, hown, hts, hK⟩
  have hA : ∀ q : Nat, s.heap.size ≤ q → dA ad n s.heap.size q := fun q h => Or.inr h
  have hS : va_S (dA ad n s.heap.size) s.heap s.heap [] := va_S.rf
  have hl := lv_entry ([.ref (ad p0), .int p1, .int p2]) (n := 3) (Nat.le_of_ble_eq_true rfl)
  rw [lg_entry_eq]
  generalize (lg_sl ([.ref (ad p0), .int p1, .int p2]) ++ List.replicate (3 - (lg_sl ([.ref (ad p0), .int p1, .int p2])).length) Slot.unset).toArray = ls at hl ⊢
  have hl : lv_has ls 3 [(0, .ref (ad p0)), (1, .int p1), (2, .int p2)] := hl
  have hGE := hGs.2.2.2.2.2.2.1
  have hGM := hGs.2.2.2.2.2.2.2.1
  unfold f_X11_isKept at hf
  refine lv_aload_n hx hb dX11_isKept_0 rfl (lv_at hl 0 rfl) ?_
  refine lv_aload_n hx hb dX11_isKept_1 rfl (lv_at hl 0 rfl) ?_
  refine lv_iload_n hx hb dX11_isKept_2 rfl (lv_at hl 1 rfl) ?_
  refine lv_iload_n hx hb dX11_isKept_3 rfl (lv_at hl 2 rfl) ?_
  replace hf := obE hf
  obtain ⟨z1, hz1, hf⟩ := hf
  obtain ⟨r3, S2⟩ := z1
  replace hf := ltE (ltE hf r3 rfl) S2 rfl
  refine x_callV (As := [.int p1, .int p2]) (rest := [.ref (ad p0)]) (o := (some (.int r3))) (S1 := S2) hC hl.1 hW hS hGs hA tp0 rfl (show vwCl[10]? = some (RX11, TX11, 30) ∧ 10 < 11 from ⟨rfl, by decide⟩) (c_X11_isRef l g ad n K s.heap.size F S0 p0 p1 p2 tp0 r3 S2 hz1) (cwV 2 hts gX11_isKept_X11_isRef rfl rfl rfl (by decide +kernel) ⟨Nat.le_of_ble_eq_true rfl, Nat.le_of_ble_eq_true rfl⟩) rfl rfl (Nat.le_of_ble_eq_true rfl) dX11_isKept_4 ⟨Nat.le_of_ble_eq_true rfl, Nat.le_of_ble_eq_true rfl⟩ (fun H locs hPz1 hW hS => ?_)
  refine W.eq (g2 := F0 m 7 ls [.int r3, .ref (ad p0)]) rfl ?_
  replace hf := obE hf
  obtain ⟨z5, hz5, hf⟩ := hf
  obtain ⟨r7, S6⟩ := z5
  replace hf := ltE (ltE hf r7 rfl) S6 rfl
  refine x_callV (As := [.int r3]) (rest := []) (o := (some (.int r7))) (S1 := S6) hC hl.1 hW hS hGs hA tp0 rfl (show vwCl[10]? = some (RX11, TX11, 30) ∧ 10 < 11 from ⟨rfl, by decide⟩) (c_X11_passes l g ad n K H.size F S2 p0 r3 tp0 r7 S6 hz5) (cwV 1 hts gX11_isKept_X11_passes rfl rfl rfl (by decide +kernel) ⟨Nat.le_of_ble_eq_true rfl, Nat.le_of_ble_eq_true rfl⟩) rfl rfl (Nat.le_of_ble_eq_true rfl) dX11_isKept_7 ⟨Nat.le_of_ble_eq_true rfl, Nat.le_of_ble_eq_true rfl⟩ (fun H locs hPz5 hW hS => ?_)
  refine W.eq (g2 := F0 m 10 ls [.int r7]) rfl ?_
  refine lv_if_eq (tgt := 35) hx hb dX11_isKept_10 (by decide) (fun c9 => ?_) (fun c9 => ?_)
  · replace hf := ifT c9 hf
    refine lv_iconst (v := 0) hx hb dX11_isKept_35 (by decide) ?_
    obtain ⟨e1, e2⟩ := so2 hf
    subst e1
    subst e2
    exact W.zret (v := 0) hx hb hr rfl (fun t ht hWm => ⟨⟨rfl, by unfold QB; rw [ht]; exact ⟨hW, trivial⟩⟩, hS.F ht⟩) hS.2.2 dX11_isKept_36 hlk
  · replace hf := ifF c9 hf
    refine lv_aload_n hx hb dX11_isKept_13 rfl (lv_at hl 0 rfl) ?_
    refine lv_iload_n hx hb dX11_isKept_14 rfl (lv_at hl 1 rfl) ?_
    refine lv_iload_n hx hb dX11_isKept_15 rfl (lv_at hl 2 rfl) ?_
    replace hf := obE hf
    obtain ⟨z10, hz10, hf⟩ := hf
    obtain ⟨r12, S11⟩ := z10
    replace hf := ltE (ltE hf r12 rfl) S11 rfl
    refine x_callV (As := [.int p1, .int p2]) (rest := []) (o := (some (.int r12))) (S1 := S11) hC hl.1 hW hS hGs hA tp0 rfl (show vwCl[10]? = some (RX11, TX11, 30) ∧ 10 < 11 from ⟨rfl, by decide⟩) (c_X11_isLive l g ad n K H.size F S6 p0 p1 p2 tp0 r12 S11 hz10) (cwV 2 hts gX11_isKept_X11_isLive rfl rfl rfl (by decide +kernel) ⟨Nat.le_of_ble_eq_true rfl, Nat.le_of_ble_eq_true rfl⟩) rfl rfl (Nat.le_of_ble_eq_true rfl) dX11_isKept_16 ⟨Nat.le_of_ble_eq_true rfl, Nat.le_of_ble_eq_true rfl⟩ (fun H locs hPz10 hW hS => ?_)
    refine W.eq (g2 := F0 m 19 ls [.int r12]) rfl ?_
    refine lv_if_eq (tgt := 35) hx hb dX11_isKept_19 (by decide) (fun c14 => ?_) (fun c14 => ?_)
    · replace hf := ifT c14 hf
      refine lv_iconst (v := 0) hx hb dX11_isKept_35 (by decide) ?_
      obtain ⟨e1, e2⟩ := so2 hf
      subst e1
      subst e2
      exact W.zret (v := 0) hx hb hr rfl (fun t ht hWm => ⟨⟨rfl, by unfold QB; rw [ht]; exact ⟨hW, trivial⟩⟩, hS.F ht⟩) hS.2.2 dX11_isKept_36 hlk
    · replace hf := ifF c14 hf
      refine lv_aload_n hx hb dX11_isKept_22 rfl (lv_at hl 0 rfl) ?_
      refine lv_iload_n hx hb dX11_isKept_23 rfl (lv_at hl 1 rfl) ?_
      refine lv_iload_n hx hb dX11_isKept_24 rfl (lv_at hl 2 rfl) ?_
      replace hf := obE hf
      obtain ⟨z15, hz15, hf⟩ := hf
      obtain ⟨r17, S16⟩ := z15
      replace hf := ltE (ltE hf r17 rfl) S16 rfl
      refine x_callV (As := [.int p1, .int p2]) (rest := []) (o := (some (.int r17))) (S1 := S16) hC hl.1 hW hS hGs hA tp0 rfl (show vwCl[10]? = some (RX11, TX11, 30) ∧ 10 < 11 from ⟨rfl, by decide⟩) (c_X11_isKeptRef l g ad n K H.size F S11 p0 p1 p2 tp0 r17 S16 hz15) (cwV 2 hts gX11_isKept_X11_isKeptRef rfl rfl rfl (by decide +kernel) ⟨Nat.le_of_ble_eq_true rfl, Nat.le_of_ble_eq_true rfl⟩) rfl rfl (Nat.le_of_ble_eq_true rfl) dX11_isKept_25 ⟨Nat.le_of_ble_eq_true rfl, Nat.le_of_ble_eq_true rfl⟩ (fun H locs hPz15 hW hS => ?_)
      refine W.eq (g2 := F0 m 28 ls [.int r17]) rfl ?_
      refine lv_if_eq (tgt := 35) hx hb dX11_isKept_28 (by decide) (fun c19 => ?_) (fun c19 => ?_)
      · replace hf := ifT c19 hf
        refine lv_iconst (v := 0) hx hb dX11_isKept_35 (by decide) ?_
        obtain ⟨e1, e2⟩ := so2 hf
        subst e1
        subst e2
        exact W.zret (v := 0) hx hb hr rfl (fun t ht hWm => ⟨⟨rfl, by unfold QB; rw [ht]; exact ⟨hW, trivial⟩⟩, hS.F ht⟩) hS.2.2 dX11_isKept_36 hlk
      · replace hf := ifF c19 hf
        refine lv_iconst (v := 1) hx hb dX11_isKept_31 (by decide) ?_
        refine lv_goto (tgt := 36) hx hb dX11_isKept_32 (by decide) ?_
        obtain ⟨e1, e2⟩ := so2 hf
        subst e1
        subst e2
        exact W.zret (v := 1) hx hb hr rfl (fun t ht hWm => ⟨⟨rfl, by unfold QB; rw [ht]; exact ⟨hW, trivial⟩⟩, hS.F ht⟩) hS.2.2 dX11_isKept_36 hlk
set_option maxHeartbeats 4000000 in
set_option maxRecDepth 100000 in
theorem c_X11_holdsOn (l : Launch) (g : GP) (ad : Nat → Nat) (n : Nat) (K : Nat → Nat) (sz F : Nat) (S0 : St) (p0 : Nat) (p1 : Int32) (p2 : Int32) (tp0 : p0 < n ∧ K p0 = 10) (r9 : Int32) (S9 : St) (hf : f_X11_holdsOn F S0 p0 p1 p2 = some (r9, S9)) : Met l yX11_holdsOn wsX11_holdsOn { frames := 6, cells := 0, slots := 0, locals := 143 } (va_Pc [.ref (ad p0), .int p1, .int p2] (PB g ad n K S0 sz)) (QR (some (.int r9)) (QB g ad n K S9 (dA ad n sz) (True)) (dA ad n sz)) 0 0 (dA ad n sz) := by
  refine Met.ofW (cc := cX11_holdsOn) (maxL := 3) (ret := (some .int)) (by decide) rfl ?_
  intro p e s m args below meth c s₁ B hml hv
  obtain ⟨rfl, hsz, hW, hK, hGs⟩ := x_start hv
  subst hsz
  have hx := B.exec
  have hb := B.bytes
  have hr := B.returns
  have hts := atoms_spec (ws := wsX11_holdsOn) B.pre
  have hown : s.vm.findClass RX11 = some m.cls := findClass_of_methodNamed B.named
  have hlk := B.notSynchronized
  have hC : Cx g p s m _ c cX11_holdsOn RX11 wsX11_holdsOn 3 := ⟨hx, hb, hml, hown, hts, hK⟩
  have hA : ∀ q : Nat, s.heap.size ≤ q → dA ad n s.heap.size q := fun q h => Or.inr h
  have hS : va_S (dA ad n s.heap.size) s.heap s.heap [] := va_S.rf
  have hl := lv_entry ([.ref (ad p0), .int p1, .int p2]) (n := 3) (Nat.le_of_ble_eq_true rfl)
  rw [lg_entry_eq]
  generalize (lg_sl ([.ref (ad p0), .int p1, .int p2]) ++ List.replicate (3 - (lg_sl ([.ref (ad p0), .int p1, .int p2])).length) Slot.unset).toArray = ls at hl ⊢
  have hl : lv_has ls 3 [(0, .ref (ad p0)), (1, .int p1), (2, .int p2)] := hl
  have hGE := hGs.2.2.2.2.2.2.1
  have hGM := hGs.2.2.2.2.2.2.2.1
  unfold f_X11_holdsOn at hf
  refine lv_aload_n hx hb dX11_holdsOn_0 rfl (lv_at hl 0 rfl) ?_
  refine lv_aload_n hx hb dX11_holdsOn_1 rfl (lv_at hl 0 rfl) ?_
  refine lv_iload_n hx hb dX11_holdsOn_2 rfl (lv_at hl 1 rfl) ?_
  refine lv_iload_n hx hb dX11_holdsOn_3 rfl (lv_at hl 2 rfl) ?_
  replace hf := obE hf
  obtain ⟨z1, hz1, hf⟩ := hf
  obtain ⟨r3, S2⟩ := z1
  replace hf := ltE (ltE hf r3 rfl) S2 rfl
  refine x_callV (As := [.int p1, .int p2]) (rest := [.ref (ad p0)]) (o := (some (.int r3))) (S1 := S2) hC hl.1 hW hS hGs hA tp0 rfl (show vwCl[10]? = some (RX11, TX11, 30) ∧ 10 < 11 from ⟨rfl, by decide⟩) (c_X11_isRef l g ad n K s.heap.size F S0 p0 p1 p2 tp0 r3 S2 hz1) (cwV 2 hts gX11_holdsOn_X11_isRef rfl rfl rfl (by decide +kernel) ⟨Nat.le_of_ble_eq_true rfl, Nat.le_of_ble_eq_true rfl⟩) rfl rfl (Nat.le_of_ble_eq_true rfl) dX11_holdsOn_4 ⟨Nat.le_of_ble_eq_true rfl, Nat.le_of_ble_eq_true rfl⟩ (fun H locs hPz1 hW hS => ?_)
  refine W.eq (g2 := F0 m 7 ls [.int r3, .ref (ad p0)]) rfl ?_
  replace hf := obE hf
  obtain ⟨z5, hz5, hf⟩ := hf
  obtain ⟨r7, S6⟩ := z5
  replace hf := ltE (ltE hf r7 rfl) S6 rfl
  refine x_callV (As := [.int r3]) (rest := []) (o := (some (.int r7))) (S1 := S6) hC hl.1 hW hS hGs hA tp0 rfl (show vwCl[10]? = some (RX11, TX11, 30) ∧ 10 < 11 from ⟨rfl, by decide⟩) (c_X11_passes l g ad n K H.size F S2 p0 r3 tp0 r7 S6 hz5) (cwV 1 hts gX11_holdsOn_X11_passes rfl rfl rfl (by decide +kernel) ⟨Nat.le_of_ble_eq_true rfl, Nat.le_of_ble_eq_true rfl⟩) rfl rfl (Nat.le_of_ble_eq_true rfl) dX11_holdsOn_7 ⟨Nat.le_of_ble_eq_true rfl, Nat.le_of_ble_eq_true rfl⟩ (fun H locs hPz5 hW hS => ?_)
  refine W.eq (g2 := F0 m 10 ls [.int r7]) rfl ?_
  refine lv_if_eq (tgt := 22) hx hb dX11_holdsOn_10 (by decide) (fun c9 => ?_) (fun c9 => ?_)
  · replace hf := ifT c9 hf
    refine lv_iconst (v := 0) hx hb dX11_holdsOn_22 (by decide) ?_
    obtain ⟨e1, e2⟩ := so2 hf
    subst e1
    subst e2
    exact W.iret (v := 0) hx hb hr (fun t ht hWm => ⟨⟨rfl, by unfold QB; rw [ht]; exact ⟨hW, trivial⟩⟩, hS.F ht⟩) hS.2.2 dX11_holdsOn_23 hlk
  · replace hf := ifF c9 hf
    refine lv_aload_n hx hb dX11_holdsOn_13 rfl (lv_at hl 0 rfl) ?_
    refine lv_iload_n hx hb dX11_holdsOn_14 rfl (lv_at hl 1 rfl) ?_
    refine lv_iload_n hx hb dX11_holdsOn_15 rfl (lv_at hl 2 rfl) ?_
    replace hf := obE hf
    obtain ⟨z10, hz10, hf⟩ := hf
    obtain ⟨r12, S11⟩ := z10
    replace hf := ltE (ltE hf r12 rfl) S11 rfl
    refine x_callV (As := [.int p1, .int p2]) (rest := []) (o := (some (.int r12))) (S1 := S11) hC hl.1 hW hS hGs hA tp0 rfl (show vwCl[10]? = some (RX11, TX11, 30) ∧ 10 < 11 from ⟨rfl, by decide⟩) (c_X11_covers l g ad n K H.size F S6 p0 p1 p2 tp0 r12 S11 hz10) (cwV 2 hts gX11_holdsOn_X11_covers rfl rfl rfl (by decide +kernel) ⟨Nat.le_of_ble_eq_true rfl, Nat.le_of_ble_eq_true rfl⟩) rfl rfl (Nat.le_of_ble_eq_true rfl) dX11_holdsOn_16 ⟨Nat.le_of_ble_eq_true rfl, Nat.le_of_ble_eq_true rfl⟩ (fun H locs hPz10 hW hS => ?_)
    refine W.eq (g2 := F0 m 19 ls [.int r12]) rfl ?_
    refine lv_goto (tgt := 23) hx hb dX11_holdsOn_19 (by decide) ?_
    obtain ⟨e1, e2⟩ := so2 hf
    subst e1
    subst e2
    exact W.iret (v := r12) hx hb hr (fun t ht hWm => ⟨⟨rfl, by unfold QB; rw [ht]; exact ⟨hW, trivial⟩⟩, hS.F ht⟩) hS.2.2 dX11_holdsOn_23 hlk
set_option maxHeartbeats 4000000 in
set_option maxRecDepth 100000 in
theorem c_X11_storedParts (l : Launch) (g : GP) (ad : Nat → Nat) (n : Nat) (K : Nat → Nat) (sz F : Nat) (S0 : St) (p0 : Nat) (tp0 : p0 < n ∧ K p0 = 10) (r9 : Int32) (S9 : St) (hf : f_X11_storedParts F S0 p0 = some (r9, S9)) : Met l yX11_storedParts wsX11_storedParts { frames := 2, cells := 0, slots := 0, locals := 46 } (va_Pc [.ref (ad p0)] (PB g ad n K S0 sz)) (QR (some (.int r9)) (QB g ad n K S9 (dA ad n sz) (True)) (dA ad n sz)) 0 0 (dA ad n sz) := by
  refine Met.ofW (cc := cX11_storedParts) (maxL := 3) (ret := (some .int)) (by decide) rfl ?_
  intro p e s m args below meth c s₁ B hml hv
  obtain ⟨rfl, hsz, hW, hK, hGs⟩ := x_start hv
  subst hsz
  have hx := B.exec
  have hb := B.bytes
  have hr := B.returns
  have hts := atoms_spec (ws := wsX11_storedParts) B.pre
  have hown : s.vm.findClass RX11 = some m.cls := findClass_of_methodNamed B.named
  have hlk := B.notSynchronized
  have hC : Cx g p s m _ c cX11_storedParts RX11 wsX11_storedParts 3 := ⟨hx, hb, hml, hown, hts, hK⟩
  have hA : ∀ q : Nat, s.heap.size ≤ q → dA ad n s.heap.size q := fun q h => Or.inr h
  have hS : va_S (dA ad n s.heap.size) s.heap s.heap [] := va_S.rf
  have hl := lv_entry ([.ref (ad p0)]) (n := 3) (Nat.le_of_ble_eq_true rfl)
  rw [lg_entry_eq]
  generalize (lg_sl ([.ref (ad p0)]) ++ List.replicate (3 - (lg_sl ([.ref (ad p0)])).length) Slot.unset).toArray = ls at hl ⊢
  have hl : lv_has ls 3 [(0, .ref (ad p0))] := hl
  have hin11 : ∀ w ∈ wsX110, w ∈ wsX11_storedParts := by decide +kernel
  have w_0 := hts (.fieldLink RX11 17 "MailSpoolModel" "net" "[I") (by decide +kernel)
  have w_1 := hts (.fieldLink RX11 3 "MailSpoolModel" "thrown" "I") (by decide +kernel)
  have hGE := hGs.2.2.2.2.2.2.1
  have hGM := hGs.2.2.2.2.2.2.2.1
  have L9 : ∀ (fu9 : Nat) (S0 : St) (v0 : Nat) (v1 : Int32) (v2 : Int32) (tv0 : v0 < n ∧ K v0 = 10) (H : Heap) (locs : List Loc) (ls : Array Slot), f_X11_storedParts_L9 F fu9 S0 v0 v1 v2 = some (r9, S9) → Wb g ad n K S0 (dA ad n s.heap.size) H → va_S (dA ad n s.heap.size) s.heap H locs → lv_has ls 3 [(0, .ref (ad v0)), (1, .int v1), (2, .int v2)] → W p l e (headSpec wsX11_storedParts { frames := 2, cells := 0, slots := 0, locals := 46 }).room s m (List.toArray [.ref (ad p0)]) below meth c H locs 0 0 (MQ below (QR (some (.int r9)) (QB g ad n K S9 (dA ad n s.heap.size) (True)) (dA ad n s.heap.size)) (List.toArray [.ref (ad p0)]) s 0 0 (dA ad n s.heap.size)) (F0 m 9 ls []) := by
    intro fu9
    induction fu9 with
    | zero =>
      intro S0 v0 v1 v2 tv0 H locs ls hf
      cases hf
    | succ fu9 ih9 =>
      have L34 : ∀ (S0 : St) (v0 : Nat) (v2 : Int32) (s0 : Int32) (s1 : Int32) (tv0 : v0 < n ∧ K v0 = 10) (H : Heap) (locs : List Loc) (ls : Array Slot), f_X11_storedParts_L34 F (fun a0 a1 a2 a3 => f_X11_storedParts_L9 F fu9 a0 a1 a2 a3) S0 v0 v2 s0 s1 = some (r9, S9) → Wb g ad n K S0 (dA ad n s.heap.size) H → va_S (dA ad n s.heap.size) s.heap H locs → lv_has ls 3 [(0, .ref (ad v0)), (2, .int v2)] → W p l e (headSpec wsX11_storedParts { frames := 2, cells := 0, slots := 0, locals := 46 }).room s m (List.toArray [.ref (ad p0)]) below meth c H locs 0 0 (MQ below (QR (some (.int r9)) (QB g ad n K S9 (dA ad n s.heap.size) (True)) (dA ad n s.heap.size)) (List.toArray [.ref (ad p0)]) s 0 0 (dA ad n s.heap.size)) (F0 m 34 ls [.int s0, .int s1]) := by
        intro S0 v0 v2 s0 s1 tv0 H locs ls hf hW hS hl
        unfold f_X11_storedParts_L34 at hf
        refine lv_iadd hx hb dX11_storedParts_34 ?_
        refine lv_topi (fun x3 ex3 => ?_)
        replace hf := ltE hf x3 ex3
        refine lv_istore_n (lv' := [(1, .int x3), (0, .ref (ad v0)), (2, .int v2)]) hx hb dX11_storedParts_35 rfl hl (by decide) rfl (fun ls hl => ?_)
        obtain ⟨x4, ex4⟩ : ∃ z : Int32, z = v2 + 1 := ⟨_, rfl⟩
        replace hf := ltE hf x4 ex4
        refine lv_iinc (v := x4) (lv' := [(2, .int x4), (1, .int x3), (0, .ref (ad v0))]) hx hb dX11_storedParts_36 hl (k := 2) rfl (by rw [ex4]; rfl) (by decide) rfl (fun ls hl => ?_)
        refine lv_goto (tgt := 9) hx hb dX11_storedParts_39 (by decide) ?_
        exact ih9 S0 v0 x3 x4 tv0 _ _ _ hf hW hS (lv_sub hl [2, 1, 0] rfl)
      intro S0 v0 v1 v2 tv0 H locs ls hf hW hS hl
      unfold f_X11_storedParts_L9 at hf
      refine lv_iload_n hx hb dX11_storedParts_9 rfl (lv_at hl 2 rfl) ?_
      refine lv_aload_n hx hb dX11_storedParts_10 rfl (lv_at hl 0 rfl) ?_
      replace hf := obE hf
      obtain ⟨j13, qj13, hf⟩ := hf
      have tj13 := x_rt hW qj13 12 ⟨by decide, rfl⟩
      refine x_getr 1001 (ci := 10) (C := RX11) (T := TX11) (N := 30) 1 hC hin11 hW tv0 rfl rfl ⟨by decide, by decide, rfl, rfl⟩ rfl w_0 dX11_storedParts_11 qj13 ?_
      refine lv_bipush (v := 8) hx hb dX11_storedParts_14 (by decide) ?_
      replace hf := ckiE hf
      obtain ⟨h14, hf⟩ := hf
      refine x_iald hC hW tj13 rfl rfl h14 dX11_storedParts_16 ?_
      refine lv_icmp_ge (tgt := 42) hx hb dX11_storedParts_17 (by decide) (fun c15 => ?_) (fun c15 => ?_)
      · replace hf := ifT c15 hf
        refine lv_iload_n hx hb dX11_storedParts_42 rfl (lv_at hl 1 rfl) ?_
        obtain ⟨e1, e2⟩ := so2 hf
        subst e1
        subst e2
        exact W.iret (v := v1) hx hb hr (fun t ht hWm => ⟨⟨rfl, by unfold QB; rw [ht]; exact ⟨hW, trivial⟩⟩, hS.F ht⟩) hS.2.2 dX11_storedParts_43 hlk
      · replace hf := ifF c15 hf
        refine lv_iload_n hx hb dX11_storedParts_20 rfl (lv_at hl 1 rfl) ?_
        refine lv_aload_n hx hb dX11_storedParts_21 rfl (lv_at hl 0 rfl) ?_
        refine lv_iload_n hx hb dX11_storedParts_22 rfl (lv_at hl 2 rfl) ?_
        replace hf := obE hf
        obtain ⟨z16, hz16, hf⟩ := hf
        obtain ⟨r18, S17⟩ := z16
        replace hf := ltE (ltE hf r18 rfl) S17 rfl
        refine x_callV (As := [.int v2]) (rest := [.int v1]) (o := (some (.int r18))) (S1 := S17) hC hl.1 hW hS hGs hA tv0 rfl (show vwCl[10]? = some (RX11, TX11, 30) ∧ 10 < 11 from ⟨rfl, by decide⟩) (c_X11_isStored l g ad n K H.size F S0 v0 v2 tv0 r18 S17 hz16) (cwV 1 hts gX11_storedParts_X11_isStored rfl rfl rfl (by decide +kernel) ⟨Nat.le_of_ble_eq_true rfl, Nat.le_of_ble_eq_true rfl⟩) rfl rfl (Nat.le_of_ble_eq_true rfl) dX11_storedParts_23 ⟨Nat.le_of_ble_eq_true rfl, Nat.le_of_ble_eq_true rfl⟩ (fun H locs hPz16 hW hS => ?_)
        refine W.eq (g2 := F0 m 26 ls [.int r18, .int v1]) rfl ?_
        refine lv_if_eq (tgt := 33) hx hb dX11_storedParts_26 (by decide) (fun c20 => ?_) (fun c20 => ?_)
        · replace hf := ifT c20 hf
          refine lv_iconst (v := 0) hx hb dX11_storedParts_33 (by decide) ?_
          exact L34 S17 v0 v2 0 v1 tv0 _ _ _ hf hW hS (lv_sub hl [0, 2] rfl)
        · replace hf := ifF c20 hf
          refine lv_iconst (v := 1) hx hb dX11_storedParts_29 (by decide) ?_
          refine lv_goto (tgt := 34) hx hb dX11_storedParts_30 (by decide) ?_
          exact L34 S17 v0 v2 1 v1 tv0 _ _ _ hf hW hS (lv_sub hl [0, 2] rfl)
  unfold f_X11_storedParts at hf
  refine lv_aload_n hx hb dX11_storedParts_0 rfl (lv_at hl 0 rfl) ?_
  refine lv_iconst (v := 0) hx hb dX11_storedParts_1 (by decide) ?_
  refine x_puti 1000 (ci := 10) (C := RX11) (T := TX11) (N := 30) (v := 0) (ty := .int) 0 hC hin11 tyX11_ok nmX11 hW hS tp0 rfl rfl ⟨by decide, by decide, rfl, rfl⟩ rfl w_1 rfl (by decide +kernel) rfl rfl dX11_storedParts_2 (fun S21 H locs eS21 hW hS => ?_)
  replace hf := ltE hf S21 eS21
  refine lv_iconst (v := 0) hx hb dX11_storedParts_5 (by decide) ?_
  refine lv_istore_n (lv' := [(1, .int 0), (0, .ref (ad p0))]) hx hb dX11_storedParts_6 rfl hl (by decide) rfl (fun ls hl => ?_)
  refine lv_iconst (v := 0) hx hb dX11_storedParts_7 (by decide) ?_
  refine lv_istore_n (lv' := [(2, .int 0), (1, .int 0), (0, .ref (ad p0))]) hx hb dX11_storedParts_8 rfl hl (by decide) rfl (fun ls hl => ?_)
  exact L9 F S21 p0 0 0 tp0 _ _ _ hf hW hS (lv_sub hl [2, 1, 0] rfl)
set_option maxHeartbeats 4000000 in
set_option maxRecDepth 100000 in
theorem c_X11_storedPart (l : Launch) (g : GP) (ad : Nat → Nat) (n : Nat) (K : Nat → Nat) (sz F : Nat) (S0 : St) (p0 : Nat) (p1 : Int32) (tp0 : p0 < n ∧ K p0 = 10) (r9 : Int32) (S9 : St) (hf : f_X11_storedPart F S0 p0 p1 = some (r9, S9)) : Met l yX11_storedPart wsX11_storedPart { frames := 2, cells := 0, slots := 0, locals := 46 } (va_Pc [.ref (ad p0), .int p1] (PB g ad n K S0 sz)) (QR (some (.int r9)) (QB g ad n K S9 (dA ad n sz) (True)) (dA ad n sz)) 0 0 (dA ad n sz) := by
  refine Met.ofW (cc := cX11_storedPart) (maxL := 4) (ret := (some .int)) (by decide) rfl ?_
  intro p e s m args below meth c s₁ B hml hv
  obtain ⟨rfl, hsz, hW, hK, hGs⟩ := x_start hv
  subst hsz
  have hx := B.exec
  have hb := B.bytes
  have hr := B.returns
  have hts := atoms_spec (ws := wsX11_storedPart) B.pre
  have hown : s.vm.findClass RX11 = some m.cls := findClass_of_methodNamed B.named
  have hlk := B.notSynchronized
  have hC : Cx g p s m _ c cX11_storedPart RX11 wsX11_storedPart 4 := ⟨hx, hb, hml, hown, hts, hK⟩
  have hA : ∀ q : Nat, s.heap.size ≤ q → dA ad n s.heap.size q := fun q h => Or.inr h
  have hS : va_S (dA ad n s.heap.size) s.heap s.heap [] := va_S.rf
  have hl := lv_entry ([.ref (ad p0), .int p1]) (n := 4) (Nat.le_of_ble_eq_true rfl)
  rw [lg_entry_eq]
  generalize (lg_sl ([.ref (ad p0), .int p1]) ++ List.replicate (4 - (lg_sl ([.ref (ad p0), .int p1])).length) Slot.unset).toArray = ls at hl ⊢
  have hl : lv_has ls 4 [(0, .ref (ad p0)), (1, .int p1)] := hl
  have hin11 : ∀ w ∈ wsX110, w ∈ wsX11_storedPart := by decide +kernel
  have w_0 := hts (.fieldLink RX11 17 "MailSpoolModel" "net" "[I") (by decide +kernel)
  have w_1 := hts (.fieldLink RX11 3 "MailSpoolModel" "thrown" "I") (by decide +kernel)
  have hGE := hGs.2.2.2.2.2.2.1
  have hGM := hGs.2.2.2.2.2.2.2.1
  have L4 : ∀ (fu4 : Nat) (S0 : St) (v0 : Nat) (v2 : Int32) (v3 : Int32) (tv0 : v0 < n ∧ K v0 = 10) (H : Heap) (locs : List Loc) (ls : Array Slot), f_X11_storedPart_L4 F fu4 S0 v0 v2 v3 = some (r9, S9) → Wb g ad n K S0 (dA ad n s.heap.size) H → va_S (dA ad n s.heap.size) s.heap H locs → lv_has ls 4 [(0, .ref (ad v0)), (2, .int v2), (3, .int v3)] → W p l e (headSpec wsX11_storedPart { frames := 2, cells := 0, slots := 0, locals := 46 }).room s m (List.toArray [.ref (ad p0), .int p1]) below meth c H locs 0 0 (MQ below (QR (some (.int r9)) (QB g ad n K S9 (dA ad n s.heap.size) (True)) (dA ad n s.heap.size)) (List.toArray [.ref (ad p0), .int p1]) s 0 0 (dA ad n s.heap.size)) (F0 m 4 ls []) := by
    intro fu4
    induction fu4 with
    | zero =>
      intro S0 v0 v2 v3 tv0 H locs ls hf
      cases hf
    | succ fu4 ih4 =>
      have L40 : ∀ (S0 : St) (v0 : Nat) (v2 : Int32) (v3 : Int32) (tv0 : v0 < n ∧ K v0 = 10) (H : Heap) (locs : List Loc) (ls : Array Slot), f_X11_storedPart_L40 F (fun a0 a1 a2 a3 => f_X11_storedPart_L4 F fu4 a0 a1 a2 a3) S0 v0 v2 v3 = some (r9, S9) → Wb g ad n K S0 (dA ad n s.heap.size) H → va_S (dA ad n s.heap.size) s.heap H locs → lv_has ls 4 [(0, .ref (ad v0)), (2, .int v2), (3, .int v3)] → W p l e (headSpec wsX11_storedPart { frames := 2, cells := 0, slots := 0, locals := 46 }).room s m (List.toArray [.ref (ad p0), .int p1]) below meth c H locs 0 0 (MQ below (QR (some (.int r9)) (QB g ad n K S9 (dA ad n s.heap.size) (True)) (dA ad n s.heap.size)) (List.toArray [.ref (ad p0), .int p1]) s 0 0 (dA ad n s.heap.size)) (F0 m 40 ls []) := by
        intro S0 v0 v2 v3 tv0 H locs ls hf hW hS hl
        unfold f_X11_storedPart_L40 at hf
        obtain ⟨x2, ex2⟩ : ∃ z : Int32, z = v3 + 1 := ⟨_, rfl⟩
        replace hf := ltE hf x2 ex2
        refine lv_iinc (v := x2) (lv' := [(3, .int x2), (0, .ref (ad v0)), (2, .int v2)]) hx hb dX11_storedPart_40 hl (k := 2) rfl (by rw [ex2]; rfl) (by decide) rfl (fun ls hl => ?_)
        refine lv_goto (tgt := 4) hx hb dX11_storedPart_43 (by decide) ?_
        exact ih4 S0 v0 v2 x2 tv0 _ _ _ hf hW hS (lv_sub hl [1, 2, 0] rfl)
      intro S0 v0 v2 v3 tv0 H locs ls hf hW hS hl
      unfold f_X11_storedPart_L4 at hf
      refine lv_iload_n hx hb dX11_storedPart_4 rfl (lv_at hl 2 rfl) ?_
      refine lv_aload_n hx hb dX11_storedPart_5 rfl (lv_at hl 0 rfl) ?_
      replace hf := obE hf
      obtain ⟨j15, qj15, hf⟩ := hf
      have tj15 := x_rt hW qj15 12 ⟨by decide, rfl⟩
      refine x_getr 1001 (ci := 10) (C := RX11) (T := TX11) (N := 30) 1 hC hin11 hW tv0 rfl rfl ⟨by decide, by decide, rfl, rfl⟩ rfl w_0 dX11_storedPart_6 qj15 ?_
      refine lv_bipush (v := 8) hx hb dX11_storedPart_9 (by decide) ?_
      replace hf := ckiE hf
      obtain ⟨h16, hf⟩ := hf
      refine x_iald hC hW tj15 rfl rfl h16 dX11_storedPart_11 ?_
      refine lv_icmp_ge (tgt := 46) hx hb dX11_storedPart_12 (by decide) (fun c17 => ?_) (fun c17 => ?_)
      · replace hf := ifT c17 hf
        refine lv_aload_n hx hb dX11_storedPart_46 rfl (lv_at hl 0 rfl) ?_
        refine lv_iconst (v := 1) hx hb dX11_storedPart_47 (by decide) ?_
        refine x_puti 1000 (ci := 10) (C := RX11) (T := TX11) (N := 30) (v := 1) (ty := .int) 0 hC hin11 tyX11_ok nmX11 hW hS tv0 rfl rfl ⟨by decide, by decide, rfl, rfl⟩ rfl w_1 rfl (by decide +kernel) rfl rfl dX11_storedPart_48 (fun S18 H locs eS18 hW hS => ?_)
        replace hf := ltE hf S18 eS18
        refine lv_iconst (v := 0) hx hb dX11_storedPart_51 (by decide) ?_
        obtain ⟨e1, e2⟩ := so2 hf
        subst e1
        subst e2
        exact W.iret (v := 0) hx hb hr (fun t ht hWm => ⟨⟨rfl, by unfold QB; rw [ht]; exact ⟨hW, trivial⟩⟩, hS.F ht⟩) hS.2.2 dX11_storedPart_52 hlk
      · replace hf := ifF c17 hf
        refine lv_aload_n hx hb dX11_storedPart_15 rfl (lv_at hl 0 rfl) ?_
        refine lv_iload_n hx hb dX11_storedPart_16 rfl (lv_at hl 2 rfl) ?_
        replace hf := obE hf
        obtain ⟨z19, hz19, hf⟩ := hf
        obtain ⟨r21, S20⟩ := z19
        replace hf := ltE (ltE hf r21 rfl) S20 rfl
        refine x_callV (As := [.int v3]) (rest := []) (o := (some (.int r21))) (S1 := S20) hC hl.1 hW hS hGs hA tv0 rfl (show vwCl[10]? = some (RX11, TX11, 30) ∧ 10 < 11 from ⟨rfl, by decide⟩) (c_X11_isStored l g ad n K H.size F S0 v0 v3 tv0 r21 S20 hz19) (cwV 1 hts gX11_storedPart_X11_isStored rfl rfl rfl (by decide +kernel) ⟨Nat.le_of_ble_eq_true rfl, Nat.le_of_ble_eq_true rfl⟩) rfl rfl (Nat.le_of_ble_eq_true rfl) dX11_storedPart_17 ⟨Nat.le_of_ble_eq_true rfl, Nat.le_of_ble_eq_true rfl⟩ (fun H locs hPz19 hW hS => ?_)
        refine W.eq (g2 := F0 m 20 ls [.int r21]) rfl ?_
        refine lv_if_ne (tgt := 26) hx hb dX11_storedPart_20 (by decide) (fun c23 => ?_) (fun c23 => ?_)
        · replace hf := ifT c23 hf
          refine lv_iload_n hx hb dX11_storedPart_26 rfl (lv_at hl 1 rfl) ?_
          refine lv_if_ne (tgt := 37) hx hb dX11_storedPart_27 (by decide) (fun c24 => ?_) (fun c24 => ?_)
          · replace hf := ifT c24 hf
            obtain ⟨x25, ex25⟩ : ∃ z : Int32, z = v2 + (-1) := ⟨_, rfl⟩
            replace hf := ltE hf x25 ex25
            refine lv_iinc (v := x25) (lv' := [(2, .int x25), (0, .ref (ad v0)), (3, .int v3)]) hx hb dX11_storedPart_37 hl (k := 1) rfl (by rw [ex25]; rfl) (by decide) rfl (fun ls hl => ?_)
            exact L40 S20 v0 x25 v3 tv0 _ _ _ hf hW hS (lv_sub hl [1, 0, 2] rfl)
          · replace hf := ifF (fun q => q c24) hf
            refine lv_aload_n hx hb dX11_storedPart_30 rfl (lv_at hl 0 rfl) ?_
            refine lv_iconst (v := 0) hx hb dX11_storedPart_31 (by decide) ?_
            refine x_puti 1000 (ci := 10) (C := RX11) (T := TX11) (N := 30) (v := 0) (ty := .int) 0 hC hin11 tyX11_ok nmX11 hW hS tv0 rfl rfl ⟨by decide, by decide, rfl, rfl⟩ rfl w_1 rfl (by decide +kernel) rfl rfl dX11_storedPart_32 (fun S26 H locs eS26 hW hS => ?_)
            replace hf := ltE hf S26 eS26
            refine lv_iload_n hx hb dX11_storedPart_35 rfl (lv_at hl 2 rfl) ?_
            obtain ⟨e1, e2⟩ := so2 hf
            subst e1
            subst e2
            exact W.iret (v := v3) hx hb hr (fun t ht hWm => ⟨⟨rfl, by unfold QB; rw [ht]; exact ⟨hW, trivial⟩⟩, hS.F ht⟩) hS.2.2 dX11_storedPart_36 hlk
        · replace hf := ifF (fun q => q c23) hf
          refine lv_goto (tgt := 40) hx hb dX11_storedPart_23 (by decide) ?_
          exact L40 S20 v0 v2 v3 tv0 _ _ _ hf hW hS (lv_sub hl [0, 1, 2] rfl)
  unfold f_X11_storedPart at hf
  refine lv_iload_n hx hb dX11_storedPart_0 rfl (lv_at hl 1 rfl) ?_
  refine lv_istore_n (lv' := [(2, .int p1), (0, .ref (ad p0)), (1, .int p1)]) hx hb dX11_storedPart_1 rfl hl (by decide) rfl (fun ls hl => ?_)
  refine lv_iconst (v := 0) hx hb dX11_storedPart_2 (by decide) ?_
  refine lv_istore_n (lv' := [(3, .int 0), (2, .int p1), (0, .ref (ad p0)), (1, .int p1)]) hx hb dX11_storedPart_3 rfl hl (by decide) rfl (fun ls hl => ?_)
  exact L4 F S0 p0 p1 0 tp0 _ _ _ hf hW hS (lv_sub hl [2, 1, 0] rfl)
set_option maxHeartbeats 4000000 in
set_option maxRecDepth 100000 in
theorem c_X11_firstWith (l : Launch) (g : GP) (ad : Nat → Nat) (n : Nat) (K : Nat → Nat) (sz F : Nat) (S0 : St) (p0 : Nat) (p1 : Int32) (tp0 : p0 < n ∧ K p0 = 10) (r9 : Int32) (S9 : St) (hf : f_X11_firstWith F S0 p0 p1 = some (r9, S9)) : Met l yX11_firstWith wsX11_firstWith { frames := 2, cells := 0, slots := 0, locals := 46 } (va_Pc [.ref (ad p0), .int p1] (PB g ad n K S0 sz)) (QR (some (.int r9)) (QB g ad n K S9 (dA ad n sz) (True)) (dA ad n sz)) 0 0 (dA ad n sz) := by
  refine Met.ofW (cc := cX11_firstWith) (maxL := 3) (ret := (some .int)) (by decide) rfl ?_
  intro p e s m args below meth c s₁ B hml hv
  obtain ⟨rfl, hsz, hW, hK, hGs⟩ := x_start hv
  subst hsz
  have hx := B.exec
  have hb := B.bytes
  have hr := B.returns
  have hts := atoms_spec (ws := wsX11_firstWith) B.pre
  have hown : s.vm.findClass RX11 = some m.cls := findClass_of_methodNamed B.named
  have hlk := B.notSynchronized
  have hC : Cx g p s m _ c cX11_firstWith RX11 wsX11_firstWith 3 := ⟨hx, hb, hml, hown, hts, hK⟩
  have hA : ∀ q : Nat, s.heap.size ≤ q → dA ad n s.heap.size q := fun q h => Or.inr h
  have hS : va_S (dA ad n s.heap.size) s.heap s.heap [] := va_S.rf
  have hl := lv_entry ([.ref (ad p0), .int p1]) (n := 3) (Nat.le_of_ble_eq_true rfl)
  rw [lg_entry_eq]
  generalize (lg_sl ([.ref (ad p0), .int p1]) ++ List.replicate (3 - (lg_sl ([.ref (ad p0), .int p1])).length) Slot.unset).toArray = ls at hl ⊢
  have hl : lv_has ls 3 [(0, .ref (ad p0)), (1, .int p1)] := hl
  have hGE := hGs.2.2.2.2.2.2.1
  have hGM := hGs.2.2.2.2.2.2.2.1
  have L2 : ∀ (fu2 : Nat) (S0 : St) (v0 : Nat) (v1 : Int32) (v2 : Int32) (tv0 : v0 < n ∧ K v0 = 10) (H : Heap) (locs : List Loc) (ls : Array Slot), f_X11_firstWith_L2 F fu2 S0 v0 v1 v2 = some (r9, S9) → Wb g ad n K S0 (dA ad n s.heap.size) H → va_S (dA ad n s.heap.size) s.heap H locs → lv_has ls 3 [(0, .ref (ad v0)), (1, .int v1), (2, .int v2)] → W p l e (headSpec wsX11_firstWith { frames := 2, cells := 0, slots := 0, locals := 46 }).room s m (List.toArray [.ref (ad p0), .int p1]) below meth c H locs 0 0 (MQ below (QR (some (.int r9)) (QB g ad n K S9 (dA ad n s.heap.size) (True)) (dA ad n s.heap.size)) (List.toArray [.ref (ad p0), .int p1]) s 0 0 (dA ad n s.heap.size)) (F0 m 2 ls []) := by
    intro fu2
    induction fu2 with
    | zero =>
      intro S0 v0 v1 v2 tv0 H locs ls hf
      cases hf
    | succ fu2 ih2 =>
      intro S0 v0 v1 v2 tv0 H locs ls hf hW hS hl
      unfold f_X11_firstWith_L2 at hf
      refine lv_aload_n hx hb dX11_firstWith_2 rfl (lv_at hl 0 rfl) ?_
      refine lv_iload_n hx hb dX11_firstWith_3 rfl (lv_at hl 2 rfl) ?_
      refine lv_iload_n hx hb dX11_firstWith_4 rfl (lv_at hl 1 rfl) ?_
      replace hf := obE hf
      obtain ⟨z7, hz7, hf⟩ := hf
      obtain ⟨r9, S8⟩ := z7
      replace hf := ltE (ltE hf r9 rfl) S8 rfl
      refine x_callV (As := [.int v2, .int v1]) (rest := []) (o := (some (.int r9))) (S1 := S8) hC hl.1 hW hS hGs hA tv0 rfl (show vwCl[10]? = some (RX11, TX11, 30) ∧ 10 < 11 from ⟨rfl, by decide⟩) (c_X11_has l g ad n K H.size F S0 v0 v2 v1 tv0 r9 S8 hz7) (cwV 2 hts gX11_firstWith_X11_has rfl rfl rfl (by decide +kernel) ⟨Nat.le_of_ble_eq_true rfl, Nat.le_of_ble_eq_true rfl⟩) rfl rfl (Nat.le_of_ble_eq_true rfl) dX11_firstWith_5 ⟨Nat.le_of_ble_eq_true rfl, Nat.le_of_ble_eq_true rfl⟩ (fun H locs hPz7 hW hS => ?_)
      refine W.eq (g2 := F0 m 8 ls [.int r9]) rfl ?_
      refine lv_if_ne (tgt := 17) hx hb dX11_firstWith_8 (by decide) (fun c11 => ?_) (fun c11 => ?_)
      · replace hf := ifT c11 hf
        refine lv_iload_n hx hb dX11_firstWith_17 rfl (lv_at hl 2 rfl) ?_
        obtain ⟨e1, e2⟩ := so2 hf
        subst e1
        subst e2
        exact W.iret (v := v2) hx hb hr (fun t ht hWm => ⟨⟨rfl, by unfold QB; rw [ht]; exact ⟨hW, trivial⟩⟩, hS.F ht⟩) hS.2.2 dX11_firstWith_18 hlk
      · replace hf := ifF (fun q => q c11) hf
        obtain ⟨x12, ex12⟩ : ∃ z : Int32, z = v2 + 1 := ⟨_, rfl⟩
        replace hf := ltE hf x12 ex12
        refine lv_iinc (v := x12) (lv' := [(2, .int x12), (0, .ref (ad v0)), (1, .int v1)]) hx hb dX11_firstWith_11 hl (k := 2) rfl (by rw [ex12]; rfl) (by decide) rfl (fun ls hl => ?_)
        refine lv_goto (tgt := 2) hx hb dX11_firstWith_14 (by decide) ?_
        exact ih2 S8 v0 v1 x12 tv0 _ _ _ hf hW hS (lv_sub hl [1, 2, 0] rfl)
  unfold f_X11_firstWith at hf
  refine lv_iconst (v := 0) hx hb dX11_firstWith_0 (by decide) ?_
  refine lv_istore_n (lv' := [(2, .int 0), (0, .ref (ad p0)), (1, .int p1)]) hx hb dX11_firstWith_1 rfl hl (by decide) rfl (fun ls hl => ?_)
  exact L2 F S0 p0 p1 0 tp0 _ _ _ hf hW hS (lv_sub hl [1, 2, 0] rfl)
set_option maxHeartbeats 4000000 in
set_option maxRecDepth 100000 in
theorem c_X11_part (l : Launch) (g : GP) (ad : Nat → Nat) (n : Nat) (K : Nat → Nat) (sz F : Nat) (S0 : St) (p0 : Nat) (p1 : Int32) (p2 : Int32) (tp0 : p0 < n ∧ K p0 = 10) (r9 : Int32) (S9 : St) (hf : f_X11_part F S0 p0 p1 p2 = some (r9, S9)) : Met l yX11_part wsX11_part { frames := 4, cells := 0, slots := 0, locals := 89 } (va_Pc [.ref (ad p0), .int p1, .int p2] (PB g ad n K S0 sz)) (QR (some (.int r9)) (QB g ad n K S9 (dA ad n sz) (True)) (dA ad n sz)) 0 0 (dA ad n sz) := by
  refine Met.ofW (cc := cX11_part) (maxL := 3) (ret := (some .int)) (by decide) rfl ?_
  intro p e s m args below meth c s₁ B hml hv
  obtain ⟨rfl, hsz, hW, hK, hGs⟩ := x_start hv
  subst hsz
  have hx := B.exec
  have hb := B.bytes
  have hr := B.returns
  have hts := atoms_spec (ws := wsX11_part) B.pre
  have hown : s.vm.findClass RX11 = some m.cls := findClass_of_methodNamed B.named
  have hlk := B.notSynchronized
  have hC : Cx g p s m _ c cX11_part RX11 wsX11_part 3 := ⟨hx, hb, hml, hown, hts, hK⟩
  have hA : ∀ q : Nat, s.heap.size ≤ q → dA ad n s.heap.size q := fun q h => Or.inr h
  have hS : va_S (dA ad n s.heap.size) s.heap s.heap [] := va_S.rf
  have hl := lv_entry ([.ref (ad p0), .int p1, .int p2]) (n := 3) (Nat.le_of_ble_eq_true rfl)
  rw [lg_entry_eq]
  generalize (lg_sl ([.ref (ad p0), .int p1, .int p2]) ++ List.replicate (3 - (lg_sl ([.ref (ad p0), .int p1, .int p2])).length) Slot.unset).toArray = ls at hl ⊢
  have hl : lv_has ls 3 [(0, .ref (ad p0)), (1, .int p1), (2, .int p2)] := hl
  have w_0 := hts (.constantLong RX11 259 (3)) (by decide +kernel)
  have hGE := hGs.2.2.2.2.2.2.1
  have hGM := hGs.2.2.2.2.2.2.2.1
  unfold f_X11_part at hf
  refine lv_aload_n hx hb dX11_part_0 rfl (lv_at hl 0 rfl) ?_
  refine lv_aload_n hx hb dX11_part_1 rfl (lv_at hl 0 rfl) ?_
  refine lv_iload_n hx hb dX11_part_2 rfl (lv_at hl 1 rfl) ?_
  replace hf := obE hf
  obtain ⟨z1, hz1, hf⟩ := hf
  obtain ⟨r3, S2⟩ := z1
  replace hf := ltE (ltE hf r3 rfl) S2 rfl
  refine x_callV (As := [.int p1]) (rest := [.ref (ad p0)]) (o := (some (.int r3))) (S1 := S2) hC hl.1 hW hS hGs hA tp0 rfl (show vwCl[10]? = some (RX11, TX11, 30) ∧ 10 < 11 from ⟨rfl, by decide⟩) (c_X11_isStored l g ad n K s.heap.size F S0 p0 p1 tp0 r3 S2 hz1) (cwV 1 hts gX11_part_X11_isStored rfl rfl rfl (by decide +kernel) ⟨Nat.le_of_ble_eq_true rfl, Nat.le_of_ble_eq_true rfl⟩) rfl rfl (Nat.le_of_ble_eq_true rfl) dX11_part_3 ⟨Nat.le_of_ble_eq_true rfl, Nat.le_of_ble_eq_true rfl⟩ (fun H locs hPz1 hW hS => ?_)
  refine W.eq (g2 := F0 m 6 ls [.int r3, .ref (ad p0)]) rfl ?_
  refine lv_iload_n hx hb dX11_part_6 rfl (lv_at hl 2 rfl) ?_
  refine lv_i2l (v := p2.toInt64) hx hb dX11_part_7 rfl ?_
  refine lv_lconst (v := 0) hx hb dX11_part_8 (by decide) ?_
  refine lv_ldc2 (v := (3)) hx hb hown w_0 dX11_part_9 ?_
  replace hf := obE hf
  obtain ⟨z5, hz5, hf⟩ := hf
  obtain ⟨r7, S6⟩ := z5
  replace hf := ltE (ltE hf r7 rfl) S6 rfl
  refine x_callS (As := [.long (p2.toInt64), .long (0), .long ((3))]) (rest := [.int r3, .ref (ad p0)]) (o := (some (.int r7))) (S1 := S6) hC hl.1 hW hS hGs hA (c_X11_in l g ad n K H.size F S2 p2.toInt64 ((0 : Int64)) (((3) : Int64)) r7 S6 hz5) (va_cwS 3 hts gX11_part_X11_in rfl rfl rfl (by decide +kernel) ⟨Nat.le_of_ble_eq_true rfl, Nat.le_of_ble_eq_true rfl⟩) rfl rfl (Nat.le_of_ble_eq_true rfl) dX11_part_12 ⟨Nat.le_of_ble_eq_true rfl, Nat.le_of_ble_eq_true rfl⟩ (fun H locs hPz5 hW hS => ?_)
  refine W.eq (g2 := F0 m 15 ls [.int r7, .int r3, .ref (ad p0)]) rfl ?_
  replace hf := obE hf
  obtain ⟨z9, hz9, hf⟩ := hf
  obtain ⟨r11, S10⟩ := z9
  replace hf := ltE (ltE hf r11 rfl) S10 rfl
  refine x_callV (As := [.int r3, .int r7]) (rest := []) (o := (some (.int r11))) (S1 := S10) hC hl.1 hW hS hGs hA tp0 rfl (show vwCl[10]? = some (RX11, TX11, 30) ∧ 10 < 11 from ⟨rfl, by decide⟩) (c_X11_passes2 l g ad n K H.size F S6 p0 r3 r7 tp0 r11 S10 hz9) (cwV 2 hts gX11_part_X11_passes2 rfl rfl rfl (by decide +kernel) ⟨Nat.le_of_ble_eq_true rfl, Nat.le_of_ble_eq_true rfl⟩) rfl rfl (Nat.le_of_ble_eq_true rfl) dX11_part_15 ⟨Nat.le_of_ble_eq_true rfl, Nat.le_of_ble_eq_true rfl⟩ (fun H locs hPz9 hW hS => ?_)
  refine W.eq (g2 := F0 m 18 ls [.int r11]) rfl ?_
  refine lv_if_ne (tgt := 23) hx hb dX11_part_18 (by decide) (fun c13 => ?_) (fun c13 => ?_)
  · replace hf := ifT c13 hf
    refine lv_iload_n hx hb dX11_part_23 rfl (lv_at hl 2 rfl) ?_
    refine lv_if_ne (tgt := 36) hx hb dX11_part_24 (by decide) (fun c14 => ?_) (fun c14 => ?_)
    · replace hf := ifT c14 hf
      refine lv_iload_n hx hb dX11_part_36 rfl (lv_at hl 2 rfl) ?_
      refine lv_iconst (v := 1) hx hb dX11_part_37 (by decide) ?_
      refine lv_icmp_ne (tgt := 49) hx hb dX11_part_38 (by decide) (fun c15 => ?_) (fun c15 => ?_)
      · replace hf := ifT c15 hf
        refine lv_iload_n hx hb dX11_part_49 rfl (lv_at hl 2 rfl) ?_
        refine lv_iconst (v := 2) hx hb dX11_part_50 (by decide) ?_
        refine lv_icmp_ne (tgt := 63) hx hb dX11_part_51 (by decide) (fun c16 => ?_) (fun c16 => ?_)
        · replace hf := ifT c16 hf
          refine lv_aload_n hx hb dX11_part_63 rfl (lv_at hl 0 rfl) ?_
          refine lv_iload_n hx hb dX11_part_64 rfl (lv_at hl 1 rfl) ?_
          replace hf := obE hf
          obtain ⟨z17, hz17, hf⟩ := hf
          obtain ⟨r19, S18⟩ := z17
          replace hf := ltE (ltE hf r19 rfl) S18 rfl
          refine x_callV (As := [.int p1]) (rest := []) (o := (some (.int r19))) (S1 := S18) hC hl.1 hW hS hGs hA tp0 rfl (show vwCl[10]? = some (RX11, TX11, 30) ∧ 10 < 11 from ⟨rfl, by decide⟩) (c_X11_firstWith l g ad n K H.size F S10 p0 p1 tp0 r19 S18 hz17) (cwV 1 hts gX11_part_X11_firstWith rfl rfl rfl (by decide +kernel) ⟨Nat.le_of_ble_eq_true rfl, Nat.le_of_ble_eq_true rfl⟩) rfl rfl (Nat.le_of_ble_eq_true rfl) dX11_part_65 ⟨Nat.le_of_ble_eq_true rfl, Nat.le_of_ble_eq_true rfl⟩ (fun H locs hPz17 hW hS => ?_)
          refine W.eq (g2 := F0 m 68 ls [.int r19]) rfl ?_
          obtain ⟨e1, e2⟩ := so2 hf
          subst e1
          subst e2
          exact W.iret (v := r19) hx hb hr (fun t ht hWm => ⟨⟨rfl, by unfold QB; rw [ht]; exact ⟨hW, trivial⟩⟩, hS.F ht⟩) hS.2.2 dX11_part_68 hlk
        · replace hf := ifF (fun q => q c16) hf
          refine lv_aload_n hx hb dX11_part_54 rfl (lv_at hl 0 rfl) ?_
          refine lv_iload_n hx hb dX11_part_55 rfl (lv_at hl 1 rfl) ?_
          refine lv_iconst (v := 2) hx hb dX11_part_56 (by decide) ?_
          replace hf := obE hf
          obtain ⟨z21, hz21, hf⟩ := hf
          obtain ⟨r23, S22⟩ := z21
          replace hf := ltE (ltE hf r23 rfl) S22 rfl
          refine x_callV (As := [.int p1, .int 2]) (rest := []) (o := (some (.int r23))) (S1 := S22) hC hl.1 hW hS hGs hA tp0 rfl (show vwCl[10]? = some (RX11, TX11, 30) ∧ 10 < 11 from ⟨rfl, by decide⟩) (c_X11_partValue l g ad n K H.size F S10 p0 p1 ((2 : Int32)) tp0 r23 S22 hz21) (cwV 2 hts gX11_part_X11_partValue rfl rfl rfl (by decide +kernel) ⟨Nat.le_of_ble_eq_true rfl, Nat.le_of_ble_eq_true rfl⟩) rfl rfl (Nat.le_of_ble_eq_true rfl) dX11_part_57 ⟨Nat.le_of_ble_eq_true rfl, Nat.le_of_ble_eq_true rfl⟩ (fun H locs hPz21 hW hS => ?_)
          refine W.eq (g2 := F0 m 60 ls [.int r23]) rfl ?_
          refine lv_goto (tgt := 68) hx hb dX11_part_60 (by decide) ?_
          obtain ⟨e1, e2⟩ := so2 hf
          subst e1
          subst e2
          exact W.iret (v := r23) hx hb hr (fun t ht hWm => ⟨⟨rfl, by unfold QB; rw [ht]; exact ⟨hW, trivial⟩⟩, hS.F ht⟩) hS.2.2 dX11_part_68 hlk
      · replace hf := ifF (fun q => q c15) hf
        refine lv_aload_n hx hb dX11_part_41 rfl (lv_at hl 0 rfl) ?_
        refine lv_iload_n hx hb dX11_part_42 rfl (lv_at hl 1 rfl) ?_
        replace hf := obE hf
        obtain ⟨z25, hz25, hf⟩ := hf
        obtain ⟨r27, S26⟩ := z25
        replace hf := ltE (ltE hf r27 rfl) S26 rfl
        refine x_callV (As := [.int p1]) (rest := []) (o := (some (.int r27))) (S1 := S26) hC hl.1 hW hS hGs hA tp0 rfl (show vwCl[10]? = some (RX11, TX11, 30) ∧ 10 < 11 from ⟨rfl, by decide⟩) (c_X11_keepers l g ad n K H.size F S10 p0 p1 tp0 r27 S26 hz25) (cwV 1 hts gX11_part_X11_keepers rfl rfl rfl (by decide +kernel) ⟨Nat.le_of_ble_eq_true rfl, Nat.le_of_ble_eq_true rfl⟩) rfl rfl (Nat.le_of_ble_eq_true rfl) dX11_part_43 ⟨Nat.le_of_ble_eq_true rfl, Nat.le_of_ble_eq_true rfl⟩ (fun H locs hPz25 hW hS => ?_)
        refine W.eq (g2 := F0 m 46 ls [.int r27]) rfl ?_
        refine lv_goto (tgt := 68) hx hb dX11_part_46 (by decide) ?_
        obtain ⟨e1, e2⟩ := so2 hf
        subst e1
        subst e2
        exact W.iret (v := r27) hx hb hr (fun t ht hWm => ⟨⟨rfl, by unfold QB; rw [ht]; exact ⟨hW, trivial⟩⟩, hS.F ht⟩) hS.2.2 dX11_part_68 hlk
    · replace hf := ifF (fun q => q c14) hf
      refine lv_aload_n hx hb dX11_part_27 rfl (lv_at hl 0 rfl) ?_
      refine lv_iload_n hx hb dX11_part_28 rfl (lv_at hl 1 rfl) ?_
      refine lv_iconst (v := 0) hx hb dX11_part_29 (by decide) ?_
      replace hf := obE hf
      obtain ⟨z29, hz29, hf⟩ := hf
      obtain ⟨r31, S30⟩ := z29
      replace hf := ltE (ltE hf r31 rfl) S30 rfl
      refine x_callV (As := [.int p1, .int 0]) (rest := []) (o := (some (.int r31))) (S1 := S30) hC hl.1 hW hS hGs hA tp0 rfl (show vwCl[10]? = some (RX11, TX11, 30) ∧ 10 < 11 from ⟨rfl, by decide⟩) (c_X11_partValue l g ad n K H.size F S10 p0 p1 ((0 : Int32)) tp0 r31 S30 hz29) (cwV 2 hts gX11_part_X11_partValue rfl rfl rfl (by decide +kernel) ⟨Nat.le_of_ble_eq_true rfl, Nat.le_of_ble_eq_true rfl⟩) rfl rfl (Nat.le_of_ble_eq_true rfl) dX11_part_30 ⟨Nat.le_of_ble_eq_true rfl, Nat.le_of_ble_eq_true rfl⟩ (fun H locs hPz29 hW hS => ?_)
      refine W.eq (g2 := F0 m 33 ls [.int r31]) rfl ?_
      refine lv_goto (tgt := 68) hx hb dX11_part_33 (by decide) ?_
      obtain ⟨e1, e2⟩ := so2 hf
      subst e1
      subst e2
      exact W.iret (v := r31) hx hb hr (fun t ht hWm => ⟨⟨rfl, by unfold QB; rw [ht]; exact ⟨hW, trivial⟩⟩, hS.F ht⟩) hS.2.2 dX11_part_68 hlk
  · replace hf := ifF (fun q => q c13) hf
    refine lv_iconst (v := 0) hx hb dX11_part_21 (by decide) ?_
    obtain ⟨e1, e2⟩ := so2 hf
    subst e1
    subst e2
    exact W.iret (v := 0) hx hb hr (fun t ht hWm => ⟨⟨rfl, by unfold QB; rw [ht]; exact ⟨hW, trivial⟩⟩, hS.F ht⟩) hS.2.2 dX11_part_22 hlk
set_option maxHeartbeats 4000000 in
set_option maxRecDepth 100000 in
theorem c_X11_partByte (l : Launch) (g : GP) (ad : Nat → Nat) (n : Nat) (K : Nat → Nat) (sz F : Nat) (S0 : St) (p0 : Nat) (p1 : Int32) (p2 : Int32) (tp0 : p0 < n ∧ K p0 = 10) (r9 : Int32) (S9 : St) (hf : f_X11_partByte F S0 p0 p1 p2 = some (r9, S9)) : Met l yX11_partByte wsX11_partByte { frames := 2, cells := 0, slots := 0, locals := 46 } (va_Pc [.ref (ad p0), .int p1, .int p2] (PB g ad n K S0 sz)) (QR (some (.int r9)) (QB g ad n K S9 (dA ad n sz) (True)) (dA ad n sz)) 0 0 (dA ad n sz) := by
  refine Met.ofW (cc := cX11_partByte) (maxL := 3) (ret := (some .int)) (by decide) rfl ?_
  intro p e s m args below meth c s₁ B hml hv
  obtain ⟨rfl, hsz, hW, hK, hGs⟩ := x_start hv
  subst hsz
  have hx := B.exec
  have hb := B.bytes
  have hr := B.returns
  have hts := atoms_spec (ws := wsX11_partByte) B.pre
  have hown : s.vm.findClass RX11 = some m.cls := findClass_of_methodNamed B.named
  have hlk := B.notSynchronized
  have hC : Cx g p s m _ c cX11_partByte RX11 wsX11_partByte 3 := ⟨hx, hb, hml, hown, hts, hK⟩
  have hA : ∀ q : Nat, s.heap.size ≤ q → dA ad n s.heap.size q := fun q h => Or.inr h
  have hS : va_S (dA ad n s.heap.size) s.heap s.heap [] := va_S.rf
  have hl := lv_entry ([.ref (ad p0), .int p1, .int p2]) (n := 3) (Nat.le_of_ble_eq_true rfl)
  rw [lg_entry_eq]
  generalize (lg_sl ([.ref (ad p0), .int p1, .int p2]) ++ List.replicate (3 - (lg_sl ([.ref (ad p0), .int p1, .int p2])).length) Slot.unset).toArray = ls at hl ⊢
  have hl : lv_has ls 3 [(0, .ref (ad p0)), (1, .int p1), (2, .int p2)] := hl
  have hGE := hGs.2.2.2.2.2.2.1
  have hGM := hGs.2.2.2.2.2.2.2.1
  have L37 : ∀ (S0 : St) (v0 : Nat) (v1 : Int32) (v2 : Int32) (s0 : Int32) (s1 : Int32) (s2 : Nat) (tv0 : v0 < n ∧ K v0 = 10) (ts2 : s2 < n ∧ K s2 = 10) (H : Heap) (locs : List Loc) (ls : Array Slot), f_X11_partByte_L37 F S0 v0 v1 v2 s0 s1 s2 = some (r9, S9) → Wb g ad n K S0 (dA ad n s.heap.size) H → va_S (dA ad n s.heap.size) s.heap H locs → lv_has ls 3 [(0, .ref (ad v0)), (1, .int v1), (2, .int v2)] → W p l e (headSpec wsX11_partByte { frames := 2, cells := 0, slots := 0, locals := 46 }).room s m (List.toArray [.ref (ad p0), .int p1, .int p2]) below meth c H locs 0 0 (MQ below (QR (some (.int r9)) (QB g ad n K S9 (dA ad n s.heap.size) (True)) (dA ad n s.heap.size)) (List.toArray [.ref (ad p0), .int p1, .int p2]) s 0 0 (dA ad n s.heap.size)) (F0 m 37 ls [.int s0, .int s1, .ref (ad s2)]) := by
    intro S0 v0 v1 v2 s0 s1 s2 tv0 ts2 H locs ls hf hW hS hl
    unfold f_X11_partByte_L37 at hf
    replace hf := obE hf
    obtain ⟨z10, hz10, hf⟩ := hf
    obtain ⟨r12, S11⟩ := z10
    replace hf := ltE (ltE hf r12 rfl) S11 rfl
    refine x_callV (As := [.int s1, .int s0]) (rest := []) (o := (some (.int r12))) (S1 := S11) hC hl.1 hW hS hGs hA ts2 rfl (show vwCl[10]? = some (RX11, TX11, 30) ∧ 10 < 11 from ⟨rfl, by decide⟩) (c_X11_passes2 l g ad n K H.size F S0 s2 s1 s0 ts2 r12 S11 hz10) (cwV 2 hts gX11_partByte_X11_passes2 rfl rfl rfl (by decide +kernel) ⟨Nat.le_of_ble_eq_true rfl, Nat.le_of_ble_eq_true rfl⟩) rfl rfl (Nat.le_of_ble_eq_true rfl) dX11_partByte_37 ⟨Nat.le_of_ble_eq_true rfl, Nat.le_of_ble_eq_true rfl⟩ (fun H locs hPz10 hW hS => ?_)
    refine W.eq (g2 := F0 m 40 ls [.int r12]) rfl ?_
    refine lv_if_eq (tgt := 56) hx hb dX11_partByte_40 (by decide) (fun c14 => ?_) (fun c14 => ?_)
    · replace hf := ifT c14 hf
      refine lv_iconst (v := 0) hx hb dX11_partByte_56 (by decide) ?_
      obtain ⟨e1, e2⟩ := so2 hf
      subst e1
      subst e2
      exact W.iret (v := 0) hx hb hr (fun t ht hWm => ⟨⟨rfl, by unfold QB; rw [ht]; exact ⟨hW, trivial⟩⟩, hS.F ht⟩) hS.2.2 dX11_partByte_57 hlk
    · replace hf := ifF c14 hf
      refine lv_aload_n hx hb dX11_partByte_43 rfl (lv_at hl 0 rfl) ?_
      refine lv_iload_n hx hb dX11_partByte_44 rfl (lv_at hl 1 rfl) ?_
      refine lv_iload_n hx hb dX11_partByte_45 rfl (lv_at hl 2 rfl) ?_
      replace hf := obE hf
      obtain ⟨z15, hz15, hf⟩ := hf
      obtain ⟨r17, S16⟩ := z15
      replace hf := ltE (ltE hf r17 rfl) S16 rfl
      refine x_callV (As := [.int v1, .int v2]) (rest := []) (o := (some (.int r17))) (S1 := S16) hC hl.1 hW hS hGs hA tv0 rfl (show vwCl[10]? = some (RX11, TX11, 30) ∧ 10 < 11 from ⟨rfl, by decide⟩) (c_X11_partByteAt l g ad n K H.size F S11 v0 v1 v2 tv0 r17 S16 hz15) (cwV 2 hts gX11_partByte_X11_partByteAt rfl rfl rfl (by decide +kernel) ⟨Nat.le_of_ble_eq_true rfl, Nat.le_of_ble_eq_true rfl⟩) rfl rfl (Nat.le_of_ble_eq_true rfl) dX11_partByte_46 ⟨Nat.le_of_ble_eq_true rfl, Nat.le_of_ble_eq_true rfl⟩ (fun H locs hPz15 hW hS => ?_)
      refine W.eq (g2 := F0 m 49 ls [.int r17]) rfl ?_
      refine lv_sipush (v := 255) hx hb dX11_partByte_49 (by decide) ?_
      refine lv_iand hx hb dX11_partByte_52 ?_
      refine lv_goto (tgt := 57) hx hb dX11_partByte_53 (by decide) ?_
      obtain ⟨e1, e2⟩ := so2 hf
      subst e1
      subst e2
      exact W.iret (v := r17 &&& 255) hx hb hr (fun t ht hWm => ⟨⟨rfl, by unfold QB; rw [ht]; exact ⟨hW, trivial⟩⟩, hS.F ht⟩) hS.2.2 dX11_partByte_57 hlk
  have L32 : ∀ (S0 : St) (v0 : Nat) (v1 : Int32) (v2 : Int32) (s0 : Int32) (s1 : Nat) (tv0 : v0 < n ∧ K v0 = 10) (ts1 : s1 < n ∧ K s1 = 10) (H : Heap) (locs : List Loc) (ls : Array Slot), f_X11_partByte_L32 F S0 v0 v1 v2 s0 s1 = some (r9, S9) → Wb g ad n K S0 (dA ad n s.heap.size) H → va_S (dA ad n s.heap.size) s.heap H locs → lv_has ls 3 [(0, .ref (ad v0)), (1, .int v1), (2, .int v2)] → W p l e (headSpec wsX11_partByte { frames := 2, cells := 0, slots := 0, locals := 46 }).room s m (List.toArray [.ref (ad p0), .int p1, .int p2]) below meth c H locs 0 0 (MQ below (QR (some (.int r9)) (QB g ad n K S9 (dA ad n s.heap.size) (True)) (dA ad n s.heap.size)) (List.toArray [.ref (ad p0), .int p1, .int p2]) s 0 0 (dA ad n s.heap.size)) (F0 m 32 ls [.int s0, .ref (ad s1)]) := by
    intro S0 v0 v1 v2 s0 s1 tv0 ts1 H locs ls hf hW hS hl
    unfold f_X11_partByte_L32 at hf
    refine lv_iconst (v := 1) hx hb dX11_partByte_32 (by decide) ?_
    refine lv_goto (tgt := 37) hx hb dX11_partByte_33 (by decide) ?_
    exact L37 S0 v0 v1 v2 1 s0 s1 tv0 ts1 _ _ _ hf hW hS (lv_sub hl [0, 1, 2] rfl)
  unfold f_X11_partByte at hf
  refine lv_aload_n hx hb dX11_partByte_0 rfl (lv_at hl 0 rfl) ?_
  refine lv_aload_n hx hb dX11_partByte_1 rfl (lv_at hl 0 rfl) ?_
  refine lv_iload_n hx hb dX11_partByte_2 rfl (lv_at hl 1 rfl) ?_
  replace hf := obE hf
  obtain ⟨z19, hz19, hf⟩ := hf
  obtain ⟨r21, S20⟩ := z19
  replace hf := ltE (ltE hf r21 rfl) S20 rfl
  refine x_callV (As := [.int p1]) (rest := [.ref (ad p0)]) (o := (some (.int r21))) (S1 := S20) hC hl.1 hW hS hGs hA tp0 rfl (show vwCl[10]? = some (RX11, TX11, 30) ∧ 10 < 11 from ⟨rfl, by decide⟩) (c_X11_isStored l g ad n K s.heap.size F S0 p0 p1 tp0 r21 S20 hz19) (cwV 1 hts gX11_partByte_X11_isStored rfl rfl rfl (by decide +kernel) ⟨Nat.le_of_ble_eq_true rfl, Nat.le_of_ble_eq_true rfl⟩) rfl rfl (Nat.le_of_ble_eq_true rfl) dX11_partByte_3 ⟨Nat.le_of_ble_eq_true rfl, Nat.le_of_ble_eq_true rfl⟩ (fun H locs hPz19 hW hS => ?_)
  refine W.eq (g2 := F0 m 6 ls [.int r21, .ref (ad p0)]) rfl ?_
  refine lv_aload_n hx hb dX11_partByte_6 rfl (lv_at hl 0 rfl) ?_
  refine lv_iload_n hx hb dX11_partByte_7 rfl (lv_at hl 1 rfl) ?_
  replace hf := obE hf
  obtain ⟨z23, hz23, hf⟩ := hf
  obtain ⟨r25, S24⟩ := z23
  replace hf := ltE (ltE hf r25 rfl) S24 rfl
  refine x_callV (As := [.int p1]) (rest := [.int r21, .ref (ad p0)]) (o := (some (.int r25))) (S1 := S24) hC hl.1 hW hS hGs hA tp0 rfl (show vwCl[10]? = some (RX11, TX11, 30) ∧ 10 < 11 from ⟨rfl, by decide⟩) (c_X11_isStored l g ad n K H.size F S20 p0 p1 tp0 r25 S24 hz23) (cwV 1 hts gX11_partByte_X11_isStored rfl rfl rfl (by decide +kernel) ⟨Nat.le_of_ble_eq_true rfl, Nat.le_of_ble_eq_true rfl⟩) rfl rfl (Nat.le_of_ble_eq_true rfl) dX11_partByte_8 ⟨Nat.le_of_ble_eq_true rfl, Nat.le_of_ble_eq_true rfl⟩ (fun H locs hPz23 hW hS => ?_)
  refine W.eq (g2 := F0 m 11 ls [.int r25, .int r21, .ref (ad p0)]) rfl ?_
  refine lv_if_eq (tgt := 32) hx hb dX11_partByte_11 (by decide) (fun c27 => ?_) (fun c27 => ?_)
  · replace hf := ifT c27 hf
    exact L32 S24 p0 p1 p2 r21 p0 tp0 tp0 _ _ _ hf hW hS (lv_sub hl [0, 1, 2] rfl)
  · replace hf := ifF c27 hf
    refine lv_iload_n hx hb dX11_partByte_14 rfl (lv_at hl 2 rfl) ?_
    refine lv_i2l (v := p2.toInt64) hx hb dX11_partByte_15 rfl ?_
    refine lv_lconst (v := 0) hx hb dX11_partByte_16 (by decide) ?_
    refine lv_aload_n hx hb dX11_partByte_17 rfl (lv_at hl 0 rfl) ?_
    refine lv_iload_n hx hb dX11_partByte_18 rfl (lv_at hl 1 rfl) ?_
    refine lv_iconst (v := 0) hx hb dX11_partByte_19 (by decide) ?_
    replace hf := obE hf
    obtain ⟨z28, hz28, hf⟩ := hf
    obtain ⟨r30, S29⟩ := z28
    replace hf := ltE (ltE hf r30 rfl) S29 rfl
    refine x_callV (As := [.int p1, .int 0]) (rest := [.long (0), .long (p2.toInt64), .int r21, .ref (ad p0)]) (o := (some (.int r30))) (S1 := S29) hC hl.1 hW hS hGs hA tp0 rfl (show vwCl[10]? = some (RX11, TX11, 30) ∧ 10 < 11 from ⟨rfl, by decide⟩) (c_X11_partValue l g ad n K H.size F S24 p0 p1 ((0 : Int32)) tp0 r30 S29 hz28) (cwV 2 hts gX11_partByte_X11_partValue rfl rfl rfl (by decide +kernel) ⟨Nat.le_of_ble_eq_true rfl, Nat.le_of_ble_eq_true rfl⟩) rfl rfl (Nat.le_of_ble_eq_true rfl) dX11_partByte_20 ⟨Nat.le_of_ble_eq_true rfl, Nat.le_of_ble_eq_true rfl⟩ (fun H locs hPz28 hW hS => ?_)
    refine W.eq (g2 := F0 m 23 ls [.int r30, .long (0), .long (p2.toInt64), .int r21, .ref (ad p0)]) rfl ?_
    refine lv_iconst (v := 1) hx hb dX11_partByte_23 (by decide) ?_
    refine lv_isub hx hb dX11_partByte_24 ?_
    refine lv_i2l (v := (r30 - 1).toInt64) hx hb dX11_partByte_25 rfl ?_
    replace hf := obE hf
    obtain ⟨z32, hz32, hf⟩ := hf
    obtain ⟨r34, S33⟩ := z32
    replace hf := ltE (ltE hf r34 rfl) S33 rfl
    refine x_callS (As := [.long (p2.toInt64), .long (0), .long ((r30 - 1).toInt64)]) (rest := [.int r21, .ref (ad p0)]) (o := (some (.int r34))) (S1 := S33) hC hl.1 hW hS hGs hA (c_X11_in l g ad n K H.size F S29 p2.toInt64 ((0 : Int64)) ((r30 - 1).toInt64) r34 S33 hz32) (va_cwS 3 hts gX11_partByte_X11_in rfl rfl rfl (by decide +kernel) ⟨Nat.le_of_ble_eq_true rfl, Nat.le_of_ble_eq_true rfl⟩) rfl rfl (Nat.le_of_ble_eq_true rfl) dX11_partByte_26 ⟨Nat.le_of_ble_eq_true rfl, Nat.le_of_ble_eq_true rfl⟩ (fun H locs hPz32 hW hS => ?_)
    refine W.eq (g2 := F0 m 29 ls [.int r34, .int r21, .ref (ad p0)]) rfl ?_
    refine lv_if_eq (tgt := 36) hx hb dX11_partByte_29 (by decide) (fun c36 => ?_) (fun c36 => ?_)
    · replace hf := ifT c36 hf
      refine lv_iconst (v := 0) hx hb dX11_partByte_36 (by decide) ?_
      exact L37 S33 p0 p1 p2 0 r21 p0 tp0 tp0 _ _ _ hf hW hS (lv_sub hl [0, 1, 2] rfl)
    · replace hf := ifF c36 hf
      exact L32 S33 p0 p1 p2 r21 p0 tp0 tp0 _ _ _ hf hW hS (lv_sub hl [0, 1, 2] rfl)
set_option maxHeartbeats 4000000 in
set_option maxRecDepth 100000 in
theorem c_X11_digest (l : Launch) (g : GP) (ad : Nat → Nat) (n : Nat) (K : Nat → Nat) (sz F : Nat) (S0 : St) (p0 : Nat) (p1 : Int32) (tp0 : p0 < n ∧ K p0 = 10) (r9 : Int64) (S9 : St) (hf : f_X11_digest F S0 p0 p1 = some (r9, S9)) : Met l yX11_digest wsX11_digest { frames := 2, cells := 0, slots := 0, locals := 46 } (va_Pc [.ref (ad p0), .int p1] (PB g ad n K S0 sz)) (QR (some (.long r9)) (QB g ad n K S9 (dA ad n sz) (True)) (dA ad n sz)) 0 0 (dA ad n sz) := by
  refine Met.ofW (cc := cX11_digest) (maxL := 5) (ret := (some .long)) (by decide) rfl ?_
  intro p e s m args below meth c s₁ B hml hv
  obtain ⟨rfl, hsz, hW, hK, hGs⟩ := x_start hv
  subst hsz
  have hx := B.exec
  have hb := B.bytes
  have hr := B.returns
  have hts := atoms_spec (ws := wsX11_digest) B.pre
  have hown : s.vm.findClass RX11 = some m.cls := findClass_of_methodNamed B.named
  have hlk := B.notSynchronized
  have hC : Cx g p s m _ c cX11_digest RX11 wsX11_digest 5 := ⟨hx, hb, hml, hown, hts, hK⟩
  have hA : ∀ q : Nat, s.heap.size ≤ q → dA ad n s.heap.size q := fun q h => Or.inr h
  have hS : va_S (dA ad n s.heap.size) s.heap s.heap [] := va_S.rf
  have hl := lv_entry ([.ref (ad p0), .int p1]) (n := 5) (Nat.le_of_ble_eq_true rfl)
  rw [lg_entry_eq]
  generalize (lg_sl ([.ref (ad p0), .int p1]) ++ List.replicate (5 - (lg_sl ([.ref (ad p0), .int p1])).length) Slot.unset).toArray = ls at hl ⊢
  have hl : lv_has ls 5 [(0, .ref (ad p0)), (1, .int p1)] := hl
  have w_0 := hts (.constantLong RX11 408 (1099511628211)) (by decide +kernel)
  have w_1 := hts (.constantLong RX11 406 (-3750763034362895579)) (by decide +kernel)
  have hGE := hGs.2.2.2.2.2.2.1
  have hGM := hGs.2.2.2.2.2.2.2.1
  have L21 : ∀ (fu21 : Nat) (S0 : St) (v0 : Nat) (v1 : Int32) (v2 : Int64) (v4 : Int32) (tv0 : v0 < n ∧ K v0 = 10) (H : Heap) (locs : List Loc) (ls : Array Slot), f_X11_digest_L21 F fu21 S0 v0 v1 v2 v4 = some (r9, S9) → Wb g ad n K S0 (dA ad n s.heap.size) H → va_S (dA ad n s.heap.size) s.heap H locs → lv_has ls 5 [(0, .ref (ad v0)), (1, .int v1), (2, .long (v2)), (4, .int v4)] → W p l e (headSpec wsX11_digest { frames := 2, cells := 0, slots := 0, locals := 46 }).room s m (List.toArray [.ref (ad p0), .int p1]) below meth c H locs 0 0 (MQ below (QR (some (.long r9)) (QB g ad n K S9 (dA ad n s.heap.size) (True)) (dA ad n s.heap.size)) (List.toArray [.ref (ad p0), .int p1]) s 0 0 (dA ad n s.heap.size)) (F0 m 21 ls []) := by
    intro fu21
    induction fu21 with
    | zero =>
      intro S0 v0 v1 v2 v4 tv0 H locs ls hf
      cases hf
    | succ fu21 ih21 =>
      intro S0 v0 v1 v2 v4 tv0 H locs ls hf hW hS hl
      unfold f_X11_digest_L21 at hf
      refine lv_iload hx hb dX11_digest_21 (lv_at hl 3 rfl) ?_
      refine lv_aload_n hx hb dX11_digest_23 rfl (lv_at hl 0 rfl) ?_
      refine lv_iload_n hx hb dX11_digest_24 rfl (lv_at hl 1 rfl) ?_
      refine lv_iconst (v := 0) hx hb dX11_digest_25 (by decide) ?_
      replace hf := obE hf
      obtain ⟨z12, hz12, hf⟩ := hf
      obtain ⟨r14, S13⟩ := z12
      replace hf := ltE (ltE hf r14 rfl) S13 rfl
      refine x_callV (As := [.int v1, .int 0]) (rest := [.int v4]) (o := (some (.int r14))) (S1 := S13) hC hl.1 hW hS hGs hA tv0 rfl (show vwCl[10]? = some (RX11, TX11, 30) ∧ 10 < 11 from ⟨rfl, by decide⟩) (c_X11_partValue l g ad n K H.size F S0 v0 v1 ((0 : Int32)) tv0 r14 S13 hz12) (cwV 2 hts gX11_digest_X11_partValue rfl rfl rfl (by decide +kernel) ⟨Nat.le_of_ble_eq_true rfl, Nat.le_of_ble_eq_true rfl⟩) rfl rfl (Nat.le_of_ble_eq_true rfl) dX11_digest_26 ⟨Nat.le_of_ble_eq_true rfl, Nat.le_of_ble_eq_true rfl⟩ (fun H locs hPz12 hW hS => ?_)
      refine W.eq (g2 := F0 m 29 ls [.int r14, .int v4]) rfl ?_
      refine lv_icmp_ge (tgt := 57) hx hb dX11_digest_29 (by decide) (fun c16 => ?_) (fun c16 => ?_)
      · replace hf := ifT c16 hf
        refine lv_lload_n hx hb dX11_digest_57 rfl (lv_at hl 2 rfl) ?_
        obtain ⟨e1, e2⟩ := so2 hf
        subst e1
        subst e2
        exact W.lret (v := v2) hx hb hr (fun t ht hWm => ⟨⟨rfl, by unfold QB; rw [ht]; exact ⟨hW, trivial⟩⟩, hS.F ht⟩) hS.2.2 dX11_digest_58 hlk
      · replace hf := ifF c16 hf
        refine lv_lload_n hx hb dX11_digest_32 rfl (lv_at hl 2 rfl) ?_
        refine lv_aload_n hx hb dX11_digest_33 rfl (lv_at hl 0 rfl) ?_
        refine lv_iload_n hx hb dX11_digest_34 rfl (lv_at hl 1 rfl) ?_
        refine lv_iload hx hb dX11_digest_35 (lv_at hl 3 rfl) ?_
        replace hf := obE hf
        obtain ⟨z17, hz17, hf⟩ := hf
        obtain ⟨r19, S18⟩ := z17
        replace hf := ltE (ltE hf r19 rfl) S18 rfl
        refine x_callV (As := [.int v1, .int v4]) (rest := [.long (v2)]) (o := (some (.int r19))) (S1 := S18) hC hl.1 hW hS hGs hA tv0 rfl (show vwCl[10]? = some (RX11, TX11, 30) ∧ 10 < 11 from ⟨rfl, by decide⟩) (c_X11_partByteAt l g ad n K H.size F S13 v0 v1 v4 tv0 r19 S18 hz17) (cwV 2 hts gX11_digest_X11_partByteAt rfl rfl rfl (by decide +kernel) ⟨Nat.le_of_ble_eq_true rfl, Nat.le_of_ble_eq_true rfl⟩) rfl rfl (Nat.le_of_ble_eq_true rfl) dX11_digest_37 ⟨Nat.le_of_ble_eq_true rfl, Nat.le_of_ble_eq_true rfl⟩ (fun H locs hPz17 hW hS => ?_)
        refine W.eq (g2 := F0 m 40 ls [.int r19, .long (v2)]) rfl ?_
        refine lv_sipush (v := 255) hx hb dX11_digest_40 (by decide) ?_
        refine lv_iand hx hb dX11_digest_43 ?_
        refine lv_i2l (v := (r19 &&& 255).toInt64) hx hb dX11_digest_44 rfl ?_
        refine lv_lxor hx hb dX11_digest_45 ?_
        refine lv_ldc2 (v := (1099511628211)) hx hb hown w_0 dX11_digest_46 ?_
        refine lv_lmul hx hb dX11_digest_49 ?_
        refine lv_topl (fun x21 ex21 => ?_)
        replace hf := ltE hf x21 ex21
        refine lv_lstore_n (lv' := [(2, .long (x21)), (0, .ref (ad v0)), (1, .int v1), (4, .int v4)]) hx hb dX11_digest_50 rfl hl (by decide) rfl (fun ls hl => ?_)
        obtain ⟨x22, ex22⟩ : ∃ z : Int32, z = v4 + 1 := ⟨_, rfl⟩
        replace hf := ltE hf x22 ex22
        refine lv_iinc (v := x22) (lv' := [(4, .int x22), (2, .long (x21)), (0, .ref (ad v0)), (1, .int v1)]) hx hb dX11_digest_51 hl (k := 3) rfl (by rw [ex22]; rfl) (by decide) rfl (fun ls hl => ?_)
        refine lv_goto (tgt := 21) hx hb dX11_digest_54 (by decide) ?_
        exact ih21 S18 v0 v1 x21 x22 tv0 _ _ _ hf hW hS (lv_sub hl [2, 3, 1, 0] rfl)
  unfold f_X11_digest at hf
  refine lv_aload_n hx hb dX11_digest_0 rfl (lv_at hl 0 rfl) ?_
  refine lv_aload_n hx hb dX11_digest_1 rfl (lv_at hl 0 rfl) ?_
  refine lv_iload_n hx hb dX11_digest_2 rfl (lv_at hl 1 rfl) ?_
  replace hf := obE hf
  obtain ⟨z23, hz23, hf⟩ := hf
  obtain ⟨r25, S24⟩ := z23
  replace hf := ltE (ltE hf r25 rfl) S24 rfl
  refine x_callV (As := [.int p1]) (rest := [.ref (ad p0)]) (o := (some (.int r25))) (S1 := S24) hC hl.1 hW hS hGs hA tp0 rfl (show vwCl[10]? = some (RX11, TX11, 30) ∧ 10 < 11 from ⟨rfl, by decide⟩) (c_X11_isStored l g ad n K s.heap.size F S0 p0 p1 tp0 r25 S24 hz23) (cwV 1 hts gX11_digest_X11_isStored rfl rfl rfl (by decide +kernel) ⟨Nat.le_of_ble_eq_true rfl, Nat.le_of_ble_eq_true rfl⟩) rfl rfl (Nat.le_of_ble_eq_true rfl) dX11_digest_3 ⟨Nat.le_of_ble_eq_true rfl, Nat.le_of_ble_eq_true rfl⟩ (fun H locs hPz23 hW hS => ?_)
  refine W.eq (g2 := F0 m 6 ls [.int r25, .ref (ad p0)]) rfl ?_
  replace hf := obE hf
  obtain ⟨z27, hz27, hf⟩ := hf
  obtain ⟨r29, S28⟩ := z27
  replace hf := ltE (ltE hf r29 rfl) S28 rfl
  refine x_callV (As := [.int r25]) (rest := []) (o := (some (.int r29))) (S1 := S28) hC hl.1 hW hS hGs hA tp0 rfl (show vwCl[10]? = some (RX11, TX11, 30) ∧ 10 < 11 from ⟨rfl, by decide⟩) (c_X11_passes l g ad n K H.size F S24 p0 r25 tp0 r29 S28 hz27) (cwV 1 hts gX11_digest_X11_passes rfl rfl rfl (by decide +kernel) ⟨Nat.le_of_ble_eq_true rfl, Nat.le_of_ble_eq_true rfl⟩) rfl rfl (Nat.le_of_ble_eq_true rfl) dX11_digest_6 ⟨Nat.le_of_ble_eq_true rfl, Nat.le_of_ble_eq_true rfl⟩ (fun H locs hPz27 hW hS => ?_)
  refine W.eq (g2 := F0 m 9 ls [.int r29]) rfl ?_
  refine lv_if_ne (tgt := 14) hx hb dX11_digest_9 (by decide) (fun c31 => ?_) (fun c31 => ?_)
  · replace hf := ifT c31 hf
    refine lv_ldc2 (v := (-3750763034362895579)) hx hb hown w_1 dX11_digest_14 ?_
    refine lv_topl (fun x32 ex32 => ?_)
    replace hf := ltE hf x32 ex32
    refine lv_lstore_n (lv' := [(2, .long (x32)), (0, .ref (ad p0)), (1, .int p1)]) hx hb dX11_digest_17 rfl hl (by decide) rfl (fun ls hl => ?_)
    refine lv_iconst (v := 0) hx hb dX11_digest_18 (by decide) ?_
    refine lv_istore (lv' := [(4, .int 0), (2, .long (x32)), (0, .ref (ad p0)), (1, .int p1)]) hx hb dX11_digest_19 hl (by decide) rfl (fun ls hl => ?_)
    exact L21 F S28 p0 p1 x32 0 tp0 _ _ _ hf hW hS (lv_sub hl [2, 3, 1, 0] rfl)
  · replace hf := ifF (fun q => q c31) hf
    refine lv_lconst (v := 0) hx hb dX11_digest_12 (by decide) ?_
    obtain ⟨e1, e2⟩ := so2 hf
    subst e1
    subst e2
    exact W.lret (v := 0) hx hb hr (fun t ht hWm => ⟨⟨rfl, by unfold QB; rw [ht]; exact ⟨hW, trivial⟩⟩, hS.F ht⟩) hS.2.2 dX11_digest_13 hlk
set_option maxHeartbeats 4000000 in
set_option maxRecDepth 100000 in
theorem c_X11_storedBytes (l : Launch) (g : GP) (ad : Nat → Nat) (n : Nat) (K : Nat → Nat) (sz F : Nat) (S0 : St) (p0 : Nat) (tp0 : p0 < n ∧ K p0 = 10) (r9 : Int32) (S9 : St) (hf : f_X11_storedBytes F S0 p0 = some (r9, S9)) : Met l yX11_storedBytes wsX11_storedBytes { frames := 3, cells := 0, slots := 0, locals := 68 } (va_Pc [.ref (ad p0)] (PB g ad n K S0 sz)) (QR (some (.int r9)) (QB g ad n K S9 (dA ad n sz) (True)) (dA ad n sz)) 0 0 (dA ad n sz) := by
  refine Met.ofW (cc := cX11_storedBytes) (maxL := 1) (ret := (some .int)) (by decide) rfl ?_
  intro p e s m args below meth c s₁ B hml hv
  obtain ⟨rfl, hsz, hW, hK, hGs⟩ := x_start hv
  subst hsz
  have hx := B.exec
  have hb := B.bytes
  have hr := B.returns
  have hts := atoms_spec (ws := wsX11_storedBytes) B.pre
  have hown : s.vm.findClass RX11 = some m.cls := findClass_of_methodNamed B.named
  have hlk := B.notSynchronized
  have hC : Cx g p s m _ c cX11_storedBytes RX11 wsX11_storedBytes 1 := ⟨hx, hb, hml, hown, hts, hK⟩
  have hA : ∀ q : Nat, s.heap.size ≤ q → dA ad n s.heap.size q := fun q h => Or.inr h
  have hS : va_S (dA ad n s.heap.size) s.heap s.heap [] := va_S.rf
  have hl := lv_entry ([.ref (ad p0)]) (n := 1) (Nat.le_of_ble_eq_true rfl)
  rw [lg_entry_eq]
  generalize (lg_sl ([.ref (ad p0)]) ++ List.replicate (1 - (lg_sl ([.ref (ad p0)])).length) Slot.unset).toArray = ls at hl ⊢
  have hl : lv_has ls 1 [(0, .ref (ad p0))] := hl
  have hin11 : ∀ w ∈ wsX110, w ∈ wsX11_storedBytes := by decide +kernel
  have w_0 := hts (.fieldLink RX11 3 "MailSpoolModel" "thrown" "I") (by decide +kernel)
  have hGE := hGs.2.2.2.2.2.2.1
  have hGM := hGs.2.2.2.2.2.2.2.1
  unfold f_X11_storedBytes at hf
  refine lv_aload_n hx hb dX11_storedBytes_0 rfl (lv_at hl 0 rfl) ?_
  refine lv_iconst (v := 0) hx hb dX11_storedBytes_1 (by decide) ?_
  refine x_puti 1000 (ci := 10) (C := RX11) (T := TX11) (N := 30) (v := 0) (ty := .int) 0 hC hin11 tyX11_ok nmX11 hW hS tp0 rfl rfl ⟨by decide, by decide, rfl, rfl⟩ rfl w_0 rfl (by decide +kernel) rfl rfl dX11_storedBytes_2 (fun S1 H locs eS1 hW hS => ?_)
  replace hf := ltE hf S1 eS1
  refine lv_aload_n hx hb dX11_storedBytes_5 rfl (lv_at hl 0 rfl) ?_
  replace hf := obE hf
  obtain ⟨z2, hz2, hf⟩ := hf
  obtain ⟨r4, S3⟩ := z2
  replace hf := ltE (ltE hf r4 rfl) S3 rfl
  refine x_callV (As := []) (rest := []) (o := (some (.int r4))) (S1 := S3) hC hl.1 hW hS hGs hA tp0 rfl (show vwCl[10]? = some (RX11, TX11, 30) ∧ 10 < 11 from ⟨rfl, by decide⟩) (c_X11_stored l g ad n K H.size F S1 p0 tp0 r4 S3 hz2) (cwV 0 hts gX11_storedBytes_X11_stored rfl rfl rfl (by decide +kernel) ⟨Nat.le_of_ble_eq_true rfl, Nat.le_of_ble_eq_true rfl⟩) rfl rfl (Nat.le_of_ble_eq_true rfl) dX11_storedBytes_6 ⟨Nat.le_of_ble_eq_true rfl, Nat.le_of_ble_eq_true rfl⟩ (fun H locs hPz2 hW hS => ?_)
  refine W.eq (g2 := F0 m 9 ls [.int r4]) rfl ?_
  obtain ⟨e1, e2⟩ := so2 hf
  subst e1
  subst e2
  exact W.iret (v := r4) hx hb hr (fun t ht hWm => ⟨⟨rfl, by unfold QB; rw [ht]; exact ⟨hW, trivial⟩⟩, hS.F ht⟩) hS.2.2 dX11_storedBytes_9 hlk
set_option maxHeartbeats 4000000 in
set_option maxRecDepth 100000 in
theorem c_X11_deadBytes (l : Launch) (g : GP) (ad : Nat → Nat) (n : Nat) (K : Nat → Nat) (sz F : Nat) (S0 : St) (p0 : Nat) (tp0 : p0 < n ∧ K p0 = 10) (r9 : Int32) (S9 : St) (hf : f_X11_deadBytes F S0 p0 = some (r9, S9)) : Met l yX11_deadBytes wsX11_deadBytes { frames := 2, cells := 0, slots := 0, locals := 46 } (va_Pc [.ref (ad p0)] (PB g ad n K S0 sz)) (QR (some (.int r9)) (QB g ad n K S9 (dA ad n sz) (True)) (dA ad n sz)) 0 0 (dA ad n sz) := by
  refine Met.ofW (cc := cX11_deadBytes) (maxL := 3) (ret := (some .int)) (by decide) rfl ?_
  intro p e s m args below meth c s₁ B hml hv
  obtain ⟨rfl, hsz, hW, hK, hGs⟩ := x_start hv
  subst hsz
  have hx := B.exec
  have hb := B.bytes
  have hr := B.returns
  have hts := atoms_spec (ws := wsX11_deadBytes) B.pre
  have hown : s.vm.findClass RX11 = some m.cls := findClass_of_methodNamed B.named
  have hlk := B.notSynchronized
  have hC : Cx g p s m _ c cX11_deadBytes RX11 wsX11_deadBytes 3 := ⟨hx, hb, hml, hown, hts, hK⟩
  have hA : ∀ q : Nat, s.heap.size ≤ q → dA ad n s.heap.size q := fun q h => Or.inr h
  have hS : va_S (dA ad n s.heap.size) s.heap s.heap [] := va_S.rf
  have hl := lv_entry ([.ref (ad p0)]) (n := 3) (Nat.le_of_ble_eq_true rfl)
  rw [lg_entry_eq]
  generalize (lg_sl ([.ref (ad p0)]) ++ List.replicate (3 - (lg_sl ([.ref (ad p0)])).length) Slot.unset).toArray = ls at hl ⊢
  have hl : lv_has ls 3 [(0, .ref (ad p0))] := hl
  have hin11 : ∀ w ∈ wsX110, w ∈ wsX11_deadBytes := by decide +kernel
  have w_0 := hts (.fieldLink RX11 17 "MailSpoolModel" "net" "[I") (by decide +kernel)
  have w_1 := hts (.fieldLink RX11 3 "MailSpoolModel" "thrown" "I") (by decide +kernel)
  have hGE := hGs.2.2.2.2.2.2.1
  have hGM := hGs.2.2.2.2.2.2.2.1
  have L9 : ∀ (fu9 : Nat) (S0 : St) (v0 : Nat) (v1 : Int32) (v2 : Int32) (tv0 : v0 < n ∧ K v0 = 10) (H : Heap) (locs : List Loc) (ls : Array Slot), f_X11_deadBytes_L9 F fu9 S0 v0 v1 v2 = some (r9, S9) → Wb g ad n K S0 (dA ad n s.heap.size) H → va_S (dA ad n s.heap.size) s.heap H locs → lv_has ls 3 [(0, .ref (ad v0)), (1, .int v1), (2, .int v2)] → W p l e (headSpec wsX11_deadBytes { frames := 2, cells := 0, slots := 0, locals := 46 }).room s m (List.toArray [.ref (ad p0)]) below meth c H locs 0 0 (MQ below (QR (some (.int r9)) (QB g ad n K S9 (dA ad n s.heap.size) (True)) (dA ad n s.heap.size)) (List.toArray [.ref (ad p0)]) s 0 0 (dA ad n s.heap.size)) (F0 m 9 ls []) := by
    intro fu9
    induction fu9 with
    | zero =>
      intro S0 v0 v1 v2 tv0 H locs ls hf
      cases hf
    | succ fu9 ih9 =>
      have L47 : ∀ (S0 : St) (v0 : Nat) (v2 : Int32) (s0 : Int32) (s1 : Int32) (tv0 : v0 < n ∧ K v0 = 10) (H : Heap) (locs : List Loc) (ls : Array Slot), f_X11_deadBytes_L47 F (fun a0 a1 a2 a3 => f_X11_deadBytes_L9 F fu9 a0 a1 a2 a3) S0 v0 v2 s0 s1 = some (r9, S9) → Wb g ad n K S0 (dA ad n s.heap.size) H → va_S (dA ad n s.heap.size) s.heap H locs → lv_has ls 3 [(0, .ref (ad v0)), (2, .int v2)] → W p l e (headSpec wsX11_deadBytes { frames := 2, cells := 0, slots := 0, locals := 46 }).room s m (List.toArray [.ref (ad p0)]) below meth c H locs 0 0 (MQ below (QR (some (.int r9)) (QB g ad n K S9 (dA ad n s.heap.size) (True)) (dA ad n s.heap.size)) (List.toArray [.ref (ad p0)]) s 0 0 (dA ad n s.heap.size)) (F0 m 47 ls [.int s0, .int s1]) := by
        intro S0 v0 v2 s0 s1 tv0 H locs ls hf hW hS hl
        unfold f_X11_deadBytes_L47 at hf
        refine lv_iadd hx hb dX11_deadBytes_47 ?_
        refine lv_topi (fun x3 ex3 => ?_)
        replace hf := ltE hf x3 ex3
        refine lv_istore_n (lv' := [(1, .int x3), (0, .ref (ad v0)), (2, .int v2)]) hx hb dX11_deadBytes_48 rfl hl (by decide) rfl (fun ls hl => ?_)
        obtain ⟨x4, ex4⟩ : ∃ z : Int32, z = v2 + 1 := ⟨_, rfl⟩
        replace hf := ltE hf x4 ex4
        refine lv_iinc (v := x4) (lv' := [(2, .int x4), (1, .int x3), (0, .ref (ad v0))]) hx hb dX11_deadBytes_49 hl (k := 2) rfl (by rw [ex4]; rfl) (by decide) rfl (fun ls hl => ?_)
        refine lv_goto (tgt := 9) hx hb dX11_deadBytes_52 (by decide) ?_
        exact ih9 S0 v0 x3 x4 tv0 _ _ _ hf hW hS (lv_sub hl [2, 1, 0] rfl)
      have L46 : ∀ (S0 : St) (v0 : Nat) (v2 : Int32) (s0 : Int32) (tv0 : v0 < n ∧ K v0 = 10) (H : Heap) (locs : List Loc) (ls : Array Slot), f_X11_deadBytes_L46 F (fun a0 a1 a2 a3 => f_X11_deadBytes_L9 F fu9 a0 a1 a2 a3) S0 v0 v2 s0 = some (r9, S9) → Wb g ad n K S0 (dA ad n s.heap.size) H → va_S (dA ad n s.heap.size) s.heap H locs → lv_has ls 3 [(0, .ref (ad v0)), (2, .int v2)] → W p l e (headSpec wsX11_deadBytes { frames := 2, cells := 0, slots := 0, locals := 46 }).room s m (List.toArray [.ref (ad p0)]) below meth c H locs 0 0 (MQ below (QR (some (.int r9)) (QB g ad n K S9 (dA ad n s.heap.size) (True)) (dA ad n s.heap.size)) (List.toArray [.ref (ad p0)]) s 0 0 (dA ad n s.heap.size)) (F0 m 46 ls [.int s0]) := by
        intro S0 v0 v2 s0 tv0 H locs ls hf hW hS hl
        unfold f_X11_deadBytes_L46 at hf
        refine lv_iconst (v := 0) hx hb dX11_deadBytes_46 (by decide) ?_
        exact L47 S0 v0 v2 0 s0 tv0 _ _ _ hf hW hS (lv_sub hl [0, 1] rfl)
      intro S0 v0 v1 v2 tv0 H locs ls hf hW hS hl
      unfold f_X11_deadBytes_L9 at hf
      refine lv_iload_n hx hb dX11_deadBytes_9 rfl (lv_at hl 2 rfl) ?_
      refine lv_aload_n hx hb dX11_deadBytes_10 rfl (lv_at hl 0 rfl) ?_
      replace hf := obE hf
      obtain ⟨j22, qj22, hf⟩ := hf
      have tj22 := x_rt hW qj22 12 ⟨by decide, rfl⟩
      refine x_getr 1001 (ci := 10) (C := RX11) (T := TX11) (N := 30) 1 hC hin11 hW tv0 rfl rfl ⟨by decide, by decide, rfl, rfl⟩ rfl w_0 dX11_deadBytes_11 qj22 ?_
      refine lv_bipush (v := 8) hx hb dX11_deadBytes_14 (by decide) ?_
      replace hf := ckiE hf
      obtain ⟨h23, hf⟩ := hf
      refine x_iald hC hW tj22 rfl rfl h23 dX11_deadBytes_16 ?_
      refine lv_icmp_ge (tgt := 55) hx hb dX11_deadBytes_17 (by decide) (fun c24 => ?_) (fun c24 => ?_)
      · replace hf := ifT c24 hf
        refine lv_iload_n hx hb dX11_deadBytes_55 rfl (lv_at hl 1 rfl) ?_
        obtain ⟨e1, e2⟩ := so2 hf
        subst e1
        subst e2
        exact W.iret (v := v1) hx hb hr (fun t ht hWm => ⟨⟨rfl, by unfold QB; rw [ht]; exact ⟨hW, trivial⟩⟩, hS.F ht⟩) hS.2.2 dX11_deadBytes_56 hlk
      · replace hf := ifF c24 hf
        refine lv_iload_n hx hb dX11_deadBytes_20 rfl (lv_at hl 1 rfl) ?_
        refine lv_aload_n hx hb dX11_deadBytes_21 rfl (lv_at hl 0 rfl) ?_
        refine lv_iload_n hx hb dX11_deadBytes_22 rfl (lv_at hl 2 rfl) ?_
        replace hf := obE hf
        obtain ⟨z25, hz25, hf⟩ := hf
        obtain ⟨r27, S26⟩ := z25
        replace hf := ltE (ltE hf r27 rfl) S26 rfl
        refine x_callV (As := [.int v2]) (rest := [.int v1]) (o := (some (.int r27))) (S1 := S26) hC hl.1 hW hS hGs hA tv0 rfl (show vwCl[10]? = some (RX11, TX11, 30) ∧ 10 < 11 from ⟨rfl, by decide⟩) (c_X11_isStored l g ad n K H.size F S0 v0 v2 tv0 r27 S26 hz25) (cwV 1 hts gX11_deadBytes_X11_isStored rfl rfl rfl (by decide +kernel) ⟨Nat.le_of_ble_eq_true rfl, Nat.le_of_ble_eq_true rfl⟩) rfl rfl (Nat.le_of_ble_eq_true rfl) dX11_deadBytes_23 ⟨Nat.le_of_ble_eq_true rfl, Nat.le_of_ble_eq_true rfl⟩ (fun H locs hPz25 hW hS => ?_)
        refine W.eq (g2 := F0 m 26 ls [.int r27, .int v1]) rfl ?_
        refine lv_if_eq (tgt := 46) hx hb dX11_deadBytes_26 (by decide) (fun c29 => ?_) (fun c29 => ?_)
        · replace hf := ifT c29 hf
          exact L46 S26 v0 v2 v1 tv0 _ _ _ hf hW hS (lv_sub hl [0, 2] rfl)
        · replace hf := ifF c29 hf
          refine lv_aload_n hx hb dX11_deadBytes_29 rfl (lv_at hl 0 rfl) ?_
          refine lv_iload_n hx hb dX11_deadBytes_30 rfl (lv_at hl 2 rfl) ?_
          replace hf := obE hf
          obtain ⟨z30, hz30, hf⟩ := hf
          obtain ⟨r32, S31⟩ := z30
          replace hf := ltE (ltE hf r32 rfl) S31 rfl
          refine x_callV (As := [.int v2]) (rest := [.int v1]) (o := (some (.int r32))) (S1 := S31) hC hl.1 hW hS hGs hA tv0 rfl (show vwCl[10]? = some (RX11, TX11, 30) ∧ 10 < 11 from ⟨rfl, by decide⟩) (c_X11_isDead l g ad n K H.size F S26 v0 v2 tv0 r32 S31 hz30) (cwV 1 hts gX11_deadBytes_X11_isDead rfl rfl rfl (by decide +kernel) ⟨Nat.le_of_ble_eq_true rfl, Nat.le_of_ble_eq_true rfl⟩) rfl rfl (Nat.le_of_ble_eq_true rfl) dX11_deadBytes_31 ⟨Nat.le_of_ble_eq_true rfl, Nat.le_of_ble_eq_true rfl⟩ (fun H locs hPz30 hW hS => ?_)
          refine W.eq (g2 := F0 m 34 ls [.int r32, .int v1]) rfl ?_
          refine lv_if_eq (tgt := 46) hx hb dX11_deadBytes_34 (by decide) (fun c34 => ?_) (fun c34 => ?_)
          · replace hf := ifT c34 hf
            exact L46 S31 v0 v2 v1 tv0 _ _ _ hf hW hS (lv_sub hl [0, 2] rfl)
          · replace hf := ifF c34 hf
            refine lv_aload_n hx hb dX11_deadBytes_37 rfl (lv_at hl 0 rfl) ?_
            refine lv_iload_n hx hb dX11_deadBytes_38 rfl (lv_at hl 2 rfl) ?_
            refine lv_iconst (v := 0) hx hb dX11_deadBytes_39 (by decide) ?_
            replace hf := obE hf
            obtain ⟨z35, hz35, hf⟩ := hf
            obtain ⟨r37, S36⟩ := z35
            replace hf := ltE (ltE hf r37 rfl) S36 rfl
            refine x_callV (As := [.int v2, .int 0]) (rest := [.int v1]) (o := (some (.int r37))) (S1 := S36) hC hl.1 hW hS hGs hA tv0 rfl (show vwCl[10]? = some (RX11, TX11, 30) ∧ 10 < 11 from ⟨rfl, by decide⟩) (c_X11_partValue l g ad n K H.size F S31 v0 v2 ((0 : Int32)) tv0 r37 S36 hz35) (cwV 2 hts gX11_deadBytes_X11_partValue rfl rfl rfl (by decide +kernel) ⟨Nat.le_of_ble_eq_true rfl, Nat.le_of_ble_eq_true rfl⟩) rfl rfl (Nat.le_of_ble_eq_true rfl) dX11_deadBytes_40 ⟨Nat.le_of_ble_eq_true rfl, Nat.le_of_ble_eq_true rfl⟩ (fun H locs hPz35 hW hS => ?_)
            refine W.eq (g2 := F0 m 43 ls [.int r37, .int v1]) rfl ?_
            refine lv_goto (tgt := 47) hx hb dX11_deadBytes_43 (by decide) ?_
            exact L47 S36 v0 v2 r37 v1 tv0 _ _ _ hf hW hS (lv_sub hl [0, 2] rfl)
  unfold f_X11_deadBytes at hf
  refine lv_aload_n hx hb dX11_deadBytes_0 rfl (lv_at hl 0 rfl) ?_
  refine lv_iconst (v := 0) hx hb dX11_deadBytes_1 (by decide) ?_
  refine x_puti 1000 (ci := 10) (C := RX11) (T := TX11) (N := 30) (v := 0) (ty := .int) 0 hC hin11 tyX11_ok nmX11 hW hS tp0 rfl rfl ⟨by decide, by decide, rfl, rfl⟩ rfl w_1 rfl (by decide +kernel) rfl rfl dX11_deadBytes_2 (fun S39 H locs eS39 hW hS => ?_)
  replace hf := ltE hf S39 eS39
  refine lv_iconst (v := 0) hx hb dX11_deadBytes_5 (by decide) ?_
  refine lv_istore_n (lv' := [(1, .int 0), (0, .ref (ad p0))]) hx hb dX11_deadBytes_6 rfl hl (by decide) rfl (fun ls hl => ?_)
  refine lv_iconst (v := 0) hx hb dX11_deadBytes_7 (by decide) ?_
  refine lv_istore_n (lv' := [(2, .int 0), (1, .int 0), (0, .ref (ad p0))]) hx hb dX11_deadBytes_8 rfl hl (by decide) rfl (fun ls hl => ?_)
  exact L9 F S39 p0 0 0 tp0 _ _ _ hf hW hS (lv_sub hl [2, 1, 0] rfl)
set_option maxHeartbeats 4000000 in
set_option maxRecDepth 100000 in
theorem c_X11_logicalBytes (l : Launch) (g : GP) (ad : Nat → Nat) (n : Nat) (K : Nat → Nat) (sz F : Nat) (S0 : St) (p0 : Nat) (tp0 : p0 < n ∧ K p0 = 10) (r9 : Int32) (S9 : St) (hf : f_X11_logicalBytes F S0 p0 = some (r9, S9)) : Met l yX11_logicalBytes wsX11_logicalBytes { frames := 4, cells := 0, slots := 0, locals := 88 } (va_Pc [.ref (ad p0)] (PB g ad n K S0 sz)) (QR (some (.int r9)) (QB g ad n K S9 (dA ad n sz) (True)) (dA ad n sz)) 0 0 (dA ad n sz) := by
  refine Met.ofW (cc := cX11_logicalBytes) (maxL := 3) (ret := (some .int)) (by decide) rfl ?_
  intro p e s m args below meth c s₁ B hml hv
  obtain ⟨rfl, hsz, hW, hK, hGs⟩ := x_start hv
  subst hsz
  have hx := B.exec
  have hb := B.bytes
  have hr := B.returns
  have hts := atoms_spec (ws := wsX11_logicalBytes) B.pre
  have hown : s.vm.findClass RX11 = some m.cls := findClass_of_methodNamed B.named
  have hlk := B.notSynchronized
  have hC : Cx g p s m _ c cX11_logicalBytes RX11 wsX11_logicalBytes 3 := ⟨hx, hb, hml, hown, hts, hK⟩
  have hA : ∀ q : Nat, s.heap.size ≤ q → dA ad n s.heap.size q := fun q h => Or.inr h
  have hS : va_S (dA ad n s.heap.size) s.heap s.heap [] := va_S.rf
  have hl := lv_entry ([.ref (ad p0)]) (n := 3) (Nat.le_of_ble_eq_true rfl)
  rw [lg_entry_eq]
  generalize (lg_sl ([.ref (ad p0)]) ++ List.replicate (3 - (lg_sl ([.ref (ad p0)])).length) Slot.unset).toArray = ls at hl ⊢
  have hl : lv_has ls 3 [(0, .ref (ad p0))] := hl
  have hin11 : ∀ w ∈ wsX110, w ∈ wsX11_logicalBytes := by decide +kernel
  have w_0 := hts (.fieldLink RX11 17 "MailSpoolModel" "net" "[I") (by decide +kernel)
  have w_1 := hts (.fieldLink RX11 3 "MailSpoolModel" "thrown" "I") (by decide +kernel)
  have hGE := hGs.2.2.2.2.2.2.1
  have hGM := hGs.2.2.2.2.2.2.2.1
  have L9 : ∀ (fu9 : Nat) (S0 : St) (v0 : Nat) (v1 : Int32) (v2 : Int32) (tv0 : v0 < n ∧ K v0 = 10) (H : Heap) (locs : List Loc) (ls : Array Slot), f_X11_logicalBytes_L9 F fu9 S0 v0 v1 v2 = some (r9, S9) → Wb g ad n K S0 (dA ad n s.heap.size) H → va_S (dA ad n s.heap.size) s.heap H locs → lv_has ls 3 [(0, .ref (ad v0)), (1, .int v1), (2, .int v2)] → W p l e (headSpec wsX11_logicalBytes { frames := 4, cells := 0, slots := 0, locals := 88 }).room s m (List.toArray [.ref (ad p0)]) below meth c H locs 0 0 (MQ below (QR (some (.int r9)) (QB g ad n K S9 (dA ad n s.heap.size) (True)) (dA ad n s.heap.size)) (List.toArray [.ref (ad p0)]) s 0 0 (dA ad n s.heap.size)) (F0 m 9 ls []) := by
    intro fu9
    induction fu9 with
    | zero =>
      intro S0 v0 v1 v2 tv0 H locs ls hf
      cases hf
    | succ fu9 ih9 =>
      intro S0 v0 v1 v2 tv0 H locs ls hf hW hS hl
      unfold f_X11_logicalBytes_L9 at hf
      refine lv_iload_n hx hb dX11_logicalBytes_9 rfl (lv_at hl 2 rfl) ?_
      refine lv_aload_n hx hb dX11_logicalBytes_10 rfl (lv_at hl 0 rfl) ?_
      replace hf := obE hf
      obtain ⟨j10, qj10, hf⟩ := hf
      have tj10 := x_rt hW qj10 12 ⟨by decide, rfl⟩
      refine x_getr 1001 (ci := 10) (C := RX11) (T := TX11) (N := 30) 1 hC hin11 hW tv0 rfl rfl ⟨by decide, by decide, rfl, rfl⟩ rfl w_0 dX11_logicalBytes_11 qj10 ?_
      refine lv_iconst (v := 4) hx hb dX11_logicalBytes_14 (by decide) ?_
      replace hf := ckiE hf
      obtain ⟨h11, hf⟩ := hf
      refine x_iald hC hW tj10 rfl rfl h11 dX11_logicalBytes_15 ?_
      refine lv_icmp_ge (tgt := 33) hx hb dX11_logicalBytes_16 (by decide) (fun c12 => ?_) (fun c12 => ?_)
      · replace hf := ifT c12 hf
        refine lv_iload_n hx hb dX11_logicalBytes_33 rfl (lv_at hl 1 rfl) ?_
        obtain ⟨e1, e2⟩ := so2 hf
        subst e1
        subst e2
        exact W.iret (v := v1) hx hb hr (fun t ht hWm => ⟨⟨rfl, by unfold QB; rw [ht]; exact ⟨hW, trivial⟩⟩, hS.F ht⟩) hS.2.2 dX11_logicalBytes_34 hlk
      · replace hf := ifF c12 hf
        refine lv_iload_n hx hb dX11_logicalBytes_19 rfl (lv_at hl 1 rfl) ?_
        refine lv_aload_n hx hb dX11_logicalBytes_20 rfl (lv_at hl 0 rfl) ?_
        refine lv_iload_n hx hb dX11_logicalBytes_21 rfl (lv_at hl 2 rfl) ?_
        replace hf := obE hf
        obtain ⟨z13, hz13, hf⟩ := hf
        obtain ⟨r15, S14⟩ := z13
        replace hf := ltE (ltE hf r15 rfl) S14 rfl
        refine x_callV (As := [.int v2]) (rest := [.int v1]) (o := (some (.int r15))) (S1 := S14) hC hl.1 hW hS hGs hA tv0 rfl (show vwCl[10]? = some (RX11, TX11, 30) ∧ 10 < 11 from ⟨rfl, by decide⟩) (c_X11_usageOf l g ad n K H.size F S0 v0 v2 tv0 r15 S14 hz13) (cwV 1 hts gX11_logicalBytes_X11_usageOf rfl rfl rfl (by decide +kernel) ⟨Nat.le_of_ble_eq_true rfl, Nat.le_of_ble_eq_true rfl⟩) rfl rfl (Nat.le_of_ble_eq_true rfl) dX11_logicalBytes_22 ⟨Nat.le_of_ble_eq_true rfl, Nat.le_of_ble_eq_true rfl⟩ (fun H locs hPz13 hW hS => ?_)
        refine W.eq (g2 := F0 m 25 ls [.int r15, .int v1]) rfl ?_
        refine lv_iadd hx hb dX11_logicalBytes_25 ?_
        refine lv_topi (fun x17 ex17 => ?_)
        replace hf := ltE hf x17 ex17
        refine lv_istore_n (lv' := [(1, .int x17), (0, .ref (ad v0)), (2, .int v2)]) hx hb dX11_logicalBytes_26 rfl hl (by decide) rfl (fun ls hl => ?_)
        obtain ⟨x18, ex18⟩ : ∃ z : Int32, z = v2 + 1 := ⟨_, rfl⟩
        replace hf := ltE hf x18 ex18
        refine lv_iinc (v := x18) (lv' := [(2, .int x18), (1, .int x17), (0, .ref (ad v0))]) hx hb dX11_logicalBytes_27 hl (k := 2) rfl (by rw [ex18]; rfl) (by decide) rfl (fun ls hl => ?_)
        refine lv_goto (tgt := 9) hx hb dX11_logicalBytes_30 (by decide) ?_
        exact ih9 S14 v0 x17 x18 tv0 _ _ _ hf hW hS (lv_sub hl [2, 1, 0] rfl)
  unfold f_X11_logicalBytes at hf
  refine lv_aload_n hx hb dX11_logicalBytes_0 rfl (lv_at hl 0 rfl) ?_
  refine lv_iconst (v := 0) hx hb dX11_logicalBytes_1 (by decide) ?_
  refine x_puti 1000 (ci := 10) (C := RX11) (T := TX11) (N := 30) (v := 0) (ty := .int) 0 hC hin11 tyX11_ok nmX11 hW hS tp0 rfl rfl ⟨by decide, by decide, rfl, rfl⟩ rfl w_1 rfl (by decide +kernel) rfl rfl dX11_logicalBytes_2 (fun S19 H locs eS19 hW hS => ?_)
  replace hf := ltE hf S19 eS19
  refine lv_iconst (v := 0) hx hb dX11_logicalBytes_5 (by decide) ?_
  refine lv_istore_n (lv' := [(1, .int 0), (0, .ref (ad p0))]) hx hb dX11_logicalBytes_6 rfl hl (by decide) rfl (fun ls hl => ?_)
  refine lv_iconst (v := 0) hx hb dX11_logicalBytes_7 (by decide) ?_
  refine lv_istore_n (lv' := [(2, .int 0), (1, .int 0), (0, .ref (ad p0))]) hx hb dX11_logicalBytes_8 rfl hl (by decide) rfl (fun ls hl => ?_)
  exact L9 F S19 p0 0 0 tp0 _ _ _ hf hW hS (lv_sub hl [2, 1, 0] rfl)
set_option maxHeartbeats 4000000 in
set_option maxRecDepth 100000 in
theorem c_X11_mostShared (l : Launch) (g : GP) (ad : Nat → Nat) (n : Nat) (K : Nat → Nat) (sz F : Nat) (S0 : St) (p0 : Nat) (tp0 : p0 < n ∧ K p0 = 10) (r9 : Int32) (S9 : St) (hf : f_X11_mostShared F S0 p0 = some (r9, S9)) : Met l yX11_mostShared wsX11_mostShared { frames := 4, cells := 0, slots := 0, locals := 89 } (va_Pc [.ref (ad p0)] (PB g ad n K S0 sz)) (QR (some (.int r9)) (QB g ad n K S9 (dA ad n sz) (True)) (dA ad n sz)) 0 0 (dA ad n sz) := by
  refine Met.ofW (cc := cX11_mostShared) (maxL := 3) (ret := (some .int)) (by decide) rfl ?_
  intro p e s m args below meth c s₁ B hml hv
  obtain ⟨rfl, hsz, hW, hK, hGs⟩ := x_start hv
  subst hsz
  have hx := B.exec
  have hb := B.bytes
  have hr := B.returns
  have hts := atoms_spec (ws := wsX11_mostShared) B.pre
  have hown : s.vm.findClass RX11 = some m.cls := findClass_of_methodNamed B.named
  have hlk := B.notSynchronized
  have hC : Cx g p s m _ c cX11_mostShared RX11 wsX11_mostShared 3 := ⟨hx, hb, hml, hown, hts, hK⟩
  have hA : ∀ q : Nat, s.heap.size ≤ q → dA ad n s.heap.size q := fun q h => Or.inr h
  have hS : va_S (dA ad n s.heap.size) s.heap s.heap [] := va_S.rf
  have hl := lv_entry ([.ref (ad p0)]) (n := 3) (Nat.le_of_ble_eq_true rfl)
  rw [lg_entry_eq]
  generalize (lg_sl ([.ref (ad p0)]) ++ List.replicate (3 - (lg_sl ([.ref (ad p0)])).length) Slot.unset).toArray = ls at hl ⊢
  have hl : lv_has ls 3 [(0, .ref (ad p0))] := hl
  have hin11 : ∀ w ∈ wsX110, w ∈ wsX11_mostShared := by decide +kernel
  have w_0 := hts (.fieldLink RX11 17 "MailSpoolModel" "net" "[I") (by decide +kernel)
  have w_1 := hts (.fieldLink RX11 3 "MailSpoolModel" "thrown" "I") (by decide +kernel)
  have hGE := hGs.2.2.2.2.2.2.1
  have hGM := hGs.2.2.2.2.2.2.2.1
  have L9 : ∀ (fu9 : Nat) (S0 : St) (v0 : Nat) (v1 : Int32) (v2 : Int32) (tv0 : v0 < n ∧ K v0 = 10) (H : Heap) (locs : List Loc) (ls : Array Slot), f_X11_mostShared_L9 F fu9 S0 v0 v1 v2 = some (r9, S9) → Wb g ad n K S0 (dA ad n s.heap.size) H → va_S (dA ad n s.heap.size) s.heap H locs → lv_has ls 3 [(0, .ref (ad v0)), (1, .int v1), (2, .int v2)] → W p l e (headSpec wsX11_mostShared { frames := 4, cells := 0, slots := 0, locals := 89 }).room s m (List.toArray [.ref (ad p0)]) below meth c H locs 0 0 (MQ below (QR (some (.int r9)) (QB g ad n K S9 (dA ad n s.heap.size) (True)) (dA ad n s.heap.size)) (List.toArray [.ref (ad p0)]) s 0 0 (dA ad n s.heap.size)) (F0 m 9 ls []) := by
    intro fu9
    induction fu9 with
    | zero =>
      intro S0 v0 v1 v2 tv0 H locs ls hf
      cases hf
    | succ fu9 ih9 =>
      have L56 : ∀ (S0 : St) (v0 : Nat) (v1 : Int32) (v2 : Int32) (tv0 : v0 < n ∧ K v0 = 10) (H : Heap) (locs : List Loc) (ls : Array Slot), f_X11_mostShared_L56 F (fun a0 a1 a2 a3 => f_X11_mostShared_L9 F fu9 a0 a1 a2 a3) S0 v0 v1 v2 = some (r9, S9) → Wb g ad n K S0 (dA ad n s.heap.size) H → va_S (dA ad n s.heap.size) s.heap H locs → lv_has ls 3 [(0, .ref (ad v0)), (1, .int v1), (2, .int v2)] → W p l e (headSpec wsX11_mostShared { frames := 4, cells := 0, slots := 0, locals := 89 }).room s m (List.toArray [.ref (ad p0)]) below meth c H locs 0 0 (MQ below (QR (some (.int r9)) (QB g ad n K S9 (dA ad n s.heap.size) (True)) (dA ad n s.heap.size)) (List.toArray [.ref (ad p0)]) s 0 0 (dA ad n s.heap.size)) (F0 m 56 ls []) := by
        intro S0 v0 v1 v2 tv0 H locs ls hf hW hS hl
        unfold f_X11_mostShared_L56 at hf
        obtain ⟨x2, ex2⟩ : ∃ z : Int32, z = v2 + 1 := ⟨_, rfl⟩
        replace hf := ltE hf x2 ex2
        refine lv_iinc (v := x2) (lv' := [(2, .int x2), (0, .ref (ad v0)), (1, .int v1)]) hx hb dX11_mostShared_56 hl (k := 2) rfl (by rw [ex2]; rfl) (by decide) rfl (fun ls hl => ?_)
        refine lv_goto (tgt := 9) hx hb dX11_mostShared_59 (by decide) ?_
        exact ih9 S0 v0 v1 x2 tv0 _ _ _ hf hW hS (lv_sub hl [1, 2, 0] rfl)
      have L54 : ∀ (S0 : St) (v0 : Nat) (v2 : Int32) (tv0 : v0 < n ∧ K v0 = 10) (H : Heap) (locs : List Loc) (ls : Array Slot), f_X11_mostShared_L54 F (fun a0 a1 a2 a3 => f_X11_mostShared_L9 F fu9 a0 a1 a2 a3) S0 v0 v2 = some (r9, S9) → Wb g ad n K S0 (dA ad n s.heap.size) H → va_S (dA ad n s.heap.size) s.heap H locs → lv_has ls 3 [(0, .ref (ad v0)), (2, .int v2)] → W p l e (headSpec wsX11_mostShared { frames := 4, cells := 0, slots := 0, locals := 89 }).room s m (List.toArray [.ref (ad p0)]) below meth c H locs 0 0 (MQ below (QR (some (.int r9)) (QB g ad n K S9 (dA ad n s.heap.size) (True)) (dA ad n s.heap.size)) (List.toArray [.ref (ad p0)]) s 0 0 (dA ad n s.heap.size)) (F0 m 54 ls []) := by
        intro S0 v0 v2 tv0 H locs ls hf hW hS hl
        unfold f_X11_mostShared_L54 at hf
        refine lv_iload_n hx hb dX11_mostShared_54 rfl (lv_at hl 1 rfl) ?_
        refine lv_istore_n (lv' := [(1, .int v2), (0, .ref (ad v0)), (2, .int v2)]) hx hb dX11_mostShared_55 rfl hl (by decide) rfl (fun ls hl => ?_)
        exact L56 S0 v0 v2 v2 tv0 _ _ _ hf hW hS (lv_sub hl [1, 0, 2] rfl)
      intro S0 v0 v1 v2 tv0 H locs ls hf hW hS hl
      unfold f_X11_mostShared_L9 at hf
      refine lv_iload_n hx hb dX11_mostShared_9 rfl (lv_at hl 2 rfl) ?_
      refine lv_aload_n hx hb dX11_mostShared_10 rfl (lv_at hl 0 rfl) ?_
      replace hf := obE hf
      obtain ⟨j26, qj26, hf⟩ := hf
      have tj26 := x_rt hW qj26 12 ⟨by decide, rfl⟩
      refine x_getr 1001 (ci := 10) (C := RX11) (T := TX11) (N := 30) 1 hC hin11 hW tv0 rfl rfl ⟨by decide, by decide, rfl, rfl⟩ rfl w_0 dX11_mostShared_11 qj26 ?_
      refine lv_bipush (v := 8) hx hb dX11_mostShared_14 (by decide) ?_
      replace hf := ckiE hf
      obtain ⟨h27, hf⟩ := hf
      refine x_iald hC hW tj26 rfl rfl h27 dX11_mostShared_16 ?_
      refine lv_icmp_ge (tgt := 62) hx hb dX11_mostShared_17 (by decide) (fun c28 => ?_) (fun c28 => ?_)
      · replace hf := ifT c28 hf
        refine lv_iload_n hx hb dX11_mostShared_62 rfl (lv_at hl 1 rfl) ?_
        obtain ⟨e1, e2⟩ := so2 hf
        subst e1
        subst e2
        exact W.iret (v := v1) hx hb hr (fun t ht hWm => ⟨⟨rfl, by unfold QB; rw [ht]; exact ⟨hW, trivial⟩⟩, hS.F ht⟩) hS.2.2 dX11_mostShared_63 hlk
      · replace hf := ifF c28 hf
        refine lv_aload_n hx hb dX11_mostShared_20 rfl (lv_at hl 0 rfl) ?_
        refine lv_iload_n hx hb dX11_mostShared_21 rfl (lv_at hl 2 rfl) ?_
        replace hf := obE hf
        obtain ⟨z29, hz29, hf⟩ := hf
        obtain ⟨r31, S30⟩ := z29
        replace hf := ltE (ltE hf r31 rfl) S30 rfl
        refine x_callV (As := [.int v2]) (rest := []) (o := (some (.int r31))) (S1 := S30) hC hl.1 hW hS hGs hA tv0 rfl (show vwCl[10]? = some (RX11, TX11, 30) ∧ 10 < 11 from ⟨rfl, by decide⟩) (c_X11_isStored l g ad n K H.size F S0 v0 v2 tv0 r31 S30 hz29) (cwV 1 hts gX11_mostShared_X11_isStored rfl rfl rfl (by decide +kernel) ⟨Nat.le_of_ble_eq_true rfl, Nat.le_of_ble_eq_true rfl⟩) rfl rfl (Nat.le_of_ble_eq_true rfl) dX11_mostShared_22 ⟨Nat.le_of_ble_eq_true rfl, Nat.le_of_ble_eq_true rfl⟩ (fun H locs hPz29 hW hS => ?_)
        refine W.eq (g2 := F0 m 25 ls [.int r31]) rfl ?_
        refine lv_if_eq (tgt := 56) hx hb dX11_mostShared_25 (by decide) (fun c33 => ?_) (fun c33 => ?_)
        · replace hf := ifT c33 hf
          exact L56 S30 v0 v1 v2 tv0 _ _ _ hf hW hS (lv_sub hl [0, 1, 2] rfl)
        · replace hf := ifF c33 hf
          refine lv_aload_n hx hb dX11_mostShared_28 rfl (lv_at hl 0 rfl) ?_
          refine lv_iload_n hx hb dX11_mostShared_29 rfl (lv_at hl 2 rfl) ?_
          replace hf := obE hf
          obtain ⟨z34, hz34, hf⟩ := hf
          obtain ⟨r36, S35⟩ := z34
          replace hf := ltE (ltE hf r36 rfl) S35 rfl
          refine x_callV (As := [.int v2]) (rest := []) (o := (some (.int r36))) (S1 := S35) hC hl.1 hW hS hGs hA tv0 rfl (show vwCl[10]? = some (RX11, TX11, 30) ∧ 10 < 11 from ⟨rfl, by decide⟩) (c_X11_keepers l g ad n K H.size F S30 v0 v2 tv0 r36 S35 hz34) (cwV 1 hts gX11_mostShared_X11_keepers rfl rfl rfl (by decide +kernel) ⟨Nat.le_of_ble_eq_true rfl, Nat.le_of_ble_eq_true rfl⟩) rfl rfl (Nat.le_of_ble_eq_true rfl) dX11_mostShared_30 ⟨Nat.le_of_ble_eq_true rfl, Nat.le_of_ble_eq_true rfl⟩ (fun H locs hPz34 hW hS => ?_)
          refine W.eq (g2 := F0 m 33 ls [.int r36]) rfl ?_
          refine lv_if_le (tgt := 56) hx hb dX11_mostShared_33 (by decide) (fun c38 => ?_) (fun c38 => ?_)
          · replace hf := ifT c38 hf
            exact L56 S35 v0 v1 v2 tv0 _ _ _ hf hW hS (lv_sub hl [0, 1, 2] rfl)
          · replace hf := ifF c38 hf
            refine lv_iload_n hx hb dX11_mostShared_36 rfl (lv_at hl 1 rfl) ?_
            refine lv_iconst (v := -1) hx hb dX11_mostShared_37 (by decide) ?_
            refine lv_icmp_eq (tgt := 54) hx hb dX11_mostShared_38 (by decide) (fun c39 => ?_) (fun c39 => ?_)
            · replace hf := ifT c39 hf
              exact L54 S35 v0 v2 tv0 _ _ _ hf hW hS (lv_sub hl [0, 2] rfl)
            · replace hf := ifF c39 hf
              refine lv_aload_n hx hb dX11_mostShared_41 rfl (lv_at hl 0 rfl) ?_
              refine lv_iload_n hx hb dX11_mostShared_42 rfl (lv_at hl 2 rfl) ?_
              replace hf := obE hf
              obtain ⟨z40, hz40, hf⟩ := hf
              obtain ⟨r42, S41⟩ := z40
              replace hf := ltE (ltE hf r42 rfl) S41 rfl
              refine x_callV (As := [.int v2]) (rest := []) (o := (some (.int r42))) (S1 := S41) hC hl.1 hW hS hGs hA tv0 rfl (show vwCl[10]? = some (RX11, TX11, 30) ∧ 10 < 11 from ⟨rfl, by decide⟩) (c_X11_keepers l g ad n K H.size F S35 v0 v2 tv0 r42 S41 hz40) (cwV 1 hts gX11_mostShared_X11_keepers rfl rfl rfl (by decide +kernel) ⟨Nat.le_of_ble_eq_true rfl, Nat.le_of_ble_eq_true rfl⟩) rfl rfl (Nat.le_of_ble_eq_true rfl) dX11_mostShared_43 ⟨Nat.le_of_ble_eq_true rfl, Nat.le_of_ble_eq_true rfl⟩ (fun H locs hPz40 hW hS => ?_)
              refine W.eq (g2 := F0 m 46 ls [.int r42]) rfl ?_
              refine lv_aload_n hx hb dX11_mostShared_46 rfl (lv_at hl 0 rfl) ?_
              refine lv_iload_n hx hb dX11_mostShared_47 rfl (lv_at hl 1 rfl) ?_
              replace hf := obE hf
              obtain ⟨z44, hz44, hf⟩ := hf
              obtain ⟨r46, S45⟩ := z44
              replace hf := ltE (ltE hf r46 rfl) S45 rfl
              refine x_callV (As := [.int v1]) (rest := [.int r42]) (o := (some (.int r46))) (S1 := S45) hC hl.1 hW hS hGs hA tv0 rfl (show vwCl[10]? = some (RX11, TX11, 30) ∧ 10 < 11 from ⟨rfl, by decide⟩) (c_X11_keepers l g ad n K H.size F S41 v0 v1 tv0 r46 S45 hz44) (cwV 1 hts gX11_mostShared_X11_keepers rfl rfl rfl (by decide +kernel) ⟨Nat.le_of_ble_eq_true rfl, Nat.le_of_ble_eq_true rfl⟩) rfl rfl (Nat.le_of_ble_eq_true rfl) dX11_mostShared_48 ⟨Nat.le_of_ble_eq_true rfl, Nat.le_of_ble_eq_true rfl⟩ (fun H locs hPz44 hW hS => ?_)
              refine W.eq (g2 := F0 m 51 ls [.int r46, .int r42]) rfl ?_
              refine lv_icmp_le (tgt := 56) hx hb dX11_mostShared_51 (by decide) (fun c48 => ?_) (fun c48 => ?_)
              · replace hf := ifT c48 hf
                exact L56 S45 v0 v1 v2 tv0 _ _ _ hf hW hS (lv_sub hl [0, 1, 2] rfl)
              · replace hf := ifF c48 hf
                exact L54 S45 v0 v2 tv0 _ _ _ hf hW hS (lv_sub hl [0, 2] rfl)
  unfold f_X11_mostShared at hf
  refine lv_aload_n hx hb dX11_mostShared_0 rfl (lv_at hl 0 rfl) ?_
  refine lv_iconst (v := 0) hx hb dX11_mostShared_1 (by decide) ?_
  refine x_puti 1000 (ci := 10) (C := RX11) (T := TX11) (N := 30) (v := 0) (ty := .int) 0 hC hin11 tyX11_ok nmX11 hW hS tp0 rfl rfl ⟨by decide, by decide, rfl, rfl⟩ rfl w_1 rfl (by decide +kernel) rfl rfl dX11_mostShared_2 (fun S49 H locs eS49 hW hS => ?_)
  replace hf := ltE hf S49 eS49
  refine lv_iconst (v := -1) hx hb dX11_mostShared_5 (by decide) ?_
  refine lv_topi (fun x50 ex50 => ?_)
  replace hf := ltE hf x50 ex50
  refine lv_istore_n (lv' := [(1, .int x50), (0, .ref (ad p0))]) hx hb dX11_mostShared_6 rfl hl (by decide) rfl (fun ls hl => ?_)
  refine lv_iconst (v := 0) hx hb dX11_mostShared_7 (by decide) ?_
  refine lv_istore_n (lv' := [(2, .int 0), (1, .int x50), (0, .ref (ad p0))]) hx hb dX11_mostShared_8 rfl hl (by decide) rfl (fun ls hl => ?_)
  exact L9 F S49 p0 x50 0 tp0 _ _ _ hf hW hS (lv_sub hl [2, 1, 0] rfl)
set_option maxHeartbeats 4000000 in
set_option maxRecDepth 100000 in
theorem c_X11_usage (l : Launch) (g : GP) (ad : Nat → Nat) (n : Nat) (K : Nat → Nat) (sz F : Nat) (S0 : St) (p0 : Nat) (p1 : Int32) (tp0 : p0 < n ∧ K p0 = 10) (r9 : Int32) (S9 : St) (hf : f_X11_usage F S0 p0 p1 = some (r9, S9)) : Met l yX11_usage wsX11_usage { frames := 4, cells := 0, slots := 0, locals := 88 } (va_Pc [.ref (ad p0), .int p1] (PB g ad n K S0 sz)) (QR (some (.int r9)) (QB g ad n K S9 (dA ad n sz) (True)) (dA ad n sz)) 0 0 (dA ad n sz) := by
  refine Met.ofW (cc := cX11_usage) (maxL := 2) (ret := (some .int)) (by decide) rfl ?_
  intro p e s m args below meth c s₁ B hml hv
  obtain ⟨rfl, hsz, hW, hK, hGs⟩ := x_start hv
  subst hsz
  have hx := B.exec
  have hb := B.bytes
  have hr := B.returns
  have hts := atoms_spec (ws := wsX11_usage) B.pre
  have hown : s.vm.findClass RX11 = some m.cls := findClass_of_methodNamed B.named
  have hlk := B.notSynchronized
  have hC : Cx g p s m _ c cX11_usage RX11 wsX11_usage 2 := ⟨hx, hb, hml, hown, hts, hK⟩
  have hA : ∀ q : Nat, s.heap.size ≤ q → dA ad n s.heap.size q := fun q h => Or.inr h
  have hS : va_S (dA ad n s.heap.size) s.heap s.heap [] := va_S.rf
  have hl := lv_entry ([.ref (ad p0), .int p1]) (n := 2) (Nat.le_of_ble_eq_true rfl)
  rw [lg_entry_eq]
  generalize (lg_sl ([.ref (ad p0), .int p1]) ++ List.replicate (2 - (lg_sl ([.ref (ad p0), .int p1])).length) Slot.unset).toArray = ls at hl ⊢
  have hl : lv_has ls 2 [(0, .ref (ad p0)), (1, .int p1)] := hl
  have hGE := hGs.2.2.2.2.2.2.1
  have hGM := hGs.2.2.2.2.2.2.2.1
  unfold f_X11_usage at hf
  refine lv_aload_n hx hb dX11_usage_0 rfl (lv_at hl 0 rfl) ?_
  refine lv_aload_n hx hb dX11_usage_1 rfl (lv_at hl 0 rfl) ?_
  refine lv_iload_n hx hb dX11_usage_2 rfl (lv_at hl 1 rfl) ?_
  replace hf := obE hf
  obtain ⟨z1, hz1, hf⟩ := hf
  obtain ⟨r3, S2⟩ := z1
  replace hf := ltE (ltE hf r3 rfl) S2 rfl
  refine x_callV (As := [.int p1]) (rest := [.ref (ad p0)]) (o := (some (.int r3))) (S1 := S2) hC hl.1 hW hS hGs hA tp0 rfl (show vwCl[10]? = some (RX11, TX11, 30) ∧ 10 < 11 from ⟨rfl, by decide⟩) (c_X11_isUser l g ad n K s.heap.size F S0 p0 p1 tp0 r3 S2 hz1) (cwV 1 hts gX11_usage_X11_isUser rfl rfl rfl (by decide +kernel) ⟨Nat.le_of_ble_eq_true rfl, Nat.le_of_ble_eq_true rfl⟩) rfl rfl (Nat.le_of_ble_eq_true rfl) dX11_usage_3 ⟨Nat.le_of_ble_eq_true rfl, Nat.le_of_ble_eq_true rfl⟩ (fun H locs hPz1 hW hS => ?_)
  refine W.eq (g2 := F0 m 6 ls [.int r3, .ref (ad p0)]) rfl ?_
  replace hf := obE hf
  obtain ⟨z5, hz5, hf⟩ := hf
  obtain ⟨r7, S6⟩ := z5
  replace hf := ltE (ltE hf r7 rfl) S6 rfl
  refine x_callV (As := [.int r3]) (rest := []) (o := (some (.int r7))) (S1 := S6) hC hl.1 hW hS hGs hA tp0 rfl (show vwCl[10]? = some (RX11, TX11, 30) ∧ 10 < 11 from ⟨rfl, by decide⟩) (c_X11_passes l g ad n K H.size F S2 p0 r3 tp0 r7 S6 hz5) (cwV 1 hts gX11_usage_X11_passes rfl rfl rfl (by decide +kernel) ⟨Nat.le_of_ble_eq_true rfl, Nat.le_of_ble_eq_true rfl⟩) rfl rfl (Nat.le_of_ble_eq_true rfl) dX11_usage_6 ⟨Nat.le_of_ble_eq_true rfl, Nat.le_of_ble_eq_true rfl⟩ (fun H locs hPz5 hW hS => ?_)
  refine W.eq (g2 := F0 m 9 ls [.int r7]) rfl ?_
  refine lv_if_eq (tgt := 20) hx hb dX11_usage_9 (by decide) (fun c9 => ?_) (fun c9 => ?_)
  · replace hf := ifT c9 hf
    refine lv_iconst (v := 0) hx hb dX11_usage_20 (by decide) ?_
    obtain ⟨e1, e2⟩ := so2 hf
    subst e1
    subst e2
    exact W.iret (v := 0) hx hb hr (fun t ht hWm => ⟨⟨rfl, by unfold QB; rw [ht]; exact ⟨hW, trivial⟩⟩, hS.F ht⟩) hS.2.2 dX11_usage_21 hlk
  · replace hf := ifF c9 hf
    refine lv_aload_n hx hb dX11_usage_12 rfl (lv_at hl 0 rfl) ?_
    refine lv_iload_n hx hb dX11_usage_13 rfl (lv_at hl 1 rfl) ?_
    replace hf := obE hf
    obtain ⟨z10, hz10, hf⟩ := hf
    obtain ⟨r12, S11⟩ := z10
    replace hf := ltE (ltE hf r12 rfl) S11 rfl
    refine x_callV (As := [.int p1]) (rest := []) (o := (some (.int r12))) (S1 := S11) hC hl.1 hW hS hGs hA tp0 rfl (show vwCl[10]? = some (RX11, TX11, 30) ∧ 10 < 11 from ⟨rfl, by decide⟩) (c_X11_usageOf l g ad n K H.size F S6 p0 p1 tp0 r12 S11 hz10) (cwV 1 hts gX11_usage_X11_usageOf rfl rfl rfl (by decide +kernel) ⟨Nat.le_of_ble_eq_true rfl, Nat.le_of_ble_eq_true rfl⟩) rfl rfl (Nat.le_of_ble_eq_true rfl) dX11_usage_14 ⟨Nat.le_of_ble_eq_true rfl, Nat.le_of_ble_eq_true rfl⟩ (fun H locs hPz10 hW hS => ?_)
    refine W.eq (g2 := F0 m 17 ls [.int r12]) rfl ?_
    refine lv_goto (tgt := 21) hx hb dX11_usage_17 (by decide) ?_
    obtain ⟨e1, e2⟩ := so2 hf
    subst e1
    subst e2
    exact W.iret (v := r12) hx hb hr (fun t ht hWm => ⟨⟨rfl, by unfold QB; rw [ht]; exact ⟨hW, trivial⟩⟩, hS.F ht⟩) hS.2.2 dX11_usage_21 hlk
set_option maxHeartbeats 4000000 in
set_option maxRecDepth 100000 in
theorem c_X11_quota (l : Launch) (g : GP) (ad : Nat → Nat) (n : Nat) (K : Nat → Nat) (sz F : Nat) (S0 : St) (p0 : Nat) (p1 : Int32) (tp0 : p0 < n ∧ K p0 = 10) (r9 : Int32) (S9 : St) (hf : f_X11_quota F S0 p0 p1 = some (r9, S9)) : Met l yX11_quota wsX11_quota { frames := 2, cells := 0, slots := 0, locals := 46 } (va_Pc [.ref (ad p0), .int p1] (PB g ad n K S0 sz)) (QR (some (.int r9)) (QB g ad n K S9 (dA ad n sz) (True)) (dA ad n sz)) 0 0 (dA ad n sz) := by
  refine Met.ofW (cc := cX11_quota) (maxL := 2) (ret := (some .int)) (by decide) rfl ?_
  intro p e s m args below meth c s₁ B hml hv
  obtain ⟨rfl, hsz, hW, hK, hGs⟩ := x_start hv
  subst hsz
  have hx := B.exec
  have hb := B.bytes
  have hr := B.returns
  have hts := atoms_spec (ws := wsX11_quota) B.pre
  have hown : s.vm.findClass RX11 = some m.cls := findClass_of_methodNamed B.named
  have hlk := B.notSynchronized
  have hC : Cx g p s m _ c cX11_quota RX11 wsX11_quota 2 := ⟨hx, hb, hml, hown, hts, hK⟩
  have hA : ∀ q : Nat, s.heap.size ≤ q → dA ad n s.heap.size q := fun q h => Or.inr h
  have hS : va_S (dA ad n s.heap.size) s.heap s.heap [] := va_S.rf
  have hl := lv_entry ([.ref (ad p0), .int p1]) (n := 2) (Nat.le_of_ble_eq_true rfl)
  rw [lg_entry_eq]
  generalize (lg_sl ([.ref (ad p0), .int p1]) ++ List.replicate (2 - (lg_sl ([.ref (ad p0), .int p1])).length) Slot.unset).toArray = ls at hl ⊢
  have hl : lv_has ls 2 [(0, .ref (ad p0)), (1, .int p1)] := hl
  have hin11 : ∀ w ∈ wsX110, w ∈ wsX11_quota := by decide +kernel
  have w_0 := hts (.fieldLink RX11 17 "MailSpoolModel" "net" "[I") (by decide +kernel)
  have hGE := hGs.2.2.2.2.2.2.1
  have hGM := hGs.2.2.2.2.2.2.2.1
  unfold f_X11_quota at hf
  refine lv_aload_n hx hb dX11_quota_0 rfl (lv_at hl 0 rfl) ?_
  refine lv_aload_n hx hb dX11_quota_1 rfl (lv_at hl 0 rfl) ?_
  refine lv_iload_n hx hb dX11_quota_2 rfl (lv_at hl 1 rfl) ?_
  replace hf := obE hf
  obtain ⟨z1, hz1, hf⟩ := hf
  obtain ⟨r3, S2⟩ := z1
  replace hf := ltE (ltE hf r3 rfl) S2 rfl
  refine x_callV (As := [.int p1]) (rest := [.ref (ad p0)]) (o := (some (.int r3))) (S1 := S2) hC hl.1 hW hS hGs hA tp0 rfl (show vwCl[10]? = some (RX11, TX11, 30) ∧ 10 < 11 from ⟨rfl, by decide⟩) (c_X11_isUser l g ad n K s.heap.size F S0 p0 p1 tp0 r3 S2 hz1) (cwV 1 hts gX11_quota_X11_isUser rfl rfl rfl (by decide +kernel) ⟨Nat.le_of_ble_eq_true rfl, Nat.le_of_ble_eq_true rfl⟩) rfl rfl (Nat.le_of_ble_eq_true rfl) dX11_quota_3 ⟨Nat.le_of_ble_eq_true rfl, Nat.le_of_ble_eq_true rfl⟩ (fun H locs hPz1 hW hS => ?_)
  refine W.eq (g2 := F0 m 6 ls [.int r3, .ref (ad p0)]) rfl ?_
  replace hf := obE hf
  obtain ⟨z5, hz5, hf⟩ := hf
  obtain ⟨r7, S6⟩ := z5
  replace hf := ltE (ltE hf r7 rfl) S6 rfl
  refine x_callV (As := [.int r3]) (rest := []) (o := (some (.int r7))) (S1 := S6) hC hl.1 hW hS hGs hA tp0 rfl (show vwCl[10]? = some (RX11, TX11, 30) ∧ 10 < 11 from ⟨rfl, by decide⟩) (c_X11_passes l g ad n K H.size F S2 p0 r3 tp0 r7 S6 hz5) (cwV 1 hts gX11_quota_X11_passes rfl rfl rfl (by decide +kernel) ⟨Nat.le_of_ble_eq_true rfl, Nat.le_of_ble_eq_true rfl⟩) rfl rfl (Nat.le_of_ble_eq_true rfl) dX11_quota_6 ⟨Nat.le_of_ble_eq_true rfl, Nat.le_of_ble_eq_true rfl⟩ (fun H locs hPz5 hW hS => ?_)
  refine W.eq (g2 := F0 m 9 ls [.int r7]) rfl ?_
  refine lv_if_eq (tgt := 29) hx hb dX11_quota_9 (by decide) (fun c9 => ?_) (fun c9 => ?_)
  · replace hf := ifT c9 hf
    refine lv_iconst (v := 0) hx hb dX11_quota_29 (by decide) ?_
    obtain ⟨e1, e2⟩ := so2 hf
    subst e1
    subst e2
    exact W.iret (v := 0) hx hb hr (fun t ht hWm => ⟨⟨rfl, by unfold QB; rw [ht]; exact ⟨hW, trivial⟩⟩, hS.F ht⟩) hS.2.2 dX11_quota_30 hlk
  · replace hf := ifF c9 hf
    refine lv_aload_n hx hb dX11_quota_12 rfl (lv_at hl 0 rfl) ?_
    replace hf := obE hf
    obtain ⟨j10, qj10, hf⟩ := hf
    have tj10 := x_rt hW qj10 12 ⟨by decide, rfl⟩
    refine x_getr 1001 (ci := 10) (C := RX11) (T := TX11) (N := 30) 1 hC hin11 hW tp0 rfl rfl ⟨by decide, by decide, rfl, rfl⟩ rfl w_0 dX11_quota_13 qj10 ?_
    refine lv_bipush (v := 83) hx hb dX11_quota_16 (by decide) ?_
    refine lv_bipush (v := 8) hx hb dX11_quota_18 (by decide) ?_
    refine lv_iload_n hx hb dX11_quota_20 rfl (lv_at hl 1 rfl) ?_
    refine lv_imul hx hb dX11_quota_21 ?_
    refine lv_iadd hx hb dX11_quota_22 ?_
    refine lv_iconst (v := 1) hx hb dX11_quota_23 (by decide) ?_
    refine lv_iadd hx hb dX11_quota_24 ?_
    replace hf := ckiE hf
    obtain ⟨h11, hf⟩ := hf
    refine x_iald hC hW tj10 rfl rfl h11 dX11_quota_25 ?_
    refine lv_goto (tgt := 30) hx hb dX11_quota_26 (by decide) ?_
    obtain ⟨e1, e2⟩ := so2 hf
    subst e1
    subst e2
    exact W.iret (v := ai S6 j10 (Int32.toNatClampNeg ((83 + (8 * p1)) + 1))) hx hb hr (fun t ht hWm => ⟨⟨rfl, by unfold QB; rw [ht]; exact ⟨hW, trivial⟩⟩, hS.F ht⟩) hS.2.2 dX11_quota_30 hlk
set_option maxHeartbeats 4000000 in
set_option maxRecDepth 100000 in
theorem c_X11_reads (l : Launch) (g : GP) (ad : Nat → Nat) (n : Nat) (K : Nat → Nat) (sz F : Nat) (S0 : St) (p0 : Nat) (p1 : Int32) (p2 : Int32) (tp0 : p0 < n ∧ K p0 = 10) (r9 : Int32) (S9 : St) (hf : f_X11_reads F S0 p0 p1 p2 = some (r9, S9)) : Met l yX11_reads wsX11_reads { frames := 3, cells := 0, slots := 0, locals := 65 } (va_Pc [.ref (ad p0), .int p1, .int p2] (PB g ad n K S0 sz)) (QR (some (.int r9)) (QB g ad n K S9 (dA ad n sz) (True)) (dA ad n sz)) 0 0 (dA ad n sz) := by
  refine Met.ofW (cc := cX11_reads) (maxL := 4) (ret := (some .boolean)) (by decide) rfl ?_
  intro p e s m args below meth c s₁ B hml hv
  obtain ⟨rfl, hsz, hW, hK, hGs⟩ := x_start hv
  subst hsz
  have hx := B.exec
  have hb := B.bytes
  have hr := B.returns
  have hts := atoms_spec (ws := wsX11_reads) B.pre
  have hown : s.vm.findClass RX11 = some m.cls := findClass_of_methodNamed B.named
  have hlk := B.notSynchronized
  have hC : Cx g p s m _ c cX11_reads RX11 wsX11_reads 4 := ⟨hx, hb, hml, hown, hts, hK⟩
  have hA : ∀ q : Nat, s.heap.size ≤ q → dA ad n s.heap.size q := fun q h => Or.inr h
  have hS : va_S (dA ad n s.heap.size) s.heap s.heap [] := va_S.rf
  have hl := lv_entry ([.ref (ad p0), .int p1, .int p2]) (n := 4) (Nat.le_of_ble_eq_true rfl)
  rw [lg_entry_eq]
  generalize (lg_sl ([.ref (ad p0), .int p1, .int p2]) ++ List.replicate (4 - (lg_sl ([.ref (ad p0), .int p1, .int p2])).length) Slot.unset).toArray = ls at hl ⊢
  have hl : lv_has ls 4 [(0, .ref (ad p0)), (1, .int p1), (2, .int p2)] := hl
  have hin11 : ∀ w ∈ wsX110, w ∈ wsX11_reads := by decide +kernel
  have w_0 := hts (.fieldLink RX11 17 "MailSpoolModel" "net" "[I") (by decide +kernel)
  have hGE := hGs.2.2.2.2.2.2.1
  have hGM := hGs.2.2.2.2.2.2.2.1
  have L2 : ∀ (fu2 : Nat) (S0 : St) (v0 : Nat) (v1 : Int32) (v2 : Int32) (v3 : Int32) (tv0 : v0 < n ∧ K v0 = 10) (H : Heap) (locs : List Loc) (ls : Array Slot), f_X11_reads_L2 F fu2 S0 v0 v1 v2 v3 = some (r9, S9) → Wb g ad n K S0 (dA ad n s.heap.size) H → va_S (dA ad n s.heap.size) s.heap H locs → lv_has ls 4 [(0, .ref (ad v0)), (1, .int v1), (2, .int v2), (3, .int v3)] → W p l e (headSpec wsX11_reads { frames := 3, cells := 0, slots := 0, locals := 65 }).room s m (List.toArray [.ref (ad p0), .int p1, .int p2]) below meth c H locs 0 0 (MQ below (QR (some (.int r9)) (QB g ad n K S9 (dA ad n s.heap.size) (True)) (dA ad n s.heap.size)) (List.toArray [.ref (ad p0), .int p1, .int p2]) s 0 0 (dA ad n s.heap.size)) (F0 m 2 ls []) := by
    intro fu2
    induction fu2 with
    | zero =>
      intro S0 v0 v1 v2 v3 tv0 H locs ls hf
      cases hf
    | succ fu2 ih2 =>
      have L33 : ∀ (S0 : St) (v0 : Nat) (v1 : Int32) (v2 : Int32) (v3 : Int32) (tv0 : v0 < n ∧ K v0 = 10) (H : Heap) (locs : List Loc) (ls : Array Slot), f_X11_reads_L33 F (fun a0 a1 a2 a3 a4 => f_X11_reads_L2 F fu2 a0 a1 a2 a3 a4) S0 v0 v1 v2 v3 = some (r9, S9) → Wb g ad n K S0 (dA ad n s.heap.size) H → va_S (dA ad n s.heap.size) s.heap H locs → lv_has ls 4 [(0, .ref (ad v0)), (1, .int v1), (2, .int v2), (3, .int v3)] → W p l e (headSpec wsX11_reads { frames := 3, cells := 0, slots := 0, locals := 65 }).room s m (List.toArray [.ref (ad p0), .int p1, .int p2]) below meth c H locs 0 0 (MQ below (QR (some (.int r9)) (QB g ad n K S9 (dA ad n s.heap.size) (True)) (dA ad n s.heap.size)) (List.toArray [.ref (ad p0), .int p1, .int p2]) s 0 0 (dA ad n s.heap.size)) (F0 m 33 ls []) := by
        intro S0 v0 v1 v2 v3 tv0 H locs ls hf hW hS hl
        unfold f_X11_reads_L33 at hf
        obtain ⟨x2, ex2⟩ : ∃ z : Int32, z = v3 + 1 := ⟨_, rfl⟩
        replace hf := ltE hf x2 ex2
        refine lv_iinc (v := x2) (lv' := [(3, .int x2), (0, .ref (ad v0)), (1, .int v1), (2, .int v2)]) hx hb dX11_reads_33 hl (k := 3) rfl (by rw [ex2]; rfl) (by decide) rfl (fun ls hl => ?_)
        refine lv_goto (tgt := 2) hx hb dX11_reads_36 (by decide) ?_
        exact ih2 S0 v0 v1 v2 x2 tv0 _ _ _ hf hW hS (lv_sub hl [1, 2, 3, 0] rfl)
      intro S0 v0 v1 v2 v3 tv0 H locs ls hf hW hS hl
      unfold f_X11_reads_L2 at hf
      refine lv_iload_n hx hb dX11_reads_2 rfl (lv_at hl 3 rfl) ?_
      refine lv_aload_n hx hb dX11_reads_3 rfl (lv_at hl 0 rfl) ?_
      replace hf := obE hf
      obtain ⟨j16, qj16, hf⟩ := hf
      have tj16 := x_rt hW qj16 12 ⟨by decide, rfl⟩
      refine x_getr 1001 (ci := 10) (C := RX11) (T := TX11) (N := 30) 1 hC hin11 hW tv0 rfl rfl ⟨by decide, by decide, rfl, rfl⟩ rfl w_0 dX11_reads_4 qj16 ?_
      refine lv_bipush (v := 7) hx hb dX11_reads_7 (by decide) ?_
      replace hf := ckiE hf
      obtain ⟨h17, hf⟩ := hf
      refine x_iald hC hW tj16 rfl rfl h17 dX11_reads_9 ?_
      refine lv_icmp_ge (tgt := 39) hx hb dX11_reads_10 (by decide) (fun c18 => ?_) (fun c18 => ?_)
      · replace hf := ifT c18 hf
        refine lv_iconst (v := 0) hx hb dX11_reads_39 (by decide) ?_
        obtain ⟨e1, e2⟩ := so2 hf
        subst e1
        subst e2
        exact W.zret (v := 0) hx hb hr rfl (fun t ht hWm => ⟨⟨rfl, by unfold QB; rw [ht]; exact ⟨hW, trivial⟩⟩, hS.F ht⟩) hS.2.2 dX11_reads_40 hlk
      · replace hf := ifF c18 hf
        refine lv_aload_n hx hb dX11_reads_13 rfl (lv_at hl 0 rfl) ?_
        refine lv_iload_n hx hb dX11_reads_14 rfl (lv_at hl 3 rfl) ?_
        refine lv_iload_n hx hb dX11_reads_15 rfl (lv_at hl 1 rfl) ?_
        replace hf := obE hf
        obtain ⟨z19, hz19, hf⟩ := hf
        obtain ⟨r21, S20⟩ := z19
        replace hf := ltE (ltE hf r21 rfl) S20 rfl
        refine x_callV (As := [.int v3, .int v1]) (rest := []) (o := (some (.int r21))) (S1 := S20) hC hl.1 hW hS hGs hA tv0 rfl (show vwCl[10]? = some (RX11, TX11, 30) ∧ 10 < 11 from ⟨rfl, by decide⟩) (c_X11_isLive l g ad n K H.size F S0 v0 v3 v1 tv0 r21 S20 hz19) (cwV 2 hts gX11_reads_X11_isLive rfl rfl rfl (by decide +kernel) ⟨Nat.le_of_ble_eq_true rfl, Nat.le_of_ble_eq_true rfl⟩) rfl rfl (Nat.le_of_ble_eq_true rfl) dX11_reads_16 ⟨Nat.le_of_ble_eq_true rfl, Nat.le_of_ble_eq_true rfl⟩ (fun H locs hPz19 hW hS => ?_)
        refine W.eq (g2 := F0 m 19 ls [.int r21]) rfl ?_
        refine lv_if_eq (tgt := 33) hx hb dX11_reads_19 (by decide) (fun c23 => ?_) (fun c23 => ?_)
        · replace hf := ifT c23 hf
          exact L33 S20 v0 v1 v2 v3 tv0 _ _ _ hf hW hS (lv_sub hl [0, 1, 2, 3] rfl)
        · replace hf := ifF c23 hf
          refine lv_aload_n hx hb dX11_reads_22 rfl (lv_at hl 0 rfl) ?_
          refine lv_iload_n hx hb dX11_reads_23 rfl (lv_at hl 3 rfl) ?_
          refine lv_iload_n hx hb dX11_reads_24 rfl (lv_at hl 2 rfl) ?_
          replace hf := obE hf
          obtain ⟨z24, hz24, hf⟩ := hf
          obtain ⟨r26, S25⟩ := z24
          replace hf := ltE (ltE hf r26 rfl) S25 rfl
          refine x_callV (As := [.int v3, .int v2]) (rest := []) (o := (some (.int r26))) (S1 := S25) hC hl.1 hW hS hGs hA tv0 rfl (show vwCl[10]? = some (RX11, TX11, 30) ∧ 10 < 11 from ⟨rfl, by decide⟩) (c_X11_has l g ad n K H.size F S20 v0 v3 v2 tv0 r26 S25 hz24) (cwV 2 hts gX11_reads_X11_has rfl rfl rfl (by decide +kernel) ⟨Nat.le_of_ble_eq_true rfl, Nat.le_of_ble_eq_true rfl⟩) rfl rfl (Nat.le_of_ble_eq_true rfl) dX11_reads_25 ⟨Nat.le_of_ble_eq_true rfl, Nat.le_of_ble_eq_true rfl⟩ (fun H locs hPz24 hW hS => ?_)
          refine W.eq (g2 := F0 m 28 ls [.int r26]) rfl ?_
          refine lv_if_eq (tgt := 33) hx hb dX11_reads_28 (by decide) (fun c28 => ?_) (fun c28 => ?_)
          · replace hf := ifT c28 hf
            exact L33 S25 v0 v1 v2 v3 tv0 _ _ _ hf hW hS (lv_sub hl [0, 1, 2, 3] rfl)
          · replace hf := ifF c28 hf
            refine lv_iconst (v := 1) hx hb dX11_reads_31 (by decide) ?_
            obtain ⟨e1, e2⟩ := so2 hf
            subst e1
            subst e2
            exact W.zret (v := 1) hx hb hr rfl (fun t ht hWm => ⟨⟨rfl, by unfold QB; rw [ht]; exact ⟨hW, trivial⟩⟩, hS.F ht⟩) hS.2.2 dX11_reads_32 hlk
  unfold f_X11_reads at hf
  refine lv_iconst (v := 0) hx hb dX11_reads_0 (by decide) ?_
  refine lv_istore_n (lv' := [(3, .int 0), (0, .ref (ad p0)), (1, .int p1), (2, .int p2)]) hx hb dX11_reads_1 rfl hl (by decide) rfl (fun ls hl => ?_)
  exact L2 F S0 p0 p1 p2 0 tp0 _ _ _ hf hW hS (lv_sub hl [1, 2, 3, 0] rfl)
set_option maxHeartbeats 4000000 in
set_option maxRecDepth 100000 in
theorem c_X11_fairShare (l : Launch) (g : GP) (ad : Nat → Nat) (n : Nat) (K : Nat → Nat) (sz F : Nat) (S0 : St) (p0 : Nat) (p1 : Int32) (tp0 : p0 < n ∧ K p0 = 10) (r9 : UInt64) (S9 : St) (hf : f_X11_fairShare F S0 p0 p1 = some (r9, S9)) : Met l yX11_fairShare wsX11_fairShare { frames := 4, cells := 0, slots := 0, locals := 88 } (va_Pc [.ref (ad p0), .int p1] (PB g ad n K S0 sz)) (QR (some (.double r9)) (QB g ad n K S9 (dA ad n sz) (True)) (dA ad n sz)) 0 0 (dA ad n sz) := by
  refine Met.ofW (cc := cX11_fairShare) (maxL := 7) (ret := (some .double)) (by decide) rfl ?_
  intro p e s m args below meth c s₁ B hml hv
  obtain ⟨rfl, hsz, hW, hK, hGs⟩ := x_start hv
  subst hsz
  have hx := B.exec
  have hb := B.bytes
  have hr := B.returns
  have hts := atoms_spec (ws := wsX11_fairShare) B.pre
  have hown : s.vm.findClass RX11 = some m.cls := findClass_of_methodNamed B.named
  have hlk := B.notSynchronized
  have hC : Cx g p s m _ c cX11_fairShare RX11 wsX11_fairShare 7 := ⟨hx, hb, hml, hown, hts, hK⟩
  have hA : ∀ q : Nat, s.heap.size ≤ q → dA ad n s.heap.size q := fun q h => Or.inr h
  have hS : va_S (dA ad n s.heap.size) s.heap s.heap [] := va_S.rf
  have hl := lv_entry ([.ref (ad p0), .int p1]) (n := 7) (Nat.le_of_ble_eq_true rfl)
  rw [lg_entry_eq]
  generalize (lg_sl ([.ref (ad p0), .int p1]) ++ List.replicate (7 - (lg_sl ([.ref (ad p0), .int p1])).length) Slot.unset).toArray = ls at hl ⊢
  have hl : lv_has ls 7 [(0, .ref (ad p0)), (1, .int p1)] := hl
  have hin11 : ∀ w ∈ wsX110, w ∈ wsX11_fairShare := by decide +kernel
  have w_0 := hts (.fieldLink RX11 17 "MailSpoolModel" "net" "[I") (by decide +kernel)
  have hGE := hGs.2.2.2.2.2.2.1
  have hGM := hGs.2.2.2.2.2.2.2.1
  have L19 : ∀ (fu19 : Nat) (S0 : St) (v0 : Nat) (v1 : Int32) (v2 : UInt64) (v4 : Int32) (tv0 : v0 < n ∧ K v0 = 10) (H : Heap) (locs : List Loc) (ls : Array Slot), f_X11_fairShare_L19 F fu19 S0 v0 v1 v2 v4 = some (r9, S9) → Wb g ad n K S0 (dA ad n s.heap.size) H → va_S (dA ad n s.heap.size) s.heap H locs → lv_has ls 7 [(0, .ref (ad v0)), (1, .int v1), (2, .double (v2)), (4, .int v4)] → W p l e (headSpec wsX11_fairShare { frames := 4, cells := 0, slots := 0, locals := 88 }).room s m (List.toArray [.ref (ad p0), .int p1]) below meth c H locs 0 0 (MQ below (QR (some (.double r9)) (QB g ad n K S9 (dA ad n s.heap.size) (True)) (dA ad n s.heap.size)) (List.toArray [.ref (ad p0), .int p1]) s 0 0 (dA ad n s.heap.size)) (F0 m 19 ls []) := by
    intro fu19
    induction fu19 with
    | zero =>
      intro S0 v0 v1 v2 v4 tv0 H locs ls hf
      cases hf
    | succ fu19 ih19 =>
      have L103 : ∀ (S0 : St) (v0 : Nat) (v1 : Int32) (v2 : UInt64) (v4 : Int32) (tv0 : v0 < n ∧ K v0 = 10) (H : Heap) (locs : List Loc) (ls : Array Slot), f_X11_fairShare_L103 F (fun a0 a1 a2 a3 a4 => f_X11_fairShare_L19 F fu19 a0 a1 a2 a3 a4) S0 v0 v1 v2 v4 = some (r9, S9) → Wb g ad n K S0 (dA ad n s.heap.size) H → va_S (dA ad n s.heap.size) s.heap H locs → lv_has ls 7 [(0, .ref (ad v0)), (1, .int v1), (2, .double (v2)), (4, .int v4)] → W p l e (headSpec wsX11_fairShare { frames := 4, cells := 0, slots := 0, locals := 88 }).room s m (List.toArray [.ref (ad p0), .int p1]) below meth c H locs 0 0 (MQ below (QR (some (.double r9)) (QB g ad n K S9 (dA ad n s.heap.size) (True)) (dA ad n s.heap.size)) (List.toArray [.ref (ad p0), .int p1]) s 0 0 (dA ad n s.heap.size)) (F0 m 103 ls []) := by
        intro S0 v0 v1 v2 v4 tv0 H locs ls hf hW hS hl
        unfold f_X11_fairShare_L103 at hf
        obtain ⟨x2, ex2⟩ : ∃ z : Int32, z = v4 + 1 := ⟨_, rfl⟩
        replace hf := ltE hf x2 ex2
        refine lv_iinc (v := x2) (lv' := [(4, .int x2), (0, .ref (ad v0)), (1, .int v1), (2, .double (v2))]) hx hb dX11_fairShare_103 hl (k := 3) rfl (by rw [ex2]; rfl) (by decide) rfl (fun ls hl => ?_)
        refine lv_goto (tgt := 19) hx hb dX11_fairShare_106 (by decide) ?_
        exact ih19 S0 v0 v1 v2 x2 tv0 _ _ _ hf hW hS (lv_sub hl [1, 2, 3, 0] rfl)
      have L50 : ∀ (fu50 : Nat) (S0 : St) (v0 : Nat) (v1 : Int32) (v2 : UInt64) (v4 : Int32) (v5 : Int32) (v6 : Int32) (tv0 : v0 < n ∧ K v0 = 10) (H : Heap) (locs : List Loc) (ls : Array Slot), f_X11_fairShare_L50 F (fun a0 a1 a2 a3 a4 => f_X11_fairShare_L19 F fu19 a0 a1 a2 a3 a4) fu50 S0 v0 v1 v2 v4 v5 v6 = some (r9, S9) → Wb g ad n K S0 (dA ad n s.heap.size) H → va_S (dA ad n s.heap.size) s.heap H locs → lv_has ls 7 [(0, .ref (ad v0)), (1, .int v1), (2, .double (v2)), (4, .int v4), (5, .int v5), (6, .int v6)] → W p l e (headSpec wsX11_fairShare { frames := 4, cells := 0, slots := 0, locals := 88 }).room s m (List.toArray [.ref (ad p0), .int p1]) below meth c H locs 0 0 (MQ below (QR (some (.double r9)) (QB g ad n K S9 (dA ad n s.heap.size) (True)) (dA ad n s.heap.size)) (List.toArray [.ref (ad p0), .int p1]) s 0 0 (dA ad n s.heap.size)) (F0 m 50 ls []) := by
        intro fu50
        induction fu50 with
        | zero =>
          intro S0 v0 v1 v2 v4 v5 v6 tv0 H locs ls hf
          cases hf
        | succ fu50 ih50 =>
          have L79 : ∀ (S0 : St) (v0 : Nat) (v1 : Int32) (v2 : UInt64) (v4 : Int32) (v6 : Int32) (s0 : Int32) (s1 : Int32) (tv0 : v0 < n ∧ K v0 = 10) (H : Heap) (locs : List Loc) (ls : Array Slot), f_X11_fairShare_L79 F (fun a0 a1 a2 a3 a4 => f_X11_fairShare_L19 F fu19 a0 a1 a2 a3 a4) (fun a0 a1 a2 a3 a4 a5 a6 => f_X11_fairShare_L50 F (fun a0 a1 a2 a3 a4 => f_X11_fairShare_L19 F fu19 a0 a1 a2 a3 a4) fu50 a0 a1 a2 a3 a4 a5 a6) S0 v0 v1 v2 v4 v6 s0 s1 = some (r9, S9) → Wb g ad n K S0 (dA ad n s.heap.size) H → va_S (dA ad n s.heap.size) s.heap H locs → lv_has ls 7 [(0, .ref (ad v0)), (1, .int v1), (2, .double (v2)), (4, .int v4), (6, .int v6)] → W p l e (headSpec wsX11_fairShare { frames := 4, cells := 0, slots := 0, locals := 88 }).room s m (List.toArray [.ref (ad p0), .int p1]) below meth c H locs 0 0 (MQ below (QR (some (.double r9)) (QB g ad n K S9 (dA ad n s.heap.size) (True)) (dA ad n s.heap.size)) (List.toArray [.ref (ad p0), .int p1]) s 0 0 (dA ad n s.heap.size)) (F0 m 79 ls [.int s0, .int s1]) := by
            intro S0 v0 v1 v2 v4 v6 s0 s1 tv0 H locs ls hf hW hS hl
            unfold f_X11_fairShare_L79 at hf
            refine lv_iadd hx hb dX11_fairShare_79 ?_
            refine lv_topi (fun x5 ex5 => ?_)
            replace hf := ltE hf x5 ex5
            refine lv_istore (lv' := [(5, .int x5), (0, .ref (ad v0)), (1, .int v1), (2, .double (v2)), (4, .int v4), (6, .int v6)]) hx hb dX11_fairShare_80 hl (by decide) rfl (fun ls hl => ?_)
            obtain ⟨x6, ex6⟩ : ∃ z : Int32, z = v6 + 1 := ⟨_, rfl⟩
            replace hf := ltE hf x6 ex6
            refine lv_iinc (v := x6) (lv' := [(6, .int x6), (5, .int x5), (0, .ref (ad v0)), (1, .int v1), (2, .double (v2)), (4, .int v4)]) hx hb dX11_fairShare_82 hl (k := 5) rfl (by rw [ex6]; rfl) (by decide) rfl (fun ls hl => ?_)
            refine lv_goto (tgt := 50) hx hb dX11_fairShare_85 (by decide) ?_
            exact ih50 S0 v0 v1 v2 v4 x5 x6 tv0 _ _ _ hf hW hS (lv_sub hl [2, 3, 4, 5, 1, 0] rfl)
          intro S0 v0 v1 v2 v4 v5 v6 tv0 H locs ls hf hW hS hl
          unfold f_X11_fairShare_L50 at hf
          refine lv_iload hx hb dX11_fairShare_50 (lv_at hl 5 rfl) ?_
          refine lv_aload_n hx hb dX11_fairShare_52 rfl (lv_at hl 0 rfl) ?_
          replace hf := obE hf
          obtain ⟨j22, qj22, hf⟩ := hf
          have tj22 := x_rt hW qj22 12 ⟨by decide, rfl⟩
          refine x_getr 1001 (ci := 10) (C := RX11) (T := TX11) (N := 30) 1 hC hin11 hW tv0 rfl rfl ⟨by decide, by decide, rfl, rfl⟩ rfl w_0 dX11_fairShare_53 qj22 ?_
          refine lv_iconst (v := 4) hx hb dX11_fairShare_56 (by decide) ?_
          replace hf := ckiE hf
          obtain ⟨h23, hf⟩ := hf
          refine x_iald hC hW tj22 rfl rfl h23 dX11_fairShare_57 ?_
          refine lv_icmp_ge (tgt := 88) hx hb dX11_fairShare_58 (by decide) (fun c24 => ?_) (fun c24 => ?_)
          · replace hf := ifT c24 hf
            refine lv_dload_n hx hb dX11_fairShare_88 rfl (lv_at hl 2 rfl) ?_
            refine lv_aload_n hx hb dX11_fairShare_89 rfl (lv_at hl 0 rfl) ?_
            refine lv_iload hx hb dX11_fairShare_90 (lv_at hl 3 rfl) ?_
            refine lv_iconst (v := 0) hx hb dX11_fairShare_92 (by decide) ?_
            replace hf := obE hf
            obtain ⟨z25, hz25, hf⟩ := hf
            obtain ⟨r27, S26⟩ := z25
            replace hf := ltE (ltE hf r27 rfl) S26 rfl
            refine x_callV (As := [.int v4, .int 0]) (rest := [.double (v2)]) (o := (some (.int r27))) (S1 := S26) hC hl.1 hW hS hGs hA tv0 rfl (show vwCl[10]? = some (RX11, TX11, 30) ∧ 10 < 11 from ⟨rfl, by decide⟩) (c_X11_partValue l g ad n K H.size F S0 v0 v4 ((0 : Int32)) tv0 r27 S26 hz25) (cwV 2 hts gX11_fairShare_X11_partValue rfl rfl rfl (by decide +kernel) ⟨Nat.le_of_ble_eq_true rfl, Nat.le_of_ble_eq_true rfl⟩) rfl rfl (Nat.le_of_ble_eq_true rfl) dX11_fairShare_93 ⟨Nat.le_of_ble_eq_true rfl, Nat.le_of_ble_eq_true rfl⟩ (fun H locs hPz25 hW hS => ?_)
            refine W.eq (g2 := F0 m 96 ls [.int r27, .double (v2)]) rfl ?_
            refine lv_i2d hx hb dX11_fairShare_96 ?_
            refine lv_iload hx hb dX11_fairShare_97 (lv_at hl 4 rfl) ?_
            refine lv_i2d hx hb dX11_fairShare_99 ?_
            replace hf := cknE hf
            obtain ⟨h29, hf⟩ := hf
            refine lv_ddiv hx hb dX11_fairShare_100 h29 ?_
            replace hf := cknE hf
            obtain ⟨h30, hf⟩ := hf
            refine lv_dadd hx hb dX11_fairShare_101 h30 ?_
            refine lv_topd (fun x31 ex31 => ?_)
            replace hf := ltE hf x31 ex31
            refine lv_dstore_n (lv' := [(2, .double (x31)), (0, .ref (ad v0)), (1, .int v1), (4, .int v4), (5, .int v5), (6, .int v6)]) hx hb dX11_fairShare_102 rfl hl (by decide) rfl (fun ls hl => ?_)
            exact L103 S26 v0 v1 x31 v4 tv0 _ _ _ hf hW hS (lv_sub hl [1, 2, 0, 3] rfl)
          · replace hf := ifF c24 hf
            refine lv_iload hx hb dX11_fairShare_61 (lv_at hl 4 rfl) ?_
            refine lv_aload_n hx hb dX11_fairShare_63 rfl (lv_at hl 0 rfl) ?_
            refine lv_iload hx hb dX11_fairShare_64 (lv_at hl 5 rfl) ?_
            refine lv_iload hx hb dX11_fairShare_66 (lv_at hl 3 rfl) ?_
            replace hf := obE hf
            obtain ⟨z32, hz32, hf⟩ := hf
            obtain ⟨r34, S33⟩ := z32
            replace hf := ltE (ltE hf r34 rfl) S33 rfl
            refine x_callV (As := [.int v6, .int v4]) (rest := [.int v5]) (o := (some (.int r34))) (S1 := S33) hC hl.1 hW hS hGs hA tv0 rfl (show vwCl[10]? = some (RX11, TX11, 30) ∧ 10 < 11 from ⟨rfl, by decide⟩) (c_X11_reads l g ad n K H.size F S0 v0 v6 v4 tv0 r34 S33 hz32) (cwV 2 hts gX11_fairShare_X11_reads rfl rfl rfl (by decide +kernel) ⟨Nat.le_of_ble_eq_true rfl, Nat.le_of_ble_eq_true rfl⟩) rfl rfl (Nat.le_of_ble_eq_true rfl) dX11_fairShare_68 ⟨Nat.le_of_ble_eq_true rfl, Nat.le_of_ble_eq_true rfl⟩ (fun H locs hPz32 hW hS => ?_)
            refine W.eq (g2 := F0 m 71 ls [.int r34, .int v5]) rfl ?_
            refine lv_if_eq (tgt := 78) hx hb dX11_fairShare_71 (by decide) (fun c36 => ?_) (fun c36 => ?_)
            · replace hf := ifT c36 hf
              refine lv_iconst (v := 0) hx hb dX11_fairShare_78 (by decide) ?_
              exact L79 S33 v0 v1 v2 v4 v6 0 v5 tv0 _ _ _ hf hW hS (lv_sub hl [0, 1, 2, 3, 5] rfl)
            · replace hf := ifF c36 hf
              refine lv_iconst (v := 1) hx hb dX11_fairShare_74 (by decide) ?_
              refine lv_goto (tgt := 79) hx hb dX11_fairShare_75 (by decide) ?_
              exact L79 S33 v0 v1 v2 v4 v6 1 v5 tv0 _ _ _ hf hW hS (lv_sub hl [0, 1, 2, 3, 5] rfl)
      intro S0 v0 v1 v2 v4 tv0 H locs ls hf hW hS hl
      unfold f_X11_fairShare_L19 at hf
      refine lv_iload hx hb dX11_fairShare_19 (lv_at hl 3 rfl) ?_
      refine lv_aload_n hx hb dX11_fairShare_21 rfl (lv_at hl 0 rfl) ?_
      replace hf := obE hf
      obtain ⟨j45, qj45, hf⟩ := hf
      have tj45 := x_rt hW qj45 12 ⟨by decide, rfl⟩
      refine x_getr 1001 (ci := 10) (C := RX11) (T := TX11) (N := 30) 1 hC hin11 hW tv0 rfl rfl ⟨by decide, by decide, rfl, rfl⟩ rfl w_0 dX11_fairShare_22 qj45 ?_
      refine lv_bipush (v := 8) hx hb dX11_fairShare_25 (by decide) ?_
      replace hf := ckiE hf
      obtain ⟨h46, hf⟩ := hf
      refine x_iald hC hW tj45 rfl rfl h46 dX11_fairShare_27 ?_
      refine lv_icmp_ge (tgt := 109) hx hb dX11_fairShare_28 (by decide) (fun c47 => ?_) (fun c47 => ?_)
      · replace hf := ifT c47 hf
        refine lv_dload_n hx hb dX11_fairShare_109 rfl (lv_at hl 2 rfl) ?_
        obtain ⟨e1, e2⟩ := so2 hf
        subst e1
        subst e2
        exact W.dret (v := v2) hx hb hr (fun t ht hWm => ⟨⟨rfl, by unfold QB; rw [ht]; exact ⟨hW, trivial⟩⟩, hS.F ht⟩) hS.2.2 dX11_fairShare_110 hlk
      · replace hf := ifF c47 hf
        refine lv_aload_n hx hb dX11_fairShare_31 rfl (lv_at hl 0 rfl) ?_
        refine lv_iload_n hx hb dX11_fairShare_32 rfl (lv_at hl 1 rfl) ?_
        refine lv_iload hx hb dX11_fairShare_33 (lv_at hl 3 rfl) ?_
        replace hf := obE hf
        obtain ⟨z48, hz48, hf⟩ := hf
        obtain ⟨r50, S49⟩ := z48
        replace hf := ltE (ltE hf r50 rfl) S49 rfl
        refine x_callV (As := [.int v1, .int v4]) (rest := []) (o := (some (.int r50))) (S1 := S49) hC hl.1 hW hS hGs hA tv0 rfl (show vwCl[10]? = some (RX11, TX11, 30) ∧ 10 < 11 from ⟨rfl, by decide⟩) (c_X11_reads l g ad n K H.size F S0 v0 v1 v4 tv0 r50 S49 hz48) (cwV 2 hts gX11_fairShare_X11_reads rfl rfl rfl (by decide +kernel) ⟨Nat.le_of_ble_eq_true rfl, Nat.le_of_ble_eq_true rfl⟩) rfl rfl (Nat.le_of_ble_eq_true rfl) dX11_fairShare_35 ⟨Nat.le_of_ble_eq_true rfl, Nat.le_of_ble_eq_true rfl⟩ (fun H locs hPz48 hW hS => ?_)
        refine W.eq (g2 := F0 m 38 ls [.int r50]) rfl ?_
        refine lv_if_ne (tgt := 44) hx hb dX11_fairShare_38 (by decide) (fun c52 => ?_) (fun c52 => ?_)
        · replace hf := ifT c52 hf
          refine lv_iconst (v := 0) hx hb dX11_fairShare_44 (by decide) ?_
          refine lv_istore (lv' := [(5, .int 0), (0, .ref (ad v0)), (1, .int v1), (2, .double (v2)), (4, .int v4)]) hx hb dX11_fairShare_45 hl (by decide) rfl (fun ls hl => ?_)
          refine lv_iconst (v := 0) hx hb dX11_fairShare_47 (by decide) ?_
          refine lv_istore (lv' := [(6, .int 0), (5, .int 0), (0, .ref (ad v0)), (1, .int v1), (2, .double (v2)), (4, .int v4)]) hx hb dX11_fairShare_48 hl (by decide) rfl (fun ls hl => ?_)
          exact L50 F S49 v0 v1 v2 v4 0 0 tv0 _ _ _ hf hW hS (lv_sub hl [2, 3, 4, 5, 1, 0] rfl)
        · replace hf := ifF (fun q => q c52) hf
          refine lv_goto (tgt := 103) hx hb dX11_fairShare_41 (by decide) ?_
          exact L103 S49 v0 v1 v2 v4 tv0 _ _ _ hf hW hS (lv_sub hl [0, 1, 2, 3] rfl)
  unfold f_X11_fairShare at hf
  refine lv_aload_n hx hb dX11_fairShare_0 rfl (lv_at hl 0 rfl) ?_
  refine lv_aload_n hx hb dX11_fairShare_1 rfl (lv_at hl 0 rfl) ?_
  refine lv_iload_n hx hb dX11_fairShare_2 rfl (lv_at hl 1 rfl) ?_
  replace hf := obE hf
  obtain ⟨z53, hz53, hf⟩ := hf
  obtain ⟨r55, S54⟩ := z53
  replace hf := ltE (ltE hf r55 rfl) S54 rfl
  refine x_callV (As := [.int p1]) (rest := [.ref (ad p0)]) (o := (some (.int r55))) (S1 := S54) hC hl.1 hW hS hGs hA tp0 rfl (show vwCl[10]? = some (RX11, TX11, 30) ∧ 10 < 11 from ⟨rfl, by decide⟩) (c_X11_isUser l g ad n K s.heap.size F S0 p0 p1 tp0 r55 S54 hz53) (cwV 1 hts gX11_fairShare_X11_isUser rfl rfl rfl (by decide +kernel) ⟨Nat.le_of_ble_eq_true rfl, Nat.le_of_ble_eq_true rfl⟩) rfl rfl (Nat.le_of_ble_eq_true rfl) dX11_fairShare_3 ⟨Nat.le_of_ble_eq_true rfl, Nat.le_of_ble_eq_true rfl⟩ (fun H locs hPz53 hW hS => ?_)
  refine W.eq (g2 := F0 m 6 ls [.int r55, .ref (ad p0)]) rfl ?_
  replace hf := obE hf
  obtain ⟨z57, hz57, hf⟩ := hf
  obtain ⟨r59, S58⟩ := z57
  replace hf := ltE (ltE hf r59 rfl) S58 rfl
  refine x_callV (As := [.int r55]) (rest := []) (o := (some (.int r59))) (S1 := S58) hC hl.1 hW hS hGs hA tp0 rfl (show vwCl[10]? = some (RX11, TX11, 30) ∧ 10 < 11 from ⟨rfl, by decide⟩) (c_X11_passes l g ad n K H.size F S54 p0 r55 tp0 r59 S58 hz57) (cwV 1 hts gX11_fairShare_X11_passes rfl rfl rfl (by decide +kernel) ⟨Nat.le_of_ble_eq_true rfl, Nat.le_of_ble_eq_true rfl⟩) rfl rfl (Nat.le_of_ble_eq_true rfl) dX11_fairShare_6 ⟨Nat.le_of_ble_eq_true rfl, Nat.le_of_ble_eq_true rfl⟩ (fun H locs hPz57 hW hS => ?_)
  refine W.eq (g2 := F0 m 9 ls [.int r59]) rfl ?_
  refine lv_if_ne (tgt := 14) hx hb dX11_fairShare_9 (by decide) (fun c61 => ?_) (fun c61 => ?_)
  · replace hf := ifT c61 hf
    refine lv_dconst0 hx hb dX11_fairShare_14 ?_
    refine lv_topd (fun x62 ex62 => ?_)
    replace hf := ltE hf x62 ex62
    refine lv_dstore_n (lv' := [(2, .double (x62)), (0, .ref (ad p0)), (1, .int p1)]) hx hb dX11_fairShare_15 rfl hl (by decide) rfl (fun ls hl => ?_)
    refine lv_iconst (v := 0) hx hb dX11_fairShare_16 (by decide) ?_
    refine lv_istore (lv' := [(4, .int 0), (2, .double (x62)), (0, .ref (ad p0)), (1, .int p1)]) hx hb dX11_fairShare_17 hl (by decide) rfl (fun ls hl => ?_)
    exact L19 F S58 p0 p1 x62 0 tp0 _ _ _ hf hW hS (lv_sub hl [2, 3, 1, 0] rfl)
  · replace hf := ifF (fun q => q c61) hf
    refine lv_dconst0 hx hb dX11_fairShare_12 ?_
    obtain ⟨e1, e2⟩ := so2 hf
    subst e1
    subst e2
    exact W.dret (v := FP.dconst0) hx hb hr (fun t ht hWm => ⟨⟨rfl, by unfold QB; rw [ht]; exact ⟨hW, trivial⟩⟩, hS.F ht⟩) hS.2.2 dX11_fairShare_13 hlk
