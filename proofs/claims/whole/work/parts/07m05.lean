set_option maxHeartbeats 4000000 in
set_option maxRecDepth 100000 in
theorem c_X10_needPart (l : Launch) (hfl : l.stackTraces = false) (g : GP) (ad : Nat → Nat) (n : Nat) (K : Nat → Nat) (sz F : Nat) (S0 : St) (p0 : Nat) (p1 : Int32) (tp0 : p0 < n ∧ K p0 = 9) (o9 : Nat ⊕ Unit) (S9 : St) (hf : f_X10_needPart F S0 p0 p1 = some (o9, S9)) : vx_Met l yX10_needPart wsX10_needPart { frames := 6, cells := 1, slots := 6, locals := 100 } (va_Pc [.ref (ad p0), .int p1] (PB g ad n K S0 sz)) (QT o9 (fun _ => none) (QB g ad n K S9 (dA ad n sz) True) (dA ad n sz)) (XT o9 (QB g ad n K S9 (dA ad n sz) True) (dA ad n sz)) 1 6 (dA ad n sz) := by
  refine vx_ofW (cc := cX10_needPart) (maxL := 2) (ret := none) (by decide) rfl ?_
  intro p e s m args below meth c s₁ B hml hno hv
  obtain ⟨rfl, hsz, hW, hK, hGs⟩ := x_start hv
  subst hsz
  have hx := B.exec
  have hb := B.bytes
  have hr := B.returns
  have hts := atoms_spec (ws := wsX10_needPart) B.pre
  have hown : s.vm.findClass RX10 = some m.cls := findClass_of_methodNamed B.named
  have hlk := B.notSynchronized
  have hC : Cx g p s m _ c cX10_needPart RX10 wsX10_needPart 2 := ⟨hx, hb, hml, hown, hts, hK⟩
  have hA : ∀ q : Nat, s.heap.size ≤ q → dA ad n s.heap.size q := fun q h => Or.inr h
  have hS : va_S (dA ad n s.heap.size) s.heap s.heap [] := va_S.rf
  have hl := lv_entry ([.ref (ad p0), .int p1]) (n := 2) (Nat.le_of_ble_eq_true rfl)
  rw [lg_entry_eq]
  generalize (lg_sl ([.ref (ad p0), .int p1]) ++ List.replicate (2 - (lg_sl ([.ref (ad p0), .int p1])).length) Slot.unset).toArray = ls at hl ⊢
  have hl : lv_has ls 2 [(0, .ref (ad p0)), (1, .int p1)] := hl
  have hin8 : ∀ w ∈ wsX80, w ∈ wsX10_needPart := by decide +kernel
  have hin10 : ∀ w ∈ wsX100, w ∈ wsX10_needPart := by decide +kernel
  have w_0 := hts (.fieldLink RX10 42 "MailSpool" "now" "LMailSpool$Spool;") (by decide +kernel)
  have w_1 := va_Nw.use (A := (List.toArray [.ref (ad p0), .int p1])) rfl (hGs.1 (.fieldLinkNest RX10 186 "MailSpool$Spool" "store" "LMailSpool$Store;" "MailSpool") (by decide +kernel))
  have w_2 := hts (.classLink RX10 134 "java/util/NoSuchElementException") (by decide +kernel)
  have w_3 := hts (.initialized "java/util/NoSuchElementException") (by decide +kernel)
  have hat4 : ∀ w ∈ (nsAt RX10 138).filter goodWord, w.before _ s = true := fun w h => hts w ((by decide +kernel : ∀ w ∈ (nsAt RX10 138).filter goodWord, w ∈ wsX10_needPart) w h)
  have hGE := hGs.2.2.2.2.2.2.1
  have hGM := hGs.2.2.2.2.2.2.2.1
  unfold f_X10_needPart at hf
  refine lv_aload_n hx hb dX10_needPart_0 rfl (lv_at hl 0 rfl) ?_
  replace hf := obE hf
  obtain ⟨j1, qj1, hf⟩ := hf
  have tj1 := x_rt hW qj1 7 ⟨by decide, rfl⟩
  refine x_getr 905 (ci := 9) (C := RX10) (T := TX10) (N := 11) 5 hC hin10 hW tp0 rfl rfl ⟨by decide, by decide, rfl, rfl⟩ rfl w_0 dX10_needPart_1 qj1 ?_
  replace hf := obE hf
  obtain ⟨j2, qj2, hf⟩ := hf
  have tj2 := x_rt hW qj2 8 ⟨by decide, rfl⟩
  refine x_getrN 710 (ci := 7) (C := RX8) (T := TX8) (N := 16) 10 hC hin8 hW tj1 rfl rfl ⟨by decide, by decide, rfl, rfl⟩ rfl w_1 dX10_needPart_4 qj2 ?_
  refine lv_iload_n hx hb dX10_needPart_7 rfl (lv_at hl 1 rfl) ?_
  replace hf := obE hf
  obtain ⟨z3, hz3, hf⟩ := hf
  obtain ⟨r5, S4⟩ := z3
  replace hf := ltE (ltE hf r5 rfl) S4 rfl
  refine x_callV (As := [.int p1]) (rest := []) (o := (some (.int r5))) (S1 := S4) hC hl.1 hW hS hGs hA tj2 rfl (show vwCl[8]? = some (RX9, TX9, 8) ∧ 8 < 11 from ⟨rfl, by decide⟩) (c_X9_isStored l g ad n K s.heap.size F S0 j2 p1 tj2 r5 S4 hz3) (cwV 1 hts gX10_needPart_X9_isStored rfl rfl rfl (by decide +kernel) ⟨Nat.le_of_ble_eq_true rfl, Nat.le_of_ble_eq_true rfl⟩) rfl rfl (Nat.le_of_ble_eq_true rfl) dX10_needPart_8 ⟨Nat.le_of_ble_eq_true rfl, Nat.le_of_ble_eq_true rfl⟩ (fun H locs hPz3 hW hS => ?_)
  refine W.eq (g2 := F0 m 11 ls [.int r5]) rfl ?_
  refine lv_if_ne (tgt := 25) hx hb dX10_needPart_11 (by decide) (fun c7 => ?_) (fun c7 => ?_)
  · replace hf := ifT c7 hf
    obtain ⟨e1, e2⟩ := so2 hf
    subst e1
    subst e2
    refine W.widen (k := 1) (n := 6) (Nat.le_of_ble_eq_true rfl) (Nat.le_of_ble_eq_true rfl) ?_
    exact vx_ret (W.vret hx hb hr (fun t ht hWm => ⟨⟨_, rfl, rfl, by unfold QB; rw [ht]; exact ⟨hW, trivial⟩⟩, hS.F ht⟩) hS.2.2 dX10_needPart_25 hlk)
  · replace hf := ifF (fun q => q c7) hf
    obtain ⟨e1, e2⟩ := so2 hf
    subst e1
    subst e2
    exact x_throwNSW (text := "no such part") hC hfl hno hl.1 hGs hS hlk w_2 w_3 (by decide +kernel) hat4 ⟨trivial, by decide +kernel, by decide +kernel⟩ dX10_needPart_14 dX10_needPart_17 dX10_needPart_18 dX10_needPart_21 dX10_needPart_24 (Nat.le_of_ble_eq_true rfl) (Nat.le_of_ble_eq_true rfl) (Nat.le_of_ble_eq_true rfl) (Nat.le_of_ble_eq_true rfl) (Nat.le_of_ble_eq_true rfl) (Nat.le_of_ble_eq_true rfl) (fun t hv hq hF => ⟨⟨4, rfl, rfl, hW.kept hq, trivial⟩, hF⟩)
set_option maxHeartbeats 4000000 in
set_option maxRecDepth 100000 in
theorem c_X10_part (l : Launch) (hfl : l.stackTraces = false) (g : GP) (ad : Nat → Nat) (n : Nat) (K : Nat → Nat) (sz F : Nat) (S0 : St) (p0 : Nat) (p1 : Int32) (p2 : Int32) (tp0 : p0 < n ∧ K p0 = 9) (o9 : Nat ⊕ Int32) (S9 : St) (hf : f_X10_part F S0 p0 p1 p2 = some (o9, S9)) : vx_Met l yX10_part wsX10_part { frames := 7, cells := 2, slots := 12, locals := 121 } (va_Pc [.ref (ad p0), .int p1, .int p2] (PB g ad n K S0 sz)) (QT o9 (fun r => some (.int r)) (QB g ad n K S9 (dA ad n sz) True) (dA ad n sz)) (XT o9 (QB g ad n K S9 (dA ad n sz) True) (dA ad n sz)) 2 12 (dA ad n sz) := by
  refine vx_ofW (cc := cX10_part) (maxL := 3) (ret := (some .int)) (by decide) rfl ?_
  intro p e s m args below meth c s₁ B hml hno hv
  obtain ⟨rfl, hsz, hW, hK, hGs⟩ := x_start hv
  subst hsz
  have hx := B.exec
  have hb := B.bytes
  have hr := B.returns
  have hts := atoms_spec (ws := wsX10_part) B.pre
  have hown : s.vm.findClass RX10 = some m.cls := findClass_of_methodNamed B.named
  have hlk := B.notSynchronized
  have hC : Cx g p s m _ c cX10_part RX10 wsX10_part 3 := ⟨hx, hb, hml, hown, hts, hK⟩
  have hA : ∀ q : Nat, s.heap.size ≤ q → dA ad n s.heap.size q := fun q h => Or.inr h
  have hS : va_S (dA ad n s.heap.size) s.heap s.heap [] := va_S.rf
  have hl := lv_entry ([.ref (ad p0), .int p1, .int p2]) (n := 3) (Nat.le_of_ble_eq_true rfl)
  rw [lg_entry_eq]
  generalize (lg_sl ([.ref (ad p0), .int p1, .int p2]) ++ List.replicate (3 - (lg_sl ([.ref (ad p0), .int p1, .int p2])).length) Slot.unset).toArray = ls at hl ⊢
  have hl : lv_has ls 3 [(0, .ref (ad p0)), (1, .int p1), (2, .int p2)] := hl
  have hin0 : ∀ w ∈ wsX00, w ∈ wsX10_part := by decide +kernel
  have hin8 : ∀ w ∈ wsX80, w ∈ wsX10_part := by decide +kernel
  have hin9 : ∀ w ∈ wsX90, w ∈ wsX10_part := by decide +kernel
  have hin10 : ∀ w ∈ wsX100, w ∈ wsX10_part := by decide +kernel
  have w_0 := hts (.fieldLink RX10 42 "MailSpool" "now" "LMailSpool$Spool;") (by decide +kernel)
  have w_1 := va_Nw.use (A := (List.toArray [.ref (ad p0), .int p1, .int p2])) rfl (hGs.1 (.fieldLinkNest RX10 186 "MailSpool$Spool" "store" "LMailSpool$Store;" "MailSpool") (by decide +kernel))
  have w_2 := va_Nw.use (A := (List.toArray [.ref (ad p0), .int p1, .int p2])) rfl (hGs.1 (.fieldLinkNest RX10 57 "MailSpool$Bytes" "size" "I" "MailSpool") (by decide +kernel))
  have w_3 := va_Nw.use (A := (List.toArray [.ref (ad p0), .int p1, .int p2])) rfl (hGs.1 (.fieldLinkNest RX10 269 "MailSpool$Store" "keepers" "[I" "MailSpool") (by decide +kernel))
  have w_4 := va_Nw.use (A := (List.toArray [.ref (ad p0), .int p1, .int p2])) rfl (hGs.1 (.fieldLinkNest RX10 272 "MailSpool$Store" "deadSince" "[I" "MailSpool") (by decide +kernel))
  have w_5 := va_Nw.use (A := (List.toArray [.ref (ad p0), .int p1, .int p2])) rfl (hGs.1 (.fieldLinkNest RX10 275 "MailSpool$Store" "firstMessage" "[I" "MailSpool") (by decide +kernel))
  have hGE := hGs.2.2.2.2.2.2.1
  have hGM := hGs.2.2.2.2.2.2.2.1
  unfold f_X10_part at hf
  refine lv_aload_n hx hb dX10_part_0 rfl (lv_at hl 0 rfl) ?_
  refine lv_iload_n hx hb dX10_part_1 rfl (lv_at hl 1 rfl) ?_
  replace hf := obE hf
  obtain ⟨z1, hz1, hf⟩ := hf
  obtain ⟨oz1, S2⟩ := z1
  replace hf := ltE hf S2 rfl
  refine x_tcallV (As := [.int p1]) (rest := []) (S1 := S2) (o := oz1) (vr := (fun _ => none)) (P := True) hC hl.1 hW hS hGs hA tp0 rfl (show vwCl[9]? = some (RX10, TX10, 11) ∧ 9 < 11 from ⟨rfl, by decide⟩) (c_X10_needPart l hfl g ad n K s.heap.size F S0 p0 p1 tp0 oz1 S2 hz1) (cwV 1 hts gX10_part_X10_needPart rfl rfl rfl (by decide +kernel) ⟨Nat.le_of_ble_eq_true rfl, Nat.le_of_ble_eq_true rfl⟩) rfl rfl (Nat.le_of_ble_eq_true rfl) dX10_part_2 ⟨Nat.le_of_ble_eq_true rfl, Nat.le_of_ble_eq_true rfl⟩ (fun x5 H locs ce q9 ho hW hS hc1 hc2 hc3 => ?_) (fun r3 H locs ho hP hW hS => ?_)
  · replace hf := smL ho hf
    obtain ⟨e1, e2⟩ := so2 hf
    subst e1
    subst e2
    exact x_tout hno hlk rfl hW hS hc1 hc2 hc3 (Nat.le_of_ble_eq_true rfl) (Nat.le_of_ble_eq_true rfl)
  · replace hf := smR ho hf
    refine W.widen (k := 1) (n := 6) (Nat.le_of_ble_eq_true rfl) (Nat.le_of_ble_eq_true rfl) ?_
    refine W.eq (g2 := F0 m 5 ls []) rfl ?_
    refine lv_iload_n hx hb dX10_part_5 rfl (lv_at hl 2 rfl) ?_
    refine lv_iconst (v := 3) hx hb dX10_part_6 (by decide) ?_
    replace hf := obE hf
    obtain ⟨z9, hz9, hf⟩ := hf
    obtain ⟨oz9, S10⟩ := z9
    replace hf := ltE hf S10 rfl
    refine x_tcallS (As := [.int p2, .int 3]) (rest := []) (S1 := S10) (o := oz9) (vr := (fun _ => none)) (P := True) hC hl.1 hW hS hGs hA (c_X10_needWhat l hfl g ad n K H.size F S2 p2 ((3 : Int32)) oz9 S10 hz9) (va_cwS 2 hts gX10_part_X10_needWhat rfl rfl rfl (by decide +kernel) ⟨Nat.le_of_ble_eq_true rfl, Nat.le_of_ble_eq_true rfl⟩) rfl rfl (Nat.le_of_ble_eq_true rfl) dX10_part_7 ⟨Nat.le_of_ble_eq_true rfl, Nat.le_of_ble_eq_true rfl⟩ (fun x13 H locs ce q9 ho hW hS hc1 hc2 hc3 => ?_) (fun r11 H locs ho hP hW hS => ?_)
    · replace hf := smL ho hf
      obtain ⟨e1, e2⟩ := so2 hf
      subst e1
      subst e2
      exact x_tout hno hlk rfl hW hS hc1 hc2 hc3 (Nat.le_of_ble_eq_true rfl) (Nat.le_of_ble_eq_true rfl)
    · replace hf := smR ho hf
      refine W.widen (k := 2) (n := 12) (Nat.le_of_ble_eq_true rfl) (Nat.le_of_ble_eq_true rfl) ?_
      refine W.eq (g2 := F0 m 10 ls []) rfl ?_
      refine lv_iload_n hx hb dX10_part_10 rfl (lv_at hl 2 rfl) ?_
      by_cases c17 : p2 = 0
      · replace hf := ifT c17 hf
        refine lv_tableIn (tgt := 36) hx hb dX10_part_11 (by rw [c17]; decide) (by rw [c17]; decide) (by rw [c17]; rfl) (by decide) ?_
        refine lv_aload_n hx hb dX10_part_36 rfl (lv_at hl 0 rfl) ?_
        replace hf := obE hf
        obtain ⟨j18, qj18, hf⟩ := hf
        have tj18 := x_rt hW qj18 7 ⟨by decide, rfl⟩
        refine x_getr 905 (ci := 9) (C := RX10) (T := TX10) (N := 11) 5 hC hin10 hW tp0 rfl rfl ⟨by decide, by decide, rfl, rfl⟩ rfl w_0 dX10_part_37 qj18 ?_
        replace hf := obE hf
        obtain ⟨j19, qj19, hf⟩ := hf
        have tj19 := x_rt hW qj19 8 ⟨by decide, rfl⟩
        refine x_getrN 710 (ci := 7) (C := RX8) (T := TX8) (N := 16) 10 hC hin8 hW tj18 rfl rfl ⟨by decide, by decide, rfl, rfl⟩ rfl w_1 dX10_part_40 qj19 ?_
        refine lv_iload_n hx hb dX10_part_43 rfl (lv_at hl 1 rfl) ?_
        replace hf := obE hf
        obtain ⟨z20, hz20, hf⟩ := hf
        obtain ⟨r22, S21⟩ := z20
        replace hf := ltE (ltE hf r22 rfl) S21 rfl
        refine x_callV (As := [.int p1]) (rest := []) (o := (some (va_re ad r22))) (S1 := S21) hC hl.1 hW hS hGs hA tj19 rfl (show vwCl[8]? = some (RX9, TX9, 8) ∧ 8 < 11 from ⟨rfl, by decide⟩) (c_X9_bytesOf l g ad n K H.size F S10 j19 p1 tj19 r22 S21 hz20) (cwV 1 hts gX10_part_X9_bytesOf rfl rfl rfl (by decide +kernel) ⟨Nat.le_of_ble_eq_true rfl, Nat.le_of_ble_eq_true rfl⟩) rfl rfl (Nat.le_of_ble_eq_true rfl) dX10_part_44 ⟨Nat.le_of_ble_eq_true rfl, Nat.le_of_ble_eq_true rfl⟩ (fun H locs hPz20 hW hS => ?_)
        replace hf := obE hf
        obtain ⟨j24, qj24, hf⟩ := hf
        have tj24 := hPz20 j24 qj24
        refine W.eq (g2 := F0 m 47 ls [.ref (ad j24)]) (by rw [qj24]; rfl) ?_
        refine x_getiN 1 (ci := 0) (C := RX0) (T := TX0) (N := 2) 1 hC hin0 hW tj24 rfl rfl ⟨by decide, by decide, rfl, rfl⟩ rfl w_2 dX10_part_47 ?_
        obtain ⟨e1, e2⟩ := so2 hf
        subst e1
        subst e2
        exact vx_ret (W.iret (v := si S21 1 j24) hx hb hr (fun t ht hWm => ⟨⟨_, rfl, rfl, by unfold QB; rw [ht]; exact ⟨hW, trivial⟩⟩, hS.F ht⟩) hS.2.2 dX10_part_50 hlk)
      · replace hf := ifF c17 hf
        by_cases c25 : p2 = 1
        · replace hf := ifT c25 hf
          refine lv_tableIn (tgt := 51) hx hb dX10_part_11 (by rw [c25]; decide) (by rw [c25]; decide) (by rw [c25]; rfl) (by decide) ?_
          refine lv_aload_n hx hb dX10_part_51 rfl (lv_at hl 0 rfl) ?_
          replace hf := obE hf
          obtain ⟨j26, qj26, hf⟩ := hf
          have tj26 := x_rt hW qj26 7 ⟨by decide, rfl⟩
          refine x_getr 905 (ci := 9) (C := RX10) (T := TX10) (N := 11) 5 hC hin10 hW tp0 rfl rfl ⟨by decide, by decide, rfl, rfl⟩ rfl w_0 dX10_part_52 qj26 ?_
          replace hf := obE hf
          obtain ⟨j27, qj27, hf⟩ := hf
          have tj27 := x_rt hW qj27 8 ⟨by decide, rfl⟩
          refine x_getrN 710 (ci := 7) (C := RX8) (T := TX8) (N := 16) 10 hC hin8 hW tj26 rfl rfl ⟨by decide, by decide, rfl, rfl⟩ rfl w_1 dX10_part_55 qj27 ?_
          replace hf := obE hf
          obtain ⟨j28, qj28, hf⟩ := hf
          have tj28 := x_rt hW qj28 12 ⟨by decide, rfl⟩
          refine x_getrN 805 (ci := 8) (C := RX9) (T := TX9) (N := 8) 5 hC hin9 hW tj27 rfl rfl ⟨by decide, by decide, rfl, rfl⟩ rfl w_3 dX10_part_58 qj28 ?_
          refine lv_iload_n hx hb dX10_part_61 rfl (lv_at hl 1 rfl) ?_
          replace hf := obE hf
          obtain ⟨z29, hz29, hf⟩ := hf
          obtain ⟨r31, S30⟩ := z29
          replace hf := ltE (ltE hf r31 rfl) S30 rfl
          refine x_callS (As := [.ref (ad j28), .int p1]) (rest := []) (o := (some (.int r31))) (S1 := S30) hC hl.1 hW hS hGs hA (c_X10_at l g ad n K H.size F S10 j28 p1 tj28 r31 S30 hz29) (va_cwS 2 hts gX10_part_X10_at rfl rfl rfl (by decide +kernel) ⟨Nat.le_of_ble_eq_true rfl, Nat.le_of_ble_eq_true rfl⟩) rfl rfl (Nat.le_of_ble_eq_true rfl) dX10_part_62 ⟨Nat.le_of_ble_eq_true rfl, Nat.le_of_ble_eq_true rfl⟩ (fun H locs hPz29 hW hS => ?_)
          refine W.eq (g2 := F0 m 65 ls [.int r31]) rfl ?_
          obtain ⟨e1, e2⟩ := so2 hf
          subst e1
          subst e2
          exact vx_ret (W.iret (v := r31) hx hb hr (fun t ht hWm => ⟨⟨_, rfl, rfl, by unfold QB; rw [ht]; exact ⟨hW, trivial⟩⟩, hS.F ht⟩) hS.2.2 dX10_part_65 hlk)
        · replace hf := ifF c25 hf
          by_cases c33 : p2 = 2
          · replace hf := ifT c33 hf
            refine lv_tableIn (tgt := 66) hx hb dX10_part_11 (by rw [c33]; decide) (by rw [c33]; decide) (by rw [c33]; rfl) (by decide) ?_
            refine lv_aload_n hx hb dX10_part_66 rfl (lv_at hl 0 rfl) ?_
            replace hf := obE hf
            obtain ⟨j34, qj34, hf⟩ := hf
            have tj34 := x_rt hW qj34 7 ⟨by decide, rfl⟩
            refine x_getr 905 (ci := 9) (C := RX10) (T := TX10) (N := 11) 5 hC hin10 hW tp0 rfl rfl ⟨by decide, by decide, rfl, rfl⟩ rfl w_0 dX10_part_67 qj34 ?_
            replace hf := obE hf
            obtain ⟨j35, qj35, hf⟩ := hf
            have tj35 := x_rt hW qj35 8 ⟨by decide, rfl⟩
            refine x_getrN 710 (ci := 7) (C := RX8) (T := TX8) (N := 16) 10 hC hin8 hW tj34 rfl rfl ⟨by decide, by decide, rfl, rfl⟩ rfl w_1 dX10_part_70 qj35 ?_
            replace hf := obE hf
            obtain ⟨j36, qj36, hf⟩ := hf
            have tj36 := x_rt hW qj36 12 ⟨by decide, rfl⟩
            refine x_getrN 806 (ci := 8) (C := RX9) (T := TX9) (N := 8) 6 hC hin9 hW tj35 rfl rfl ⟨by decide, by decide, rfl, rfl⟩ rfl w_4 dX10_part_73 qj36 ?_
            refine lv_iload_n hx hb dX10_part_76 rfl (lv_at hl 1 rfl) ?_
            replace hf := obE hf
            obtain ⟨z37, hz37, hf⟩ := hf
            obtain ⟨r39, S38⟩ := z37
            replace hf := ltE (ltE hf r39 rfl) S38 rfl
            refine x_callS (As := [.ref (ad j36), .int p1]) (rest := []) (o := (some (.int r39))) (S1 := S38) hC hl.1 hW hS hGs hA (c_X10_at l g ad n K H.size F S10 j36 p1 tj36 r39 S38 hz37) (va_cwS 2 hts gX10_part_X10_at rfl rfl rfl (by decide +kernel) ⟨Nat.le_of_ble_eq_true rfl, Nat.le_of_ble_eq_true rfl⟩) rfl rfl (Nat.le_of_ble_eq_true rfl) dX10_part_77 ⟨Nat.le_of_ble_eq_true rfl, Nat.le_of_ble_eq_true rfl⟩ (fun H locs hPz37 hW hS => ?_)
            refine W.eq (g2 := F0 m 80 ls [.int r39]) rfl ?_
            obtain ⟨e1, e2⟩ := so2 hf
            subst e1
            subst e2
            exact vx_ret (W.iret (v := r39) hx hb hr (fun t ht hWm => ⟨⟨_, rfl, rfl, by unfold QB; rw [ht]; exact ⟨hW, trivial⟩⟩, hS.F ht⟩) hS.2.2 dX10_part_80 hlk)
          · replace hf := ifF c33 hf
            refine lv_tableOut (tgt := 81) hx hb dX10_part_11 (sw_out3 c17 c25 c33) (by decide) ?_
            refine lv_aload_n hx hb dX10_part_81 rfl (lv_at hl 0 rfl) ?_
            replace hf := obE hf
            obtain ⟨j41, qj41, hf⟩ := hf
            have tj41 := x_rt hW qj41 7 ⟨by decide, rfl⟩
            refine x_getr 905 (ci := 9) (C := RX10) (T := TX10) (N := 11) 5 hC hin10 hW tp0 rfl rfl ⟨by decide, by decide, rfl, rfl⟩ rfl w_0 dX10_part_82 qj41 ?_
            replace hf := obE hf
            obtain ⟨j42, qj42, hf⟩ := hf
            have tj42 := x_rt hW qj42 8 ⟨by decide, rfl⟩
            refine x_getrN 710 (ci := 7) (C := RX8) (T := TX8) (N := 16) 10 hC hin8 hW tj41 rfl rfl ⟨by decide, by decide, rfl, rfl⟩ rfl w_1 dX10_part_85 qj42 ?_
            replace hf := obE hf
            obtain ⟨j43, qj43, hf⟩ := hf
            have tj43 := x_rt hW qj43 12 ⟨by decide, rfl⟩
            refine x_getrN 804 (ci := 8) (C := RX9) (T := TX9) (N := 8) 4 hC hin9 hW tj42 rfl rfl ⟨by decide, by decide, rfl, rfl⟩ rfl w_5 dX10_part_88 qj43 ?_
            refine lv_iload_n hx hb dX10_part_91 rfl (lv_at hl 1 rfl) ?_
            replace hf := obE hf
            obtain ⟨z44, hz44, hf⟩ := hf
            obtain ⟨r46, S45⟩ := z44
            replace hf := ltE (ltE hf r46 rfl) S45 rfl
            refine x_callS (As := [.ref (ad j43), .int p1]) (rest := []) (o := (some (.int r46))) (S1 := S45) hC hl.1 hW hS hGs hA (c_X10_at l g ad n K H.size F S10 j43 p1 tj43 r46 S45 hz44) (va_cwS 2 hts gX10_part_X10_at rfl rfl rfl (by decide +kernel) ⟨Nat.le_of_ble_eq_true rfl, Nat.le_of_ble_eq_true rfl⟩) rfl rfl (Nat.le_of_ble_eq_true rfl) dX10_part_92 ⟨Nat.le_of_ble_eq_true rfl, Nat.le_of_ble_eq_true rfl⟩ (fun H locs hPz44 hW hS => ?_)
            refine W.eq (g2 := F0 m 95 ls [.int r46]) rfl ?_
            obtain ⟨e1, e2⟩ := so2 hf
            subst e1
            subst e2
            exact vx_ret (W.iret (v := r46) hx hb hr (fun t ht hWm => ⟨⟨_, rfl, rfl, by unfold QB; rw [ht]; exact ⟨hW, trivial⟩⟩, hS.F ht⟩) hS.2.2 dX10_part_95 hlk)
set_option maxHeartbeats 4000000 in
set_option maxRecDepth 100000 in
theorem c_X10_partByte (l : Launch) (hfl : l.stackTraces = false) (g : GP) (ad : Nat → Nat) (n : Nat) (K : Nat → Nat) (sz F : Nat) (S0 : St) (p0 : Nat) (p1 : Int32) (p2 : Int32) (tp0 : p0 < n ∧ K p0 = 9) (o9 : Nat ⊕ Int32) (S9 : St) (hf : f_X10_partByte F S0 p0 p1 p2 = some (o9, S9)) : vx_Met l yX10_partByte wsX10_partByte { frames := 7, cells := 2, slots := 12, locals := 121 } (va_Pc [.ref (ad p0), .int p1, .int p2] (PB g ad n K S0 sz)) (QT o9 (fun r => some (.int r)) (QB g ad n K S9 (dA ad n sz) True) (dA ad n sz)) (XT o9 (QB g ad n K S9 (dA ad n sz) True) (dA ad n sz)) 2 12 (dA ad n sz) := by
  refine vx_ofW (cc := cX10_partByte) (maxL := 4) (ret := (some .int)) (by decide) rfl ?_
  intro p e s m args below meth c s₁ B hml hno hv
  obtain ⟨rfl, hsz, hW, hK, hGs⟩ := x_start hv
  subst hsz
  have hx := B.exec
  have hb := B.bytes
  have hr := B.returns
  have hts := atoms_spec (ws := wsX10_partByte) B.pre
  have hown : s.vm.findClass RX10 = some m.cls := findClass_of_methodNamed B.named
  have hlk := B.notSynchronized
  have hC : Cx g p s m _ c cX10_partByte RX10 wsX10_partByte 4 := ⟨hx, hb, hml, hown, hts, hK⟩
  have hA : ∀ q : Nat, s.heap.size ≤ q → dA ad n s.heap.size q := fun q h => Or.inr h
  have hS : va_S (dA ad n s.heap.size) s.heap s.heap [] := va_S.rf
  have hl := lv_entry ([.ref (ad p0), .int p1, .int p2]) (n := 4) (Nat.le_of_ble_eq_true rfl)
  rw [lg_entry_eq]
  generalize (lg_sl ([.ref (ad p0), .int p1, .int p2]) ++ List.replicate (4 - (lg_sl ([.ref (ad p0), .int p1, .int p2])).length) Slot.unset).toArray = ls at hl ⊢
  have hl : lv_has ls 4 [(0, .ref (ad p0)), (1, .int p1), (2, .int p2)] := hl
  have hin0 : ∀ w ∈ wsX00, w ∈ wsX10_partByte := by decide +kernel
  have hin8 : ∀ w ∈ wsX80, w ∈ wsX10_partByte := by decide +kernel
  have hin10 : ∀ w ∈ wsX100, w ∈ wsX10_partByte := by decide +kernel
  have w_0 := hts (.classLink RX10 278 "java/lang/IndexOutOfBoundsException") (by decide +kernel)
  have w_1 := hts (.initialized "java/lang/IndexOutOfBoundsException") (by decide +kernel)
  have w_2 := hts (.fieldLink RX10 42 "MailSpool" "now" "LMailSpool$Spool;") (by decide +kernel)
  have w_3 := va_Nw.use (A := (List.toArray [.ref (ad p0), .int p1, .int p2])) rfl (hGs.1 (.fieldLinkNest RX10 186 "MailSpool$Spool" "store" "LMailSpool$Store;" "MailSpool") (by decide +kernel))
  have w_4 := va_Nw.use (A := (List.toArray [.ref (ad p0), .int p1, .int p2])) rfl (hGs.1 (.fieldLinkNest RX10 57 "MailSpool$Bytes" "size" "I" "MailSpool") (by decide +kernel))
  have hat3 : ∀ w ∈ (vx_atS RX10 282 (exn 3) exNm).filter goodWord, w.before _ s = true := fun w h => hts w ((by decide +kernel : ∀ w ∈ (vx_atS RX10 282 (exn 3) exNm).filter goodWord, w ∈ wsX10_partByte) w h)
  have hGE := hGs.2.2.2.2.2.2.1
  have hGM := hGs.2.2.2.2.2.2.2.1
  have L29 : ∀ (S0 : St)   (H : Heap) (locs : List Loc) (ls : Array Slot), f_X10_partByte_L29 F S0  = some (o9, S9) → Wb g ad n K S0 (dA ad n s.heap.size) H → va_S (dA ad n s.heap.size) s.heap H locs → lv_has ls 4 [] → W p l e (headSpec wsX10_partByte { frames := 7, cells := 2, slots := 12, locals := 121 }).room s m (List.toArray [.ref (ad p0), .int p1, .int p2]) below meth c H locs 1 6 (vx_MQ below (QT o9 (fun r => some (.int r)) (QB g ad n K S9 (dA ad n s.heap.size) True) (dA ad n s.heap.size)) (XT o9 (QB g ad n K S9 (dA ad n s.heap.size) True) (dA ad n s.heap.size)) (List.toArray [.ref (ad p0), .int p1, .int p2]) s 2 12 (dA ad n s.heap.size)) (F0 m 29 ls []) := by
    intro S0  H locs ls hf hW hS hl
    unfold f_X10_partByte_L29 at hf
    obtain ⟨e1, e2⟩ := so2 hf
    subst e1
    subst e2
    exact x_throwSW (x := 3) (text := "no such offset") hC hfl hno hl.1 hGs hS hlk w_0 w_1 (by decide +kernel) hat3 ⟨by decide +kernel, by decide +kernel, by decide +kernel⟩ dX10_partByte_29 dX10_partByte_32 dX10_partByte_33 dX10_partByte_36 dX10_partByte_39 (Nat.le_of_ble_eq_true rfl) (Nat.le_of_ble_eq_true rfl) (Nat.le_of_ble_eq_true rfl) (Nat.le_of_ble_eq_true rfl) (Nat.le_of_ble_eq_true rfl) (Nat.le_of_ble_eq_true rfl) (fun t hv hq hF => ⟨⟨3, rfl, rfl, hW.kept hq, trivial⟩, hF⟩)
  unfold f_X10_partByte at hf
  refine lv_aload_n hx hb dX10_partByte_0 rfl (lv_at hl 0 rfl) ?_
  refine lv_iload_n hx hb dX10_partByte_1 rfl (lv_at hl 1 rfl) ?_
  replace hf := obE hf
  obtain ⟨z1, hz1, hf⟩ := hf
  obtain ⟨oz1, S2⟩ := z1
  replace hf := ltE hf S2 rfl
  refine x_tcallV (As := [.int p1]) (rest := []) (S1 := S2) (o := oz1) (vr := (fun _ => none)) (P := True) hC hl.1 hW hS hGs hA tp0 rfl (show vwCl[9]? = some (RX10, TX10, 11) ∧ 9 < 11 from ⟨rfl, by decide⟩) (c_X10_needPart l hfl g ad n K s.heap.size F S0 p0 p1 tp0 oz1 S2 hz1) (cwV 1 hts gX10_partByte_X10_needPart rfl rfl rfl (by decide +kernel) ⟨Nat.le_of_ble_eq_true rfl, Nat.le_of_ble_eq_true rfl⟩) rfl rfl (Nat.le_of_ble_eq_true rfl) dX10_partByte_2 ⟨Nat.le_of_ble_eq_true rfl, Nat.le_of_ble_eq_true rfl⟩ (fun x5 H locs ce q9 ho hW hS hc1 hc2 hc3 => ?_) (fun r3 H locs ho hP hW hS => ?_)
  · replace hf := smL ho hf
    obtain ⟨e1, e2⟩ := so2 hf
    subst e1
    subst e2
    exact x_tout hno hlk rfl hW hS hc1 hc2 hc3 (Nat.le_of_ble_eq_true rfl) (Nat.le_of_ble_eq_true rfl)
  · replace hf := smR ho hf
    refine W.widen (k := 1) (n := 6) (Nat.le_of_ble_eq_true rfl) (Nat.le_of_ble_eq_true rfl) ?_
    refine W.eq (g2 := F0 m 5 ls []) rfl ?_
    refine lv_aload_n hx hb dX10_partByte_5 rfl (lv_at hl 0 rfl) ?_
    replace hf := obE hf
    obtain ⟨j9, qj9, hf⟩ := hf
    have tj9 := x_rt hW qj9 7 ⟨by decide, rfl⟩
    refine x_getr 905 (ci := 9) (C := RX10) (T := TX10) (N := 11) 5 hC hin10 hW tp0 rfl rfl ⟨by decide, by decide, rfl, rfl⟩ rfl w_2 dX10_partByte_6 qj9 ?_
    replace hf := obE hf
    obtain ⟨j10, qj10, hf⟩ := hf
    have tj10 := x_rt hW qj10 8 ⟨by decide, rfl⟩
    refine x_getrN 710 (ci := 7) (C := RX8) (T := TX8) (N := 16) 10 hC hin8 hW tj9 rfl rfl ⟨by decide, by decide, rfl, rfl⟩ rfl w_3 dX10_partByte_9 qj10 ?_
    refine lv_iload_n hx hb dX10_partByte_12 rfl (lv_at hl 1 rfl) ?_
    replace hf := obE hf
    obtain ⟨z11, hz11, hf⟩ := hf
    obtain ⟨r13, S12⟩ := z11
    replace hf := ltE (ltE hf r13 rfl) S12 rfl
    refine x_callV (As := [.int p1]) (rest := []) (o := (some (va_re ad r13))) (S1 := S12) hC hl.1 hW hS hGs hA tj10 rfl (show vwCl[8]? = some (RX9, TX9, 8) ∧ 8 < 11 from ⟨rfl, by decide⟩) (c_X9_bytesOf l g ad n K H.size F S2 j10 p1 tj10 r13 S12 hz11) (cwV 1 hts gX10_partByte_X9_bytesOf rfl rfl rfl (by decide +kernel) ⟨Nat.le_of_ble_eq_true rfl, Nat.le_of_ble_eq_true rfl⟩) rfl rfl (Nat.le_of_ble_eq_true rfl) dX10_partByte_13 ⟨Nat.le_of_ble_eq_true rfl, Nat.le_of_ble_eq_true rfl⟩ (fun H locs hPz11 hW hS => ?_)
    replace hf := obE hf
    obtain ⟨j15, qj15, hf⟩ := hf
    have tj15 := hPz11 j15 qj15
    refine W.eq (g2 := F0 m 16 ls [.ref (ad j15)]) (by rw [qj15]; rfl) ?_
    refine lv_astore_n (lv' := [(3, .ref (ad j15)), (0, .ref (ad p0)), (1, .int p1), (2, .int p2)]) hx hb dX10_partByte_16 rfl hl (by decide) rfl (fun ls hl => ?_)
    refine lv_iload_n hx hb dX10_partByte_17 rfl (lv_at hl 3 rfl) ?_
    refine lv_if_lt (tgt := 29) hx hb dX10_partByte_18 (by decide) (fun c16 => ?_) (fun c16 => ?_)
    · replace hf := ifT c16 hf
      exact L29 S12 _ _ _ hf hW hS (lv_sub hl [] rfl)
    · replace hf := ifF c16 hf
      refine lv_iload_n hx hb dX10_partByte_21 rfl (lv_at hl 3 rfl) ?_
      refine lv_aload_n hx hb dX10_partByte_22 rfl (lv_at hl 0 rfl) ?_
      refine x_getiN 1 (ci := 0) (C := RX0) (T := TX0) (N := 2) 1 hC hin0 hW tj15 rfl rfl ⟨by decide, by decide, rfl, rfl⟩ rfl w_4 dX10_partByte_23 ?_
      refine lv_icmp_lt (tgt := 40) hx hb dX10_partByte_26 (by decide) (fun c17 => ?_) (fun c17 => ?_)
      · replace hf := ifT c17 hf
        refine lv_aload_n hx hb dX10_partByte_40 rfl (lv_at hl 0 rfl) ?_
        refine lv_iload_n hx hb dX10_partByte_41 rfl (lv_at hl 3 rfl) ?_
        replace hf := obE hf
        obtain ⟨z18, hz18, hf⟩ := hf
        obtain ⟨r20, S19⟩ := z18
        replace hf := ltE (ltE hf r20 rfl) S19 rfl
        refine x_callV (As := [.int p2]) (rest := []) (o := (some (.int r20))) (S1 := S19) hC hl.1 hW hS hGs hA tj15 rfl (show vwCl[0]? = some (RX0, TX0, 2) ∧ 0 < 11 from ⟨rfl, by decide⟩) (c_X0_byteAt l g ad n K H.size F S12 j15 p2 tj15 r20 S19 hz18) (cwV 1 hts gX10_partByte_X0_byteAt rfl rfl rfl (by decide +kernel) ⟨Nat.le_of_ble_eq_true rfl, Nat.le_of_ble_eq_true rfl⟩) rfl rfl (Nat.le_of_ble_eq_true rfl) dX10_partByte_42 ⟨Nat.le_of_ble_eq_true rfl, Nat.le_of_ble_eq_true rfl⟩ (fun H locs hPz18 hW hS => ?_)
        refine W.eq (g2 := F0 m 45 ls [.int r20]) rfl ?_
        obtain ⟨e1, e2⟩ := so2 hf
        subst e1
        subst e2
        refine W.widen (k := 2) (n := 12) (Nat.le_of_ble_eq_true rfl) (Nat.le_of_ble_eq_true rfl) ?_
        exact vx_ret (W.iret (v := r20) hx hb hr (fun t ht hWm => ⟨⟨_, rfl, rfl, by unfold QB; rw [ht]; exact ⟨hW, trivial⟩⟩, hS.F ht⟩) hS.2.2 dX10_partByte_45 hlk)
      · replace hf := ifF c17 hf
        exact L29 S12 _ _ _ hf hW hS (lv_sub hl [] rfl)
set_option maxHeartbeats 4000000 in
set_option maxRecDepth 100000 in
theorem c_X0_hash (l : Launch) (g : GP) (ad : Nat → Nat) (n : Nat) (K : Nat → Nat) (sz F : Nat) (S0 : St) (p0 : Nat) (tp0 : p0 < n ∧ K p0 = 0) (r9 : Int64) (S9 : St) (hf : f_X0_hash F S0 p0 = some (r9, S9)) : Met l yX0_hash wsX0_hash { frames := 1, cells := 0, slots := 0, locals := 21 } (va_Pc [.ref (ad p0)] (PB g ad n K S0 sz)) (QR (some (.long r9)) (QB g ad n K S9 (dA ad n sz) (True)) (dA ad n sz)) 0 0 (dA ad n sz) := by
  refine Met.ofW (cc := cX0_hash) (maxL := 4) (ret := (some .long)) (by decide) rfl ?_
  intro p e s m args below meth c s₁ B hml hv
  obtain ⟨rfl, hsz, hW, hK, hGs⟩ := x_start hv
  subst hsz
  have hx := B.exec
  have hb := B.bytes
  have hr := B.returns
  have hts := atoms_spec (ws := wsX0_hash) B.pre
  have hown : s.vm.findClass RX0 = some m.cls := findClass_of_methodNamed B.named
  have hlk := B.notSynchronized
  have hC : Cx g p s m _ c cX0_hash RX0 wsX0_hash 4 := ⟨hx, hb, hml, hown, hts, hK⟩
  have hA : ∀ q : Nat, s.heap.size ≤ q → dA ad n s.heap.size q := fun q h => Or.inr h
  have hS : va_S (dA ad n s.heap.size) s.heap s.heap [] := va_S.rf
  have hl := lv_entry ([.ref (ad p0)]) (n := 4) (Nat.le_of_ble_eq_true rfl)
  rw [lg_entry_eq]
  generalize (lg_sl ([.ref (ad p0)]) ++ List.replicate (4 - (lg_sl ([.ref (ad p0)])).length) Slot.unset).toArray = ls at hl ⊢
  have hl : lv_has ls 4 [(0, .ref (ad p0))] := hl
  have hin0 : ∀ w ∈ wsX00, w ∈ wsX0_hash := by decide +kernel
  have w_0 := hts (.fieldLink RX0 21 "MailSpool$Bytes" "size" "I") (by decide +kernel)
  have w_1 := hts (.constantLong RX0 49 (1099511628211)) (by decide +kernel)
  have w_2 := hts (.constantLong RX0 47 (-3750763034362895579)) (by decide +kernel)
  have hGE := hGs.2.2.2.2.2.2.1
  have hGM := hGs.2.2.2.2.2.2.2.1
  have L6 : ∀ (fu6 : Nat) (S0 : St) (v0 : Nat) (v1 : Int64) (v3 : Int32) (tv0 : v0 < n ∧ K v0 = 0) (H : Heap) (locs : List Loc) (ls : Array Slot), f_X0_hash_L6 F fu6 S0 v0 v1 v3 = some (r9, S9) → Wb g ad n K S0 (dA ad n s.heap.size) H → va_S (dA ad n s.heap.size) s.heap H locs → lv_has ls 4 [(0, .ref (ad v0)), (1, .long (v1)), (3, .int v3)] → W p l e (headSpec wsX0_hash { frames := 1, cells := 0, slots := 0, locals := 21 }).room s m (List.toArray [.ref (ad p0)]) below meth c H locs 0 0 (MQ below (QR (some (.long r9)) (QB g ad n K S9 (dA ad n s.heap.size) (True)) (dA ad n s.heap.size)) (List.toArray [.ref (ad p0)]) s 0 0 (dA ad n s.heap.size)) (F0 m 6 ls []) := by
    intro fu6
    induction fu6 with
    | zero =>
      intro S0 v0 v1 v3 tv0 H locs ls hf
      cases hf
    | succ fu6 ih6 =>
      intro S0 v0 v1 v3 tv0 H locs ls hf hW hS hl
      unfold f_X0_hash_L6 at hf
      refine lv_iload_n hx hb dX0_hash_6 rfl (lv_at hl 2 rfl) ?_
      refine lv_aload_n hx hb dX0_hash_7 rfl (lv_at hl 0 rfl) ?_
      refine x_geti 1 (ci := 0) (C := RX0) (T := TX0) (N := 2) 1 hC hin0 hW tv0 rfl rfl ⟨by decide, by decide, rfl, rfl⟩ rfl w_0 dX0_hash_8 ?_
      refine lv_icmp_ge (tgt := 33) hx hb dX0_hash_11 (by decide) (fun c8 => ?_) (fun c8 => ?_)
      · replace hf := ifT c8 hf
        refine lv_lload_n hx hb dX0_hash_33 rfl (lv_at hl 1 rfl) ?_
        obtain ⟨e1, e2⟩ := so2 hf
        subst e1
        subst e2
        exact W.lret (v := v1) hx hb hr (fun t ht hWm => ⟨⟨rfl, by unfold QB; rw [ht]; exact ⟨hW, trivial⟩⟩, hS.F ht⟩) hS.2.2 dX0_hash_34 hlk
      · replace hf := ifF c8 hf
        refine lv_lload_n hx hb dX0_hash_14 rfl (lv_at hl 1 rfl) ?_
        refine lv_aload_n hx hb dX0_hash_15 rfl (lv_at hl 0 rfl) ?_
        refine lv_iload_n hx hb dX0_hash_16 rfl (lv_at hl 2 rfl) ?_
        replace hf := obE hf
        obtain ⟨z9, hz9, hf⟩ := hf
        obtain ⟨r11, S10⟩ := z9
        replace hf := ltE (ltE hf r11 rfl) S10 rfl
        refine x_callV (As := [.int v3]) (rest := [.long (v1)]) (o := (some (.int r11))) (S1 := S10) hC hl.1 hW hS hGs hA tv0 rfl (show vwCl[0]? = some (RX0, TX0, 2) ∧ 0 < 11 from ⟨rfl, by decide⟩) (c_X0_byteAt l g ad n K H.size F S0 v0 v3 tv0 r11 S10 hz9) (cwV 1 hts gX0_hash_X0_byteAt rfl rfl rfl (by decide +kernel) ⟨Nat.le_of_ble_eq_true rfl, Nat.le_of_ble_eq_true rfl⟩) rfl rfl (Nat.le_of_ble_eq_true rfl) dX0_hash_17 ⟨Nat.le_of_ble_eq_true rfl, Nat.le_of_ble_eq_true rfl⟩ (fun H locs hPz9 hW hS => ?_)
        refine W.eq (g2 := F0 m 20 ls [.int r11, .long (v1)]) rfl ?_
        refine lv_i2l (v := r11.toInt64) hx hb dX0_hash_20 rfl ?_
        refine lv_lxor hx hb dX0_hash_21 ?_
        refine lv_ldc2 (v := (1099511628211)) hx hb hown w_1 dX0_hash_22 ?_
        refine lv_lmul hx hb dX0_hash_25 ?_
        refine lv_topl (fun x13 ex13 => ?_)
        replace hf := ltE hf x13 ex13
        refine lv_lstore_n (lv' := [(1, .long (x13)), (0, .ref (ad v0)), (3, .int v3)]) hx hb dX0_hash_26 rfl hl (by decide) rfl (fun ls hl => ?_)
        obtain ⟨x14, ex14⟩ : ∃ z : Int32, z = v3 + 1 := ⟨_, rfl⟩
        replace hf := ltE hf x14 ex14
        refine lv_iinc (v := x14) (lv' := [(3, .int x14), (1, .long (x13)), (0, .ref (ad v0))]) hx hb dX0_hash_27 hl (k := 2) rfl (by rw [ex14]; rfl) (by decide) rfl (fun ls hl => ?_)
        refine lv_goto (tgt := 6) hx hb dX0_hash_30 (by decide) ?_
        exact ih6 S10 v0 x13 x14 tv0 _ _ _ hf hW hS (lv_sub hl [2, 1, 0] rfl)
  unfold f_X0_hash at hf
  refine lv_ldc2 (v := (-3750763034362895579)) hx hb hown w_2 dX0_hash_0 ?_
  refine lv_topl (fun x15 ex15 => ?_)
  replace hf := ltE hf x15 ex15
  refine lv_lstore_n (lv' := [(1, .long (x15)), (0, .ref (ad p0))]) hx hb dX0_hash_3 rfl hl (by decide) rfl (fun ls hl => ?_)
  refine lv_iconst (v := 0) hx hb dX0_hash_4 (by decide) ?_
  refine lv_istore_n (lv' := [(3, .int 0), (1, .long (x15)), (0, .ref (ad p0))]) hx hb dX0_hash_5 rfl hl (by decide) rfl (fun ls hl => ?_)
  exact L6 F S0 p0 x15 0 tp0 _ _ _ hf hW hS (lv_sub hl [2, 1, 0] rfl)
set_option maxHeartbeats 4000000 in
set_option maxRecDepth 100000 in
theorem c_X10_digest (l : Launch) (hfl : l.stackTraces = false) (g : GP) (ad : Nat → Nat) (n : Nat) (K : Nat → Nat) (sz F : Nat) (S0 : St) (p0 : Nat) (p1 : Int32) (tp0 : p0 < n ∧ K p0 = 9) (o9 : Nat ⊕ Int64) (S9 : St) (hf : f_X10_digest F S0 p0 p1 = some (o9, S9)) : vx_Met l yX10_digest wsX10_digest { frames := 7, cells := 1, slots := 6, locals := 121 } (va_Pc [.ref (ad p0), .int p1] (PB g ad n K S0 sz)) (QT o9 (fun r => some (.long r)) (QB g ad n K S9 (dA ad n sz) True) (dA ad n sz)) (XT o9 (QB g ad n K S9 (dA ad n sz) True) (dA ad n sz)) 1 6 (dA ad n sz) := by
  refine vx_ofW (cc := cX10_digest) (maxL := 2) (ret := (some .long)) (by decide) rfl ?_
  intro p e s m args below meth c s₁ B hml hno hv
  obtain ⟨rfl, hsz, hW, hK, hGs⟩ := x_start hv
  subst hsz
  have hx := B.exec
  have hb := B.bytes
  have hr := B.returns
  have hts := atoms_spec (ws := wsX10_digest) B.pre
  have hown : s.vm.findClass RX10 = some m.cls := findClass_of_methodNamed B.named
  have hlk := B.notSynchronized
  have hC : Cx g p s m _ c cX10_digest RX10 wsX10_digest 2 := ⟨hx, hb, hml, hown, hts, hK⟩
  have hA : ∀ q : Nat, s.heap.size ≤ q → dA ad n s.heap.size q := fun q h => Or.inr h
  have hS : va_S (dA ad n s.heap.size) s.heap s.heap [] := va_S.rf
  have hl := lv_entry ([.ref (ad p0), .int p1]) (n := 2) (Nat.le_of_ble_eq_true rfl)
  rw [lg_entry_eq]
  generalize (lg_sl ([.ref (ad p0), .int p1]) ++ List.replicate (2 - (lg_sl ([.ref (ad p0), .int p1])).length) Slot.unset).toArray = ls at hl ⊢
  have hl : lv_has ls 2 [(0, .ref (ad p0)), (1, .int p1)] := hl
  have hin8 : ∀ w ∈ wsX80, w ∈ wsX10_digest := by decide +kernel
  have hin10 : ∀ w ∈ wsX100, w ∈ wsX10_digest := by decide +kernel
  have w_0 := hts (.fieldLink RX10 42 "MailSpool" "now" "LMailSpool$Spool;") (by decide +kernel)
  have w_1 := va_Nw.use (A := (List.toArray [.ref (ad p0), .int p1])) rfl (hGs.1 (.fieldLinkNest RX10 186 "MailSpool$Spool" "store" "LMailSpool$Store;" "MailSpool") (by decide +kernel))
  have hGE := hGs.2.2.2.2.2.2.1
  have hGM := hGs.2.2.2.2.2.2.2.1
  unfold f_X10_digest at hf
  refine lv_aload_n hx hb dX10_digest_0 rfl (lv_at hl 0 rfl) ?_
  refine lv_iload_n hx hb dX10_digest_1 rfl (lv_at hl 1 rfl) ?_
  replace hf := obE hf
  obtain ⟨z1, hz1, hf⟩ := hf
  obtain ⟨oz1, S2⟩ := z1
  replace hf := ltE hf S2 rfl
  refine x_tcallV (As := [.int p1]) (rest := []) (S1 := S2) (o := oz1) (vr := (fun _ => none)) (P := True) hC hl.1 hW hS hGs hA tp0 rfl (show vwCl[9]? = some (RX10, TX10, 11) ∧ 9 < 11 from ⟨rfl, by decide⟩) (c_X10_needPart l hfl g ad n K s.heap.size F S0 p0 p1 tp0 oz1 S2 hz1) (cwV 1 hts gX10_digest_X10_needPart rfl rfl rfl (by decide +kernel) ⟨Nat.le_of_ble_eq_true rfl, Nat.le_of_ble_eq_true rfl⟩) rfl rfl (Nat.le_of_ble_eq_true rfl) dX10_digest_2 ⟨Nat.le_of_ble_eq_true rfl, Nat.le_of_ble_eq_true rfl⟩ (fun x5 H locs ce q9 ho hW hS hc1 hc2 hc3 => ?_) (fun r3 H locs ho hP hW hS => ?_)
  · replace hf := smL ho hf
    obtain ⟨e1, e2⟩ := so2 hf
    subst e1
    subst e2
    exact x_tout hno hlk rfl hW hS hc1 hc2 hc3 (Nat.le_of_ble_eq_true rfl) (Nat.le_of_ble_eq_true rfl)
  · replace hf := smR ho hf
    refine W.widen (k := 1) (n := 6) (Nat.le_of_ble_eq_true rfl) (Nat.le_of_ble_eq_true rfl) ?_
    refine W.eq (g2 := F0 m 5 ls []) rfl ?_
    refine lv_aload_n hx hb dX10_digest_5 rfl (lv_at hl 0 rfl) ?_
    replace hf := obE hf
    obtain ⟨j9, qj9, hf⟩ := hf
    have tj9 := x_rt hW qj9 7 ⟨by decide, rfl⟩
    refine x_getr 905 (ci := 9) (C := RX10) (T := TX10) (N := 11) 5 hC hin10 hW tp0 rfl rfl ⟨by decide, by decide, rfl, rfl⟩ rfl w_0 dX10_digest_6 qj9 ?_
    replace hf := obE hf
    obtain ⟨j10, qj10, hf⟩ := hf
    have tj10 := x_rt hW qj10 8 ⟨by decide, rfl⟩
    refine x_getrN 710 (ci := 7) (C := RX8) (T := TX8) (N := 16) 10 hC hin8 hW tj9 rfl rfl ⟨by decide, by decide, rfl, rfl⟩ rfl w_1 dX10_digest_9 qj10 ?_
    refine lv_iload_n hx hb dX10_digest_12 rfl (lv_at hl 1 rfl) ?_
    replace hf := obE hf
    obtain ⟨z11, hz11, hf⟩ := hf
    obtain ⟨r13, S12⟩ := z11
    replace hf := ltE (ltE hf r13 rfl) S12 rfl
    refine x_callV (As := [.int p1]) (rest := []) (o := (some (va_re ad r13))) (S1 := S12) hC hl.1 hW hS hGs hA tj10 rfl (show vwCl[8]? = some (RX9, TX9, 8) ∧ 8 < 11 from ⟨rfl, by decide⟩) (c_X9_bytesOf l g ad n K H.size F S2 j10 p1 tj10 r13 S12 hz11) (cwV 1 hts gX10_digest_X9_bytesOf rfl rfl rfl (by decide +kernel) ⟨Nat.le_of_ble_eq_true rfl, Nat.le_of_ble_eq_true rfl⟩) rfl rfl (Nat.le_of_ble_eq_true rfl) dX10_digest_13 ⟨Nat.le_of_ble_eq_true rfl, Nat.le_of_ble_eq_true rfl⟩ (fun H locs hPz11 hW hS => ?_)
    replace hf := obE hf
    obtain ⟨j15, qj15, hf⟩ := hf
    have tj15 := hPz11 j15 qj15
    refine W.eq (g2 := F0 m 16 ls [.ref (ad j15)]) (by rw [qj15]; rfl) ?_
    replace hf := obE hf
    obtain ⟨z16, hz16, hf⟩ := hf
    obtain ⟨r18, S17⟩ := z16
    replace hf := ltE (ltE hf r18 rfl) S17 rfl
    refine x_callV (As := []) (rest := []) (o := (some (.long (r18)))) (S1 := S17) hC hl.1 hW hS hGs hA tj15 rfl (show vwCl[0]? = some (RX0, TX0, 2) ∧ 0 < 11 from ⟨rfl, by decide⟩) (c_X0_hash l g ad n K H.size F S12 j15 tj15 r18 S17 hz16) (cwV 0 hts gX10_digest_X0_hash rfl rfl rfl (by decide +kernel) ⟨Nat.le_of_ble_eq_true rfl, Nat.le_of_ble_eq_true rfl⟩) rfl rfl (Nat.le_of_ble_eq_true rfl) dX10_digest_16 ⟨Nat.le_of_ble_eq_true rfl, Nat.le_of_ble_eq_true rfl⟩ (fun H locs hPz16 hW hS => ?_)
    refine W.eq (g2 := F0 m 19 ls [.long (r18)]) rfl ?_
    obtain ⟨e1, e2⟩ := so2 hf
    subst e1
    subst e2
    exact vx_ret (W.lret (v := r18) hx hb hr (fun t ht hWm => ⟨⟨_, rfl, rfl, by unfold QB; rw [ht]; exact ⟨hW, trivial⟩⟩, hS.F ht⟩) hS.2.2 dX10_digest_19 hlk)
set_option maxHeartbeats 4000000 in
set_option maxRecDepth 100000 in
theorem c_X10_storedBytes (l : Launch) (g : GP) (ad : Nat → Nat) (n : Nat) (K : Nat → Nat) (sz F : Nat) (S0 : St) (p0 : Nat) (tp0 : p0 < n ∧ K p0 = 9) (r9 : Int32) (S9 : St) (hf : f_X10_storedBytes F S0 p0 = some (r9, S9)) : Met l yX10_storedBytes wsX10_storedBytes { frames := 4, cells := 0, slots := 0, locals := 86 } (va_Pc [.ref (ad p0)] (PB g ad n K S0 sz)) (QR (some (.int r9)) (QB g ad n K S9 (dA ad n sz) (True)) (dA ad n sz)) 0 0 (dA ad n sz) := by
  refine Met.ofW (cc := cX10_storedBytes) (maxL := 1) (ret := (some .int)) (by decide) rfl ?_
  intro p e s m args below meth c s₁ B hml hv
  obtain ⟨rfl, hsz, hW, hK, hGs⟩ := x_start hv
  subst hsz
  have hx := B.exec
  have hb := B.bytes
  have hr := B.returns
  have hts := atoms_spec (ws := wsX10_storedBytes) B.pre
  have hown : s.vm.findClass RX10 = some m.cls := findClass_of_methodNamed B.named
  have hlk := B.notSynchronized
  have hC : Cx g p s m _ c cX10_storedBytes RX10 wsX10_storedBytes 1 := ⟨hx, hb, hml, hown, hts, hK⟩
  have hA : ∀ q : Nat, s.heap.size ≤ q → dA ad n s.heap.size q := fun q h => Or.inr h
  have hS : va_S (dA ad n s.heap.size) s.heap s.heap [] := va_S.rf
  have hl := lv_entry ([.ref (ad p0)]) (n := 1) (Nat.le_of_ble_eq_true rfl)
  rw [lg_entry_eq]
  generalize (lg_sl ([.ref (ad p0)]) ++ List.replicate (1 - (lg_sl ([.ref (ad p0)])).length) Slot.unset).toArray = ls at hl ⊢
  have hl : lv_has ls 1 [(0, .ref (ad p0))] := hl
  have hin8 : ∀ w ∈ wsX80, w ∈ wsX10_storedBytes := by decide +kernel
  have hin10 : ∀ w ∈ wsX100, w ∈ wsX10_storedBytes := by decide +kernel
  have w_0 := hts (.fieldLink RX10 42 "MailSpool" "now" "LMailSpool$Spool;") (by decide +kernel)
  have w_1 := va_Nw.use (A := (List.toArray [.ref (ad p0)])) rfl (hGs.1 (.fieldLinkNest RX10 186 "MailSpool$Spool" "store" "LMailSpool$Store;" "MailSpool") (by decide +kernel))
  have hGE := hGs.2.2.2.2.2.2.1
  have hGM := hGs.2.2.2.2.2.2.2.1
  unfold f_X10_storedBytes at hf
  refine lv_aload_n hx hb dX10_storedBytes_0 rfl (lv_at hl 0 rfl) ?_
  replace hf := obE hf
  obtain ⟨j1, qj1, hf⟩ := hf
  have tj1 := x_rt hW qj1 7 ⟨by decide, rfl⟩
  refine x_getr 905 (ci := 9) (C := RX10) (T := TX10) (N := 11) 5 hC hin10 hW tp0 rfl rfl ⟨by decide, by decide, rfl, rfl⟩ rfl w_0 dX10_storedBytes_1 qj1 ?_
  replace hf := obE hf
  obtain ⟨j2, qj2, hf⟩ := hf
  have tj2 := x_rt hW qj2 8 ⟨by decide, rfl⟩
  refine x_getrN 710 (ci := 7) (C := RX8) (T := TX8) (N := 16) 10 hC hin8 hW tj1 rfl rfl ⟨by decide, by decide, rfl, rfl⟩ rfl w_1 dX10_storedBytes_4 qj2 ?_
  refine lv_iconst (v := 0) hx hb dX10_storedBytes_7 (by decide) ?_
  replace hf := obE hf
  obtain ⟨z3, hz3, hf⟩ := hf
  obtain ⟨r5, S4⟩ := z3
  replace hf := ltE (ltE hf r5 rfl) S4 rfl
  refine x_callV (As := [.int 0]) (rest := []) (o := (some (.int r5))) (S1 := S4) hC hl.1 hW hS hGs hA tj2 rfl (show vwCl[8]? = some (RX9, TX9, 8) ∧ 8 < 11 from ⟨rfl, by decide⟩) (c_X9_byteSum l g ad n K s.heap.size F S0 j2 ((0 : Int32)) tj2 r5 S4 hz3) (cwV 1 hts gX10_storedBytes_X9_byteSum rfl rfl rfl (by decide +kernel) ⟨Nat.le_of_ble_eq_true rfl, Nat.le_of_ble_eq_true rfl⟩) rfl rfl (Nat.le_of_ble_eq_true rfl) dX10_storedBytes_8 ⟨Nat.le_of_ble_eq_true rfl, Nat.le_of_ble_eq_true rfl⟩ (fun H locs hPz3 hW hS => ?_)
  refine W.eq (g2 := F0 m 11 ls [.int r5]) rfl ?_
  obtain ⟨e1, e2⟩ := so2 hf
  subst e1
  subst e2
  exact W.iret (v := r5) hx hb hr (fun t ht hWm => ⟨⟨rfl, by unfold QB; rw [ht]; exact ⟨hW, trivial⟩⟩, hS.F ht⟩) hS.2.2 dX10_storedBytes_11 hlk
set_option maxHeartbeats 4000000 in
set_option maxRecDepth 100000 in
theorem c_X10_deadBytes (l : Launch) (g : GP) (ad : Nat → Nat) (n : Nat) (K : Nat → Nat) (sz F : Nat) (S0 : St) (p0 : Nat) (tp0 : p0 < n ∧ K p0 = 9) (r9 : Int32) (S9 : St) (hf : f_X10_deadBytes F S0 p0 = some (r9, S9)) : Met l yX10_deadBytes wsX10_deadBytes { frames := 4, cells := 0, slots := 0, locals := 86 } (va_Pc [.ref (ad p0)] (PB g ad n K S0 sz)) (QR (some (.int r9)) (QB g ad n K S9 (dA ad n sz) (True)) (dA ad n sz)) 0 0 (dA ad n sz) := by
  refine Met.ofW (cc := cX10_deadBytes) (maxL := 1) (ret := (some .int)) (by decide) rfl ?_
  intro p e s m args below meth c s₁ B hml hv
  obtain ⟨rfl, hsz, hW, hK, hGs⟩ := x_start hv
  subst hsz
  have hx := B.exec
  have hb := B.bytes
  have hr := B.returns
  have hts := atoms_spec (ws := wsX10_deadBytes) B.pre
  have hown : s.vm.findClass RX10 = some m.cls := findClass_of_methodNamed B.named
  have hlk := B.notSynchronized
  have hC : Cx g p s m _ c cX10_deadBytes RX10 wsX10_deadBytes 1 := ⟨hx, hb, hml, hown, hts, hK⟩
  have hA : ∀ q : Nat, s.heap.size ≤ q → dA ad n s.heap.size q := fun q h => Or.inr h
  have hS : va_S (dA ad n s.heap.size) s.heap s.heap [] := va_S.rf
  have hl := lv_entry ([.ref (ad p0)]) (n := 1) (Nat.le_of_ble_eq_true rfl)
  rw [lg_entry_eq]
  generalize (lg_sl ([.ref (ad p0)]) ++ List.replicate (1 - (lg_sl ([.ref (ad p0)])).length) Slot.unset).toArray = ls at hl ⊢
  have hl : lv_has ls 1 [(0, .ref (ad p0))] := hl
  have hin8 : ∀ w ∈ wsX80, w ∈ wsX10_deadBytes := by decide +kernel
  have hin10 : ∀ w ∈ wsX100, w ∈ wsX10_deadBytes := by decide +kernel
  have w_0 := hts (.fieldLink RX10 42 "MailSpool" "now" "LMailSpool$Spool;") (by decide +kernel)
  have w_1 := va_Nw.use (A := (List.toArray [.ref (ad p0)])) rfl (hGs.1 (.fieldLinkNest RX10 186 "MailSpool$Spool" "store" "LMailSpool$Store;" "MailSpool") (by decide +kernel))
  have hGE := hGs.2.2.2.2.2.2.1
  have hGM := hGs.2.2.2.2.2.2.2.1
  unfold f_X10_deadBytes at hf
  refine lv_aload_n hx hb dX10_deadBytes_0 rfl (lv_at hl 0 rfl) ?_
  replace hf := obE hf
  obtain ⟨j1, qj1, hf⟩ := hf
  have tj1 := x_rt hW qj1 7 ⟨by decide, rfl⟩
  refine x_getr 905 (ci := 9) (C := RX10) (T := TX10) (N := 11) 5 hC hin10 hW tp0 rfl rfl ⟨by decide, by decide, rfl, rfl⟩ rfl w_0 dX10_deadBytes_1 qj1 ?_
  replace hf := obE hf
  obtain ⟨j2, qj2, hf⟩ := hf
  have tj2 := x_rt hW qj2 8 ⟨by decide, rfl⟩
  refine x_getrN 710 (ci := 7) (C := RX8) (T := TX8) (N := 16) 10 hC hin8 hW tj1 rfl rfl ⟨by decide, by decide, rfl, rfl⟩ rfl w_1 dX10_deadBytes_4 qj2 ?_
  refine lv_iconst (v := 1) hx hb dX10_deadBytes_7 (by decide) ?_
  replace hf := obE hf
  obtain ⟨z3, hz3, hf⟩ := hf
  obtain ⟨r5, S4⟩ := z3
  replace hf := ltE (ltE hf r5 rfl) S4 rfl
  refine x_callV (As := [.int 1]) (rest := []) (o := (some (.int r5))) (S1 := S4) hC hl.1 hW hS hGs hA tj2 rfl (show vwCl[8]? = some (RX9, TX9, 8) ∧ 8 < 11 from ⟨rfl, by decide⟩) (c_X9_byteSum l g ad n K s.heap.size F S0 j2 ((1 : Int32)) tj2 r5 S4 hz3) (cwV 1 hts gX10_deadBytes_X9_byteSum rfl rfl rfl (by decide +kernel) ⟨Nat.le_of_ble_eq_true rfl, Nat.le_of_ble_eq_true rfl⟩) rfl rfl (Nat.le_of_ble_eq_true rfl) dX10_deadBytes_8 ⟨Nat.le_of_ble_eq_true rfl, Nat.le_of_ble_eq_true rfl⟩ (fun H locs hPz3 hW hS => ?_)
  refine W.eq (g2 := F0 m 11 ls [.int r5]) rfl ?_
  obtain ⟨e1, e2⟩ := so2 hf
  subst e1
  subst e2
  exact W.iret (v := r5) hx hb hr (fun t ht hWm => ⟨⟨rfl, by unfold QB; rw [ht]; exact ⟨hW, trivial⟩⟩, hS.F ht⟩) hS.2.2 dX10_deadBytes_11 hlk
set_option maxHeartbeats 4000000 in
set_option maxRecDepth 100000 in
theorem c_X10_logicalBytes (l : Launch) (g : GP) (ad : Nat → Nat) (n : Nat) (K : Nat → Nat) (sz F : Nat) (S0 : St) (p0 : Nat) (tp0 : p0 < n ∧ K p0 = 9) (r9 : Int32) (S9 : St) (hf : f_X10_logicalBytes F S0 p0 = some (r9, S9)) : Met l yX10_logicalBytes wsX10_logicalBytes { frames := 3, cells := 0, slots := 0, locals := 66 } (va_Pc [.ref (ad p0)] (PB g ad n K S0 sz)) (QR (some (.int r9)) (QB g ad n K S9 (dA ad n sz) (True)) (dA ad n sz)) 0 0 (dA ad n sz) := by
  refine Met.ofW (cc := cX10_logicalBytes) (maxL := 3) (ret := (some .int)) (by decide) rfl ?_
  intro p e s m args below meth c s₁ B hml hv
  obtain ⟨rfl, hsz, hW, hK, hGs⟩ := x_start hv
  subst hsz
  have hx := B.exec
  have hb := B.bytes
  have hr := B.returns
  have hts := atoms_spec (ws := wsX10_logicalBytes) B.pre
  have hown : s.vm.findClass RX10 = some m.cls := findClass_of_methodNamed B.named
  have hlk := B.notSynchronized
  have hC : Cx g p s m _ c cX10_logicalBytes RX10 wsX10_logicalBytes 3 := ⟨hx, hb, hml, hown, hts, hK⟩
  have hA : ∀ q : Nat, s.heap.size ≤ q → dA ad n s.heap.size q := fun q h => Or.inr h
  have hS : va_S (dA ad n s.heap.size) s.heap s.heap [] := va_S.rf
  have hl := lv_entry ([.ref (ad p0)]) (n := 3) (Nat.le_of_ble_eq_true rfl)
  rw [lg_entry_eq]
  generalize (lg_sl ([.ref (ad p0)]) ++ List.replicate (3 - (lg_sl ([.ref (ad p0)])).length) Slot.unset).toArray = ls at hl ⊢
  have hl : lv_has ls 3 [(0, .ref (ad p0))] := hl
  have hin5 : ∀ w ∈ wsX50, w ∈ wsX10_logicalBytes := by decide +kernel
  have hin7 : ∀ w ∈ wsX70, w ∈ wsX10_logicalBytes := by decide +kernel
  have hin8 : ∀ w ∈ wsX80, w ∈ wsX10_logicalBytes := by decide +kernel
  have hin10 : ∀ w ∈ wsX100, w ∈ wsX10_logicalBytes := by decide +kernel
  have w_0 := hts (.fieldLink RX10 42 "MailSpool" "now" "LMailSpool$Spool;") (by decide +kernel)
  have w_1 := va_Nw.use (A := (List.toArray [.ref (ad p0)])) rfl (hGs.1 (.fieldLinkNest RX10 104 "MailSpool$Spool" "rules" "LMailSpool$Rules;" "MailSpool") (by decide +kernel))
  have w_2 := va_Nw.use (A := (List.toArray [.ref (ad p0)])) rfl (hGs.1 (.fieldLinkNest RX10 105 "MailSpool$Rules" "users" "LMailSpool$Names;" "MailSpool") (by decide +kernel))
  have w_3 := va_Nw.use (A := (List.toArray [.ref (ad p0)])) rfl (hGs.1 (.fieldLinkNest RX10 109 "MailSpool$Names" "size" "I" "MailSpool") (by decide +kernel))
  have hGE := hGs.2.2.2.2.2.2.1
  have hGM := hGs.2.2.2.2.2.2.2.1
  have L4 : ∀ (fu4 : Nat) (S0 : St) (v0 : Nat) (v1 : Int32) (v2 : Int32) (tv0 : v0 < n ∧ K v0 = 9) (H : Heap) (locs : List Loc) (ls : Array Slot), f_X10_logicalBytes_L4 F fu4 S0 v0 v1 v2 = some (r9, S9) → Wb g ad n K S0 (dA ad n s.heap.size) H → va_S (dA ad n s.heap.size) s.heap H locs → lv_has ls 3 [(0, .ref (ad v0)), (1, .int v1), (2, .int v2)] → W p l e (headSpec wsX10_logicalBytes { frames := 3, cells := 0, slots := 0, locals := 66 }).room s m (List.toArray [.ref (ad p0)]) below meth c H locs 0 0 (MQ below (QR (some (.int r9)) (QB g ad n K S9 (dA ad n s.heap.size) (True)) (dA ad n s.heap.size)) (List.toArray [.ref (ad p0)]) s 0 0 (dA ad n s.heap.size)) (F0 m 4 ls []) := by
    intro fu4
    induction fu4 with
    | zero =>
      intro S0 v0 v1 v2 tv0 H locs ls hf
      cases hf
    | succ fu4 ih4 =>
      intro S0 v0 v1 v2 tv0 H locs ls hf hW hS hl
      unfold f_X10_logicalBytes_L4 at hf
      refine lv_iload_n hx hb dX10_logicalBytes_4 rfl (lv_at hl 2 rfl) ?_
      refine lv_aload_n hx hb dX10_logicalBytes_5 rfl (lv_at hl 0 rfl) ?_
      replace hf := obE hf
      obtain ⟨j12, qj12, hf⟩ := hf
      have tj12 := x_rt hW qj12 7 ⟨by decide, rfl⟩
      refine x_getr 905 (ci := 9) (C := RX10) (T := TX10) (N := 11) 5 hC hin10 hW tv0 rfl rfl ⟨by decide, by decide, rfl, rfl⟩ rfl w_0 dX10_logicalBytes_6 qj12 ?_
      replace hf := obE hf
      obtain ⟨j13, qj13, hf⟩ := hf
      have tj13 := x_rt hW qj13 6 ⟨by decide, rfl⟩
      refine x_getrN 700 (ci := 7) (C := RX8) (T := TX8) (N := 16) 0 hC hin8 hW tj12 rfl rfl ⟨by decide, by decide, rfl, rfl⟩ rfl w_1 dX10_logicalBytes_9 qj13 ?_
      replace hf := obE hf
      obtain ⟨j14, qj14, hf⟩ := hf
      have tj14 := x_rt hW qj14 4 ⟨by decide, rfl⟩
      refine x_getrN 606 (ci := 6) (C := RX7) (T := TX7) (N := 16) 6 hC hin7 hW tj13 rfl rfl ⟨by decide, by decide, rfl, rfl⟩ rfl w_2 dX10_logicalBytes_12 qj14 ?_
      refine x_getiN 401 (ci := 4) (C := RX5) (T := TX5) (N := 2) 1 hC hin5 hW tj14 rfl rfl ⟨by decide, by decide, rfl, rfl⟩ rfl w_3 dX10_logicalBytes_15 ?_
      refine lv_icmp_ge (tgt := 38) hx hb dX10_logicalBytes_18 (by decide) (fun c15 => ?_) (fun c15 => ?_)
      · replace hf := ifT c15 hf
        refine lv_iload_n hx hb dX10_logicalBytes_38 rfl (lv_at hl 1 rfl) ?_
        obtain ⟨e1, e2⟩ := so2 hf
        subst e1
        subst e2
        exact W.iret (v := v1) hx hb hr (fun t ht hWm => ⟨⟨rfl, by unfold QB; rw [ht]; exact ⟨hW, trivial⟩⟩, hS.F ht⟩) hS.2.2 dX10_logicalBytes_39 hlk
      · replace hf := ifF c15 hf
        refine lv_iload_n hx hb dX10_logicalBytes_21 rfl (lv_at hl 1 rfl) ?_
        refine lv_aload_n hx hb dX10_logicalBytes_22 rfl (lv_at hl 0 rfl) ?_
        replace hf := obE hf
        obtain ⟨j16, qj16, hf⟩ := hf
        have tj16 := x_rt hW qj16 7 ⟨by decide, rfl⟩
        refine x_getr 905 (ci := 9) (C := RX10) (T := TX10) (N := 11) 5 hC hin10 hW tv0 rfl rfl ⟨by decide, by decide, rfl, rfl⟩ rfl w_0 dX10_logicalBytes_23 qj16 ?_
        refine lv_iload_n hx hb dX10_logicalBytes_26 rfl (lv_at hl 2 rfl) ?_
        replace hf := obE hf
        obtain ⟨z17, hz17, hf⟩ := hf
        obtain ⟨r19, S18⟩ := z17
        replace hf := ltE (ltE hf r19 rfl) S18 rfl
        refine x_callV (As := [.int v2]) (rest := [.int v1]) (o := (some (.int r19))) (S1 := S18) hC hl.1 hW hS hGs hA tj16 rfl (show vwCl[7]? = some (RX8, TX8, 16) ∧ 7 < 11 from ⟨rfl, by decide⟩) (c_X8_usageOf l g ad n K H.size F S0 j16 v2 tj16 r19 S18 hz17) (cwV 1 hts gX10_logicalBytes_X8_usageOf rfl rfl rfl (by decide +kernel) ⟨Nat.le_of_ble_eq_true rfl, Nat.le_of_ble_eq_true rfl⟩) rfl rfl (Nat.le_of_ble_eq_true rfl) dX10_logicalBytes_27 ⟨Nat.le_of_ble_eq_true rfl, Nat.le_of_ble_eq_true rfl⟩ (fun H locs hPz17 hW hS => ?_)
        refine W.eq (g2 := F0 m 30 ls [.int r19, .int v1]) rfl ?_
        refine lv_iadd hx hb dX10_logicalBytes_30 ?_
        refine lv_topi (fun x21 ex21 => ?_)
        replace hf := ltE hf x21 ex21
        refine lv_istore_n (lv' := [(1, .int x21), (0, .ref (ad v0)), (2, .int v2)]) hx hb dX10_logicalBytes_31 rfl hl (by decide) rfl (fun ls hl => ?_)
        obtain ⟨x22, ex22⟩ : ∃ z : Int32, z = v2 + 1 := ⟨_, rfl⟩
        replace hf := ltE hf x22 ex22
        refine lv_iinc (v := x22) (lv' := [(2, .int x22), (1, .int x21), (0, .ref (ad v0))]) hx hb dX10_logicalBytes_32 hl (k := 2) rfl (by rw [ex22]; rfl) (by decide) rfl (fun ls hl => ?_)
        refine lv_goto (tgt := 4) hx hb dX10_logicalBytes_35 (by decide) ?_
        exact ih4 S18 v0 x21 x22 tv0 _ _ _ hf hW hS (lv_sub hl [2, 1, 0] rfl)
  unfold f_X10_logicalBytes at hf
  refine lv_iconst (v := 0) hx hb dX10_logicalBytes_0 (by decide) ?_
  refine lv_istore_n (lv' := [(1, .int 0), (0, .ref (ad p0))]) hx hb dX10_logicalBytes_1 rfl hl (by decide) rfl (fun ls hl => ?_)
  refine lv_iconst (v := 0) hx hb dX10_logicalBytes_2 (by decide) ?_
  refine lv_istore_n (lv' := [(2, .int 0), (1, .int 0), (0, .ref (ad p0))]) hx hb dX10_logicalBytes_3 rfl hl (by decide) rfl (fun ls hl => ?_)
  exact L4 F S0 p0 0 0 tp0 _ _ _ hf hW hS (lv_sub hl [2, 1, 0] rfl)
set_option maxHeartbeats 4000000 in
set_option maxRecDepth 100000 in
theorem c_X9_mostKept (l : Launch) (g : GP) (ad : Nat → Nat) (n : Nat) (K : Nat → Nat) (sz F : Nat) (S0 : St) (p0 : Nat) (tp0 : p0 < n ∧ K p0 = 8) (r9 : Int32) (S9 : St) (hf : f_X9_mostKept F S0 p0 = some (r9, S9)) : Met l yX9_mostKept wsX9_mostKept { frames := 2, cells := 0, slots := 0, locals := 42 } (va_Pc [.ref (ad p0)] (PB g ad n K S0 sz)) (QR (some (.int r9)) (QB g ad n K S9 (dA ad n sz) (True)) (dA ad n sz)) 0 0 (dA ad n sz) := by
  refine Met.ofW (cc := cX9_mostKept) (maxL := 3) (ret := (some .int)) (by decide) rfl ?_
  intro p e s m args below meth c s₁ B hml hv
  obtain ⟨rfl, hsz, hW, hK, hGs⟩ := x_start hv
  subst hsz
  have hx := B.exec
  have hb := B.bytes
  have hr := B.returns
  have hts := atoms_spec (ws := wsX9_mostKept) B.pre
  have hown : s.vm.findClass RX9 = some m.cls := findClass_of_methodNamed B.named
  have hlk := B.notSynchronized
  have hC : Cx g p s m _ c cX9_mostKept RX9 wsX9_mostKept 3 := ⟨hx, hb, hml, hown, hts, hK⟩
  have hA : ∀ q : Nat, s.heap.size ≤ q → dA ad n s.heap.size q := fun q h => Or.inr h
  have hS : va_S (dA ad n s.heap.size) s.heap s.heap [] := va_S.rf
  have hl := lv_entry ([.ref (ad p0)]) (n := 3) (Nat.le_of_ble_eq_true rfl)
  rw [lg_entry_eq]
  generalize (lg_sl ([.ref (ad p0)]) ++ List.replicate (3 - (lg_sl ([.ref (ad p0)])).length) Slot.unset).toArray = ls at hl ⊢
  have hl : lv_has ls 3 [(0, .ref (ad p0))] := hl
  have hin9 : ∀ w ∈ wsX90, w ∈ wsX9_mostKept := by decide +kernel
  have w_0 := hts (.fieldLink RX9 34 "MailSpool$Store" "numbers" "I") (by decide +kernel)
  have w_1 := hts (.fieldLink RX9 21 "MailSpool$Store" "keepers" "[I") (by decide +kernel)
  have w_2 := va_Nw.use (A := (List.toArray [.ref (ad p0)])) rfl (hGs.1 (.methodLinkNest RX9 48 yX10_at "MailSpool") (by decide +kernel))
  have w_3 := hts (.initialized RX10) (by decide +kernel)
  have w_4 := hts (.static yX10_at) (by decide +kernel)
  have hGE := hGs.2.2.2.2.2.2.1
  have hGM := hGs.2.2.2.2.2.2.2.1
  have L4 : ∀ (fu4 : Nat) (S0 : St) (v0 : Nat) (v1 : Int32) (v2 : Int32) (tv0 : v0 < n ∧ K v0 = 8) (H : Heap) (locs : List Loc) (ls : Array Slot), f_X9_mostKept_L4 F fu4 S0 v0 v1 v2 = some (r9, S9) → Wb g ad n K S0 (dA ad n s.heap.size) H → va_S (dA ad n s.heap.size) s.heap H locs → lv_has ls 3 [(0, .ref (ad v0)), (1, .int v1), (2, .int v2)] → W p l e (headSpec wsX9_mostKept { frames := 2, cells := 0, slots := 0, locals := 42 }).room s m (List.toArray [.ref (ad p0)]) below meth c H locs 0 0 (MQ below (QR (some (.int r9)) (QB g ad n K S9 (dA ad n s.heap.size) (True)) (dA ad n s.heap.size)) (List.toArray [.ref (ad p0)]) s 0 0 (dA ad n s.heap.size)) (F0 m 4 ls []) := by
    intro fu4
    induction fu4 with
    | zero =>
      intro S0 v0 v1 v2 tv0 H locs ls hf
      cases hf
    | succ fu4 ih4 =>
      have L50 : ∀ (S0 : St) (v0 : Nat) (v1 : Int32) (v2 : Int32) (tv0 : v0 < n ∧ K v0 = 8) (H : Heap) (locs : List Loc) (ls : Array Slot), f_X9_mostKept_L50 F (fun a0 a1 a2 a3 => f_X9_mostKept_L4 F fu4 a0 a1 a2 a3) S0 v0 v1 v2 = some (r9, S9) → Wb g ad n K S0 (dA ad n s.heap.size) H → va_S (dA ad n s.heap.size) s.heap H locs → lv_has ls 3 [(0, .ref (ad v0)), (1, .int v1), (2, .int v2)] → W p l e (headSpec wsX9_mostKept { frames := 2, cells := 0, slots := 0, locals := 42 }).room s m (List.toArray [.ref (ad p0)]) below meth c H locs 0 0 (MQ below (QR (some (.int r9)) (QB g ad n K S9 (dA ad n s.heap.size) (True)) (dA ad n s.heap.size)) (List.toArray [.ref (ad p0)]) s 0 0 (dA ad n s.heap.size)) (F0 m 50 ls []) := by
        intro S0 v0 v1 v2 tv0 H locs ls hf hW hS hl
        unfold f_X9_mostKept_L50 at hf
        obtain ⟨x2, ex2⟩ : ∃ z : Int32, z = v2 + 1 := ⟨_, rfl⟩
        replace hf := ltE hf x2 ex2
        refine lv_iinc (v := x2) (lv' := [(2, .int x2), (0, .ref (ad v0)), (1, .int v1)]) hx hb dX9_mostKept_50 hl (k := 2) rfl (by rw [ex2]; rfl) (by decide) rfl (fun ls hl => ?_)
        refine lv_goto (tgt := 4) hx hb dX9_mostKept_53 (by decide) ?_
        exact ih4 S0 v0 v1 x2 tv0 _ _ _ hf hW hS (lv_sub hl [1, 2, 0] rfl)
      have L45 : ∀ (S0 : St) (v0 : Nat) (v1 : Int32) (v2 : Int32) (s0 : Int32) (s1 : Int32) (tv0 : v0 < n ∧ K v0 = 8) (H : Heap) (locs : List Loc) (ls : Array Slot), f_X9_mostKept_L45 F (fun a0 a1 a2 a3 => f_X9_mostKept_L4 F fu4 a0 a1 a2 a3) S0 v0 v1 v2 s0 s1 = some (r9, S9) → Wb g ad n K S0 (dA ad n s.heap.size) H → va_S (dA ad n s.heap.size) s.heap H locs → lv_has ls 3 [(0, .ref (ad v0)), (1, .int v1), (2, .int v2)] → W p l e (headSpec wsX9_mostKept { frames := 2, cells := 0, slots := 0, locals := 42 }).room s m (List.toArray [.ref (ad p0)]) below meth c H locs 0 0 (MQ below (QR (some (.int r9)) (QB g ad n K S9 (dA ad n s.heap.size) (True)) (dA ad n s.heap.size)) (List.toArray [.ref (ad p0)]) s 0 0 (dA ad n s.heap.size)) (F0 m 45 ls [.int s0, .int s1]) := by
        intro S0 v0 v1 v2 s0 s1 tv0 H locs ls hf hW hS hl
        unfold f_X9_mostKept_L45 at hf
        refine lv_icmp_le (tgt := 50) hx hb dX9_mostKept_45 (by decide) (fun c4 => ?_) (fun c4 => ?_)
        · replace hf := ifT c4 hf
          exact L50 S0 v0 v1 v2 tv0 _ _ _ hf hW hS (lv_sub hl [0, 1, 2] rfl)
        · replace hf := ifF c4 hf
          refine lv_iload_n hx hb dX9_mostKept_48 rfl (lv_at hl 2 rfl) ?_
          refine lv_istore_n (lv' := [(1, .int v2), (0, .ref (ad v0)), (2, .int v2)]) hx hb dX9_mostKept_49 rfl hl (by decide) rfl (fun ls hl => ?_)
          exact L50 S0 v0 v2 v2 tv0 _ _ _ hf hW hS (lv_sub hl [1, 0, 2] rfl)
      intro S0 v0 v1 v2 tv0 H locs ls hf hW hS hl
      unfold f_X9_mostKept_L4 at hf
      refine lv_iload_n hx hb dX9_mostKept_4 rfl (lv_at hl 2 rfl) ?_
      refine lv_aload_n hx hb dX9_mostKept_5 rfl (lv_at hl 0 rfl) ?_
      refine x_geti 800 (ci := 8) (C := RX9) (T := TX9) (N := 8) 0 hC hin9 hW tv0 rfl rfl ⟨by decide, by decide, rfl, rfl⟩ rfl w_0 dX9_mostKept_6 ?_
      refine lv_icmp_ge (tgt := 56) hx hb dX9_mostKept_9 (by decide) (fun c22 => ?_) (fun c22 => ?_)
      · replace hf := ifT c22 hf
        refine lv_iload_n hx hb dX9_mostKept_56 rfl (lv_at hl 1 rfl) ?_
        obtain ⟨e1, e2⟩ := so2 hf
        subst e1
        subst e2
        exact W.iret (v := v1) hx hb hr (fun t ht hWm => ⟨⟨rfl, by unfold QB; rw [ht]; exact ⟨hW, trivial⟩⟩, hS.F ht⟩) hS.2.2 dX9_mostKept_57 hlk
      · replace hf := ifF c22 hf
        refine lv_aload_n hx hb dX9_mostKept_12 rfl (lv_at hl 0 rfl) ?_
        refine lv_iload_n hx hb dX9_mostKept_13 rfl (lv_at hl 2 rfl) ?_
        replace hf := obE hf
        obtain ⟨z23, hz23, hf⟩ := hf
        obtain ⟨r25, S24⟩ := z23
        replace hf := ltE (ltE hf r25 rfl) S24 rfl
        refine x_callV (As := [.int v2]) (rest := []) (o := (some (.int r25))) (S1 := S24) hC hl.1 hW hS hGs hA tv0 rfl (show vwCl[8]? = some (RX9, TX9, 8) ∧ 8 < 11 from ⟨rfl, by decide⟩) (c_X9_isStored l g ad n K H.size F S0 v0 v2 tv0 r25 S24 hz23) (cwV 1 hts gX9_mostKept_X9_isStored rfl rfl rfl (by decide +kernel) ⟨Nat.le_of_ble_eq_true rfl, Nat.le_of_ble_eq_true rfl⟩) rfl rfl (Nat.le_of_ble_eq_true rfl) dX9_mostKept_14 ⟨Nat.le_of_ble_eq_true rfl, Nat.le_of_ble_eq_true rfl⟩ (fun H locs hPz23 hW hS => ?_)
        refine W.eq (g2 := F0 m 17 ls [.int r25]) rfl ?_
        refine lv_if_eq (tgt := 50) hx hb dX9_mostKept_17 (by decide) (fun c27 => ?_) (fun c27 => ?_)
        · replace hf := ifT c27 hf
          exact L50 S24 v0 v1 v2 tv0 _ _ _ hf hW hS (lv_sub hl [0, 1, 2] rfl)
        · replace hf := ifF c27 hf
          refine lv_aload_n hx hb dX9_mostKept_20 rfl (lv_at hl 0 rfl) ?_
          replace hf := obE hf
          obtain ⟨j28, qj28, hf⟩ := hf
          have tj28 := x_rt hW qj28 12 ⟨by decide, rfl⟩
          refine x_getr 805 (ci := 8) (C := RX9) (T := TX9) (N := 8) 5 hC hin9 hW tv0 rfl rfl ⟨by decide, by decide, rfl, rfl⟩ rfl w_1 dX9_mostKept_21 qj28 ?_
          refine lv_iload_n hx hb dX9_mostKept_24 rfl (lv_at hl 2 rfl) ?_
          replace hf := obE hf
          obtain ⟨z29, hz29, hf⟩ := hf
          obtain ⟨r31, S30⟩ := z29
          replace hf := ltE (ltE hf r31 rfl) S30 rfl
          refine x_callSN (As := [.ref (ad j28), .int v2]) (rest := []) (o := (some (.int r31))) (S1 := S30) hC hl.1 hW hS hGs hA (c_X10_at l g ad n K H.size F S24 j28 v2 tj28 r31 S30 hz29) ⟨va_cnB 2 hts gX9_mostKept_X10_at_n48 rfl rfl rfl (va_Nw.of rfl w_2) w_3 (by decide +kernel) ⟨Nat.le_of_ble_eq_true rfl, Nat.le_of_ble_eq_true rfl⟩, w_4, trivial⟩ rfl rfl (Nat.le_of_ble_eq_true rfl) dX9_mostKept_25 ⟨Nat.le_of_ble_eq_true rfl, Nat.le_of_ble_eq_true rfl⟩ (fun H locs hPz29 hW hS => ?_)
          refine W.eq (g2 := F0 m 28 ls [.int r31]) rfl ?_
          refine lv_iload_n hx hb dX9_mostKept_28 rfl (lv_at hl 1 rfl) ?_
          refine lv_iconst (v := -1) hx hb dX9_mostKept_29 (by decide) ?_
          refine lv_icmp_ne (tgt := 37) hx hb dX9_mostKept_30 (by decide) (fun c33 => ?_) (fun c33 => ?_)
          · replace hf := ifT c33 hf
            refine lv_aload_n hx hb dX9_mostKept_37 rfl (lv_at hl 0 rfl) ?_
            replace hf := obE hf
            obtain ⟨j34, qj34, hf⟩ := hf
            have tj34 := x_rt hW qj34 12 ⟨by decide, rfl⟩
            refine x_getr 805 (ci := 8) (C := RX9) (T := TX9) (N := 8) 5 hC hin9 hW tv0 rfl rfl ⟨by decide, by decide, rfl, rfl⟩ rfl w_1 dX9_mostKept_38 qj34 ?_
            refine lv_iload_n hx hb dX9_mostKept_41 rfl (lv_at hl 1 rfl) ?_
            replace hf := obE hf
            obtain ⟨z35, hz35, hf⟩ := hf
            obtain ⟨r37, S36⟩ := z35
            replace hf := ltE (ltE hf r37 rfl) S36 rfl
            refine x_callSN (As := [.ref (ad j34), .int v1]) (rest := [.int r31]) (o := (some (.int r37))) (S1 := S36) hC hl.1 hW hS hGs hA (c_X10_at l g ad n K H.size F S30 j34 v1 tj34 r37 S36 hz35) ⟨va_cnB 2 hts gX9_mostKept_X10_at_n48 rfl rfl rfl (va_Nw.of rfl w_2) w_3 (by decide +kernel) ⟨Nat.le_of_ble_eq_true rfl, Nat.le_of_ble_eq_true rfl⟩, w_4, trivial⟩ rfl rfl (Nat.le_of_ble_eq_true rfl) dX9_mostKept_42 ⟨Nat.le_of_ble_eq_true rfl, Nat.le_of_ble_eq_true rfl⟩ (fun H locs hPz35 hW hS => ?_)
            refine W.eq (g2 := F0 m 45 ls [.int r37, .int r31]) rfl ?_
            exact L45 S36 v0 v1 v2 r37 r31 tv0 _ _ _ hf hW hS (lv_sub hl [0, 1, 2] rfl)
          · replace hf := ifF (fun q => q c33) hf
            refine lv_iconst (v := 0) hx hb dX9_mostKept_33 (by decide) ?_
            refine lv_goto (tgt := 45) hx hb dX9_mostKept_34 (by decide) ?_
            exact L45 S30 v0 v1 v2 0 r31 tv0 _ _ _ hf hW hS (lv_sub hl [0, 1, 2] rfl)
  unfold f_X9_mostKept at hf
  refine lv_iconst (v := -1) hx hb dX9_mostKept_0 (by decide) ?_
  refine lv_topi (fun x39 ex39 => ?_)
  replace hf := ltE hf x39 ex39
  refine lv_istore_n (lv' := [(1, .int x39), (0, .ref (ad p0))]) hx hb dX9_mostKept_1 rfl hl (by decide) rfl (fun ls hl => ?_)
  refine lv_iconst (v := 0) hx hb dX9_mostKept_2 (by decide) ?_
  refine lv_istore_n (lv' := [(2, .int 0), (1, .int x39), (0, .ref (ad p0))]) hx hb dX9_mostKept_3 rfl hl (by decide) rfl (fun ls hl => ?_)
  exact L4 F S0 p0 x39 0 tp0 _ _ _ hf hW hS (lv_sub hl [2, 1, 0] rfl)
set_option maxHeartbeats 4000000 in
set_option maxRecDepth 100000 in
theorem c_X10_mostShared (l : Launch) (g : GP) (ad : Nat → Nat) (n : Nat) (K : Nat → Nat) (sz F : Nat) (S0 : St) (p0 : Nat) (tp0 : p0 < n ∧ K p0 = 9) (r9 : Int32) (S9 : St) (hf : f_X10_mostShared F S0 p0 = some (r9, S9)) : Met l yX10_mostShared wsX10_mostShared { frames := 3, cells := 0, slots := 0, locals := 64 } (va_Pc [.ref (ad p0)] (PB g ad n K S0 sz)) (QR (some (.int r9)) (QB g ad n K S9 (dA ad n sz) (True)) (dA ad n sz)) 0 0 (dA ad n sz) := by
  refine Met.ofW (cc := cX10_mostShared) (maxL := 1) (ret := (some .int)) (by decide) rfl ?_
  intro p e s m args below meth c s₁ B hml hv
  obtain ⟨rfl, hsz, hW, hK, hGs⟩ := x_start hv
  subst hsz
  have hx := B.exec
  have hb := B.bytes
  have hr := B.returns
  have hts := atoms_spec (ws := wsX10_mostShared) B.pre
  have hown : s.vm.findClass RX10 = some m.cls := findClass_of_methodNamed B.named
  have hlk := B.notSynchronized
  have hC : Cx g p s m _ c cX10_mostShared RX10 wsX10_mostShared 1 := ⟨hx, hb, hml, hown, hts, hK⟩
  have hA : ∀ q : Nat, s.heap.size ≤ q → dA ad n s.heap.size q := fun q h => Or.inr h
  have hS : va_S (dA ad n s.heap.size) s.heap s.heap [] := va_S.rf
  have hl := lv_entry ([.ref (ad p0)]) (n := 1) (Nat.le_of_ble_eq_true rfl)
  rw [lg_entry_eq]
  generalize (lg_sl ([.ref (ad p0)]) ++ List.replicate (1 - (lg_sl ([.ref (ad p0)])).length) Slot.unset).toArray = ls at hl ⊢
  have hl : lv_has ls 1 [(0, .ref (ad p0))] := hl
  have hin8 : ∀ w ∈ wsX80, w ∈ wsX10_mostShared := by decide +kernel
  have hin10 : ∀ w ∈ wsX100, w ∈ wsX10_mostShared := by decide +kernel
  have w_0 := hts (.fieldLink RX10 42 "MailSpool" "now" "LMailSpool$Spool;") (by decide +kernel)
  have w_1 := va_Nw.use (A := (List.toArray [.ref (ad p0)])) rfl (hGs.1 (.fieldLinkNest RX10 186 "MailSpool$Spool" "store" "LMailSpool$Store;" "MailSpool") (by decide +kernel))
  have hGE := hGs.2.2.2.2.2.2.1
  have hGM := hGs.2.2.2.2.2.2.2.1
  unfold f_X10_mostShared at hf
  refine lv_aload_n hx hb dX10_mostShared_0 rfl (lv_at hl 0 rfl) ?_
  replace hf := obE hf
  obtain ⟨j1, qj1, hf⟩ := hf
  have tj1 := x_rt hW qj1 7 ⟨by decide, rfl⟩
  refine x_getr 905 (ci := 9) (C := RX10) (T := TX10) (N := 11) 5 hC hin10 hW tp0 rfl rfl ⟨by decide, by decide, rfl, rfl⟩ rfl w_0 dX10_mostShared_1 qj1 ?_
  replace hf := obE hf
  obtain ⟨j2, qj2, hf⟩ := hf
  have tj2 := x_rt hW qj2 8 ⟨by decide, rfl⟩
  refine x_getrN 710 (ci := 7) (C := RX8) (T := TX8) (N := 16) 10 hC hin8 hW tj1 rfl rfl ⟨by decide, by decide, rfl, rfl⟩ rfl w_1 dX10_mostShared_4 qj2 ?_
  replace hf := obE hf
  obtain ⟨z3, hz3, hf⟩ := hf
  obtain ⟨r5, S4⟩ := z3
  replace hf := ltE (ltE hf r5 rfl) S4 rfl
  refine x_callV (As := []) (rest := []) (o := (some (.int r5))) (S1 := S4) hC hl.1 hW hS hGs hA tj2 rfl (show vwCl[8]? = some (RX9, TX9, 8) ∧ 8 < 11 from ⟨rfl, by decide⟩) (c_X9_mostKept l g ad n K s.heap.size F S0 j2 tj2 r5 S4 hz3) (cwV 0 hts gX10_mostShared_X9_mostKept rfl rfl rfl (by decide +kernel) ⟨Nat.le_of_ble_eq_true rfl, Nat.le_of_ble_eq_true rfl⟩) rfl rfl (Nat.le_of_ble_eq_true rfl) dX10_mostShared_7 ⟨Nat.le_of_ble_eq_true rfl, Nat.le_of_ble_eq_true rfl⟩ (fun H locs hPz3 hW hS => ?_)
  refine W.eq (g2 := F0 m 10 ls [.int r5]) rfl ?_
  obtain ⟨e1, e2⟩ := so2 hf
  subst e1
  subst e2
  exact W.iret (v := r5) hx hb hr (fun t ht hWm => ⟨⟨rfl, by unfold QB; rw [ht]; exact ⟨hW, trivial⟩⟩, hS.F ht⟩) hS.2.2 dX10_mostShared_10 hlk
set_option maxHeartbeats 4000000 in
set_option maxRecDepth 100000 in
theorem c_X10_usage (l : Launch) (hfl : l.stackTraces = false) (g : GP) (ad : Nat → Nat) (n : Nat) (K : Nat → Nat) (sz F : Nat) (S0 : St) (p0 : Nat) (p1 : Int32) (tp0 : p0 < n ∧ K p0 = 9) (o9 : Nat ⊕ Int32) (S9 : St) (hf : f_X10_usage F S0 p0 p1 = some (o9, S9)) : vx_Met l yX10_usage wsX10_usage { frames := 7, cells := 1, slots := 6, locals := 121 } (va_Pc [.ref (ad p0), .int p1] (PB g ad n K S0 sz)) (QT o9 (fun r => some (.int r)) (QB g ad n K S9 (dA ad n sz) True) (dA ad n sz)) (XT o9 (QB g ad n K S9 (dA ad n sz) True) (dA ad n sz)) 1 6 (dA ad n sz) := by
  refine vx_ofW (cc := cX10_usage) (maxL := 2) (ret := (some .int)) (by decide) rfl ?_
  intro p e s m args below meth c s₁ B hml hno hv
  obtain ⟨rfl, hsz, hW, hK, hGs⟩ := x_start hv
  subst hsz
  have hx := B.exec
  have hb := B.bytes
  have hr := B.returns
  have hts := atoms_spec (ws := wsX10_usage) B.pre
  have hown : s.vm.findClass RX10 = some m.cls := findClass_of_methodNamed B.named
  have hlk := B.notSynchronized
  have hC : Cx g p s m _ c cX10_usage RX10 wsX10_usage 2 := ⟨hx, hb, hml, hown, hts, hK⟩
  have hA : ∀ q : Nat, s.heap.size ≤ q → dA ad n s.heap.size q := fun q h => Or.inr h
  have hS : va_S (dA ad n s.heap.size) s.heap s.heap [] := va_S.rf
  have hl := lv_entry ([.ref (ad p0), .int p1]) (n := 2) (Nat.le_of_ble_eq_true rfl)
  rw [lg_entry_eq]
  generalize (lg_sl ([.ref (ad p0), .int p1]) ++ List.replicate (2 - (lg_sl ([.ref (ad p0), .int p1])).length) Slot.unset).toArray = ls at hl ⊢
  have hl : lv_has ls 2 [(0, .ref (ad p0)), (1, .int p1)] := hl
  have hin10 : ∀ w ∈ wsX100, w ∈ wsX10_usage := by decide +kernel
  have w_0 := hts (.fieldLink RX10 42 "MailSpool" "now" "LMailSpool$Spool;") (by decide +kernel)
  have hGE := hGs.2.2.2.2.2.2.1
  have hGM := hGs.2.2.2.2.2.2.2.1
  unfold f_X10_usage at hf
  refine lv_aload_n hx hb dX10_usage_0 rfl (lv_at hl 0 rfl) ?_
  refine lv_iload_n hx hb dX10_usage_1 rfl (lv_at hl 1 rfl) ?_
  replace hf := obE hf
  obtain ⟨z1, hz1, hf⟩ := hf
  obtain ⟨oz1, S2⟩ := z1
  replace hf := ltE hf S2 rfl
  refine x_tcallV (As := [.int p1]) (rest := []) (S1 := S2) (o := oz1) (vr := (fun _ => none)) (P := True) hC hl.1 hW hS hGs hA tp0 rfl (show vwCl[9]? = some (RX10, TX10, 11) ∧ 9 < 11 from ⟨rfl, by decide⟩) (c_X10_needUser l hfl g ad n K s.heap.size F S0 p0 p1 tp0 oz1 S2 hz1) (cwV 1 hts gX10_usage_X10_needUser rfl rfl rfl (by decide +kernel) ⟨Nat.le_of_ble_eq_true rfl, Nat.le_of_ble_eq_true rfl⟩) rfl rfl (Nat.le_of_ble_eq_true rfl) dX10_usage_2 ⟨Nat.le_of_ble_eq_true rfl, Nat.le_of_ble_eq_true rfl⟩ (fun x5 H locs ce q9 ho hW hS hc1 hc2 hc3 => ?_) (fun r3 H locs ho hP hW hS => ?_)
  · replace hf := smL ho hf
    obtain ⟨e1, e2⟩ := so2 hf
    subst e1
    subst e2
    exact x_tout hno hlk rfl hW hS hc1 hc2 hc3 (Nat.le_of_ble_eq_true rfl) (Nat.le_of_ble_eq_true rfl)
  · replace hf := smR ho hf
    refine W.widen (k := 1) (n := 6) (Nat.le_of_ble_eq_true rfl) (Nat.le_of_ble_eq_true rfl) ?_
    refine W.eq (g2 := F0 m 5 ls []) rfl ?_
    refine lv_aload_n hx hb dX10_usage_5 rfl (lv_at hl 0 rfl) ?_
    replace hf := obE hf
    obtain ⟨j9, qj9, hf⟩ := hf
    have tj9 := x_rt hW qj9 7 ⟨by decide, rfl⟩
    refine x_getr 905 (ci := 9) (C := RX10) (T := TX10) (N := 11) 5 hC hin10 hW tp0 rfl rfl ⟨by decide, by decide, rfl, rfl⟩ rfl w_0 dX10_usage_6 qj9 ?_
    refine lv_iload_n hx hb dX10_usage_9 rfl (lv_at hl 1 rfl) ?_
    replace hf := obE hf
    obtain ⟨z10, hz10, hf⟩ := hf
    obtain ⟨r12, S11⟩ := z10
    replace hf := ltE (ltE hf r12 rfl) S11 rfl
    refine x_callV (As := [.int p1]) (rest := []) (o := (some (.int r12))) (S1 := S11) hC hl.1 hW hS hGs hA tj9 rfl (show vwCl[7]? = some (RX8, TX8, 16) ∧ 7 < 11 from ⟨rfl, by decide⟩) (c_X8_usageOf l g ad n K H.size F S2 j9 p1 tj9 r12 S11 hz10) (cwV 1 hts gX10_usage_X8_usageOf rfl rfl rfl (by decide +kernel) ⟨Nat.le_of_ble_eq_true rfl, Nat.le_of_ble_eq_true rfl⟩) rfl rfl (Nat.le_of_ble_eq_true rfl) dX10_usage_10 ⟨Nat.le_of_ble_eq_true rfl, Nat.le_of_ble_eq_true rfl⟩ (fun H locs hPz10 hW hS => ?_)
    refine W.eq (g2 := F0 m 13 ls [.int r12]) rfl ?_
    obtain ⟨e1, e2⟩ := so2 hf
    subst e1
    subst e2
    exact vx_ret (W.iret (v := r12) hx hb hr (fun t ht hWm => ⟨⟨_, rfl, rfl, by unfold QB; rw [ht]; exact ⟨hW, trivial⟩⟩, hS.F ht⟩) hS.2.2 dX10_usage_13 hlk)
set_option maxHeartbeats 4000000 in
set_option maxRecDepth 100000 in
theorem c_X10_quota (l : Launch) (hfl : l.stackTraces = false) (g : GP) (ad : Nat → Nat) (n : Nat) (K : Nat → Nat) (sz F : Nat) (S0 : St) (p0 : Nat) (p1 : Int32) (tp0 : p0 < n ∧ K p0 = 9) (o9 : Nat ⊕ Int32) (S9 : St) (hf : f_X10_quota F S0 p0 p1 = some (o9, S9)) : vx_Met l yX10_quota wsX10_quota { frames := 7, cells := 1, slots := 6, locals := 121 } (va_Pc [.ref (ad p0), .int p1] (PB g ad n K S0 sz)) (QT o9 (fun r => some (.int r)) (QB g ad n K S9 (dA ad n sz) True) (dA ad n sz)) (XT o9 (QB g ad n K S9 (dA ad n sz) True) (dA ad n sz)) 1 6 (dA ad n sz) := by
  refine vx_ofW (cc := cX10_quota) (maxL := 2) (ret := (some .int)) (by decide) rfl ?_
  intro p e s m args below meth c s₁ B hml hno hv
  obtain ⟨rfl, hsz, hW, hK, hGs⟩ := x_start hv
  subst hsz
  have hx := B.exec
  have hb := B.bytes
  have hr := B.returns
  have hts := atoms_spec (ws := wsX10_quota) B.pre
  have hown : s.vm.findClass RX10 = some m.cls := findClass_of_methodNamed B.named
  have hlk := B.notSynchronized
  have hC : Cx g p s m _ c cX10_quota RX10 wsX10_quota 2 := ⟨hx, hb, hml, hown, hts, hK⟩
  have hA : ∀ q : Nat, s.heap.size ≤ q → dA ad n s.heap.size q := fun q h => Or.inr h
  have hS : va_S (dA ad n s.heap.size) s.heap s.heap [] := va_S.rf
  have hl := lv_entry ([.ref (ad p0), .int p1]) (n := 2) (Nat.le_of_ble_eq_true rfl)
  rw [lg_entry_eq]
  generalize (lg_sl ([.ref (ad p0), .int p1]) ++ List.replicate (2 - (lg_sl ([.ref (ad p0), .int p1])).length) Slot.unset).toArray = ls at hl ⊢
  have hl : lv_has ls 2 [(0, .ref (ad p0)), (1, .int p1)] := hl
  have hin8 : ∀ w ∈ wsX80, w ∈ wsX10_quota := by decide +kernel
  have hin10 : ∀ w ∈ wsX100, w ∈ wsX10_quota := by decide +kernel
  have w_0 := hts (.fieldLink RX10 42 "MailSpool" "now" "LMailSpool$Spool;") (by decide +kernel)
  have w_1 := va_Nw.use (A := (List.toArray [.ref (ad p0), .int p1])) rfl (hGs.1 (.fieldLinkNest RX10 299 "MailSpool$Spool" "quotas" "[I" "MailSpool") (by decide +kernel))
  have hGE := hGs.2.2.2.2.2.2.1
  have hGM := hGs.2.2.2.2.2.2.2.1
  unfold f_X10_quota at hf
  refine lv_aload_n hx hb dX10_quota_0 rfl (lv_at hl 0 rfl) ?_
  refine lv_iload_n hx hb dX10_quota_1 rfl (lv_at hl 1 rfl) ?_
  replace hf := obE hf
  obtain ⟨z1, hz1, hf⟩ := hf
  obtain ⟨oz1, S2⟩ := z1
  replace hf := ltE hf S2 rfl
  refine x_tcallV (As := [.int p1]) (rest := []) (S1 := S2) (o := oz1) (vr := (fun _ => none)) (P := True) hC hl.1 hW hS hGs hA tp0 rfl (show vwCl[9]? = some (RX10, TX10, 11) ∧ 9 < 11 from ⟨rfl, by decide⟩) (c_X10_needUser l hfl g ad n K s.heap.size F S0 p0 p1 tp0 oz1 S2 hz1) (cwV 1 hts gX10_quota_X10_needUser rfl rfl rfl (by decide +kernel) ⟨Nat.le_of_ble_eq_true rfl, Nat.le_of_ble_eq_true rfl⟩) rfl rfl (Nat.le_of_ble_eq_true rfl) dX10_quota_2 ⟨Nat.le_of_ble_eq_true rfl, Nat.le_of_ble_eq_true rfl⟩ (fun x5 H locs ce q9 ho hW hS hc1 hc2 hc3 => ?_) (fun r3 H locs ho hP hW hS => ?_)
  · replace hf := smL ho hf
    obtain ⟨e1, e2⟩ := so2 hf
    subst e1
    subst e2
    exact x_tout hno hlk rfl hW hS hc1 hc2 hc3 (Nat.le_of_ble_eq_true rfl) (Nat.le_of_ble_eq_true rfl)
  · replace hf := smR ho hf
    refine W.widen (k := 1) (n := 6) (Nat.le_of_ble_eq_true rfl) (Nat.le_of_ble_eq_true rfl) ?_
    refine W.eq (g2 := F0 m 5 ls []) rfl ?_
    refine lv_aload_n hx hb dX10_quota_5 rfl (lv_at hl 0 rfl) ?_
    replace hf := obE hf
    obtain ⟨j9, qj9, hf⟩ := hf
    have tj9 := x_rt hW qj9 7 ⟨by decide, rfl⟩
    refine x_getr 905 (ci := 9) (C := RX10) (T := TX10) (N := 11) 5 hC hin10 hW tp0 rfl rfl ⟨by decide, by decide, rfl, rfl⟩ rfl w_0 dX10_quota_6 qj9 ?_
    replace hf := obE hf
    obtain ⟨j10, qj10, hf⟩ := hf
    have tj10 := x_rt hW qj10 12 ⟨by decide, rfl⟩
    refine x_getrN 704 (ci := 7) (C := RX8) (T := TX8) (N := 16) 4 hC hin8 hW tj9 rfl rfl ⟨by decide, by decide, rfl, rfl⟩ rfl w_1 dX10_quota_9 qj10 ?_
    refine lv_iload_n hx hb dX10_quota_12 rfl (lv_at hl 1 rfl) ?_
    replace hf := obE hf
    obtain ⟨z11, hz11, hf⟩ := hf
    obtain ⟨r13, S12⟩ := z11
    replace hf := ltE (ltE hf r13 rfl) S12 rfl
    refine x_callS (As := [.ref (ad j10), .int p1]) (rest := []) (o := (some (.int r13))) (S1 := S12) hC hl.1 hW hS hGs hA (c_X10_at l g ad n K H.size F S2 j10 p1 tj10 r13 S12 hz11) (va_cwS 2 hts gX10_quota_X10_at rfl rfl rfl (by decide +kernel) ⟨Nat.le_of_ble_eq_true rfl, Nat.le_of_ble_eq_true rfl⟩) rfl rfl (Nat.le_of_ble_eq_true rfl) dX10_quota_13 ⟨Nat.le_of_ble_eq_true rfl, Nat.le_of_ble_eq_true rfl⟩ (fun H locs hPz11 hW hS => ?_)
    refine W.eq (g2 := F0 m 16 ls [.int r13]) rfl ?_
    obtain ⟨e1, e2⟩ := so2 hf
    subst e1
    subst e2
    exact vx_ret (W.iret (v := r13) hx hb hr (fun t ht hWm => ⟨⟨_, rfl, rfl, by unfold QB; rw [ht]; exact ⟨hW, trivial⟩⟩, hS.F ht⟩) hS.2.2 dX10_quota_16 hlk)
set_option maxHeartbeats 4000000 in
set_option maxRecDepth 100000 in
theorem c_X8_gatherReaders (l : Launch) (g : GP) (ad : Nat → Nat) (n : Nat) (K : Nat → Nat) (sz F : Nat) (S0 : St) (p0 : Nat) (p1 : Nat) (tp0 : p0 < n ∧ K p0 = 7) (tp1 : p1 < n ∧ K p1 = 12) (S9 : St) (hf : f_X8_gatherReaders F S0 p0 p1 = some S9) : Met l yX8_gatherReaders wsX8_gatherReaders { frames := 3, cells := 0, slots := 0, locals := 69 } (va_Pc [.ref (ad p0), .ref (ad p1)] (PB g ad n K S0 sz)) (QR none (QB g ad n K S9 (dA ad n sz) (True)) (dA ad n sz)) 0 0 (dA ad n sz) := by
  refine Met.ofW (cc := cX8_gatherReaders) (maxL := 8) (ret := none) (by decide) rfl ?_
  intro p e s m args below meth c s₁ B hml hv
  obtain ⟨rfl, hsz, hW, hK, hGs⟩ := x_start hv
  subst hsz
  have hx := B.exec
  have hb := B.bytes
  have hr := B.returns
  have hts := atoms_spec (ws := wsX8_gatherReaders) B.pre
  have hown : s.vm.findClass RX8 = some m.cls := findClass_of_methodNamed B.named
  have hlk := B.notSynchronized
  have hC : Cx g p s m _ c cX8_gatherReaders RX8 wsX8_gatherReaders 8 := ⟨hx, hb, hml, hown, hts, hK⟩
  have hA : ∀ q : Nat, s.heap.size ≤ q → dA ad n s.heap.size q := fun q h => Or.inr h
  have hS : va_S (dA ad n s.heap.size) s.heap s.heap [] := va_S.rf
  have hl := lv_entry ([.ref (ad p0), .ref (ad p1)]) (n := 8) (Nat.le_of_ble_eq_true rfl)
  rw [lg_entry_eq]
  generalize (lg_sl ([.ref (ad p0), .ref (ad p1)]) ++ List.replicate (8 - (lg_sl ([.ref (ad p0), .ref (ad p1)])).length) Slot.unset).toArray = ls at hl ⊢
  have hl : lv_has ls 8 [(0, .ref (ad p0)), (1, .ref (ad p1))] := hl
  have hin4 : ∀ w ∈ wsX40, w ∈ wsX8_gatherReaders := by decide +kernel
  have hin8 : ∀ w ∈ wsX80, w ∈ wsX8_gatherReaders := by decide +kernel
  have w_0 := va_Nw.use (A := (List.toArray [.ref (ad p0), .ref (ad p1)])) rfl (hGs.1 (.methodLinkNest RX8 112 yX10_at "MailSpool") (by decide +kernel))
  have w_1 := hts (.initialized RX10) (by decide +kernel)
  have w_2 := hts (.static yX10_at) (by decide +kernel)
  have w_3 := va_Nw.use (A := (List.toArray [.ref (ad p0), .ref (ad p1)])) rfl (hGs.1 (.methodLinkNest RX8 181 yX10_put "MailSpool") (by decide +kernel))
  have w_4 := hts (.static yX10_put) (by decide +kernel)
  have w_5 := hts (.fieldLink RX8 88 "MailSpool$Spool" "messageCount" "I") (by decide +kernel)
  have w_6 := va_Nw.use (A := (List.toArray [.ref (ad p0), .ref (ad p1)])) rfl (hGs.1 (.fieldLinkNest RX8 156 "MailSpool$Message" "parts" "[I" "MailSpool") (by decide +kernel))
  have hGE := hGs.2.2.2.2.2.2.1
  have hGM := hGs.2.2.2.2.2.2.2.1
  have L7 : ∀ (fu7 : Nat) (S0 : St) (v0 : Nat) (v1 : Nat) (v2 : Int32) (tv0 : v0 < n ∧ K v0 = 7) (tv1 : v1 < n ∧ K v1 = 12) (H : Heap) (locs : List Loc) (ls : Array Slot), f_X8_gatherReaders_L7 F fu7 S0 v0 v1 v2 = some S9 → Wb g ad n K S0 (dA ad n s.heap.size) H → va_S (dA ad n s.heap.size) s.heap H locs → lv_has ls 8 [(0, .ref (ad v0)), (1, .ref (ad v1)), (2, .int v2)] → W p l e (headSpec wsX8_gatherReaders { frames := 3, cells := 0, slots := 0, locals := 69 }).room s m (List.toArray [.ref (ad p0), .ref (ad p1)]) below meth c H locs 0 0 (MQ below (QR none (QB g ad n K S9 (dA ad n s.heap.size) (True)) (dA ad n s.heap.size)) (List.toArray [.ref (ad p0), .ref (ad p1)]) s 0 0 (dA ad n s.heap.size)) (F0 m 7 ls []) := by
    intro fu7
    induction fu7 with
    | zero =>
      intro S0 v0 v1 v2 tv0 tv1 H locs ls hf
      cases hf
    | succ fu7 ih7 =>
      have L41 : ∀ (fu41 : Nat) (S0 : St) (v0 : Nat) (v1 : Nat) (v2 : Int32) (v3 : Int32) (v4 : Nat) (v5 : Int32) (v6 : Int32) (tv0 : v0 < n ∧ K v0 = 7) (tv1 : v1 < n ∧ K v1 = 12) (tv4 : v4 < n ∧ K v4 = 12) (H : Heap) (locs : List Loc) (ls : Array Slot), f_X8_gatherReaders_L41 F (fun a0 a1 a2 a3 => f_X8_gatherReaders_L7 F fu7 a0 a1 a2 a3) fu41 S0 v0 v1 v2 v3 v4 v5 v6 = some S9 → Wb g ad n K S0 (dA ad n s.heap.size) H → va_S (dA ad n s.heap.size) s.heap H locs → lv_has ls 8 [(0, .ref (ad v0)), (1, .ref (ad v1)), (2, .int v2), (3, .int v3), (4, .ref (ad v4)), (5, .int v5), (6, .int v6)] → W p l e (headSpec wsX8_gatherReaders { frames := 3, cells := 0, slots := 0, locals := 69 }).room s m (List.toArray [.ref (ad p0), .ref (ad p1)]) below meth c H locs 0 0 (MQ below (QR none (QB g ad n K S9 (dA ad n s.heap.size) (True)) (dA ad n s.heap.size)) (List.toArray [.ref (ad p0), .ref (ad p1)]) s 0 0 (dA ad n s.heap.size)) (F0 m 41 ls []) := by
        intro fu41
        induction fu41 with
        | zero =>
          intro S0 v0 v1 v2 v3 v4 v5 v6 tv0 tv1 tv4 H locs ls hf
          cases hf
        | succ fu41 ih41 =>
          intro S0 v0 v1 v2 v3 v4 v5 v6 tv0 tv1 tv4 H locs ls hf hW hS hl
          unfold f_X8_gatherReaders_L41 at hf
          refine lv_iload hx hb dX8_gatherReaders_41 (lv_at hl 6 rfl) ?_
          refine lv_iload hx hb dX8_gatherReaders_43 (lv_at hl 5 rfl) ?_
          refine lv_icmp_ge (tgt := 75) hx hb dX8_gatherReaders_45 (by decide) (fun c14 => ?_) (fun c14 => ?_)
          · replace hf := ifT c14 hf
            obtain ⟨x15, ex15⟩ : ∃ z : Int32, z = v2 + 1 := ⟨_, rfl⟩
            replace hf := ltE hf x15 ex15
            refine lv_iinc (v := x15) (lv' := [(2, .int x15), (0, .ref (ad v0)), (1, .ref (ad v1)), (3, .int v3), (4, .ref (ad v4)), (5, .int v5), (6, .int v6)]) hx hb dX8_gatherReaders_75 hl (k := 2) rfl (by rw [ex15]; rfl) (by decide) rfl (fun ls hl => ?_)
            refine lv_goto (tgt := 7) hx hb dX8_gatherReaders_78 (by decide) ?_
            exact ih7 S0 v0 v1 x15 tv0 tv1 _ _ _ hf hW hS (lv_sub hl [1, 2, 0] rfl)
          · replace hf := ifF c14 hf
            refine lv_aload hx hb dX8_gatherReaders_48 (lv_at hl 4 rfl) ?_
            refine lv_iload hx hb dX8_gatherReaders_50 (lv_at hl 6 rfl) ?_
            replace hf := ckiE hf
            obtain ⟨h16, hf⟩ := hf
            refine x_iald hC hW tv4 rfl rfl h16 dX8_gatherReaders_52 ?_
            refine lv_topi (fun x17 ex17 => ?_)
            replace hf := ltE hf x17 ex17
            refine lv_istore (lv' := [(7, .int x17), (0, .ref (ad v0)), (1, .ref (ad v1)), (2, .int v2), (3, .int v3), (4, .ref (ad v4)), (5, .int v5), (6, .int v6)]) hx hb dX8_gatherReaders_53 hl (by decide) rfl (fun ls hl => ?_)
            refine lv_aload_n hx hb dX8_gatherReaders_55 rfl (lv_at hl 2 rfl) ?_
            refine lv_iload hx hb dX8_gatherReaders_56 (lv_at hl 0 rfl) ?_
            refine lv_aload_n hx hb dX8_gatherReaders_58 rfl (lv_at hl 2 rfl) ?_
            refine lv_iload hx hb dX8_gatherReaders_59 (lv_at hl 0 rfl) ?_
            replace hf := obE hf
            obtain ⟨z18, hz18, hf⟩ := hf
            obtain ⟨r20, S19⟩ := z18
            replace hf := ltE (ltE hf r20 rfl) S19 rfl
            refine x_callSN (As := [.ref (ad v1), .int x17]) (rest := [.int x17, .ref (ad v1)]) (o := (some (.int r20))) (S1 := S19) hC hl.1 hW hS hGs hA (c_X10_at l g ad n K H.size F S0 v1 x17 tv1 r20 S19 hz18) ⟨va_cnB 2 hts gX8_gatherReaders_X10_at_n112 rfl rfl rfl (va_Nw.of rfl w_0) w_1 (by decide +kernel) ⟨Nat.le_of_ble_eq_true rfl, Nat.le_of_ble_eq_true rfl⟩, w_2, trivial⟩ rfl rfl (Nat.le_of_ble_eq_true rfl) dX8_gatherReaders_61 ⟨Nat.le_of_ble_eq_true rfl, Nat.le_of_ble_eq_true rfl⟩ (fun H locs hPz18 hW hS => ?_)
            refine W.eq (g2 := F0 m 64 ls [.int r20, .int x17, .ref (ad v1)]) rfl ?_
            refine lv_iload_n hx hb dX8_gatherReaders_64 rfl (lv_at hl 4 rfl) ?_
            refine lv_ior hx hb dX8_gatherReaders_65 ?_
            replace hf := obE hf
            obtain ⟨S23, hz22, hf⟩ := hf
            refine x_callSN (As := [.ref (ad v1), .int x17, .int (r20 ||| v3)]) (rest := []) (o := none) (S1 := S23) hC hl.1 hW hS hGs hA (c_X10_put l g ad n K H.size F S19 v1 x17 (r20 ||| v3) tv1 S23 hz22) ⟨va_cnB 3 hts gX8_gatherReaders_X10_put_n181 rfl rfl rfl (va_Nw.of rfl w_3) w_1 (by decide +kernel) ⟨Nat.le_of_ble_eq_true rfl, Nat.le_of_ble_eq_true rfl⟩, w_4, trivial⟩ rfl rfl (Nat.le_of_ble_eq_true rfl) dX8_gatherReaders_66 ⟨Nat.le_of_ble_eq_true rfl, Nat.le_of_ble_eq_true rfl⟩ (fun H locs hPz22 hW hS => ?_)
            refine W.eq (g2 := F0 m 69 ls []) rfl ?_
            obtain ⟨x26, ex26⟩ : ∃ z : Int32, z = v6 + 1 := ⟨_, rfl⟩
            replace hf := ltE hf x26 ex26
            refine lv_iinc (v := x26) (lv' := [(6, .int x26), (7, .int x17), (0, .ref (ad v0)), (1, .ref (ad v1)), (2, .int v2), (3, .int v3), (4, .ref (ad v4)), (5, .int v5)]) hx hb dX8_gatherReaders_69 hl (k := 7) rfl (by rw [ex26]; rfl) (by decide) rfl (fun ls hl => ?_)
            refine lv_goto (tgt := 41) hx hb dX8_gatherReaders_72 (by decide) ?_
            exact ih41 S23 v0 v1 v2 v3 v4 v5 x26 tv0 tv1 tv4 _ _ _ hf hW hS (lv_sub hl [2, 3, 4, 5, 6, 7, 0] rfl)
      intro S0 v0 v1 v2 tv0 tv1 H locs ls hf hW hS hl
      unfold f_X8_gatherReaders_L7 at hf
      refine lv_iload_n hx hb dX8_gatherReaders_7 rfl (lv_at hl 2 rfl) ?_
      refine lv_aload_n hx hb dX8_gatherReaders_8 rfl (lv_at hl 0 rfl) ?_
      refine x_geti 705 (ci := 7) (C := RX8) (T := TX8) (N := 16) 5 hC hin8 hW tv0 rfl rfl ⟨by decide, by decide, rfl, rfl⟩ rfl w_5 dX8_gatherReaders_9 ?_
      refine lv_icmp_ge (tgt := 81) hx hb dX8_gatherReaders_12 (by decide) (fun c39 => ?_) (fun c39 => ?_)
      · replace hf := ifT c39 hf
        have e1 := Option.some.inj hf
        subst e1
        exact W.vret hx hb hr (fun t ht hWm => ⟨⟨rfl, by unfold QB; rw [ht]; exact ⟨hW, trivial⟩⟩, hS.F ht⟩) hS.2.2 dX8_gatherReaders_81 hlk
      · replace hf := ifF c39 hf
        refine lv_aload_n hx hb dX8_gatherReaders_15 rfl (lv_at hl 0 rfl) ?_
        refine lv_iload_n hx hb dX8_gatherReaders_16 rfl (lv_at hl 2 rfl) ?_
        refine lv_iconst (v := 0) hx hb dX8_gatherReaders_17 (by decide) ?_
        refine lv_iconst (v := 0) hx hb dX8_gatherReaders_18 (by decide) ?_
        replace hf := obE hf
        obtain ⟨z40, hz40, hf⟩ := hf
        obtain ⟨r42, S41⟩ := z40
        replace hf := ltE (ltE hf r42 rfl) S41 rfl
        refine x_callV (As := [.int v2, .int 0, .int 0]) (rest := []) (o := (some (.int r42))) (S1 := S41) hC hl.1 hW hS hGs hA tv0 rfl (show vwCl[7]? = some (RX8, TX8, 16) ∧ 7 < 11 from ⟨rfl, by decide⟩) (c_X8_usersIn l g ad n K H.size F S0 v0 v2 ((0 : Int32)) ((0 : Int32)) tv0 r42 S41 hz40) (cwV 3 hts gX8_gatherReaders_X8_usersIn rfl rfl rfl (by decide +kernel) ⟨Nat.le_of_ble_eq_true rfl, Nat.le_of_ble_eq_true rfl⟩) rfl rfl (Nat.le_of_ble_eq_true rfl) dX8_gatherReaders_19 ⟨Nat.le_of_ble_eq_true rfl, Nat.le_of_ble_eq_true rfl⟩ (fun H locs hPz40 hW hS => ?_)
        refine W.eq (g2 := F0 m 22 ls [.int r42]) rfl ?_
        refine lv_istore_n (lv' := [(3, .int r42), (0, .ref (ad v0)), (1, .ref (ad v1)), (2, .int v2)]) hx hb dX8_gatherReaders_22 rfl hl (by decide) rfl (fun ls hl => ?_)
        refine lv_aload_n hx hb dX8_gatherReaders_23 rfl (lv_at hl 1 rfl) ?_
        refine lv_iload_n hx hb dX8_gatherReaders_24 rfl (lv_at hl 3 rfl) ?_
        replace hf := obE hf
        obtain ⟨z44, hz44, hf⟩ := hf
        obtain ⟨r46, S45⟩ := z44
        replace hf := ltE (ltE hf r46 rfl) S45 rfl
        refine x_callV (As := [.int v2]) (rest := []) (o := (some (va_re ad r46))) (S1 := S45) hC hl.1 hW hS hGs hA tv0 rfl (show vwCl[7]? = some (RX8, TX8, 16) ∧ 7 < 11 from ⟨rfl, by decide⟩) (c_X8_messageAt l g ad n K H.size F S41 v0 v2 tv0 r46 S45 hz44) (cwV 1 hts gX8_gatherReaders_X8_messageAt rfl rfl rfl (by decide +kernel) ⟨Nat.le_of_ble_eq_true rfl, Nat.le_of_ble_eq_true rfl⟩) rfl rfl (Nat.le_of_ble_eq_true rfl) dX8_gatherReaders_25 ⟨Nat.le_of_ble_eq_true rfl, Nat.le_of_ble_eq_true rfl⟩ (fun H locs hPz44 hW hS => ?_)
        replace hf := obE hf
        obtain ⟨j48, qj48, hf⟩ := hf
        have tj48 := hPz44 j48 qj48
        refine W.eq (g2 := F0 m 28 ls [.ref (ad j48)]) (by rw [qj48]; rfl) ?_
        replace hf := obE hf
        obtain ⟨j49, qj49, hf⟩ := hf
        have tj49 := x_rt hW qj49 12 ⟨by decide, rfl⟩
        refine x_getrN 303 (ci := 3) (C := RX4) (T := TX4) (N := 5) 3 hC hin4 hW tj48 rfl rfl ⟨by decide, by decide, rfl, rfl⟩ rfl w_6 dX8_gatherReaders_28 qj49 ?_
        refine lv_astore (lv' := [(4, .ref (ad j49)), (3, .int r42), (0, .ref (ad v0)), (1, .ref (ad v1)), (2, .int v2)]) hx hb dX8_gatherReaders_31 hl (by decide) rfl (fun ls hl => ?_)
        refine lv_aload hx hb dX8_gatherReaders_33 (lv_at hl 0 rfl) ?_
        refine x_alen hC hW tj49 rfl ⟨by decide, by decide⟩ dX8_gatherReaders_35 ?_
        refine lv_topi (fun x50 ex50 => ?_)
        replace hf := ltE hf x50 ex50
        refine lv_istore (lv' := [(5, .int x50), (4, .ref (ad j49)), (3, .int r42), (0, .ref (ad v0)), (1, .ref (ad v1)), (2, .int v2)]) hx hb dX8_gatherReaders_36 hl (by decide) rfl (fun ls hl => ?_)
        refine lv_iconst (v := 0) hx hb dX8_gatherReaders_38 (by decide) ?_
        refine lv_istore (lv' := [(6, .int 0), (5, .int x50), (4, .ref (ad j49)), (3, .int r42), (0, .ref (ad v0)), (1, .ref (ad v1)), (2, .int v2)]) hx hb dX8_gatherReaders_39 hl (by decide) rfl (fun ls hl => ?_)
        exact L41 F S45 v0 v1 v2 r42 j49 x50 0 tv0 tv1 tj49 _ _ _ hf hW hS (lv_sub hl [4, 5, 6, 3, 2, 1, 0] rfl)
  unfold f_X8_gatherReaders at hf
  refine lv_aload_n hx hb dX8_gatherReaders_0 rfl (lv_at hl 1 rfl) ?_
  refine lv_iconst (v := 0) hx hb dX8_gatherReaders_1 (by decide) ?_
  replace hf := obE hf
  obtain ⟨S52, hz51, hf⟩ := hf
  refine x_callS (As := [.ref (ad p1), .int 0]) (rest := []) (o := none) (S1 := S52) hC hl.1 hW hS hGs hA (c_J7_fill_53178 l g ad n K s.heap.size F S0 p1 ((0 : Int32)) tp1 S52 hz51) (va_cwS 2 hts gX8_gatherReaders_J7_fill_53178 rfl rfl rfl (by decide +kernel) ⟨Nat.le_of_ble_eq_true rfl, Nat.le_of_ble_eq_true rfl⟩) rfl rfl (Nat.le_of_ble_eq_true rfl) dX8_gatherReaders_2 ⟨Nat.le_of_ble_eq_true rfl, Nat.le_of_ble_eq_true rfl⟩ (fun H locs hPz51 hW hS => ?_)
  refine W.eq (g2 := F0 m 5 ls []) rfl ?_
  refine lv_iconst (v := 0) hx hb dX8_gatherReaders_5 (by decide) ?_
  refine lv_istore_n (lv' := [(2, .int 0), (0, .ref (ad p0)), (1, .ref (ad p1))]) hx hb dX8_gatherReaders_6 rfl hl (by decide) rfl (fun ls hl => ?_)
  exact L7 F S52 p0 p1 0 tp0 tp1 _ _ _ hf hW hS (lv_sub hl [1, 2, 0] rfl)
set_option maxHeartbeats 4000000 in
set_option maxRecDepth 100000 in
theorem c_X10_fairShare (l : Launch) (hfl : l.stackTraces = false) (g : GP) (ad : Nat → Nat) (n : Nat) (K : Nat → Nat) (sz F : Nat) (S0 : St) (p0 : Nat) (p1 : Int32) (tp0 : p0 < n ∧ K p0 = 9) (o9 : Nat ⊕ UInt64) (S9 : St) (hf : f_X10_fairShare F S0 p0 p1 = some (o9, S9)) : vx_Met l yX10_fairShare wsX10_fairShare { frames := 7, cells := 1, slots := 6, locals := 121 } (va_Pc [.ref (ad p0), .int p1] (PB g ad n K S0 sz)) (QT o9 (fun r => some (.double r)) (QB g ad n K S9 (dA ad n sz) True) (dA ad n sz)) (XT o9 (QB g ad n K S9 (dA ad n sz) True) (dA ad n sz)) 1 6 (dA ad n sz) := by
  refine vx_ofW (cc := cX10_fairShare) (maxL := 6) (ret := (some .double)) (by decide) rfl ?_
  intro p e s m args below meth c s₁ B hml hno hv
  obtain ⟨rfl, hsz, hW, hK, hGs⟩ := x_start hv
  subst hsz
  have hx := B.exec
  have hb := B.bytes
  have hr := B.returns
  have hts := atoms_spec (ws := wsX10_fairShare) B.pre
  have hown : s.vm.findClass RX10 = some m.cls := findClass_of_methodNamed B.named
  have hlk := B.notSynchronized
  have hC : Cx g p s m _ c cX10_fairShare RX10 wsX10_fairShare 6 := ⟨hx, hb, hml, hown, hts, hK⟩
  have hA : ∀ q : Nat, s.heap.size ≤ q → dA ad n s.heap.size q := fun q h => Or.inr h
  have hS : va_S (dA ad n s.heap.size) s.heap s.heap [] := va_S.rf
  have hl := lv_entry ([.ref (ad p0), .int p1]) (n := 6) (Nat.le_of_ble_eq_true rfl)
  rw [lg_entry_eq]
  generalize (lg_sl ([.ref (ad p0), .int p1]) ++ List.replicate (6 - (lg_sl ([.ref (ad p0), .int p1])).length) Slot.unset).toArray = ls at hl ⊢
  have hl : lv_has ls 6 [(0, .ref (ad p0)), (1, .int p1)] := hl
  have hin0 : ∀ w ∈ wsX00, w ∈ wsX10_fairShare := by decide +kernel
  have hin8 : ∀ w ∈ wsX80, w ∈ wsX10_fairShare := by decide +kernel
  have hin10 : ∀ w ∈ wsX100, w ∈ wsX10_fairShare := by decide +kernel
  have w_0 := hts (.fieldLink RX10 53 "MailSpool" "partReaders" "[I") (by decide +kernel)
  have w_1 := hts (.fieldLink RX10 42 "MailSpool" "now" "LMailSpool$Spool;") (by decide +kernel)
  have w_2 := va_Nw.use (A := (List.toArray [.ref (ad p0), .int p1])) rfl (hGs.1 (.fieldLinkNest RX10 186 "MailSpool$Spool" "store" "LMailSpool$Store;" "MailSpool") (by decide +kernel))
  have w_3 := va_Nw.use (A := (List.toArray [.ref (ad p0), .int p1])) rfl (hGs.1 (.fieldLinkNest RX10 57 "MailSpool$Bytes" "size" "I" "MailSpool") (by decide +kernel))
  have hGE := hGs.2.2.2.2.2.2.1
  have hGM := hGs.2.2.2.2.2.2.2.1
  have L21 : ∀ (fu21 : Nat) (S0 : St) (v0 : Nat) (v1 : Int32) (v2 : UInt64) (v4 : Int32) (tv0 : v0 < n ∧ K v0 = 9) (H : Heap) (locs : List Loc) (ls : Array Slot), f_X10_fairShare_L21 F fu21 S0 v0 v1 v2 v4 = some (o9, S9) → Wb g ad n K S0 (dA ad n s.heap.size) H → va_S (dA ad n s.heap.size) s.heap H locs → lv_has ls 6 [(0, .ref (ad v0)), (1, .int v1), (2, .double (v2)), (4, .int v4)] → W p l e (headSpec wsX10_fairShare { frames := 7, cells := 1, slots := 6, locals := 121 }).room s m (List.toArray [.ref (ad p0), .int p1]) below meth c H locs 1 6 (vx_MQ below (QT o9 (fun r => some (.double r)) (QB g ad n K S9 (dA ad n s.heap.size) True) (dA ad n s.heap.size)) (XT o9 (QB g ad n K S9 (dA ad n s.heap.size) True) (dA ad n s.heap.size)) (List.toArray [.ref (ad p0), .int p1]) s 1 6 (dA ad n s.heap.size)) (F0 m 21 ls []) := by
    intro fu21
    induction fu21 with
    | zero =>
      intro S0 v0 v1 v2 v4 tv0 H locs ls hf
      cases hf
    | succ fu21 ih21 =>
      have L85 : ∀ (S0 : St) (v0 : Nat) (v1 : Int32) (v2 : UInt64) (v4 : Int32) (tv0 : v0 < n ∧ K v0 = 9) (H : Heap) (locs : List Loc) (ls : Array Slot), f_X10_fairShare_L85 F (fun a0 a1 a2 a3 a4 => f_X10_fairShare_L21 F fu21 a0 a1 a2 a3 a4) S0 v0 v1 v2 v4 = some (o9, S9) → Wb g ad n K S0 (dA ad n s.heap.size) H → va_S (dA ad n s.heap.size) s.heap H locs → lv_has ls 6 [(0, .ref (ad v0)), (1, .int v1), (2, .double (v2)), (4, .int v4)] → W p l e (headSpec wsX10_fairShare { frames := 7, cells := 1, slots := 6, locals := 121 }).room s m (List.toArray [.ref (ad p0), .int p1]) below meth c H locs 1 6 (vx_MQ below (QT o9 (fun r => some (.double r)) (QB g ad n K S9 (dA ad n s.heap.size) True) (dA ad n s.heap.size)) (XT o9 (QB g ad n K S9 (dA ad n s.heap.size) True) (dA ad n s.heap.size)) (List.toArray [.ref (ad p0), .int p1]) s 1 6 (dA ad n s.heap.size)) (F0 m 85 ls []) := by
        intro S0 v0 v1 v2 v4 tv0 H locs ls hf hW hS hl
        unfold f_X10_fairShare_L85 at hf
        obtain ⟨x2, ex2⟩ : ∃ z : Int32, z = v4 + 1 := ⟨_, rfl⟩
        replace hf := ltE hf x2 ex2
        refine lv_iinc (v := x2) (lv' := [(4, .int x2), (0, .ref (ad v0)), (1, .int v1), (2, .double (v2))]) hx hb dX10_fairShare_85 hl (k := 3) rfl (by rw [ex2]; rfl) (by decide) rfl (fun ls hl => ?_)
        refine lv_goto (tgt := 21) hx hb dX10_fairShare_88 (by decide) ?_
        exact ih21 S0 v0 v1 v2 x2 tv0 _ _ _ hf hW hS (lv_sub hl [1, 2, 3, 0] rfl)
      intro S0 v0 v1 v2 v4 tv0 H locs ls hf hW hS hl
      unfold f_X10_fairShare_L21 at hf
      refine lv_iload hx hb dX10_fairShare_21 (lv_at hl 3 rfl) ?_
      refine lv_aload_n hx hb dX10_fairShare_23 rfl (lv_at hl 0 rfl) ?_
      replace hf := obE hf
      obtain ⟨j29, qj29, hf⟩ := hf
      have tj29 := x_rt hW qj29 12 ⟨by decide, rfl⟩
      refine x_getr 910 (ci := 9) (C := RX10) (T := TX10) (N := 11) 10 hC hin10 hW tv0 rfl rfl ⟨by decide, by decide, rfl, rfl⟩ rfl w_0 dX10_fairShare_24 qj29 ?_
      refine x_alen hC hW tj29 rfl ⟨by decide, by decide⟩ dX10_fairShare_27 ?_
      refine lv_icmp_ge (tgt := 91) hx hb dX10_fairShare_28 (by decide) (fun c30 => ?_) (fun c30 => ?_)
      · replace hf := ifT c30 hf
        refine lv_dload_n hx hb dX10_fairShare_91 rfl (lv_at hl 2 rfl) ?_
        obtain ⟨e1, e2⟩ := so2 hf
        subst e1
        subst e2
        exact vx_ret (W.dret (v := v2) hx hb hr (fun t ht hWm => ⟨⟨_, rfl, rfl, by unfold QB; rw [ht]; exact ⟨hW, trivial⟩⟩, hS.F ht⟩) hS.2.2 dX10_fairShare_92 hlk)
      · replace hf := ifF c30 hf
        refine lv_aload_n hx hb dX10_fairShare_31 rfl (lv_at hl 0 rfl) ?_
        replace hf := obE hf
        obtain ⟨j31, qj31, hf⟩ := hf
        have tj31 := x_rt hW qj31 12 ⟨by decide, rfl⟩
        refine x_getr 910 (ci := 9) (C := RX10) (T := TX10) (N := 11) 10 hC hin10 hW tv0 rfl rfl ⟨by decide, by decide, rfl, rfl⟩ rfl w_0 dX10_fairShare_32 qj31 ?_
        refine lv_iload hx hb dX10_fairShare_35 (lv_at hl 3 rfl) ?_
        replace hf := ckiE hf
        obtain ⟨h32, hf⟩ := hf
        refine x_iald hC hW tj31 rfl rfl h32 dX10_fairShare_37 ?_
        replace hf := obE hf
        obtain ⟨z33, hz33, hf⟩ := hf
        obtain ⟨r35, S34⟩ := z33
        replace hf := ltE (ltE hf r35 rfl) S34 rfl
        refine x_callS (As := [.int (ai S0 j31 (Int32.toNatClampNeg v4))]) (rest := []) (o := (some (.int r35))) (S1 := S34) hC hl.1 hW hS hGs hA (c_J6_bitCount_0f7a4 l g ad n K H.size F S0 (ai S0 j31 (Int32.toNatClampNeg v4)) r35 S34 hz33) (va_cwS 1 hts gX10_fairShare_J6_bitCount_0f7a4 rfl rfl rfl (by decide +kernel) ⟨Nat.le_of_ble_eq_true rfl, Nat.le_of_ble_eq_true rfl⟩) rfl rfl (Nat.le_of_ble_eq_true rfl) dX10_fairShare_38 ⟨Nat.le_of_ble_eq_true rfl, Nat.le_of_ble_eq_true rfl⟩ (fun H locs hPz33 hW hS => ?_)
        refine W.eq (g2 := F0 m 41 ls [.int r35]) rfl ?_
        refine lv_istore (lv' := [(5, .int r35), (0, .ref (ad v0)), (1, .int v1), (2, .double (v2)), (4, .int v4)]) hx hb dX10_fairShare_41 hl (by decide) rfl (fun ls hl => ?_)
        refine lv_iload hx hb dX10_fairShare_43 (lv_at hl 0 rfl) ?_
        refine lv_if_le (tgt := 85) hx hb dX10_fairShare_45 (by decide) (fun c37 => ?_) (fun c37 => ?_)
        · replace hf := ifT c37 hf
          exact L85 S34 v0 v1 v2 v4 tv0 _ _ _ hf hW hS (lv_sub hl [1, 2, 3, 4] rfl)
        · replace hf := ifF c37 hf
          refine lv_aload_n hx hb dX10_fairShare_48 rfl (lv_at hl 1 rfl) ?_
          replace hf := obE hf
          obtain ⟨j38, qj38, hf⟩ := hf
          have tj38 := x_rt hW qj38 12 ⟨by decide, rfl⟩
          refine x_getr 910 (ci := 9) (C := RX10) (T := TX10) (N := 11) 10 hC hin10 hW tv0 rfl rfl ⟨by decide, by decide, rfl, rfl⟩ rfl w_0 dX10_fairShare_49 qj38 ?_
          refine lv_iload hx hb dX10_fairShare_52 (lv_at hl 4 rfl) ?_
          replace hf := ckiE hf
          obtain ⟨h39, hf⟩ := hf
          refine x_iald hC hW tj38 rfl rfl h39 dX10_fairShare_54 ?_
          refine lv_iload_n hx hb dX10_fairShare_55 rfl (lv_at hl 2 rfl) ?_
          replace hf := obE hf
          obtain ⟨z40, hz40, hf⟩ := hf
          obtain ⟨r42, S41⟩ := z40
          replace hf := ltE (ltE hf r42 rfl) S41 rfl
          refine x_callS (As := [.int (ai S34 j38 (Int32.toNatClampNeg v4)), .int v1]) (rest := []) (o := (some (.int r42))) (S1 := S41) hC hl.1 hW hS hGs hA (c_X10_hasBit l g ad n K H.size F S34 (ai S34 j38 (Int32.toNatClampNeg v4)) v1 r42 S41 hz40) (va_cwS 2 hts gX10_fairShare_X10_hasBit rfl rfl rfl (by decide +kernel) ⟨Nat.le_of_ble_eq_true rfl, Nat.le_of_ble_eq_true rfl⟩) rfl rfl (Nat.le_of_ble_eq_true rfl) dX10_fairShare_56 ⟨Nat.le_of_ble_eq_true rfl, Nat.le_of_ble_eq_true rfl⟩ (fun H locs hPz40 hW hS => ?_)
          refine W.eq (g2 := F0 m 59 ls [.int r42]) rfl ?_
          refine lv_if_eq (tgt := 85) hx hb dX10_fairShare_59 (by decide) (fun c44 => ?_) (fun c44 => ?_)
          · replace hf := ifT c44 hf
            exact L85 S41 v0 v1 v2 v4 tv0 _ _ _ hf hW hS (lv_sub hl [1, 2, 3, 4] rfl)
          · replace hf := ifF c44 hf
            refine lv_dload_n hx hb dX10_fairShare_62 rfl (lv_at hl 3 rfl) ?_
            refine lv_aload_n hx hb dX10_fairShare_63 rfl (lv_at hl 1 rfl) ?_
            replace hf := obE hf
            obtain ⟨j45, qj45, hf⟩ := hf
            have tj45 := x_rt hW qj45 7 ⟨by decide, rfl⟩
            refine x_getr 905 (ci := 9) (C := RX10) (T := TX10) (N := 11) 5 hC hin10 hW tv0 rfl rfl ⟨by decide, by decide, rfl, rfl⟩ rfl w_1 dX10_fairShare_64 qj45 ?_
            replace hf := obE hf
            obtain ⟨j46, qj46, hf⟩ := hf
            have tj46 := x_rt hW qj46 8 ⟨by decide, rfl⟩
            refine x_getrN 710 (ci := 7) (C := RX8) (T := TX8) (N := 16) 10 hC hin8 hW tj45 rfl rfl ⟨by decide, by decide, rfl, rfl⟩ rfl w_2 dX10_fairShare_67 qj46 ?_
            refine lv_iload hx hb dX10_fairShare_70 (lv_at hl 4 rfl) ?_
            replace hf := obE hf
            obtain ⟨z47, hz47, hf⟩ := hf
            obtain ⟨r49, S48⟩ := z47
            replace hf := ltE (ltE hf r49 rfl) S48 rfl
            refine x_callV (As := [.int v4]) (rest := [.double (v2)]) (o := (some (va_re ad r49))) (S1 := S48) hC hl.1 hW hS hGs hA tj46 rfl (show vwCl[8]? = some (RX9, TX9, 8) ∧ 8 < 11 from ⟨rfl, by decide⟩) (c_X9_bytesOf l g ad n K H.size F S41 j46 v4 tj46 r49 S48 hz47) (cwV 1 hts gX10_fairShare_X9_bytesOf rfl rfl rfl (by decide +kernel) ⟨Nat.le_of_ble_eq_true rfl, Nat.le_of_ble_eq_true rfl⟩) rfl rfl (Nat.le_of_ble_eq_true rfl) dX10_fairShare_72 ⟨Nat.le_of_ble_eq_true rfl, Nat.le_of_ble_eq_true rfl⟩ (fun H locs hPz47 hW hS => ?_)
            replace hf := obE hf
            obtain ⟨j51, qj51, hf⟩ := hf
            have tj51 := hPz47 j51 qj51
            refine W.eq (g2 := F0 m 75 ls [.ref (ad j51), .double (v2)]) (by rw [qj51]; rfl) ?_
            refine x_getiN 1 (ci := 0) (C := RX0) (T := TX0) (N := 2) 1 hC hin0 hW tj51 rfl rfl ⟨by decide, by decide, rfl, rfl⟩ rfl w_3 dX10_fairShare_75 ?_
            refine lv_i2d hx hb dX10_fairShare_78 ?_
            refine lv_iload hx hb dX10_fairShare_79 (lv_at hl 0 rfl) ?_
            refine lv_i2d hx hb dX10_fairShare_81 ?_
            replace hf := cknE hf
            obtain ⟨h52, hf⟩ := hf
            refine lv_ddiv hx hb dX10_fairShare_82 h52 ?_
            replace hf := cknE hf
            obtain ⟨h53, hf⟩ := hf
            refine lv_dadd hx hb dX10_fairShare_83 h53 ?_
            refine lv_topd (fun x54 ex54 => ?_)
            replace hf := ltE hf x54 ex54
            refine lv_dstore_n (lv' := [(2, .double (x54)), (5, .int r35), (0, .ref (ad v0)), (1, .int v1), (4, .int v4)]) hx hb dX10_fairShare_84 rfl hl (by decide) rfl (fun ls hl => ?_)
            exact L85 S48 v0 v1 x54 v4 tv0 _ _ _ hf hW hS (lv_sub hl [2, 3, 0, 4] rfl)
  unfold f_X10_fairShare at hf
  refine lv_aload_n hx hb dX10_fairShare_0 rfl (lv_at hl 0 rfl) ?_
  refine lv_iload_n hx hb dX10_fairShare_1 rfl (lv_at hl 1 rfl) ?_
  replace hf := obE hf
  obtain ⟨z55, hz55, hf⟩ := hf
  obtain ⟨oz55, S56⟩ := z55
  replace hf := ltE hf S56 rfl
  refine x_tcallV (As := [.int p1]) (rest := []) (S1 := S56) (o := oz55) (vr := (fun _ => none)) (P := True) hC hl.1 hW hS hGs hA tp0 rfl (show vwCl[9]? = some (RX10, TX10, 11) ∧ 9 < 11 from ⟨rfl, by decide⟩) (c_X10_needUser l hfl g ad n K s.heap.size F S0 p0 p1 tp0 oz55 S56 hz55) (cwV 1 hts gX10_fairShare_X10_needUser rfl rfl rfl (by decide +kernel) ⟨Nat.le_of_ble_eq_true rfl, Nat.le_of_ble_eq_true rfl⟩) rfl rfl (Nat.le_of_ble_eq_true rfl) dX10_fairShare_2 ⟨Nat.le_of_ble_eq_true rfl, Nat.le_of_ble_eq_true rfl⟩ (fun x59 H locs ce q9 ho hW hS hc1 hc2 hc3 => ?_) (fun r57 H locs ho hP hW hS => ?_)
  · replace hf := smL ho hf
    obtain ⟨e1, e2⟩ := so2 hf
    subst e1
    subst e2
    exact x_tout hno hlk rfl hW hS hc1 hc2 hc3 (Nat.le_of_ble_eq_true rfl) (Nat.le_of_ble_eq_true rfl)
  · replace hf := smR ho hf
    refine W.widen (k := 1) (n := 6) (Nat.le_of_ble_eq_true rfl) (Nat.le_of_ble_eq_true rfl) ?_
    refine W.eq (g2 := F0 m 5 ls []) rfl ?_
    refine lv_aload_n hx hb dX10_fairShare_5 rfl (lv_at hl 0 rfl) ?_
    replace hf := obE hf
    obtain ⟨j63, qj63, hf⟩ := hf
    have tj63 := x_rt hW qj63 7 ⟨by decide, rfl⟩
    refine x_getr 905 (ci := 9) (C := RX10) (T := TX10) (N := 11) 5 hC hin10 hW tp0 rfl rfl ⟨by decide, by decide, rfl, rfl⟩ rfl w_1 dX10_fairShare_6 qj63 ?_
    refine lv_aload_n hx hb dX10_fairShare_9 rfl (lv_at hl 0 rfl) ?_
    replace hf := obE hf
    obtain ⟨j64, qj64, hf⟩ := hf
    have tj64 := x_rt hW qj64 12 ⟨by decide, rfl⟩
    refine x_getr 910 (ci := 9) (C := RX10) (T := TX10) (N := 11) 10 hC hin10 hW tp0 rfl rfl ⟨by decide, by decide, rfl, rfl⟩ rfl w_0 dX10_fairShare_10 qj64 ?_
    replace hf := obE hf
    obtain ⟨S66, hz65, hf⟩ := hf
    refine x_callV (As := [.ref (ad j64)]) (rest := []) (o := none) (S1 := S66) hC hl.1 hW hS hGs hA tj63 rfl (show vwCl[7]? = some (RX8, TX8, 16) ∧ 7 < 11 from ⟨rfl, by decide⟩) (c_X8_gatherReaders l g ad n K H.size F S56 j63 j64 tj63 tj64 S66 hz65) (cwV 1 hts gX10_fairShare_X8_gatherReaders rfl rfl rfl (by decide +kernel) ⟨Nat.le_of_ble_eq_true rfl, Nat.le_of_ble_eq_true rfl⟩) rfl rfl (Nat.le_of_ble_eq_true rfl) dX10_fairShare_13 ⟨Nat.le_of_ble_eq_true rfl, Nat.le_of_ble_eq_true rfl⟩ (fun H locs hPz65 hW hS => ?_)
    refine W.eq (g2 := F0 m 16 ls []) rfl ?_
    refine lv_dconst0 hx hb dX10_fairShare_16 ?_
    refine lv_topd (fun x69 ex69 => ?_)
    replace hf := ltE hf x69 ex69
    refine lv_dstore_n (lv' := [(2, .double (x69)), (0, .ref (ad p0)), (1, .int p1)]) hx hb dX10_fairShare_17 rfl hl (by decide) rfl (fun ls hl => ?_)
    refine lv_iconst (v := 0) hx hb dX10_fairShare_18 (by decide) ?_
    refine lv_istore (lv' := [(4, .int 0), (2, .double (x69)), (0, .ref (ad p0)), (1, .int p1)]) hx hb dX10_fairShare_19 hl (by decide) rfl (fun ls hl => ?_)
    exact L21 F S66 p0 p1 x69 0 tp0 _ _ _ hf hW hS (lv_sub hl [2, 3, 1, 0] rfl)
set_option maxHeartbeats 4000000 in
set_option maxRecDepth 100000 in
theorem c_X10_inClass (l : Launch) (hfl : l.stackTraces = false) (g : GP) (ad : Nat → Nat) (n : Nat) (K : Nat → Nat) (sz F : Nat) (S0 : St) (p0 : Nat) (p1 : Int32) (p2 : Int32) (tp0 : p0 < n ∧ K p0 = 9) (o9 : Nat ⊕ Int32) (S9 : St) (hf : f_X10_inClass F S0 p0 p1 p2 = some (o9, S9)) : vx_Met l yX10_inClass wsX10_inClass { frames := 7, cells := 2, slots := 12, locals := 121 } (va_Pc [.ref (ad p0), .int p1, .int p2] (PB g ad n K S0 sz)) (QT o9 (fun r => some (.int r)) (QB g ad n K S9 (dA ad n sz) True) (dA ad n sz)) (XT o9 (QB g ad n K S9 (dA ad n sz) True) (dA ad n sz)) 2 12 (dA ad n sz) := by
  refine vx_ofW (cc := cX10_inClass) (maxL := 3) (ret := (some .int)) (by decide) rfl ?_
  intro p e s m args below meth c s₁ B hml hno hv
  obtain ⟨rfl, hsz, hW, hK, hGs⟩ := x_start hv
  subst hsz
  have hx := B.exec
  have hb := B.bytes
  have hr := B.returns
  have hts := atoms_spec (ws := wsX10_inClass) B.pre
  have hown : s.vm.findClass RX10 = some m.cls := findClass_of_methodNamed B.named
  have hlk := B.notSynchronized
  have hC : Cx g p s m _ c cX10_inClass RX10 wsX10_inClass 3 := ⟨hx, hb, hml, hown, hts, hK⟩
  have hA : ∀ q : Nat, s.heap.size ≤ q → dA ad n s.heap.size q := fun q h => Or.inr h
  have hS : va_S (dA ad n s.heap.size) s.heap s.heap [] := va_S.rf
  have hl := lv_entry ([.ref (ad p0), .int p1, .int p2]) (n := 3) (Nat.le_of_ble_eq_true rfl)
  rw [lg_entry_eq]
  generalize (lg_sl ([.ref (ad p0), .int p1, .int p2]) ++ List.replicate (3 - (lg_sl ([.ref (ad p0), .int p1, .int p2])).length) Slot.unset).toArray = ls at hl ⊢
  have hl : lv_has ls 3 [(0, .ref (ad p0)), (1, .int p1), (2, .int p2)] := hl
  have hin10 : ∀ w ∈ wsX100, w ∈ wsX10_inClass := by decide +kernel
  have w_0 := hts (.fieldLink RX10 42 "MailSpool" "now" "LMailSpool$Spool;") (by decide +kernel)
  have hGE := hGs.2.2.2.2.2.2.1
  have hGM := hGs.2.2.2.2.2.2.2.1
  unfold f_X10_inClass at hf
  refine lv_aload_n hx hb dX10_inClass_0 rfl (lv_at hl 0 rfl) ?_
  refine lv_iload_n hx hb dX10_inClass_1 rfl (lv_at hl 1 rfl) ?_
  replace hf := obE hf
  obtain ⟨z1, hz1, hf⟩ := hf
  obtain ⟨oz1, S2⟩ := z1
  replace hf := ltE hf S2 rfl
  refine x_tcallV (As := [.int p1]) (rest := []) (S1 := S2) (o := oz1) (vr := (fun _ => none)) (P := True) hC hl.1 hW hS hGs hA tp0 rfl (show vwCl[9]? = some (RX10, TX10, 11) ∧ 9 < 11 from ⟨rfl, by decide⟩) (c_X10_needUser l hfl g ad n K s.heap.size F S0 p0 p1 tp0 oz1 S2 hz1) (cwV 1 hts gX10_inClass_X10_needUser rfl rfl rfl (by decide +kernel) ⟨Nat.le_of_ble_eq_true rfl, Nat.le_of_ble_eq_true rfl⟩) rfl rfl (Nat.le_of_ble_eq_true rfl) dX10_inClass_2 ⟨Nat.le_of_ble_eq_true rfl, Nat.le_of_ble_eq_true rfl⟩ (fun x5 H locs ce q9 ho hW hS hc1 hc2 hc3 => ?_) (fun r3 H locs ho hP hW hS => ?_)
  · replace hf := smL ho hf
    obtain ⟨e1, e2⟩ := so2 hf
    subst e1
    subst e2
    exact x_tout hno hlk rfl hW hS hc1 hc2 hc3 (Nat.le_of_ble_eq_true rfl) (Nat.le_of_ble_eq_true rfl)
  · replace hf := smR ho hf
    refine W.widen (k := 1) (n := 6) (Nat.le_of_ble_eq_true rfl) (Nat.le_of_ble_eq_true rfl) ?_
    refine W.eq (g2 := F0 m 5 ls []) rfl ?_
    refine lv_aload_n hx hb dX10_inClass_5 rfl (lv_at hl 0 rfl) ?_
    refine lv_iload_n hx hb dX10_inClass_6 rfl (lv_at hl 2 rfl) ?_
    replace hf := obE hf
    obtain ⟨z9, hz9, hf⟩ := hf
    obtain ⟨oz9, S10⟩ := z9
    replace hf := ltE hf S10 rfl
    refine x_tcallV (As := [.int p2]) (rest := []) (S1 := S10) (o := oz9) (vr := (fun _ => none)) (P := True) hC hl.1 hW hS hGs hA tp0 rfl (show vwCl[9]? = some (RX10, TX10, 11) ∧ 9 < 11 from ⟨rfl, by decide⟩) (c_X10_needClass l hfl g ad n K H.size F S2 p0 p2 tp0 oz9 S10 hz9) (cwV 1 hts gX10_inClass_X10_needClass rfl rfl rfl (by decide +kernel) ⟨Nat.le_of_ble_eq_true rfl, Nat.le_of_ble_eq_true rfl⟩) rfl rfl (Nat.le_of_ble_eq_true rfl) dX10_inClass_7 ⟨Nat.le_of_ble_eq_true rfl, Nat.le_of_ble_eq_true rfl⟩ (fun x13 H locs ce q9 ho hW hS hc1 hc2 hc3 => ?_) (fun r11 H locs ho hP hW hS => ?_)
    · replace hf := smL ho hf
      obtain ⟨e1, e2⟩ := so2 hf
      subst e1
      subst e2
      exact x_tout hno hlk rfl hW hS hc1 hc2 hc3 (Nat.le_of_ble_eq_true rfl) (Nat.le_of_ble_eq_true rfl)
    · replace hf := smR ho hf
      refine W.widen (k := 2) (n := 12) (Nat.le_of_ble_eq_true rfl) (Nat.le_of_ble_eq_true rfl) ?_
      refine W.eq (g2 := F0 m 10 ls []) rfl ?_
      refine lv_aload_n hx hb dX10_inClass_10 rfl (lv_at hl 0 rfl) ?_
      replace hf := obE hf
      obtain ⟨j17, qj17, hf⟩ := hf
      have tj17 := x_rt hW qj17 7 ⟨by decide, rfl⟩
      refine x_getr 905 (ci := 9) (C := RX10) (T := TX10) (N := 11) 5 hC hin10 hW tp0 rfl rfl ⟨by decide, by decide, rfl, rfl⟩ rfl w_0 dX10_inClass_11 qj17 ?_
      refine lv_iload_n hx hb dX10_inClass_14 rfl (lv_at hl 1 rfl) ?_
      refine lv_iload_n hx hb dX10_inClass_15 rfl (lv_at hl 2 rfl) ?_
      refine lv_iconst (v := -1) hx hb dX10_inClass_16 (by decide) ?_
      replace hf := obE hf
      obtain ⟨z18, hz18, hf⟩ := hf
      obtain ⟨r20, S19⟩ := z18
      replace hf := ltE (ltE hf r20 rfl) S19 rfl
      refine x_callV (As := [.int p1, .int p2, .int ((-1))]) (rest := []) (o := (some (.int r20))) (S1 := S19) hC hl.1 hW hS hGs hA tj17 rfl (show vwCl[7]? = some (RX8, TX8, 16) ∧ 7 < 11 from ⟨rfl, by decide⟩) (c_X8_liveInClass l g ad n K H.size F S10 j17 p1 p2 (((-1) : Int32)) tj17 r20 S19 hz18) (cwV 3 hts gX10_inClass_X8_liveInClass rfl rfl rfl (by decide +kernel) ⟨Nat.le_of_ble_eq_true rfl, Nat.le_of_ble_eq_true rfl⟩) rfl rfl (Nat.le_of_ble_eq_true rfl) dX10_inClass_17 ⟨Nat.le_of_ble_eq_true rfl, Nat.le_of_ble_eq_true rfl⟩ (fun H locs hPz18 hW hS => ?_)
      refine W.eq (g2 := F0 m 20 ls [.int r20]) rfl ?_
      obtain ⟨e1, e2⟩ := so2 hf
      subst e1
      subst e2
      exact vx_ret (W.iret (v := r20) hx hb hr (fun t ht hWm => ⟨⟨_, rfl, rfl, by unfold QB; rw [ht]; exact ⟨hW, trivial⟩⟩, hS.F ht⟩) hS.2.2 dX10_inClass_20 hlk)
set_option maxHeartbeats 4000000 in
set_option maxRecDepth 100000 in
theorem c_X8_liveWithWord (l : Launch) (g : GP) (ad : Nat → Nat) (n : Nat) (K : Nat → Nat) (sz F : Nat) (S0 : St) (p0 : Nat) (p1 : Int32) (p2 : Int64) (tp0 : p0 < n ∧ K p0 = 7) (r9 : Int32) (S9 : St) (hf : f_X8_liveWithWord F S0 p0 p1 p2 = some (r9, S9)) : Met l yX8_liveWithWord wsX8_liveWithWord { frames := 3, cells := 0, slots := 0, locals := 75 } (va_Pc [.ref (ad p0), .int p1, .long (p2)] (PB g ad n K S0 sz)) (QR (some (.int r9)) (QB g ad n K S9 (dA ad n sz) (True)) (dA ad n sz)) 0 0 (dA ad n sz) := by
  refine Met.ofW (cc := cX8_liveWithWord) (maxL := 6) (ret := (some .int)) (by decide) rfl ?_
  intro p e s m args below meth c s₁ B hml hv
  obtain ⟨rfl, hsz, hW, hK, hGs⟩ := x_start hv
  subst hsz
  have hx := B.exec
  have hb := B.bytes
  have hr := B.returns
  have hts := atoms_spec (ws := wsX8_liveWithWord) B.pre
  have hown : s.vm.findClass RX8 = some m.cls := findClass_of_methodNamed B.named
  have hlk := B.notSynchronized
  have hC : Cx g p s m _ c cX8_liveWithWord RX8 wsX8_liveWithWord 6 := ⟨hx, hb, hml, hown, hts, hK⟩
  have hA : ∀ q : Nat, s.heap.size ≤ q → dA ad n s.heap.size q := fun q h => Or.inr h
  have hS : va_S (dA ad n s.heap.size) s.heap s.heap [] := va_S.rf
  have hl := lv_entry ([.ref (ad p0), .int p1, .long (p2)]) (n := 6) (Nat.le_of_ble_eq_true rfl)
  rw [lg_entry_eq]
  generalize (lg_sl ([.ref (ad p0), .int p1, .long (p2)]) ++ List.replicate (6 - (lg_sl ([.ref (ad p0), .int p1, .long (p2)])).length) Slot.unset).toArray = ls at hl ⊢
  have hl : lv_has ls 6 [(0, .ref (ad p0)), (1, .int p1), (2, .long (p2))] := hl
  have hin8 : ∀ w ∈ wsX80, w ∈ wsX8_liveWithWord := by decide +kernel
  have w_0 := hts (.fieldLink RX8 88 "MailSpool$Spool" "messageCount" "I") (by decide +kernel)
  have hGE := hGs.2.2.2.2.2.2.1
  have hGM := hGs.2.2.2.2.2.2.2.1
  have L6 : ∀ (fu6 : Nat) (S0 : St) (v0 : Nat) (v1 : Int32) (v2 : Int64) (v4 : Int32) (v5 : Int32) (tv0 : v0 < n ∧ K v0 = 7) (H : Heap) (locs : List Loc) (ls : Array Slot), f_X8_liveWithWord_L6 F fu6 S0 v0 v1 v2 v4 v5 = some (r9, S9) → Wb g ad n K S0 (dA ad n s.heap.size) H → va_S (dA ad n s.heap.size) s.heap H locs → lv_has ls 6 [(0, .ref (ad v0)), (1, .int v1), (2, .long (v2)), (4, .int v4), (5, .int v5)] → W p l e (headSpec wsX8_liveWithWord { frames := 3, cells := 0, slots := 0, locals := 75 }).room s m (List.toArray [.ref (ad p0), .int p1, .long (p2)]) below meth c H locs 0 0 (MQ below (QR (some (.int r9)) (QB g ad n K S9 (dA ad n s.heap.size) (True)) (dA ad n s.heap.size)) (List.toArray [.ref (ad p0), .int p1, .long (p2)]) s 0 0 (dA ad n s.heap.size)) (F0 m 6 ls []) := by
    intro fu6
    induction fu6 with
    | zero =>
      intro S0 v0 v1 v2 v4 v5 tv0 H locs ls hf
      cases hf
    | succ fu6 ih6 =>
      have L38 : ∀ (S0 : St) (v0 : Nat) (v1 : Int32) (v2 : Int64) (v4 : Int32) (v5 : Int32) (tv0 : v0 < n ∧ K v0 = 7) (H : Heap) (locs : List Loc) (ls : Array Slot), f_X8_liveWithWord_L38 F (fun a0 a1 a2 a3 a4 a5 => f_X8_liveWithWord_L6 F fu6 a0 a1 a2 a3 a4 a5) S0 v0 v1 v2 v4 v5 = some (r9, S9) → Wb g ad n K S0 (dA ad n s.heap.size) H → va_S (dA ad n s.heap.size) s.heap H locs → lv_has ls 6 [(0, .ref (ad v0)), (1, .int v1), (2, .long (v2)), (4, .int v4), (5, .int v5)] → W p l e (headSpec wsX8_liveWithWord { frames := 3, cells := 0, slots := 0, locals := 75 }).room s m (List.toArray [.ref (ad p0), .int p1, .long (p2)]) below meth c H locs 0 0 (MQ below (QR (some (.int r9)) (QB g ad n K S9 (dA ad n s.heap.size) (True)) (dA ad n s.heap.size)) (List.toArray [.ref (ad p0), .int p1, .long (p2)]) s 0 0 (dA ad n s.heap.size)) (F0 m 38 ls []) := by
        intro S0 v0 v1 v2 v4 v5 tv0 H locs ls hf hW hS hl
        unfold f_X8_liveWithWord_L38 at hf
        obtain ⟨x2, ex2⟩ : ∃ z : Int32, z = v5 + 1 := ⟨_, rfl⟩
        replace hf := ltE hf x2 ex2
        refine lv_iinc (v := x2) (lv' := [(5, .int x2), (0, .ref (ad v0)), (1, .int v1), (2, .long (v2)), (4, .int v4)]) hx hb dX8_liveWithWord_38 hl (k := 4) rfl (by rw [ex2]; rfl) (by decide) rfl (fun ls hl => ?_)
        refine lv_goto (tgt := 6) hx hb dX8_liveWithWord_41 (by decide) ?_
        exact ih6 S0 v0 v1 v2 v4 x2 tv0 _ _ _ hf hW hS (lv_sub hl [1, 2, 3, 4, 0] rfl)
      intro S0 v0 v1 v2 v4 v5 tv0 H locs ls hf hW hS hl
      unfold f_X8_liveWithWord_L6 at hf
      refine lv_iload hx hb dX8_liveWithWord_6 (lv_at hl 4 rfl) ?_
      refine lv_aload_n hx hb dX8_liveWithWord_8 rfl (lv_at hl 0 rfl) ?_
      refine x_geti 705 (ci := 7) (C := RX8) (T := TX8) (N := 16) 5 hC hin8 hW tv0 rfl rfl ⟨by decide, by decide, rfl, rfl⟩ rfl w_0 dX8_liveWithWord_9 ?_
      refine lv_icmp_ge (tgt := 44) hx hb dX8_liveWithWord_12 (by decide) (fun c15 => ?_) (fun c15 => ?_)
      · replace hf := ifT c15 hf
        refine lv_iload hx hb dX8_liveWithWord_44 (lv_at hl 3 rfl) ?_
        obtain ⟨e1, e2⟩ := so2 hf
        subst e1
        subst e2
        exact W.iret (v := v4) hx hb hr (fun t ht hWm => ⟨⟨rfl, by unfold QB; rw [ht]; exact ⟨hW, trivial⟩⟩, hS.F ht⟩) hS.2.2 dX8_liveWithWord_46 hlk
      · replace hf := ifF c15 hf
        refine lv_aload_n hx hb dX8_liveWithWord_15 rfl (lv_at hl 0 rfl) ?_
        refine lv_iload hx hb dX8_liveWithWord_16 (lv_at hl 4 rfl) ?_
        refine lv_iload_n hx hb dX8_liveWithWord_18 rfl (lv_at hl 1 rfl) ?_
        replace hf := obE hf
        obtain ⟨z16, hz16, hf⟩ := hf
        obtain ⟨r18, S17⟩ := z16
        replace hf := ltE (ltE hf r18 rfl) S17 rfl
        refine x_callV (As := [.int v5, .int v1]) (rest := []) (o := (some (.int r18))) (S1 := S17) hC hl.1 hW hS hGs hA tv0 rfl (show vwCl[7]? = some (RX8, TX8, 16) ∧ 7 < 11 from ⟨rfl, by decide⟩) (c_X8_stateOf l g ad n K H.size F S0 v0 v5 v1 tv0 r18 S17 hz16) (cwV 2 hts gX8_liveWithWord_X8_stateOf rfl rfl rfl (by decide +kernel) ⟨Nat.le_of_ble_eq_true rfl, Nat.le_of_ble_eq_true rfl⟩) rfl rfl (Nat.le_of_ble_eq_true rfl) dX8_liveWithWord_19 ⟨Nat.le_of_ble_eq_true rfl, Nat.le_of_ble_eq_true rfl⟩ (fun H locs hPz16 hW hS => ?_)
        refine W.eq (g2 := F0 m 22 ls [.int r18]) rfl ?_
        refine lv_if_ne (tgt := 38) hx hb dX8_liveWithWord_22 (by decide) (fun c20 => ?_) (fun c20 => ?_)
        · replace hf := ifT c20 hf
          exact L38 S17 v0 v1 v2 v4 v5 tv0 _ _ _ hf hW hS (lv_sub hl [0, 1, 2, 3, 4] rfl)
        · replace hf := ifF (fun q => q c20) hf
          refine lv_aload_n hx hb dX8_liveWithWord_25 rfl (lv_at hl 0 rfl) ?_
          refine lv_iload hx hb dX8_liveWithWord_26 (lv_at hl 4 rfl) ?_
          refine lv_lload_n hx hb dX8_liveWithWord_28 rfl (lv_at hl 2 rfl) ?_
          replace hf := obE hf
          obtain ⟨z21, hz21, hf⟩ := hf
          obtain ⟨r23, S22⟩ := z21
          replace hf := ltE (ltE hf r23 rfl) S22 rfl
          refine x_callV (As := [.int v5, .long (v2)]) (rest := []) (o := (some (.int r23))) (S1 := S22) hC hl.1 hW hS hGs hA tv0 rfl (show vwCl[7]? = some (RX8, TX8, 16) ∧ 7 < 11 from ⟨rfl, by decide⟩) (c_X8_hasWord l g ad n K H.size F S17 v0 v5 v2 tv0 r23 S22 hz21) (cwV 2 hts gX8_liveWithWord_X8_hasWord rfl rfl rfl (by decide +kernel) ⟨Nat.le_of_ble_eq_true rfl, Nat.le_of_ble_eq_true rfl⟩) rfl rfl (Nat.le_of_ble_eq_true rfl) dX8_liveWithWord_29 ⟨Nat.le_of_ble_eq_true rfl, Nat.le_of_ble_eq_true rfl⟩ (fun H locs hPz21 hW hS => ?_)
          refine W.eq (g2 := F0 m 32 ls [.int r23]) rfl ?_
          refine lv_if_eq (tgt := 38) hx hb dX8_liveWithWord_32 (by decide) (fun c25 => ?_) (fun c25 => ?_)
          · replace hf := ifT c25 hf
            exact L38 S22 v0 v1 v2 v4 v5 tv0 _ _ _ hf hW hS (lv_sub hl [0, 1, 2, 3, 4] rfl)
          · replace hf := ifF c25 hf
            obtain ⟨x26, ex26⟩ : ∃ z : Int32, z = v4 + 1 := ⟨_, rfl⟩
            replace hf := ltE hf x26 ex26
            refine lv_iinc (v := x26) (lv' := [(4, .int x26), (0, .ref (ad v0)), (1, .int v1), (2, .long (v2)), (5, .int v5)]) hx hb dX8_liveWithWord_35 hl (k := 3) rfl (by rw [ex26]; rfl) (by decide) rfl (fun ls hl => ?_)
            exact L38 S22 v0 v1 v2 x26 v5 tv0 _ _ _ hf hW hS (lv_sub hl [1, 2, 3, 0, 4] rfl)
  unfold f_X8_liveWithWord at hf
  refine lv_iconst (v := 0) hx hb dX8_liveWithWord_0 (by decide) ?_
  refine lv_istore (lv' := [(4, .int 0), (0, .ref (ad p0)), (1, .int p1), (2, .long (p2))]) hx hb dX8_liveWithWord_1 hl (by decide) rfl (fun ls hl => ?_)
  refine lv_iconst (v := 0) hx hb dX8_liveWithWord_3 (by decide) ?_
  refine lv_istore (lv' := [(5, .int 0), (4, .int 0), (0, .ref (ad p0)), (1, .int p1), (2, .long (p2))]) hx hb dX8_liveWithWord_4 hl (by decide) rfl (fun ls hl => ?_)
  exact L6 F S0 p0 p1 p2 0 0 tp0 _ _ _ hf hW hS (lv_sub hl [2, 3, 4, 1, 0] rfl)
set_option maxHeartbeats 4000000 in
set_option maxRecDepth 100000 in
theorem c_X10_matches (l : Launch) (hfl : l.stackTraces = false) (g : GP) (ad : Nat → Nat) (n : Nat) (K : Nat → Nat) (sz F : Nat) (S0 : St) (p0 : Nat) (p1 : Int32) (tp0 : p0 < n ∧ K p0 = 9) (o9 : Nat ⊕ Int32) (S9 : St) (hf : f_X10_matches F S0 p0 p1 = some (o9, S9)) : vx_Met l yX10_matches wsX10_matches { frames := 7, cells := 2, slots := 12, locals := 121 } (va_Pc [.ref (ad p0), .int p1] (PB g ad n K S0 sz)) (QT o9 (fun r => some (.int r)) (QB g ad n K S9 (dA ad n sz) True) (dA ad n sz)) (XT o9 (QB g ad n K S9 (dA ad n sz) True) (dA ad n sz)) 2 12 (dA ad n sz) := by
  refine vx_ofW (cc := cX10_matches) (maxL := 4) (ret := (some .int)) (by decide) rfl ?_
  intro p e s m args below meth c s₁ B hml hno hv
  obtain ⟨rfl, hsz, hW, hK, hGs⟩ := x_start hv
  subst hsz
  have hx := B.exec
  have hb := B.bytes
  have hr := B.returns
  have hts := atoms_spec (ws := wsX10_matches) B.pre
  have hown : s.vm.findClass RX10 = some m.cls := findClass_of_methodNamed B.named
  have hlk := B.notSynchronized
  have hC : Cx g p s m _ c cX10_matches RX10 wsX10_matches 4 := ⟨hx, hb, hml, hown, hts, hK⟩
  have hA : ∀ q : Nat, s.heap.size ≤ q → dA ad n s.heap.size q := fun q h => Or.inr h
  have hS : va_S (dA ad n s.heap.size) s.heap s.heap [] := va_S.rf
  have hl := lv_entry ([.ref (ad p0), .int p1]) (n := 4) (Nat.le_of_ble_eq_true rfl)
  rw [lg_entry_eq]
  generalize (lg_sl ([.ref (ad p0), .int p1]) ++ List.replicate (4 - (lg_sl ([.ref (ad p0), .int p1])).length) Slot.unset).toArray = ls at hl ⊢
  have hl : lv_has ls 4 [(0, .ref (ad p0)), (1, .int p1)] := hl
  have hin10 : ∀ w ∈ wsX100, w ∈ wsX10_matches := by decide +kernel
  have w_0 := hts (.fieldLink RX10 17 "MailSpool" "input" "LMailSpool$Bytes;") (by decide +kernel)
  have w_1 := hts (.fieldLink RX10 42 "MailSpool" "now" "LMailSpool$Spool;") (by decide +kernel)
  have w_2 := hts (.classLink RX10 70 "java/lang/IllegalArgumentException") (by decide +kernel)
  have w_3 := hts (.initialized "java/lang/IllegalArgumentException") (by decide +kernel)
  have hat2 : ∀ w ∈ (vx_atS RX10 74 (exn 2) exNm).filter goodWord, w.before _ s = true := fun w h => hts w ((by decide +kernel : ∀ w ∈ (vx_atS RX10 74 (exn 2) exNm).filter goodWord, w ∈ wsX10_matches) w h)
  have hGE := hGs.2.2.2.2.2.2.1
  have hGM := hGs.2.2.2.2.2.2.2.1
  unfold f_X10_matches at hf
  refine lv_aload_n hx hb dX10_matches_0 rfl (lv_at hl 0 rfl) ?_
  refine lv_iload_n hx hb dX10_matches_1 rfl (lv_at hl 1 rfl) ?_
  replace hf := obE hf
  obtain ⟨z1, hz1, hf⟩ := hf
  obtain ⟨oz1, S2⟩ := z1
  replace hf := ltE hf S2 rfl
  refine x_tcallV (As := [.int p1]) (rest := []) (S1 := S2) (o := oz1) (vr := (fun _ => none)) (P := True) hC hl.1 hW hS hGs hA tp0 rfl (show vwCl[9]? = some (RX10, TX10, 11) ∧ 9 < 11 from ⟨rfl, by decide⟩) (c_X10_needUser l hfl g ad n K s.heap.size F S0 p0 p1 tp0 oz1 S2 hz1) (cwV 1 hts gX10_matches_X10_needUser rfl rfl rfl (by decide +kernel) ⟨Nat.le_of_ble_eq_true rfl, Nat.le_of_ble_eq_true rfl⟩) rfl rfl (Nat.le_of_ble_eq_true rfl) dX10_matches_2 ⟨Nat.le_of_ble_eq_true rfl, Nat.le_of_ble_eq_true rfl⟩ (fun x5 H locs ce q9 ho hW hS hc1 hc2 hc3 => ?_) (fun r3 H locs ho hP hW hS => ?_)
  · replace hf := smL ho hf
    obtain ⟨e1, e2⟩ := so2 hf
    subst e1
    subst e2
    exact x_tout hno hlk rfl hW hS hc1 hc2 hc3 (Nat.le_of_ble_eq_true rfl) (Nat.le_of_ble_eq_true rfl)
  · replace hf := smR ho hf
    refine W.widen (k := 1) (n := 6) (Nat.le_of_ble_eq_true rfl) (Nat.le_of_ble_eq_true rfl) ?_
    refine W.eq (g2 := F0 m 5 ls []) rfl ?_
    refine lv_aload_n hx hb dX10_matches_5 rfl (lv_at hl 0 rfl) ?_
    replace hf := obE hf
    obtain ⟨j9, qj9, hf⟩ := hf
    have tj9 := x_rt hW qj9 0 ⟨by decide, rfl⟩
    refine x_getr 900 (ci := 9) (C := RX10) (T := TX10) (N := 11) 0 hC hin10 hW tp0 rfl rfl ⟨by decide, by decide, rfl, rfl⟩ rfl w_0 dX10_matches_6 qj9 ?_
    replace hf := obE hf
    obtain ⟨z10, hz10, hf⟩ := hf
    obtain ⟨r12, S11⟩ := z10
    replace hf := ltE (ltE hf r12 rfl) S11 rfl
    refine x_callV (As := []) (rest := []) (o := (some (.long (r12)))) (S1 := S11) hC hl.1 hW hS hGs hA tj9 rfl (show vwCl[0]? = some (RX0, TX0, 2) ∧ 0 < 11 from ⟨rfl, by decide⟩) (c_X0_wholeWord l g ad n K H.size F S2 j9 tj9 r12 S11 hz10) (cwV 0 hts gX10_matches_X0_wholeWord rfl rfl rfl (by decide +kernel) ⟨Nat.le_of_ble_eq_true rfl, Nat.le_of_ble_eq_true rfl⟩) rfl rfl (Nat.le_of_ble_eq_true rfl) dX10_matches_9 ⟨Nat.le_of_ble_eq_true rfl, Nat.le_of_ble_eq_true rfl⟩ (fun H locs hPz10 hW hS => ?_)
    refine W.eq (g2 := F0 m 12 ls [.long (r12)]) rfl ?_
    refine lv_lstore_n (lv' := [(2, .long (r12)), (0, .ref (ad p0)), (1, .int p1)]) hx hb dX10_matches_12 rfl hl (by decide) rfl (fun ls hl => ?_)
    refine lv_lload_n hx hb dX10_matches_13 rfl (lv_at hl 0 rfl) ?_
    refine lv_lconst (v := 0) hx hb dX10_matches_14 (by decide) ?_
    refine W.lcmp hx hb dX10_matches_15 ?_
    refine lv_if_ne (tgt := 30) hx hb dX10_matches_16 (by decide) (fun c14 => ?_) (fun c14 => ?_)
    · replace hf := ifT c14 hf
      refine lv_aload_n hx hb dX10_matches_30 rfl (lv_at hl 1 rfl) ?_
      replace hf := obE hf
      obtain ⟨j15, qj15, hf⟩ := hf
      have tj15 := x_rt hW qj15 0 ⟨by decide, rfl⟩
      refine x_getr 900 (ci := 9) (C := RX10) (T := TX10) (N := 11) 0 hC hin10 hW tp0 rfl rfl ⟨by decide, by decide, rfl, rfl⟩ rfl w_0 dX10_matches_31 qj15 ?_
      refine lv_iconst (v := 0) hx hb dX10_matches_34 (by decide) ?_
      replace hf := obE hf
      obtain ⟨S17, hz16, hf⟩ := hf
      refine x_callV (As := [.int 0]) (rest := []) (o := none) (S1 := S17) hC hl.1 hW hS hGs hA tj15 rfl (show vwCl[0]? = some (RX0, TX0, 2) ∧ 0 < 11 from ⟨rfl, by decide⟩) (c_X0_cutTo l g ad n K H.size F S11 j15 ((0 : Int32)) tj15 S17 hz16) (cwV 1 hts gX10_matches_X0_cutTo rfl rfl rfl (by decide +kernel) ⟨Nat.le_of_ble_eq_true rfl, Nat.le_of_ble_eq_true rfl⟩) rfl rfl (Nat.le_of_ble_eq_true rfl) dX10_matches_35 ⟨Nat.le_of_ble_eq_true rfl, Nat.le_of_ble_eq_true rfl⟩ (fun H locs hPz16 hW hS => ?_)
      refine W.eq (g2 := F0 m 38 ls []) rfl ?_
      refine lv_aload_n hx hb dX10_matches_38 rfl (lv_at hl 1 rfl) ?_
      replace hf := obE hf
      obtain ⟨j20, qj20, hf⟩ := hf
      have tj20 := x_rt hW qj20 7 ⟨by decide, rfl⟩
      refine x_getr 905 (ci := 9) (C := RX10) (T := TX10) (N := 11) 5 hC hin10 hW tp0 rfl rfl ⟨by decide, by decide, rfl, rfl⟩ rfl w_1 dX10_matches_39 qj20 ?_
      refine lv_iload_n hx hb dX10_matches_42 rfl (lv_at hl 2 rfl) ?_
      refine lv_lload_n hx hb dX10_matches_43 rfl (lv_at hl 0 rfl) ?_
      replace hf := obE hf
      obtain ⟨z21, hz21, hf⟩ := hf
      obtain ⟨r23, S22⟩ := z21
      replace hf := ltE (ltE hf r23 rfl) S22 rfl
      refine x_callV (As := [.int p1, .long (r12)]) (rest := []) (o := (some (.int r23))) (S1 := S22) hC hl.1 hW hS hGs hA tj20 rfl (show vwCl[7]? = some (RX8, TX8, 16) ∧ 7 < 11 from ⟨rfl, by decide⟩) (c_X8_liveWithWord l g ad n K H.size F S17 j20 p1 r12 tj20 r23 S22 hz21) (cwV 2 hts gX10_matches_X8_liveWithWord rfl rfl rfl (by decide +kernel) ⟨Nat.le_of_ble_eq_true rfl, Nat.le_of_ble_eq_true rfl⟩) rfl rfl (Nat.le_of_ble_eq_true rfl) dX10_matches_44 ⟨Nat.le_of_ble_eq_true rfl, Nat.le_of_ble_eq_true rfl⟩ (fun H locs hPz21 hW hS => ?_)
      refine W.eq (g2 := F0 m 47 ls [.int r23]) rfl ?_
      obtain ⟨e1, e2⟩ := so2 hf
      subst e1
      subst e2
      refine W.widen (k := 2) (n := 12) (Nat.le_of_ble_eq_true rfl) (Nat.le_of_ble_eq_true rfl) ?_
      exact vx_ret (W.iret (v := r23) hx hb hr (fun t ht hWm => ⟨⟨_, rfl, rfl, by unfold QB; rw [ht]; exact ⟨hW, trivial⟩⟩, hS.F ht⟩) hS.2.2 dX10_matches_47 hlk)
    · replace hf := ifF (fun q => q c14) hf
      obtain ⟨e1, e2⟩ := so2 hf
      subst e1
      subst e2
      exact x_throwSW (x := 2) (text := "not a word") hC hfl hno hl.1 hGs hS hlk w_2 w_3 (by decide +kernel) hat2 ⟨by decide +kernel, by decide +kernel, by decide +kernel⟩ dX10_matches_19 dX10_matches_22 dX10_matches_23 dX10_matches_26 dX10_matches_29 (Nat.le_of_ble_eq_true rfl) (Nat.le_of_ble_eq_true rfl) (Nat.le_of_ble_eq_true rfl) (Nat.le_of_ble_eq_true rfl) (Nat.le_of_ble_eq_true rfl) (Nat.le_of_ble_eq_true rfl) (fun t hv hq hF => ⟨⟨2, rfl, rfl, hW.kept hq, trivial⟩, hF⟩)
set_option maxHeartbeats 4000000 in
set_option maxRecDepth 100000 in
theorem c_X10_commonBytes (l : Launch) (hfl : l.stackTraces = false) (g : GP) (ad : Nat → Nat) (n : Nat) (K : Nat → Nat) (sz F : Nat) (S0 : St) (p0 : Nat) (p1 : Int32) (p2 : Int32) (tp0 : p0 < n ∧ K p0 = 9) (o9 : Nat ⊕ Int32) (S9 : St) (hf : f_X10_commonBytes F S0 p0 p1 p2 = some (o9, S9)) : vx_Met l yX10_commonBytes wsX10_commonBytes { frames := 7, cells := 2, slots := 12, locals := 121 } (va_Pc [.ref (ad p0), .int p1, .int p2] (PB g ad n K S0 sz)) (QT o9 (fun r => some (.int r)) (QB g ad n K S9 (dA ad n sz) True) (dA ad n sz)) (XT o9 (QB g ad n K S9 (dA ad n sz) True) (dA ad n sz)) 2 12 (dA ad n sz) := by
  refine vx_ofW (cc := cX10_commonBytes) (maxL := 5) (ret := (some .int)) (by decide) rfl ?_
  intro p e s m args below meth c s₁ B hml hno hv
  obtain ⟨rfl, hsz, hW, hK, hGs⟩ := x_start hv
  subst hsz
  have hx := B.exec
  have hb := B.bytes
  have hr := B.returns
  have hts := atoms_spec (ws := wsX10_commonBytes) B.pre
  have hown : s.vm.findClass RX10 = some m.cls := findClass_of_methodNamed B.named
  have hlk := B.notSynchronized
  have hC : Cx g p s m _ c cX10_commonBytes RX10 wsX10_commonBytes 5 := ⟨hx, hb, hml, hown, hts, hK⟩
  have hA : ∀ q : Nat, s.heap.size ≤ q → dA ad n s.heap.size q := fun q h => Or.inr h
  have hS : va_S (dA ad n s.heap.size) s.heap s.heap [] := va_S.rf
  have hl := lv_entry ([.ref (ad p0), .int p1, .int p2]) (n := 5) (Nat.le_of_ble_eq_true rfl)
  rw [lg_entry_eq]
  generalize (lg_sl ([.ref (ad p0), .int p1, .int p2]) ++ List.replicate (5 - (lg_sl ([.ref (ad p0), .int p1, .int p2])).length) Slot.unset).toArray = ls at hl ⊢
  have hl : lv_has ls 5 [(0, .ref (ad p0)), (1, .int p1), (2, .int p2)] := hl
  have hin0 : ∀ w ∈ wsX00, w ∈ wsX10_commonBytes := by decide +kernel
  have hin8 : ∀ w ∈ wsX80, w ∈ wsX10_commonBytes := by decide +kernel
  have hin10 : ∀ w ∈ wsX100, w ∈ wsX10_commonBytes := by decide +kernel
  have w_0 := hts (.fieldLink RX10 53 "MailSpool" "partReaders" "[I") (by decide +kernel)
  have w_1 := hts (.fieldLink RX10 42 "MailSpool" "now" "LMailSpool$Spool;") (by decide +kernel)
  have w_2 := va_Nw.use (A := (List.toArray [.ref (ad p0), .int p1, .int p2])) rfl (hGs.1 (.fieldLinkNest RX10 186 "MailSpool$Spool" "store" "LMailSpool$Store;" "MailSpool") (by decide +kernel))
  have w_3 := va_Nw.use (A := (List.toArray [.ref (ad p0), .int p1, .int p2])) rfl (hGs.1 (.fieldLinkNest RX10 57 "MailSpool$Bytes" "size" "I" "MailSpool") (by decide +kernel))
  have hGE := hGs.2.2.2.2.2.2.1
  have hGM := hGs.2.2.2.2.2.2.2.1
  have L26 : ∀ (fu26 : Nat) (S0 : St) (v0 : Nat) (v1 : Int32) (v2 : Int32) (v3 : Int32) (v4 : Int32) (tv0 : v0 < n ∧ K v0 = 9) (H : Heap) (locs : List Loc) (ls : Array Slot), f_X10_commonBytes_L26 F fu26 S0 v0 v1 v2 v3 v4 = some (o9, S9) → Wb g ad n K S0 (dA ad n s.heap.size) H → va_S (dA ad n s.heap.size) s.heap H locs → lv_has ls 5 [(0, .ref (ad v0)), (1, .int v1), (2, .int v2), (3, .int v3), (4, .int v4)] → W p l e (headSpec wsX10_commonBytes { frames := 7, cells := 2, slots := 12, locals := 121 }).room s m (List.toArray [.ref (ad p0), .int p1, .int p2]) below meth c H locs 2 12 (vx_MQ below (QT o9 (fun r => some (.int r)) (QB g ad n K S9 (dA ad n s.heap.size) True) (dA ad n s.heap.size)) (XT o9 (QB g ad n K S9 (dA ad n s.heap.size) True) (dA ad n s.heap.size)) (List.toArray [.ref (ad p0), .int p1, .int p2]) s 2 12 (dA ad n s.heap.size)) (F0 m 26 ls []) := by
    intro fu26
    induction fu26 with
    | zero =>
      intro S0 v0 v1 v2 v3 v4 tv0 H locs ls hf
      cases hf
    | succ fu26 ih26 =>
      have L82 : ∀ (S0 : St) (v0 : Nat) (v1 : Int32) (v2 : Int32) (v3 : Int32) (v4 : Int32) (tv0 : v0 < n ∧ K v0 = 9) (H : Heap) (locs : List Loc) (ls : Array Slot), f_X10_commonBytes_L82 F (fun a0 a1 a2 a3 a4 a5 => f_X10_commonBytes_L26 F fu26 a0 a1 a2 a3 a4 a5) S0 v0 v1 v2 v3 v4 = some (o9, S9) → Wb g ad n K S0 (dA ad n s.heap.size) H → va_S (dA ad n s.heap.size) s.heap H locs → lv_has ls 5 [(0, .ref (ad v0)), (1, .int v1), (2, .int v2), (3, .int v3), (4, .int v4)] → W p l e (headSpec wsX10_commonBytes { frames := 7, cells := 2, slots := 12, locals := 121 }).room s m (List.toArray [.ref (ad p0), .int p1, .int p2]) below meth c H locs 2 12 (vx_MQ below (QT o9 (fun r => some (.int r)) (QB g ad n K S9 (dA ad n s.heap.size) True) (dA ad n s.heap.size)) (XT o9 (QB g ad n K S9 (dA ad n s.heap.size) True) (dA ad n s.heap.size)) (List.toArray [.ref (ad p0), .int p1, .int p2]) s 2 12 (dA ad n s.heap.size)) (F0 m 82 ls []) := by
        intro S0 v0 v1 v2 v3 v4 tv0 H locs ls hf hW hS hl
        unfold f_X10_commonBytes_L82 at hf
        obtain ⟨x2, ex2⟩ : ∃ z : Int32, z = v4 + 1 := ⟨_, rfl⟩
        replace hf := ltE hf x2 ex2
        refine lv_iinc (v := x2) (lv' := [(4, .int x2), (0, .ref (ad v0)), (1, .int v1), (2, .int v2), (3, .int v3)]) hx hb dX10_commonBytes_82 hl (k := 4) rfl (by rw [ex2]; rfl) (by decide) rfl (fun ls hl => ?_)
        refine lv_goto (tgt := 26) hx hb dX10_commonBytes_85 (by decide) ?_
        exact ih26 S0 v0 v1 v2 v3 x2 tv0 _ _ _ hf hW hS (lv_sub hl [1, 2, 3, 4, 0] rfl)
      intro S0 v0 v1 v2 v3 v4 tv0 H locs ls hf hW hS hl
      unfold f_X10_commonBytes_L26 at hf
      refine lv_iload hx hb dX10_commonBytes_26 (lv_at hl 4 rfl) ?_
      refine lv_aload_n hx hb dX10_commonBytes_28 rfl (lv_at hl 0 rfl) ?_
      replace hf := obE hf
      obtain ⟨j27, qj27, hf⟩ := hf
      have tj27 := x_rt hW qj27 12 ⟨by decide, rfl⟩
      refine x_getr 910 (ci := 9) (C := RX10) (T := TX10) (N := 11) 10 hC hin10 hW tv0 rfl rfl ⟨by decide, by decide, rfl, rfl⟩ rfl w_0 dX10_commonBytes_29 qj27 ?_
      refine x_alen hC hW tj27 rfl ⟨by decide, by decide⟩ dX10_commonBytes_32 ?_
      refine lv_icmp_ge (tgt := 88) hx hb dX10_commonBytes_33 (by decide) (fun c28 => ?_) (fun c28 => ?_)
      · replace hf := ifT c28 hf
        refine lv_iload_n hx hb dX10_commonBytes_88 rfl (lv_at hl 3 rfl) ?_
        obtain ⟨e1, e2⟩ := so2 hf
        subst e1
        subst e2
        exact vx_ret (W.iret (v := v3) hx hb hr (fun t ht hWm => ⟨⟨_, rfl, rfl, by unfold QB; rw [ht]; exact ⟨hW, trivial⟩⟩, hS.F ht⟩) hS.2.2 dX10_commonBytes_89 hlk)
      · replace hf := ifF c28 hf
        refine lv_aload_n hx hb dX10_commonBytes_36 rfl (lv_at hl 0 rfl) ?_
        replace hf := obE hf
        obtain ⟨j29, qj29, hf⟩ := hf
        have tj29 := x_rt hW qj29 12 ⟨by decide, rfl⟩
        refine x_getr 910 (ci := 9) (C := RX10) (T := TX10) (N := 11) 10 hC hin10 hW tv0 rfl rfl ⟨by decide, by decide, rfl, rfl⟩ rfl w_0 dX10_commonBytes_37 qj29 ?_
        refine lv_iload hx hb dX10_commonBytes_40 (lv_at hl 4 rfl) ?_
        replace hf := ckiE hf
        obtain ⟨h30, hf⟩ := hf
        refine x_iald hC hW tj29 rfl rfl h30 dX10_commonBytes_42 ?_
        refine lv_iload_n hx hb dX10_commonBytes_43 rfl (lv_at hl 1 rfl) ?_
        replace hf := obE hf
        obtain ⟨z31, hz31, hf⟩ := hf
        obtain ⟨r33, S32⟩ := z31
        replace hf := ltE (ltE hf r33 rfl) S32 rfl
        refine x_callS (As := [.int (ai S0 j29 (Int32.toNatClampNeg v4)), .int v1]) (rest := []) (o := (some (.int r33))) (S1 := S32) hC hl.1 hW hS hGs hA (c_X10_hasBit l g ad n K H.size F S0 (ai S0 j29 (Int32.toNatClampNeg v4)) v1 r33 S32 hz31) (va_cwS 2 hts gX10_commonBytes_X10_hasBit rfl rfl rfl (by decide +kernel) ⟨Nat.le_of_ble_eq_true rfl, Nat.le_of_ble_eq_true rfl⟩) rfl rfl (Nat.le_of_ble_eq_true rfl) dX10_commonBytes_44 ⟨Nat.le_of_ble_eq_true rfl, Nat.le_of_ble_eq_true rfl⟩ (fun H locs hPz31 hW hS => ?_)
        refine W.eq (g2 := F0 m 47 ls [.int r33]) rfl ?_
        refine lv_if_eq (tgt := 82) hx hb dX10_commonBytes_47 (by decide) (fun c35 => ?_) (fun c35 => ?_)
        · replace hf := ifT c35 hf
          exact L82 S32 v0 v1 v2 v3 v4 tv0 _ _ _ hf hW hS (lv_sub hl [0, 1, 2, 3, 4] rfl)
        · replace hf := ifF c35 hf
          refine lv_aload_n hx hb dX10_commonBytes_50 rfl (lv_at hl 0 rfl) ?_
          replace hf := obE hf
          obtain ⟨j36, qj36, hf⟩ := hf
          have tj36 := x_rt hW qj36 12 ⟨by decide, rfl⟩
          refine x_getr 910 (ci := 9) (C := RX10) (T := TX10) (N := 11) 10 hC hin10 hW tv0 rfl rfl ⟨by decide, by decide, rfl, rfl⟩ rfl w_0 dX10_commonBytes_51 qj36 ?_
          refine lv_iload hx hb dX10_commonBytes_54 (lv_at hl 4 rfl) ?_
          replace hf := ckiE hf
          obtain ⟨h37, hf⟩ := hf
          refine x_iald hC hW tj36 rfl rfl h37 dX10_commonBytes_56 ?_
          refine lv_iload_n hx hb dX10_commonBytes_57 rfl (lv_at hl 2 rfl) ?_
          replace hf := obE hf
          obtain ⟨z38, hz38, hf⟩ := hf
          obtain ⟨r40, S39⟩ := z38
          replace hf := ltE (ltE hf r40 rfl) S39 rfl
          refine x_callS (As := [.int (ai S32 j36 (Int32.toNatClampNeg v4)), .int v2]) (rest := []) (o := (some (.int r40))) (S1 := S39) hC hl.1 hW hS hGs hA (c_X10_hasBit l g ad n K H.size F S32 (ai S32 j36 (Int32.toNatClampNeg v4)) v2 r40 S39 hz38) (va_cwS 2 hts gX10_commonBytes_X10_hasBit rfl rfl rfl (by decide +kernel) ⟨Nat.le_of_ble_eq_true rfl, Nat.le_of_ble_eq_true rfl⟩) rfl rfl (Nat.le_of_ble_eq_true rfl) dX10_commonBytes_58 ⟨Nat.le_of_ble_eq_true rfl, Nat.le_of_ble_eq_true rfl⟩ (fun H locs hPz38 hW hS => ?_)
          refine W.eq (g2 := F0 m 61 ls [.int r40]) rfl ?_
          refine lv_if_eq (tgt := 82) hx hb dX10_commonBytes_61 (by decide) (fun c42 => ?_) (fun c42 => ?_)
          · replace hf := ifT c42 hf
            exact L82 S39 v0 v1 v2 v3 v4 tv0 _ _ _ hf hW hS (lv_sub hl [0, 1, 2, 3, 4] rfl)
          · replace hf := ifF c42 hf
            refine lv_iload_n hx hb dX10_commonBytes_64 rfl (lv_at hl 3 rfl) ?_
            refine lv_aload_n hx hb dX10_commonBytes_65 rfl (lv_at hl 0 rfl) ?_
            replace hf := obE hf
            obtain ⟨j43, qj43, hf⟩ := hf
            have tj43 := x_rt hW qj43 7 ⟨by decide, rfl⟩
            refine x_getr 905 (ci := 9) (C := RX10) (T := TX10) (N := 11) 5 hC hin10 hW tv0 rfl rfl ⟨by decide, by decide, rfl, rfl⟩ rfl w_1 dX10_commonBytes_66 qj43 ?_
            replace hf := obE hf
            obtain ⟨j44, qj44, hf⟩ := hf
            have tj44 := x_rt hW qj44 8 ⟨by decide, rfl⟩
            refine x_getrN 710 (ci := 7) (C := RX8) (T := TX8) (N := 16) 10 hC hin8 hW tj43 rfl rfl ⟨by decide, by decide, rfl, rfl⟩ rfl w_2 dX10_commonBytes_69 qj44 ?_
            refine lv_iload hx hb dX10_commonBytes_72 (lv_at hl 4 rfl) ?_
            replace hf := obE hf
            obtain ⟨z45, hz45, hf⟩ := hf
            obtain ⟨r47, S46⟩ := z45
            replace hf := ltE (ltE hf r47 rfl) S46 rfl
            refine x_callV (As := [.int v4]) (rest := [.int v3]) (o := (some (va_re ad r47))) (S1 := S46) hC hl.1 hW hS hGs hA tj44 rfl (show vwCl[8]? = some (RX9, TX9, 8) ∧ 8 < 11 from ⟨rfl, by decide⟩) (c_X9_bytesOf l g ad n K H.size F S39 j44 v4 tj44 r47 S46 hz45) (cwV 1 hts gX10_commonBytes_X9_bytesOf rfl rfl rfl (by decide +kernel) ⟨Nat.le_of_ble_eq_true rfl, Nat.le_of_ble_eq_true rfl⟩) rfl rfl (Nat.le_of_ble_eq_true rfl) dX10_commonBytes_74 ⟨Nat.le_of_ble_eq_true rfl, Nat.le_of_ble_eq_true rfl⟩ (fun H locs hPz45 hW hS => ?_)
            replace hf := obE hf
            obtain ⟨j49, qj49, hf⟩ := hf
            have tj49 := hPz45 j49 qj49
            refine W.eq (g2 := F0 m 77 ls [.ref (ad j49), .int v3]) (by rw [qj49]; rfl) ?_
            refine x_getiN 1 (ci := 0) (C := RX0) (T := TX0) (N := 2) 1 hC hin0 hW tj49 rfl rfl ⟨by decide, by decide, rfl, rfl⟩ rfl w_3 dX10_commonBytes_77 ?_
            refine lv_iadd hx hb dX10_commonBytes_80 ?_
            refine lv_topi (fun x50 ex50 => ?_)
            replace hf := ltE hf x50 ex50
            refine lv_istore_n (lv' := [(3, .int x50), (0, .ref (ad v0)), (1, .int v1), (2, .int v2), (4, .int v4)]) hx hb dX10_commonBytes_81 rfl hl (by decide) rfl (fun ls hl => ?_)
            exact L82 S46 v0 v1 v2 x50 v4 tv0 _ _ _ hf hW hS (lv_sub hl [1, 2, 3, 0, 4] rfl)
  unfold f_X10_commonBytes at hf
  refine lv_aload_n hx hb dX10_commonBytes_0 rfl (lv_at hl 0 rfl) ?_
  refine lv_iload_n hx hb dX10_commonBytes_1 rfl (lv_at hl 1 rfl) ?_
  replace hf := obE hf
  obtain ⟨z51, hz51, hf⟩ := hf
  obtain ⟨oz51, S52⟩ := z51
  replace hf := ltE hf S52 rfl
  refine x_tcallV (As := [.int p1]) (rest := []) (S1 := S52) (o := oz51) (vr := (fun _ => none)) (P := True) hC hl.1 hW hS hGs hA tp0 rfl (show vwCl[9]? = some (RX10, TX10, 11) ∧ 9 < 11 from ⟨rfl, by decide⟩) (c_X10_needUser l hfl g ad n K s.heap.size F S0 p0 p1 tp0 oz51 S52 hz51) (cwV 1 hts gX10_commonBytes_X10_needUser rfl rfl rfl (by decide +kernel) ⟨Nat.le_of_ble_eq_true rfl, Nat.le_of_ble_eq_true rfl⟩) rfl rfl (Nat.le_of_ble_eq_true rfl) dX10_commonBytes_2 ⟨Nat.le_of_ble_eq_true rfl, Nat.le_of_ble_eq_true rfl⟩ (fun x55 H locs ce q9 ho hW hS hc1 hc2 hc3 => ?_) (fun r53 H locs ho hP hW hS => ?_)
  · replace hf := smL ho hf
    obtain ⟨e1, e2⟩ := so2 hf
    subst e1
    subst e2
    exact x_tout hno hlk rfl hW hS hc1 hc2 hc3 (Nat.le_of_ble_eq_true rfl) (Nat.le_of_ble_eq_true rfl)
  · replace hf := smR ho hf
    refine W.widen (k := 1) (n := 6) (Nat.le_of_ble_eq_true rfl) (Nat.le_of_ble_eq_true rfl) ?_
    refine W.eq (g2 := F0 m 5 ls []) rfl ?_
    refine lv_aload_n hx hb dX10_commonBytes_5 rfl (lv_at hl 0 rfl) ?_
    refine lv_iload_n hx hb dX10_commonBytes_6 rfl (lv_at hl 2 rfl) ?_
    replace hf := obE hf
    obtain ⟨z59, hz59, hf⟩ := hf
    obtain ⟨oz59, S60⟩ := z59
    replace hf := ltE hf S60 rfl
    refine x_tcallV (As := [.int p2]) (rest := []) (S1 := S60) (o := oz59) (vr := (fun _ => none)) (P := True) hC hl.1 hW hS hGs hA tp0 rfl (show vwCl[9]? = some (RX10, TX10, 11) ∧ 9 < 11 from ⟨rfl, by decide⟩) (c_X10_needUser l hfl g ad n K H.size F S52 p0 p2 tp0 oz59 S60 hz59) (cwV 1 hts gX10_commonBytes_X10_needUser rfl rfl rfl (by decide +kernel) ⟨Nat.le_of_ble_eq_true rfl, Nat.le_of_ble_eq_true rfl⟩) rfl rfl (Nat.le_of_ble_eq_true rfl) dX10_commonBytes_7 ⟨Nat.le_of_ble_eq_true rfl, Nat.le_of_ble_eq_true rfl⟩ (fun x63 H locs ce q9 ho hW hS hc1 hc2 hc3 => ?_) (fun r61 H locs ho hP hW hS => ?_)
    · replace hf := smL ho hf
      obtain ⟨e1, e2⟩ := so2 hf
      subst e1
      subst e2
      exact x_tout hno hlk rfl hW hS hc1 hc2 hc3 (Nat.le_of_ble_eq_true rfl) (Nat.le_of_ble_eq_true rfl)
    · replace hf := smR ho hf
      refine W.widen (k := 2) (n := 12) (Nat.le_of_ble_eq_true rfl) (Nat.le_of_ble_eq_true rfl) ?_
      refine W.eq (g2 := F0 m 10 ls []) rfl ?_
      refine lv_aload_n hx hb dX10_commonBytes_10 rfl (lv_at hl 0 rfl) ?_
      replace hf := obE hf
      obtain ⟨j67, qj67, hf⟩ := hf
      have tj67 := x_rt hW qj67 7 ⟨by decide, rfl⟩
      refine x_getr 905 (ci := 9) (C := RX10) (T := TX10) (N := 11) 5 hC hin10 hW tp0 rfl rfl ⟨by decide, by decide, rfl, rfl⟩ rfl w_1 dX10_commonBytes_11 qj67 ?_
      refine lv_aload_n hx hb dX10_commonBytes_14 rfl (lv_at hl 0 rfl) ?_
      replace hf := obE hf
      obtain ⟨j68, qj68, hf⟩ := hf
      have tj68 := x_rt hW qj68 12 ⟨by decide, rfl⟩
      refine x_getr 910 (ci := 9) (C := RX10) (T := TX10) (N := 11) 10 hC hin10 hW tp0 rfl rfl ⟨by decide, by decide, rfl, rfl⟩ rfl w_0 dX10_commonBytes_15 qj68 ?_
      replace hf := obE hf
      obtain ⟨S70, hz69, hf⟩ := hf
      refine x_callV (As := [.ref (ad j68)]) (rest := []) (o := none) (S1 := S70) hC hl.1 hW hS hGs hA tj67 rfl (show vwCl[7]? = some (RX8, TX8, 16) ∧ 7 < 11 from ⟨rfl, by decide⟩) (c_X8_gatherReaders l g ad n K H.size F S60 j67 j68 tj67 tj68 S70 hz69) (cwV 1 hts gX10_commonBytes_X8_gatherReaders rfl rfl rfl (by decide +kernel) ⟨Nat.le_of_ble_eq_true rfl, Nat.le_of_ble_eq_true rfl⟩) rfl rfl (Nat.le_of_ble_eq_true rfl) dX10_commonBytes_18 ⟨Nat.le_of_ble_eq_true rfl, Nat.le_of_ble_eq_true rfl⟩ (fun H locs hPz69 hW hS => ?_)
      refine W.eq (g2 := F0 m 21 ls []) rfl ?_
      refine lv_iconst (v := 0) hx hb dX10_commonBytes_21 (by decide) ?_
      refine lv_istore_n (lv' := [(3, .int 0), (0, .ref (ad p0)), (1, .int p1), (2, .int p2)]) hx hb dX10_commonBytes_22 rfl hl (by decide) rfl (fun ls hl => ?_)
      refine lv_iconst (v := 0) hx hb dX10_commonBytes_23 (by decide) ?_
      refine lv_istore (lv' := [(4, .int 0), (3, .int 0), (0, .ref (ad p0)), (1, .int p1), (2, .int p2)]) hx hb dX10_commonBytes_24 hl (by decide) rfl (fun ls hl => ?_)
      exact L26 F S70 p0 p1 p2 0 0 tp0 _ _ _ hf hW hS (lv_sub hl [2, 3, 4, 1, 0] rfl)
set_option maxHeartbeats 4000000 in
set_option maxRecDepth 100000 in
theorem c_X10_needLive (l : Launch) (hfl : l.stackTraces = false) (g : GP) (ad : Nat → Nat) (n : Nat) (K : Nat → Nat) (sz F : Nat) (S0 : St) (p0 : Nat) (p1 : Int32) (p2 : Int32) (tp0 : p0 < n ∧ K p0 = 9) (o9 : Nat ⊕ Unit) (S9 : St) (hf : f_X10_needLive F S0 p0 p1 p2 = some (o9, S9)) : vx_Met l yX10_needLive wsX10_needLive { frames := 6, cells := 1, slots := 6, locals := 100 } (va_Pc [.ref (ad p0), .int p1, .int p2] (PB g ad n K S0 sz)) (QT o9 (fun _ => none) (QB g ad n K S9 (dA ad n sz) True) (dA ad n sz)) (XT o9 (QB g ad n K S9 (dA ad n sz) True) (dA ad n sz)) 1 6 (dA ad n sz) := by
  refine vx_ofW (cc := cX10_needLive) (maxL := 3) (ret := none) (by decide) rfl ?_
  intro p e s m args below meth c s₁ B hml hno hv
  obtain ⟨rfl, hsz, hW, hK, hGs⟩ := x_start hv
  subst hsz
  have hx := B.exec
  have hb := B.bytes
  have hr := B.returns
  have hts := atoms_spec (ws := wsX10_needLive) B.pre
  have hown : s.vm.findClass RX10 = some m.cls := findClass_of_methodNamed B.named
  have hlk := B.notSynchronized
  have hC : Cx g p s m _ c cX10_needLive RX10 wsX10_needLive 3 := ⟨hx, hb, hml, hown, hts, hK⟩
  have hA : ∀ q : Nat, s.heap.size ≤ q → dA ad n s.heap.size q := fun q h => Or.inr h
  have hS : va_S (dA ad n s.heap.size) s.heap s.heap [] := va_S.rf
  have hl := lv_entry ([.ref (ad p0), .int p1, .int p2]) (n := 3) (Nat.le_of_ble_eq_true rfl)
  rw [lg_entry_eq]
  generalize (lg_sl ([.ref (ad p0), .int p1, .int p2]) ++ List.replicate (3 - (lg_sl ([.ref (ad p0), .int p1, .int p2])).length) Slot.unset).toArray = ls at hl ⊢
  have hl : lv_has ls 3 [(0, .ref (ad p0)), (1, .int p1), (2, .int p2)] := hl
  have hin10 : ∀ w ∈ wsX100, w ∈ wsX10_needLive := by decide +kernel
  have w_0 := hts (.fieldLink RX10 42 "MailSpool" "now" "LMailSpool$Spool;") (by decide +kernel)
  have w_1 := hts (.classLink RX10 60 "java/lang/IllegalStateException") (by decide +kernel)
  have w_2 := hts (.initialized "java/lang/IllegalStateException") (by decide +kernel)
  have hat1 : ∀ w ∈ (vx_atS RX10 64 (exn 1) exNm).filter goodWord, w.before _ s = true := fun w h => hts w ((by decide +kernel : ∀ w ∈ (vx_atS RX10 64 (exn 1) exNm).filter goodWord, w ∈ wsX10_needLive) w h)
  have hGE := hGs.2.2.2.2.2.2.1
  have hGM := hGs.2.2.2.2.2.2.2.1
  unfold f_X10_needLive at hf
  refine lv_aload_n hx hb dX10_needLive_0 rfl (lv_at hl 0 rfl) ?_
  replace hf := obE hf
  obtain ⟨j1, qj1, hf⟩ := hf
  have tj1 := x_rt hW qj1 7 ⟨by decide, rfl⟩
  refine x_getr 905 (ci := 9) (C := RX10) (T := TX10) (N := 11) 5 hC hin10 hW tp0 rfl rfl ⟨by decide, by decide, rfl, rfl⟩ rfl w_0 dX10_needLive_1 qj1 ?_
  refine lv_iload_n hx hb dX10_needLive_4 rfl (lv_at hl 1 rfl) ?_
  refine lv_iload_n hx hb dX10_needLive_5 rfl (lv_at hl 2 rfl) ?_
  replace hf := obE hf
  obtain ⟨z2, hz2, hf⟩ := hf
  obtain ⟨r4, S3⟩ := z2
  replace hf := ltE (ltE hf r4 rfl) S3 rfl
  refine x_callV (As := [.int p1, .int p2]) (rest := []) (o := (some (.int r4))) (S1 := S3) hC hl.1 hW hS hGs hA tj1 rfl (show vwCl[7]? = some (RX8, TX8, 16) ∧ 7 < 11 from ⟨rfl, by decide⟩) (c_X8_stateOf l g ad n K s.heap.size F S0 j1 p1 p2 tj1 r4 S3 hz2) (cwV 2 hts gX10_needLive_X8_stateOf rfl rfl rfl (by decide +kernel) ⟨Nat.le_of_ble_eq_true rfl, Nat.le_of_ble_eq_true rfl⟩) rfl rfl (Nat.le_of_ble_eq_true rfl) dX10_needLive_6 ⟨Nat.le_of_ble_eq_true rfl, Nat.le_of_ble_eq_true rfl⟩ (fun H locs hPz2 hW hS => ?_)
  refine W.eq (g2 := F0 m 9 ls [.int r4]) rfl ?_
  refine lv_if_eq (tgt := 23) hx hb dX10_needLive_9 (by decide) (fun c6 => ?_) (fun c6 => ?_)
  · replace hf := ifT c6 hf
    obtain ⟨e1, e2⟩ := so2 hf
    subst e1
    subst e2
    refine W.widen (k := 1) (n := 6) (Nat.le_of_ble_eq_true rfl) (Nat.le_of_ble_eq_true rfl) ?_
    exact vx_ret (W.vret hx hb hr (fun t ht hWm => ⟨⟨_, rfl, rfl, by unfold QB; rw [ht]; exact ⟨hW, trivial⟩⟩, hS.F ht⟩) hS.2.2 dX10_needLive_23 hlk)
  · replace hf := ifF c6 hf
    obtain ⟨e1, e2⟩ := so2 hf
    subst e1
    subst e2
    exact x_throwSW (x := 1) (text := "the reference is not live") hC hfl hno hl.1 hGs hS hlk w_1 w_2 (by decide +kernel) hat1 ⟨by decide +kernel, by decide +kernel, by decide +kernel⟩ dX10_needLive_12 dX10_needLive_15 dX10_needLive_16 dX10_needLive_19 dX10_needLive_22 (Nat.le_of_ble_eq_true rfl) (Nat.le_of_ble_eq_true rfl) (Nat.le_of_ble_eq_true rfl) (Nat.le_of_ble_eq_true rfl) (Nat.le_of_ble_eq_true rfl) (Nat.le_of_ble_eq_true rfl) (fun t hv hq hF => ⟨⟨1, rfl, rfl, hW.kept hq, trivial⟩, hF⟩)
set_option maxHeartbeats 4000000 in
set_option maxRecDepth 100000 in
theorem c_X8_enterClass (l : Launch) (g : GP) (ad : Nat → Nat) (n : Nat) (K : Nat → Nat) (sz F : Nat) (S0 : St) (p0 : Nat) (p1 : Int32) (p2 : Int32) (p3 : Int32) (tp0 : p0 < n ∧ K p0 = 7) (S9 : St) (hf : f_X8_enterClass F S0 p0 p1 p2 p3 = some S9) : Met l yX8_enterClass wsX8_enterClass { frames := 1, cells := 0, slots := 0, locals := 22 } (va_Pc [.ref (ad p0), .int p1, .int p2, .int p3] (PB g ad n K S0 sz)) (QR none (QB g ad n K S9 (dA ad n sz) (True)) (dA ad n sz)) 0 0 (dA ad n sz) := by
  refine Met.ofW (cc := cX8_enterClass) (maxL := 4) (ret := none) (by decide) rfl ?_
  intro p e s m args below meth c s₁ B hml hv
  obtain ⟨rfl, hsz, hW, hK, hGs⟩ := x_start hv
  subst hsz
  have hx := B.exec
  have hb := B.bytes
  have hr := B.returns
  have hts := atoms_spec (ws := wsX8_enterClass) B.pre
  have hown : s.vm.findClass RX8 = some m.cls := findClass_of_methodNamed B.named
  have hlk := B.notSynchronized
  have hC : Cx g p s m _ c cX8_enterClass RX8 wsX8_enterClass 4 := ⟨hx, hb, hml, hown, hts, hK⟩
  have hA : ∀ q : Nat, s.heap.size ≤ q → dA ad n s.heap.size q := fun q h => Or.inr h
  have hS : va_S (dA ad n s.heap.size) s.heap s.heap [] := va_S.rf
  have hl := lv_entry ([.ref (ad p0), .int p1, .int p2, .int p3]) (n := 4) (Nat.le_of_ble_eq_true rfl)
  rw [lg_entry_eq]
  generalize (lg_sl ([.ref (ad p0), .int p1, .int p2, .int p3]) ++ List.replicate (4 - (lg_sl ([.ref (ad p0), .int p1, .int p2, .int p3])).length) Slot.unset).toArray = ls at hl ⊢
  have hl : lv_has ls 4 [(0, .ref (ad p0)), (1, .int p1), (2, .int p2), (3, .int p3)] := hl
  have hin8 : ∀ w ∈ wsX80, w ∈ wsX8_enterClass := by decide +kernel
  have w_0 := hts (.fieldLink RX8 28 "MailSpool$Spool" "retentions" "[I") (by decide +kernel)
  have w_1 := va_Nw.use (A := (List.toArray [.ref (ad p0), .int p1, .int p2, .int p3])) rfl (hGs.1 (.methodLinkNest RX8 181 yX10_put "MailSpool") (by decide +kernel))
  have w_2 := hts (.initialized RX10) (by decide +kernel)
  have w_3 := hts (.static yX10_put) (by decide +kernel)
  have w_4 := hts (.fieldLink RX8 31 "MailSpool$Spool" "entered" "[I") (by decide +kernel)
  have w_5 := hts (.fieldLink RX8 66 "MailSpool$Spool" "day" "I") (by decide +kernel)
  have hGE := hGs.2.2.2.2.2.2.1
  have hGM := hGs.2.2.2.2.2.2.2.1
  unfold f_X8_enterClass at hf
  refine lv_aload_n hx hb dX8_enterClass_0 rfl (lv_at hl 0 rfl) ?_
  replace hf := obE hf
  obtain ⟨j1, qj1, hf⟩ := hf
  have tj1 := x_rt hW qj1 12 ⟨by decide, rfl⟩
  refine x_getr 708 (ci := 7) (C := RX8) (T := TX8) (N := 16) 8 hC hin8 hW tp0 rfl rfl ⟨by decide, by decide, rfl, rfl⟩ rfl w_0 dX8_enterClass_1 qj1 ?_
  refine lv_iload_n hx hb dX8_enterClass_4 rfl (lv_at hl 1 rfl) ?_
  refine lv_bipush (v := 10) hx hb dX8_enterClass_5 (by decide) ?_
  refine lv_imul hx hb dX8_enterClass_7 ?_
  refine lv_iload_n hx hb dX8_enterClass_8 rfl (lv_at hl 2 rfl) ?_
  refine lv_iadd hx hb dX8_enterClass_9 ?_
  refine lv_iload_n hx hb dX8_enterClass_10 rfl (lv_at hl 3 rfl) ?_
  replace hf := obE hf
  obtain ⟨S3, hz2, hf⟩ := hf
  refine x_callSN (As := [.ref (ad j1), .int ((p1 * 10) + p2), .int p3]) (rest := []) (o := none) (S1 := S3) hC hl.1 hW hS hGs hA (c_X10_put l g ad n K s.heap.size F S0 j1 ((p1 * 10) + p2) p3 tj1 S3 hz2) ⟨va_cnB 3 hts gX8_enterClass_X10_put_n181 rfl rfl rfl (va_Nw.of rfl w_1) w_2 (by decide +kernel) ⟨Nat.le_of_ble_eq_true rfl, Nat.le_of_ble_eq_true rfl⟩, w_3, trivial⟩ rfl rfl (Nat.le_of_ble_eq_true rfl) dX8_enterClass_11 ⟨Nat.le_of_ble_eq_true rfl, Nat.le_of_ble_eq_true rfl⟩ (fun H locs hPz2 hW hS => ?_)
  refine W.eq (g2 := F0 m 14 ls []) rfl ?_
  refine lv_aload_n hx hb dX8_enterClass_14 rfl (lv_at hl 0 rfl) ?_
  replace hf := obE hf
  obtain ⟨j6, qj6, hf⟩ := hf
  have tj6 := x_rt hW qj6 12 ⟨by decide, rfl⟩
  refine x_getr 709 (ci := 7) (C := RX8) (T := TX8) (N := 16) 9 hC hin8 hW tp0 rfl rfl ⟨by decide, by decide, rfl, rfl⟩ rfl w_4 dX8_enterClass_15 qj6 ?_
  refine lv_iload_n hx hb dX8_enterClass_18 rfl (lv_at hl 1 rfl) ?_
  refine lv_bipush (v := 10) hx hb dX8_enterClass_19 (by decide) ?_
  refine lv_imul hx hb dX8_enterClass_21 ?_
  refine lv_iload_n hx hb dX8_enterClass_22 rfl (lv_at hl 2 rfl) ?_
  refine lv_iadd hx hb dX8_enterClass_23 ?_
  refine lv_aload_n hx hb dX8_enterClass_24 rfl (lv_at hl 0 rfl) ?_
  refine x_geti 701 (ci := 7) (C := RX8) (T := TX8) (N := 16) 1 hC hin8 hW tp0 rfl rfl ⟨by decide, by decide, rfl, rfl⟩ rfl w_5 dX8_enterClass_25 ?_
  replace hf := obE hf
  obtain ⟨S8, hz7, hf⟩ := hf
  refine x_callSN (As := [.ref (ad j6), .int ((p1 * 10) + p2), .int (si S3 701 p0)]) (rest := []) (o := none) (S1 := S8) hC hl.1 hW hS hGs hA (c_X10_put l g ad n K H.size F S3 j6 ((p1 * 10) + p2) (si S3 701 p0) tj6 S8 hz7) ⟨va_cnB 3 hts gX8_enterClass_X10_put_n181 rfl rfl rfl (va_Nw.of rfl w_1) w_2 (by decide +kernel) ⟨Nat.le_of_ble_eq_true rfl, Nat.le_of_ble_eq_true rfl⟩, w_3, trivial⟩ rfl rfl (Nat.le_of_ble_eq_true rfl) dX8_enterClass_28 ⟨Nat.le_of_ble_eq_true rfl, Nat.le_of_ble_eq_true rfl⟩ (fun H locs hPz7 hW hS => ?_)
  refine W.eq (g2 := F0 m 31 ls []) rfl ?_
  have e1 := Option.some.inj hf
  subst e1
  exact W.vret hx hb hr (fun t ht hWm => ⟨⟨rfl, by unfold QB; rw [ht]; exact ⟨hW, trivial⟩⟩, hS.F ht⟩) hS.2.2 dX8_enterClass_31 hlk
set_option maxHeartbeats 4000000 in
set_option maxRecDepth 100000 in
theorem c_X10_file (l : Launch) (hfl : l.stackTraces = false) (g : GP) (ad : Nat → Nat) (n : Nat) (K : Nat → Nat) (sz F : Nat) (S0 : St) (p0 : Nat) (p1 : Int32) (p2 : Int32) (p3 : Int32) (tp0 : p0 < n ∧ K p0 = 9) (o9 : Nat ⊕ Int32) (S9 : St) (hf : f_X10_file F S0 p0 p1 p2 p3 = some (o9, S9)) : vx_Met l yX10_file wsX10_file { frames := 7, cells := 3, slots := 18, locals := 126 } (va_Pc [.ref (ad p0), .int p1, .int p2, .int p3] (PB g ad n K S0 sz)) (QT o9 (fun r => some (.int r)) (QB g ad n K S9 (dA ad n sz) True) (dA ad n sz)) (XT o9 (QB g ad n K S9 (dA ad n sz) True) (dA ad n sz)) 3 18 (dA ad n sz) := by
  refine vx_ofW (cc := cX10_file) (maxL := 5) (ret := (some .int)) (by decide) rfl ?_
  intro p e s m args below meth c s₁ B hml hno hv
  obtain ⟨rfl, hsz, hW, hK, hGs⟩ := x_start hv
  subst hsz
  have hx := B.exec
  have hb := B.bytes
  have hr := B.returns
  have hts := atoms_spec (ws := wsX10_file) B.pre
  have hown : s.vm.findClass RX10 = some m.cls := findClass_of_methodNamed B.named
  have hlk := B.notSynchronized
  have hC : Cx g p s m _ c cX10_file RX10 wsX10_file 5 := ⟨hx, hb, hml, hown, hts, hK⟩
  have hA : ∀ q : Nat, s.heap.size ≤ q → dA ad n s.heap.size q := fun q h => Or.inr h
  have hS : va_S (dA ad n s.heap.size) s.heap s.heap [] := va_S.rf
  have hl := lv_entry ([.ref (ad p0), .int p1, .int p2, .int p3]) (n := 5) (Nat.le_of_ble_eq_true rfl)
  rw [lg_entry_eq]
  generalize (lg_sl ([.ref (ad p0), .int p1, .int p2, .int p3]) ++ List.replicate (5 - (lg_sl ([.ref (ad p0), .int p1, .int p2, .int p3])).length) Slot.unset).toArray = ls at hl ⊢
  have hl : lv_has ls 5 [(0, .ref (ad p0)), (1, .int p1), (2, .int p2), (3, .int p3)] := hl
  have hin8 : ∀ w ∈ wsX80, w ∈ wsX10_file := by decide +kernel
  have hin10 : ∀ w ∈ wsX100, w ∈ wsX10_file := by decide +kernel
  have w_0 := hts (.fieldLink RX10 42 "MailSpool" "now" "LMailSpool$Spool;") (by decide +kernel)
  have w_1 := va_Nw.use (A := (List.toArray [.ref (ad p0), .int p1, .int p2, .int p3])) rfl (hGs.1 (.fieldLinkNest RX10 241 "MailSpool$Spool" "entered" "[I" "MailSpool") (by decide +kernel))
  have w_2 := va_Nw.use (A := (List.toArray [.ref (ad p0), .int p1, .int p2, .int p3])) rfl (hGs.1 (.fieldLinkNest RX10 166 "MailSpool$Spool" "day" "I" "MailSpool") (by decide +kernel))
  have hGE := hGs.2.2.2.2.2.2.1
  have hGM := hGs.2.2.2.2.2.2.2.1
  have L60 : ∀ (S0 : St) (v0 : Nat) (v1 : Int32) (v2 : Int32) (v3 : Int32) (v4 : Int32) (tv0 : v0 < n ∧ K v0 = 9) (H : Heap) (locs : List Loc) (ls : Array Slot), f_X10_file_L60 F S0 v0 v1 v2 v3 v4 = some (o9, S9) → Wb g ad n K S0 (dA ad n s.heap.size) H → va_S (dA ad n s.heap.size) s.heap H locs → lv_has ls 5 [(0, .ref (ad v0)), (1, .int v1), (2, .int v2), (3, .int v3), (4, .int v4)] → W p l e (headSpec wsX10_file { frames := 7, cells := 3, slots := 18, locals := 126 }).room s m (List.toArray [.ref (ad p0), .int p1, .int p2, .int p3]) below meth c H locs 3 18 (vx_MQ below (QT o9 (fun r => some (.int r)) (QB g ad n K S9 (dA ad n s.heap.size) True) (dA ad n s.heap.size)) (XT o9 (QB g ad n K S9 (dA ad n s.heap.size) True) (dA ad n s.heap.size)) (List.toArray [.ref (ad p0), .int p1, .int p2, .int p3]) s 3 18 (dA ad n s.heap.size)) (F0 m 60 ls []) := by
    intro S0 v0 v1 v2 v3 v4 tv0 H locs ls hf hW hS hl
    unfold f_X10_file_L60 at hf
    refine lv_aload_n hx hb dX10_file_60 rfl (lv_at hl 0 rfl) ?_
    replace hf := obE hf
    obtain ⟨S11, hz10, hf⟩ := hf
    refine x_callV (As := []) (rest := []) (o := none) (S1 := S11) hC hl.1 hW hS hGs hA tv0 rfl (show vwCl[9]? = some (RX10, TX10, 11) ∧ 9 < 11 from ⟨rfl, by decide⟩) (c_X10_remember l g ad n K H.size F S0 v0 tv0 S11 hz10) (cwV 0 hts gX10_file_X10_remember rfl rfl rfl (by decide +kernel) ⟨Nat.le_of_ble_eq_true rfl, Nat.le_of_ble_eq_true rfl⟩) rfl rfl (Nat.le_of_ble_eq_true rfl) dX10_file_61 ⟨Nat.le_of_ble_eq_true rfl, Nat.le_of_ble_eq_true rfl⟩ (fun H locs hPz10 hW hS => ?_)
    refine W.eq (g2 := F0 m 64 ls []) rfl ?_
    refine lv_aload_n hx hb dX10_file_64 rfl (lv_at hl 0 rfl) ?_
    replace hf := obE hf
    obtain ⟨j14, qj14, hf⟩ := hf
    have tj14 := x_rt hW qj14 7 ⟨by decide, rfl⟩
    refine x_getr 905 (ci := 9) (C := RX10) (T := TX10) (N := 11) 5 hC hin10 hW tv0 rfl rfl ⟨by decide, by decide, rfl, rfl⟩ rfl w_0 dX10_file_65 qj14 ?_
    refine lv_iload_n hx hb dX10_file_68 rfl (lv_at hl 1 rfl) ?_
    refine lv_iload_n hx hb dX10_file_69 rfl (lv_at hl 2 rfl) ?_
    refine lv_iload_n hx hb dX10_file_70 rfl (lv_at hl 3 rfl) ?_
    replace hf := obE hf
    obtain ⟨S16, hz15, hf⟩ := hf
    refine x_callV (As := [.int v1, .int v2, .int v3]) (rest := []) (o := none) (S1 := S16) hC hl.1 hW hS hGs hA tj14 rfl (show vwCl[7]? = some (RX8, TX8, 16) ∧ 7 < 11 from ⟨rfl, by decide⟩) (c_X8_enterClass l g ad n K H.size F S11 j14 v1 v2 v3 tj14 S16 hz15) (cwV 3 hts gX10_file_X8_enterClass rfl rfl rfl (by decide +kernel) ⟨Nat.le_of_ble_eq_true rfl, Nat.le_of_ble_eq_true rfl⟩) rfl rfl (Nat.le_of_ble_eq_true rfl) dX10_file_71 ⟨Nat.le_of_ble_eq_true rfl, Nat.le_of_ble_eq_true rfl⟩ (fun H locs hPz15 hW hS => ?_)
    refine W.eq (g2 := F0 m 74 ls []) rfl ?_
    refine lv_iload hx hb dX10_file_74 (lv_at hl 4 rfl) ?_
    obtain ⟨e1, e2⟩ := so2 hf
    subst e1
    subst e2
    exact vx_ret (W.iret (v := v4) hx hb hr (fun t ht hWm => ⟨⟨_, rfl, rfl, by unfold QB; rw [ht]; exact ⟨hW, trivial⟩⟩, hS.F ht⟩) hS.2.2 dX10_file_76 hlk)
  unfold f_X10_file at hf
  refine lv_aload_n hx hb dX10_file_0 rfl (lv_at hl 0 rfl) ?_
  refine lv_iload_n hx hb dX10_file_1 rfl (lv_at hl 3 rfl) ?_
  replace hf := obE hf
  obtain ⟨z19, hz19, hf⟩ := hf
  obtain ⟨oz19, S20⟩ := z19
  replace hf := ltE hf S20 rfl
  refine x_tcallV (As := [.int p3]) (rest := []) (S1 := S20) (o := oz19) (vr := (fun _ => none)) (P := True) hC hl.1 hW hS hGs hA tp0 rfl (show vwCl[9]? = some (RX10, TX10, 11) ∧ 9 < 11 from ⟨rfl, by decide⟩) (c_X10_needClass l hfl g ad n K s.heap.size F S0 p0 p3 tp0 oz19 S20 hz19) (cwV 1 hts gX10_file_X10_needClass rfl rfl rfl (by decide +kernel) ⟨Nat.le_of_ble_eq_true rfl, Nat.le_of_ble_eq_true rfl⟩) rfl rfl (Nat.le_of_ble_eq_true rfl) dX10_file_2 ⟨Nat.le_of_ble_eq_true rfl, Nat.le_of_ble_eq_true rfl⟩ (fun x23 H locs ce q9 ho hW hS hc1 hc2 hc3 => ?_) (fun r21 H locs ho hP hW hS => ?_)
  · replace hf := smL ho hf
    obtain ⟨e1, e2⟩ := so2 hf
    subst e1
    subst e2
    exact x_tout hno hlk rfl hW hS hc1 hc2 hc3 (Nat.le_of_ble_eq_true rfl) (Nat.le_of_ble_eq_true rfl)
  · replace hf := smR ho hf
    refine W.widen (k := 1) (n := 6) (Nat.le_of_ble_eq_true rfl) (Nat.le_of_ble_eq_true rfl) ?_
    refine W.eq (g2 := F0 m 5 ls []) rfl ?_
    refine lv_aload_n hx hb dX10_file_5 rfl (lv_at hl 0 rfl) ?_
    refine lv_iload_n hx hb dX10_file_6 rfl (lv_at hl 1 rfl) ?_
    refine lv_iload_n hx hb dX10_file_7 rfl (lv_at hl 2 rfl) ?_
    replace hf := obE hf
    obtain ⟨z27, hz27, hf⟩ := hf
    obtain ⟨oz27, S28⟩ := z27
    replace hf := ltE hf S28 rfl
    refine x_tcallV (As := [.int p1, .int p2]) (rest := []) (S1 := S28) (o := oz27) (vr := (fun _ => none)) (P := True) hC hl.1 hW hS hGs hA tp0 rfl (show vwCl[9]? = some (RX10, TX10, 11) ∧ 9 < 11 from ⟨rfl, by decide⟩) (c_X10_needReference l hfl g ad n K H.size F S20 p0 p1 p2 tp0 oz27 S28 hz27) (cwV 2 hts gX10_file_X10_needReference rfl rfl rfl (by decide +kernel) ⟨Nat.le_of_ble_eq_true rfl, Nat.le_of_ble_eq_true rfl⟩) rfl rfl (Nat.le_of_ble_eq_true rfl) dX10_file_8 ⟨Nat.le_of_ble_eq_true rfl, Nat.le_of_ble_eq_true rfl⟩ (fun x31 H locs ce q9 ho hW hS hc1 hc2 hc3 => ?_) (fun r29 H locs ho hP hW hS => ?_)
    · replace hf := smL ho hf
      obtain ⟨e1, e2⟩ := so2 hf
      subst e1
      subst e2
      exact x_tout hno hlk rfl hW hS hc1 hc2 hc3 (Nat.le_of_ble_eq_true rfl) (Nat.le_of_ble_eq_true rfl)
    · replace hf := smR ho hf
      refine W.widen (k := 2) (n := 12) (Nat.le_of_ble_eq_true rfl) (Nat.le_of_ble_eq_true rfl) ?_
      refine W.eq (g2 := F0 m 11 ls []) rfl ?_
      refine lv_aload_n hx hb dX10_file_11 rfl (lv_at hl 0 rfl) ?_
      refine lv_iload_n hx hb dX10_file_12 rfl (lv_at hl 1 rfl) ?_
      refine lv_iload_n hx hb dX10_file_13 rfl (lv_at hl 2 rfl) ?_
      replace hf := obE hf
      obtain ⟨z35, hz35, hf⟩ := hf
      obtain ⟨oz35, S36⟩ := z35
      replace hf := ltE hf S36 rfl
      refine x_tcallV (As := [.int p1, .int p2]) (rest := []) (S1 := S36) (o := oz35) (vr := (fun _ => none)) (P := True) hC hl.1 hW hS hGs hA tp0 rfl (show vwCl[9]? = some (RX10, TX10, 11) ∧ 9 < 11 from ⟨rfl, by decide⟩) (c_X10_needLive l hfl g ad n K H.size F S28 p0 p1 p2 tp0 oz35 S36 hz35) (cwV 2 hts gX10_file_X10_needLive rfl rfl rfl (by decide +kernel) ⟨Nat.le_of_ble_eq_true rfl, Nat.le_of_ble_eq_true rfl⟩) rfl rfl (Nat.le_of_ble_eq_true rfl) dX10_file_14 ⟨Nat.le_of_ble_eq_true rfl, Nat.le_of_ble_eq_true rfl⟩ (fun x39 H locs ce q9 ho hW hS hc1 hc2 hc3 => ?_) (fun r37 H locs ho hP hW hS => ?_)
      · replace hf := smL ho hf
        obtain ⟨e1, e2⟩ := so2 hf
        subst e1
        subst e2
        exact x_tout hno hlk rfl hW hS hc1 hc2 hc3 (Nat.le_of_ble_eq_true rfl) (Nat.le_of_ble_eq_true rfl)
      · replace hf := smR ho hf
        refine W.widen (k := 3) (n := 18) (Nat.le_of_ble_eq_true rfl) (Nat.le_of_ble_eq_true rfl) ?_
        refine W.eq (g2 := F0 m 17 ls []) rfl ?_
        refine lv_aload_n hx hb dX10_file_17 rfl (lv_at hl 0 rfl) ?_
        replace hf := obE hf
        obtain ⟨j43, qj43, hf⟩ := hf
        have tj43 := x_rt hW qj43 7 ⟨by decide, rfl⟩
        refine x_getr 905 (ci := 9) (C := RX10) (T := TX10) (N := 11) 5 hC hin10 hW tp0 rfl rfl ⟨by decide, by decide, rfl, rfl⟩ rfl w_0 dX10_file_18 qj43 ?_
        refine lv_iload_n hx hb dX10_file_21 rfl (lv_at hl 1 rfl) ?_
        refine lv_iload_n hx hb dX10_file_22 rfl (lv_at hl 2 rfl) ?_
        replace hf := obE hf
        obtain ⟨z44, hz44, hf⟩ := hf
        obtain ⟨r46, S45⟩ := z44
        replace hf := ltE (ltE hf r46 rfl) S45 rfl
        refine x_callV (As := [.int p1, .int p2]) (rest := []) (o := (some (.int r46))) (S1 := S45) hC hl.1 hW hS hGs hA tj43 rfl (show vwCl[7]? = some (RX8, TX8, 16) ∧ 7 < 11 from ⟨rfl, by decide⟩) (c_X8_retentionOf l g ad n K H.size F S36 j43 p1 p2 tj43 r46 S45 hz44) (cwV 2 hts gX10_file_X8_retentionOf rfl rfl rfl (by decide +kernel) ⟨Nat.le_of_ble_eq_true rfl, Nat.le_of_ble_eq_true rfl⟩) rfl rfl (Nat.le_of_ble_eq_true rfl) dX10_file_23 ⟨Nat.le_of_ble_eq_true rfl, Nat.le_of_ble_eq_true rfl⟩ (fun H locs hPz44 hW hS => ?_)
        refine W.eq (g2 := F0 m 26 ls [.int r46]) rfl ?_
        refine lv_istore (lv' := [(4, .int r46), (0, .ref (ad p0)), (1, .int p1), (2, .int p2), (3, .int p3)]) hx hb dX10_file_26 hl (by decide) rfl (fun ls hl => ?_)
        refine lv_iload hx hb dX10_file_28 (lv_at hl 0 rfl) ?_
        refine lv_iload_n hx hb dX10_file_30 rfl (lv_at hl 4 rfl) ?_
        refine lv_icmp_ne (tgt := 60) hx hb dX10_file_31 (by decide) (fun c48 => ?_) (fun c48 => ?_)
        · replace hf := ifT c48 hf
          exact L60 S45 p0 p1 p2 p3 r46 tp0 _ _ _ hf hW hS (lv_sub hl [1, 2, 3, 4, 0] rfl)
        · replace hf := ifF (fun q => q c48) hf
          refine lv_aload_n hx hb dX10_file_34 rfl (lv_at hl 1 rfl) ?_
          replace hf := obE hf
          obtain ⟨j49, qj49, hf⟩ := hf
          have tj49 := x_rt hW qj49 7 ⟨by decide, rfl⟩
          refine x_getr 905 (ci := 9) (C := RX10) (T := TX10) (N := 11) 5 hC hin10 hW tp0 rfl rfl ⟨by decide, by decide, rfl, rfl⟩ rfl w_0 dX10_file_35 qj49 ?_
          replace hf := obE hf
          obtain ⟨j50, qj50, hf⟩ := hf
          have tj50 := x_rt hW qj50 12 ⟨by decide, rfl⟩
          refine x_getrN 709 (ci := 7) (C := RX8) (T := TX8) (N := 16) 9 hC hin8 hW tj49 rfl rfl ⟨by decide, by decide, rfl, rfl⟩ rfl w_1 dX10_file_38 qj50 ?_
          refine lv_iload_n hx hb dX10_file_41 rfl (lv_at hl 2 rfl) ?_
          refine lv_bipush (v := 10) hx hb dX10_file_42 (by decide) ?_
          refine lv_imul hx hb dX10_file_44 ?_
          refine lv_iload_n hx hb dX10_file_45 rfl (lv_at hl 3 rfl) ?_
          refine lv_iadd hx hb dX10_file_46 ?_
          replace hf := obE hf
          obtain ⟨z51, hz51, hf⟩ := hf
          obtain ⟨r53, S52⟩ := z51
          replace hf := ltE (ltE hf r53 rfl) S52 rfl
          refine x_callS (As := [.ref (ad j50), .int ((p1 * 10) + p2)]) (rest := []) (o := (some (.int r53))) (S1 := S52) hC hl.1 hW hS hGs hA (c_X10_at l g ad n K H.size F S45 j50 ((p1 * 10) + p2) tj50 r53 S52 hz51) (va_cwS 2 hts gX10_file_X10_at rfl rfl rfl (by decide +kernel) ⟨Nat.le_of_ble_eq_true rfl, Nat.le_of_ble_eq_true rfl⟩) rfl rfl (Nat.le_of_ble_eq_true rfl) dX10_file_47 ⟨Nat.le_of_ble_eq_true rfl, Nat.le_of_ble_eq_true rfl⟩ (fun H locs hPz51 hW hS => ?_)
          refine W.eq (g2 := F0 m 50 ls [.int r53]) rfl ?_
          refine lv_aload_n hx hb dX10_file_50 rfl (lv_at hl 1 rfl) ?_
          replace hf := obE hf
          obtain ⟨j55, qj55, hf⟩ := hf
          have tj55 := x_rt hW qj55 7 ⟨by decide, rfl⟩
          refine x_getr 905 (ci := 9) (C := RX10) (T := TX10) (N := 11) 5 hC hin10 hW tp0 rfl rfl ⟨by decide, by decide, rfl, rfl⟩ rfl w_0 dX10_file_51 qj55 ?_
          refine x_getiN 701 (ci := 7) (C := RX8) (T := TX8) (N := 16) 1 hC hin8 hW tj55 rfl rfl ⟨by decide, by decide, rfl, rfl⟩ rfl w_2 dX10_file_54 ?_
          refine lv_icmp_eq (tgt := 74) hx hb dX10_file_57 (by decide) (fun c56 => ?_) (fun c56 => ?_)
          · replace hf := ifT c56 hf
            refine lv_iload hx hb dX10_file_74 (lv_at hl 0 rfl) ?_
            obtain ⟨e1, e2⟩ := so2 hf
            subst e1
            subst e2
            exact vx_ret (W.iret (v := r46) hx hb hr (fun t ht hWm => ⟨⟨_, rfl, rfl, by unfold QB; rw [ht]; exact ⟨hW, trivial⟩⟩, hS.F ht⟩) hS.2.2 dX10_file_76 hlk)
          · replace hf := ifF c56 hf
            exact L60 S52 p0 p1 p2 p3 r46 tp0 _ _ _ hf hW hS (lv_sub hl [1, 2, 3, 4, 0] rfl)
set_option maxHeartbeats 4000000 in
set_option maxRecDepth 100000 in
theorem c_X4_partAbove (l : Launch) (g : GP) (ad : Nat → Nat) (n : Nat) (K : Nat → Nat) (sz F : Nat) (S0 : St) (p0 : Nat) (p1 : Int32) (tp0 : p0 < n ∧ K p0 = 3) (r9 : Int32) (S9 : St) (hf : f_X4_partAbove F S0 p0 p1 = some (r9, S9)) : Met l yX4_partAbove wsX4_partAbove { frames := 0, cells := 0, slots := 0, locals := 0 } (va_Pc [.ref (ad p0), .int p1] (PB g ad n K S0 sz)) (QR (some (.int r9)) (QB g ad n K S9 (dA ad n sz) (True)) (dA ad n sz)) 0 0 (dA ad n sz) := by
  refine Met.ofW (cc := cX4_partAbove) (maxL := 7) (ret := (some .int)) (by decide) rfl ?_
  intro p e s m args below meth c s₁ B hml hv
  obtain ⟨rfl, hsz, hW, hK, hGs⟩ := x_start hv
  subst hsz
  have hx := B.exec
  have hb := B.bytes
  have hr := B.returns
  have hts := atoms_spec (ws := wsX4_partAbove) B.pre
  have hown : s.vm.findClass RX4 = some m.cls := findClass_of_methodNamed B.named
  have hlk := B.notSynchronized
  have hC : Cx g p s m _ c cX4_partAbove RX4 wsX4_partAbove 7 := ⟨hx, hb, hml, hown, hts, hK⟩
  have hA : ∀ q : Nat, s.heap.size ≤ q → dA ad n s.heap.size q := fun q h => Or.inr h
  have hS : va_S (dA ad n s.heap.size) s.heap s.heap [] := va_S.rf
  have hl := lv_entry ([.ref (ad p0), .int p1]) (n := 7) (Nat.le_of_ble_eq_true rfl)
  rw [lg_entry_eq]
  generalize (lg_sl ([.ref (ad p0), .int p1]) ++ List.replicate (7 - (lg_sl ([.ref (ad p0), .int p1])).length) Slot.unset).toArray = ls at hl ⊢
  have hl : lv_has ls 7 [(0, .ref (ad p0)), (1, .int p1)] := hl
  have hin4 : ∀ w ∈ wsX40, w ∈ wsX4_partAbove := by decide +kernel
  have w_0 := hts (.fieldLink RX4 27 "MailSpool$Message" "parts" "[I") (by decide +kernel)
  have hGE := hGs.2.2.2.2.2.2.1
  have hGM := hGs.2.2.2.2.2.2.2.1
  have L14 : ∀ (fu14 : Nat) (S0 : St) (v1 : Int32) (v2 : Int32) (v3 : Nat) (v4 : Int32) (v5 : Int32) (tv3 : v3 < n ∧ K v3 = 12) (H : Heap) (locs : List Loc) (ls : Array Slot), f_X4_partAbove_L14 F fu14 S0 v1 v2 v3 v4 v5 = some (r9, S9) → Wb g ad n K S0 (dA ad n s.heap.size) H → va_S (dA ad n s.heap.size) s.heap H locs → lv_has ls 7 [(1, .int v1), (2, .int v2), (3, .ref (ad v3)), (4, .int v4), (5, .int v5)] → W p l e (headSpec wsX4_partAbove { frames := 0, cells := 0, slots := 0, locals := 0 }).room s m (List.toArray [.ref (ad p0), .int p1]) below meth c H locs 0 0 (MQ below (QR (some (.int r9)) (QB g ad n K S9 (dA ad n s.heap.size) (True)) (dA ad n s.heap.size)) (List.toArray [.ref (ad p0), .int p1]) s 0 0 (dA ad n s.heap.size)) (F0 m 14 ls []) := by
    intro fu14
    induction fu14 with
    | zero =>
      intro S0 v1 v2 v3 v4 v5 tv3 H locs ls hf
      cases hf
    | succ fu14 ih14 =>
      have L47 : ∀ (S0 : St) (v1 : Int32) (v2 : Int32) (v3 : Nat) (v4 : Int32) (v5 : Int32) (tv3 : v3 < n ∧ K v3 = 12) (H : Heap) (locs : List Loc) (ls : Array Slot), f_X4_partAbove_L47 F (fun a0 a1 a2 a3 a4 a5 => f_X4_partAbove_L14 F fu14 a0 a1 a2 a3 a4 a5) S0 v1 v2 v3 v4 v5 = some (r9, S9) → Wb g ad n K S0 (dA ad n s.heap.size) H → va_S (dA ad n s.heap.size) s.heap H locs → lv_has ls 7 [(1, .int v1), (2, .int v2), (3, .ref (ad v3)), (4, .int v4), (5, .int v5)] → W p l e (headSpec wsX4_partAbove { frames := 0, cells := 0, slots := 0, locals := 0 }).room s m (List.toArray [.ref (ad p0), .int p1]) below meth c H locs 0 0 (MQ below (QR (some (.int r9)) (QB g ad n K S9 (dA ad n s.heap.size) (True)) (dA ad n s.heap.size)) (List.toArray [.ref (ad p0), .int p1]) s 0 0 (dA ad n s.heap.size)) (F0 m 47 ls []) := by
        intro S0 v1 v2 v3 v4 v5 tv3 H locs ls hf hW hS hl
        unfold f_X4_partAbove_L47 at hf
        obtain ⟨x2, ex2⟩ : ∃ z : Int32, z = v5 + 1 := ⟨_, rfl⟩
        replace hf := ltE hf x2 ex2
        refine lv_iinc (v := x2) (lv' := [(5, .int x2), (1, .int v1), (2, .int v2), (3, .ref (ad v3)), (4, .int v4)]) hx hb dX4_partAbove_47 hl (k := 4) rfl (by rw [ex2]; rfl) (by decide) rfl (fun ls hl => ?_)
        refine lv_goto (tgt := 14) hx hb dX4_partAbove_50 (by decide) ?_
        exact ih14 S0 v1 v2 v3 v4 x2 tv3 _ _ _ hf hW hS (lv_sub hl [1, 2, 3, 4, 0] rfl)
      have L44 : ∀ (S0 : St) (v1 : Int32) (v3 : Nat) (v4 : Int32) (v5 : Int32) (v6 : Int32) (tv3 : v3 < n ∧ K v3 = 12) (H : Heap) (locs : List Loc) (ls : Array Slot), f_X4_partAbove_L44 F (fun a0 a1 a2 a3 a4 a5 => f_X4_partAbove_L14 F fu14 a0 a1 a2 a3 a4 a5) S0 v1 v3 v4 v5 v6 = some (r9, S9) → Wb g ad n K S0 (dA ad n s.heap.size) H → va_S (dA ad n s.heap.size) s.heap H locs → lv_has ls 7 [(1, .int v1), (3, .ref (ad v3)), (4, .int v4), (5, .int v5), (6, .int v6)] → W p l e (headSpec wsX4_partAbove { frames := 0, cells := 0, slots := 0, locals := 0 }).room s m (List.toArray [.ref (ad p0), .int p1]) below meth c H locs 0 0 (MQ below (QR (some (.int r9)) (QB g ad n K S9 (dA ad n s.heap.size) (True)) (dA ad n s.heap.size)) (List.toArray [.ref (ad p0), .int p1]) s 0 0 (dA ad n s.heap.size)) (F0 m 44 ls []) := by
        intro S0 v1 v3 v4 v5 v6 tv3 H locs ls hf hW hS hl
        unfold f_X4_partAbove_L44 at hf
        refine lv_iload hx hb dX4_partAbove_44 (lv_at hl 4 rfl) ?_
        refine lv_istore_n (lv' := [(2, .int v6), (1, .int v1), (3, .ref (ad v3)), (4, .int v4), (5, .int v5), (6, .int v6)]) hx hb dX4_partAbove_46 rfl hl (by decide) rfl (fun ls hl => ?_)
        exact L47 S0 v1 v6 v3 v4 v5 tv3 _ _ _ hf hW hS (lv_sub hl [1, 0, 2, 3, 4] rfl)
      intro S0 v1 v2 v3 v4 v5 tv3 H locs ls hf hW hS hl
      unfold f_X4_partAbove_L14 at hf
      refine lv_iload hx hb dX4_partAbove_14 (lv_at hl 4 rfl) ?_
      refine lv_iload hx hb dX4_partAbove_16 (lv_at hl 3 rfl) ?_
      refine lv_icmp_ge (tgt := 53) hx hb dX4_partAbove_18 (by decide) (fun c9 => ?_) (fun c9 => ?_)
      · replace hf := ifT c9 hf
        refine lv_iload_n hx hb dX4_partAbove_53 rfl (lv_at hl 1 rfl) ?_
        obtain ⟨e1, e2⟩ := so2 hf
        subst e1
        subst e2
        exact W.iret (v := v2) hx hb hr (fun t ht hWm => ⟨⟨rfl, by unfold QB; rw [ht]; exact ⟨hW, trivial⟩⟩, hS.F ht⟩) hS.2.2 dX4_partAbove_54 hlk
      · replace hf := ifF c9 hf
        refine lv_aload_n hx hb dX4_partAbove_21 rfl (lv_at hl 2 rfl) ?_
        refine lv_iload hx hb dX4_partAbove_22 (lv_at hl 4 rfl) ?_
        replace hf := ckiE hf
        obtain ⟨h10, hf⟩ := hf
        refine x_iald hC hW tv3 rfl rfl h10 dX4_partAbove_24 ?_
        refine lv_topi (fun x11 ex11 => ?_)
        replace hf := ltE hf x11 ex11
        refine lv_istore (lv' := [(6, .int x11), (1, .int v1), (2, .int v2), (3, .ref (ad v3)), (4, .int v4), (5, .int v5)]) hx hb dX4_partAbove_25 hl (by decide) rfl (fun ls hl => ?_)
        refine lv_iload hx hb dX4_partAbove_27 (lv_at hl 0 rfl) ?_
        refine lv_iload_n hx hb dX4_partAbove_29 rfl (lv_at hl 1 rfl) ?_
        refine lv_icmp_le (tgt := 47) hx hb dX4_partAbove_30 (by decide) (fun c12 => ?_) (fun c12 => ?_)
        · replace hf := ifT c12 hf
          exact L47 S0 v1 v2 v3 v4 v5 tv3 _ _ _ hf hW hS (lv_sub hl [1, 2, 3, 4, 5] rfl)
        · replace hf := ifF c12 hf
          refine lv_iload_n hx hb dX4_partAbove_33 rfl (lv_at hl 2 rfl) ?_
          refine lv_iconst (v := -1) hx hb dX4_partAbove_34 (by decide) ?_
          refine lv_icmp_eq (tgt := 44) hx hb dX4_partAbove_35 (by decide) (fun c13 => ?_) (fun c13 => ?_)
          · replace hf := ifT c13 hf
            exact L44 S0 v1 v3 v4 v5 x11 tv3 _ _ _ hf hW hS (lv_sub hl [1, 3, 4, 5, 0] rfl)
          · replace hf := ifF c13 hf
            refine lv_iload hx hb dX4_partAbove_38 (lv_at hl 0 rfl) ?_
            refine lv_iload_n hx hb dX4_partAbove_40 rfl (lv_at hl 2 rfl) ?_
            refine lv_icmp_ge (tgt := 47) hx hb dX4_partAbove_41 (by decide) (fun c14 => ?_) (fun c14 => ?_)
            · replace hf := ifT c14 hf
              exact L47 S0 v1 v2 v3 v4 v5 tv3 _ _ _ hf hW hS (lv_sub hl [1, 2, 3, 4, 5] rfl)
            · replace hf := ifF c14 hf
              exact L44 S0 v1 v3 v4 v5 x11 tv3 _ _ _ hf hW hS (lv_sub hl [1, 3, 4, 5, 0] rfl)
  unfold f_X4_partAbove at hf
  refine lv_iconst (v := -1) hx hb dX4_partAbove_0 (by decide) ?_
  refine lv_topi (fun x15 ex15 => ?_)
  replace hf := ltE hf x15 ex15
  refine lv_istore_n (lv' := [(2, .int x15), (0, .ref (ad p0)), (1, .int p1)]) hx hb dX4_partAbove_1 rfl hl (by decide) rfl (fun ls hl => ?_)
  refine lv_aload_n hx hb dX4_partAbove_2 rfl (lv_at hl 1 rfl) ?_
  replace hf := obE hf
  obtain ⟨j16, qj16, hf⟩ := hf
  have tj16 := x_rt hW qj16 12 ⟨by decide, rfl⟩
  refine x_getr 303 (ci := 3) (C := RX4) (T := TX4) (N := 5) 3 hC hin4 hW tp0 rfl rfl ⟨by decide, by decide, rfl, rfl⟩ rfl w_0 dX4_partAbove_3 qj16 ?_
  refine lv_astore_n (lv' := [(3, .ref (ad j16)), (2, .int x15), (0, .ref (ad p0)), (1, .int p1)]) hx hb dX4_partAbove_6 rfl hl (by decide) rfl (fun ls hl => ?_)
  refine lv_aload_n hx hb dX4_partAbove_7 rfl (lv_at hl 0 rfl) ?_
  refine x_alen hC hW tj16 rfl ⟨by decide, by decide⟩ dX4_partAbove_8 ?_
  refine lv_topi (fun x17 ex17 => ?_)
  replace hf := ltE hf x17 ex17
  refine lv_istore (lv' := [(4, .int x17), (3, .ref (ad j16)), (2, .int x15), (0, .ref (ad p0)), (1, .int p1)]) hx hb dX4_partAbove_9 hl (by decide) rfl (fun ls hl => ?_)
  refine lv_iconst (v := 0) hx hb dX4_partAbove_11 (by decide) ?_
  refine lv_istore (lv' := [(5, .int 0), (4, .int x17), (3, .ref (ad j16)), (2, .int x15), (0, .ref (ad p0)), (1, .int p1)]) hx hb dX4_partAbove_12 hl (by decide) rfl (fun ls hl => ?_)
  exact L14 F S0 p1 x15 j16 x17 0 tj16 _ _ _ hf hW hS (lv_sub hl [5, 3, 2, 1, 0] rfl)
set_option maxHeartbeats 4000000 in
set_option maxRecDepth 100000 in
theorem c_X9_dropKeeper (l : Launch) (g : GP) (ad : Nat → Nat) (n : Nat) (K : Nat → Nat) (sz F : Nat) (S0 : St) (p0 : Nat) (p1 : Int32) (p2 : Int32) (tp0 : p0 < n ∧ K p0 = 8) (r9 : Int32) (S9 : St) (hf : f_X9_dropKeeper F S0 p0 p1 p2 = some (r9, S9)) : Met l yX9_dropKeeper wsX9_dropKeeper { frames := 1, cells := 0, slots := 0, locals := 22 } (va_Pc [.ref (ad p0), .int p1, .int p2] (PB g ad n K S0 sz)) (QR (some (.int r9)) (QB g ad n K S9 (dA ad n sz) (True)) (dA ad n sz)) 0 0 (dA ad n sz) := by
  refine Met.ofW (cc := cX9_dropKeeper) (maxL := 3) (ret := (some .boolean)) (by decide) rfl ?_
  intro p e s m args below meth c s₁ B hml hv
  obtain ⟨rfl, hsz, hW, hK, hGs⟩ := x_start hv
  subst hsz
  have hx := B.exec
  have hb := B.bytes
  have hr := B.returns
  have hts := atoms_spec (ws := wsX9_dropKeeper) B.pre
  have hown : s.vm.findClass RX9 = some m.cls := findClass_of_methodNamed B.named
  have hlk := B.notSynchronized
  have hC : Cx g p s m _ c cX9_dropKeeper RX9 wsX9_dropKeeper 3 := ⟨hx, hb, hml, hown, hts, hK⟩
  have hA : ∀ q : Nat, s.heap.size ≤ q → dA ad n s.heap.size q := fun q h => Or.inr h
  have hS : va_S (dA ad n s.heap.size) s.heap s.heap [] := va_S.rf
  have hl := lv_entry ([.ref (ad p0), .int p1, .int p2]) (n := 3) (Nat.le_of_ble_eq_true rfl)
  rw [lg_entry_eq]
  generalize (lg_sl ([.ref (ad p0), .int p1, .int p2]) ++ List.replicate (3 - (lg_sl ([.ref (ad p0), .int p1, .int p2])).length) Slot.unset).toArray = ls at hl ⊢
  have hl : lv_has ls 3 [(0, .ref (ad p0)), (1, .int p1), (2, .int p2)] := hl
  have hin9 : ∀ w ∈ wsX90, w ∈ wsX9_dropKeeper := by decide +kernel
  have w_0 := hts (.fieldLink RX9 21 "MailSpool$Store" "keepers" "[I") (by decide +kernel)
  have w_1 := va_Nw.use (A := (List.toArray [.ref (ad p0), .int p1, .int p2])) rfl (hGs.1 (.methodLinkNest RX9 48 yX10_at "MailSpool") (by decide +kernel))
  have w_2 := hts (.initialized RX10) (by decide +kernel)
  have w_3 := hts (.static yX10_at) (by decide +kernel)
  have w_4 := va_Nw.use (A := (List.toArray [.ref (ad p0), .int p1, .int p2])) rfl (hGs.1 (.methodLinkNest RX9 93 yX10_put "MailSpool") (by decide +kernel))
  have w_5 := hts (.static yX10_put) (by decide +kernel)
  have w_6 := hts (.fieldLink RX9 24 "MailSpool$Store" "deadSince" "[I") (by decide +kernel)
  have w_7 := hts (.fieldLink RX9 41 "MailSpool$Store" "dead" "I") (by decide +kernel)
  have hGE := hGs.2.2.2.2.2.2.1
  have hGM := hGs.2.2.2.2.2.2.2.1
  unfold f_X9_dropKeeper at hf
  refine lv_aload_n hx hb dX9_dropKeeper_0 rfl (lv_at hl 0 rfl) ?_
  replace hf := obE hf
  obtain ⟨j1, qj1, hf⟩ := hf
  have tj1 := x_rt hW qj1 12 ⟨by decide, rfl⟩
  refine x_getr 805 (ci := 8) (C := RX9) (T := TX9) (N := 8) 5 hC hin9 hW tp0 rfl rfl ⟨by decide, by decide, rfl, rfl⟩ rfl w_0 dX9_dropKeeper_1 qj1 ?_
  refine lv_iload_n hx hb dX9_dropKeeper_4 rfl (lv_at hl 1 rfl) ?_
  refine lv_aload_n hx hb dX9_dropKeeper_5 rfl (lv_at hl 0 rfl) ?_
  replace hf := obE hf
  obtain ⟨j2, qj2, hf⟩ := hf
  have tj2 := x_rt hW qj2 12 ⟨by decide, rfl⟩
  refine x_getr 805 (ci := 8) (C := RX9) (T := TX9) (N := 8) 5 hC hin9 hW tp0 rfl rfl ⟨by decide, by decide, rfl, rfl⟩ rfl w_0 dX9_dropKeeper_6 qj2 ?_
  refine lv_iload_n hx hb dX9_dropKeeper_9 rfl (lv_at hl 1 rfl) ?_
  replace hf := obE hf
  obtain ⟨z3, hz3, hf⟩ := hf
  obtain ⟨r5, S4⟩ := z3
  replace hf := ltE (ltE hf r5 rfl) S4 rfl
  refine x_callSN (As := [.ref (ad j2), .int p1]) (rest := [.int p1, .ref (ad j1)]) (o := (some (.int r5))) (S1 := S4) hC hl.1 hW hS hGs hA (c_X10_at l g ad n K s.heap.size F S0 j2 p1 tj2 r5 S4 hz3) ⟨va_cnB 2 hts gX9_dropKeeper_X10_at_n48 rfl rfl rfl (va_Nw.of rfl w_1) w_2 (by decide +kernel) ⟨Nat.le_of_ble_eq_true rfl, Nat.le_of_ble_eq_true rfl⟩, w_3, trivial⟩ rfl rfl (Nat.le_of_ble_eq_true rfl) dX9_dropKeeper_10 ⟨Nat.le_of_ble_eq_true rfl, Nat.le_of_ble_eq_true rfl⟩ (fun H locs hPz3 hW hS => ?_)
  refine W.eq (g2 := F0 m 13 ls [.int r5, .int p1, .ref (ad j1)]) rfl ?_
  refine lv_iconst (v := 1) hx hb dX9_dropKeeper_13 (by decide) ?_
  refine lv_isub hx hb dX9_dropKeeper_14 ?_
  replace hf := obE hf
  obtain ⟨S8, hz7, hf⟩ := hf
  refine x_callSN (As := [.ref (ad j1), .int p1, .int (r5 - 1)]) (rest := []) (o := none) (S1 := S8) hC hl.1 hW hS hGs hA (c_X10_put l g ad n K H.size F S4 j1 p1 (r5 - 1) tj1 S8 hz7) ⟨va_cnB 3 hts gX9_dropKeeper_X10_put_n93 rfl rfl rfl (va_Nw.of rfl w_4) w_2 (by decide +kernel) ⟨Nat.le_of_ble_eq_true rfl, Nat.le_of_ble_eq_true rfl⟩, w_5, trivial⟩ rfl rfl (Nat.le_of_ble_eq_true rfl) dX9_dropKeeper_15 ⟨Nat.le_of_ble_eq_true rfl, Nat.le_of_ble_eq_true rfl⟩ (fun H locs hPz7 hW hS => ?_)
  refine W.eq (g2 := F0 m 18 ls []) rfl ?_
  refine lv_aload_n hx hb dX9_dropKeeper_18 rfl (lv_at hl 0 rfl) ?_
  replace hf := obE hf
  obtain ⟨j11, qj11, hf⟩ := hf
  have tj11 := x_rt hW qj11 12 ⟨by decide, rfl⟩
  refine x_getr 805 (ci := 8) (C := RX9) (T := TX9) (N := 8) 5 hC hin9 hW tp0 rfl rfl ⟨by decide, by decide, rfl, rfl⟩ rfl w_0 dX9_dropKeeper_19 qj11 ?_
  refine lv_iload_n hx hb dX9_dropKeeper_22 rfl (lv_at hl 1 rfl) ?_
  replace hf := obE hf
  obtain ⟨z12, hz12, hf⟩ := hf
  obtain ⟨r14, S13⟩ := z12
  replace hf := ltE (ltE hf r14 rfl) S13 rfl
  refine x_callSN (As := [.ref (ad j11), .int p1]) (rest := []) (o := (some (.int r14))) (S1 := S13) hC hl.1 hW hS hGs hA (c_X10_at l g ad n K H.size F S8 j11 p1 tj11 r14 S13 hz12) ⟨va_cnB 2 hts gX9_dropKeeper_X10_at_n48 rfl rfl rfl (va_Nw.of rfl w_1) w_2 (by decide +kernel) ⟨Nat.le_of_ble_eq_true rfl, Nat.le_of_ble_eq_true rfl⟩, w_3, trivial⟩ rfl rfl (Nat.le_of_ble_eq_true rfl) dX9_dropKeeper_23 ⟨Nat.le_of_ble_eq_true rfl, Nat.le_of_ble_eq_true rfl⟩ (fun H locs hPz12 hW hS => ?_)
  refine W.eq (g2 := F0 m 26 ls [.int r14]) rfl ?_
  refine lv_if_le (tgt := 31) hx hb dX9_dropKeeper_26 (by decide) (fun c16 => ?_) (fun c16 => ?_)
  · replace hf := ifT c16 hf
    refine lv_aload_n hx hb dX9_dropKeeper_31 rfl (lv_at hl 0 rfl) ?_
    replace hf := obE hf
    obtain ⟨j17, qj17, hf⟩ := hf
    have tj17 := x_rt hW qj17 12 ⟨by decide, rfl⟩
    refine x_getr 806 (ci := 8) (C := RX9) (T := TX9) (N := 8) 6 hC hin9 hW tp0 rfl rfl ⟨by decide, by decide, rfl, rfl⟩ rfl w_6 dX9_dropKeeper_32 qj17 ?_
    refine lv_iload_n hx hb dX9_dropKeeper_35 rfl (lv_at hl 1 rfl) ?_
    refine lv_iload_n hx hb dX9_dropKeeper_36 rfl (lv_at hl 2 rfl) ?_
    replace hf := obE hf
    obtain ⟨S19, hz18, hf⟩ := hf
    refine x_callSN (As := [.ref (ad j17), .int p1, .int p2]) (rest := []) (o := none) (S1 := S19) hC hl.1 hW hS hGs hA (c_X10_put l g ad n K H.size F S13 j17 p1 p2 tj17 S19 hz18) ⟨va_cnB 3 hts gX9_dropKeeper_X10_put_n93 rfl rfl rfl (va_Nw.of rfl w_4) w_2 (by decide +kernel) ⟨Nat.le_of_ble_eq_true rfl, Nat.le_of_ble_eq_true rfl⟩, w_5, trivial⟩ rfl rfl (Nat.le_of_ble_eq_true rfl) dX9_dropKeeper_37 ⟨Nat.le_of_ble_eq_true rfl, Nat.le_of_ble_eq_true rfl⟩ (fun H locs hPz18 hW hS => ?_)
    refine W.eq (g2 := F0 m 40 ls []) rfl ?_
    refine lv_aload_n hx hb dX9_dropKeeper_40 rfl (lv_at hl 0 rfl) ?_
    refine lv_dup hx hb dX9_dropKeeper_41 rfl ?_
    refine x_geti 802 (ci := 8) (C := RX9) (T := TX9) (N := 8) 2 hC hin9 hW tp0 rfl rfl ⟨by decide, by decide, rfl, rfl⟩ rfl w_7 dX9_dropKeeper_42 ?_
    refine lv_iconst (v := 1) hx hb dX9_dropKeeper_45 (by decide) ?_
    refine lv_iadd hx hb dX9_dropKeeper_46 ?_
    refine x_puti 802 (ci := 8) (C := RX9) (T := TX9) (N := 8) (v := (si S19 802 p0) + 1) (ty := .int) 2 hC hin9 tyX9_ok nmX9 hW hS tp0 rfl rfl ⟨by decide, by decide, rfl, rfl⟩ rfl w_7 rfl (by decide +kernel) rfl rfl dX9_dropKeeper_47 (fun S22 H locs eS22 hW hS => ?_)
    replace hf := ltE hf S22 eS22
    refine lv_iconst (v := 1) hx hb dX9_dropKeeper_50 (by decide) ?_
    obtain ⟨e1, e2⟩ := so2 hf
    subst e1
    subst e2
    exact W.zret (v := 1) hx hb hr rfl (fun t ht hWm => ⟨⟨rfl, by unfold QB; rw [ht]; exact ⟨hW, trivial⟩⟩, hS.F ht⟩) hS.2.2 dX9_dropKeeper_51 hlk
  · replace hf := ifF c16 hf
    refine lv_iconst (v := 0) hx hb dX9_dropKeeper_29 (by decide) ?_
    obtain ⟨e1, e2⟩ := so2 hf
    subst e1
    subst e2
    exact W.zret (v := 0) hx hb hr rfl (fun t ht hWm => ⟨⟨rfl, by unfold QB; rw [ht]; exact ⟨hW, trivial⟩⟩, hS.F ht⟩) hS.2.2 dX9_dropKeeper_30 hlk
set_option maxHeartbeats 4000000 in
set_option maxRecDepth 100000 in
theorem c_X8_dropParts (l : Launch) (g : GP) (ad : Nat → Nat) (n : Nat) (K : Nat → Nat) (sz F : Nat) (S0 : St) (p0 : Nat) (p1 : Nat) (tp0 : p0 < n ∧ K p0 = 7) (tp1 : p1 < n ∧ K p1 = 3) (S9 : St) (hf : f_X8_dropParts F S0 p0 p1 = some S9) : Met l yX8_dropParts wsX8_dropParts { frames := 2, cells := 0, slots := 0, locals := 46 } (va_Pc [.ref (ad p0), .ref (ad p1)] (PB g ad n K S0 sz)) (QR none (QB g ad n K S9 (dA ad n sz) (True)) (dA ad n sz)) 0 0 (dA ad n sz) := by
  refine Met.ofW (cc := cX8_dropParts) (maxL := 4) (ret := none) (by decide) rfl ?_
  intro p e s m args below meth c s₁ B hml hv
  obtain ⟨rfl, hsz, hW, hK, hGs⟩ := x_start hv
  subst hsz
  have hx := B.exec
  have hb := B.bytes
  have hr := B.returns
  have hts := atoms_spec (ws := wsX8_dropParts) B.pre
  have hown : s.vm.findClass RX8 = some m.cls := findClass_of_methodNamed B.named
  have hlk := B.notSynchronized
  have hC : Cx g p s m _ c cX8_dropParts RX8 wsX8_dropParts 4 := ⟨hx, hb, hml, hown, hts, hK⟩
  have hA : ∀ q : Nat, s.heap.size ≤ q → dA ad n s.heap.size q := fun q h => Or.inr h
  have hS : va_S (dA ad n s.heap.size) s.heap s.heap [] := va_S.rf
  have hl := lv_entry ([.ref (ad p0), .ref (ad p1)]) (n := 4) (Nat.le_of_ble_eq_true rfl)
  rw [lg_entry_eq]
  generalize (lg_sl ([.ref (ad p0), .ref (ad p1)]) ++ List.replicate (4 - (lg_sl ([.ref (ad p0), .ref (ad p1)])).length) Slot.unset).toArray = ls at hl ⊢
  have hl : lv_has ls 4 [(0, .ref (ad p0)), (1, .ref (ad p1))] := hl
  have hin8 : ∀ w ∈ wsX80, w ∈ wsX8_dropParts := by decide +kernel
  have w_0 := hts (.fieldLink RX8 37 "MailSpool$Spool" "store" "LMailSpool$Store;") (by decide +kernel)
  have w_1 := hts (.fieldLink RX8 66 "MailSpool$Spool" "day" "I") (by decide +kernel)
  have w_2 := hts (.fieldLink RX8 44 "MailSpool$Spool" "journal" "LMailSpool$Journal;") (by decide +kernel)
  have hGE := hGs.2.2.2.2.2.2.1
  have hGM := hGs.2.2.2.2.2.2.2.1
  have L8 : ∀ (fu8 : Nat) (S0 : St) (v0 : Nat) (v1 : Nat) (v2 : Int32) (v3 : Int32) (tv0 : v0 < n ∧ K v0 = 7) (tv1 : v1 < n ∧ K v1 = 3) (H : Heap) (locs : List Loc) (ls : Array Slot), f_X8_dropParts_L8 F fu8 S0 v0 v1 v2 v3 = some S9 → Wb g ad n K S0 (dA ad n s.heap.size) H → va_S (dA ad n s.heap.size) s.heap H locs → lv_has ls 4 [(0, .ref (ad v0)), (1, .ref (ad v1)), (2, .int v2), (3, .int v3)] → W p l e (headSpec wsX8_dropParts { frames := 2, cells := 0, slots := 0, locals := 46 }).room s m (List.toArray [.ref (ad p0), .ref (ad p1)]) below meth c H locs 0 0 (MQ below (QR none (QB g ad n K S9 (dA ad n s.heap.size) (True)) (dA ad n s.heap.size)) (List.toArray [.ref (ad p0), .ref (ad p1)]) s 0 0 (dA ad n s.heap.size)) (F0 m 8 ls []) := by
    intro fu8
    induction fu8 with
    | zero =>
      intro S0 v0 v1 v2 v3 tv0 tv1 H locs ls hf
      cases hf
    | succ fu8 ih8 =>
      have L47 : ∀ (S0 : St) (v0 : Nat) (v1 : Nat) (v2 : Int32) (v3 : Int32) (tv0 : v0 < n ∧ K v0 = 7) (tv1 : v1 < n ∧ K v1 = 3) (H : Heap) (locs : List Loc) (ls : Array Slot), f_X8_dropParts_L47 F (fun a0 a1 a2 a3 a4 => f_X8_dropParts_L8 F fu8 a0 a1 a2 a3 a4) S0 v0 v1 v2 v3 = some S9 → Wb g ad n K S0 (dA ad n s.heap.size) H → va_S (dA ad n s.heap.size) s.heap H locs → lv_has ls 4 [(0, .ref (ad v0)), (1, .ref (ad v1)), (2, .int v2), (3, .int v3)] → W p l e (headSpec wsX8_dropParts { frames := 2, cells := 0, slots := 0, locals := 46 }).room s m (List.toArray [.ref (ad p0), .ref (ad p1)]) below meth c H locs 0 0 (MQ below (QR none (QB g ad n K S9 (dA ad n s.heap.size) (True)) (dA ad n s.heap.size)) (List.toArray [.ref (ad p0), .ref (ad p1)]) s 0 0 (dA ad n s.heap.size)) (F0 m 47 ls []) := by
        intro S0 v0 v1 v2 v3 tv0 tv1 H locs ls hf hW hS hl
        unfold f_X8_dropParts_L47 at hf
        refine lv_aload_n hx hb dX8_dropParts_47 rfl (lv_at hl 1 rfl) ?_
        refine lv_iload_n hx hb dX8_dropParts_48 rfl (lv_at hl 2 rfl) ?_
        replace hf := obE hf
        obtain ⟨z6, hz6, hf⟩ := hf
        obtain ⟨r8, S7⟩ := z6
        replace hf := ltE (ltE hf r8 rfl) S7 rfl
        refine x_callV (As := [.int v2]) (rest := []) (o := (some (.int r8))) (S1 := S7) hC hl.1 hW hS hGs hA tv1 rfl (show vwCl[3]? = some (RX4, TX4, 5) ∧ 3 < 11 from ⟨rfl, by decide⟩) (c_X4_partAbove l g ad n K H.size F S0 v1 v2 tv1 r8 S7 hz6) (cwV 1 hts gX8_dropParts_X4_partAbove rfl rfl rfl (by decide +kernel) ⟨Nat.le_of_ble_eq_true rfl, Nat.le_of_ble_eq_true rfl⟩) rfl rfl (Nat.le_of_ble_eq_true rfl) dX8_dropParts_49 ⟨Nat.le_of_ble_eq_true rfl, Nat.le_of_ble_eq_true rfl⟩ (fun H locs hPz6 hW hS => ?_)
        refine W.eq (g2 := F0 m 52 ls [.int r8]) rfl ?_
        refine lv_istore_n (lv' := [(2, .int r8), (0, .ref (ad v0)), (1, .ref (ad v1)), (3, .int v3)]) hx hb dX8_dropParts_52 rfl hl (by decide) rfl (fun ls hl => ?_)
        obtain ⟨x10, ex10⟩ : ∃ z : Int32, z = v3 + 1 := ⟨_, rfl⟩
        replace hf := ltE hf x10 ex10
        refine lv_iinc (v := x10) (lv' := [(3, .int x10), (2, .int r8), (0, .ref (ad v0)), (1, .ref (ad v1))]) hx hb dX8_dropParts_53 hl (k := 3) rfl (by rw [ex10]; rfl) (by decide) rfl (fun ls hl => ?_)
        refine lv_goto (tgt := 8) hx hb dX8_dropParts_56 (by decide) ?_
        exact ih8 S7 v0 v1 r8 x10 tv0 tv1 _ _ _ hf hW hS (lv_sub hl [2, 3, 1, 0] rfl)
      intro S0 v0 v1 v2 v3 tv0 tv1 H locs ls hf hW hS hl
      unfold f_X8_dropParts_L8 at hf
      refine lv_iload_n hx hb dX8_dropParts_8 rfl (lv_at hl 3 rfl) ?_
      refine lv_iconst (v := 4) hx hb dX8_dropParts_9 (by decide) ?_
      refine lv_icmp_ge (tgt := 59) hx hb dX8_dropParts_10 (by decide) (fun c24 => ?_) (fun c24 => ?_)
      · replace hf := ifT c24 hf
        have e1 := Option.some.inj hf
        subst e1
        exact W.vret hx hb hr (fun t ht hWm => ⟨⟨rfl, by unfold QB; rw [ht]; exact ⟨hW, trivial⟩⟩, hS.F ht⟩) hS.2.2 dX8_dropParts_59 hlk
      · replace hf := ifF c24 hf
        refine lv_iload_n hx hb dX8_dropParts_13 rfl (lv_at hl 2 rfl) ?_
        refine lv_iconst (v := -1) hx hb dX8_dropParts_14 (by decide) ?_
        refine lv_icmp_eq (tgt := 59) hx hb dX8_dropParts_15 (by decide) (fun c25 => ?_) (fun c25 => ?_)
        · replace hf := ifT c25 hf
          have e1 := Option.some.inj hf
          subst e1
          exact W.vret hx hb hr (fun t ht hWm => ⟨⟨rfl, by unfold QB; rw [ht]; exact ⟨hW, trivial⟩⟩, hS.F ht⟩) hS.2.2 dX8_dropParts_59 hlk
        · replace hf := ifF c25 hf
          refine lv_aload_n hx hb dX8_dropParts_18 rfl (lv_at hl 0 rfl) ?_
          replace hf := obE hf
          obtain ⟨j26, qj26, hf⟩ := hf
          have tj26 := x_rt hW qj26 8 ⟨by decide, rfl⟩
          refine x_getr 710 (ci := 7) (C := RX8) (T := TX8) (N := 16) 10 hC hin8 hW tv0 rfl rfl ⟨by decide, by decide, rfl, rfl⟩ rfl w_0 dX8_dropParts_19 qj26 ?_
          refine lv_iload_n hx hb dX8_dropParts_22 rfl (lv_at hl 2 rfl) ?_
          refine lv_aload_n hx hb dX8_dropParts_23 rfl (lv_at hl 0 rfl) ?_
          refine x_geti 701 (ci := 7) (C := RX8) (T := TX8) (N := 16) 1 hC hin8 hW tv0 rfl rfl ⟨by decide, by decide, rfl, rfl⟩ rfl w_1 dX8_dropParts_24 ?_
          replace hf := obE hf
          obtain ⟨z27, hz27, hf⟩ := hf
          obtain ⟨r29, S28⟩ := z27
          replace hf := ltE (ltE hf r29 rfl) S28 rfl
          refine x_callV (As := [.int v2, .int (si S0 701 v0)]) (rest := []) (o := (some (.int r29))) (S1 := S28) hC hl.1 hW hS hGs hA tj26 rfl (show vwCl[8]? = some (RX9, TX9, 8) ∧ 8 < 11 from ⟨rfl, by decide⟩) (c_X9_dropKeeper l g ad n K H.size F S0 j26 v2 (si S0 701 v0) tj26 r29 S28 hz27) (cwV 2 hts gX8_dropParts_X9_dropKeeper rfl rfl rfl (by decide +kernel) ⟨Nat.le_of_ble_eq_true rfl, Nat.le_of_ble_eq_true rfl⟩) rfl rfl (Nat.le_of_ble_eq_true rfl) dX8_dropParts_27 ⟨Nat.le_of_ble_eq_true rfl, Nat.le_of_ble_eq_true rfl⟩ (fun H locs hPz27 hW hS => ?_)
          refine W.eq (g2 := F0 m 30 ls [.int r29]) rfl ?_
          refine lv_if_eq (tgt := 47) hx hb dX8_dropParts_30 (by decide) (fun c31 => ?_) (fun c31 => ?_)
          · replace hf := ifT c31 hf
            exact L47 S28 v0 v1 v2 v3 tv0 tv1 _ _ _ hf hW hS (lv_sub hl [0, 1, 2, 3] rfl)
          · replace hf := ifF c31 hf
            refine lv_aload_n hx hb dX8_dropParts_33 rfl (lv_at hl 0 rfl) ?_
            replace hf := obE hf
            obtain ⟨j32, qj32, hf⟩ := hf
            have tj32 := x_rt hW qj32 2 ⟨by decide, rfl⟩
            refine x_getr 711 (ci := 7) (C := RX8) (T := TX8) (N := 16) 11 hC hin8 hW tv0 rfl rfl ⟨by decide, by decide, rfl, rfl⟩ rfl w_2 dX8_dropParts_34 qj32 ?_
            refine lv_aload_n hx hb dX8_dropParts_37 rfl (lv_at hl 0 rfl) ?_
            refine x_geti 701 (ci := 7) (C := RX8) (T := TX8) (N := 16) 1 hC hin8 hW tv0 rfl rfl ⟨by decide, by decide, rfl, rfl⟩ rfl w_1 dX8_dropParts_38 ?_
            refine lv_bipush (v := 6) hx hb dX8_dropParts_41 (by decide) ?_
            refine lv_iload_n hx hb dX8_dropParts_43 rfl (lv_at hl 2 rfl) ?_
            replace hf := obE hf
            obtain ⟨S34, hz33, hf⟩ := hf
            refine x_callV (As := [.int (si S28 701 v0), .int 6, .int v2]) (rest := []) (o := none) (S1 := S34) hC hl.1 hW hS hGs hA tj32 rfl (show vwCl[2]? = some (RX2, TX2, 5) ∧ 2 < 11 from ⟨rfl, by decide⟩) (c_X2_note l g ad n K H.size F S28 j32 (si S28 701 v0) ((6 : Int32)) v2 tj32 S34 hz33) (cwV 3 hts gX8_dropParts_X2_note rfl rfl rfl (by decide +kernel) ⟨Nat.le_of_ble_eq_true rfl, Nat.le_of_ble_eq_true rfl⟩) rfl rfl (Nat.le_of_ble_eq_true rfl) dX8_dropParts_44 ⟨Nat.le_of_ble_eq_true rfl, Nat.le_of_ble_eq_true rfl⟩ (fun H locs hPz33 hW hS => ?_)
            refine W.eq (g2 := F0 m 47 ls []) rfl ?_
            exact L47 S34 v0 v1 v2 v3 tv0 tv1 _ _ _ hf hW hS (lv_sub hl [0, 1, 2, 3] rfl)
  unfold f_X8_dropParts at hf
  refine lv_aload_n hx hb dX8_dropParts_0 rfl (lv_at hl 1 rfl) ?_
  refine lv_iconst (v := -1) hx hb dX8_dropParts_1 (by decide) ?_
  replace hf := obE hf
  obtain ⟨z37, hz37, hf⟩ := hf
  obtain ⟨r39, S38⟩ := z37
  replace hf := ltE (ltE hf r39 rfl) S38 rfl
  refine x_callV (As := [.int ((-1))]) (rest := []) (o := (some (.int r39))) (S1 := S38) hC hl.1 hW hS hGs hA tp1 rfl (show vwCl[3]? = some (RX4, TX4, 5) ∧ 3 < 11 from ⟨rfl, by decide⟩) (c_X4_partAbove l g ad n K s.heap.size F S0 p1 (((-1) : Int32)) tp1 r39 S38 hz37) (cwV 1 hts gX8_dropParts_X4_partAbove rfl rfl rfl (by decide +kernel) ⟨Nat.le_of_ble_eq_true rfl, Nat.le_of_ble_eq_true rfl⟩) rfl rfl (Nat.le_of_ble_eq_true rfl) dX8_dropParts_2 ⟨Nat.le_of_ble_eq_true rfl, Nat.le_of_ble_eq_true rfl⟩ (fun H locs hPz37 hW hS => ?_)
  refine W.eq (g2 := F0 m 5 ls [.int r39]) rfl ?_
  refine lv_istore_n (lv' := [(2, .int r39), (0, .ref (ad p0)), (1, .ref (ad p1))]) hx hb dX8_dropParts_5 rfl hl (by decide) rfl (fun ls hl => ?_)
  refine lv_iconst (v := 0) hx hb dX8_dropParts_6 (by decide) ?_
  refine lv_istore_n (lv' := [(3, .int 0), (2, .int r39), (0, .ref (ad p0)), (1, .ref (ad p1))]) hx hb dX8_dropParts_7 rfl hl (by decide) rfl (fun ls hl => ?_)
  exact L8 F S38 p0 p1 r39 0 tp0 tp1 _ _ _ hf hW hS (lv_sub hl [2, 3, 1, 0] rfl)
set_option maxHeartbeats 4000000 in
set_option maxRecDepth 100000 in
theorem c_X8_endReference (l : Launch) (g : GP) (ad : Nat → Nat) (n : Nat) (K : Nat → Nat) (sz F : Nat) (S0 : St) (p0 : Nat) (p1 : Int32) (p2 : Int32) (p3 : Int32) (tp0 : p0 < n ∧ K p0 = 7) (S9 : St) (hf : f_X8_endReference F S0 p0 p1 p2 p3 = some S9) : Met l yX8_endReference wsX8_endReference { frames := 3, cells := 0, slots := 0, locals := 69 } (va_Pc [.ref (ad p0), .int p1, .int p2, .int p3] (PB g ad n K S0 sz)) (QR none (QB g ad n K S9 (dA ad n sz) (True)) (dA ad n sz)) 0 0 (dA ad n sz) := by
  refine Met.ofW (cc := cX8_endReference) (maxL := 5) (ret := none) (by decide) rfl ?_
  intro p e s m args below meth c s₁ B hml hv
  obtain ⟨rfl, hsz, hW, hK, hGs⟩ := x_start hv
  subst hsz
  have hx := B.exec
  have hb := B.bytes
  have hr := B.returns
  have hts := atoms_spec (ws := wsX8_endReference) B.pre
  have hown : s.vm.findClass RX8 = some m.cls := findClass_of_methodNamed B.named
  have hlk := B.notSynchronized
  have hC : Cx g p s m _ c cX8_endReference RX8 wsX8_endReference 5 := ⟨hx, hb, hml, hown, hts, hK⟩
  have hA : ∀ q : Nat, s.heap.size ≤ q → dA ad n s.heap.size q := fun q h => Or.inr h
  have hS : va_S (dA ad n s.heap.size) s.heap s.heap [] := va_S.rf
  have hl := lv_entry ([.ref (ad p0), .int p1, .int p2, .int p3]) (n := 5) (Nat.le_of_ble_eq_true rfl)
  rw [lg_entry_eq]
  generalize (lg_sl ([.ref (ad p0), .int p1, .int p2, .int p3]) ++ List.replicate (5 - (lg_sl ([.ref (ad p0), .int p1, .int p2, .int p3])).length) Slot.unset).toArray = ls at hl ⊢
  have hl : lv_has ls 5 [(0, .ref (ad p0)), (1, .int p1), (2, .int p2), (3, .int p3)] := hl
  have hin8 : ∀ w ∈ wsX80, w ∈ wsX8_endReference := by decide +kernel
  have w_0 := va_Nw.use (A := (List.toArray [.ref (ad p0), .int p1, .int p2, .int p3])) rfl (hGs.1 (.methodLinkNest RX8 181 yX10_put "MailSpool") (by decide +kernel))
  have w_1 := hts (.initialized RX10) (by decide +kernel)
  have w_2 := hts (.static yX10_put) (by decide +kernel)
  have w_3 := hts (.fieldLink RX8 44 "MailSpool$Spool" "journal" "LMailSpool$Journal;") (by decide +kernel)
  have w_4 := hts (.fieldLink RX8 66 "MailSpool$Spool" "day" "I") (by decide +kernel)
  have w_5 := hts (.fieldLink RX8 25 "MailSpool$Spool" "states" "[I") (by decide +kernel)
  have hGE := hGs.2.2.2.2.2.2.1
  have hGM := hGs.2.2.2.2.2.2.2.1
  have L57 : ∀ (S0 : St) (v0 : Nat) (v1 : Int32) (v4 : Int32) (s0 : Int32) (s1 : Int32) (s2 : Nat) (tv0 : v0 < n ∧ K v0 = 7) (ts2 : s2 < n ∧ K s2 = 2) (H : Heap) (locs : List Loc) (ls : Array Slot), f_X8_endReference_L57 F S0 v0 v1 v4 s0 s1 s2 = some S9 → Wb g ad n K S0 (dA ad n s.heap.size) H → va_S (dA ad n s.heap.size) s.heap H locs → lv_has ls 5 [(0, .ref (ad v0)), (1, .int v1), (4, .int v4)] → W p l e (headSpec wsX8_endReference { frames := 3, cells := 0, slots := 0, locals := 69 }).room s m (List.toArray [.ref (ad p0), .int p1, .int p2, .int p3]) below meth c H locs 0 0 (MQ below (QR none (QB g ad n K S9 (dA ad n s.heap.size) (True)) (dA ad n s.heap.size)) (List.toArray [.ref (ad p0), .int p1, .int p2, .int p3]) s 0 0 (dA ad n s.heap.size)) (F0 m 57 ls [.int s0, .int s1, .ref (ad s2)]) := by
    intro S0 v0 v1 v4 s0 s1 s2 tv0 ts2 H locs ls hf hW hS hl
    unfold f_X8_endReference_L57 at hf
    refine lv_iload_n hx hb dX8_endReference_57 rfl (lv_at hl 1 rfl) ?_
    replace hf := obE hf
    obtain ⟨S21, hz20, hf⟩ := hf
    refine x_callV (As := [.int s1, .int s0, .int v1]) (rest := []) (o := none) (S1 := S21) hC hl.1 hW hS hGs hA ts2 rfl (show vwCl[2]? = some (RX2, TX2, 5) ∧ 2 < 11 from ⟨rfl, by decide⟩) (c_X2_note l g ad n K H.size F S0 s2 s1 s0 v1 ts2 S21 hz20) (cwV 3 hts gX8_endReference_X2_note rfl rfl rfl (by decide +kernel) ⟨Nat.le_of_ble_eq_true rfl, Nat.le_of_ble_eq_true rfl⟩) rfl rfl (Nat.le_of_ble_eq_true rfl) dX8_endReference_58 ⟨Nat.le_of_ble_eq_true rfl, Nat.le_of_ble_eq_true rfl⟩ (fun H locs hPz20 hW hS => ?_)
    refine W.eq (g2 := F0 m 61 ls []) rfl ?_
    refine lv_iload hx hb dX8_endReference_61 (lv_at hl 2 rfl) ?_
    refine lv_if_ne (tgt := 83) hx hb dX8_endReference_63 (by decide) (fun c24 => ?_) (fun c24 => ?_)
    · replace hf := ifT c24 hf
      have e1 := Option.some.inj hf
      subst e1
      exact W.vret hx hb hr (fun t ht hWm => ⟨⟨rfl, by unfold QB; rw [ht]; exact ⟨hW, trivial⟩⟩, hS.F ht⟩) hS.2.2 dX8_endReference_83 hlk
    · replace hf := ifF (fun q => q c24) hf
      refine lv_aload_n hx hb dX8_endReference_66 rfl (lv_at hl 0 rfl) ?_
      refine lv_iload_n hx hb dX8_endReference_67 rfl (lv_at hl 1 rfl) ?_
      replace hf := obE hf
      obtain ⟨z25, hz25, hf⟩ := hf
      obtain ⟨r27, S26⟩ := z25
      replace hf := ltE (ltE hf r27 rfl) S26 rfl
      refine x_callV (As := [.int v1]) (rest := []) (o := (some (.int r27))) (S1 := S26) hC hl.1 hW hS hGs hA tv0 rfl (show vwCl[7]? = some (RX8, TX8, 16) ∧ 7 < 11 from ⟨rfl, by decide⟩) (c_X8_keepsMessage l g ad n K H.size F S21 v0 v1 tv0 r27 S26 hz25) (cwV 1 hts gX8_endReference_X8_keepsMessage rfl rfl rfl (by decide +kernel) ⟨Nat.le_of_ble_eq_true rfl, Nat.le_of_ble_eq_true rfl⟩) rfl rfl (Nat.le_of_ble_eq_true rfl) dX8_endReference_68 ⟨Nat.le_of_ble_eq_true rfl, Nat.le_of_ble_eq_true rfl⟩ (fun H locs hPz25 hW hS => ?_)
      refine W.eq (g2 := F0 m 71 ls [.int r27]) rfl ?_
      refine lv_if_ne (tgt := 83) hx hb dX8_endReference_71 (by decide) (fun c29 => ?_) (fun c29 => ?_)
      · replace hf := ifT c29 hf
        have e1 := Option.some.inj hf
        subst e1
        exact W.vret hx hb hr (fun t ht hWm => ⟨⟨rfl, by unfold QB; rw [ht]; exact ⟨hW, trivial⟩⟩, hS.F ht⟩) hS.2.2 dX8_endReference_83 hlk
      · replace hf := ifF (fun q => q c29) hf
        refine lv_aload_n hx hb dX8_endReference_74 rfl (lv_at hl 0 rfl) ?_
        refine lv_aload_n hx hb dX8_endReference_75 rfl (lv_at hl 0 rfl) ?_
        refine lv_iload_n hx hb dX8_endReference_76 rfl (lv_at hl 1 rfl) ?_
        replace hf := obE hf
        obtain ⟨z30, hz30, hf⟩ := hf
        obtain ⟨r32, S31⟩ := z30
        replace hf := ltE (ltE hf r32 rfl) S31 rfl
        refine x_callV (As := [.int v1]) (rest := [.ref (ad v0)]) (o := (some (va_re ad r32))) (S1 := S31) hC hl.1 hW hS hGs hA tv0 rfl (show vwCl[7]? = some (RX8, TX8, 16) ∧ 7 < 11 from ⟨rfl, by decide⟩) (c_X8_messageAt l g ad n K H.size F S26 v0 v1 tv0 r32 S31 hz30) (cwV 1 hts gX8_endReference_X8_messageAt rfl rfl rfl (by decide +kernel) ⟨Nat.le_of_ble_eq_true rfl, Nat.le_of_ble_eq_true rfl⟩) rfl rfl (Nat.le_of_ble_eq_true rfl) dX8_endReference_77 ⟨Nat.le_of_ble_eq_true rfl, Nat.le_of_ble_eq_true rfl⟩ (fun H locs hPz30 hW hS => ?_)
        replace hf := obE hf
        obtain ⟨j34, qj34, hf⟩ := hf
        have tj34 := hPz30 j34 qj34
        refine W.eq (g2 := F0 m 80 ls [.ref (ad j34), .ref (ad v0)]) (by rw [qj34]; rfl) ?_
        replace hf := obE hf
        obtain ⟨S36, hz35, hf⟩ := hf
        refine x_callV (As := [.ref (ad j34)]) (rest := []) (o := none) (S1 := S36) hC hl.1 hW hS hGs hA tv0 rfl (show vwCl[7]? = some (RX8, TX8, 16) ∧ 7 < 11 from ⟨rfl, by decide⟩) (c_X8_dropParts l g ad n K H.size F S31 v0 j34 tv0 tj34 S36 hz35) (cwV 1 hts gX8_endReference_X8_dropParts rfl rfl rfl (by decide +kernel) ⟨Nat.le_of_ble_eq_true rfl, Nat.le_of_ble_eq_true rfl⟩) rfl rfl (Nat.le_of_ble_eq_true rfl) dX8_endReference_80 ⟨Nat.le_of_ble_eq_true rfl, Nat.le_of_ble_eq_true rfl⟩ (fun H locs hPz35 hW hS => ?_)
        refine W.eq (g2 := F0 m 83 ls []) rfl ?_
        have e1 := Option.some.inj hf
        subst e1
        exact W.vret hx hb hr (fun t ht hWm => ⟨⟨rfl, by unfold QB; rw [ht]; exact ⟨hW, trivial⟩⟩, hS.F ht⟩) hS.2.2 dX8_endReference_83 hlk
  have L36 : ∀ (S0 : St) (v0 : Nat) (v1 : Int32) (v4 : Int32) (s0 : Int32) (s1 : Int32) (s2 : Nat) (tv0 : v0 < n ∧ K v0 = 7) (ts2 : s2 < n ∧ K s2 = 12) (H : Heap) (locs : List Loc) (ls : Array Slot), f_X8_endReference_L36 F S0 v0 v1 v4 s0 s1 s2 = some S9 → Wb g ad n K S0 (dA ad n s.heap.size) H → va_S (dA ad n s.heap.size) s.heap H locs → lv_has ls 5 [(0, .ref (ad v0)), (1, .int v1), (4, .int v4)] → W p l e (headSpec wsX8_endReference { frames := 3, cells := 0, slots := 0, locals := 69 }).room s m (List.toArray [.ref (ad p0), .int p1, .int p2, .int p3]) below meth c H locs 0 0 (MQ below (QR none (QB g ad n K S9 (dA ad n s.heap.size) (True)) (dA ad n s.heap.size)) (List.toArray [.ref (ad p0), .int p1, .int p2, .int p3]) s 0 0 (dA ad n s.heap.size)) (F0 m 36 ls [.int s0, .int s1, .ref (ad s2)]) := by
    intro S0 v0 v1 v4 s0 s1 s2 tv0 ts2 H locs ls hf hW hS hl
    unfold f_X8_endReference_L36 at hf
    replace hf := obE hf
    obtain ⟨S46, hz45, hf⟩ := hf
    refine x_callSN (As := [.ref (ad s2), .int s1, .int s0]) (rest := []) (o := none) (S1 := S46) hC hl.1 hW hS hGs hA (c_X10_put l g ad n K H.size F S0 s2 s1 s0 ts2 S46 hz45) ⟨va_cnB 3 hts gX8_endReference_X10_put_n181 rfl rfl rfl (va_Nw.of rfl w_0) w_1 (by decide +kernel) ⟨Nat.le_of_ble_eq_true rfl, Nat.le_of_ble_eq_true rfl⟩, w_2, trivial⟩ rfl rfl (Nat.le_of_ble_eq_true rfl) dX8_endReference_36 ⟨Nat.le_of_ble_eq_true rfl, Nat.le_of_ble_eq_true rfl⟩ (fun H locs hPz45 hW hS => ?_)
    refine W.eq (g2 := F0 m 39 ls []) rfl ?_
    refine lv_aload_n hx hb dX8_endReference_39 rfl (lv_at hl 0 rfl) ?_
    replace hf := obE hf
    obtain ⟨j49, qj49, hf⟩ := hf
    have tj49 := x_rt hW qj49 2 ⟨by decide, rfl⟩
    refine x_getr 711 (ci := 7) (C := RX8) (T := TX8) (N := 16) 11 hC hin8 hW tv0 rfl rfl ⟨by decide, by decide, rfl, rfl⟩ rfl w_3 dX8_endReference_40 qj49 ?_
    refine lv_aload_n hx hb dX8_endReference_43 rfl (lv_at hl 0 rfl) ?_
    refine x_geti 701 (ci := 7) (C := RX8) (T := TX8) (N := 16) 1 hC hin8 hW tv0 rfl rfl ⟨by decide, by decide, rfl, rfl⟩ rfl w_4 dX8_endReference_44 ?_
    refine lv_iload hx hb dX8_endReference_47 (lv_at hl 2 rfl) ?_
    refine lv_if_eq (tgt := 56) hx hb dX8_endReference_49 (by decide) (fun c50 => ?_) (fun c50 => ?_)
    · replace hf := ifT c50 hf
      refine lv_iconst (v := 4) hx hb dX8_endReference_56 (by decide) ?_
      exact L57 S46 v0 v1 v4 4 (si S46 701 v0) j49 tv0 tj49 _ _ _ hf hW hS (lv_sub hl [0, 1, 2] rfl)
    · replace hf := ifF c50 hf
      refine lv_iconst (v := 5) hx hb dX8_endReference_52 (by decide) ?_
      refine lv_goto (tgt := 57) hx hb dX8_endReference_53 (by decide) ?_
      exact L57 S46 v0 v1 v4 5 (si S46 701 v0) j49 tv0 tj49 _ _ _ hf hW hS (lv_sub hl [0, 1, 2] rfl)
  have L14 : ∀ (S0 : St) (v0 : Nat) (v1 : Int32) (v2 : Int32) (v3 : Int32) (s0 : Int32) (tv0 : v0 < n ∧ K v0 = 7) (H : Heap) (locs : List Loc) (ls : Array Slot), f_X8_endReference_L14 F S0 v0 v1 v2 v3 s0 = some S9 → Wb g ad n K S0 (dA ad n s.heap.size) H → va_S (dA ad n s.heap.size) s.heap H locs → lv_has ls 5 [(0, .ref (ad v0)), (1, .int v1), (2, .int v2), (3, .int v3)] → W p l e (headSpec wsX8_endReference { frames := 3, cells := 0, slots := 0, locals := 69 }).room s m (List.toArray [.ref (ad p0), .int p1, .int p2, .int p3]) below meth c H locs 0 0 (MQ below (QR none (QB g ad n K S9 (dA ad n s.heap.size) (True)) (dA ad n s.heap.size)) (List.toArray [.ref (ad p0), .int p1, .int p2, .int p3]) s 0 0 (dA ad n s.heap.size)) (F0 m 14 ls [.int s0]) := by
    intro S0 v0 v1 v2 v3 s0 tv0 H locs ls hf hW hS hl
    unfold f_X8_endReference_L14 at hf
    refine lv_istore (lv' := [(4, .int s0), (0, .ref (ad v0)), (1, .int v1), (2, .int v2), (3, .int v3)]) hx hb dX8_endReference_14 hl (by decide) rfl (fun ls hl => ?_)
    refine lv_aload_n hx hb dX8_endReference_16 rfl (lv_at hl 1 rfl) ?_
    replace hf := obE hf
    obtain ⟨j53, qj53, hf⟩ := hf
    have tj53 := x_rt hW qj53 12 ⟨by decide, rfl⟩
    refine x_getr 707 (ci := 7) (C := RX8) (T := TX8) (N := 16) 7 hC hin8 hW tv0 rfl rfl ⟨by decide, by decide, rfl, rfl⟩ rfl w_5 dX8_endReference_17 qj53 ?_
    refine lv_iload_n hx hb dX8_endReference_20 rfl (lv_at hl 2 rfl) ?_
    refine lv_bipush (v := 10) hx hb dX8_endReference_21 (by decide) ?_
    refine lv_imul hx hb dX8_endReference_23 ?_
    refine lv_iload_n hx hb dX8_endReference_24 rfl (lv_at hl 3 rfl) ?_
    refine lv_iadd hx hb dX8_endReference_25 ?_
    refine lv_iload hx hb dX8_endReference_26 (lv_at hl 0 rfl) ?_
    refine lv_if_eq (tgt := 35) hx hb dX8_endReference_28 (by decide) (fun c54 => ?_) (fun c54 => ?_)
    · replace hf := ifT c54 hf
      refine lv_iconst (v := 3) hx hb dX8_endReference_35 (by decide) ?_
      exact L36 S0 v0 v1 s0 3 ((v1 * 10) + v2) j53 tv0 tj53 _ _ _ hf hW hS (lv_sub hl [1, 2, 0] rfl)
    · replace hf := ifF c54 hf
      refine lv_iload_n hx hb dX8_endReference_31 rfl (lv_at hl 4 rfl) ?_
      refine lv_goto (tgt := 36) hx hb dX8_endReference_32 (by decide) ?_
      exact L36 S0 v0 v1 s0 v3 ((v1 * 10) + v2) j53 tv0 tj53 _ _ _ hf hW hS (lv_sub hl [1, 2, 0] rfl)
  unfold f_X8_endReference at hf
  refine lv_aload_n hx hb dX8_endReference_0 rfl (lv_at hl 0 rfl) ?_
  refine lv_iload_n hx hb dX8_endReference_1 rfl (lv_at hl 1 rfl) ?_
  refine lv_iload_n hx hb dX8_endReference_2 rfl (lv_at hl 2 rfl) ?_
  replace hf := obE hf
  obtain ⟨z55, hz55, hf⟩ := hf
  obtain ⟨r57, S56⟩ := z55
  replace hf := ltE (ltE hf r57 rfl) S56 rfl
  refine x_callV (As := [.int p1, .int p2]) (rest := []) (o := (some (.int r57))) (S1 := S56) hC hl.1 hW hS hGs hA tp0 rfl (show vwCl[7]? = some (RX8, TX8, 16) ∧ 7 < 11 from ⟨rfl, by decide⟩) (c_X8_holdsCovering l g ad n K s.heap.size F S0 p0 p1 p2 tp0 r57 S56 hz55) (cwV 2 hts gX8_endReference_X8_holdsCovering rfl rfl rfl (by decide +kernel) ⟨Nat.le_of_ble_eq_true rfl, Nat.le_of_ble_eq_true rfl⟩) rfl rfl (Nat.le_of_ble_eq_true rfl) dX8_endReference_3 ⟨Nat.le_of_ble_eq_true rfl, Nat.le_of_ble_eq_true rfl⟩ (fun H locs hPz55 hW hS => ?_)
  refine W.eq (g2 := F0 m 6 ls [.int r57]) rfl ?_
  refine lv_if_eq (tgt := 13) hx hb dX8_endReference_6 (by decide) (fun c59 => ?_) (fun c59 => ?_)
  · replace hf := ifT c59 hf
    refine lv_iconst (v := 0) hx hb dX8_endReference_13 (by decide) ?_
    exact L14 S56 p0 p1 p2 p3 0 tp0 _ _ _ hf hW hS (lv_sub hl [0, 1, 2, 3] rfl)
  · replace hf := ifF c59 hf
    refine lv_iconst (v := 1) hx hb dX8_endReference_9 (by decide) ?_
    refine lv_goto (tgt := 14) hx hb dX8_endReference_10 (by decide) ?_
    exact L14 S56 p0 p1 p2 p3 1 tp0 _ _ _ hf hW hS (lv_sub hl [0, 1, 2, 3] rfl)
set_option maxHeartbeats 4000000 in
set_option maxRecDepth 100000 in
theorem c_X10_delete (l : Launch) (hfl : l.stackTraces = false) (g : GP) (ad : Nat → Nat) (n : Nat) (K : Nat → Nat) (sz F : Nat) (S0 : St) (p0 : Nat) (p1 : Int32) (p2 : Int32) (tp0 : p0 < n ∧ K p0 = 9) (o9 : Nat ⊕ Int32) (S9 : St) (hf : f_X10_delete F S0 p0 p1 p2 = some (o9, S9)) : vx_Met l yX10_delete wsX10_delete { frames := 7, cells := 2, slots := 12, locals := 126 } (va_Pc [.ref (ad p0), .int p1, .int p2] (PB g ad n K S0 sz)) (QT o9 (fun r => some (.int r)) (QB g ad n K S9 (dA ad n sz) True) (dA ad n sz)) (XT o9 (QB g ad n K S9 (dA ad n sz) True) (dA ad n sz)) 2 12 (dA ad n sz) := by
  refine vx_ofW (cc := cX10_delete) (maxL := 3) (ret := (some .int)) (by decide) rfl ?_
  intro p e s m args below meth c s₁ B hml hno hv
  obtain ⟨rfl, hsz, hW, hK, hGs⟩ := x_start hv
  subst hsz
  have hx := B.exec
  have hb := B.bytes
  have hr := B.returns
  have hts := atoms_spec (ws := wsX10_delete) B.pre
  have hown : s.vm.findClass RX10 = some m.cls := findClass_of_methodNamed B.named
  have hlk := B.notSynchronized
  have hC : Cx g p s m _ c cX10_delete RX10 wsX10_delete 3 := ⟨hx, hb, hml, hown, hts, hK⟩
  have hA : ∀ q : Nat, s.heap.size ≤ q → dA ad n s.heap.size q := fun q h => Or.inr h
  have hS : va_S (dA ad n s.heap.size) s.heap s.heap [] := va_S.rf
  have hl := lv_entry ([.ref (ad p0), .int p1, .int p2]) (n := 3) (Nat.le_of_ble_eq_true rfl)
  rw [lg_entry_eq]
  generalize (lg_sl ([.ref (ad p0), .int p1, .int p2]) ++ List.replicate (3 - (lg_sl ([.ref (ad p0), .int p1, .int p2])).length) Slot.unset).toArray = ls at hl ⊢
  have hl : lv_has ls 3 [(0, .ref (ad p0)), (1, .int p1), (2, .int p2)] := hl
  have hin10 : ∀ w ∈ wsX100, w ∈ wsX10_delete := by decide +kernel
  have w_0 := hts (.fieldLink RX10 42 "MailSpool" "now" "LMailSpool$Spool;") (by decide +kernel)
  have hGE := hGs.2.2.2.2.2.2.1
  have hGM := hGs.2.2.2.2.2.2.2.1
  unfold f_X10_delete at hf
  refine lv_aload_n hx hb dX10_delete_0 rfl (lv_at hl 0 rfl) ?_
  refine lv_iload_n hx hb dX10_delete_1 rfl (lv_at hl 1 rfl) ?_
  refine lv_iload_n hx hb dX10_delete_2 rfl (lv_at hl 2 rfl) ?_
  replace hf := obE hf
  obtain ⟨z1, hz1, hf⟩ := hf
  obtain ⟨oz1, S2⟩ := z1
  replace hf := ltE hf S2 rfl
  refine x_tcallV (As := [.int p1, .int p2]) (rest := []) (S1 := S2) (o := oz1) (vr := (fun _ => none)) (P := True) hC hl.1 hW hS hGs hA tp0 rfl (show vwCl[9]? = some (RX10, TX10, 11) ∧ 9 < 11 from ⟨rfl, by decide⟩) (c_X10_needReference l hfl g ad n K s.heap.size F S0 p0 p1 p2 tp0 oz1 S2 hz1) (cwV 2 hts gX10_delete_X10_needReference rfl rfl rfl (by decide +kernel) ⟨Nat.le_of_ble_eq_true rfl, Nat.le_of_ble_eq_true rfl⟩) rfl rfl (Nat.le_of_ble_eq_true rfl) dX10_delete_3 ⟨Nat.le_of_ble_eq_true rfl, Nat.le_of_ble_eq_true rfl⟩ (fun x5 H locs ce q9 ho hW hS hc1 hc2 hc3 => ?_) (fun r3 H locs ho hP hW hS => ?_)
  · replace hf := smL ho hf
    obtain ⟨e1, e2⟩ := so2 hf
    subst e1
    subst e2
    exact x_tout hno hlk rfl hW hS hc1 hc2 hc3 (Nat.le_of_ble_eq_true rfl) (Nat.le_of_ble_eq_true rfl)
  · replace hf := smR ho hf
    refine W.widen (k := 1) (n := 6) (Nat.le_of_ble_eq_true rfl) (Nat.le_of_ble_eq_true rfl) ?_
    refine W.eq (g2 := F0 m 6 ls []) rfl ?_
    refine lv_aload_n hx hb dX10_delete_6 rfl (lv_at hl 0 rfl) ?_
    refine lv_iload_n hx hb dX10_delete_7 rfl (lv_at hl 1 rfl) ?_
    refine lv_iload_n hx hb dX10_delete_8 rfl (lv_at hl 2 rfl) ?_
    replace hf := obE hf
    obtain ⟨z9, hz9, hf⟩ := hf
    obtain ⟨oz9, S10⟩ := z9
    replace hf := ltE hf S10 rfl
    refine x_tcallV (As := [.int p1, .int p2]) (rest := []) (S1 := S10) (o := oz9) (vr := (fun _ => none)) (P := True) hC hl.1 hW hS hGs hA tp0 rfl (show vwCl[9]? = some (RX10, TX10, 11) ∧ 9 < 11 from ⟨rfl, by decide⟩) (c_X10_needLive l hfl g ad n K H.size F S2 p0 p1 p2 tp0 oz9 S10 hz9) (cwV 2 hts gX10_delete_X10_needLive rfl rfl rfl (by decide +kernel) ⟨Nat.le_of_ble_eq_true rfl, Nat.le_of_ble_eq_true rfl⟩) rfl rfl (Nat.le_of_ble_eq_true rfl) dX10_delete_9 ⟨Nat.le_of_ble_eq_true rfl, Nat.le_of_ble_eq_true rfl⟩ (fun x13 H locs ce q9 ho hW hS hc1 hc2 hc3 => ?_) (fun r11 H locs ho hP hW hS => ?_)
    · replace hf := smL ho hf
      obtain ⟨e1, e2⟩ := so2 hf
      subst e1
      subst e2
      exact x_tout hno hlk rfl hW hS hc1 hc2 hc3 (Nat.le_of_ble_eq_true rfl) (Nat.le_of_ble_eq_true rfl)
    · replace hf := smR ho hf
      refine W.widen (k := 2) (n := 12) (Nat.le_of_ble_eq_true rfl) (Nat.le_of_ble_eq_true rfl) ?_
      refine W.eq (g2 := F0 m 12 ls []) rfl ?_
      refine lv_aload_n hx hb dX10_delete_12 rfl (lv_at hl 0 rfl) ?_
      replace hf := obE hf
      obtain ⟨S18, hz17, hf⟩ := hf
      refine x_callV (As := []) (rest := []) (o := none) (S1 := S18) hC hl.1 hW hS hGs hA tp0 rfl (show vwCl[9]? = some (RX10, TX10, 11) ∧ 9 < 11 from ⟨rfl, by decide⟩) (c_X10_remember l g ad n K H.size F S10 p0 tp0 S18 hz17) (cwV 0 hts gX10_delete_X10_remember rfl rfl rfl (by decide +kernel) ⟨Nat.le_of_ble_eq_true rfl, Nat.le_of_ble_eq_true rfl⟩) rfl rfl (Nat.le_of_ble_eq_true rfl) dX10_delete_13 ⟨Nat.le_of_ble_eq_true rfl, Nat.le_of_ble_eq_true rfl⟩ (fun H locs hPz17 hW hS => ?_)
      refine W.eq (g2 := F0 m 16 ls []) rfl ?_
      refine lv_aload_n hx hb dX10_delete_16 rfl (lv_at hl 0 rfl) ?_
      replace hf := obE hf
      obtain ⟨j21, qj21, hf⟩ := hf
      have tj21 := x_rt hW qj21 7 ⟨by decide, rfl⟩
      refine x_getr 905 (ci := 9) (C := RX10) (T := TX10) (N := 11) 5 hC hin10 hW tp0 rfl rfl ⟨by decide, by decide, rfl, rfl⟩ rfl w_0 dX10_delete_17 qj21 ?_
      refine lv_iload_n hx hb dX10_delete_20 rfl (lv_at hl 1 rfl) ?_
      refine lv_iload_n hx hb dX10_delete_21 rfl (lv_at hl 2 rfl) ?_
      refine lv_iconst (v := 1) hx hb dX10_delete_22 (by decide) ?_
      replace hf := obE hf
      obtain ⟨S23, hz22, hf⟩ := hf
      refine x_callV (As := [.int p1, .int p2, .int 1]) (rest := []) (o := none) (S1 := S23) hC hl.1 hW hS hGs hA tj21 rfl (show vwCl[7]? = some (RX8, TX8, 16) ∧ 7 < 11 from ⟨rfl, by decide⟩) (c_X8_endReference l g ad n K H.size F S18 j21 p1 p2 ((1 : Int32)) tj21 S23 hz22) (cwV 3 hts gX10_delete_X8_endReference rfl rfl rfl (by decide +kernel) ⟨Nat.le_of_ble_eq_true rfl, Nat.le_of_ble_eq_true rfl⟩) rfl rfl (Nat.le_of_ble_eq_true rfl) dX10_delete_23 ⟨Nat.le_of_ble_eq_true rfl, Nat.le_of_ble_eq_true rfl⟩ (fun H locs hPz22 hW hS => ?_)
      refine W.eq (g2 := F0 m 26 ls []) rfl ?_
      refine lv_aload_n hx hb dX10_delete_26 rfl (lv_at hl 0 rfl) ?_
      replace hf := obE hf
      obtain ⟨j26, qj26, hf⟩ := hf
      have tj26 := x_rt hW qj26 7 ⟨by decide, rfl⟩
      refine x_getr 905 (ci := 9) (C := RX10) (T := TX10) (N := 11) 5 hC hin10 hW tp0 rfl rfl ⟨by decide, by decide, rfl, rfl⟩ rfl w_0 dX10_delete_27 qj26 ?_
      refine lv_iload_n hx hb dX10_delete_30 rfl (lv_at hl 1 rfl) ?_
      refine lv_iload_n hx hb dX10_delete_31 rfl (lv_at hl 2 rfl) ?_
      replace hf := obE hf
      obtain ⟨z27, hz27, hf⟩ := hf
      obtain ⟨r29, S28⟩ := z27
      replace hf := ltE (ltE hf r29 rfl) S28 rfl
      refine x_callV (As := [.int p1, .int p2]) (rest := []) (o := (some (.int r29))) (S1 := S28) hC hl.1 hW hS hGs hA tj26 rfl (show vwCl[7]? = some (RX8, TX8, 16) ∧ 7 < 11 from ⟨rfl, by decide⟩) (c_X8_stateOf l g ad n K H.size F S23 j26 p1 p2 tj26 r29 S28 hz27) (cwV 2 hts gX10_delete_X8_stateOf rfl rfl rfl (by decide +kernel) ⟨Nat.le_of_ble_eq_true rfl, Nat.le_of_ble_eq_true rfl⟩) rfl rfl (Nat.le_of_ble_eq_true rfl) dX10_delete_32 ⟨Nat.le_of_ble_eq_true rfl, Nat.le_of_ble_eq_true rfl⟩ (fun H locs hPz27 hW hS => ?_)
      refine W.eq (g2 := F0 m 35 ls [.int r29]) rfl ?_
      obtain ⟨e1, e2⟩ := so2 hf
      subst e1
      subst e2
      exact vx_ret (W.iret (v := r29) hx hb hr (fun t ht hWm => ⟨⟨_, rfl, rfl, by unfold QB; rw [ht]; exact ⟨hW, trivial⟩⟩, hS.F ht⟩) hS.2.2 dX10_delete_35 hlk)
set_option maxHeartbeats 4000000 in
set_option maxRecDepth 100000 in
theorem c_X8_isHidden (l : Launch) (g : GP) (ad : Nat → Nat) (n : Nat) (K : Nat → Nat) (sz F : Nat) (S0 : St) (p0 : Nat) (p1 : Int32) (p2 : Int32) (tp0 : p0 < n ∧ K p0 = 7) (r9 : Int32) (S9 : St) (hf : f_X8_isHidden F S0 p0 p1 p2 = some (r9, S9)) : Met l yX8_isHidden wsX8_isHidden { frames := 2, cells := 0, slots := 0, locals := 43 } (va_Pc [.ref (ad p0), .int p1, .int p2] (PB g ad n K S0 sz)) (QR (some (.int r9)) (QB g ad n K S9 (dA ad n sz) (True)) (dA ad n sz)) 0 0 (dA ad n sz) := by
  refine Met.ofW (cc := cX8_isHidden) (maxL := 4) (ret := (some .boolean)) (by decide) rfl ?_
  intro p e s m args below meth c s₁ B hml hv
  obtain ⟨rfl, hsz, hW, hK, hGs⟩ := x_start hv
  subst hsz
  have hx := B.exec
  have hb := B.bytes
  have hr := B.returns
  have hts := atoms_spec (ws := wsX8_isHidden) B.pre
  have hown : s.vm.findClass RX8 = some m.cls := findClass_of_methodNamed B.named
  have hlk := B.notSynchronized
  have hC : Cx g p s m _ c cX8_isHidden RX8 wsX8_isHidden 4 := ⟨hx, hb, hml, hown, hts, hK⟩
  have hA : ∀ q : Nat, s.heap.size ≤ q → dA ad n s.heap.size q := fun q h => Or.inr h
  have hS : va_S (dA ad n s.heap.size) s.heap s.heap [] := va_S.rf
  have hl := lv_entry ([.ref (ad p0), .int p1, .int p2]) (n := 4) (Nat.le_of_ble_eq_true rfl)
  rw [lg_entry_eq]
  generalize (lg_sl ([.ref (ad p0), .int p1, .int p2]) ++ List.replicate (4 - (lg_sl ([.ref (ad p0), .int p1, .int p2])).length) Slot.unset).toArray = ls at hl ⊢
  have hl : lv_has ls 4 [(0, .ref (ad p0)), (1, .int p1), (2, .int p2)] := hl
  have hGE := hGs.2.2.2.2.2.2.1
  have hGM := hGs.2.2.2.2.2.2.2.1
  unfold f_X8_isHidden at hf
  refine lv_aload_n hx hb dX8_isHidden_0 rfl (lv_at hl 0 rfl) ?_
  refine lv_iload_n hx hb dX8_isHidden_1 rfl (lv_at hl 1 rfl) ?_
  refine lv_iload_n hx hb dX8_isHidden_2 rfl (lv_at hl 2 rfl) ?_
  replace hf := obE hf
  obtain ⟨z1, hz1, hf⟩ := hf
  obtain ⟨r3, S2⟩ := z1
  replace hf := ltE (ltE hf r3 rfl) S2 rfl
  refine x_callV (As := [.int p1, .int p2]) (rest := []) (o := (some (.int r3))) (S1 := S2) hC hl.1 hW hS hGs hA tp0 rfl (show vwCl[7]? = some (RX8, TX8, 16) ∧ 7 < 11 from ⟨rfl, by decide⟩) (c_X8_stateOf l g ad n K s.heap.size F S0 p0 p1 p2 tp0 r3 S2 hz1) (cwV 2 hts gX8_isHidden_X8_stateOf rfl rfl rfl (by decide +kernel) ⟨Nat.le_of_ble_eq_true rfl, Nat.le_of_ble_eq_true rfl⟩) rfl rfl (Nat.le_of_ble_eq_true rfl) dX8_isHidden_3 ⟨Nat.le_of_ble_eq_true rfl, Nat.le_of_ble_eq_true rfl⟩ (fun H locs hPz1 hW hS => ?_)
  refine W.eq (g2 := F0 m 6 ls [.int r3]) rfl ?_
  refine lv_istore_n (lv' := [(3, .int r3), (0, .ref (ad p0)), (1, .int p1), (2, .int p2)]) hx hb dX8_isHidden_6 rfl hl (by decide) rfl (fun ls hl => ?_)
  refine lv_iload_n hx hb dX8_isHidden_7 rfl (lv_at hl 0 rfl) ?_
  refine lv_iconst (v := 1) hx hb dX8_isHidden_8 (by decide) ?_
  refine lv_icmp_eq (tgt := 17) hx hb dX8_isHidden_9 (by decide) (fun c5 => ?_) (fun c5 => ?_)
  · replace hf := ifT c5 hf
    refine lv_iconst (v := 1) hx hb dX8_isHidden_17 (by decide) ?_
    refine lv_goto (tgt := 22) hx hb dX8_isHidden_18 (by decide) ?_
    obtain ⟨e1, e2⟩ := so2 hf
    subst e1
    subst e2
    exact W.zret (v := 1) hx hb hr rfl (fun t ht hWm => ⟨⟨rfl, by unfold QB; rw [ht]; exact ⟨hW, trivial⟩⟩, hS.F ht⟩) hS.2.2 dX8_isHidden_22 hlk
  · replace hf := ifF c5 hf
    refine lv_iload_n hx hb dX8_isHidden_12 rfl (lv_at hl 0 rfl) ?_
    refine lv_iconst (v := 2) hx hb dX8_isHidden_13 (by decide) ?_
    refine lv_icmp_ne (tgt := 21) hx hb dX8_isHidden_14 (by decide) (fun c6 => ?_) (fun c6 => ?_)
    · replace hf := ifT c6 hf
      refine lv_iconst (v := 0) hx hb dX8_isHidden_21 (by decide) ?_
      obtain ⟨e1, e2⟩ := so2 hf
      subst e1
      subst e2
      exact W.zret (v := 0) hx hb hr rfl (fun t ht hWm => ⟨⟨rfl, by unfold QB; rw [ht]; exact ⟨hW, trivial⟩⟩, hS.F ht⟩) hS.2.2 dX8_isHidden_22 hlk
    · replace hf := ifF (fun q => q c6) hf
      refine lv_iconst (v := 1) hx hb dX8_isHidden_17 (by decide) ?_
      refine lv_goto (tgt := 22) hx hb dX8_isHidden_18 (by decide) ?_
      obtain ⟨e1, e2⟩ := so2 hf
      subst e1
      subst e2
      exact W.zret (v := 1) hx hb hr rfl (fun t ht hWm => ⟨⟨rfl, by unfold QB; rw [ht]; exact ⟨hW, trivial⟩⟩, hS.F ht⟩) hS.2.2 dX8_isHidden_22 hlk
set_option maxHeartbeats 4000000 in
set_option maxRecDepth 100000 in
theorem c_X8_bringBack (l : Launch) (g : GP) (ad : Nat → Nat) (n : Nat) (K : Nat → Nat) (sz F : Nat) (S0 : St) (p0 : Nat) (p1 : Int32) (p2 : Int32) (tp0 : p0 < n ∧ K p0 = 7) (S9 : St) (hf : f_X8_bringBack F S0 p0 p1 p2 = some S9) : Met l yX8_bringBack wsX8_bringBack { frames := 1, cells := 0, slots := 0, locals := 22 } (va_Pc [.ref (ad p0), .int p1, .int p2] (PB g ad n K S0 sz)) (QR none (QB g ad n K S9 (dA ad n sz) (True)) (dA ad n sz)) 0 0 (dA ad n sz) := by
  refine Met.ofW (cc := cX8_bringBack) (maxL := 3) (ret := none) (by decide) rfl ?_
  intro p e s m args below meth c s₁ B hml hv
  obtain ⟨rfl, hsz, hW, hK, hGs⟩ := x_start hv
  subst hsz
  have hx := B.exec
  have hb := B.bytes
  have hr := B.returns
  have hts := atoms_spec (ws := wsX8_bringBack) B.pre
  have hown : s.vm.findClass RX8 = some m.cls := findClass_of_methodNamed B.named
  have hlk := B.notSynchronized
  have hC : Cx g p s m _ c cX8_bringBack RX8 wsX8_bringBack 3 := ⟨hx, hb, hml, hown, hts, hK⟩
  have hA : ∀ q : Nat, s.heap.size ≤ q → dA ad n s.heap.size q := fun q h => Or.inr h
  have hS : va_S (dA ad n s.heap.size) s.heap s.heap [] := va_S.rf
  have hl := lv_entry ([.ref (ad p0), .int p1, .int p2]) (n := 3) (Nat.le_of_ble_eq_true rfl)
  rw [lg_entry_eq]
  generalize (lg_sl ([.ref (ad p0), .int p1, .int p2]) ++ List.replicate (3 - (lg_sl ([.ref (ad p0), .int p1, .int p2])).length) Slot.unset).toArray = ls at hl ⊢
  have hl : lv_has ls 3 [(0, .ref (ad p0)), (1, .int p1), (2, .int p2)] := hl
  have hin8 : ∀ w ∈ wsX80, w ∈ wsX8_bringBack := by decide +kernel
  have w_0 := hts (.fieldLink RX8 25 "MailSpool$Spool" "states" "[I") (by decide +kernel)
  have w_1 := va_Nw.use (A := (List.toArray [.ref (ad p0), .int p1, .int p2])) rfl (hGs.1 (.methodLinkNest RX8 181 yX10_put "MailSpool") (by decide +kernel))
  have w_2 := hts (.initialized RX10) (by decide +kernel)
  have w_3 := hts (.static yX10_put) (by decide +kernel)
  have w_4 := hts (.fieldLink RX8 31 "MailSpool$Spool" "entered" "[I") (by decide +kernel)
  have w_5 := hts (.fieldLink RX8 66 "MailSpool$Spool" "day" "I") (by decide +kernel)
  have hGE := hGs.2.2.2.2.2.2.1
  have hGM := hGs.2.2.2.2.2.2.2.1
  unfold f_X8_bringBack at hf
  refine lv_aload_n hx hb dX8_bringBack_0 rfl (lv_at hl 0 rfl) ?_
  replace hf := obE hf
  obtain ⟨j1, qj1, hf⟩ := hf
  have tj1 := x_rt hW qj1 12 ⟨by decide, rfl⟩
  refine x_getr 707 (ci := 7) (C := RX8) (T := TX8) (N := 16) 7 hC hin8 hW tp0 rfl rfl ⟨by decide, by decide, rfl, rfl⟩ rfl w_0 dX8_bringBack_1 qj1 ?_
  refine lv_iload_n hx hb dX8_bringBack_4 rfl (lv_at hl 1 rfl) ?_
  refine lv_bipush (v := 10) hx hb dX8_bringBack_5 (by decide) ?_
  refine lv_imul hx hb dX8_bringBack_7 ?_
  refine lv_iload_n hx hb dX8_bringBack_8 rfl (lv_at hl 2 rfl) ?_
  refine lv_iadd hx hb dX8_bringBack_9 ?_
  refine lv_iconst (v := 0) hx hb dX8_bringBack_10 (by decide) ?_
  replace hf := obE hf
  obtain ⟨S3, hz2, hf⟩ := hf
  refine x_callSN (As := [.ref (ad j1), .int ((p1 * 10) + p2), .int 0]) (rest := []) (o := none) (S1 := S3) hC hl.1 hW hS hGs hA (c_X10_put l g ad n K s.heap.size F S0 j1 ((p1 * 10) + p2) ((0 : Int32)) tj1 S3 hz2) ⟨va_cnB 3 hts gX8_bringBack_X10_put_n181 rfl rfl rfl (va_Nw.of rfl w_1) w_2 (by decide +kernel) ⟨Nat.le_of_ble_eq_true rfl, Nat.le_of_ble_eq_true rfl⟩, w_3, trivial⟩ rfl rfl (Nat.le_of_ble_eq_true rfl) dX8_bringBack_11 ⟨Nat.le_of_ble_eq_true rfl, Nat.le_of_ble_eq_true rfl⟩ (fun H locs hPz2 hW hS => ?_)
  refine W.eq (g2 := F0 m 14 ls []) rfl ?_
  refine lv_aload_n hx hb dX8_bringBack_14 rfl (lv_at hl 0 rfl) ?_
  replace hf := obE hf
  obtain ⟨j6, qj6, hf⟩ := hf
  have tj6 := x_rt hW qj6 12 ⟨by decide, rfl⟩
  refine x_getr 709 (ci := 7) (C := RX8) (T := TX8) (N := 16) 9 hC hin8 hW tp0 rfl rfl ⟨by decide, by decide, rfl, rfl⟩ rfl w_4 dX8_bringBack_15 qj6 ?_
  refine lv_iload_n hx hb dX8_bringBack_18 rfl (lv_at hl 1 rfl) ?_
  refine lv_bipush (v := 10) hx hb dX8_bringBack_19 (by decide) ?_
  refine lv_imul hx hb dX8_bringBack_21 ?_
  refine lv_iload_n hx hb dX8_bringBack_22 rfl (lv_at hl 2 rfl) ?_
  refine lv_iadd hx hb dX8_bringBack_23 ?_
  refine lv_aload_n hx hb dX8_bringBack_24 rfl (lv_at hl 0 rfl) ?_
  refine x_geti 701 (ci := 7) (C := RX8) (T := TX8) (N := 16) 1 hC hin8 hW tp0 rfl rfl ⟨by decide, by decide, rfl, rfl⟩ rfl w_5 dX8_bringBack_25 ?_
  replace hf := obE hf
  obtain ⟨S8, hz7, hf⟩ := hf
  refine x_callSN (As := [.ref (ad j6), .int ((p1 * 10) + p2), .int (si S3 701 p0)]) (rest := []) (o := none) (S1 := S8) hC hl.1 hW hS hGs hA (c_X10_put l g ad n K H.size F S3 j6 ((p1 * 10) + p2) (si S3 701 p0) tj6 S8 hz7) ⟨va_cnB 3 hts gX8_bringBack_X10_put_n181 rfl rfl rfl (va_Nw.of rfl w_1) w_2 (by decide +kernel) ⟨Nat.le_of_ble_eq_true rfl, Nat.le_of_ble_eq_true rfl⟩, w_3, trivial⟩ rfl rfl (Nat.le_of_ble_eq_true rfl) dX8_bringBack_28 ⟨Nat.le_of_ble_eq_true rfl, Nat.le_of_ble_eq_true rfl⟩ (fun H locs hPz7 hW hS => ?_)
  refine W.eq (g2 := F0 m 31 ls []) rfl ?_
  have e1 := Option.some.inj hf
  subst e1
  exact W.vret hx hb hr (fun t ht hWm => ⟨⟨rfl, by unfold QB; rw [ht]; exact ⟨hW, trivial⟩⟩, hS.F ht⟩) hS.2.2 dX8_bringBack_31 hlk
set_option maxHeartbeats 4000000 in
set_option maxRecDepth 100000 in
theorem c_X10_recover (l : Launch) (hfl : l.stackTraces = false) (g : GP) (ad : Nat → Nat) (n : Nat) (K : Nat → Nat) (sz F : Nat) (S0 : St) (p0 : Nat) (p1 : Int32) (p2 : Int32) (tp0 : p0 < n ∧ K p0 = 9) (o9 : Nat ⊕ Int32) (S9 : St) (hf : f_X10_recover F S0 p0 p1 p2 = some (o9, S9)) : vx_Met l yX10_recover wsX10_recover { frames := 7, cells := 2, slots := 12, locals := 126 } (va_Pc [.ref (ad p0), .int p1, .int p2] (PB g ad n K S0 sz)) (QT o9 (fun r => some (.int r)) (QB g ad n K S9 (dA ad n sz) True) (dA ad n sz)) (XT o9 (QB g ad n K S9 (dA ad n sz) True) (dA ad n sz)) 2 12 (dA ad n sz) := by
  refine vx_ofW (cc := cX10_recover) (maxL := 4) (ret := (some .int)) (by decide) rfl ?_
  intro p e s m args below meth c s₁ B hml hno hv
  obtain ⟨rfl, hsz, hW, hK, hGs⟩ := x_start hv
  subst hsz
  have hx := B.exec
  have hb := B.bytes
  have hr := B.returns
  have hts := atoms_spec (ws := wsX10_recover) B.pre
  have hown : s.vm.findClass RX10 = some m.cls := findClass_of_methodNamed B.named
  have hlk := B.notSynchronized
  have hC : Cx g p s m _ c cX10_recover RX10 wsX10_recover 4 := ⟨hx, hb, hml, hown, hts, hK⟩
  have hA : ∀ q : Nat, s.heap.size ≤ q → dA ad n s.heap.size q := fun q h => Or.inr h
  have hS : va_S (dA ad n s.heap.size) s.heap s.heap [] := va_S.rf
  have hl := lv_entry ([.ref (ad p0), .int p1, .int p2]) (n := 4) (Nat.le_of_ble_eq_true rfl)
  rw [lg_entry_eq]
  generalize (lg_sl ([.ref (ad p0), .int p1, .int p2]) ++ List.replicate (4 - (lg_sl ([.ref (ad p0), .int p1, .int p2])).length) Slot.unset).toArray = ls at hl ⊢
  have hl : lv_has ls 4 [(0, .ref (ad p0)), (1, .int p1), (2, .int p2)] := hl
  have hin10 : ∀ w ∈ wsX100, w ∈ wsX10_recover := by decide +kernel
  have w_0 := hts (.fieldLink RX10 42 "MailSpool" "now" "LMailSpool$Spool;") (by decide +kernel)
  have w_1 := hts (.classLink RX10 60 "java/lang/IllegalStateException") (by decide +kernel)
  have w_2 := hts (.initialized "java/lang/IllegalStateException") (by decide +kernel)
  have hat1 : ∀ w ∈ (vx_atS RX10 64 (exn 1) exNm).filter goodWord, w.before _ s = true := fun w h => hts w ((by decide +kernel : ∀ w ∈ (vx_atS RX10 64 (exn 1) exNm).filter goodWord, w ∈ wsX10_recover) w h)
  have hGE := hGs.2.2.2.2.2.2.1
  have hGM := hGs.2.2.2.2.2.2.2.1
  unfold f_X10_recover at hf
  refine lv_aload_n hx hb dX10_recover_0 rfl (lv_at hl 0 rfl) ?_
  refine lv_iload_n hx hb dX10_recover_1 rfl (lv_at hl 1 rfl) ?_
  refine lv_iload_n hx hb dX10_recover_2 rfl (lv_at hl 2 rfl) ?_
  replace hf := obE hf
  obtain ⟨z1, hz1, hf⟩ := hf
  obtain ⟨oz1, S2⟩ := z1
  replace hf := ltE hf S2 rfl
  refine x_tcallV (As := [.int p1, .int p2]) (rest := []) (S1 := S2) (o := oz1) (vr := (fun _ => none)) (P := True) hC hl.1 hW hS hGs hA tp0 rfl (show vwCl[9]? = some (RX10, TX10, 11) ∧ 9 < 11 from ⟨rfl, by decide⟩) (c_X10_needReference l hfl g ad n K s.heap.size F S0 p0 p1 p2 tp0 oz1 S2 hz1) (cwV 2 hts gX10_recover_X10_needReference rfl rfl rfl (by decide +kernel) ⟨Nat.le_of_ble_eq_true rfl, Nat.le_of_ble_eq_true rfl⟩) rfl rfl (Nat.le_of_ble_eq_true rfl) dX10_recover_3 ⟨Nat.le_of_ble_eq_true rfl, Nat.le_of_ble_eq_true rfl⟩ (fun x5 H locs ce q9 ho hW hS hc1 hc2 hc3 => ?_) (fun r3 H locs ho hP hW hS => ?_)
  · replace hf := smL ho hf
    obtain ⟨e1, e2⟩ := so2 hf
    subst e1
    subst e2
    exact x_tout hno hlk rfl hW hS hc1 hc2 hc3 (Nat.le_of_ble_eq_true rfl) (Nat.le_of_ble_eq_true rfl)
  · replace hf := smR ho hf
    refine W.widen (k := 1) (n := 6) (Nat.le_of_ble_eq_true rfl) (Nat.le_of_ble_eq_true rfl) ?_
    refine W.eq (g2 := F0 m 6 ls []) rfl ?_
    refine lv_aload_n hx hb dX10_recover_6 rfl (lv_at hl 0 rfl) ?_
    replace hf := obE hf
    obtain ⟨j9, qj9, hf⟩ := hf
    have tj9 := x_rt hW qj9 7 ⟨by decide, rfl⟩
    refine x_getr 905 (ci := 9) (C := RX10) (T := TX10) (N := 11) 5 hC hin10 hW tp0 rfl rfl ⟨by decide, by decide, rfl, rfl⟩ rfl w_0 dX10_recover_7 qj9 ?_
    refine lv_iload_n hx hb dX10_recover_10 rfl (lv_at hl 1 rfl) ?_
    refine lv_iload_n hx hb dX10_recover_11 rfl (lv_at hl 2 rfl) ?_
    replace hf := obE hf
    obtain ⟨z10, hz10, hf⟩ := hf
    obtain ⟨r12, S11⟩ := z10
    replace hf := ltE (ltE hf r12 rfl) S11 rfl
    refine x_callV (As := [.int p1, .int p2]) (rest := []) (o := (some (.int r12))) (S1 := S11) hC hl.1 hW hS hGs hA tj9 rfl (show vwCl[7]? = some (RX8, TX8, 16) ∧ 7 < 11 from ⟨rfl, by decide⟩) (c_X8_isHidden l g ad n K H.size F S2 j9 p1 p2 tj9 r12 S11 hz10) (cwV 2 hts gX10_recover_X8_isHidden rfl rfl rfl (by decide +kernel) ⟨Nat.le_of_ble_eq_true rfl, Nat.le_of_ble_eq_true rfl⟩) rfl rfl (Nat.le_of_ble_eq_true rfl) dX10_recover_12 ⟨Nat.le_of_ble_eq_true rfl, Nat.le_of_ble_eq_true rfl⟩ (fun H locs hPz10 hW hS => ?_)
    refine W.eq (g2 := F0 m 15 ls [.int r12]) rfl ?_
    refine lv_if_ne (tgt := 29) hx hb dX10_recover_15 (by decide) (fun c14 => ?_) (fun c14 => ?_)
    · replace hf := ifT c14 hf
      refine lv_aload_n hx hb dX10_recover_29 rfl (lv_at hl 0 rfl) ?_
      replace hf := obE hf
      obtain ⟨S16, hz15, hf⟩ := hf
      refine x_callV (As := []) (rest := []) (o := none) (S1 := S16) hC hl.1 hW hS hGs hA tp0 rfl (show vwCl[9]? = some (RX10, TX10, 11) ∧ 9 < 11 from ⟨rfl, by decide⟩) (c_X10_remember l g ad n K H.size F S11 p0 tp0 S16 hz15) (cwV 0 hts gX10_recover_X10_remember rfl rfl rfl (by decide +kernel) ⟨Nat.le_of_ble_eq_true rfl, Nat.le_of_ble_eq_true rfl⟩) rfl rfl (Nat.le_of_ble_eq_true rfl) dX10_recover_30 ⟨Nat.le_of_ble_eq_true rfl, Nat.le_of_ble_eq_true rfl⟩ (fun H locs hPz15 hW hS => ?_)
      refine W.eq (g2 := F0 m 33 ls []) rfl ?_
      refine lv_aload_n hx hb dX10_recover_33 rfl (lv_at hl 0 rfl) ?_
      replace hf := obE hf
      obtain ⟨j19, qj19, hf⟩ := hf
      have tj19 := x_rt hW qj19 7 ⟨by decide, rfl⟩
      refine x_getr 905 (ci := 9) (C := RX10) (T := TX10) (N := 11) 5 hC hin10 hW tp0 rfl rfl ⟨by decide, by decide, rfl, rfl⟩ rfl w_0 dX10_recover_34 qj19 ?_
      refine lv_iload_n hx hb dX10_recover_37 rfl (lv_at hl 1 rfl) ?_
      refine lv_iload_n hx hb dX10_recover_38 rfl (lv_at hl 2 rfl) ?_
      replace hf := obE hf
      obtain ⟨z20, hz20, hf⟩ := hf
      obtain ⟨r22, S21⟩ := z20
      replace hf := ltE (ltE hf r22 rfl) S21 rfl
      refine x_callV (As := [.int p1, .int p2]) (rest := []) (o := (some (.int r22))) (S1 := S21) hC hl.1 hW hS hGs hA tj19 rfl (show vwCl[7]? = some (RX8, TX8, 16) ∧ 7 < 11 from ⟨rfl, by decide⟩) (c_X8_stateOf l g ad n K H.size F S16 j19 p1 p2 tj19 r22 S21 hz20) (cwV 2 hts gX10_recover_X8_stateOf rfl rfl rfl (by decide +kernel) ⟨Nat.le_of_ble_eq_true rfl, Nat.le_of_ble_eq_true rfl⟩) rfl rfl (Nat.le_of_ble_eq_true rfl) dX10_recover_39 ⟨Nat.le_of_ble_eq_true rfl, Nat.le_of_ble_eq_true rfl⟩ (fun H locs hPz20 hW hS => ?_)
      refine W.eq (g2 := F0 m 42 ls [.int r22]) rfl ?_
      refine lv_istore_n (lv' := [(3, .int r22), (0, .ref (ad p0)), (1, .int p1), (2, .int p2)]) hx hb dX10_recover_42 rfl hl (by decide) rfl (fun ls hl => ?_)
      refine lv_aload_n hx hb dX10_recover_43 rfl (lv_at hl 1 rfl) ?_
      replace hf := obE hf
      obtain ⟨j24, qj24, hf⟩ := hf
      have tj24 := x_rt hW qj24 7 ⟨by decide, rfl⟩
      refine x_getr 905 (ci := 9) (C := RX10) (T := TX10) (N := 11) 5 hC hin10 hW tp0 rfl rfl ⟨by decide, by decide, rfl, rfl⟩ rfl w_0 dX10_recover_44 qj24 ?_
      refine lv_iload_n hx hb dX10_recover_47 rfl (lv_at hl 2 rfl) ?_
      refine lv_iload_n hx hb dX10_recover_48 rfl (lv_at hl 3 rfl) ?_
      replace hf := obE hf
      obtain ⟨S26, hz25, hf⟩ := hf
      refine x_callV (As := [.int p1, .int p2]) (rest := []) (o := none) (S1 := S26) hC hl.1 hW hS hGs hA tj24 rfl (show vwCl[7]? = some (RX8, TX8, 16) ∧ 7 < 11 from ⟨rfl, by decide⟩) (c_X8_bringBack l g ad n K H.size F S21 j24 p1 p2 tj24 S26 hz25) (cwV 2 hts gX10_recover_X8_bringBack rfl rfl rfl (by decide +kernel) ⟨Nat.le_of_ble_eq_true rfl, Nat.le_of_ble_eq_true rfl⟩) rfl rfl (Nat.le_of_ble_eq_true rfl) dX10_recover_49 ⟨Nat.le_of_ble_eq_true rfl, Nat.le_of_ble_eq_true rfl⟩ (fun H locs hPz25 hW hS => ?_)
      refine W.eq (g2 := F0 m 52 ls []) rfl ?_
      refine lv_iload_n hx hb dX10_recover_52 rfl (lv_at hl 0 rfl) ?_
      obtain ⟨e1, e2⟩ := so2 hf
      subst e1
      subst e2
      refine W.widen (k := 2) (n := 12) (Nat.le_of_ble_eq_true rfl) (Nat.le_of_ble_eq_true rfl) ?_
      exact vx_ret (W.iret (v := r22) hx hb hr (fun t ht hWm => ⟨⟨_, rfl, rfl, by unfold QB; rw [ht]; exact ⟨hW, trivial⟩⟩, hS.F ht⟩) hS.2.2 dX10_recover_53 hlk)
    · replace hf := ifF (fun q => q c14) hf
      obtain ⟨e1, e2⟩ := so2 hf
      subst e1
      subst e2
      exact x_throwSW (x := 1) (text := "the reference is not hidden") hC hfl hno hl.1 hGs hS hlk w_1 w_2 (by decide +kernel) hat1 ⟨by decide +kernel, by decide +kernel, by decide +kernel⟩ dX10_recover_18 dX10_recover_21 dX10_recover_22 dX10_recover_25 dX10_recover_28 (Nat.le_of_ble_eq_true rfl) (Nat.le_of_ble_eq_true rfl) (Nat.le_of_ble_eq_true rfl) (Nat.le_of_ble_eq_true rfl) (Nat.le_of_ble_eq_true rfl) (Nat.le_of_ble_eq_true rfl) (fun t hv hq hF => ⟨⟨1, rfl, rfl, hW.kept hq, trivial⟩, hF⟩)
set_option maxHeartbeats 4000000 in
set_option maxRecDepth 100000 in
theorem c_X10_needHold (l : Launch) (hfl : l.stackTraces = false) (g : GP) (ad : Nat → Nat) (n : Nat) (K : Nat → Nat) (sz F : Nat) (S0 : St) (p0 : Nat) (p1 : Int32) (tp0 : p0 < n ∧ K p0 = 9) (o9 : Nat ⊕ Unit) (S9 : St) (hf : f_X10_needHold F S0 p0 p1 = some (o9, S9)) : vx_Met l yX10_needHold wsX10_needHold { frames := 6, cells := 1, slots := 6, locals := 100 } (va_Pc [.ref (ad p0), .int p1] (PB g ad n K S0 sz)) (QT o9 (fun _ => none) (QB g ad n K S9 (dA ad n sz) True) (dA ad n sz)) (XT o9 (QB g ad n K S9 (dA ad n sz) True) (dA ad n sz)) 1 6 (dA ad n sz) := by
  refine vx_ofW (cc := cX10_needHold) (maxL := 2) (ret := none) (by decide) rfl ?_
  intro p e s m args below meth c s₁ B hml hno hv
  obtain ⟨rfl, hsz, hW, hK, hGs⟩ := x_start hv
  subst hsz
  have hx := B.exec
  have hb := B.bytes
  have hr := B.returns
  have hts := atoms_spec (ws := wsX10_needHold) B.pre
  have hown : s.vm.findClass RX10 = some m.cls := findClass_of_methodNamed B.named
  have hlk := B.notSynchronized
  have hC : Cx g p s m _ c cX10_needHold RX10 wsX10_needHold 2 := ⟨hx, hb, hml, hown, hts, hK⟩
  have hA : ∀ q : Nat, s.heap.size ≤ q → dA ad n s.heap.size q := fun q h => Or.inr h
  have hS : va_S (dA ad n s.heap.size) s.heap s.heap [] := va_S.rf
  have hl := lv_entry ([.ref (ad p0), .int p1]) (n := 2) (Nat.le_of_ble_eq_true rfl)
  rw [lg_entry_eq]
  generalize (lg_sl ([.ref (ad p0), .int p1]) ++ List.replicate (2 - (lg_sl ([.ref (ad p0), .int p1])).length) Slot.unset).toArray = ls at hl ⊢
  have hl : lv_has ls 2 [(0, .ref (ad p0)), (1, .int p1)] := hl
  have hin7 : ∀ w ∈ wsX70, w ∈ wsX10_needHold := by decide +kernel
  have hin8 : ∀ w ∈ wsX80, w ∈ wsX10_needHold := by decide +kernel
  have hin10 : ∀ w ∈ wsX100, w ∈ wsX10_needHold := by decide +kernel
  have w_0 := hts (.fieldLink RX10 42 "MailSpool" "now" "LMailSpool$Spool;") (by decide +kernel)
  have w_1 := va_Nw.use (A := (List.toArray [.ref (ad p0), .int p1])) rfl (hGs.1 (.fieldLinkNest RX10 104 "MailSpool$Spool" "rules" "LMailSpool$Rules;" "MailSpool") (by decide +kernel))
  have w_2 := va_Nw.use (A := (List.toArray [.ref (ad p0), .int p1])) rfl (hGs.1 (.fieldLinkNest RX10 446 "MailSpool$Rules" "holds" "LMailSpool$Names;" "MailSpool") (by decide +kernel))
  have w_3 := hts (.classLink RX10 134 "java/util/NoSuchElementException") (by decide +kernel)
  have w_4 := hts (.initialized "java/util/NoSuchElementException") (by decide +kernel)
  have hat4 : ∀ w ∈ (nsAt RX10 138).filter goodWord, w.before _ s = true := fun w h => hts w ((by decide +kernel : ∀ w ∈ (nsAt RX10 138).filter goodWord, w ∈ wsX10_needHold) w h)
  have hGE := hGs.2.2.2.2.2.2.1
  have hGM := hGs.2.2.2.2.2.2.2.1
  unfold f_X10_needHold at hf
  refine lv_aload_n hx hb dX10_needHold_0 rfl (lv_at hl 0 rfl) ?_
  replace hf := obE hf
  obtain ⟨j1, qj1, hf⟩ := hf
  have tj1 := x_rt hW qj1 7 ⟨by decide, rfl⟩
  refine x_getr 905 (ci := 9) (C := RX10) (T := TX10) (N := 11) 5 hC hin10 hW tp0 rfl rfl ⟨by decide, by decide, rfl, rfl⟩ rfl w_0 dX10_needHold_1 qj1 ?_
  replace hf := obE hf
  obtain ⟨j2, qj2, hf⟩ := hf
  have tj2 := x_rt hW qj2 6 ⟨by decide, rfl⟩
  refine x_getrN 700 (ci := 7) (C := RX8) (T := TX8) (N := 16) 0 hC hin8 hW tj1 rfl rfl ⟨by decide, by decide, rfl, rfl⟩ rfl w_1 dX10_needHold_4 qj2 ?_
  replace hf := obE hf
  obtain ⟨j3, qj3, hf⟩ := hf
  have tj3 := x_rt hW qj3 4 ⟨by decide, rfl⟩
  refine x_getrN 611 (ci := 6) (C := RX7) (T := TX7) (N := 16) 11 hC hin7 hW tj2 rfl rfl ⟨by decide, by decide, rfl, rfl⟩ rfl w_2 dX10_needHold_7 qj3 ?_
  refine lv_iload_n hx hb dX10_needHold_10 rfl (lv_at hl 1 rfl) ?_
  replace hf := obE hf
  obtain ⟨z4, hz4, hf⟩ := hf
  obtain ⟨r6, S5⟩ := z4
  replace hf := ltE (ltE hf r6 rfl) S5 rfl
  refine x_callV (As := [.int p1]) (rest := []) (o := (some (.int r6))) (S1 := S5) hC hl.1 hW hS hGs hA tj3 rfl (show vwCl[4]? = some (RX5, TX5, 2) ∧ 4 < 11 from ⟨rfl, by decide⟩) (c_X5_has l g ad n K s.heap.size F S0 j3 p1 tj3 r6 S5 hz4) (cwV 1 hts gX10_needHold_X5_has rfl rfl rfl (by decide +kernel) ⟨Nat.le_of_ble_eq_true rfl, Nat.le_of_ble_eq_true rfl⟩) rfl rfl (Nat.le_of_ble_eq_true rfl) dX10_needHold_11 ⟨Nat.le_of_ble_eq_true rfl, Nat.le_of_ble_eq_true rfl⟩ (fun H locs hPz4 hW hS => ?_)
  refine W.eq (g2 := F0 m 14 ls [.int r6]) rfl ?_
  refine lv_if_ne (tgt := 28) hx hb dX10_needHold_14 (by decide) (fun c8 => ?_) (fun c8 => ?_)
  · replace hf := ifT c8 hf
    obtain ⟨e1, e2⟩ := so2 hf
    subst e1
    subst e2
    refine W.widen (k := 1) (n := 6) (Nat.le_of_ble_eq_true rfl) (Nat.le_of_ble_eq_true rfl) ?_
    exact vx_ret (W.vret hx hb hr (fun t ht hWm => ⟨⟨_, rfl, rfl, by unfold QB; rw [ht]; exact ⟨hW, trivial⟩⟩, hS.F ht⟩) hS.2.2 dX10_needHold_28 hlk)
  · replace hf := ifF (fun q => q c8) hf
    obtain ⟨e1, e2⟩ := so2 hf
    subst e1
    subst e2
    exact x_throwNSW (text := "no such hold") hC hfl hno hl.1 hGs hS hlk w_3 w_4 (by decide +kernel) hat4 ⟨trivial, by decide +kernel, by decide +kernel⟩ dX10_needHold_17 dX10_needHold_20 dX10_needHold_21 dX10_needHold_24 dX10_needHold_27 (Nat.le_of_ble_eq_true rfl) (Nat.le_of_ble_eq_true rfl) (Nat.le_of_ble_eq_true rfl) (Nat.le_of_ble_eq_true rfl) (Nat.le_of_ble_eq_true rfl) (Nat.le_of_ble_eq_true rfl) (fun t hv hq hF => ⟨⟨4, rfl, rfl, hW.kept hq, trivial⟩, hF⟩)
