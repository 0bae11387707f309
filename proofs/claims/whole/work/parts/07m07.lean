set_option maxHeartbeats 4000000 in
set_option maxRecDepth 100000 in
theorem c_X10_event (l : Launch) (hfl : l.stackTraces = false) (g : GP) (ad : Nat → Nat) (n : Nat) (K : Nat → Nat) (sz F : Nat) (S0 : St) (p0 : Nat) (p1 : Int32) (p2 : Int32) (tp0 : p0 < n ∧ K p0 = 9) (o9 : Nat ⊕ Int32) (S9 : St) (hf : f_X10_event F S0 p0 p1 p2 = some (o9, S9)) : vx_Met l yX10_event wsX10_event { frames := 7, cells := 1, slots := 6, locals := 121 } (va_Pc [.ref (ad p0), .int p1, .int p2] (PB g ad n K S0 sz)) (QT o9 (fun r => some (.int r)) (QB g ad n K S9 (dA ad n sz) True) (dA ad n sz)) (XT o9 (QB g ad n K S9 (dA ad n sz) True) (dA ad n sz)) 1 6 (dA ad n sz) := by
  refine vx_ofW (cc := cX10_event) (maxL := 3) (ret := (some .int)) (by decide) rfl ?_
  intro p e s m args below meth c s₁ B hml hno hv
  obtain ⟨rfl, hsz, hW, hK, hGs⟩ := x_start hv
  subst hsz
  have hx := B.exec
  have hb := B.bytes
  have hr := B.returns
  have hts := atoms_spec (ws := wsX10_event) B.pre
  have hown : s.vm.findClass RX10 = some m.cls := findClass_of_methodNamed B.named
  have hlk := B.notSynchronized
  have hC : Cx g p s m _ c cX10_event RX10 wsX10_event 3 := ⟨hx, hb, hml, hown, hts, hK⟩
  have hA : ∀ q : Nat, s.heap.size ≤ q → dA ad n s.heap.size q := fun q h => Or.inr h
  have hS : va_S (dA ad n s.heap.size) s.heap s.heap [] := va_S.rf
  have hl := lv_entry ([.ref (ad p0), .int p1, .int p2]) (n := 3) (Nat.le_of_ble_eq_true rfl)
  rw [lg_entry_eq]
  generalize (lg_sl ([.ref (ad p0), .int p1, .int p2]) ++ List.replicate (3 - (lg_sl ([.ref (ad p0), .int p1, .int p2])).length) Slot.unset).toArray = ls at hl ⊢
  have hl : lv_has ls 3 [(0, .ref (ad p0)), (1, .int p1), (2, .int p2)] := hl
  have hin2 : ∀ w ∈ wsX20, w ∈ wsX10_event := by decide +kernel
  have hin8 : ∀ w ∈ wsX80, w ∈ wsX10_event := by decide +kernel
  have hin10 : ∀ w ∈ wsX100, w ∈ wsX10_event := by decide +kernel
  have w_0 := hts (.classLink RX10 134 "java/util/NoSuchElementException") (by decide +kernel)
  have w_1 := hts (.initialized "java/util/NoSuchElementException") (by decide +kernel)
  have w_2 := hts (.fieldLink RX10 42 "MailSpool" "now" "LMailSpool$Spool;") (by decide +kernel)
  have w_3 := va_Nw.use (A := (List.toArray [.ref (ad p0), .int p1, .int p2])) rfl (hGs.1 (.fieldLinkNest RX10 388 "MailSpool$Spool" "journal" "LMailSpool$Journal;" "MailSpool") (by decide +kernel))
  have w_4 := va_Nw.use (A := (List.toArray [.ref (ad p0), .int p1, .int p2])) rfl (hGs.1 (.fieldLinkNest RX10 392 "MailSpool$Journal" "size" "I" "MailSpool") (by decide +kernel))
  have hat4 : ∀ w ∈ (nsAt RX10 138).filter goodWord, w.before _ s = true := fun w h => hts w ((by decide +kernel : ∀ w ∈ (nsAt RX10 138).filter goodWord, w ∈ wsX10_event) w h)
  have hGE := hGs.2.2.2.2.2.2.1
  have hGM := hGs.2.2.2.2.2.2.2.1
  have L18 : ∀ (S0 : St)   (H : Heap) (locs : List Loc) (ls : Array Slot), f_X10_event_L18 F S0  = some (o9, S9) → Wb g ad n K S0 (dA ad n s.heap.size) H → va_S (dA ad n s.heap.size) s.heap H locs → lv_has ls 3 [] → W p l e (headSpec wsX10_event { frames := 7, cells := 1, slots := 6, locals := 121 }).room s m (List.toArray [.ref (ad p0), .int p1, .int p2]) below meth c H locs 0 0 (vx_MQ below (QT o9 (fun r => some (.int r)) (QB g ad n K S9 (dA ad n s.heap.size) True) (dA ad n s.heap.size)) (XT o9 (QB g ad n K S9 (dA ad n s.heap.size) True) (dA ad n s.heap.size)) (List.toArray [.ref (ad p0), .int p1, .int p2]) s 1 6 (dA ad n s.heap.size)) (F0 m 18 ls []) := by
    intro S0  H locs ls hf hW hS hl
    unfold f_X10_event_L18 at hf
    obtain ⟨e1, e2⟩ := so2 hf
    subst e1
    subst e2
    exact x_throwNSW (text := "no such event") hC hfl hno hl.1 hGs hS hlk w_0 w_1 (by decide +kernel) hat4 ⟨trivial, by decide +kernel, by decide +kernel⟩ dX10_event_18 dX10_event_21 dX10_event_22 dX10_event_25 dX10_event_28 (Nat.le_of_ble_eq_true rfl) (Nat.le_of_ble_eq_true rfl) (Nat.le_of_ble_eq_true rfl) (Nat.le_of_ble_eq_true rfl) (Nat.le_of_ble_eq_true rfl) (Nat.le_of_ble_eq_true rfl) (fun t hv hq hF => ⟨⟨4, rfl, rfl, hW.kept hq, trivial⟩, hF⟩)
  unfold f_X10_event at hf
  refine lv_iload_n hx hb dX10_event_0 rfl (lv_at hl 1 rfl) ?_
  refine lv_if_lt (tgt := 18) hx hb dX10_event_1 (by decide) (fun c1 => ?_) (fun c1 => ?_)
  · replace hf := ifT c1 hf
    exact L18 S0 _ _ _ hf hW hS (lv_sub hl [] rfl)
  · replace hf := ifF c1 hf
    refine lv_iload_n hx hb dX10_event_4 rfl (lv_at hl 1 rfl) ?_
    refine lv_aload_n hx hb dX10_event_5 rfl (lv_at hl 0 rfl) ?_
    replace hf := obE hf
    obtain ⟨j2, qj2, hf⟩ := hf
    have tj2 := x_rt hW qj2 7 ⟨by decide, rfl⟩
    refine x_getr 905 (ci := 9) (C := RX10) (T := TX10) (N := 11) 5 hC hin10 hW tp0 rfl rfl ⟨by decide, by decide, rfl, rfl⟩ rfl w_2 dX10_event_6 qj2 ?_
    replace hf := obE hf
    obtain ⟨j3, qj3, hf⟩ := hf
    have tj3 := x_rt hW qj3 2 ⟨by decide, rfl⟩
    refine x_getrN 711 (ci := 7) (C := RX8) (T := TX8) (N := 16) 11 hC hin8 hW tj2 rfl rfl ⟨by decide, by decide, rfl, rfl⟩ rfl w_3 dX10_event_9 qj3 ?_
    refine x_getiN 204 (ci := 2) (C := RX2) (T := TX2) (N := 5) 4 hC hin2 hW tj3 rfl rfl ⟨by decide, by decide, rfl, rfl⟩ rfl w_4 dX10_event_12 ?_
    refine lv_icmp_lt (tgt := 29) hx hb dX10_event_15 (by decide) (fun c4 => ?_) (fun c4 => ?_)
    · replace hf := ifT c4 hf
      refine lv_iload_n hx hb dX10_event_29 rfl (lv_at hl 2 rfl) ?_
      refine lv_iconst (v := 2) hx hb dX10_event_30 (by decide) ?_
      replace hf := obE hf
      obtain ⟨z5, hz5, hf⟩ := hf
      obtain ⟨oz5, S6⟩ := z5
      replace hf := ltE hf S6 rfl
      refine x_tcallS (As := [.int p2, .int 2]) (rest := []) (S1 := S6) (o := oz5) (vr := (fun _ => none)) (P := True) hC hl.1 hW hS hGs hA (c_X10_needWhat l hfl g ad n K s.heap.size F S0 p2 ((2 : Int32)) oz5 S6 hz5) (va_cwS 2 hts gX10_event_X10_needWhat rfl rfl rfl (by decide +kernel) ⟨Nat.le_of_ble_eq_true rfl, Nat.le_of_ble_eq_true rfl⟩) rfl rfl (Nat.le_of_ble_eq_true rfl) dX10_event_31 ⟨Nat.le_of_ble_eq_true rfl, Nat.le_of_ble_eq_true rfl⟩ (fun x9 H locs ce q9 ho hW hS hc1 hc2 hc3 => ?_) (fun r7 H locs ho hP hW hS => ?_)
      · replace hf := smL ho hf
        obtain ⟨e1, e2⟩ := so2 hf
        subst e1
        subst e2
        exact x_tout hno hlk rfl hW hS hc1 hc2 hc3 (Nat.le_of_ble_eq_true rfl) (Nat.le_of_ble_eq_true rfl)
      · replace hf := smR ho hf
        refine W.widen (k := 1) (n := 6) (Nat.le_of_ble_eq_true rfl) (Nat.le_of_ble_eq_true rfl) ?_
        refine W.eq (g2 := F0 m 34 ls []) rfl ?_
        refine lv_aload_n hx hb dX10_event_34 rfl (lv_at hl 0 rfl) ?_
        replace hf := obE hf
        obtain ⟨j13, qj13, hf⟩ := hf
        have tj13 := x_rt hW qj13 7 ⟨by decide, rfl⟩
        refine x_getr 905 (ci := 9) (C := RX10) (T := TX10) (N := 11) 5 hC hin10 hW tp0 rfl rfl ⟨by decide, by decide, rfl, rfl⟩ rfl w_2 dX10_event_35 qj13 ?_
        replace hf := obE hf
        obtain ⟨j14, qj14, hf⟩ := hf
        have tj14 := x_rt hW qj14 2 ⟨by decide, rfl⟩
        refine x_getrN 711 (ci := 7) (C := RX8) (T := TX8) (N := 16) 11 hC hin8 hW tj13 rfl rfl ⟨by decide, by decide, rfl, rfl⟩ rfl w_3 dX10_event_38 qj14 ?_
        refine lv_iload_n hx hb dX10_event_41 rfl (lv_at hl 1 rfl) ?_
        refine lv_iload_n hx hb dX10_event_42 rfl (lv_at hl 2 rfl) ?_
        replace hf := obE hf
        obtain ⟨z15, hz15, hf⟩ := hf
        obtain ⟨r17, S16⟩ := z15
        replace hf := ltE (ltE hf r17 rfl) S16 rfl
        refine x_callV (As := [.int p1, .int p2]) (rest := []) (o := (some (.int r17))) (S1 := S16) hC hl.1 hW hS hGs hA tj14 rfl (show vwCl[2]? = some (RX2, TX2, 5) ∧ 2 < 11 from ⟨rfl, by decide⟩) (c_X2_valueAt l g ad n K H.size F S6 j14 p1 p2 tj14 r17 S16 hz15) (cwV 2 hts gX10_event_X2_valueAt rfl rfl rfl (by decide +kernel) ⟨Nat.le_of_ble_eq_true rfl, Nat.le_of_ble_eq_true rfl⟩) rfl rfl (Nat.le_of_ble_eq_true rfl) dX10_event_43 ⟨Nat.le_of_ble_eq_true rfl, Nat.le_of_ble_eq_true rfl⟩ (fun H locs hPz15 hW hS => ?_)
        refine W.eq (g2 := F0 m 46 ls [.int r17]) rfl ?_
        obtain ⟨e1, e2⟩ := so2 hf
        subst e1
        subst e2
        exact vx_ret (W.iret (v := r17) hx hb hr (fun t ht hWm => ⟨⟨_, rfl, rfl, by unfold QB; rw [ht]; exact ⟨hW, trivial⟩⟩, hS.F ht⟩) hS.2.2 dX10_event_46 hlk)
    · replace hf := ifF c4 hf
      exact L18 S0 _ _ _ hf hW hS (lv_sub hl [] rfl)
set_option maxHeartbeats 4000000 in
set_option maxRecDepth 100000 in
theorem c_X10_eventsOf (l : Launch) (hfl : l.stackTraces = false) (g : GP) (ad : Nat → Nat) (n : Nat) (K : Nat → Nat) (sz F : Nat) (S0 : St) (p0 : Nat) (p1 : Int32) (tp0 : p0 < n ∧ K p0 = 9) (o9 : Nat ⊕ Int32) (S9 : St) (hf : f_X10_eventsOf F S0 p0 p1 = some (o9, S9)) : vx_Met l yX10_eventsOf wsX10_eventsOf { frames := 6, cells := 1, slots := 6, locals := 100 } (va_Pc [.ref (ad p0), .int p1] (PB g ad n K S0 sz)) (QT o9 (fun r => some (.int r)) (QB g ad n K S9 (dA ad n sz) True) (dA ad n sz)) (XT o9 (QB g ad n K S9 (dA ad n sz) True) (dA ad n sz)) 1 6 (dA ad n sz) := by
  refine vx_ofW (cc := cX10_eventsOf) (maxL := 4) (ret := (some .int)) (by decide) rfl ?_
  intro p e s m args below meth c s₁ B hml hno hv
  obtain ⟨rfl, hsz, hW, hK, hGs⟩ := x_start hv
  subst hsz
  have hx := B.exec
  have hb := B.bytes
  have hr := B.returns
  have hts := atoms_spec (ws := wsX10_eventsOf) B.pre
  have hown : s.vm.findClass RX10 = some m.cls := findClass_of_methodNamed B.named
  have hlk := B.notSynchronized
  have hC : Cx g p s m _ c cX10_eventsOf RX10 wsX10_eventsOf 4 := ⟨hx, hb, hml, hown, hts, hK⟩
  have hA : ∀ q : Nat, s.heap.size ≤ q → dA ad n s.heap.size q := fun q h => Or.inr h
  have hS : va_S (dA ad n s.heap.size) s.heap s.heap [] := va_S.rf
  have hl := lv_entry ([.ref (ad p0), .int p1]) (n := 4) (Nat.le_of_ble_eq_true rfl)
  rw [lg_entry_eq]
  generalize (lg_sl ([.ref (ad p0), .int p1]) ++ List.replicate (4 - (lg_sl ([.ref (ad p0), .int p1])).length) Slot.unset).toArray = ls at hl ⊢
  have hl : lv_has ls 4 [(0, .ref (ad p0)), (1, .int p1)] := hl
  have hin2 : ∀ w ∈ wsX20, w ∈ wsX10_eventsOf := by decide +kernel
  have hin8 : ∀ w ∈ wsX80, w ∈ wsX10_eventsOf := by decide +kernel
  have hin10 : ∀ w ∈ wsX100, w ∈ wsX10_eventsOf := by decide +kernel
  have w_0 := hts (.fieldLink RX10 42 "MailSpool" "now" "LMailSpool$Spool;") (by decide +kernel)
  have w_1 := va_Nw.use (A := (List.toArray [.ref (ad p0), .int p1])) rfl (hGs.1 (.fieldLinkNest RX10 388 "MailSpool$Spool" "journal" "LMailSpool$Journal;" "MailSpool") (by decide +kernel))
  have w_2 := va_Nw.use (A := (List.toArray [.ref (ad p0), .int p1])) rfl (hGs.1 (.fieldLinkNest RX10 392 "MailSpool$Journal" "size" "I" "MailSpool") (by decide +kernel))
  have w_3 := hts (.classLink RX10 70 "java/lang/IllegalArgumentException") (by decide +kernel)
  have w_4 := hts (.initialized "java/lang/IllegalArgumentException") (by decide +kernel)
  have hat2 : ∀ w ∈ (vx_atS RX10 74 (exn 2) exNm).filter goodWord, w.before _ s = true := fun w h => hts w ((by decide +kernel : ∀ w ∈ (vx_atS RX10 74 (exn 2) exNm).filter goodWord, w ∈ wsX10_eventsOf) w h)
  have hGE := hGs.2.2.2.2.2.2.1
  have hGM := hGs.2.2.2.2.2.2.2.1
  have L26 : ∀ (fu26 : Nat) (S0 : St) (v0 : Nat) (v1 : Int32) (v2 : Int32) (v3 : Int32) (tv0 : v0 < n ∧ K v0 = 9) (H : Heap) (locs : List Loc) (ls : Array Slot), f_X10_eventsOf_L26 F fu26 S0 v0 v1 v2 v3 = some (o9, S9) → Wb g ad n K S0 (dA ad n s.heap.size) H → va_S (dA ad n s.heap.size) s.heap H locs → lv_has ls 4 [(0, .ref (ad v0)), (1, .int v1), (2, .int v2), (3, .int v3)] → W p l e (headSpec wsX10_eventsOf { frames := 6, cells := 1, slots := 6, locals := 100 }).room s m (List.toArray [.ref (ad p0), .int p1]) below meth c H locs 0 0 (vx_MQ below (QT o9 (fun r => some (.int r)) (QB g ad n K S9 (dA ad n s.heap.size) True) (dA ad n s.heap.size)) (XT o9 (QB g ad n K S9 (dA ad n s.heap.size) True) (dA ad n s.heap.size)) (List.toArray [.ref (ad p0), .int p1]) s 1 6 (dA ad n s.heap.size)) (F0 m 26 ls []) := by
    intro fu26
    induction fu26 with
    | zero =>
      intro S0 v0 v1 v2 v3 tv0 H locs ls hf
      cases hf
    | succ fu26 ih26 =>
      have L59 : ∀ (S0 : St) (v0 : Nat) (v1 : Int32) (v2 : Int32) (v3 : Int32) (tv0 : v0 < n ∧ K v0 = 9) (H : Heap) (locs : List Loc) (ls : Array Slot), f_X10_eventsOf_L59 F (fun a0 a1 a2 a3 a4 => f_X10_eventsOf_L26 F fu26 a0 a1 a2 a3 a4) S0 v0 v1 v2 v3 = some (o9, S9) → Wb g ad n K S0 (dA ad n s.heap.size) H → va_S (dA ad n s.heap.size) s.heap H locs → lv_has ls 4 [(0, .ref (ad v0)), (1, .int v1), (2, .int v2), (3, .int v3)] → W p l e (headSpec wsX10_eventsOf { frames := 6, cells := 1, slots := 6, locals := 100 }).room s m (List.toArray [.ref (ad p0), .int p1]) below meth c H locs 0 0 (vx_MQ below (QT o9 (fun r => some (.int r)) (QB g ad n K S9 (dA ad n s.heap.size) True) (dA ad n s.heap.size)) (XT o9 (QB g ad n K S9 (dA ad n s.heap.size) True) (dA ad n s.heap.size)) (List.toArray [.ref (ad p0), .int p1]) s 1 6 (dA ad n s.heap.size)) (F0 m 59 ls []) := by
        intro S0 v0 v1 v2 v3 tv0 H locs ls hf hW hS hl
        unfold f_X10_eventsOf_L59 at hf
        obtain ⟨x2, ex2⟩ : ∃ z : Int32, z = v3 + 1 := ⟨_, rfl⟩
        replace hf := ltE hf x2 ex2
        refine lv_iinc (v := x2) (lv' := [(3, .int x2), (0, .ref (ad v0)), (1, .int v1), (2, .int v2)]) hx hb dX10_eventsOf_59 hl (k := 3) rfl (by rw [ex2]; rfl) (by decide) rfl (fun ls hl => ?_)
        refine lv_goto (tgt := 26) hx hb dX10_eventsOf_62 (by decide) ?_
        exact ih26 S0 v0 v1 v2 x2 tv0 _ _ _ hf hW hS (lv_sub hl [1, 2, 3, 0] rfl)
      intro S0 v0 v1 v2 v3 tv0 H locs ls hf hW hS hl
      unfold f_X10_eventsOf_L26 at hf
      refine lv_iload_n hx hb dX10_eventsOf_26 rfl (lv_at hl 3 rfl) ?_
      refine lv_aload_n hx hb dX10_eventsOf_27 rfl (lv_at hl 0 rfl) ?_
      replace hf := obE hf
      obtain ⟨j14, qj14, hf⟩ := hf
      have tj14 := x_rt hW qj14 7 ⟨by decide, rfl⟩
      refine x_getr 905 (ci := 9) (C := RX10) (T := TX10) (N := 11) 5 hC hin10 hW tv0 rfl rfl ⟨by decide, by decide, rfl, rfl⟩ rfl w_0 dX10_eventsOf_28 qj14 ?_
      replace hf := obE hf
      obtain ⟨j15, qj15, hf⟩ := hf
      have tj15 := x_rt hW qj15 2 ⟨by decide, rfl⟩
      refine x_getrN 711 (ci := 7) (C := RX8) (T := TX8) (N := 16) 11 hC hin8 hW tj14 rfl rfl ⟨by decide, by decide, rfl, rfl⟩ rfl w_1 dX10_eventsOf_31 qj15 ?_
      refine x_getiN 204 (ci := 2) (C := RX2) (T := TX2) (N := 5) 4 hC hin2 hW tj15 rfl rfl ⟨by decide, by decide, rfl, rfl⟩ rfl w_2 dX10_eventsOf_34 ?_
      refine lv_icmp_ge (tgt := 65) hx hb dX10_eventsOf_37 (by decide) (fun c16 => ?_) (fun c16 => ?_)
      · replace hf := ifT c16 hf
        refine lv_iload_n hx hb dX10_eventsOf_65 rfl (lv_at hl 2 rfl) ?_
        obtain ⟨e1, e2⟩ := so2 hf
        subst e1
        subst e2
        refine W.widen (k := 1) (n := 6) (Nat.le_of_ble_eq_true rfl) (Nat.le_of_ble_eq_true rfl) ?_
        exact vx_ret (W.iret (v := v2) hx hb hr (fun t ht hWm => ⟨⟨_, rfl, rfl, by unfold QB; rw [ht]; exact ⟨hW, trivial⟩⟩, hS.F ht⟩) hS.2.2 dX10_eventsOf_66 hlk)
      · replace hf := ifF c16 hf
        refine lv_aload_n hx hb dX10_eventsOf_40 rfl (lv_at hl 0 rfl) ?_
        replace hf := obE hf
        obtain ⟨j17, qj17, hf⟩ := hf
        have tj17 := x_rt hW qj17 7 ⟨by decide, rfl⟩
        refine x_getr 905 (ci := 9) (C := RX10) (T := TX10) (N := 11) 5 hC hin10 hW tv0 rfl rfl ⟨by decide, by decide, rfl, rfl⟩ rfl w_0 dX10_eventsOf_41 qj17 ?_
        replace hf := obE hf
        obtain ⟨j18, qj18, hf⟩ := hf
        have tj18 := x_rt hW qj18 2 ⟨by decide, rfl⟩
        refine x_getrN 711 (ci := 7) (C := RX8) (T := TX8) (N := 16) 11 hC hin8 hW tj17 rfl rfl ⟨by decide, by decide, rfl, rfl⟩ rfl w_1 dX10_eventsOf_44 qj18 ?_
        refine lv_iload_n hx hb dX10_eventsOf_47 rfl (lv_at hl 3 rfl) ?_
        refine lv_iconst (v := 1) hx hb dX10_eventsOf_48 (by decide) ?_
        replace hf := obE hf
        obtain ⟨z19, hz19, hf⟩ := hf
        obtain ⟨r21, S20⟩ := z19
        replace hf := ltE (ltE hf r21 rfl) S20 rfl
        refine x_callV (As := [.int v3, .int 1]) (rest := []) (o := (some (.int r21))) (S1 := S20) hC hl.1 hW hS hGs hA tj18 rfl (show vwCl[2]? = some (RX2, TX2, 5) ∧ 2 < 11 from ⟨rfl, by decide⟩) (c_X2_valueAt l g ad n K H.size F S0 j18 v3 ((1 : Int32)) tj18 r21 S20 hz19) (cwV 2 hts gX10_eventsOf_X2_valueAt rfl rfl rfl (by decide +kernel) ⟨Nat.le_of_ble_eq_true rfl, Nat.le_of_ble_eq_true rfl⟩) rfl rfl (Nat.le_of_ble_eq_true rfl) dX10_eventsOf_49 ⟨Nat.le_of_ble_eq_true rfl, Nat.le_of_ble_eq_true rfl⟩ (fun H locs hPz19 hW hS => ?_)
        refine W.eq (g2 := F0 m 52 ls [.int r21]) rfl ?_
        refine lv_iload_n hx hb dX10_eventsOf_52 rfl (lv_at hl 1 rfl) ?_
        refine lv_icmp_ne (tgt := 59) hx hb dX10_eventsOf_53 (by decide) (fun c23 => ?_) (fun c23 => ?_)
        · replace hf := ifT c23 hf
          exact L59 S20 v0 v1 v2 v3 tv0 _ _ _ hf hW hS (lv_sub hl [0, 1, 2, 3] rfl)
        · replace hf := ifF (fun q => q c23) hf
          obtain ⟨x24, ex24⟩ : ∃ z : Int32, z = v2 + 1 := ⟨_, rfl⟩
          replace hf := ltE hf x24 ex24
          refine lv_iinc (v := x24) (lv' := [(2, .int x24), (0, .ref (ad v0)), (1, .int v1), (3, .int v3)]) hx hb dX10_eventsOf_56 hl (k := 2) rfl (by rw [ex24]; rfl) (by decide) rfl (fun ls hl => ?_)
          exact L59 S20 v0 v1 x24 v3 tv0 _ _ _ hf hW hS (lv_sub hl [1, 2, 0, 3] rfl)
  have L11 : ∀ (S0 : St)   (H : Heap) (locs : List Loc) (ls : Array Slot), f_X10_eventsOf_L11 F S0  = some (o9, S9) → Wb g ad n K S0 (dA ad n s.heap.size) H → va_S (dA ad n s.heap.size) s.heap H locs → lv_has ls 4 [] → W p l e (headSpec wsX10_eventsOf { frames := 6, cells := 1, slots := 6, locals := 100 }).room s m (List.toArray [.ref (ad p0), .int p1]) below meth c H locs 0 0 (vx_MQ below (QT o9 (fun r => some (.int r)) (QB g ad n K S9 (dA ad n s.heap.size) True) (dA ad n s.heap.size)) (XT o9 (QB g ad n K S9 (dA ad n s.heap.size) True) (dA ad n s.heap.size)) (List.toArray [.ref (ad p0), .int p1]) s 1 6 (dA ad n s.heap.size)) (F0 m 11 ls []) := by
    intro S0  H locs ls hf hW hS hl
    unfold f_X10_eventsOf_L11 at hf
    obtain ⟨e1, e2⟩ := so2 hf
    subst e1
    subst e2
    exact x_throwSW (x := 2) (text := "no such kind") hC hfl hno hl.1 hGs hS hlk w_3 w_4 (by decide +kernel) hat2 ⟨by decide +kernel, by decide +kernel, by decide +kernel⟩ dX10_eventsOf_11 dX10_eventsOf_14 dX10_eventsOf_15 dX10_eventsOf_18 dX10_eventsOf_21 (Nat.le_of_ble_eq_true rfl) (Nat.le_of_ble_eq_true rfl) (Nat.le_of_ble_eq_true rfl) (Nat.le_of_ble_eq_true rfl) (Nat.le_of_ble_eq_true rfl) (Nat.le_of_ble_eq_true rfl) (fun t hv hq hF => ⟨⟨2, rfl, rfl, hW.kept hq, trivial⟩, hF⟩)
  unfold f_X10_eventsOf at hf
  refine lv_iload_n hx hb dX10_eventsOf_0 rfl (lv_at hl 1 rfl) ?_
  refine lv_iconst (v := 1) hx hb dX10_eventsOf_1 (by decide) ?_
  refine lv_icmp_lt (tgt := 11) hx hb dX10_eventsOf_2 (by decide) (fun c25 => ?_) (fun c25 => ?_)
  · replace hf := ifT c25 hf
    exact L11 S0 _ _ _ hf hW hS (lv_sub hl [] rfl)
  · replace hf := ifF c25 hf
    refine lv_iload_n hx hb dX10_eventsOf_5 rfl (lv_at hl 1 rfl) ?_
    refine lv_bipush (v := 10) hx hb dX10_eventsOf_6 (by decide) ?_
    refine lv_icmp_le (tgt := 22) hx hb dX10_eventsOf_8 (by decide) (fun c26 => ?_) (fun c26 => ?_)
    · replace hf := ifT c26 hf
      refine lv_iconst (v := 0) hx hb dX10_eventsOf_22 (by decide) ?_
      refine lv_istore_n (lv' := [(2, .int 0), (0, .ref (ad p0)), (1, .int p1)]) hx hb dX10_eventsOf_23 rfl hl (by decide) rfl (fun ls hl => ?_)
      refine lv_iconst (v := 0) hx hb dX10_eventsOf_24 (by decide) ?_
      refine lv_istore_n (lv' := [(3, .int 0), (2, .int 0), (0, .ref (ad p0)), (1, .int p1)]) hx hb dX10_eventsOf_25 rfl hl (by decide) rfl (fun ls hl => ?_)
      exact L26 F S0 p0 p1 0 0 tp0 _ _ _ hf hW hS (lv_sub hl [2, 3, 1, 0] rfl)
    · replace hf := ifF c26 hf
      exact L11 S0 _ _ _ hf hW hS (lv_sub hl [] rfl)
set_option maxHeartbeats 4000000 in
set_option maxRecDepth 100000 in
theorem c_X10_undo (l : Launch) (hfl : l.stackTraces = false) (g : GP) (ad : Nat → Nat) (n : Nat) (K : Nat → Nat) (sz F : Nat) (S0 : St) (p0 : Nat) (tp0 : p0 < n ∧ K p0 = 9) (o9 : Nat ⊕ Int32) (S9 : St) (hf : f_X10_undo F S0 p0 = some (o9, S9)) : vx_Met l yX10_undo wsX10_undo { frames := 6, cells := 1, slots := 6, locals := 105 } (va_Pc [.ref (ad p0)] (PB g ad n K S0 sz)) (QT o9 (fun r => some (.int r)) (QB g ad n K S9 (dA ad n sz) True) (dA ad n sz)) (XT o9 (QB g ad n K S9 (dA ad n sz) True) (dA ad n sz)) 1 6 (dA ad n sz) := by
  refine vx_ofW (cc := cX10_undo) (maxL := 2) (ret := (some .int)) (by decide) rfl ?_
  intro p e s m args below meth c s₁ B hml hno hv
  obtain ⟨rfl, hsz, hW, hK, hGs⟩ := x_start hv
  subst hsz
  have hx := B.exec
  have hb := B.bytes
  have hr := B.returns
  have hts := atoms_spec (ws := wsX10_undo) B.pre
  have hown : s.vm.findClass RX10 = some m.cls := findClass_of_methodNamed B.named
  have hlk := B.notSynchronized
  have hC : Cx g p s m _ c cX10_undo RX10 wsX10_undo 2 := ⟨hx, hb, hml, hown, hts, hK⟩
  have hA : ∀ q : Nat, s.heap.size ≤ q → dA ad n s.heap.size q := fun q h => Or.inr h
  have hS : va_S (dA ad n s.heap.size) s.heap s.heap [] := va_S.rf
  have hl := lv_entry ([.ref (ad p0)]) (n := 2) (Nat.le_of_ble_eq_true rfl)
  rw [lg_entry_eq]
  generalize (lg_sl ([.ref (ad p0)]) ++ List.replicate (2 - (lg_sl ([.ref (ad p0)])).length) Slot.unset).toArray = ls at hl ⊢
  have hl : lv_has ls 2 [(0, .ref (ad p0))] := hl
  have hin10 : ∀ w ∈ wsX100, w ∈ wsX10_undo := by decide +kernel
  have w_0 := hts (.fieldLink RX10 402 "MailSpool" "pastSize" "I") (by decide +kernel)
  have w_1 := hts (.fieldLink RX10 42 "MailSpool" "now" "LMailSpool$Spool;") (by decide +kernel)
  have w_2 := hts (.classLink RX10 60 "java/lang/IllegalStateException") (by decide +kernel)
  have w_3 := hts (.initialized "java/lang/IllegalStateException") (by decide +kernel)
  have hat1 : ∀ w ∈ (vx_atS RX10 64 (exn 1) exNm).filter goodWord, w.before _ s = true := fun w h => hts w ((by decide +kernel : ∀ w ∈ (vx_atS RX10 64 (exn 1) exNm).filter goodWord, w ∈ wsX10_undo) w h)
  have hGE := hGs.2.2.2.2.2.2.1
  have hGM := hGs.2.2.2.2.2.2.2.1
  unfold f_X10_undo at hf
  refine lv_aload_n hx hb dX10_undo_0 rfl (lv_at hl 0 rfl) ?_
  refine x_geti 909 (ci := 9) (C := RX10) (T := TX10) (N := 11) 9 hC hin10 hW tp0 rfl rfl ⟨by decide, by decide, rfl, rfl⟩ rfl w_0 dX10_undo_1 ?_
  refine lv_if_gt (tgt := 18) hx hb dX10_undo_4 (by decide) (fun c1 => ?_) (fun c1 => ?_)
  · replace hf := ifT c1 hf
    refine lv_aload_n hx hb dX10_undo_18 rfl (lv_at hl 0 rfl) ?_
    refine lv_dup hx hb dX10_undo_19 rfl ?_
    refine x_geti 909 (ci := 9) (C := RX10) (T := TX10) (N := 11) 9 hC hin10 hW tp0 rfl rfl ⟨by decide, by decide, rfl, rfl⟩ rfl w_0 dX10_undo_20 ?_
    refine lv_iconst (v := 1) hx hb dX10_undo_23 (by decide) ?_
    refine lv_isub hx hb dX10_undo_24 ?_
    refine x_puti 909 (ci := 9) (C := RX10) (T := TX10) (N := 11) (v := (si S0 909 p0) - 1) (ty := .int) 9 hC hin10 tyX10_ok nmX10 hW hS tp0 rfl rfl ⟨by decide, by decide, rfl, rfl⟩ rfl w_0 rfl (by decide +kernel) rfl rfl dX10_undo_25 (fun S2 H locs eS2 hW hS => ?_)
    replace hf := ltE hf S2 eS2
    refine lv_aload_n hx hb dX10_undo_28 rfl (lv_at hl 0 rfl) ?_
    refine lv_aload_n hx hb dX10_undo_29 rfl (lv_at hl 0 rfl) ?_
    refine x_geti 909 (ci := 9) (C := RX10) (T := TX10) (N := 11) 9 hC hin10 hW tp0 rfl rfl ⟨by decide, by decide, rfl, rfl⟩ rfl w_0 dX10_undo_30 ?_
    replace hf := obE hf
    obtain ⟨z3, hz3, hf⟩ := hf
    obtain ⟨r5, S4⟩ := z3
    replace hf := ltE (ltE hf r5 rfl) S4 rfl
    refine x_callV (As := [.int (si S2 909 p0)]) (rest := []) (o := (some (va_re ad r5))) (S1 := S4) hC hl.1 hW hS hGs hA tp0 rfl (show vwCl[9]? = some (RX10, TX10, 11) ∧ 9 < 11 from ⟨rfl, by decide⟩) (c_X10_pastAt l g ad n K H.size F S2 p0 (si S2 909 p0) tp0 r5 S4 hz3) (cwV 1 hts gX10_undo_X10_pastAt rfl rfl rfl (by decide +kernel) ⟨Nat.le_of_ble_eq_true rfl, Nat.le_of_ble_eq_true rfl⟩) rfl rfl (Nat.le_of_ble_eq_true rfl) dX10_undo_33 ⟨Nat.le_of_ble_eq_true rfl, Nat.le_of_ble_eq_true rfl⟩ (fun H locs hPz3 hW hS => ?_)
    cases r5 with
    | none =>
      replace hf := osN rfl hf
      refine W.eq (g2 := F0 m 36 ls [.null]) rfl ?_
      refine lv_astore_nN (lv' := [(1, .null), (0, .ref (ad p0))]) hx hb dX10_undo_36 rfl hl (by decide) rfl (fun ls hl => ?_)
      refine lv_aload_nN hx hb dX10_undo_37 rfl (lv_at hl 0 rfl) ?_
      refine lv_ifnullN (tgt := 49) hx hb dX10_undo_38 (by decide) ?_
      refine lv_aload_n hx hb dX10_undo_49 rfl (lv_at hl 1 rfl) ?_
      refine x_geti 909 (ci := 9) (C := RX10) (T := TX10) (N := 11) 9 hC hin10 hW tp0 rfl rfl ⟨by decide, by decide, rfl, rfl⟩ rfl w_0 dX10_undo_50 ?_
      obtain ⟨e1, e2⟩ := so2 hf
      subst e1
      subst e2
      refine W.widen (k := 1) (n := 6) (Nat.le_of_ble_eq_true rfl) (Nat.le_of_ble_eq_true rfl) ?_
      exact vx_ret (W.iret (v := si S4 909 p0) hx hb hr (fun t ht hWm => ⟨⟨_, rfl, rfl, by unfold QB; rw [ht]; exact ⟨hW, trivial⟩⟩, hS.F ht⟩) hS.2.2 dX10_undo_53 hlk)
    | some j7 =>
      replace hf := osS rfl hf
      have tj7 := hPz3 j7 rfl
      refine W.eq (g2 := F0 m 36 ls [.ref (ad j7)]) rfl ?_
      refine lv_astore_n (lv' := [(1, .ref (ad j7)), (0, .ref (ad p0))]) hx hb dX10_undo_36 rfl hl (by decide) rfl (fun ls hl => ?_)
      refine lv_aload_n hx hb dX10_undo_37 rfl (lv_at hl 0 rfl) ?_
      refine lv_ifnull hx hb dX10_undo_38 ?_
      refine lv_aload_n hx hb dX10_undo_41 rfl (lv_at hl 1 rfl) ?_
      replace hf := obE hf
      obtain ⟨j8, qj8, hf⟩ := hf
      have tj8 := x_rt hW qj8 7 ⟨by decide, rfl⟩
      refine x_getr 905 (ci := 9) (C := RX10) (T := TX10) (N := 11) 5 hC hin10 hW tp0 rfl rfl ⟨by decide, by decide, rfl, rfl⟩ rfl w_1 dX10_undo_42 qj8 ?_
      refine lv_aload_n hx hb dX10_undo_45 rfl (lv_at hl 0 rfl) ?_
      replace hf := obE hf
      obtain ⟨S10, hz9, hf⟩ := hf
      refine x_callV (As := [.ref (ad j7)]) (rest := []) (o := none) (S1 := S10) hC hl.1 hW hS hGs hA tj8 rfl (show vwCl[7]? = some (RX8, TX8, 16) ∧ 7 < 11 from ⟨rfl, by decide⟩) (c_X8_copyFrom l g ad n K H.size F S4 j8 j7 tj8 tj7 S10 hz9) (cwV 1 hts gX10_undo_X8_copyFrom rfl rfl rfl (by decide +kernel) ⟨Nat.le_of_ble_eq_true rfl, Nat.le_of_ble_eq_true rfl⟩) rfl rfl (Nat.le_of_ble_eq_true rfl) dX10_undo_46 ⟨Nat.le_of_ble_eq_true rfl, Nat.le_of_ble_eq_true rfl⟩ (fun H locs hPz9 hW hS => ?_)
      refine W.eq (g2 := F0 m 49 ls []) rfl ?_
      refine lv_aload_n hx hb dX10_undo_49 rfl (lv_at hl 1 rfl) ?_
      refine x_geti 909 (ci := 9) (C := RX10) (T := TX10) (N := 11) 9 hC hin10 hW tp0 rfl rfl ⟨by decide, by decide, rfl, rfl⟩ rfl w_0 dX10_undo_50 ?_
      obtain ⟨e1, e2⟩ := so2 hf
      subst e1
      subst e2
      refine W.widen (k := 1) (n := 6) (Nat.le_of_ble_eq_true rfl) (Nat.le_of_ble_eq_true rfl) ?_
      exact vx_ret (W.iret (v := si S10 909 p0) hx hb hr (fun t ht hWm => ⟨⟨_, rfl, rfl, by unfold QB; rw [ht]; exact ⟨hW, trivial⟩⟩, hS.F ht⟩) hS.2.2 dX10_undo_53 hlk)
  · replace hf := ifF c1 hf
    obtain ⟨e1, e2⟩ := so2 hf
    subst e1
    subst e2
    exact x_throwSW (x := 1) (text := "nothing to undo") hC hfl hno hl.1 hGs hS hlk w_2 w_3 (by decide +kernel) hat1 ⟨by decide +kernel, by decide +kernel, by decide +kernel⟩ dX10_undo_7 dX10_undo_10 dX10_undo_11 dX10_undo_14 dX10_undo_17 (Nat.le_of_ble_eq_true rfl) (Nat.le_of_ble_eq_true rfl) (Nat.le_of_ble_eq_true rfl) (Nat.le_of_ble_eq_true rfl) (Nat.le_of_ble_eq_true rfl) (Nat.le_of_ble_eq_true rfl) (fun t hv hq hF => ⟨⟨1, rfl, rfl, hW.kept hq, trivial⟩, hF⟩)
set_option maxHeartbeats 4000000 in
set_option maxRecDepth 100000 in
theorem c_X10_undoCount (l : Launch) (g : GP) (ad : Nat → Nat) (n : Nat) (K : Nat → Nat) (sz F : Nat) (S0 : St) (p0 : Nat) (tp0 : p0 < n ∧ K p0 = 9) (r9 : Int32) (S9 : St) (hf : f_X10_undoCount F S0 p0 = some (r9, S9)) : Met l yX10_undoCount wsX10_undoCount { frames := 0, cells := 0, slots := 0, locals := 0 } (va_Pc [.ref (ad p0)] (PB g ad n K S0 sz)) (QR (some (.int r9)) (QB g ad n K S9 (dA ad n sz) (True)) (dA ad n sz)) 0 0 (dA ad n sz) := by
  refine Met.ofW (cc := cX10_undoCount) (maxL := 1) (ret := (some .int)) (by decide) rfl ?_
  intro p e s m args below meth c s₁ B hml hv
  obtain ⟨rfl, hsz, hW, hK, hGs⟩ := x_start hv
  subst hsz
  have hx := B.exec
  have hb := B.bytes
  have hr := B.returns
  have hts := atoms_spec (ws := wsX10_undoCount) B.pre
  have hown : s.vm.findClass RX10 = some m.cls := findClass_of_methodNamed B.named
  have hlk := B.notSynchronized
  have hC : Cx g p s m _ c cX10_undoCount RX10 wsX10_undoCount 1 := ⟨hx, hb, hml, hown, hts, hK⟩
  have hA : ∀ q : Nat, s.heap.size ≤ q → dA ad n s.heap.size q := fun q h => Or.inr h
  have hS : va_S (dA ad n s.heap.size) s.heap s.heap [] := va_S.rf
  have hl := lv_entry ([.ref (ad p0)]) (n := 1) (Nat.le_of_ble_eq_true rfl)
  rw [lg_entry_eq]
  generalize (lg_sl ([.ref (ad p0)]) ++ List.replicate (1 - (lg_sl ([.ref (ad p0)])).length) Slot.unset).toArray = ls at hl ⊢
  have hl : lv_has ls 1 [(0, .ref (ad p0))] := hl
  have hin10 : ∀ w ∈ wsX100, w ∈ wsX10_undoCount := by decide +kernel
  have w_0 := hts (.fieldLink RX10 402 "MailSpool" "pastSize" "I") (by decide +kernel)
  have hGE := hGs.2.2.2.2.2.2.1
  have hGM := hGs.2.2.2.2.2.2.2.1
  unfold f_X10_undoCount at hf
  refine lv_aload_n hx hb dX10_undoCount_0 rfl (lv_at hl 0 rfl) ?_
  refine x_geti 909 (ci := 9) (C := RX10) (T := TX10) (N := 11) 9 hC hin10 hW tp0 rfl rfl ⟨by decide, by decide, rfl, rfl⟩ rfl w_0 dX10_undoCount_1 ?_
  obtain ⟨e1, e2⟩ := so2 hf
  subst e1
  subst e2
  exact W.iret (v := si S0 909 p0) hx hb hr (fun t ht hWm => ⟨⟨rfl, by unfold QB; rw [ht]; exact ⟨hW, trivial⟩⟩, hS.F ht⟩) hS.2.2 dX10_undoCount_4 hlk
set_option maxHeartbeats 4000000 in
set_option maxRecDepth 100000 in
theorem c_X0_addNumber (l : Launch) (g : GP) (ad : Nat → Nat) (n : Nat) (K : Nat → Nat) (sz F : Nat) (S0 : St) (p0 : Nat) (p1 : Int32) (tp0 : p0 < n ∧ K p0 = 0) (S9 : St) (hf : f_X0_addNumber F S0 p0 p1 = some S9) : Met l yX0_addNumber wsX0_addNumber { frames := 1, cells := 0, slots := 0, locals := 21 } (va_Pc [.ref (ad p0), .int p1] (PB g ad n K S0 sz)) (QR none (QB g ad n K S9 (dA ad n sz) (True)) (dA ad n sz)) 0 0 (dA ad n sz) := by
  refine Met.ofW (cc := cX0_addNumber) (maxL := 5) (ret := none) (by decide) rfl ?_
  intro p e s m args below meth c s₁ B hml hv
  obtain ⟨rfl, hsz, hW, hK, hGs⟩ := x_start hv
  subst hsz
  have hx := B.exec
  have hb := B.bytes
  have hr := B.returns
  have hts := atoms_spec (ws := wsX0_addNumber) B.pre
  have hown : s.vm.findClass RX0 = some m.cls := findClass_of_methodNamed B.named
  have hlk := B.notSynchronized
  have hC : Cx g p s m _ c cX0_addNumber RX0 wsX0_addNumber 5 := ⟨hx, hb, hml, hown, hts, hK⟩
  have hA : ∀ q : Nat, s.heap.size ≤ q → dA ad n s.heap.size q := fun q h => Or.inr h
  have hS : va_S (dA ad n s.heap.size) s.heap s.heap [] := va_S.rf
  have hl := lv_entry ([.ref (ad p0), .int p1]) (n := 5) (Nat.le_of_ble_eq_true rfl)
  rw [lg_entry_eq]
  generalize (lg_sl ([.ref (ad p0), .int p1]) ++ List.replicate (5 - (lg_sl ([.ref (ad p0), .int p1])).length) Slot.unset).toArray = ls at hl ⊢
  have hl : lv_has ls 5 [(0, .ref (ad p0)), (1, .int p1)] := hl
  have hGE := hGs.2.2.2.2.2.2.1
  have hGM := hGs.2.2.2.2.2.2.2.1
  have L6 : ∀ (fu6 : Nat) (S0 : St) (v0 : Nat) (v1 : Int32) (v2 : Int32) (v3 : Int32) (tv0 : v0 < n ∧ K v0 = 0) (H : Heap) (locs : List Loc) (ls : Array Slot), f_X0_addNumber_L6 F fu6 S0 v0 v1 v2 v3 = some S9 → Wb g ad n K S0 (dA ad n s.heap.size) H → va_S (dA ad n s.heap.size) s.heap H locs → lv_has ls 5 [(0, .ref (ad v0)), (1, .int v1), (2, .int v2), (3, .int v3)] → W p l e (headSpec wsX0_addNumber { frames := 1, cells := 0, slots := 0, locals := 21 }).room s m (List.toArray [.ref (ad p0), .int p1]) below meth c H locs 0 0 (MQ below (QR none (QB g ad n K S9 (dA ad n s.heap.size) (True)) (dA ad n s.heap.size)) (List.toArray [.ref (ad p0), .int p1]) s 0 0 (dA ad n s.heap.size)) (F0 m 6 ls []) := by
    intro fu6
    induction fu6 with
    | zero =>
      intro S0 v0 v1 v2 v3 tv0 H locs ls hf
      cases hf
    | succ fu6 ih6 =>
      have L52 : ∀ (S0 : St) (v0 : Nat) (v1 : Int32) (v2 : Int32) (v3 : Int32) (tv0 : v0 < n ∧ K v0 = 0) (H : Heap) (locs : List Loc) (ls : Array Slot), f_X0_addNumber_L52 F (fun a0 a1 a2 a3 a4 => f_X0_addNumber_L6 F fu6 a0 a1 a2 a3 a4) S0 v0 v1 v2 v3 = some S9 → Wb g ad n K S0 (dA ad n s.heap.size) H → va_S (dA ad n s.heap.size) s.heap H locs → lv_has ls 5 [(0, .ref (ad v0)), (1, .int v1), (2, .int v2), (3, .int v3)] → W p l e (headSpec wsX0_addNumber { frames := 1, cells := 0, slots := 0, locals := 21 }).room s m (List.toArray [.ref (ad p0), .int p1]) below meth c H locs 0 0 (MQ below (QR none (QB g ad n K S9 (dA ad n s.heap.size) (True)) (dA ad n s.heap.size)) (List.toArray [.ref (ad p0), .int p1]) s 0 0 (dA ad n s.heap.size)) (F0 m 52 ls []) := by
        intro S0 v0 v1 v2 v3 tv0 H locs ls hf hW hS hl
        unfold f_X0_addNumber_L52 at hf
        refine lv_iload_n hx hb dX0_addNumber_52 rfl (lv_at hl 3 rfl) ?_
        refine lv_bipush (v := 10) hx hb dX0_addNumber_53 (by decide) ?_
        refine lv_idiv hx hb dX0_addNumber_55 (by decide) ?_
        refine lv_topi (fun x2 ex2 => ?_)
        replace hf := ltE hf x2 ex2
        refine lv_istore_n (lv' := [(3, .int x2), (0, .ref (ad v0)), (1, .int v1), (2, .int v2)]) hx hb dX0_addNumber_56 rfl hl (by decide) rfl (fun ls hl => ?_)
        refine lv_goto (tgt := 6) hx hb dX0_addNumber_57 (by decide) ?_
        exact ih6 S0 v0 v1 v2 x2 tv0 _ _ _ hf hW hS (lv_sub hl [1, 2, 3, 0] rfl)
      have L38 : ∀ (S0 : St) (v0 : Nat) (v1 : Int32) (v3 : Int32) (v4 : Int32) (s0 : Int32) (tv0 : v0 < n ∧ K v0 = 0) (H : Heap) (locs : List Loc) (ls : Array Slot), f_X0_addNumber_L38 F (fun a0 a1 a2 a3 a4 => f_X0_addNumber_L6 F fu6 a0 a1 a2 a3 a4) S0 v0 v1 v3 v4 s0 = some S9 → Wb g ad n K S0 (dA ad n s.heap.size) H → va_S (dA ad n s.heap.size) s.heap H locs → lv_has ls 5 [(0, .ref (ad v0)), (1, .int v1), (3, .int v3), (4, .int v4)] → W p l e (headSpec wsX0_addNumber { frames := 1, cells := 0, slots := 0, locals := 21 }).room s m (List.toArray [.ref (ad p0), .int p1]) below meth c H locs 0 0 (MQ below (QR none (QB g ad n K S9 (dA ad n s.heap.size) (True)) (dA ad n s.heap.size)) (List.toArray [.ref (ad p0), .int p1]) s 0 0 (dA ad n s.heap.size)) (F0 m 38 ls [.int s0]) := by
        intro S0 v0 v1 v3 v4 s0 tv0 H locs ls hf hW hS hl
        unfold f_X0_addNumber_L38 at hf
        refine lv_istore_n (lv' := [(2, .int s0), (0, .ref (ad v0)), (1, .int v1), (3, .int v3), (4, .int v4)]) hx hb dX0_addNumber_38 rfl hl (by decide) rfl (fun ls hl => ?_)
        refine lv_iload_n hx hb dX0_addNumber_39 rfl (lv_at hl 0 rfl) ?_
        refine lv_if_eq (tgt := 52) hx hb dX0_addNumber_40 (by decide) (fun c8 => ?_) (fun c8 => ?_)
        · replace hf := ifT c8 hf
          exact L52 S0 v0 v1 s0 v3 tv0 _ _ _ hf hW hS (lv_sub hl [1, 2, 0, 3] rfl)
        · replace hf := ifF c8 hf
          refine lv_aload_n hx hb dX0_addNumber_43 rfl (lv_at hl 1 rfl) ?_
          refine lv_bipush (v := 48) hx hb dX0_addNumber_44 (by decide) ?_
          refine lv_iload hx hb dX0_addNumber_46 (lv_at hl 4 rfl) ?_
          refine lv_iadd hx hb dX0_addNumber_48 ?_
          replace hf := obE hf
          obtain ⟨S10, hz9, hf⟩ := hf
          refine x_callV (As := [.int (48 + v4)]) (rest := []) (o := none) (S1 := S10) hC hl.1 hW hS hGs hA tv0 rfl (show vwCl[0]? = some (RX0, TX0, 2) ∧ 0 < 11 from ⟨rfl, by decide⟩) (c_X0_add l g ad n K H.size F S0 v0 (48 + v4) tv0 S10 hz9) (cwV 1 hts gX0_addNumber_X0_add rfl rfl rfl (by decide +kernel) ⟨Nat.le_of_ble_eq_true rfl, Nat.le_of_ble_eq_true rfl⟩) rfl rfl (Nat.le_of_ble_eq_true rfl) dX0_addNumber_49 ⟨Nat.le_of_ble_eq_true rfl, Nat.le_of_ble_eq_true rfl⟩ (fun H locs hPz9 hW hS => ?_)
          refine W.eq (g2 := F0 m 52 ls []) rfl ?_
          exact L52 S10 v0 v1 s0 v3 tv0 _ _ _ hf hW hS (lv_sub hl [1, 2, 0, 3] rfl)
      have L33 : ∀ (S0 : St) (v0 : Nat) (v1 : Int32) (v3 : Int32) (v4 : Int32) (tv0 : v0 < n ∧ K v0 = 0) (H : Heap) (locs : List Loc) (ls : Array Slot), f_X0_addNumber_L33 F (fun a0 a1 a2 a3 a4 => f_X0_addNumber_L6 F fu6 a0 a1 a2 a3 a4) S0 v0 v1 v3 v4 = some S9 → Wb g ad n K S0 (dA ad n s.heap.size) H → va_S (dA ad n s.heap.size) s.heap H locs → lv_has ls 5 [(0, .ref (ad v0)), (1, .int v1), (3, .int v3), (4, .int v4)] → W p l e (headSpec wsX0_addNumber { frames := 1, cells := 0, slots := 0, locals := 21 }).room s m (List.toArray [.ref (ad p0), .int p1]) below meth c H locs 0 0 (MQ below (QR none (QB g ad n K S9 (dA ad n s.heap.size) (True)) (dA ad n s.heap.size)) (List.toArray [.ref (ad p0), .int p1]) s 0 0 (dA ad n s.heap.size)) (F0 m 33 ls []) := by
        intro S0 v0 v1 v3 v4 tv0 H locs ls hf hW hS hl
        unfold f_X0_addNumber_L33 at hf
        refine lv_iconst (v := 1) hx hb dX0_addNumber_33 (by decide) ?_
        refine lv_goto (tgt := 38) hx hb dX0_addNumber_34 (by decide) ?_
        exact L38 S0 v0 v1 v3 v4 1 tv0 _ _ _ hf hW hS (lv_sub hl [0, 1, 2, 3] rfl)
      intro S0 v0 v1 v2 v3 tv0 H locs ls hf hW hS hl
      unfold f_X0_addNumber_L6 at hf
      refine lv_iload_n hx hb dX0_addNumber_6 rfl (lv_at hl 3 rfl) ?_
      refine lv_iconst (v := 1) hx hb dX0_addNumber_7 (by decide) ?_
      refine lv_icmp_lt (tgt := 60) hx hb dX0_addNumber_8 (by decide) (fun c19 => ?_) (fun c19 => ?_)
      · replace hf := ifT c19 hf
        have e1 := Option.some.inj hf
        subst e1
        exact W.vret hx hb hr (fun t ht hWm => ⟨⟨rfl, by unfold QB; rw [ht]; exact ⟨hW, trivial⟩⟩, hS.F ht⟩) hS.2.2 dX0_addNumber_60 hlk
      · replace hf := ifF c19 hf
        refine lv_iload_n hx hb dX0_addNumber_11 rfl (lv_at hl 1 rfl) ?_
        refine lv_iload_n hx hb dX0_addNumber_12 rfl (lv_at hl 3 rfl) ?_
        replace hf := ckE hf
        obtain ⟨h20, hf⟩ := hf
        refine lv_idiv hx hb dX0_addNumber_13 h20 ?_
        refine lv_bipush (v := 10) hx hb dX0_addNumber_14 (by decide) ?_
        refine lv_irem hx hb dX0_addNumber_16 (by decide) ?_
        refine lv_topi (fun x21 ex21 => ?_)
        replace hf := ltE hf x21 ex21
        refine lv_istore (lv' := [(4, .int x21), (0, .ref (ad v0)), (1, .int v1), (2, .int v2), (3, .int v3)]) hx hb dX0_addNumber_17 hl (by decide) rfl (fun ls hl => ?_)
        refine lv_iload_n hx hb dX0_addNumber_19 rfl (lv_at hl 3 rfl) ?_
        refine lv_if_ne (tgt := 33) hx hb dX0_addNumber_20 (by decide) (fun c22 => ?_) (fun c22 => ?_)
        · replace hf := ifT c22 hf
          exact L33 S0 v0 v1 v3 x21 tv0 _ _ _ hf hW hS (lv_sub hl [1, 2, 4, 0] rfl)
        · replace hf := ifF (fun q => q c22) hf
          refine lv_iload hx hb dX0_addNumber_23 (lv_at hl 0 rfl) ?_
          refine lv_if_ne (tgt := 33) hx hb dX0_addNumber_25 (by decide) (fun c23 => ?_) (fun c23 => ?_)
          · replace hf := ifT c23 hf
            exact L33 S0 v0 v1 v3 x21 tv0 _ _ _ hf hW hS (lv_sub hl [1, 2, 4, 0] rfl)
          · replace hf := ifF (fun q => q c23) hf
            refine lv_iload_n hx hb dX0_addNumber_28 rfl (lv_at hl 4 rfl) ?_
            refine lv_iconst (v := 1) hx hb dX0_addNumber_29 (by decide) ?_
            refine lv_icmp_ne (tgt := 37) hx hb dX0_addNumber_30 (by decide) (fun c24 => ?_) (fun c24 => ?_)
            · replace hf := ifT c24 hf
              refine lv_iconst (v := 0) hx hb dX0_addNumber_37 (by decide) ?_
              exact L38 S0 v0 v1 v3 x21 0 tv0 _ _ _ hf hW hS (lv_sub hl [1, 2, 4, 0] rfl)
            · replace hf := ifF (fun q => q c24) hf
              exact L33 S0 v0 v1 v3 x21 tv0 _ _ _ hf hW hS (lv_sub hl [1, 2, 4, 0] rfl)
  unfold f_X0_addNumber at hf
  refine lv_iconst (v := 0) hx hb dX0_addNumber_0 (by decide) ?_
  refine lv_istore_n (lv' := [(2, .int 0), (0, .ref (ad p0)), (1, .int p1)]) hx hb dX0_addNumber_1 rfl hl (by decide) rfl (fun ls hl => ?_)
  refine lv_sipush (v := 10000) hx hb dX0_addNumber_2 (by decide) ?_
  refine lv_istore_n (lv' := [(3, .int 10000), (2, .int 0), (0, .ref (ad p0)), (1, .int p1)]) hx hb dX0_addNumber_5 rfl hl (by decide) rfl (fun ls hl => ?_)
  exact L6 F S0 p0 p1 0 10000 tp0 _ _ _ hf hW hS (lv_sub hl [2, 3, 1, 0] rfl)
set_option maxHeartbeats 4000000 in
set_option maxRecDepth 100000 in
theorem c_X5_nameAt (l : Launch) (g : GP) (ad : Nat → Nat) (n : Nat) (K : Nat → Nat) (sz F : Nat) (S0 : St) (p0 : Nat) (p1 : Int32) (tp0 : p0 < n ∧ K p0 = 4) (r9 : Int64) (S9 : St) (hf : f_X5_nameAt F S0 p0 p1 = some (r9, S9)) : Met l yX5_nameAt wsX5_nameAt { frames := 1, cells := 0, slots := 0, locals := 21 } (va_Pc [.ref (ad p0), .int p1] (PB g ad n K S0 sz)) (QR (some (.long r9)) (QB g ad n K S9 (dA ad n sz) (True)) (dA ad n sz)) 0 0 (dA ad n sz) := by
  refine Met.ofW (cc := cX5_nameAt) (maxL := 2) (ret := (some .long)) (by decide) rfl ?_
  intro p e s m args below meth c s₁ B hml hv
  obtain ⟨rfl, hsz, hW, hK, hGs⟩ := x_start hv
  subst hsz
  have hx := B.exec
  have hb := B.bytes
  have hr := B.returns
  have hts := atoms_spec (ws := wsX5_nameAt) B.pre
  have hown : s.vm.findClass RX5 = some m.cls := findClass_of_methodNamed B.named
  have hlk := B.notSynchronized
  have hC : Cx g p s m _ c cX5_nameAt RX5 wsX5_nameAt 2 := ⟨hx, hb, hml, hown, hts, hK⟩
  have hA : ∀ q : Nat, s.heap.size ≤ q → dA ad n s.heap.size q := fun q h => Or.inr h
  have hS : va_S (dA ad n s.heap.size) s.heap s.heap [] := va_S.rf
  have hl := lv_entry ([.ref (ad p0), .int p1]) (n := 2) (Nat.le_of_ble_eq_true rfl)
  rw [lg_entry_eq]
  generalize (lg_sl ([.ref (ad p0), .int p1]) ++ List.replicate (2 - (lg_sl ([.ref (ad p0), .int p1])).length) Slot.unset).toArray = ls at hl ⊢
  have hl : lv_has ls 2 [(0, .ref (ad p0)), (1, .int p1)] := hl
  have hin5 : ∀ w ∈ wsX50, w ∈ wsX5_nameAt := by decide +kernel
  have w_0 := hts (.fieldLink RX5 15 "MailSpool$Names" "words" "[J") (by decide +kernel)
  have hGE := hGs.2.2.2.2.2.2.1
  have hGM := hGs.2.2.2.2.2.2.2.1
  unfold f_X5_nameAt at hf
  refine lv_aload_n hx hb dX5_nameAt_0 rfl (lv_at hl 0 rfl) ?_
  refine lv_iload_n hx hb dX5_nameAt_1 rfl (lv_at hl 1 rfl) ?_
  replace hf := obE hf
  obtain ⟨z1, hz1, hf⟩ := hf
  obtain ⟨r3, S2⟩ := z1
  replace hf := ltE (ltE hf r3 rfl) S2 rfl
  refine x_callV (As := [.int p1]) (rest := []) (o := (some (.int r3))) (S1 := S2) hC hl.1 hW hS hGs hA tp0 rfl (show vwCl[4]? = some (RX5, TX5, 2) ∧ 4 < 11 from ⟨rfl, by decide⟩) (c_X5_has l g ad n K s.heap.size F S0 p0 p1 tp0 r3 S2 hz1) (cwV 1 hts gX5_nameAt_X5_has rfl rfl rfl (by decide +kernel) ⟨Nat.le_of_ble_eq_true rfl, Nat.le_of_ble_eq_true rfl⟩) rfl rfl (Nat.le_of_ble_eq_true rfl) dX5_nameAt_2 ⟨Nat.le_of_ble_eq_true rfl, Nat.le_of_ble_eq_true rfl⟩ (fun H locs hPz1 hW hS => ?_)
  refine W.eq (g2 := F0 m 5 ls [.int r3]) rfl ?_
  refine lv_if_eq (tgt := 26) hx hb dX5_nameAt_5 (by decide) (fun c5 => ?_) (fun c5 => ?_)
  · replace hf := ifT c5 hf
    refine lv_lconst (v := 0) hx hb dX5_nameAt_26 (by decide) ?_
    obtain ⟨e1, e2⟩ := so2 hf
    subst e1
    subst e2
    exact W.lret (v := 0) hx hb hr (fun t ht hWm => ⟨⟨rfl, by unfold QB; rw [ht]; exact ⟨hW, trivial⟩⟩, hS.F ht⟩) hS.2.2 dX5_nameAt_27 hlk
  · replace hf := ifF c5 hf
    refine lv_iload_n hx hb dX5_nameAt_8 rfl (lv_at hl 1 rfl) ?_
    refine lv_aload_n hx hb dX5_nameAt_9 rfl (lv_at hl 0 rfl) ?_
    replace hf := obE hf
    obtain ⟨j6, qj6, hf⟩ := hf
    have tj6 := x_rt hW qj6 13 ⟨by decide, rfl⟩
    refine x_getr 400 (ci := 4) (C := RX5) (T := TX5) (N := 2) 0 hC hin5 hW tp0 rfl rfl ⟨by decide, by decide, rfl, rfl⟩ rfl w_0 dX5_nameAt_10 qj6 ?_
    refine x_alen hC hW tj6 rfl ⟨by decide, by decide⟩ dX5_nameAt_13 ?_
    refine lv_icmp_ge (tgt := 26) hx hb dX5_nameAt_14 (by decide) (fun c7 => ?_) (fun c7 => ?_)
    · replace hf := ifT c7 hf
      refine lv_lconst (v := 0) hx hb dX5_nameAt_26 (by decide) ?_
      obtain ⟨e1, e2⟩ := so2 hf
      subst e1
      subst e2
      exact W.lret (v := 0) hx hb hr (fun t ht hWm => ⟨⟨rfl, by unfold QB; rw [ht]; exact ⟨hW, trivial⟩⟩, hS.F ht⟩) hS.2.2 dX5_nameAt_27 hlk
    · replace hf := ifF c7 hf
      refine lv_aload_n hx hb dX5_nameAt_17 rfl (lv_at hl 0 rfl) ?_
      replace hf := obE hf
      obtain ⟨j8, qj8, hf⟩ := hf
      have tj8 := x_rt hW qj8 13 ⟨by decide, rfl⟩
      refine x_getr 400 (ci := 4) (C := RX5) (T := TX5) (N := 2) 0 hC hin5 hW tp0 rfl rfl ⟨by decide, by decide, rfl, rfl⟩ rfl w_0 dX5_nameAt_18 qj8 ?_
      refine lv_iload_n hx hb dX5_nameAt_21 rfl (lv_at hl 1 rfl) ?_
      replace hf := ckiE hf
      obtain ⟨h9, hf⟩ := hf
      refine x_lald hC hW tj8 rfl rfl h9 dX5_nameAt_22 ?_
      refine lv_goto (tgt := 27) hx hb dX5_nameAt_23 (by decide) ?_
      obtain ⟨e1, e2⟩ := so2 hf
      subst e1
      subst e2
      exact W.lret (v := al S2 j8 (Int32.toNatClampNeg p1)) hx hb hr (fun t ht hWm => ⟨⟨rfl, by unfold QB; rw [ht]; exact ⟨hW, trivial⟩⟩, hS.F ht⟩) hS.2.2 dX5_nameAt_27 hlk
set_option maxHeartbeats 4000000 in
set_option maxRecDepth 100000 in
theorem c_X0_addWord (l : Launch) (g : GP) (ad : Nat → Nat) (n : Nat) (K : Nat → Nat) (sz F : Nat) (S0 : St) (p0 : Nat) (p1 : Int64) (tp0 : p0 < n ∧ K p0 = 0) (S9 : St) (hf : f_X0_addWord F S0 p0 p1 = some S9) : Met l yX0_addWord wsX0_addWord { frames := 1, cells := 0, slots := 0, locals := 21 } (va_Pc [.ref (ad p0), .long (p1)] (PB g ad n K S0 sz)) (QR none (QB g ad n K S9 (dA ad n sz) (True)) (dA ad n sz)) 0 0 (dA ad n sz) := by
  refine Met.ofW (cc := cX0_addWord) (maxL := 6) (ret := none) (by decide) rfl ?_
  intro p e s m args below meth c s₁ B hml hv
  obtain ⟨rfl, hsz, hW, hK, hGs⟩ := x_start hv
  subst hsz
  have hx := B.exec
  have hb := B.bytes
  have hr := B.returns
  have hts := atoms_spec (ws := wsX0_addWord) B.pre
  have hown : s.vm.findClass RX0 = some m.cls := findClass_of_methodNamed B.named
  have hlk := B.notSynchronized
  have hC : Cx g p s m _ c cX0_addWord RX0 wsX0_addWord 6 := ⟨hx, hb, hml, hown, hts, hK⟩
  have hA : ∀ q : Nat, s.heap.size ≤ q → dA ad n s.heap.size q := fun q h => Or.inr h
  have hS : va_S (dA ad n s.heap.size) s.heap s.heap [] := va_S.rf
  have hl := lv_entry ([.ref (ad p0), .long (p1)]) (n := 6) (Nat.le_of_ble_eq_true rfl)
  rw [lg_entry_eq]
  generalize (lg_sl ([.ref (ad p0), .long (p1)]) ++ List.replicate (6 - (lg_sl ([.ref (ad p0), .long (p1)])).length) Slot.unset).toArray = ls at hl ⊢
  have hl : lv_has ls 6 [(0, .ref (ad p0)), (1, .long (p1))] := hl
  have w_0 := hts (.constantLong RX0 31 (27)) (by decide +kernel)
  have w_1 := hts (.constantLong RX0 29 (14348907)) (by decide +kernel)
  have hGE := hGs.2.2.2.2.2.2.1
  have hGM := hGs.2.2.2.2.2.2.2.1
  have L4 : ∀ (fu4 : Nat) (S0 : St) (v0 : Nat) (v1 : Int64) (v3 : Int64) (tv0 : v0 < n ∧ K v0 = 0) (H : Heap) (locs : List Loc) (ls : Array Slot), f_X0_addWord_L4 F fu4 S0 v0 v1 v3 = some S9 → Wb g ad n K S0 (dA ad n s.heap.size) H → va_S (dA ad n s.heap.size) s.heap H locs → lv_has ls 6 [(0, .ref (ad v0)), (1, .long (v1)), (3, .long (v3))] → W p l e (headSpec wsX0_addWord { frames := 1, cells := 0, slots := 0, locals := 21 }).room s m (List.toArray [.ref (ad p0), .long (p1)]) below meth c H locs 0 0 (MQ below (QR none (QB g ad n K S9 (dA ad n s.heap.size) (True)) (dA ad n s.heap.size)) (List.toArray [.ref (ad p0), .long (p1)]) s 0 0 (dA ad n s.heap.size)) (F0 m 4 ls []) := by
    intro fu4
    induction fu4 with
    | zero =>
      intro S0 v0 v1 v3 tv0 H locs ls hf
      cases hf
    | succ fu4 ih4 =>
      have L36 : ∀ (S0 : St) (v0 : Nat) (v1 : Int64) (v3 : Int64) (tv0 : v0 < n ∧ K v0 = 0) (H : Heap) (locs : List Loc) (ls : Array Slot), f_X0_addWord_L36 F (fun a0 a1 a2 a3 => f_X0_addWord_L4 F fu4 a0 a1 a2 a3) S0 v0 v1 v3 = some S9 → Wb g ad n K S0 (dA ad n s.heap.size) H → va_S (dA ad n s.heap.size) s.heap H locs → lv_has ls 6 [(0, .ref (ad v0)), (1, .long (v1)), (3, .long (v3))] → W p l e (headSpec wsX0_addWord { frames := 1, cells := 0, slots := 0, locals := 21 }).room s m (List.toArray [.ref (ad p0), .long (p1)]) below meth c H locs 0 0 (MQ below (QR none (QB g ad n K S9 (dA ad n s.heap.size) (True)) (dA ad n s.heap.size)) (List.toArray [.ref (ad p0), .long (p1)]) s 0 0 (dA ad n s.heap.size)) (F0 m 36 ls []) := by
        intro S0 v0 v1 v3 tv0 H locs ls hf hW hS hl
        unfold f_X0_addWord_L36 at hf
        refine lv_lload_n hx hb dX0_addWord_36 rfl (lv_at hl 2 rfl) ?_
        refine lv_ldc2 (v := (27)) hx hb hown w_0 dX0_addWord_37 ?_
        refine lv_ldiv hx hb dX0_addWord_40 (by decide) ?_
        refine lv_topl (fun x2 ex2 => ?_)
        replace hf := ltE hf x2 ex2
        refine lv_lstore_n (lv' := [(3, .long (x2)), (0, .ref (ad v0)), (1, .long (v1))]) hx hb dX0_addWord_41 rfl hl (by decide) rfl (fun ls hl => ?_)
        refine lv_goto (tgt := 4) hx hb dX0_addWord_42 (by decide) ?_
        exact ih4 S0 v0 v1 x2 tv0 _ _ _ hf hW hS (lv_sub hl [1, 2, 0] rfl)
      intro S0 v0 v1 v3 tv0 H locs ls hf hW hS hl
      unfold f_X0_addWord_L4 at hf
      refine lv_lload_n hx hb dX0_addWord_4 rfl (lv_at hl 2 rfl) ?_
      refine lv_lconst (v := 1) hx hb dX0_addWord_5 (by decide) ?_
      refine W.lcmp hx hb dX0_addWord_6 ?_
      refine lv_if_lt (tgt := 45) hx hb dX0_addWord_7 (by decide) (fun c11 => ?_) (fun c11 => ?_)
      · replace hf := ifT c11 hf
        have e1 := Option.some.inj hf
        subst e1
        exact W.vret hx hb hr (fun t ht hWm => ⟨⟨rfl, by unfold QB; rw [ht]; exact ⟨hW, trivial⟩⟩, hS.F ht⟩) hS.2.2 dX0_addWord_45 hlk
      · replace hf := ifF c11 hf
        refine lv_lload_n hx hb dX0_addWord_10 rfl (lv_at hl 1 rfl) ?_
        refine lv_lload_n hx hb dX0_addWord_11 rfl (lv_at hl 2 rfl) ?_
        replace hf := ckE hf
        obtain ⟨h12, hf⟩ := hf
        refine lv_ldiv hx hb dX0_addWord_12 h12 ?_
        refine lv_ldc2 (v := (27)) hx hb hown w_0 dX0_addWord_13 ?_
        refine lv_lrem hx hb dX0_addWord_16 (by decide) ?_
        refine lv_l2i (v := ((v1 / v3) - (v1 / v3) / ((27)) * ((27))).toInt32) hx hb dX0_addWord_17 rfl ?_
        refine lv_topi (fun x13 ex13 => ?_)
        replace hf := ltE hf x13 ex13
        refine lv_istore (lv' := [(5, .int x13), (0, .ref (ad v0)), (1, .long (v1)), (3, .long (v3))]) hx hb dX0_addWord_18 hl (by decide) rfl (fun ls hl => ?_)
        refine lv_iload hx hb dX0_addWord_20 (lv_at hl 0 rfl) ?_
        refine lv_if_le (tgt := 36) hx hb dX0_addWord_22 (by decide) (fun c14 => ?_) (fun c14 => ?_)
        · replace hf := ifT c14 hf
          exact L36 S0 v0 v1 v3 tv0 _ _ _ hf hW hS (lv_sub hl [1, 2, 3] rfl)
        · replace hf := ifF c14 hf
          refine lv_aload_n hx hb dX0_addWord_25 rfl (lv_at hl 1 rfl) ?_
          refine lv_bipush (v := 97) hx hb dX0_addWord_26 (by decide) ?_
          refine lv_iload hx hb dX0_addWord_28 (lv_at hl 0 rfl) ?_
          refine lv_iadd hx hb dX0_addWord_30 ?_
          refine lv_iconst (v := 1) hx hb dX0_addWord_31 (by decide) ?_
          refine lv_isub hx hb dX0_addWord_32 ?_
          replace hf := obE hf
          obtain ⟨S16, hz15, hf⟩ := hf
          refine x_callV (As := [.int ((97 + x13) - 1)]) (rest := []) (o := none) (S1 := S16) hC hl.1 hW hS hGs hA tv0 rfl (show vwCl[0]? = some (RX0, TX0, 2) ∧ 0 < 11 from ⟨rfl, by decide⟩) (c_X0_add l g ad n K H.size F S0 v0 ((97 + x13) - 1) tv0 S16 hz15) (cwV 1 hts gX0_addWord_X0_add rfl rfl rfl (by decide +kernel) ⟨Nat.le_of_ble_eq_true rfl, Nat.le_of_ble_eq_true rfl⟩) rfl rfl (Nat.le_of_ble_eq_true rfl) dX0_addWord_33 ⟨Nat.le_of_ble_eq_true rfl, Nat.le_of_ble_eq_true rfl⟩ (fun H locs hPz15 hW hS => ?_)
          refine W.eq (g2 := F0 m 36 ls []) rfl ?_
          exact L36 S16 v0 v1 v3 tv0 _ _ _ hf hW hS (lv_sub hl [1, 2, 3] rfl)
  unfold f_X0_addWord at hf
  refine lv_ldc2 (v := (14348907)) hx hb hown w_1 dX0_addWord_0 ?_
  refine lv_topl (fun x19 ex19 => ?_)
  replace hf := ltE hf x19 ex19
  refine lv_lstore_n (lv' := [(3, .long (x19)), (0, .ref (ad p0)), (1, .long (p1))]) hx hb dX0_addWord_3 rfl hl (by decide) rfl (fun ls hl => ?_)
  exact L4 F S0 p0 p1 x19 tp0 _ _ _ hf hW hS (lv_sub hl [1, 2, 0] rfl)
set_option maxHeartbeats 4000000 in
set_option maxRecDepth 100000 in
theorem c_X10_writeReference (l : Launch) (g : GP) (ad : Nat → Nat) (n : Nat) (K : Nat → Nat) (sz F : Nat) (S0 : St) (p0 : Nat) (p1 : Int32) (p2 : Int32) (tp0 : p0 < n ∧ K p0 = 9) (S9 : St) (hf : f_X10_writeReference F S0 p0 p1 p2 = some S9) : Met l yX10_writeReference wsX10_writeReference { frames := 2, cells := 0, slots := 0, locals := 46 } (va_Pc [.ref (ad p0), .int p1, .int p2] (PB g ad n K S0 sz)) (QR none (QB g ad n K S9 (dA ad n sz) (True)) (dA ad n sz)) 0 0 (dA ad n sz) := by
  refine Met.ofW (cc := cX10_writeReference) (maxL := 3) (ret := none) (by decide) rfl ?_
  intro p e s m args below meth c s₁ B hml hv
  obtain ⟨rfl, hsz, hW, hK, hGs⟩ := x_start hv
  subst hsz
  have hx := B.exec
  have hb := B.bytes
  have hr := B.returns
  have hts := atoms_spec (ws := wsX10_writeReference) B.pre
  have hown : s.vm.findClass RX10 = some m.cls := findClass_of_methodNamed B.named
  have hlk := B.notSynchronized
  have hC : Cx g p s m _ c cX10_writeReference RX10 wsX10_writeReference 3 := ⟨hx, hb, hml, hown, hts, hK⟩
  have hA : ∀ q : Nat, s.heap.size ≤ q → dA ad n s.heap.size q := fun q h => Or.inr h
  have hS : va_S (dA ad n s.heap.size) s.heap s.heap [] := va_S.rf
  have hl := lv_entry ([.ref (ad p0), .int p1, .int p2]) (n := 3) (Nat.le_of_ble_eq_true rfl)
  rw [lg_entry_eq]
  generalize (lg_sl ([.ref (ad p0), .int p1, .int p2]) ++ List.replicate (3 - (lg_sl ([.ref (ad p0), .int p1, .int p2])).length) Slot.unset).toArray = ls at hl ⊢
  have hl : lv_has ls 3 [(0, .ref (ad p0)), (1, .int p1), (2, .int p2)] := hl
  have hin7 : ∀ w ∈ wsX70, w ∈ wsX10_writeReference := by decide +kernel
  have hin8 : ∀ w ∈ wsX80, w ∈ wsX10_writeReference := by decide +kernel
  have hin10 : ∀ w ∈ wsX100, w ∈ wsX10_writeReference := by decide +kernel
  have w_0 := hts (.fieldLink RX10 21 "MailSpool" "output" "LMailSpool$Bytes;") (by decide +kernel)
  have w_1 := hts (.fieldLink RX10 42 "MailSpool" "now" "LMailSpool$Spool;") (by decide +kernel)
  have w_2 := va_Nw.use (A := (List.toArray [.ref (ad p0), .int p1, .int p2])) rfl (hGs.1 (.fieldLinkNest RX10 104 "MailSpool$Spool" "rules" "LMailSpool$Rules;" "MailSpool") (by decide +kernel))
  have w_3 := va_Nw.use (A := (List.toArray [.ref (ad p0), .int p1, .int p2])) rfl (hGs.1 (.fieldLinkNest RX10 426 "MailSpool$Rules" "classes" "LMailSpool$Names;" "MailSpool") (by decide +kernel))
  have w_4 := va_Nw.use (A := (List.toArray [.ref (ad p0), .int p1, .int p2])) rfl (hGs.1 (.fieldLinkNest RX10 241 "MailSpool$Spool" "entered" "[I" "MailSpool") (by decide +kernel))
  have hGE := hGs.2.2.2.2.2.2.1
  have hGM := hGs.2.2.2.2.2.2.2.1
  unfold f_X10_writeReference at hf
  refine lv_aload_n hx hb dX10_writeReference_0 rfl (lv_at hl 0 rfl) ?_
  replace hf := obE hf
  obtain ⟨j1, qj1, hf⟩ := hf
  have tj1 := x_rt hW qj1 0 ⟨by decide, rfl⟩
  refine x_getr 901 (ci := 9) (C := RX10) (T := TX10) (N := 11) 1 hC hin10 hW tp0 rfl rfl ⟨by decide, by decide, rfl, rfl⟩ rfl w_0 dX10_writeReference_1 qj1 ?_
  refine lv_iload_n hx hb dX10_writeReference_4 rfl (lv_at hl 1 rfl) ?_
  replace hf := obE hf
  obtain ⟨S3, hz2, hf⟩ := hf
  refine x_callV (As := [.int p1]) (rest := []) (o := none) (S1 := S3) hC hl.1 hW hS hGs hA tj1 rfl (show vwCl[0]? = some (RX0, TX0, 2) ∧ 0 < 11 from ⟨rfl, by decide⟩) (c_X0_addNumber l g ad n K s.heap.size F S0 j1 p1 tj1 S3 hz2) (cwV 1 hts gX10_writeReference_X0_addNumber rfl rfl rfl (by decide +kernel) ⟨Nat.le_of_ble_eq_true rfl, Nat.le_of_ble_eq_true rfl⟩) rfl rfl (Nat.le_of_ble_eq_true rfl) dX10_writeReference_5 ⟨Nat.le_of_ble_eq_true rfl, Nat.le_of_ble_eq_true rfl⟩ (fun H locs hPz2 hW hS => ?_)
  refine W.eq (g2 := F0 m 8 ls []) rfl ?_
  refine lv_aload_n hx hb dX10_writeReference_8 rfl (lv_at hl 0 rfl) ?_
  replace hf := obE hf
  obtain ⟨j6, qj6, hf⟩ := hf
  have tj6 := x_rt hW qj6 0 ⟨by decide, rfl⟩
  refine x_getr 901 (ci := 9) (C := RX10) (T := TX10) (N := 11) 1 hC hin10 hW tp0 rfl rfl ⟨by decide, by decide, rfl, rfl⟩ rfl w_0 dX10_writeReference_9 qj6 ?_
  refine lv_bipush (v := 58) hx hb dX10_writeReference_12 (by decide) ?_
  replace hf := obE hf
  obtain ⟨S8, hz7, hf⟩ := hf
  refine x_callV (As := [.int 58]) (rest := []) (o := none) (S1 := S8) hC hl.1 hW hS hGs hA tj6 rfl (show vwCl[0]? = some (RX0, TX0, 2) ∧ 0 < 11 from ⟨rfl, by decide⟩) (c_X0_add l g ad n K H.size F S3 j6 ((58 : Int32)) tj6 S8 hz7) (cwV 1 hts gX10_writeReference_X0_add rfl rfl rfl (by decide +kernel) ⟨Nat.le_of_ble_eq_true rfl, Nat.le_of_ble_eq_true rfl⟩) rfl rfl (Nat.le_of_ble_eq_true rfl) dX10_writeReference_14 ⟨Nat.le_of_ble_eq_true rfl, Nat.le_of_ble_eq_true rfl⟩ (fun H locs hPz7 hW hS => ?_)
  refine W.eq (g2 := F0 m 17 ls []) rfl ?_
  refine lv_aload_n hx hb dX10_writeReference_17 rfl (lv_at hl 0 rfl) ?_
  replace hf := obE hf
  obtain ⟨j11, qj11, hf⟩ := hf
  have tj11 := x_rt hW qj11 0 ⟨by decide, rfl⟩
  refine x_getr 901 (ci := 9) (C := RX10) (T := TX10) (N := 11) 1 hC hin10 hW tp0 rfl rfl ⟨by decide, by decide, rfl, rfl⟩ rfl w_0 dX10_writeReference_18 qj11 ?_
  refine lv_aload_n hx hb dX10_writeReference_21 rfl (lv_at hl 0 rfl) ?_
  replace hf := obE hf
  obtain ⟨j12, qj12, hf⟩ := hf
  have tj12 := x_rt hW qj12 7 ⟨by decide, rfl⟩
  refine x_getr 905 (ci := 9) (C := RX10) (T := TX10) (N := 11) 5 hC hin10 hW tp0 rfl rfl ⟨by decide, by decide, rfl, rfl⟩ rfl w_1 dX10_writeReference_22 qj12 ?_
  replace hf := obE hf
  obtain ⟨j13, qj13, hf⟩ := hf
  have tj13 := x_rt hW qj13 6 ⟨by decide, rfl⟩
  refine x_getrN 700 (ci := 7) (C := RX8) (T := TX8) (N := 16) 0 hC hin8 hW tj12 rfl rfl ⟨by decide, by decide, rfl, rfl⟩ rfl w_2 dX10_writeReference_25 qj13 ?_
  replace hf := obE hf
  obtain ⟨j14, qj14, hf⟩ := hf
  have tj14 := x_rt hW qj14 4 ⟨by decide, rfl⟩
  refine x_getrN 602 (ci := 6) (C := RX7) (T := TX7) (N := 16) 2 hC hin7 hW tj13 rfl rfl ⟨by decide, by decide, rfl, rfl⟩ rfl w_3 dX10_writeReference_28 qj14 ?_
  refine lv_aload_n hx hb dX10_writeReference_31 rfl (lv_at hl 0 rfl) ?_
  replace hf := obE hf
  obtain ⟨j15, qj15, hf⟩ := hf
  have tj15 := x_rt hW qj15 7 ⟨by decide, rfl⟩
  refine x_getr 905 (ci := 9) (C := RX10) (T := TX10) (N := 11) 5 hC hin10 hW tp0 rfl rfl ⟨by decide, by decide, rfl, rfl⟩ rfl w_1 dX10_writeReference_32 qj15 ?_
  refine lv_iload_n hx hb dX10_writeReference_35 rfl (lv_at hl 1 rfl) ?_
  refine lv_iload_n hx hb dX10_writeReference_36 rfl (lv_at hl 2 rfl) ?_
  replace hf := obE hf
  obtain ⟨z16, hz16, hf⟩ := hf
  obtain ⟨r18, S17⟩ := z16
  replace hf := ltE (ltE hf r18 rfl) S17 rfl
  refine x_callV (As := [.int p1, .int p2]) (rest := [.ref (ad j14), .ref (ad j11)]) (o := (some (.int r18))) (S1 := S17) hC hl.1 hW hS hGs hA tj15 rfl (show vwCl[7]? = some (RX8, TX8, 16) ∧ 7 < 11 from ⟨rfl, by decide⟩) (c_X8_retentionOf l g ad n K H.size F S8 j15 p1 p2 tj15 r18 S17 hz16) (cwV 2 hts gX10_writeReference_X8_retentionOf rfl rfl rfl (by decide +kernel) ⟨Nat.le_of_ble_eq_true rfl, Nat.le_of_ble_eq_true rfl⟩) rfl rfl (Nat.le_of_ble_eq_true rfl) dX10_writeReference_37 ⟨Nat.le_of_ble_eq_true rfl, Nat.le_of_ble_eq_true rfl⟩ (fun H locs hPz16 hW hS => ?_)
  refine W.eq (g2 := F0 m 40 ls [.int r18, .ref (ad j14), .ref (ad j11)]) rfl ?_
  replace hf := obE hf
  obtain ⟨z20, hz20, hf⟩ := hf
  obtain ⟨r22, S21⟩ := z20
  replace hf := ltE (ltE hf r22 rfl) S21 rfl
  refine x_callV (As := [.int r18]) (rest := [.ref (ad j11)]) (o := (some (.long (r22)))) (S1 := S21) hC hl.1 hW hS hGs hA tj14 rfl (show vwCl[4]? = some (RX5, TX5, 2) ∧ 4 < 11 from ⟨rfl, by decide⟩) (c_X5_nameAt l g ad n K H.size F S17 j14 r18 tj14 r22 S21 hz20) (cwV 1 hts gX10_writeReference_X5_nameAt rfl rfl rfl (by decide +kernel) ⟨Nat.le_of_ble_eq_true rfl, Nat.le_of_ble_eq_true rfl⟩) rfl rfl (Nat.le_of_ble_eq_true rfl) dX10_writeReference_40 ⟨Nat.le_of_ble_eq_true rfl, Nat.le_of_ble_eq_true rfl⟩ (fun H locs hPz20 hW hS => ?_)
  refine W.eq (g2 := F0 m 43 ls [.long (r22), .ref (ad j11)]) rfl ?_
  replace hf := obE hf
  obtain ⟨S25, hz24, hf⟩ := hf
  refine x_callV (As := [.long (r22)]) (rest := []) (o := none) (S1 := S25) hC hl.1 hW hS hGs hA tj11 rfl (show vwCl[0]? = some (RX0, TX0, 2) ∧ 0 < 11 from ⟨rfl, by decide⟩) (c_X0_addWord l g ad n K H.size F S21 j11 r22 tj11 S25 hz24) (cwV 1 hts gX10_writeReference_X0_addWord rfl rfl rfl (by decide +kernel) ⟨Nat.le_of_ble_eq_true rfl, Nat.le_of_ble_eq_true rfl⟩) rfl rfl (Nat.le_of_ble_eq_true rfl) dX10_writeReference_43 ⟨Nat.le_of_ble_eq_true rfl, Nat.le_of_ble_eq_true rfl⟩ (fun H locs hPz24 hW hS => ?_)
  refine W.eq (g2 := F0 m 46 ls []) rfl ?_
  refine lv_aload_n hx hb dX10_writeReference_46 rfl (lv_at hl 0 rfl) ?_
  replace hf := obE hf
  obtain ⟨j28, qj28, hf⟩ := hf
  have tj28 := x_rt hW qj28 0 ⟨by decide, rfl⟩
  refine x_getr 901 (ci := 9) (C := RX10) (T := TX10) (N := 11) 1 hC hin10 hW tp0 rfl rfl ⟨by decide, by decide, rfl, rfl⟩ rfl w_0 dX10_writeReference_47 qj28 ?_
  refine lv_bipush (v := 47) hx hb dX10_writeReference_50 (by decide) ?_
  replace hf := obE hf
  obtain ⟨S30, hz29, hf⟩ := hf
  refine x_callV (As := [.int 47]) (rest := []) (o := none) (S1 := S30) hC hl.1 hW hS hGs hA tj28 rfl (show vwCl[0]? = some (RX0, TX0, 2) ∧ 0 < 11 from ⟨rfl, by decide⟩) (c_X0_add l g ad n K H.size F S25 j28 ((47 : Int32)) tj28 S30 hz29) (cwV 1 hts gX10_writeReference_X0_add rfl rfl rfl (by decide +kernel) ⟨Nat.le_of_ble_eq_true rfl, Nat.le_of_ble_eq_true rfl⟩) rfl rfl (Nat.le_of_ble_eq_true rfl) dX10_writeReference_52 ⟨Nat.le_of_ble_eq_true rfl, Nat.le_of_ble_eq_true rfl⟩ (fun H locs hPz29 hW hS => ?_)
  refine W.eq (g2 := F0 m 55 ls []) rfl ?_
  refine lv_aload_n hx hb dX10_writeReference_55 rfl (lv_at hl 0 rfl) ?_
  replace hf := obE hf
  obtain ⟨j33, qj33, hf⟩ := hf
  have tj33 := x_rt hW qj33 0 ⟨by decide, rfl⟩
  refine x_getr 901 (ci := 9) (C := RX10) (T := TX10) (N := 11) 1 hC hin10 hW tp0 rfl rfl ⟨by decide, by decide, rfl, rfl⟩ rfl w_0 dX10_writeReference_56 qj33 ?_
  refine lv_aload_n hx hb dX10_writeReference_59 rfl (lv_at hl 0 rfl) ?_
  replace hf := obE hf
  obtain ⟨j34, qj34, hf⟩ := hf
  have tj34 := x_rt hW qj34 7 ⟨by decide, rfl⟩
  refine x_getr 905 (ci := 9) (C := RX10) (T := TX10) (N := 11) 5 hC hin10 hW tp0 rfl rfl ⟨by decide, by decide, rfl, rfl⟩ rfl w_1 dX10_writeReference_60 qj34 ?_
  replace hf := obE hf
  obtain ⟨j35, qj35, hf⟩ := hf
  have tj35 := x_rt hW qj35 12 ⟨by decide, rfl⟩
  refine x_getrN 709 (ci := 7) (C := RX8) (T := TX8) (N := 16) 9 hC hin8 hW tj34 rfl rfl ⟨by decide, by decide, rfl, rfl⟩ rfl w_4 dX10_writeReference_63 qj35 ?_
  refine lv_iload_n hx hb dX10_writeReference_66 rfl (lv_at hl 1 rfl) ?_
  refine lv_bipush (v := 10) hx hb dX10_writeReference_67 (by decide) ?_
  refine lv_imul hx hb dX10_writeReference_69 ?_
  refine lv_iload_n hx hb dX10_writeReference_70 rfl (lv_at hl 2 rfl) ?_
  refine lv_iadd hx hb dX10_writeReference_71 ?_
  replace hf := obE hf
  obtain ⟨z36, hz36, hf⟩ := hf
  obtain ⟨r38, S37⟩ := z36
  replace hf := ltE (ltE hf r38 rfl) S37 rfl
  refine x_callS (As := [.ref (ad j35), .int ((p1 * 10) + p2)]) (rest := [.ref (ad j33)]) (o := (some (.int r38))) (S1 := S37) hC hl.1 hW hS hGs hA (c_X10_at l g ad n K H.size F S30 j35 ((p1 * 10) + p2) tj35 r38 S37 hz36) (va_cwS 2 hts gX10_writeReference_X10_at rfl rfl rfl (by decide +kernel) ⟨Nat.le_of_ble_eq_true rfl, Nat.le_of_ble_eq_true rfl⟩) rfl rfl (Nat.le_of_ble_eq_true rfl) dX10_writeReference_72 ⟨Nat.le_of_ble_eq_true rfl, Nat.le_of_ble_eq_true rfl⟩ (fun H locs hPz36 hW hS => ?_)
  refine W.eq (g2 := F0 m 75 ls [.int r38, .ref (ad j33)]) rfl ?_
  replace hf := obE hf
  obtain ⟨S41, hz40, hf⟩ := hf
  refine x_callV (As := [.int r38]) (rest := []) (o := none) (S1 := S41) hC hl.1 hW hS hGs hA tj33 rfl (show vwCl[0]? = some (RX0, TX0, 2) ∧ 0 < 11 from ⟨rfl, by decide⟩) (c_X0_addNumber l g ad n K H.size F S37 j33 r38 tj33 S41 hz40) (cwV 1 hts gX10_writeReference_X0_addNumber rfl rfl rfl (by decide +kernel) ⟨Nat.le_of_ble_eq_true rfl, Nat.le_of_ble_eq_true rfl⟩) rfl rfl (Nat.le_of_ble_eq_true rfl) dX10_writeReference_75 ⟨Nat.le_of_ble_eq_true rfl, Nat.le_of_ble_eq_true rfl⟩ (fun H locs hPz40 hW hS => ?_)
  refine W.eq (g2 := F0 m 78 ls []) rfl ?_
  refine lv_aload_n hx hb dX10_writeReference_78 rfl (lv_at hl 0 rfl) ?_
  replace hf := obE hf
  obtain ⟨j44, qj44, hf⟩ := hf
  have tj44 := x_rt hW qj44 0 ⟨by decide, rfl⟩
  refine x_getr 901 (ci := 9) (C := RX10) (T := TX10) (N := 11) 1 hC hin10 hW tp0 rfl rfl ⟨by decide, by decide, rfl, rfl⟩ rfl w_0 dX10_writeReference_79 qj44 ?_
  refine lv_bipush (v := 10) hx hb dX10_writeReference_82 (by decide) ?_
  replace hf := obE hf
  obtain ⟨S46, hz45, hf⟩ := hf
  refine x_callV (As := [.int 10]) (rest := []) (o := none) (S1 := S46) hC hl.1 hW hS hGs hA tj44 rfl (show vwCl[0]? = some (RX0, TX0, 2) ∧ 0 < 11 from ⟨rfl, by decide⟩) (c_X0_add l g ad n K H.size F S41 j44 ((10 : Int32)) tj44 S46 hz45) (cwV 1 hts gX10_writeReference_X0_add rfl rfl rfl (by decide +kernel) ⟨Nat.le_of_ble_eq_true rfl, Nat.le_of_ble_eq_true rfl⟩) rfl rfl (Nat.le_of_ble_eq_true rfl) dX10_writeReference_84 ⟨Nat.le_of_ble_eq_true rfl, Nat.le_of_ble_eq_true rfl⟩ (fun H locs hPz45 hW hS => ?_)
  refine W.eq (g2 := F0 m 87 ls []) rfl ?_
  have e1 := Option.some.inj hf
  subst e1
  exact W.vret hx hb hr (fun t ht hWm => ⟨⟨rfl, by unfold QB; rw [ht]; exact ⟨hW, trivial⟩⟩, hS.F ht⟩) hS.2.2 dX10_writeReference_87 hlk
set_option maxHeartbeats 4000000 in
set_option maxRecDepth 100000 in
theorem c_X10_writeMailbox (l : Launch) (hfl : l.stackTraces = false) (g : GP) (ad : Nat → Nat) (n : Nat) (K : Nat → Nat) (sz F : Nat) (S0 : St) (p0 : Nat) (p1 : Int32) (tp0 : p0 < n ∧ K p0 = 9) (o9 : Nat ⊕ Int32) (S9 : St) (hf : f_X10_writeMailbox F S0 p0 p1 = some (o9, S9)) : vx_Met l yX10_writeMailbox wsX10_writeMailbox { frames := 7, cells := 1, slots := 6, locals := 121 } (va_Pc [.ref (ad p0), .int p1] (PB g ad n K S0 sz)) (QT o9 (fun r => some (.int r)) (QB g ad n K S9 (dA ad n sz) True) (dA ad n sz)) (XT o9 (QB g ad n K S9 (dA ad n sz) True) (dA ad n sz)) 1 6 (dA ad n sz) := by
  refine vx_ofW (cc := cX10_writeMailbox) (maxL := 3) (ret := (some .int)) (by decide) rfl ?_
  intro p e s m args below meth c s₁ B hml hno hv
  obtain ⟨rfl, hsz, hW, hK, hGs⟩ := x_start hv
  subst hsz
  have hx := B.exec
  have hb := B.bytes
  have hr := B.returns
  have hts := atoms_spec (ws := wsX10_writeMailbox) B.pre
  have hown : s.vm.findClass RX10 = some m.cls := findClass_of_methodNamed B.named
  have hlk := B.notSynchronized
  have hC : Cx g p s m _ c cX10_writeMailbox RX10 wsX10_writeMailbox 3 := ⟨hx, hb, hml, hown, hts, hK⟩
  have hA : ∀ q : Nat, s.heap.size ≤ q → dA ad n s.heap.size q := fun q h => Or.inr h
  have hS : va_S (dA ad n s.heap.size) s.heap s.heap [] := va_S.rf
  have hl := lv_entry ([.ref (ad p0), .int p1]) (n := 3) (Nat.le_of_ble_eq_true rfl)
  rw [lg_entry_eq]
  generalize (lg_sl ([.ref (ad p0), .int p1]) ++ List.replicate (3 - (lg_sl ([.ref (ad p0), .int p1])).length) Slot.unset).toArray = ls at hl ⊢
  have hl : lv_has ls 3 [(0, .ref (ad p0)), (1, .int p1)] := hl
  have hin0 : ∀ w ∈ wsX00, w ∈ wsX10_writeMailbox := by decide +kernel
  have hin8 : ∀ w ∈ wsX80, w ∈ wsX10_writeMailbox := by decide +kernel
  have hin10 : ∀ w ∈ wsX100, w ∈ wsX10_writeMailbox := by decide +kernel
  have w_0 := hts (.fieldLink RX10 42 "MailSpool" "now" "LMailSpool$Spool;") (by decide +kernel)
  have w_1 := va_Nw.use (A := (List.toArray [.ref (ad p0), .int p1])) rfl (hGs.1 (.fieldLinkNest RX10 183 "MailSpool$Spool" "messageCount" "I" "MailSpool") (by decide +kernel))
  have w_2 := hts (.fieldLink RX10 21 "MailSpool" "output" "LMailSpool$Bytes;") (by decide +kernel)
  have w_3 := va_Nw.use (A := (List.toArray [.ref (ad p0), .int p1])) rfl (hGs.1 (.fieldLinkNest RX10 57 "MailSpool$Bytes" "size" "I" "MailSpool") (by decide +kernel))
  have hGE := hGs.2.2.2.2.2.2.1
  have hGM := hGs.2.2.2.2.2.2.2.1
  have L15 : ∀ (fu15 : Nat) (S0 : St) (v0 : Nat) (v1 : Int32) (v2 : Int32) (tv0 : v0 < n ∧ K v0 = 9) (H : Heap) (locs : List Loc) (ls : Array Slot), f_X10_writeMailbox_L15 F fu15 S0 v0 v1 v2 = some (o9, S9) → Wb g ad n K S0 (dA ad n s.heap.size) H → va_S (dA ad n s.heap.size) s.heap H locs → lv_has ls 3 [(0, .ref (ad v0)), (1, .int v1), (2, .int v2)] → W p l e (headSpec wsX10_writeMailbox { frames := 7, cells := 1, slots := 6, locals := 121 }).room s m (List.toArray [.ref (ad p0), .int p1]) below meth c H locs 1 6 (vx_MQ below (QT o9 (fun r => some (.int r)) (QB g ad n K S9 (dA ad n s.heap.size) True) (dA ad n s.heap.size)) (XT o9 (QB g ad n K S9 (dA ad n s.heap.size) True) (dA ad n s.heap.size)) (List.toArray [.ref (ad p0), .int p1]) s 1 6 (dA ad n s.heap.size)) (F0 m 15 ls []) := by
    intro fu15
    induction fu15 with
    | zero =>
      intro S0 v0 v1 v2 tv0 H locs ls hf
      cases hf
    | succ fu15 ih15 =>
      have L44 : ∀ (S0 : St) (v0 : Nat) (v1 : Int32) (v2 : Int32) (tv0 : v0 < n ∧ K v0 = 9) (H : Heap) (locs : List Loc) (ls : Array Slot), f_X10_writeMailbox_L44 F (fun a0 a1 a2 a3 => f_X10_writeMailbox_L15 F fu15 a0 a1 a2 a3) S0 v0 v1 v2 = some (o9, S9) → Wb g ad n K S0 (dA ad n s.heap.size) H → va_S (dA ad n s.heap.size) s.heap H locs → lv_has ls 3 [(0, .ref (ad v0)), (1, .int v1), (2, .int v2)] → W p l e (headSpec wsX10_writeMailbox { frames := 7, cells := 1, slots := 6, locals := 121 }).room s m (List.toArray [.ref (ad p0), .int p1]) below meth c H locs 1 6 (vx_MQ below (QT o9 (fun r => some (.int r)) (QB g ad n K S9 (dA ad n s.heap.size) True) (dA ad n s.heap.size)) (XT o9 (QB g ad n K S9 (dA ad n s.heap.size) True) (dA ad n s.heap.size)) (List.toArray [.ref (ad p0), .int p1]) s 1 6 (dA ad n s.heap.size)) (F0 m 44 ls []) := by
        intro S0 v0 v1 v2 tv0 H locs ls hf hW hS hl
        unfold f_X10_writeMailbox_L44 at hf
        obtain ⟨x2, ex2⟩ : ∃ z : Int32, z = v2 + 1 := ⟨_, rfl⟩
        replace hf := ltE hf x2 ex2
        refine lv_iinc (v := x2) (lv' := [(2, .int x2), (0, .ref (ad v0)), (1, .int v1)]) hx hb dX10_writeMailbox_44 hl (k := 2) rfl (by rw [ex2]; rfl) (by decide) rfl (fun ls hl => ?_)
        refine lv_goto (tgt := 15) hx hb dX10_writeMailbox_47 (by decide) ?_
        exact ih15 S0 v0 v1 x2 tv0 _ _ _ hf hW hS (lv_sub hl [1, 2, 0] rfl)
      intro S0 v0 v1 v2 tv0 H locs ls hf hW hS hl
      unfold f_X10_writeMailbox_L15 at hf
      refine lv_iload_n hx hb dX10_writeMailbox_15 rfl (lv_at hl 2 rfl) ?_
      refine lv_aload_n hx hb dX10_writeMailbox_16 rfl (lv_at hl 0 rfl) ?_
      replace hf := obE hf
      obtain ⟨j16, qj16, hf⟩ := hf
      have tj16 := x_rt hW qj16 7 ⟨by decide, rfl⟩
      refine x_getr 905 (ci := 9) (C := RX10) (T := TX10) (N := 11) 5 hC hin10 hW tv0 rfl rfl ⟨by decide, by decide, rfl, rfl⟩ rfl w_0 dX10_writeMailbox_17 qj16 ?_
      refine x_getiN 705 (ci := 7) (C := RX8) (T := TX8) (N := 16) 5 hC hin8 hW tj16 rfl rfl ⟨by decide, by decide, rfl, rfl⟩ rfl w_1 dX10_writeMailbox_20 ?_
      refine lv_icmp_ge (tgt := 50) hx hb dX10_writeMailbox_23 (by decide) (fun c17 => ?_) (fun c17 => ?_)
      · replace hf := ifT c17 hf
        refine lv_aload_n hx hb dX10_writeMailbox_50 rfl (lv_at hl 0 rfl) ?_
        replace hf := obE hf
        obtain ⟨j18, qj18, hf⟩ := hf
        have tj18 := x_rt hW qj18 0 ⟨by decide, rfl⟩
        refine x_getr 901 (ci := 9) (C := RX10) (T := TX10) (N := 11) 1 hC hin10 hW tv0 rfl rfl ⟨by decide, by decide, rfl, rfl⟩ rfl w_2 dX10_writeMailbox_51 qj18 ?_
        refine x_getiN 1 (ci := 0) (C := RX0) (T := TX0) (N := 2) 1 hC hin0 hW tj18 rfl rfl ⟨by decide, by decide, rfl, rfl⟩ rfl w_3 dX10_writeMailbox_54 ?_
        obtain ⟨e1, e2⟩ := so2 hf
        subst e1
        subst e2
        exact vx_ret (W.iret (v := si S0 1 j18) hx hb hr (fun t ht hWm => ⟨⟨_, rfl, rfl, by unfold QB; rw [ht]; exact ⟨hW, trivial⟩⟩, hS.F ht⟩) hS.2.2 dX10_writeMailbox_57 hlk)
      · replace hf := ifF c17 hf
        refine lv_aload_n hx hb dX10_writeMailbox_26 rfl (lv_at hl 0 rfl) ?_
        replace hf := obE hf
        obtain ⟨j19, qj19, hf⟩ := hf
        have tj19 := x_rt hW qj19 7 ⟨by decide, rfl⟩
        refine x_getr 905 (ci := 9) (C := RX10) (T := TX10) (N := 11) 5 hC hin10 hW tv0 rfl rfl ⟨by decide, by decide, rfl, rfl⟩ rfl w_0 dX10_writeMailbox_27 qj19 ?_
        refine lv_iload_n hx hb dX10_writeMailbox_30 rfl (lv_at hl 2 rfl) ?_
        refine lv_iload_n hx hb dX10_writeMailbox_31 rfl (lv_at hl 1 rfl) ?_
        replace hf := obE hf
        obtain ⟨z20, hz20, hf⟩ := hf
        obtain ⟨r22, S21⟩ := z20
        replace hf := ltE (ltE hf r22 rfl) S21 rfl
        refine x_callV (As := [.int v2, .int v1]) (rest := []) (o := (some (.int r22))) (S1 := S21) hC hl.1 hW hS hGs hA tj19 rfl (show vwCl[7]? = some (RX8, TX8, 16) ∧ 7 < 11 from ⟨rfl, by decide⟩) (c_X8_stateOf l g ad n K H.size F S0 j19 v2 v1 tj19 r22 S21 hz20) (cwV 2 hts gX10_writeMailbox_X8_stateOf rfl rfl rfl (by decide +kernel) ⟨Nat.le_of_ble_eq_true rfl, Nat.le_of_ble_eq_true rfl⟩) rfl rfl (Nat.le_of_ble_eq_true rfl) dX10_writeMailbox_32 ⟨Nat.le_of_ble_eq_true rfl, Nat.le_of_ble_eq_true rfl⟩ (fun H locs hPz20 hW hS => ?_)
        refine W.eq (g2 := F0 m 35 ls [.int r22]) rfl ?_
        refine lv_if_ne (tgt := 44) hx hb dX10_writeMailbox_35 (by decide) (fun c24 => ?_) (fun c24 => ?_)
        · replace hf := ifT c24 hf
          exact L44 S21 v0 v1 v2 tv0 _ _ _ hf hW hS (lv_sub hl [0, 1, 2] rfl)
        · replace hf := ifF (fun q => q c24) hf
          refine lv_aload_n hx hb dX10_writeMailbox_38 rfl (lv_at hl 0 rfl) ?_
          refine lv_iload_n hx hb dX10_writeMailbox_39 rfl (lv_at hl 2 rfl) ?_
          refine lv_iload_n hx hb dX10_writeMailbox_40 rfl (lv_at hl 1 rfl) ?_
          replace hf := obE hf
          obtain ⟨S26, hz25, hf⟩ := hf
          refine x_callV (As := [.int v2, .int v1]) (rest := []) (o := none) (S1 := S26) hC hl.1 hW hS hGs hA tv0 rfl (show vwCl[9]? = some (RX10, TX10, 11) ∧ 9 < 11 from ⟨rfl, by decide⟩) (c_X10_writeReference l g ad n K H.size F S21 v0 v2 v1 tv0 S26 hz25) (cwV 2 hts gX10_writeMailbox_X10_writeReference rfl rfl rfl (by decide +kernel) ⟨Nat.le_of_ble_eq_true rfl, Nat.le_of_ble_eq_true rfl⟩) rfl rfl (Nat.le_of_ble_eq_true rfl) dX10_writeMailbox_41 ⟨Nat.le_of_ble_eq_true rfl, Nat.le_of_ble_eq_true rfl⟩ (fun H locs hPz25 hW hS => ?_)
          refine W.eq (g2 := F0 m 44 ls []) rfl ?_
          exact L44 S26 v0 v1 v2 tv0 _ _ _ hf hW hS (lv_sub hl [0, 1, 2] rfl)
  unfold f_X10_writeMailbox at hf
  refine lv_aload_n hx hb dX10_writeMailbox_0 rfl (lv_at hl 0 rfl) ?_
  refine lv_iload_n hx hb dX10_writeMailbox_1 rfl (lv_at hl 1 rfl) ?_
  replace hf := obE hf
  obtain ⟨z29, hz29, hf⟩ := hf
  obtain ⟨oz29, S30⟩ := z29
  replace hf := ltE hf S30 rfl
  refine x_tcallV (As := [.int p1]) (rest := []) (S1 := S30) (o := oz29) (vr := (fun _ => none)) (P := True) hC hl.1 hW hS hGs hA tp0 rfl (show vwCl[9]? = some (RX10, TX10, 11) ∧ 9 < 11 from ⟨rfl, by decide⟩) (c_X10_needUser l hfl g ad n K s.heap.size F S0 p0 p1 tp0 oz29 S30 hz29) (cwV 1 hts gX10_writeMailbox_X10_needUser rfl rfl rfl (by decide +kernel) ⟨Nat.le_of_ble_eq_true rfl, Nat.le_of_ble_eq_true rfl⟩) rfl rfl (Nat.le_of_ble_eq_true rfl) dX10_writeMailbox_2 ⟨Nat.le_of_ble_eq_true rfl, Nat.le_of_ble_eq_true rfl⟩ (fun x33 H locs ce q9 ho hW hS hc1 hc2 hc3 => ?_) (fun r31 H locs ho hP hW hS => ?_)
  · replace hf := smL ho hf
    obtain ⟨e1, e2⟩ := so2 hf
    subst e1
    subst e2
    exact x_tout hno hlk rfl hW hS hc1 hc2 hc3 (Nat.le_of_ble_eq_true rfl) (Nat.le_of_ble_eq_true rfl)
  · replace hf := smR ho hf
    refine W.widen (k := 1) (n := 6) (Nat.le_of_ble_eq_true rfl) (Nat.le_of_ble_eq_true rfl) ?_
    refine W.eq (g2 := F0 m 5 ls []) rfl ?_
    refine lv_aload_n hx hb dX10_writeMailbox_5 rfl (lv_at hl 0 rfl) ?_
    replace hf := obE hf
    obtain ⟨j37, qj37, hf⟩ := hf
    have tj37 := x_rt hW qj37 0 ⟨by decide, rfl⟩
    refine x_getr 901 (ci := 9) (C := RX10) (T := TX10) (N := 11) 1 hC hin10 hW tp0 rfl rfl ⟨by decide, by decide, rfl, rfl⟩ rfl w_2 dX10_writeMailbox_6 qj37 ?_
    refine lv_iconst (v := 0) hx hb dX10_writeMailbox_9 (by decide) ?_
    replace hf := obE hf
    obtain ⟨S39, hz38, hf⟩ := hf
    refine x_callV (As := [.int 0]) (rest := []) (o := none) (S1 := S39) hC hl.1 hW hS hGs hA tj37 rfl (show vwCl[0]? = some (RX0, TX0, 2) ∧ 0 < 11 from ⟨rfl, by decide⟩) (c_X0_cutTo l g ad n K H.size F S30 j37 ((0 : Int32)) tj37 S39 hz38) (cwV 1 hts gX10_writeMailbox_X0_cutTo rfl rfl rfl (by decide +kernel) ⟨Nat.le_of_ble_eq_true rfl, Nat.le_of_ble_eq_true rfl⟩) rfl rfl (Nat.le_of_ble_eq_true rfl) dX10_writeMailbox_10 ⟨Nat.le_of_ble_eq_true rfl, Nat.le_of_ble_eq_true rfl⟩ (fun H locs hPz38 hW hS => ?_)
    refine W.eq (g2 := F0 m 13 ls []) rfl ?_
    refine lv_iconst (v := 0) hx hb dX10_writeMailbox_13 (by decide) ?_
    refine lv_istore_n (lv' := [(2, .int 0), (0, .ref (ad p0)), (1, .int p1)]) hx hb dX10_writeMailbox_14 rfl hl (by decide) rfl (fun ls hl => ?_)
    exact L15 F S39 p0 p1 0 tp0 _ _ _ hf hW hS (lv_sub hl [1, 2, 0] rfl)
set_option maxHeartbeats 4000000 in
set_option maxRecDepth 100000 in
theorem c_X10_outputByte (l : Launch) (hfl : l.stackTraces = false) (g : GP) (ad : Nat → Nat) (n : Nat) (K : Nat → Nat) (sz F : Nat) (S0 : St) (p0 : Nat) (p1 : Int32) (tp0 : p0 < n ∧ K p0 = 9) (o9 : Nat ⊕ Int32) (S9 : St) (hf : f_X10_outputByte F S0 p0 p1 = some (o9, S9)) : vx_Met l yX10_outputByte wsX10_outputByte { frames := 6, cells := 1, slots := 6, locals := 100 } (va_Pc [.ref (ad p0), .int p1] (PB g ad n K S0 sz)) (QT o9 (fun r => some (.int r)) (QB g ad n K S9 (dA ad n sz) True) (dA ad n sz)) (XT o9 (QB g ad n K S9 (dA ad n sz) True) (dA ad n sz)) 1 6 (dA ad n sz) := by
  refine vx_ofW (cc := cX10_outputByte) (maxL := 2) (ret := (some .int)) (by decide) rfl ?_
  intro p e s m args below meth c s₁ B hml hno hv
  obtain ⟨rfl, hsz, hW, hK, hGs⟩ := x_start hv
  subst hsz
  have hx := B.exec
  have hb := B.bytes
  have hr := B.returns
  have hts := atoms_spec (ws := wsX10_outputByte) B.pre
  have hown : s.vm.findClass RX10 = some m.cls := findClass_of_methodNamed B.named
  have hlk := B.notSynchronized
  have hC : Cx g p s m _ c cX10_outputByte RX10 wsX10_outputByte 2 := ⟨hx, hb, hml, hown, hts, hK⟩
  have hA : ∀ q : Nat, s.heap.size ≤ q → dA ad n s.heap.size q := fun q h => Or.inr h
  have hS : va_S (dA ad n s.heap.size) s.heap s.heap [] := va_S.rf
  have hl := lv_entry ([.ref (ad p0), .int p1]) (n := 2) (Nat.le_of_ble_eq_true rfl)
  rw [lg_entry_eq]
  generalize (lg_sl ([.ref (ad p0), .int p1]) ++ List.replicate (2 - (lg_sl ([.ref (ad p0), .int p1])).length) Slot.unset).toArray = ls at hl ⊢
  have hl : lv_has ls 2 [(0, .ref (ad p0)), (1, .int p1)] := hl
  have hin0 : ∀ w ∈ wsX00, w ∈ wsX10_outputByte := by decide +kernel
  have hin10 : ∀ w ∈ wsX100, w ∈ wsX10_outputByte := by decide +kernel
  have w_0 := hts (.classLink RX10 278 "java/lang/IndexOutOfBoundsException") (by decide +kernel)
  have w_1 := hts (.initialized "java/lang/IndexOutOfBoundsException") (by decide +kernel)
  have w_2 := hts (.fieldLink RX10 21 "MailSpool" "output" "LMailSpool$Bytes;") (by decide +kernel)
  have w_3 := va_Nw.use (A := (List.toArray [.ref (ad p0), .int p1])) rfl (hGs.1 (.fieldLinkNest RX10 57 "MailSpool$Bytes" "size" "I" "MailSpool") (by decide +kernel))
  have hat3 : ∀ w ∈ (vx_atS RX10 282 (exn 3) exNm).filter goodWord, w.before _ s = true := fun w h => hts w ((by decide +kernel : ∀ w ∈ (vx_atS RX10 282 (exn 3) exNm).filter goodWord, w ∈ wsX10_outputByte) w h)
  have hGE := hGs.2.2.2.2.2.2.1
  have hGM := hGs.2.2.2.2.2.2.2.1
  have L15 : ∀ (S0 : St)   (H : Heap) (locs : List Loc) (ls : Array Slot), f_X10_outputByte_L15 F S0  = some (o9, S9) → Wb g ad n K S0 (dA ad n s.heap.size) H → va_S (dA ad n s.heap.size) s.heap H locs → lv_has ls 2 [] → W p l e (headSpec wsX10_outputByte { frames := 6, cells := 1, slots := 6, locals := 100 }).room s m (List.toArray [.ref (ad p0), .int p1]) below meth c H locs 0 0 (vx_MQ below (QT o9 (fun r => some (.int r)) (QB g ad n K S9 (dA ad n s.heap.size) True) (dA ad n s.heap.size)) (XT o9 (QB g ad n K S9 (dA ad n s.heap.size) True) (dA ad n s.heap.size)) (List.toArray [.ref (ad p0), .int p1]) s 1 6 (dA ad n s.heap.size)) (F0 m 15 ls []) := by
    intro S0  H locs ls hf hW hS hl
    unfold f_X10_outputByte_L15 at hf
    obtain ⟨e1, e2⟩ := so2 hf
    subst e1
    subst e2
    exact x_throwSW (x := 3) (text := "no such index") hC hfl hno hl.1 hGs hS hlk w_0 w_1 (by decide +kernel) hat3 ⟨by decide +kernel, by decide +kernel, by decide +kernel⟩ dX10_outputByte_15 dX10_outputByte_18 dX10_outputByte_19 dX10_outputByte_22 dX10_outputByte_25 (Nat.le_of_ble_eq_true rfl) (Nat.le_of_ble_eq_true rfl) (Nat.le_of_ble_eq_true rfl) (Nat.le_of_ble_eq_true rfl) (Nat.le_of_ble_eq_true rfl) (Nat.le_of_ble_eq_true rfl) (fun t hv hq hF => ⟨⟨3, rfl, rfl, hW.kept hq, trivial⟩, hF⟩)
  unfold f_X10_outputByte at hf
  refine lv_iload_n hx hb dX10_outputByte_0 rfl (lv_at hl 1 rfl) ?_
  refine lv_if_lt (tgt := 15) hx hb dX10_outputByte_1 (by decide) (fun c1 => ?_) (fun c1 => ?_)
  · replace hf := ifT c1 hf
    exact L15 S0 _ _ _ hf hW hS (lv_sub hl [] rfl)
  · replace hf := ifF c1 hf
    refine lv_iload_n hx hb dX10_outputByte_4 rfl (lv_at hl 1 rfl) ?_
    refine lv_aload_n hx hb dX10_outputByte_5 rfl (lv_at hl 0 rfl) ?_
    replace hf := obE hf
    obtain ⟨j2, qj2, hf⟩ := hf
    have tj2 := x_rt hW qj2 0 ⟨by decide, rfl⟩
    refine x_getr 901 (ci := 9) (C := RX10) (T := TX10) (N := 11) 1 hC hin10 hW tp0 rfl rfl ⟨by decide, by decide, rfl, rfl⟩ rfl w_2 dX10_outputByte_6 qj2 ?_
    refine x_getiN 1 (ci := 0) (C := RX0) (T := TX0) (N := 2) 1 hC hin0 hW tj2 rfl rfl ⟨by decide, by decide, rfl, rfl⟩ rfl w_3 dX10_outputByte_9 ?_
    refine lv_icmp_lt (tgt := 26) hx hb dX10_outputByte_12 (by decide) (fun c3 => ?_) (fun c3 => ?_)
    · replace hf := ifT c3 hf
      refine lv_aload_n hx hb dX10_outputByte_26 rfl (lv_at hl 0 rfl) ?_
      replace hf := obE hf
      obtain ⟨j4, qj4, hf⟩ := hf
      have tj4 := x_rt hW qj4 0 ⟨by decide, rfl⟩
      refine x_getr 901 (ci := 9) (C := RX10) (T := TX10) (N := 11) 1 hC hin10 hW tp0 rfl rfl ⟨by decide, by decide, rfl, rfl⟩ rfl w_2 dX10_outputByte_27 qj4 ?_
      refine lv_iload_n hx hb dX10_outputByte_30 rfl (lv_at hl 1 rfl) ?_
      replace hf := obE hf
      obtain ⟨z5, hz5, hf⟩ := hf
      obtain ⟨r7, S6⟩ := z5
      replace hf := ltE (ltE hf r7 rfl) S6 rfl
      refine x_callV (As := [.int p1]) (rest := []) (o := (some (.int r7))) (S1 := S6) hC hl.1 hW hS hGs hA tj4 rfl (show vwCl[0]? = some (RX0, TX0, 2) ∧ 0 < 11 from ⟨rfl, by decide⟩) (c_X0_byteAt l g ad n K s.heap.size F S0 j4 p1 tj4 r7 S6 hz5) (cwV 1 hts gX10_outputByte_X0_byteAt rfl rfl rfl (by decide +kernel) ⟨Nat.le_of_ble_eq_true rfl, Nat.le_of_ble_eq_true rfl⟩) rfl rfl (Nat.le_of_ble_eq_true rfl) dX10_outputByte_31 ⟨Nat.le_of_ble_eq_true rfl, Nat.le_of_ble_eq_true rfl⟩ (fun H locs hPz5 hW hS => ?_)
      refine W.eq (g2 := F0 m 34 ls [.int r7]) rfl ?_
      obtain ⟨e1, e2⟩ := so2 hf
      subst e1
      subst e2
      refine W.widen (k := 1) (n := 6) (Nat.le_of_ble_eq_true rfl) (Nat.le_of_ble_eq_true rfl) ?_
      exact vx_ret (W.iret (v := r7) hx hb hr (fun t ht hWm => ⟨⟨_, rfl, rfl, by unfold QB; rw [ht]; exact ⟨hW, trivial⟩⟩, hS.F ht⟩) hS.2.2 dX10_outputByte_34 hlk)
    · replace hf := ifF c3 hf
      exact L15 S0 _ _ _ hf hW hS (lv_sub hl [] rfl)
