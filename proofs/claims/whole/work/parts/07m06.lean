set_option maxHeartbeats 4000000 in
set_option maxRecDepth 100000 in
theorem c_X10_isActive (l : Launch) (hfl : l.stackTraces = false) (g : GP) (ad : Nat → Nat) (n : Nat) (K : Nat → Nat) (sz F : Nat) (S0 : St) (p0 : Nat) (p1 : Int32) (tp0 : p0 < n ∧ K p0 = 9) (o9 : Nat ⊕ Int32) (S9 : St) (hf : f_X10_isActive F S0 p0 p1 = some (o9, S9)) : vx_Met l yX10_isActive wsX10_isActive { frames := 7, cells := 1, slots := 6, locals := 121 } (va_Pc [.ref (ad p0), .int p1] (PB g ad n K S0 sz)) (QT o9 (fun r => some (.int r)) (QB g ad n K S9 (dA ad n sz) True) (dA ad n sz)) (XT o9 (QB g ad n K S9 (dA ad n sz) True) (dA ad n sz)) 1 6 (dA ad n sz) := by
  refine vx_ofW (cc := cX10_isActive) (maxL := 2) (ret := (some .boolean)) (by decide) rfl ?_
  intro p e s m args below meth c s₁ B hml hno hv
  obtain ⟨rfl, hsz, hW, hK, hGs⟩ := x_start hv
  subst hsz
  have hx := B.exec
  have hb := B.bytes
  have hr := B.returns
  have hts := atoms_spec (ws := wsX10_isActive) B.pre
  have hown : s.vm.findClass RX10 = some m.cls := findClass_of_methodNamed B.named
  have hlk := B.notSynchronized
  have hC : Cx g p s m _ c cX10_isActive RX10 wsX10_isActive 2 := ⟨hx, hb, hml, hown, hts, hK⟩
  have hA : ∀ q : Nat, s.heap.size ≤ q → dA ad n s.heap.size q := fun q h => Or.inr h
  have hS : va_S (dA ad n s.heap.size) s.heap s.heap [] := va_S.rf
  have hl := lv_entry ([.ref (ad p0), .int p1]) (n := 2) (Nat.le_of_ble_eq_true rfl)
  rw [lg_entry_eq]
  generalize (lg_sl ([.ref (ad p0), .int p1]) ++ List.replicate (2 - (lg_sl ([.ref (ad p0), .int p1])).length) Slot.unset).toArray = ls at hl ⊢
  have hl : lv_has ls 2 [(0, .ref (ad p0)), (1, .int p1)] := hl
  have hin8 : ∀ w ∈ wsX80, w ∈ wsX10_isActive := by decide +kernel
  have hin10 : ∀ w ∈ wsX100, w ∈ wsX10_isActive := by decide +kernel
  have w_0 := hts (.fieldLink RX10 42 "MailSpool" "now" "LMailSpool$Spool;") (by decide +kernel)
  have w_1 := va_Nw.use (A := (List.toArray [.ref (ad p0), .int p1])) rfl (hGs.1 (.fieldLinkNest RX10 344 "MailSpool$Spool" "activeHolds" "I" "MailSpool") (by decide +kernel))
  have hGE := hGs.2.2.2.2.2.2.1
  have hGM := hGs.2.2.2.2.2.2.2.1
  unfold f_X10_isActive at hf
  refine lv_aload_n hx hb dX10_isActive_0 rfl (lv_at hl 0 rfl) ?_
  refine lv_iload_n hx hb dX10_isActive_1 rfl (lv_at hl 1 rfl) ?_
  replace hf := obE hf
  obtain ⟨z1, hz1, hf⟩ := hf
  obtain ⟨oz1, S2⟩ := z1
  replace hf := ltE hf S2 rfl
  refine x_tcallV (As := [.int p1]) (rest := []) (S1 := S2) (o := oz1) (vr := (fun _ => none)) (P := True) hC hl.1 hW hS hGs hA tp0 rfl (show vwCl[9]? = some (RX10, TX10, 11) ∧ 9 < 11 from ⟨rfl, by decide⟩) (c_X10_needHold l hfl g ad n K s.heap.size F S0 p0 p1 tp0 oz1 S2 hz1) (cwV 1 hts gX10_isActive_X10_needHold rfl rfl rfl (by decide +kernel) ⟨Nat.le_of_ble_eq_true rfl, Nat.le_of_ble_eq_true rfl⟩) rfl rfl (Nat.le_of_ble_eq_true rfl) dX10_isActive_2 ⟨Nat.le_of_ble_eq_true rfl, Nat.le_of_ble_eq_true rfl⟩ (fun x5 H locs ce q9 ho hW hS hc1 hc2 hc3 => ?_) (fun r3 H locs ho hP hW hS => ?_)
  · replace hf := smL ho hf
    obtain ⟨e1, e2⟩ := so2 hf
    subst e1
    subst e2
    exact x_tout hno hlk rfl hW hS hc1 hc2 hc3 (Nat.le_of_ble_eq_true rfl) (Nat.le_of_ble_eq_true rfl)
  · replace hf := smR ho hf
    refine W.widen (k := 1) (n := 6) (Nat.le_of_ble_eq_true rfl) (Nat.le_of_ble_eq_true rfl) ?_
    refine W.eq (g2 := F0 m 5 ls []) rfl ?_
    refine lv_aload_n hx hb dX10_isActive_5 rfl (lv_at hl 0 rfl) ?_
    replace hf := obE hf
    obtain ⟨j9, qj9, hf⟩ := hf
    have tj9 := x_rt hW qj9 7 ⟨by decide, rfl⟩
    refine x_getr 905 (ci := 9) (C := RX10) (T := TX10) (N := 11) 5 hC hin10 hW tp0 rfl rfl ⟨by decide, by decide, rfl, rfl⟩ rfl w_0 dX10_isActive_6 qj9 ?_
    refine x_getiN 703 (ci := 7) (C := RX8) (T := TX8) (N := 16) 3 hC hin8 hW tj9 rfl rfl ⟨by decide, by decide, rfl, rfl⟩ rfl w_1 dX10_isActive_9 ?_
    refine lv_iload_n hx hb dX10_isActive_12 rfl (lv_at hl 1 rfl) ?_
    replace hf := obE hf
    obtain ⟨z10, hz10, hf⟩ := hf
    obtain ⟨r12, S11⟩ := z10
    replace hf := ltE (ltE hf r12 rfl) S11 rfl
    refine x_callS (As := [.int (si S2 703 j9), .int p1]) (rest := []) (o := (some (.int r12))) (S1 := S11) hC hl.1 hW hS hGs hA (c_X10_hasBit l g ad n K H.size F S2 (si S2 703 j9) p1 r12 S11 hz10) (va_cwS 2 hts gX10_isActive_X10_hasBit rfl rfl rfl (by decide +kernel) ⟨Nat.le_of_ble_eq_true rfl, Nat.le_of_ble_eq_true rfl⟩) rfl rfl (Nat.le_of_ble_eq_true rfl) dX10_isActive_13 ⟨Nat.le_of_ble_eq_true rfl, Nat.le_of_ble_eq_true rfl⟩ (fun H locs hPz10 hW hS => ?_)
    refine W.eq (g2 := F0 m 16 ls [.int r12]) rfl ?_
    replace hf := ckE hf
    obtain ⟨h14, hf⟩ := hf
    obtain ⟨e1, e2⟩ := so2 hf
    subst e1
    subst e2
    exact vx_ret (W.zret (v := r12) hx hb hr (zn h14) (fun t ht hWm => ⟨⟨_, rfl, rfl, by unfold QB; rw [ht]; exact ⟨hW, trivial⟩⟩, hS.F ht⟩) hS.2.2 dX10_isActive_16 hlk)
set_option maxHeartbeats 4000000 in
set_option maxRecDepth 100000 in
theorem c_X8_releaseHold (l : Launch) (g : GP) (ad : Nat → Nat) (n : Nat) (K : Nat → Nat) (sz F : Nat) (S0 : St) (p0 : Nat) (p1 : Int32) (tp0 : p0 < n ∧ K p0 = 7) (r9 : Int32) (S9 : St) (hf : f_X8_releaseHold F S0 p0 p1 = some (r9, S9)) : Met l yX8_releaseHold wsX8_releaseHold { frames := 4, cells := 0, slots := 0, locals := 93 } (va_Pc [.ref (ad p0), .int p1] (PB g ad n K S0 sz)) (QR (some (.int r9)) (QB g ad n K S9 (dA ad n sz) (True)) (dA ad n sz)) 0 0 (dA ad n sz) := by
  refine Met.ofW (cc := cX8_releaseHold) (maxL := 5) (ret := (some .int)) (by decide) rfl ?_
  intro p e s m args below meth c s₁ B hml hv
  obtain ⟨rfl, hsz, hW, hK, hGs⟩ := x_start hv
  subst hsz
  have hx := B.exec
  have hb := B.bytes
  have hr := B.returns
  have hts := atoms_spec (ws := wsX8_releaseHold) B.pre
  have hown : s.vm.findClass RX8 = some m.cls := findClass_of_methodNamed B.named
  have hlk := B.notSynchronized
  have hC : Cx g p s m _ c cX8_releaseHold RX8 wsX8_releaseHold 5 := ⟨hx, hb, hml, hown, hts, hK⟩
  have hA : ∀ q : Nat, s.heap.size ≤ q → dA ad n s.heap.size q := fun q h => Or.inr h
  have hS : va_S (dA ad n s.heap.size) s.heap s.heap [] := va_S.rf
  have hl := lv_entry ([.ref (ad p0), .int p1]) (n := 5) (Nat.le_of_ble_eq_true rfl)
  rw [lg_entry_eq]
  generalize (lg_sl ([.ref (ad p0), .int p1]) ++ List.replicate (5 - (lg_sl ([.ref (ad p0), .int p1])).length) Slot.unset).toArray = ls at hl ⊢
  have hl : lv_has ls 5 [(0, .ref (ad p0)), (1, .int p1)] := hl
  have hin7 : ∀ w ∈ wsX70, w ∈ wsX8_releaseHold := by decide +kernel
  have hin8 : ∀ w ∈ wsX80, w ∈ wsX8_releaseHold := by decide +kernel
  have w_0 := hts (.fieldLink RX8 88 "MailSpool$Spool" "messageCount" "I") (by decide +kernel)
  have w_1 := hts (.fieldLink RX8 78 "MailSpool$Spool" "activeHolds" "I") (by decide +kernel)
  have w_2 := hts (.fieldLink RX8 9 "MailSpool$Spool" "rules" "LMailSpool$Rules;") (by decide +kernel)
  have w_3 := va_Nw.use (A := (List.toArray [.ref (ad p0), .int p1])) rfl (hGs.1 (.fieldLinkNest RX8 185 "MailSpool$Rules" "holdUser" "[I" "MailSpool") (by decide +kernel))
  have w_4 := va_Nw.use (A := (List.toArray [.ref (ad p0), .int p1])) rfl (hGs.1 (.methodLinkNest RX8 112 yX10_at "MailSpool") (by decide +kernel))
  have w_5 := hts (.initialized RX10) (by decide +kernel)
  have w_6 := hts (.static yX10_at) (by decide +kernel)
  have hGE := hGs.2.2.2.2.2.2.1
  have hGM := hGs.2.2.2.2.2.2.2.1
  have L31 : ∀ (fu31 : Nat) (S0 : St) (v0 : Nat) (v2 : Int32) (v3 : Int32) (v4 : Int32) (tv0 : v0 < n ∧ K v0 = 7) (H : Heap) (locs : List Loc) (ls : Array Slot), f_X8_releaseHold_L31 F fu31 S0 v0 v2 v3 v4 = some (r9, S9) → Wb g ad n K S0 (dA ad n s.heap.size) H → va_S (dA ad n s.heap.size) s.heap H locs → lv_has ls 5 [(0, .ref (ad v0)), (2, .int v2), (3, .int v3), (4, .int v4)] → W p l e (headSpec wsX8_releaseHold { frames := 4, cells := 0, slots := 0, locals := 93 }).room s m (List.toArray [.ref (ad p0), .int p1]) below meth c H locs 0 0 (MQ below (QR (some (.int r9)) (QB g ad n K S9 (dA ad n s.heap.size) (True)) (dA ad n s.heap.size)) (List.toArray [.ref (ad p0), .int p1]) s 0 0 (dA ad n s.heap.size)) (F0 m 31 ls []) := by
    intro fu31
    induction fu31 with
    | zero =>
      intro S0 v0 v2 v3 v4 tv0 H locs ls hf
      cases hf
    | succ fu31 ih31 =>
      have L71 : ∀ (S0 : St) (v0 : Nat) (v2 : Int32) (v3 : Int32) (v4 : Int32) (tv0 : v0 < n ∧ K v0 = 7) (H : Heap) (locs : List Loc) (ls : Array Slot), f_X8_releaseHold_L71 F (fun a0 a1 a2 a3 a4 => f_X8_releaseHold_L31 F fu31 a0 a1 a2 a3 a4) S0 v0 v2 v3 v4 = some (r9, S9) → Wb g ad n K S0 (dA ad n s.heap.size) H → va_S (dA ad n s.heap.size) s.heap H locs → lv_has ls 5 [(0, .ref (ad v0)), (2, .int v2), (3, .int v3), (4, .int v4)] → W p l e (headSpec wsX8_releaseHold { frames := 4, cells := 0, slots := 0, locals := 93 }).room s m (List.toArray [.ref (ad p0), .int p1]) below meth c H locs 0 0 (MQ below (QR (some (.int r9)) (QB g ad n K S9 (dA ad n s.heap.size) (True)) (dA ad n s.heap.size)) (List.toArray [.ref (ad p0), .int p1]) s 0 0 (dA ad n s.heap.size)) (F0 m 71 ls []) := by
        intro S0 v0 v2 v3 v4 tv0 H locs ls hf hW hS hl
        unfold f_X8_releaseHold_L71 at hf
        obtain ⟨x2, ex2⟩ : ∃ z : Int32, z = v4 + 1 := ⟨_, rfl⟩
        replace hf := ltE hf x2 ex2
        refine lv_iinc (v := x2) (lv' := [(4, .int x2), (0, .ref (ad v0)), (2, .int v2), (3, .int v3)]) hx hb dX8_releaseHold_71 hl (k := 3) rfl (by rw [ex2]; rfl) (by decide) rfl (fun ls hl => ?_)
        refine lv_goto (tgt := 31) hx hb dX8_releaseHold_74 (by decide) ?_
        exact ih31 S0 v0 v2 v3 x2 tv0 _ _ _ hf hW hS (lv_sub hl [1, 2, 3, 0] rfl)
      intro S0 v0 v2 v3 v4 tv0 H locs ls hf hW hS hl
      unfold f_X8_releaseHold_L31 at hf
      refine lv_iload hx hb dX8_releaseHold_31 (lv_at hl 3 rfl) ?_
      refine lv_aload_n hx hb dX8_releaseHold_33 rfl (lv_at hl 0 rfl) ?_
      refine x_geti 705 (ci := 7) (C := RX8) (T := TX8) (N := 16) 5 hC hin8 hW tv0 rfl rfl ⟨by decide, by decide, rfl, rfl⟩ rfl w_0 dX8_releaseHold_34 ?_
      refine lv_icmp_ge (tgt := 77) hx hb dX8_releaseHold_37 (by decide) (fun c19 => ?_) (fun c19 => ?_)
      · replace hf := ifT c19 hf
        refine lv_iload_n hx hb dX8_releaseHold_77 rfl (lv_at hl 2 rfl) ?_
        obtain ⟨e1, e2⟩ := so2 hf
        subst e1
        subst e2
        exact W.iret (v := v3) hx hb hr (fun t ht hWm => ⟨⟨rfl, by unfold QB; rw [ht]; exact ⟨hW, trivial⟩⟩, hS.F ht⟩) hS.2.2 dX8_releaseHold_78 hlk
      · replace hf := ifF c19 hf
        refine lv_aload_n hx hb dX8_releaseHold_40 rfl (lv_at hl 0 rfl) ?_
        refine lv_iload hx hb dX8_releaseHold_41 (lv_at hl 3 rfl) ?_
        refine lv_iload_n hx hb dX8_releaseHold_43 rfl (lv_at hl 1 rfl) ?_
        replace hf := obE hf
        obtain ⟨z20, hz20, hf⟩ := hf
        obtain ⟨r22, S21⟩ := z20
        replace hf := ltE (ltE hf r22 rfl) S21 rfl
        refine x_callV (As := [.int v4, .int v2]) (rest := []) (o := (some (.int r22))) (S1 := S21) hC hl.1 hW hS hGs hA tv0 rfl (show vwCl[7]? = some (RX8, TX8, 16) ∧ 7 < 11 from ⟨rfl, by decide⟩) (c_X8_isHidden l g ad n K H.size F S0 v0 v4 v2 tv0 r22 S21 hz20) (cwV 2 hts gX8_releaseHold_X8_isHidden rfl rfl rfl (by decide +kernel) ⟨Nat.le_of_ble_eq_true rfl, Nat.le_of_ble_eq_true rfl⟩) rfl rfl (Nat.le_of_ble_eq_true rfl) dX8_releaseHold_44 ⟨Nat.le_of_ble_eq_true rfl, Nat.le_of_ble_eq_true rfl⟩ (fun H locs hPz20 hW hS => ?_)
        refine W.eq (g2 := F0 m 47 ls [.int r22]) rfl ?_
        refine lv_if_eq (tgt := 71) hx hb dX8_releaseHold_47 (by decide) (fun c24 => ?_) (fun c24 => ?_)
        · replace hf := ifT c24 hf
          exact L71 S21 v0 v2 v3 v4 tv0 _ _ _ hf hW hS (lv_sub hl [0, 1, 2, 3] rfl)
        · replace hf := ifF c24 hf
          refine lv_aload_n hx hb dX8_releaseHold_50 rfl (lv_at hl 0 rfl) ?_
          refine lv_iload hx hb dX8_releaseHold_51 (lv_at hl 3 rfl) ?_
          refine lv_iload_n hx hb dX8_releaseHold_53 rfl (lv_at hl 1 rfl) ?_
          replace hf := obE hf
          obtain ⟨z25, hz25, hf⟩ := hf
          obtain ⟨r27, S26⟩ := z25
          replace hf := ltE (ltE hf r27 rfl) S26 rfl
          refine x_callV (As := [.int v4, .int v2]) (rest := []) (o := (some (.int r27))) (S1 := S26) hC hl.1 hW hS hGs hA tv0 rfl (show vwCl[7]? = some (RX8, TX8, 16) ∧ 7 < 11 from ⟨rfl, by decide⟩) (c_X8_holdsCovering l g ad n K H.size F S21 v0 v4 v2 tv0 r27 S26 hz25) (cwV 2 hts gX8_releaseHold_X8_holdsCovering rfl rfl rfl (by decide +kernel) ⟨Nat.le_of_ble_eq_true rfl, Nat.le_of_ble_eq_true rfl⟩) rfl rfl (Nat.le_of_ble_eq_true rfl) dX8_releaseHold_54 ⟨Nat.le_of_ble_eq_true rfl, Nat.le_of_ble_eq_true rfl⟩ (fun H locs hPz25 hW hS => ?_)
          refine W.eq (g2 := F0 m 57 ls [.int r27]) rfl ?_
          refine lv_if_ne (tgt := 71) hx hb dX8_releaseHold_57 (by decide) (fun c29 => ?_) (fun c29 => ?_)
          · replace hf := ifT c29 hf
            exact L71 S26 v0 v2 v3 v4 tv0 _ _ _ hf hW hS (lv_sub hl [0, 1, 2, 3] rfl)
          · replace hf := ifF (fun q => q c29) hf
            refine lv_aload_n hx hb dX8_releaseHold_60 rfl (lv_at hl 0 rfl) ?_
            refine lv_iload hx hb dX8_releaseHold_61 (lv_at hl 3 rfl) ?_
            refine lv_iload_n hx hb dX8_releaseHold_63 rfl (lv_at hl 1 rfl) ?_
            refine lv_iconst (v := 3) hx hb dX8_releaseHold_64 (by decide) ?_
            replace hf := obE hf
            obtain ⟨S31, hz30, hf⟩ := hf
            refine x_callV (As := [.int v4, .int v2, .int 3]) (rest := []) (o := none) (S1 := S31) hC hl.1 hW hS hGs hA tv0 rfl (show vwCl[7]? = some (RX8, TX8, 16) ∧ 7 < 11 from ⟨rfl, by decide⟩) (c_X8_endReference l g ad n K H.size F S26 v0 v4 v2 ((3 : Int32)) tv0 S31 hz30) (cwV 3 hts gX8_releaseHold_X8_endReference rfl rfl rfl (by decide +kernel) ⟨Nat.le_of_ble_eq_true rfl, Nat.le_of_ble_eq_true rfl⟩) rfl rfl (Nat.le_of_ble_eq_true rfl) dX8_releaseHold_65 ⟨Nat.le_of_ble_eq_true rfl, Nat.le_of_ble_eq_true rfl⟩ (fun H locs hPz30 hW hS => ?_)
            refine W.eq (g2 := F0 m 68 ls []) rfl ?_
            obtain ⟨x34, ex34⟩ : ∃ z : Int32, z = v3 + 1 := ⟨_, rfl⟩
            replace hf := ltE hf x34 ex34
            refine lv_iinc (v := x34) (lv' := [(3, .int x34), (0, .ref (ad v0)), (2, .int v2), (4, .int v4)]) hx hb dX8_releaseHold_68 hl (k := 2) rfl (by rw [ex34]; rfl) (by decide) rfl (fun ls hl => ?_)
            exact L71 S31 v0 v2 x34 v4 tv0 _ _ _ hf hW hS (lv_sub hl [1, 2, 0, 3] rfl)
  unfold f_X8_releaseHold at hf
  refine lv_aload_n hx hb dX8_releaseHold_0 rfl (lv_at hl 0 rfl) ?_
  refine lv_dup hx hb dX8_releaseHold_1 rfl ?_
  refine x_geti 703 (ci := 7) (C := RX8) (T := TX8) (N := 16) 3 hC hin8 hW tp0 rfl rfl ⟨by decide, by decide, rfl, rfl⟩ rfl w_1 dX8_releaseHold_2 ?_
  refine lv_iconst (v := 1) hx hb dX8_releaseHold_5 (by decide) ?_
  refine lv_iload_n hx hb dX8_releaseHold_6 rfl (lv_at hl 1 rfl) ?_
  refine lv_ishl hx hb dX8_releaseHold_7 ?_
  refine lv_iconst (v := -1) hx hb dX8_releaseHold_8 (by decide) ?_
  refine lv_ixor hx hb dX8_releaseHold_9 ?_
  refine lv_iand hx hb dX8_releaseHold_10 ?_
  refine x_puti 703 (ci := 7) (C := RX8) (T := TX8) (N := 16) (v := (si S0 703 p0) &&& ((1 <<< (p1 &&& 31)) ^^^ ((-1)))) (ty := .int) 3 hC hin8 tyX8_ok nmX8 hW hS tp0 rfl rfl ⟨by decide, by decide, rfl, rfl⟩ rfl w_1 rfl (by decide +kernel) rfl rfl dX8_releaseHold_11 (fun S35 H locs eS35 hW hS => ?_)
  replace hf := ltE hf S35 eS35
  refine lv_aload_n hx hb dX8_releaseHold_14 rfl (lv_at hl 0 rfl) ?_
  replace hf := obE hf
  obtain ⟨j36, qj36, hf⟩ := hf
  have tj36 := x_rt hW qj36 6 ⟨by decide, rfl⟩
  refine x_getr 700 (ci := 7) (C := RX8) (T := TX8) (N := 16) 0 hC hin8 hW tp0 rfl rfl ⟨by decide, by decide, rfl, rfl⟩ rfl w_2 dX8_releaseHold_15 qj36 ?_
  replace hf := obE hf
  obtain ⟨j37, qj37, hf⟩ := hf
  have tj37 := x_rt hW qj37 12 ⟨by decide, rfl⟩
  refine x_getrN 612 (ci := 6) (C := RX7) (T := TX7) (N := 16) 12 hC hin7 hW tj36 rfl rfl ⟨by decide, by decide, rfl, rfl⟩ rfl w_3 dX8_releaseHold_18 qj37 ?_
  refine lv_iload_n hx hb dX8_releaseHold_21 rfl (lv_at hl 1 rfl) ?_
  replace hf := obE hf
  obtain ⟨z38, hz38, hf⟩ := hf
  obtain ⟨r40, S39⟩ := z38
  replace hf := ltE (ltE hf r40 rfl) S39 rfl
  refine x_callSN (As := [.ref (ad j37), .int p1]) (rest := []) (o := (some (.int r40))) (S1 := S39) hC hl.1 hW hS hGs hA (c_X10_at l g ad n K H.size F S35 j37 p1 tj37 r40 S39 hz38) ⟨va_cnB 2 hts gX8_releaseHold_X10_at_n112 rfl rfl rfl (va_Nw.of rfl w_4) w_5 (by decide +kernel) ⟨Nat.le_of_ble_eq_true rfl, Nat.le_of_ble_eq_true rfl⟩, w_6, trivial⟩ rfl rfl (Nat.le_of_ble_eq_true rfl) dX8_releaseHold_22 ⟨Nat.le_of_ble_eq_true rfl, Nat.le_of_ble_eq_true rfl⟩ (fun H locs hPz38 hW hS => ?_)
  refine W.eq (g2 := F0 m 25 ls [.int r40]) rfl ?_
  refine lv_istore_n (lv' := [(2, .int r40), (0, .ref (ad p0)), (1, .int p1)]) hx hb dX8_releaseHold_25 rfl hl (by decide) rfl (fun ls hl => ?_)
  refine lv_iconst (v := 0) hx hb dX8_releaseHold_26 (by decide) ?_
  refine lv_istore_n (lv' := [(3, .int 0), (2, .int r40), (0, .ref (ad p0)), (1, .int p1)]) hx hb dX8_releaseHold_27 rfl hl (by decide) rfl (fun ls hl => ?_)
  refine lv_iconst (v := 0) hx hb dX8_releaseHold_28 (by decide) ?_
  refine lv_istore (lv' := [(4, .int 0), (3, .int 0), (2, .int r40), (0, .ref (ad p0)), (1, .int p1)]) hx hb dX8_releaseHold_29 hl (by decide) rfl (fun ls hl => ?_)
  exact L31 F S39 p0 r40 0 0 tp0 _ _ _ hf hW hS (lv_sub hl [3, 2, 1, 0] rfl)
set_option maxHeartbeats 4000000 in
set_option maxRecDepth 100000 in
theorem c_X10_setHold (l : Launch) (hfl : l.stackTraces = false) (g : GP) (ad : Nat → Nat) (n : Nat) (K : Nat → Nat) (sz F : Nat) (S0 : St) (p0 : Nat) (p1 : Int32) (p2 : Int32) (tp0 : p0 < n ∧ K p0 = 9) (o9 : Nat ⊕ Int32) (S9 : St) (hf : f_X10_setHold F S0 p0 p1 p2 = some (o9, S9)) : vx_Met l yX10_setHold wsX10_setHold { frames := 7, cells := 1, slots := 6, locals := 126 } (va_Pc [.ref (ad p0), .int p1, .int p2] (PB g ad n K S0 sz)) (QT o9 (fun r => some (.int r)) (QB g ad n K S9 (dA ad n sz) True) (dA ad n sz)) (XT o9 (QB g ad n K S9 (dA ad n sz) True) (dA ad n sz)) 1 6 (dA ad n sz) := by
  refine vx_ofW (cc := cX10_setHold) (maxL := 3) (ret := (some .int)) (by decide) rfl ?_
  intro p e s m args below meth c s₁ B hml hno hv
  obtain ⟨rfl, hsz, hW, hK, hGs⟩ := x_start hv
  subst hsz
  have hx := B.exec
  have hb := B.bytes
  have hr := B.returns
  have hts := atoms_spec (ws := wsX10_setHold) B.pre
  have hown : s.vm.findClass RX10 = some m.cls := findClass_of_methodNamed B.named
  have hlk := B.notSynchronized
  have hC : Cx g p s m _ c cX10_setHold RX10 wsX10_setHold 3 := ⟨hx, hb, hml, hown, hts, hK⟩
  have hA : ∀ q : Nat, s.heap.size ≤ q → dA ad n s.heap.size q := fun q h => Or.inr h
  have hS : va_S (dA ad n s.heap.size) s.heap s.heap [] := va_S.rf
  have hl := lv_entry ([.ref (ad p0), .int p1, .int p2]) (n := 3) (Nat.le_of_ble_eq_true rfl)
  rw [lg_entry_eq]
  generalize (lg_sl ([.ref (ad p0), .int p1, .int p2]) ++ List.replicate (3 - (lg_sl ([.ref (ad p0), .int p1, .int p2])).length) Slot.unset).toArray = ls at hl ⊢
  have hl : lv_has ls 3 [(0, .ref (ad p0)), (1, .int p1), (2, .int p2)] := hl
  have hin8 : ∀ w ∈ wsX80, w ∈ wsX10_setHold := by decide +kernel
  have hin10 : ∀ w ∈ wsX100, w ∈ wsX10_setHold := by decide +kernel
  have w_0 := hts (.fieldLink RX10 42 "MailSpool" "now" "LMailSpool$Spool;") (by decide +kernel)
  have w_1 := va_Nw.use (A := (List.toArray [.ref (ad p0), .int p1, .int p2])) rfl (hGs.1 (.fieldLinkNest RX10 344 "MailSpool$Spool" "activeHolds" "I" "MailSpool") (by decide +kernel))
  have hGE := hGs.2.2.2.2.2.2.1
  have hGM := hGs.2.2.2.2.2.2.2.1
  unfold f_X10_setHold at hf
  refine lv_aload_n hx hb dX10_setHold_0 rfl (lv_at hl 0 rfl) ?_
  refine lv_iload_n hx hb dX10_setHold_1 rfl (lv_at hl 1 rfl) ?_
  replace hf := obE hf
  obtain ⟨z1, hz1, hf⟩ := hf
  obtain ⟨oz1, S2⟩ := z1
  replace hf := ltE hf S2 rfl
  refine x_tcallV (As := [.int p1]) (rest := []) (S1 := S2) (o := oz1) (vr := (fun _ => none)) (P := True) hC hl.1 hW hS hGs hA tp0 rfl (show vwCl[9]? = some (RX10, TX10, 11) ∧ 9 < 11 from ⟨rfl, by decide⟩) (c_X10_needHold l hfl g ad n K s.heap.size F S0 p0 p1 tp0 oz1 S2 hz1) (cwV 1 hts gX10_setHold_X10_needHold rfl rfl rfl (by decide +kernel) ⟨Nat.le_of_ble_eq_true rfl, Nat.le_of_ble_eq_true rfl⟩) rfl rfl (Nat.le_of_ble_eq_true rfl) dX10_setHold_2 ⟨Nat.le_of_ble_eq_true rfl, Nat.le_of_ble_eq_true rfl⟩ (fun x5 H locs ce q9 ho hW hS hc1 hc2 hc3 => ?_) (fun r3 H locs ho hP hW hS => ?_)
  · replace hf := smL ho hf
    obtain ⟨e1, e2⟩ := so2 hf
    subst e1
    subst e2
    exact x_tout hno hlk rfl hW hS hc1 hc2 hc3 (Nat.le_of_ble_eq_true rfl) (Nat.le_of_ble_eq_true rfl)
  · replace hf := smR ho hf
    refine W.widen (k := 1) (n := 6) (Nat.le_of_ble_eq_true rfl) (Nat.le_of_ble_eq_true rfl) ?_
    refine W.eq (g2 := F0 m 5 ls []) rfl ?_
    refine lv_aload_n hx hb dX10_setHold_5 rfl (lv_at hl 0 rfl) ?_
    replace hf := obE hf
    obtain ⟨j9, qj9, hf⟩ := hf
    have tj9 := x_rt hW qj9 7 ⟨by decide, rfl⟩
    refine x_getr 905 (ci := 9) (C := RX10) (T := TX10) (N := 11) 5 hC hin10 hW tp0 rfl rfl ⟨by decide, by decide, rfl, rfl⟩ rfl w_0 dX10_setHold_6 qj9 ?_
    refine x_getiN 703 (ci := 7) (C := RX8) (T := TX8) (N := 16) 3 hC hin8 hW tj9 rfl rfl ⟨by decide, by decide, rfl, rfl⟩ rfl w_1 dX10_setHold_9 ?_
    refine lv_iload_n hx hb dX10_setHold_12 rfl (lv_at hl 1 rfl) ?_
    replace hf := obE hf
    obtain ⟨z10, hz10, hf⟩ := hf
    obtain ⟨r12, S11⟩ := z10
    replace hf := ltE (ltE hf r12 rfl) S11 rfl
    refine x_callS (As := [.int (si S2 703 j9), .int p1]) (rest := []) (o := (some (.int r12))) (S1 := S11) hC hl.1 hW hS hGs hA (c_X10_hasBit l g ad n K H.size F S2 (si S2 703 j9) p1 r12 S11 hz10) (va_cwS 2 hts gX10_setHold_X10_hasBit rfl rfl rfl (by decide +kernel) ⟨Nat.le_of_ble_eq_true rfl, Nat.le_of_ble_eq_true rfl⟩) rfl rfl (Nat.le_of_ble_eq_true rfl) dX10_setHold_13 ⟨Nat.le_of_ble_eq_true rfl, Nat.le_of_ble_eq_true rfl⟩ (fun H locs hPz10 hW hS => ?_)
    refine W.eq (g2 := F0 m 16 ls [.int r12]) rfl ?_
    refine lv_iload_n hx hb dX10_setHold_16 rfl (lv_at hl 2 rfl) ?_
    refine lv_icmp_ne (tgt := 22) hx hb dX10_setHold_17 (by decide) (fun c14 => ?_) (fun c14 => ?_)
    · replace hf := ifT c14 hf
      refine lv_aload_n hx hb dX10_setHold_22 rfl (lv_at hl 0 rfl) ?_
      replace hf := obE hf
      obtain ⟨S16, hz15, hf⟩ := hf
      refine x_callV (As := []) (rest := []) (o := none) (S1 := S16) hC hl.1 hW hS hGs hA tp0 rfl (show vwCl[9]? = some (RX10, TX10, 11) ∧ 9 < 11 from ⟨rfl, by decide⟩) (c_X10_remember l g ad n K H.size F S11 p0 tp0 S16 hz15) (cwV 0 hts gX10_setHold_X10_remember rfl rfl rfl (by decide +kernel) ⟨Nat.le_of_ble_eq_true rfl, Nat.le_of_ble_eq_true rfl⟩) rfl rfl (Nat.le_of_ble_eq_true rfl) dX10_setHold_23 ⟨Nat.le_of_ble_eq_true rfl, Nat.le_of_ble_eq_true rfl⟩ (fun H locs hPz15 hW hS => ?_)
      refine W.eq (g2 := F0 m 26 ls []) rfl ?_
      refine lv_iload_n hx hb dX10_setHold_26 rfl (lv_at hl 2 rfl) ?_
      refine lv_if_eq (tgt := 47) hx hb dX10_setHold_27 (by decide) (fun c19 => ?_) (fun c19 => ?_)
      · replace hf := ifT c19 hf
        refine lv_aload_n hx hb dX10_setHold_47 rfl (lv_at hl 0 rfl) ?_
        replace hf := obE hf
        obtain ⟨j20, qj20, hf⟩ := hf
        have tj20 := x_rt hW qj20 7 ⟨by decide, rfl⟩
        refine x_getr 905 (ci := 9) (C := RX10) (T := TX10) (N := 11) 5 hC hin10 hW tp0 rfl rfl ⟨by decide, by decide, rfl, rfl⟩ rfl w_0 dX10_setHold_48 qj20 ?_
        refine lv_iload_n hx hb dX10_setHold_51 rfl (lv_at hl 1 rfl) ?_
        replace hf := obE hf
        obtain ⟨z21, hz21, hf⟩ := hf
        obtain ⟨r23, S22⟩ := z21
        replace hf := ltE (ltE hf r23 rfl) S22 rfl
        refine x_callV (As := [.int p1]) (rest := []) (o := (some (.int r23))) (S1 := S22) hC hl.1 hW hS hGs hA tj20 rfl (show vwCl[7]? = some (RX8, TX8, 16) ∧ 7 < 11 from ⟨rfl, by decide⟩) (c_X8_releaseHold l g ad n K H.size F S16 j20 p1 tj20 r23 S22 hz21) (cwV 1 hts gX10_setHold_X8_releaseHold rfl rfl rfl (by decide +kernel) ⟨Nat.le_of_ble_eq_true rfl, Nat.le_of_ble_eq_true rfl⟩) rfl rfl (Nat.le_of_ble_eq_true rfl) dX10_setHold_52 ⟨Nat.le_of_ble_eq_true rfl, Nat.le_of_ble_eq_true rfl⟩ (fun H locs hPz21 hW hS => ?_)
        refine W.eq (g2 := F0 m 55 ls [.int r23]) rfl ?_
        obtain ⟨e1, e2⟩ := so2 hf
        subst e1
        subst e2
        exact vx_ret (W.iret (v := r23) hx hb hr (fun t ht hWm => ⟨⟨_, rfl, rfl, by unfold QB; rw [ht]; exact ⟨hW, trivial⟩⟩, hS.F ht⟩) hS.2.2 dX10_setHold_55 hlk)
      · replace hf := ifF c19 hf
        refine lv_aload_n hx hb dX10_setHold_30 rfl (lv_at hl 0 rfl) ?_
        replace hf := obE hf
        obtain ⟨j25, qj25, hf⟩ := hf
        have tj25 := x_rt hW qj25 7 ⟨by decide, rfl⟩
        refine x_getr 905 (ci := 9) (C := RX10) (T := TX10) (N := 11) 5 hC hin10 hW tp0 rfl rfl ⟨by decide, by decide, rfl, rfl⟩ rfl w_0 dX10_setHold_31 qj25 ?_
        refine lv_dup hx hb dX10_setHold_34 rfl ?_
        refine x_getiN 703 (ci := 7) (C := RX8) (T := TX8) (N := 16) 3 hC hin8 hW tj25 rfl rfl ⟨by decide, by decide, rfl, rfl⟩ rfl w_1 dX10_setHold_35 ?_
        refine lv_iconst (v := 1) hx hb dX10_setHold_38 (by decide) ?_
        refine lv_iload_n hx hb dX10_setHold_39 rfl (lv_at hl 1 rfl) ?_
        refine lv_ishl hx hb dX10_setHold_40 ?_
        refine lv_ior hx hb dX10_setHold_41 ?_
        refine x_putiN 703 (ci := 7) (C := RX8) (T := TX8) (N := 16) (v := (si S16 703 j25) ||| (1 <<< (p1 &&& 31))) (ty := .int) 3 hC hin8 tyX8_ok nmX8 hW hS tj25 rfl rfl ⟨by decide, by decide, rfl, rfl⟩ rfl w_1 rfl (by decide +kernel) rfl rfl dX10_setHold_42 (fun S26 H locs eS26 hW hS => ?_)
        replace hf := ltE hf S26 eS26
        refine lv_iconst (v := 0) hx hb dX10_setHold_45 (by decide) ?_
        obtain ⟨e1, e2⟩ := so2 hf
        subst e1
        subst e2
        exact vx_ret (W.iret (v := 0) hx hb hr (fun t ht hWm => ⟨⟨_, rfl, rfl, by unfold QB; rw [ht]; exact ⟨hW, trivial⟩⟩, hS.F ht⟩) hS.2.2 dX10_setHold_46 hlk)
    · replace hf := ifF (fun q => q c14) hf
      refine lv_iconst (v := 0) hx hb dX10_setHold_20 (by decide) ?_
      obtain ⟨e1, e2⟩ := so2 hf
      subst e1
      subst e2
      exact vx_ret (W.iret (v := 0) hx hb hr (fun t ht hWm => ⟨⟨_, rfl, rfl, by unfold QB; rw [ht]; exact ⟨hW, trivial⟩⟩, hS.F ht⟩) hS.2.2 dX10_setHold_21 hlk)
set_option maxHeartbeats 4000000 in
set_option maxRecDepth 100000 in
theorem c_X8_hiddenOnlyBy (l : Launch) (g : GP) (ad : Nat → Nat) (n : Nat) (K : Nat → Nat) (sz F : Nat) (S0 : St) (p0 : Nat) (p1 : Int32) (tp0 : p0 < n ∧ K p0 = 7) (r9 : Int32) (S9 : St) (hf : f_X8_hiddenOnlyBy F S0 p0 p1 = some (r9, S9)) : Met l yX8_hiddenOnlyBy wsX8_hiddenOnlyBy { frames := 3, cells := 0, slots := 0, locals := 66 } (va_Pc [.ref (ad p0), .int p1] (PB g ad n K S0 sz)) (QR (some (.int r9)) (QB g ad n K S9 (dA ad n sz) (True)) (dA ad n sz)) 0 0 (dA ad n sz) := by
  refine Met.ofW (cc := cX8_hiddenOnlyBy) (maxL := 5) (ret := (some .int)) (by decide) rfl ?_
  intro p e s m args below meth c s₁ B hml hv
  obtain ⟨rfl, hsz, hW, hK, hGs⟩ := x_start hv
  subst hsz
  have hx := B.exec
  have hb := B.bytes
  have hr := B.returns
  have hts := atoms_spec (ws := wsX8_hiddenOnlyBy) B.pre
  have hown : s.vm.findClass RX8 = some m.cls := findClass_of_methodNamed B.named
  have hlk := B.notSynchronized
  have hC : Cx g p s m _ c cX8_hiddenOnlyBy RX8 wsX8_hiddenOnlyBy 5 := ⟨hx, hb, hml, hown, hts, hK⟩
  have hA : ∀ q : Nat, s.heap.size ≤ q → dA ad n s.heap.size q := fun q h => Or.inr h
  have hS : va_S (dA ad n s.heap.size) s.heap s.heap [] := va_S.rf
  have hl := lv_entry ([.ref (ad p0), .int p1]) (n := 5) (Nat.le_of_ble_eq_true rfl)
  rw [lg_entry_eq]
  generalize (lg_sl ([.ref (ad p0), .int p1]) ++ List.replicate (5 - (lg_sl ([.ref (ad p0), .int p1])).length) Slot.unset).toArray = ls at hl ⊢
  have hl : lv_has ls 5 [(0, .ref (ad p0)), (1, .int p1)] := hl
  have hin7 : ∀ w ∈ wsX70, w ∈ wsX8_hiddenOnlyBy := by decide +kernel
  have hin8 : ∀ w ∈ wsX80, w ∈ wsX8_hiddenOnlyBy := by decide +kernel
  have w_0 := hts (.fieldLink RX8 88 "MailSpool$Spool" "messageCount" "I") (by decide +kernel)
  have w_1 := hts (.fieldLink RX8 9 "MailSpool$Spool" "rules" "LMailSpool$Rules;") (by decide +kernel)
  have w_2 := va_Nw.use (A := (List.toArray [.ref (ad p0), .int p1])) rfl (hGs.1 (.fieldLinkNest RX8 185 "MailSpool$Rules" "holdUser" "[I" "MailSpool") (by decide +kernel))
  have w_3 := va_Nw.use (A := (List.toArray [.ref (ad p0), .int p1])) rfl (hGs.1 (.methodLinkNest RX8 112 yX10_at "MailSpool") (by decide +kernel))
  have w_4 := hts (.initialized RX10) (by decide +kernel)
  have w_5 := hts (.static yX10_at) (by decide +kernel)
  have hGE := hGs.2.2.2.2.2.2.1
  have hGM := hGs.2.2.2.2.2.2.2.1
  have L17 : ∀ (fu17 : Nat) (S0 : St) (v0 : Nat) (v1 : Int32) (v2 : Int32) (v3 : Int32) (v4 : Int32) (tv0 : v0 < n ∧ K v0 = 7) (H : Heap) (locs : List Loc) (ls : Array Slot), f_X8_hiddenOnlyBy_L17 F fu17 S0 v0 v1 v2 v3 v4 = some (r9, S9) → Wb g ad n K S0 (dA ad n s.heap.size) H → va_S (dA ad n s.heap.size) s.heap H locs → lv_has ls 5 [(0, .ref (ad v0)), (1, .int v1), (2, .int v2), (3, .int v3), (4, .int v4)] → W p l e (headSpec wsX8_hiddenOnlyBy { frames := 3, cells := 0, slots := 0, locals := 66 }).room s m (List.toArray [.ref (ad p0), .int p1]) below meth c H locs 0 0 (MQ below (QR (some (.int r9)) (QB g ad n K S9 (dA ad n s.heap.size) (True)) (dA ad n s.heap.size)) (List.toArray [.ref (ad p0), .int p1]) s 0 0 (dA ad n s.heap.size)) (F0 m 17 ls []) := by
    intro fu17
    induction fu17 with
    | zero =>
      intro S0 v0 v1 v2 v3 v4 tv0 H locs ls hf
      cases hf
    | succ fu17 ih17 =>
      have L52 : ∀ (S0 : St) (v0 : Nat) (v1 : Int32) (v2 : Int32) (v3 : Int32) (v4 : Int32) (tv0 : v0 < n ∧ K v0 = 7) (H : Heap) (locs : List Loc) (ls : Array Slot), f_X8_hiddenOnlyBy_L52 F (fun a0 a1 a2 a3 a4 a5 => f_X8_hiddenOnlyBy_L17 F fu17 a0 a1 a2 a3 a4 a5) S0 v0 v1 v2 v3 v4 = some (r9, S9) → Wb g ad n K S0 (dA ad n s.heap.size) H → va_S (dA ad n s.heap.size) s.heap H locs → lv_has ls 5 [(0, .ref (ad v0)), (1, .int v1), (2, .int v2), (3, .int v3), (4, .int v4)] → W p l e (headSpec wsX8_hiddenOnlyBy { frames := 3, cells := 0, slots := 0, locals := 66 }).room s m (List.toArray [.ref (ad p0), .int p1]) below meth c H locs 0 0 (MQ below (QR (some (.int r9)) (QB g ad n K S9 (dA ad n s.heap.size) (True)) (dA ad n s.heap.size)) (List.toArray [.ref (ad p0), .int p1]) s 0 0 (dA ad n s.heap.size)) (F0 m 52 ls []) := by
        intro S0 v0 v1 v2 v3 v4 tv0 H locs ls hf hW hS hl
        unfold f_X8_hiddenOnlyBy_L52 at hf
        obtain ⟨x2, ex2⟩ : ∃ z : Int32, z = v4 + 1 := ⟨_, rfl⟩
        replace hf := ltE hf x2 ex2
        refine lv_iinc (v := x2) (lv' := [(4, .int x2), (0, .ref (ad v0)), (1, .int v1), (2, .int v2), (3, .int v3)]) hx hb dX8_hiddenOnlyBy_52 hl (k := 4) rfl (by rw [ex2]; rfl) (by decide) rfl (fun ls hl => ?_)
        refine lv_goto (tgt := 17) hx hb dX8_hiddenOnlyBy_55 (by decide) ?_
        exact ih17 S0 v0 v1 v2 v3 x2 tv0 _ _ _ hf hW hS (lv_sub hl [1, 2, 3, 4, 0] rfl)
      intro S0 v0 v1 v2 v3 v4 tv0 H locs ls hf hW hS hl
      unfold f_X8_hiddenOnlyBy_L17 at hf
      refine lv_iload hx hb dX8_hiddenOnlyBy_17 (lv_at hl 4 rfl) ?_
      refine lv_aload_n hx hb dX8_hiddenOnlyBy_19 rfl (lv_at hl 0 rfl) ?_
      refine x_geti 705 (ci := 7) (C := RX8) (T := TX8) (N := 16) 5 hC hin8 hW tv0 rfl rfl ⟨by decide, by decide, rfl, rfl⟩ rfl w_0 dX8_hiddenOnlyBy_20 ?_
      refine lv_icmp_ge (tgt := 58) hx hb dX8_hiddenOnlyBy_23 (by decide) (fun c15 => ?_) (fun c15 => ?_)
      · replace hf := ifT c15 hf
        refine lv_iload_n hx hb dX8_hiddenOnlyBy_58 rfl (lv_at hl 3 rfl) ?_
        obtain ⟨e1, e2⟩ := so2 hf
        subst e1
        subst e2
        exact W.iret (v := v3) hx hb hr (fun t ht hWm => ⟨⟨rfl, by unfold QB; rw [ht]; exact ⟨hW, trivial⟩⟩, hS.F ht⟩) hS.2.2 dX8_hiddenOnlyBy_59 hlk
      · replace hf := ifF c15 hf
        refine lv_aload_n hx hb dX8_hiddenOnlyBy_26 rfl (lv_at hl 0 rfl) ?_
        refine lv_iload hx hb dX8_hiddenOnlyBy_27 (lv_at hl 4 rfl) ?_
        refine lv_iload_n hx hb dX8_hiddenOnlyBy_29 rfl (lv_at hl 2 rfl) ?_
        replace hf := obE hf
        obtain ⟨z16, hz16, hf⟩ := hf
        obtain ⟨r18, S17⟩ := z16
        replace hf := ltE (ltE hf r18 rfl) S17 rfl
        refine x_callV (As := [.int v4, .int v2]) (rest := []) (o := (some (.int r18))) (S1 := S17) hC hl.1 hW hS hGs hA tv0 rfl (show vwCl[7]? = some (RX8, TX8, 16) ∧ 7 < 11 from ⟨rfl, by decide⟩) (c_X8_isHidden l g ad n K H.size F S0 v0 v4 v2 tv0 r18 S17 hz16) (cwV 2 hts gX8_hiddenOnlyBy_X8_isHidden rfl rfl rfl (by decide +kernel) ⟨Nat.le_of_ble_eq_true rfl, Nat.le_of_ble_eq_true rfl⟩) rfl rfl (Nat.le_of_ble_eq_true rfl) dX8_hiddenOnlyBy_30 ⟨Nat.le_of_ble_eq_true rfl, Nat.le_of_ble_eq_true rfl⟩ (fun H locs hPz16 hW hS => ?_)
        refine W.eq (g2 := F0 m 33 ls [.int r18]) rfl ?_
        refine lv_if_eq (tgt := 52) hx hb dX8_hiddenOnlyBy_33 (by decide) (fun c20 => ?_) (fun c20 => ?_)
        · replace hf := ifT c20 hf
          exact L52 S17 v0 v1 v2 v3 v4 tv0 _ _ _ hf hW hS (lv_sub hl [0, 1, 2, 3, 4] rfl)
        · replace hf := ifF c20 hf
          refine lv_aload_n hx hb dX8_hiddenOnlyBy_36 rfl (lv_at hl 0 rfl) ?_
          refine lv_iload hx hb dX8_hiddenOnlyBy_37 (lv_at hl 4 rfl) ?_
          refine lv_iload_n hx hb dX8_hiddenOnlyBy_39 rfl (lv_at hl 2 rfl) ?_
          replace hf := obE hf
          obtain ⟨z21, hz21, hf⟩ := hf
          obtain ⟨r23, S22⟩ := z21
          replace hf := ltE (ltE hf r23 rfl) S22 rfl
          refine x_callV (As := [.int v4, .int v2]) (rest := []) (o := (some (.int r23))) (S1 := S22) hC hl.1 hW hS hGs hA tv0 rfl (show vwCl[7]? = some (RX8, TX8, 16) ∧ 7 < 11 from ⟨rfl, by decide⟩) (c_X8_holdsCovering l g ad n K H.size F S17 v0 v4 v2 tv0 r23 S22 hz21) (cwV 2 hts gX8_hiddenOnlyBy_X8_holdsCovering rfl rfl rfl (by decide +kernel) ⟨Nat.le_of_ble_eq_true rfl, Nat.le_of_ble_eq_true rfl⟩) rfl rfl (Nat.le_of_ble_eq_true rfl) dX8_hiddenOnlyBy_40 ⟨Nat.le_of_ble_eq_true rfl, Nat.le_of_ble_eq_true rfl⟩ (fun H locs hPz21 hW hS => ?_)
          refine W.eq (g2 := F0 m 43 ls [.int r23]) rfl ?_
          refine lv_iconst (v := 1) hx hb dX8_hiddenOnlyBy_43 (by decide) ?_
          refine lv_iload_n hx hb dX8_hiddenOnlyBy_44 rfl (lv_at hl 1 rfl) ?_
          refine lv_ishl hx hb dX8_hiddenOnlyBy_45 ?_
          refine lv_icmp_ne (tgt := 52) hx hb dX8_hiddenOnlyBy_46 (by decide) (fun c25 => ?_) (fun c25 => ?_)
          · replace hf := ifT c25 hf
            exact L52 S22 v0 v1 v2 v3 v4 tv0 _ _ _ hf hW hS (lv_sub hl [0, 1, 2, 3, 4] rfl)
          · replace hf := ifF (fun q => q c25) hf
            obtain ⟨x26, ex26⟩ : ∃ z : Int32, z = v3 + 1 := ⟨_, rfl⟩
            replace hf := ltE hf x26 ex26
            refine lv_iinc (v := x26) (lv' := [(3, .int x26), (0, .ref (ad v0)), (1, .int v1), (2, .int v2), (4, .int v4)]) hx hb dX8_hiddenOnlyBy_49 hl (k := 3) rfl (by rw [ex26]; rfl) (by decide) rfl (fun ls hl => ?_)
            exact L52 S22 v0 v1 v2 x26 v4 tv0 _ _ _ hf hW hS (lv_sub hl [1, 2, 3, 0, 4] rfl)
  unfold f_X8_hiddenOnlyBy at hf
  refine lv_aload_n hx hb dX8_hiddenOnlyBy_0 rfl (lv_at hl 0 rfl) ?_
  replace hf := obE hf
  obtain ⟨j27, qj27, hf⟩ := hf
  have tj27 := x_rt hW qj27 6 ⟨by decide, rfl⟩
  refine x_getr 700 (ci := 7) (C := RX8) (T := TX8) (N := 16) 0 hC hin8 hW tp0 rfl rfl ⟨by decide, by decide, rfl, rfl⟩ rfl w_1 dX8_hiddenOnlyBy_1 qj27 ?_
  replace hf := obE hf
  obtain ⟨j28, qj28, hf⟩ := hf
  have tj28 := x_rt hW qj28 12 ⟨by decide, rfl⟩
  refine x_getrN 612 (ci := 6) (C := RX7) (T := TX7) (N := 16) 12 hC hin7 hW tj27 rfl rfl ⟨by decide, by decide, rfl, rfl⟩ rfl w_2 dX8_hiddenOnlyBy_4 qj28 ?_
  refine lv_iload_n hx hb dX8_hiddenOnlyBy_7 rfl (lv_at hl 1 rfl) ?_
  replace hf := obE hf
  obtain ⟨z29, hz29, hf⟩ := hf
  obtain ⟨r31, S30⟩ := z29
  replace hf := ltE (ltE hf r31 rfl) S30 rfl
  refine x_callSN (As := [.ref (ad j28), .int p1]) (rest := []) (o := (some (.int r31))) (S1 := S30) hC hl.1 hW hS hGs hA (c_X10_at l g ad n K s.heap.size F S0 j28 p1 tj28 r31 S30 hz29) ⟨va_cnB 2 hts gX8_hiddenOnlyBy_X10_at_n112 rfl rfl rfl (va_Nw.of rfl w_3) w_4 (by decide +kernel) ⟨Nat.le_of_ble_eq_true rfl, Nat.le_of_ble_eq_true rfl⟩, w_5, trivial⟩ rfl rfl (Nat.le_of_ble_eq_true rfl) dX8_hiddenOnlyBy_8 ⟨Nat.le_of_ble_eq_true rfl, Nat.le_of_ble_eq_true rfl⟩ (fun H locs hPz29 hW hS => ?_)
  refine W.eq (g2 := F0 m 11 ls [.int r31]) rfl ?_
  refine lv_istore_n (lv' := [(2, .int r31), (0, .ref (ad p0)), (1, .int p1)]) hx hb dX8_hiddenOnlyBy_11 rfl hl (by decide) rfl (fun ls hl => ?_)
  refine lv_iconst (v := 0) hx hb dX8_hiddenOnlyBy_12 (by decide) ?_
  refine lv_istore_n (lv' := [(3, .int 0), (2, .int r31), (0, .ref (ad p0)), (1, .int p1)]) hx hb dX8_hiddenOnlyBy_13 rfl hl (by decide) rfl (fun ls hl => ?_)
  refine lv_iconst (v := 0) hx hb dX8_hiddenOnlyBy_14 (by decide) ?_
  refine lv_istore (lv' := [(4, .int 0), (3, .int 0), (2, .int r31), (0, .ref (ad p0)), (1, .int p1)]) hx hb dX8_hiddenOnlyBy_15 hl (by decide) rfl (fun ls hl => ?_)
  exact L17 F S30 p0 p1 r31 0 0 tp0 _ _ _ hf hW hS (lv_sub hl [3, 4, 2, 1, 0] rfl)
set_option maxHeartbeats 4000000 in
set_option maxRecDepth 100000 in
theorem c_X10_heldOnlyBy (l : Launch) (hfl : l.stackTraces = false) (g : GP) (ad : Nat → Nat) (n : Nat) (K : Nat → Nat) (sz F : Nat) (S0 : St) (p0 : Nat) (p1 : Int32) (tp0 : p0 < n ∧ K p0 = 9) (o9 : Nat ⊕ Int32) (S9 : St) (hf : f_X10_heldOnlyBy F S0 p0 p1 = some (o9, S9)) : vx_Met l yX10_heldOnlyBy wsX10_heldOnlyBy { frames := 7, cells := 1, slots := 6, locals := 121 } (va_Pc [.ref (ad p0), .int p1] (PB g ad n K S0 sz)) (QT o9 (fun r => some (.int r)) (QB g ad n K S9 (dA ad n sz) True) (dA ad n sz)) (XT o9 (QB g ad n K S9 (dA ad n sz) True) (dA ad n sz)) 1 6 (dA ad n sz) := by
  refine vx_ofW (cc := cX10_heldOnlyBy) (maxL := 2) (ret := (some .int)) (by decide) rfl ?_
  intro p e s m args below meth c s₁ B hml hno hv
  obtain ⟨rfl, hsz, hW, hK, hGs⟩ := x_start hv
  subst hsz
  have hx := B.exec
  have hb := B.bytes
  have hr := B.returns
  have hts := atoms_spec (ws := wsX10_heldOnlyBy) B.pre
  have hown : s.vm.findClass RX10 = some m.cls := findClass_of_methodNamed B.named
  have hlk := B.notSynchronized
  have hC : Cx g p s m _ c cX10_heldOnlyBy RX10 wsX10_heldOnlyBy 2 := ⟨hx, hb, hml, hown, hts, hK⟩
  have hA : ∀ q : Nat, s.heap.size ≤ q → dA ad n s.heap.size q := fun q h => Or.inr h
  have hS : va_S (dA ad n s.heap.size) s.heap s.heap [] := va_S.rf
  have hl := lv_entry ([.ref (ad p0), .int p1]) (n := 2) (Nat.le_of_ble_eq_true rfl)
  rw [lg_entry_eq]
  generalize (lg_sl ([.ref (ad p0), .int p1]) ++ List.replicate (2 - (lg_sl ([.ref (ad p0), .int p1])).length) Slot.unset).toArray = ls at hl ⊢
  have hl : lv_has ls 2 [(0, .ref (ad p0)), (1, .int p1)] := hl
  have hin10 : ∀ w ∈ wsX100, w ∈ wsX10_heldOnlyBy := by decide +kernel
  have w_0 := hts (.fieldLink RX10 42 "MailSpool" "now" "LMailSpool$Spool;") (by decide +kernel)
  have hGE := hGs.2.2.2.2.2.2.1
  have hGM := hGs.2.2.2.2.2.2.2.1
  unfold f_X10_heldOnlyBy at hf
  refine lv_aload_n hx hb dX10_heldOnlyBy_0 rfl (lv_at hl 0 rfl) ?_
  refine lv_iload_n hx hb dX10_heldOnlyBy_1 rfl (lv_at hl 1 rfl) ?_
  replace hf := obE hf
  obtain ⟨z1, hz1, hf⟩ := hf
  obtain ⟨oz1, S2⟩ := z1
  replace hf := ltE hf S2 rfl
  refine x_tcallV (As := [.int p1]) (rest := []) (S1 := S2) (o := oz1) (vr := (fun _ => none)) (P := True) hC hl.1 hW hS hGs hA tp0 rfl (show vwCl[9]? = some (RX10, TX10, 11) ∧ 9 < 11 from ⟨rfl, by decide⟩) (c_X10_needHold l hfl g ad n K s.heap.size F S0 p0 p1 tp0 oz1 S2 hz1) (cwV 1 hts gX10_heldOnlyBy_X10_needHold rfl rfl rfl (by decide +kernel) ⟨Nat.le_of_ble_eq_true rfl, Nat.le_of_ble_eq_true rfl⟩) rfl rfl (Nat.le_of_ble_eq_true rfl) dX10_heldOnlyBy_2 ⟨Nat.le_of_ble_eq_true rfl, Nat.le_of_ble_eq_true rfl⟩ (fun x5 H locs ce q9 ho hW hS hc1 hc2 hc3 => ?_) (fun r3 H locs ho hP hW hS => ?_)
  · replace hf := smL ho hf
    obtain ⟨e1, e2⟩ := so2 hf
    subst e1
    subst e2
    exact x_tout hno hlk rfl hW hS hc1 hc2 hc3 (Nat.le_of_ble_eq_true rfl) (Nat.le_of_ble_eq_true rfl)
  · replace hf := smR ho hf
    refine W.widen (k := 1) (n := 6) (Nat.le_of_ble_eq_true rfl) (Nat.le_of_ble_eq_true rfl) ?_
    refine W.eq (g2 := F0 m 5 ls []) rfl ?_
    refine lv_aload_n hx hb dX10_heldOnlyBy_5 rfl (lv_at hl 0 rfl) ?_
    replace hf := obE hf
    obtain ⟨j9, qj9, hf⟩ := hf
    have tj9 := x_rt hW qj9 7 ⟨by decide, rfl⟩
    refine x_getr 905 (ci := 9) (C := RX10) (T := TX10) (N := 11) 5 hC hin10 hW tp0 rfl rfl ⟨by decide, by decide, rfl, rfl⟩ rfl w_0 dX10_heldOnlyBy_6 qj9 ?_
    refine lv_iload_n hx hb dX10_heldOnlyBy_9 rfl (lv_at hl 1 rfl) ?_
    replace hf := obE hf
    obtain ⟨z10, hz10, hf⟩ := hf
    obtain ⟨r12, S11⟩ := z10
    replace hf := ltE (ltE hf r12 rfl) S11 rfl
    refine x_callV (As := [.int p1]) (rest := []) (o := (some (.int r12))) (S1 := S11) hC hl.1 hW hS hGs hA tj9 rfl (show vwCl[7]? = some (RX8, TX8, 16) ∧ 7 < 11 from ⟨rfl, by decide⟩) (c_X8_hiddenOnlyBy l g ad n K H.size F S2 j9 p1 tj9 r12 S11 hz10) (cwV 1 hts gX10_heldOnlyBy_X8_hiddenOnlyBy rfl rfl rfl (by decide +kernel) ⟨Nat.le_of_ble_eq_true rfl, Nat.le_of_ble_eq_true rfl⟩) rfl rfl (Nat.le_of_ble_eq_true rfl) dX10_heldOnlyBy_10 ⟨Nat.le_of_ble_eq_true rfl, Nat.le_of_ble_eq_true rfl⟩ (fun H locs hPz10 hW hS => ?_)
    refine W.eq (g2 := F0 m 13 ls [.int r12]) rfl ?_
    obtain ⟨e1, e2⟩ := so2 hf
    subst e1
    subst e2
    exact vx_ret (W.iret (v := r12) hx hb hr (fun t ht hWm => ⟨⟨_, rfl, rfl, by unfold QB; rw [ht]; exact ⟨hW, trivial⟩⟩, hS.F ht⟩) hS.2.2 dX10_heldOnlyBy_13 hlk)
set_option maxHeartbeats 4000000 in
set_option maxRecDepth 100000 in
theorem c_X10_setQuota (l : Launch) (hfl : l.stackTraces = false) (g : GP) (ad : Nat → Nat) (n : Nat) (K : Nat → Nat) (sz F : Nat) (S0 : St) (p0 : Nat) (p1 : Int32) (p2 : Int32) (tp0 : p0 < n ∧ K p0 = 9) (o9 : Nat ⊕ Int32) (S9 : St) (hf : f_X10_setQuota F S0 p0 p1 p2 = some (o9, S9)) : vx_Met l yX10_setQuota wsX10_setQuota { frames := 7, cells := 2, slots := 12, locals := 126 } (va_Pc [.ref (ad p0), .int p1, .int p2] (PB g ad n K S0 sz)) (QT o9 (fun r => some (.int r)) (QB g ad n K S9 (dA ad n sz) True) (dA ad n sz)) (XT o9 (QB g ad n K S9 (dA ad n sz) True) (dA ad n sz)) 2 12 (dA ad n sz) := by
  refine vx_ofW (cc := cX10_setQuota) (maxL := 4) (ret := (some .int)) (by decide) rfl ?_
  intro p e s m args below meth c s₁ B hml hno hv
  obtain ⟨rfl, hsz, hW, hK, hGs⟩ := x_start hv
  subst hsz
  have hx := B.exec
  have hb := B.bytes
  have hr := B.returns
  have hts := atoms_spec (ws := wsX10_setQuota) B.pre
  have hown : s.vm.findClass RX10 = some m.cls := findClass_of_methodNamed B.named
  have hlk := B.notSynchronized
  have hC : Cx g p s m _ c cX10_setQuota RX10 wsX10_setQuota 4 := ⟨hx, hb, hml, hown, hts, hK⟩
  have hA : ∀ q : Nat, s.heap.size ≤ q → dA ad n s.heap.size q := fun q h => Or.inr h
  have hS : va_S (dA ad n s.heap.size) s.heap s.heap [] := va_S.rf
  have hl := lv_entry ([.ref (ad p0), .int p1, .int p2]) (n := 4) (Nat.le_of_ble_eq_true rfl)
  rw [lg_entry_eq]
  generalize (lg_sl ([.ref (ad p0), .int p1, .int p2]) ++ List.replicate (4 - (lg_sl ([.ref (ad p0), .int p1, .int p2])).length) Slot.unset).toArray = ls at hl ⊢
  have hl : lv_has ls 4 [(0, .ref (ad p0)), (1, .int p1), (2, .int p2)] := hl
  have hin8 : ∀ w ∈ wsX80, w ∈ wsX10_setQuota := by decide +kernel
  have hin10 : ∀ w ∈ wsX100, w ∈ wsX10_setQuota := by decide +kernel
  have w_0 := hts (.classLink RX10 70 "java/lang/IllegalArgumentException") (by decide +kernel)
  have w_1 := hts (.initialized "java/lang/IllegalArgumentException") (by decide +kernel)
  have w_2 := hts (.constant RX10 353 (99999)) (by decide +kernel)
  have w_3 := hts (.fieldLink RX10 42 "MailSpool" "now" "LMailSpool$Spool;") (by decide +kernel)
  have w_4 := va_Nw.use (A := (List.toArray [.ref (ad p0), .int p1, .int p2])) rfl (hGs.1 (.fieldLinkNest RX10 299 "MailSpool$Spool" "quotas" "[I" "MailSpool") (by decide +kernel))
  have hat2 : ∀ w ∈ (vx_atS RX10 74 (exn 2) exNm).filter goodWord, w.before _ s = true := fun w h => hts w ((by decide +kernel : ∀ w ∈ (vx_atS RX10 74 (exn 2) exNm).filter goodWord, w ∈ wsX10_setQuota) w h)
  have hGE := hGs.2.2.2.2.2.2.1
  have hGM := hGs.2.2.2.2.2.2.2.1
  have L17 : ∀ (S0 : St)   (H : Heap) (locs : List Loc) (ls : Array Slot), f_X10_setQuota_L17 F S0  = some (o9, S9) → Wb g ad n K S0 (dA ad n s.heap.size) H → va_S (dA ad n s.heap.size) s.heap H locs → lv_has ls 4 [] → W p l e (headSpec wsX10_setQuota { frames := 7, cells := 2, slots := 12, locals := 126 }).room s m (List.toArray [.ref (ad p0), .int p1, .int p2]) below meth c H locs 1 6 (vx_MQ below (QT o9 (fun r => some (.int r)) (QB g ad n K S9 (dA ad n s.heap.size) True) (dA ad n s.heap.size)) (XT o9 (QB g ad n K S9 (dA ad n s.heap.size) True) (dA ad n s.heap.size)) (List.toArray [.ref (ad p0), .int p1, .int p2]) s 2 12 (dA ad n s.heap.size)) (F0 m 17 ls []) := by
    intro S0  H locs ls hf hW hS hl
    unfold f_X10_setQuota_L17 at hf
    obtain ⟨e1, e2⟩ := so2 hf
    subst e1
    subst e2
    exact x_throwSW (x := 2) (text := "no such quota") hC hfl hno hl.1 hGs hS hlk w_0 w_1 (by decide +kernel) hat2 ⟨by decide +kernel, by decide +kernel, by decide +kernel⟩ dX10_setQuota_17 dX10_setQuota_20 dX10_setQuota_21 dX10_setQuota_24 dX10_setQuota_27 (Nat.le_of_ble_eq_true rfl) (Nat.le_of_ble_eq_true rfl) (Nat.le_of_ble_eq_true rfl) (Nat.le_of_ble_eq_true rfl) (Nat.le_of_ble_eq_true rfl) (Nat.le_of_ble_eq_true rfl) (fun t hv hq hF => ⟨⟨2, rfl, rfl, hW.kept hq, trivial⟩, hF⟩)
  unfold f_X10_setQuota at hf
  refine lv_aload_n hx hb dX10_setQuota_0 rfl (lv_at hl 0 rfl) ?_
  refine lv_iload_n hx hb dX10_setQuota_1 rfl (lv_at hl 1 rfl) ?_
  replace hf := obE hf
  obtain ⟨z1, hz1, hf⟩ := hf
  obtain ⟨oz1, S2⟩ := z1
  replace hf := ltE hf S2 rfl
  refine x_tcallV (As := [.int p1]) (rest := []) (S1 := S2) (o := oz1) (vr := (fun _ => none)) (P := True) hC hl.1 hW hS hGs hA tp0 rfl (show vwCl[9]? = some (RX10, TX10, 11) ∧ 9 < 11 from ⟨rfl, by decide⟩) (c_X10_needUser l hfl g ad n K s.heap.size F S0 p0 p1 tp0 oz1 S2 hz1) (cwV 1 hts gX10_setQuota_X10_needUser rfl rfl rfl (by decide +kernel) ⟨Nat.le_of_ble_eq_true rfl, Nat.le_of_ble_eq_true rfl⟩) rfl rfl (Nat.le_of_ble_eq_true rfl) dX10_setQuota_2 ⟨Nat.le_of_ble_eq_true rfl, Nat.le_of_ble_eq_true rfl⟩ (fun x5 H locs ce q9 ho hW hS hc1 hc2 hc3 => ?_) (fun r3 H locs ho hP hW hS => ?_)
  · replace hf := smL ho hf
    obtain ⟨e1, e2⟩ := so2 hf
    subst e1
    subst e2
    exact x_tout hno hlk rfl hW hS hc1 hc2 hc3 (Nat.le_of_ble_eq_true rfl) (Nat.le_of_ble_eq_true rfl)
  · replace hf := smR ho hf
    refine W.widen (k := 1) (n := 6) (Nat.le_of_ble_eq_true rfl) (Nat.le_of_ble_eq_true rfl) ?_
    refine W.eq (g2 := F0 m 5 ls []) rfl ?_
    refine lv_iload_n hx hb dX10_setQuota_5 rfl (lv_at hl 2 rfl) ?_
    refine lv_iconst (v := 1) hx hb dX10_setQuota_6 (by decide) ?_
    refine lv_icmp_lt (tgt := 17) hx hb dX10_setQuota_7 (by decide) (fun c9 => ?_) (fun c9 => ?_)
    · replace hf := ifT c9 hf
      exact L17 S2 _ _ _ hf hW hS (lv_sub hl [] rfl)
    · replace hf := ifF c9 hf
      refine lv_iload_n hx hb dX10_setQuota_10 rfl (lv_at hl 2 rfl) ?_
      refine lv_ldcw (v := 99999) hx hb hown w_2 dX10_setQuota_11 ?_
      refine lv_icmp_le (tgt := 28) hx hb dX10_setQuota_14 (by decide) (fun c10 => ?_) (fun c10 => ?_)
      · replace hf := ifT c10 hf
        refine lv_aload_n hx hb dX10_setQuota_28 rfl (lv_at hl 0 rfl) ?_
        replace hf := obE hf
        obtain ⟨j11, qj11, hf⟩ := hf
        have tj11 := x_rt hW qj11 7 ⟨by decide, rfl⟩
        refine x_getr 905 (ci := 9) (C := RX10) (T := TX10) (N := 11) 5 hC hin10 hW tp0 rfl rfl ⟨by decide, by decide, rfl, rfl⟩ rfl w_3 dX10_setQuota_29 qj11 ?_
        replace hf := obE hf
        obtain ⟨j12, qj12, hf⟩ := hf
        have tj12 := x_rt hW qj12 12 ⟨by decide, rfl⟩
        refine x_getrN 704 (ci := 7) (C := RX8) (T := TX8) (N := 16) 4 hC hin8 hW tj11 rfl rfl ⟨by decide, by decide, rfl, rfl⟩ rfl w_4 dX10_setQuota_32 qj12 ?_
        refine lv_iload_n hx hb dX10_setQuota_35 rfl (lv_at hl 1 rfl) ?_
        replace hf := obE hf
        obtain ⟨z13, hz13, hf⟩ := hf
        obtain ⟨r15, S14⟩ := z13
        replace hf := ltE (ltE hf r15 rfl) S14 rfl
        refine x_callS (As := [.ref (ad j12), .int p1]) (rest := []) (o := (some (.int r15))) (S1 := S14) hC hl.1 hW hS hGs hA (c_X10_at l g ad n K H.size F S2 j12 p1 tj12 r15 S14 hz13) (va_cwS 2 hts gX10_setQuota_X10_at rfl rfl rfl (by decide +kernel) ⟨Nat.le_of_ble_eq_true rfl, Nat.le_of_ble_eq_true rfl⟩) rfl rfl (Nat.le_of_ble_eq_true rfl) dX10_setQuota_36 ⟨Nat.le_of_ble_eq_true rfl, Nat.le_of_ble_eq_true rfl⟩ (fun H locs hPz13 hW hS => ?_)
        refine W.eq (g2 := F0 m 39 ls [.int r15]) rfl ?_
        refine lv_istore_n (lv' := [(3, .int r15), (0, .ref (ad p0)), (1, .int p1), (2, .int p2)]) hx hb dX10_setQuota_39 rfl hl (by decide) rfl (fun ls hl => ?_)
        refine lv_iload_n hx hb dX10_setQuota_40 rfl (lv_at hl 0 rfl) ?_
        refine lv_iload_n hx hb dX10_setQuota_41 rfl (lv_at hl 3 rfl) ?_
        refine lv_icmp_eq (tgt := 61) hx hb dX10_setQuota_42 (by decide) (fun c17 => ?_) (fun c17 => ?_)
        · replace hf := ifT c17 hf
          refine lv_iload_n hx hb dX10_setQuota_61 rfl (lv_at hl 0 rfl) ?_
          obtain ⟨e1, e2⟩ := so2 hf
          subst e1
          subst e2
          refine W.widen (k := 2) (n := 12) (Nat.le_of_ble_eq_true rfl) (Nat.le_of_ble_eq_true rfl) ?_
          exact vx_ret (W.iret (v := r15) hx hb hr (fun t ht hWm => ⟨⟨_, rfl, rfl, by unfold QB; rw [ht]; exact ⟨hW, trivial⟩⟩, hS.F ht⟩) hS.2.2 dX10_setQuota_62 hlk)
        · replace hf := ifF c17 hf
          refine lv_aload_n hx hb dX10_setQuota_45 rfl (lv_at hl 1 rfl) ?_
          replace hf := obE hf
          obtain ⟨S19, hz18, hf⟩ := hf
          refine x_callV (As := []) (rest := []) (o := none) (S1 := S19) hC hl.1 hW hS hGs hA tp0 rfl (show vwCl[9]? = some (RX10, TX10, 11) ∧ 9 < 11 from ⟨rfl, by decide⟩) (c_X10_remember l g ad n K H.size F S14 p0 tp0 S19 hz18) (cwV 0 hts gX10_setQuota_X10_remember rfl rfl rfl (by decide +kernel) ⟨Nat.le_of_ble_eq_true rfl, Nat.le_of_ble_eq_true rfl⟩) rfl rfl (Nat.le_of_ble_eq_true rfl) dX10_setQuota_46 ⟨Nat.le_of_ble_eq_true rfl, Nat.le_of_ble_eq_true rfl⟩ (fun H locs hPz18 hW hS => ?_)
          refine W.eq (g2 := F0 m 49 ls []) rfl ?_
          refine lv_aload_n hx hb dX10_setQuota_49 rfl (lv_at hl 1 rfl) ?_
          replace hf := obE hf
          obtain ⟨j22, qj22, hf⟩ := hf
          have tj22 := x_rt hW qj22 7 ⟨by decide, rfl⟩
          refine x_getr 905 (ci := 9) (C := RX10) (T := TX10) (N := 11) 5 hC hin10 hW tp0 rfl rfl ⟨by decide, by decide, rfl, rfl⟩ rfl w_3 dX10_setQuota_50 qj22 ?_
          replace hf := obE hf
          obtain ⟨j23, qj23, hf⟩ := hf
          have tj23 := x_rt hW qj23 12 ⟨by decide, rfl⟩
          refine x_getrN 704 (ci := 7) (C := RX8) (T := TX8) (N := 16) 4 hC hin8 hW tj22 rfl rfl ⟨by decide, by decide, rfl, rfl⟩ rfl w_4 dX10_setQuota_53 qj23 ?_
          refine lv_iload_n hx hb dX10_setQuota_56 rfl (lv_at hl 2 rfl) ?_
          refine lv_iload_n hx hb dX10_setQuota_57 rfl (lv_at hl 3 rfl) ?_
          replace hf := obE hf
          obtain ⟨S25, hz24, hf⟩ := hf
          refine x_callS (As := [.ref (ad j23), .int p1, .int p2]) (rest := []) (o := none) (S1 := S25) hC hl.1 hW hS hGs hA (c_X10_put l g ad n K H.size F S19 j23 p1 p2 tj23 S25 hz24) (va_cwS 3 hts gX10_setQuota_X10_put rfl rfl rfl (by decide +kernel) ⟨Nat.le_of_ble_eq_true rfl, Nat.le_of_ble_eq_true rfl⟩) rfl rfl (Nat.le_of_ble_eq_true rfl) dX10_setQuota_58 ⟨Nat.le_of_ble_eq_true rfl, Nat.le_of_ble_eq_true rfl⟩ (fun H locs hPz24 hW hS => ?_)
          refine W.eq (g2 := F0 m 61 ls []) rfl ?_
          refine lv_iload_n hx hb dX10_setQuota_61 rfl (lv_at hl 0 rfl) ?_
          obtain ⟨e1, e2⟩ := so2 hf
          subst e1
          subst e2
          refine W.widen (k := 2) (n := 12) (Nat.le_of_ble_eq_true rfl) (Nat.le_of_ble_eq_true rfl) ?_
          exact vx_ret (W.iret (v := r15) hx hb hr (fun t ht hWm => ⟨⟨_, rfl, rfl, by unfold QB; rw [ht]; exact ⟨hW, trivial⟩⟩, hS.F ht⟩) hS.2.2 dX10_setQuota_62 hlk)
      · replace hf := ifF c10 hf
        exact L17 S2 _ _ _ hf hW hS (lv_sub hl [] rfl)
set_option maxHeartbeats 4000000 in
set_option maxRecDepth 100000 in
theorem c_X8_dueDay (l : Launch) (g : GP) (ad : Nat → Nat) (n : Nat) (K : Nat → Nat) (sz F : Nat) (S0 : St) (p0 : Nat) (p1 : Int32) (p2 : Int32) (p3 : Int32) (tp0 : p0 < n ∧ K p0 = 7) (r9 : Int32) (S9 : St) (hf : f_X8_dueDay F S0 p0 p1 p2 p3 = some (r9, S9)) : Met l yX8_dueDay wsX8_dueDay { frames := 2, cells := 0, slots := 0, locals := 43 } (va_Pc [.ref (ad p0), .int p1, .int p2, .int p3] (PB g ad n K S0 sz)) (QR (some (.int r9)) (QB g ad n K S9 (dA ad n sz) (True)) (dA ad n sz)) 0 0 (dA ad n sz) := by
  refine Met.ofW (cc := cX8_dueDay) (maxL := 6) (ret := (some .int)) (by decide) rfl ?_
  intro p e s m args below meth c s₁ B hml hv
  obtain ⟨rfl, hsz, hW, hK, hGs⟩ := x_start hv
  subst hsz
  have hx := B.exec
  have hb := B.bytes
  have hr := B.returns
  have hts := atoms_spec (ws := wsX8_dueDay) B.pre
  have hown : s.vm.findClass RX8 = some m.cls := findClass_of_methodNamed B.named
  have hlk := B.notSynchronized
  have hC : Cx g p s m _ c cX8_dueDay RX8 wsX8_dueDay 6 := ⟨hx, hb, hml, hown, hts, hK⟩
  have hA : ∀ q : Nat, s.heap.size ≤ q → dA ad n s.heap.size q := fun q h => Or.inr h
  have hS : va_S (dA ad n s.heap.size) s.heap s.heap [] := va_S.rf
  have hl := lv_entry ([.ref (ad p0), .int p1, .int p2, .int p3]) (n := 6) (Nat.le_of_ble_eq_true rfl)
  rw [lg_entry_eq]
  generalize (lg_sl ([.ref (ad p0), .int p1, .int p2, .int p3]) ++ List.replicate (6 - (lg_sl ([.ref (ad p0), .int p1, .int p2, .int p3])).length) Slot.unset).toArray = ls at hl ⊢
  have hl : lv_has ls 6 [(0, .ref (ad p0)), (1, .int p1), (2, .int p2), (3, .int p3)] := hl
  have hin7 : ∀ w ∈ wsX70, w ∈ wsX8_dueDay := by decide +kernel
  have hin8 : ∀ w ∈ wsX80, w ∈ wsX8_dueDay := by decide +kernel
  have w_0 := hts (.fieldLink RX8 9 "MailSpool$Spool" "rules" "LMailSpool$Rules;") (by decide +kernel)
  have w_1 := va_Nw.use (A := (List.toArray [.ref (ad p0), .int p1, .int p2, .int p3])) rfl (hGs.1 (.fieldLinkNest RX8 148 "MailSpool$Rules" "classDays" "[I" "MailSpool") (by decide +kernel))
  have w_2 := va_Nw.use (A := (List.toArray [.ref (ad p0), .int p1, .int p2, .int p3])) rfl (hGs.1 (.methodLinkNest RX8 112 yX10_at "MailSpool") (by decide +kernel))
  have w_3 := hts (.initialized RX10) (by decide +kernel)
  have w_4 := hts (.static yX10_at) (by decide +kernel)
  have w_5 := hts (.constant RX8 51 (1000000000)) (by decide +kernel)
  have w_6 := va_Nw.use (A := (List.toArray [.ref (ad p0), .int p1, .int p2, .int p3])) rfl (hGs.1 (.fieldLinkNest RX8 142 "MailSpool$Rules" "classKeep" "[I" "MailSpool") (by decide +kernel))
  have w_7 := hts (.fieldLink RX8 66 "MailSpool$Spool" "day" "I") (by decide +kernel)
  have w_8 := hts (.fieldLink RX8 31 "MailSpool$Spool" "entered" "[I") (by decide +kernel)
  have w_9 := hts (.methodLink RX8 151 Lib.Math.max.name) (by decide +kernel)
  have w_10 := hts (.static Lib.Math.max.name) (by decide +kernel)
  have w_11 := hts (.initialized "java/lang/Math") (by decide +kernel)
  have w_12 := hts (.code Lib.Math.max.name Lib.Math.max.code 2 (some .int)) (by decide +kernel)
  have hGE := hGs.2.2.2.2.2.2.1
  have hGM := hGs.2.2.2.2.2.2.2.1
  unfold f_X8_dueDay at hf
  refine lv_aload_n hx hb dX8_dueDay_0 rfl (lv_at hl 0 rfl) ?_
  refine lv_iload_n hx hb dX8_dueDay_1 rfl (lv_at hl 1 rfl) ?_
  refine lv_iload_n hx hb dX8_dueDay_2 rfl (lv_at hl 2 rfl) ?_
  replace hf := obE hf
  obtain ⟨z1, hz1, hf⟩ := hf
  obtain ⟨r3, S2⟩ := z1
  replace hf := ltE (ltE hf r3 rfl) S2 rfl
  refine x_callV (As := [.int p1, .int p2]) (rest := []) (o := (some (.int r3))) (S1 := S2) hC hl.1 hW hS hGs hA tp0 rfl (show vwCl[7]? = some (RX8, TX8, 16) ∧ 7 < 11 from ⟨rfl, by decide⟩) (c_X8_retentionOf l g ad n K s.heap.size F S0 p0 p1 p2 tp0 r3 S2 hz1) (cwV 2 hts gX8_dueDay_X8_retentionOf rfl rfl rfl (by decide +kernel) ⟨Nat.le_of_ble_eq_true rfl, Nat.le_of_ble_eq_true rfl⟩) rfl rfl (Nat.le_of_ble_eq_true rfl) dX8_dueDay_3 ⟨Nat.le_of_ble_eq_true rfl, Nat.le_of_ble_eq_true rfl⟩ (fun H locs hPz1 hW hS => ?_)
  refine W.eq (g2 := F0 m 6 ls [.int r3]) rfl ?_
  refine lv_istore (lv' := [(4, .int r3), (0, .ref (ad p0)), (1, .int p1), (2, .int p2), (3, .int p3)]) hx hb dX8_dueDay_6 hl (by decide) rfl (fun ls hl => ?_)
  refine lv_aload_n hx hb dX8_dueDay_8 rfl (lv_at hl 1 rfl) ?_
  replace hf := obE hf
  obtain ⟨j5, qj5, hf⟩ := hf
  have tj5 := x_rt hW qj5 6 ⟨by decide, rfl⟩
  refine x_getr 700 (ci := 7) (C := RX8) (T := TX8) (N := 16) 0 hC hin8 hW tp0 rfl rfl ⟨by decide, by decide, rfl, rfl⟩ rfl w_0 dX8_dueDay_9 qj5 ?_
  replace hf := obE hf
  obtain ⟨j6, qj6, hf⟩ := hf
  have tj6 := x_rt hW qj6 12 ⟨by decide, rfl⟩
  refine x_getrN 603 (ci := 6) (C := RX7) (T := TX7) (N := 16) 3 hC hin7 hW tj5 rfl rfl ⟨by decide, by decide, rfl, rfl⟩ rfl w_1 dX8_dueDay_12 qj6 ?_
  refine lv_iload hx hb dX8_dueDay_15 (lv_at hl 0 rfl) ?_
  replace hf := obE hf
  obtain ⟨z7, hz7, hf⟩ := hf
  obtain ⟨r9, S8⟩ := z7
  replace hf := ltE (ltE hf r9 rfl) S8 rfl
  refine x_callSN (As := [.ref (ad j6), .int r3]) (rest := []) (o := (some (.int r9))) (S1 := S8) hC hl.1 hW hS hGs hA (c_X10_at l g ad n K H.size F S2 j6 r3 tj6 r9 S8 hz7) ⟨va_cnB 2 hts gX8_dueDay_X10_at_n112 rfl rfl rfl (va_Nw.of rfl w_2) w_3 (by decide +kernel) ⟨Nat.le_of_ble_eq_true rfl, Nat.le_of_ble_eq_true rfl⟩, w_4, trivial⟩ rfl rfl (Nat.le_of_ble_eq_true rfl) dX8_dueDay_17 ⟨Nat.le_of_ble_eq_true rfl, Nat.le_of_ble_eq_true rfl⟩ (fun H locs hPz7 hW hS => ?_)
  refine W.eq (g2 := F0 m 20 ls [.int r9]) rfl ?_
  refine lv_istore (lv' := [(5, .int r9), (4, .int r3), (0, .ref (ad p0)), (1, .int p1), (2, .int p2), (3, .int p3)]) hx hb dX8_dueDay_20 hl (by decide) rfl (fun ls hl => ?_)
  refine lv_iload hx hb dX8_dueDay_22 (lv_at hl 0 rfl) ?_
  refine lv_iconst (v := -1) hx hb dX8_dueDay_24 (by decide) ?_
  refine lv_icmp_eq (tgt := 44) hx hb dX8_dueDay_25 (by decide) (fun c11 => ?_) (fun c11 => ?_)
  · replace hf := ifT c11 hf
    refine lv_ldc (v := 1000000000) hx hb hown w_5 dX8_dueDay_44 ?_
    obtain ⟨e1, e2⟩ := so2 hf
    subst e1
    subst e2
    exact W.iret (v := 1000000000) hx hb hr (fun t ht hWm => ⟨⟨rfl, by unfold QB; rw [ht]; exact ⟨hW, trivial⟩⟩, hS.F ht⟩) hS.2.2 dX8_dueDay_46 hlk
  · replace hf := ifF c11 hf
    refine lv_iload_n hx hb dX8_dueDay_28 rfl (lv_at hl 5 rfl) ?_
    refine lv_aload_n hx hb dX8_dueDay_29 rfl (lv_at hl 2 rfl) ?_
    replace hf := obE hf
    obtain ⟨j12, qj12, hf⟩ := hf
    have tj12 := x_rt hW qj12 6 ⟨by decide, rfl⟩
    refine x_getr 700 (ci := 7) (C := RX8) (T := TX8) (N := 16) 0 hC hin8 hW tp0 rfl rfl ⟨by decide, by decide, rfl, rfl⟩ rfl w_0 dX8_dueDay_30 qj12 ?_
    replace hf := obE hf
    obtain ⟨j13, qj13, hf⟩ := hf
    have tj13 := x_rt hW qj13 12 ⟨by decide, rfl⟩
    refine x_getrN 604 (ci := 6) (C := RX7) (T := TX7) (N := 16) 4 hC hin7 hW tj12 rfl rfl ⟨by decide, by decide, rfl, rfl⟩ rfl w_6 dX8_dueDay_33 qj13 ?_
    refine lv_iload hx hb dX8_dueDay_36 (lv_at hl 1 rfl) ?_
    replace hf := obE hf
    obtain ⟨z14, hz14, hf⟩ := hf
    obtain ⟨r16, S15⟩ := z14
    replace hf := ltE (ltE hf r16 rfl) S15 rfl
    refine x_callSN (As := [.ref (ad j13), .int r3]) (rest := [.int p3]) (o := (some (.int r16))) (S1 := S15) hC hl.1 hW hS hGs hA (c_X10_at l g ad n K H.size F S8 j13 r3 tj13 r16 S15 hz14) ⟨va_cnB 2 hts gX8_dueDay_X10_at_n112 rfl rfl rfl (va_Nw.of rfl w_2) w_3 (by decide +kernel) ⟨Nat.le_of_ble_eq_true rfl, Nat.le_of_ble_eq_true rfl⟩, w_4, trivial⟩ rfl rfl (Nat.le_of_ble_eq_true rfl) dX8_dueDay_38 ⟨Nat.le_of_ble_eq_true rfl, Nat.le_of_ble_eq_true rfl⟩ (fun H locs hPz14 hW hS => ?_)
    refine W.eq (g2 := F0 m 41 ls [.int r16, .int p3]) rfl ?_
    refine lv_icmp_ge (tgt := 47) hx hb dX8_dueDay_41 (by decide) (fun c18 => ?_) (fun c18 => ?_)
    · replace hf := ifT c18 hf
      refine lv_aload_n hx hb dX8_dueDay_47 rfl (lv_at hl 2 rfl) ?_
      refine x_geti 701 (ci := 7) (C := RX8) (T := TX8) (N := 16) 1 hC hin8 hW tp0 rfl rfl ⟨by decide, by decide, rfl, rfl⟩ rfl w_7 dX8_dueDay_48 ?_
      refine lv_iconst (v := 1) hx hb dX8_dueDay_51 (by decide) ?_
      refine lv_iadd hx hb dX8_dueDay_52 ?_
      refine lv_aload_n hx hb dX8_dueDay_53 rfl (lv_at hl 2 rfl) ?_
      replace hf := obE hf
      obtain ⟨j19, qj19, hf⟩ := hf
      have tj19 := x_rt hW qj19 12 ⟨by decide, rfl⟩
      refine x_getr 709 (ci := 7) (C := RX8) (T := TX8) (N := 16) 9 hC hin8 hW tp0 rfl rfl ⟨by decide, by decide, rfl, rfl⟩ rfl w_8 dX8_dueDay_54 qj19 ?_
      refine lv_iload_n hx hb dX8_dueDay_57 rfl (lv_at hl 3 rfl) ?_
      refine lv_bipush (v := 10) hx hb dX8_dueDay_58 (by decide) ?_
      refine lv_imul hx hb dX8_dueDay_60 ?_
      refine lv_iload_n hx hb dX8_dueDay_61 rfl (lv_at hl 4 rfl) ?_
      refine lv_iadd hx hb dX8_dueDay_62 ?_
      replace hf := obE hf
      obtain ⟨z20, hz20, hf⟩ := hf
      obtain ⟨r22, S21⟩ := z20
      replace hf := ltE (ltE hf r22 rfl) S21 rfl
      refine x_callSN (As := [.ref (ad j19), .int ((p1 * 10) + p2)]) (rest := [.int ((si S15 701 p0) + 1)]) (o := (some (.int r22))) (S1 := S21) hC hl.1 hW hS hGs hA (c_X10_at l g ad n K H.size F S15 j19 ((p1 * 10) + p2) tj19 r22 S21 hz20) ⟨va_cnB 2 hts gX8_dueDay_X10_at_n112 rfl rfl rfl (va_Nw.of rfl w_2) w_3 (by decide +kernel) ⟨Nat.le_of_ble_eq_true rfl, Nat.le_of_ble_eq_true rfl⟩, w_4, trivial⟩ rfl rfl (Nat.le_of_ble_eq_true rfl) dX8_dueDay_63 ⟨Nat.le_of_ble_eq_true rfl, Nat.le_of_ble_eq_true rfl⟩ (fun H locs hPz20 hW hS => ?_)
      refine W.eq (g2 := F0 m 66 ls [.int r22, .int ((si S15 701 p0) + 1)]) rfl ?_
      refine lv_iload hx hb dX8_dueDay_66 (lv_at hl 0 rfl) ?_
      refine lv_iadd hx hb dX8_dueDay_68 ?_
      refine va_mmax hx hb (hml.trans hl.1.symm) hown w_9 w_10 w_11 w_12 (Nat.le_of_ble_eq_true rfl) (Nat.le_of_ble_eq_true rfl) (Nat.zero_le _) (Nat.zero_le _) dX8_dueDay_69 ?_
      obtain ⟨e1, e2⟩ := so2 hf
      subst e1
      subst e2
      exact W.iret (v := if ((si S15 701 p0) + 1) < (r22 + r9) then (r22 + r9) else ((si S15 701 p0) + 1)) hx hb hr (fun t ht hWm => ⟨⟨rfl, by unfold QB; rw [ht]; exact ⟨hW, trivial⟩⟩, hS.F ht⟩) hS.2.2 dX8_dueDay_72 hlk
    · replace hf := ifF c18 hf
      refine lv_ldc (v := 1000000000) hx hb hown w_5 dX8_dueDay_44 ?_
      obtain ⟨e1, e2⟩ := so2 hf
      subst e1
      subst e2
      exact W.iret (v := 1000000000) hx hb hr (fun t ht hWm => ⟨⟨rfl, by unfold QB; rw [ht]; exact ⟨hW, trivial⟩⟩, hS.F ht⟩) hS.2.2 dX8_dueDay_46 hlk
set_option maxHeartbeats 4000000 in
set_option maxRecDepth 100000 in
theorem c_X8_planLeavingOf (l : Launch) (g : GP) (ad : Nat → Nat) (n : Nat) (K : Nat → Nat) (sz F : Nat) (S0 : St) (p0 : Nat) (p1 : Int32) (tp0 : p0 < n ∧ K p0 = 7) (S9 : St) (hf : f_X8_planLeavingOf F S0 p0 p1 = some S9) : Met l yX8_planLeavingOf wsX8_planLeavingOf { frames := 3, cells := 0, slots := 0, locals := 68 } (va_Pc [.ref (ad p0), .int p1] (PB g ad n K S0 sz)) (QR none (QB g ad n K S9 (dA ad n sz) (True)) (dA ad n sz)) 0 0 (dA ad n sz) := by
  refine Met.ofW (cc := cX8_planLeavingOf) (maxL := 5) (ret := none) (by decide) rfl ?_
  intro p e s m args below meth c s₁ B hml hv
  obtain ⟨rfl, hsz, hW, hK, hGs⟩ := x_start hv
  subst hsz
  have hx := B.exec
  have hb := B.bytes
  have hr := B.returns
  have hts := atoms_spec (ws := wsX8_planLeavingOf) B.pre
  have hown : s.vm.findClass RX8 = some m.cls := findClass_of_methodNamed B.named
  have hlk := B.notSynchronized
  have hC : Cx g p s m _ c cX8_planLeavingOf RX8 wsX8_planLeavingOf 5 := ⟨hx, hb, hml, hown, hts, hK⟩
  have hA : ∀ q : Nat, s.heap.size ≤ q → dA ad n s.heap.size q := fun q h => Or.inr h
  have hS : va_S (dA ad n s.heap.size) s.heap s.heap [] := va_S.rf
  have hl := lv_entry ([.ref (ad p0), .int p1]) (n := 5) (Nat.le_of_ble_eq_true rfl)
  rw [lg_entry_eq]
  generalize (lg_sl ([.ref (ad p0), .int p1]) ++ List.replicate (5 - (lg_sl ([.ref (ad p0), .int p1])).length) Slot.unset).toArray = ls at hl ⊢
  have hl : lv_has ls 5 [(0, .ref (ad p0)), (1, .int p1)] := hl
  have hin8 : ∀ w ∈ wsX80, w ∈ wsX8_planLeavingOf := by decide +kernel
  have w_0 := hts (.fieldLink RX8 48 "MailSpool$Spool" "leaves" "[I") (by decide +kernel)
  have w_1 := va_Nw.use (A := (List.toArray [.ref (ad p0), .int p1])) rfl (hGs.1 (.methodLinkNest RX8 181 yX10_put "MailSpool") (by decide +kernel))
  have w_2 := hts (.initialized RX10) (by decide +kernel)
  have w_3 := hts (.static yX10_put) (by decide +kernel)
  have w_4 := hts (.fieldLink RX8 52 "MailSpool$Spool" "leavingDay" "I") (by decide +kernel)
  have w_5 := hts (.methodLink RX8 270 Lib.Math.min.name) (by decide +kernel)
  have w_6 := hts (.static Lib.Math.min.name) (by decide +kernel)
  have w_7 := hts (.initialized "java/lang/Math") (by decide +kernel)
  have w_8 := hts (.code Lib.Math.min.name Lib.Math.min.code 2 (some .int)) (by decide +kernel)
  have w_9 := hts (.constant RX8 51 (1000000000)) (by decide +kernel)
  have w_10 := hts (.fieldLink RX8 56 "MailSpool$Spool" "newer" "[I") (by decide +kernel)
  have w_11 := va_Nw.use (A := (List.toArray [.ref (ad p0), .int p1])) rfl (hGs.1 (.methodLinkNest RX8 112 yX10_at "MailSpool") (by decide +kernel))
  have w_12 := hts (.static yX10_at) (by decide +kernel)
  have w_13 := hts (.fieldLink RX8 88 "MailSpool$Spool" "messageCount" "I") (by decide +kernel)
  have hGE := hGs.2.2.2.2.2.2.1
  have hGM := hGs.2.2.2.2.2.2.2.1
  have L15 : ∀ (fu15 : Nat) (S0 : St) (v0 : Nat) (v1 : Int32) (v2 : Int32) (tv0 : v0 < n ∧ K v0 = 7) (H : Heap) (locs : List Loc) (ls : Array Slot), f_X8_planLeavingOf_L15 F fu15 S0 v0 v1 v2 = some S9 → Wb g ad n K S0 (dA ad n s.heap.size) H → va_S (dA ad n s.heap.size) s.heap H locs → lv_has ls 5 [(0, .ref (ad v0)), (1, .int v1), (2, .int v2)] → W p l e (headSpec wsX8_planLeavingOf { frames := 3, cells := 0, slots := 0, locals := 68 }).room s m (List.toArray [.ref (ad p0), .int p1]) below meth c H locs 0 0 (MQ below (QR none (QB g ad n K S9 (dA ad n s.heap.size) (True)) (dA ad n s.heap.size)) (List.toArray [.ref (ad p0), .int p1]) s 0 0 (dA ad n s.heap.size)) (F0 m 15 ls []) := by
    intro fu15
    induction fu15 with
    | zero =>
      intro S0 v0 v1 v2 tv0 H locs ls hf
      cases hf
    | succ fu15 ih15 =>
      have L75 : ∀ (S0 : St) (v0 : Nat) (v1 : Int32) (v2 : Int32) (v3 : Int32) (tv0 : v0 < n ∧ K v0 = 7) (H : Heap) (locs : List Loc) (ls : Array Slot), f_X8_planLeavingOf_L75 F (fun a0 a1 a2 a3 => f_X8_planLeavingOf_L15 F fu15 a0 a1 a2 a3) S0 v0 v1 v2 v3 = some S9 → Wb g ad n K S0 (dA ad n s.heap.size) H → va_S (dA ad n s.heap.size) s.heap H locs → lv_has ls 5 [(0, .ref (ad v0)), (1, .int v1), (2, .int v2), (3, .int v3)] → W p l e (headSpec wsX8_planLeavingOf { frames := 3, cells := 0, slots := 0, locals := 68 }).room s m (List.toArray [.ref (ad p0), .int p1]) below meth c H locs 0 0 (MQ below (QR none (QB g ad n K S9 (dA ad n s.heap.size) (True)) (dA ad n s.heap.size)) (List.toArray [.ref (ad p0), .int p1]) s 0 0 (dA ad n s.heap.size)) (F0 m 75 ls []) := by
        intro S0 v0 v1 v2 v3 tv0 H locs ls hf hW hS hl
        unfold f_X8_planLeavingOf_L75 at hf
        refine lv_aload_n hx hb dX8_planLeavingOf_75 rfl (lv_at hl 0 rfl) ?_
        replace hf := obE hf
        obtain ⟨j8, qj8, hf⟩ := hf
        have tj8 := x_rt hW qj8 12 ⟨by decide, rfl⟩
        refine x_getr 712 (ci := 7) (C := RX8) (T := TX8) (N := 16) 12 hC hin8 hW tv0 rfl rfl ⟨by decide, by decide, rfl, rfl⟩ rfl w_0 dX8_planLeavingOf_76 qj8 ?_
        refine lv_iload_n hx hb dX8_planLeavingOf_79 rfl (lv_at hl 2 rfl) ?_
        refine lv_bipush (v := 10) hx hb dX8_planLeavingOf_80 (by decide) ?_
        refine lv_imul hx hb dX8_planLeavingOf_82 ?_
        refine lv_iload_n hx hb dX8_planLeavingOf_83 rfl (lv_at hl 1 rfl) ?_
        refine lv_iadd hx hb dX8_planLeavingOf_84 ?_
        refine lv_iload_n hx hb dX8_planLeavingOf_85 rfl (lv_at hl 3 rfl) ?_
        replace hf := obE hf
        obtain ⟨S10, hz9, hf⟩ := hf
        refine x_callSN (As := [.ref (ad j8), .int ((v2 * 10) + v1), .int v3]) (rest := []) (o := none) (S1 := S10) hC hl.1 hW hS hGs hA (c_X10_put l g ad n K H.size F S0 j8 ((v2 * 10) + v1) v3 tj8 S10 hz9) ⟨va_cnB 3 hts gX8_planLeavingOf_X10_put_n181 rfl rfl rfl (va_Nw.of rfl w_1) w_2 (by decide +kernel) ⟨Nat.le_of_ble_eq_true rfl, Nat.le_of_ble_eq_true rfl⟩, w_3, trivial⟩ rfl rfl (Nat.le_of_ble_eq_true rfl) dX8_planLeavingOf_86 ⟨Nat.le_of_ble_eq_true rfl, Nat.le_of_ble_eq_true rfl⟩ (fun H locs hPz9 hW hS => ?_)
        refine W.eq (g2 := F0 m 89 ls []) rfl ?_
        refine lv_aload_n hx hb dX8_planLeavingOf_89 rfl (lv_at hl 0 rfl) ?_
        refine lv_aload_n hx hb dX8_planLeavingOf_90 rfl (lv_at hl 0 rfl) ?_
        refine x_geti 713 (ci := 7) (C := RX8) (T := TX8) (N := 16) 13 hC hin8 hW tv0 rfl rfl ⟨by decide, by decide, rfl, rfl⟩ rfl w_4 dX8_planLeavingOf_91 ?_
        refine lv_iload_n hx hb dX8_planLeavingOf_94 rfl (lv_at hl 3 rfl) ?_
        refine va_mmin hx hb (hml.trans hl.1.symm) hown w_5 w_6 w_7 w_8 (Nat.le_of_ble_eq_true rfl) (Nat.le_of_ble_eq_true rfl) (Nat.zero_le _) (Nat.zero_le _) dX8_planLeavingOf_95 ?_
        refine x_puti 713 (ci := 7) (C := RX8) (T := TX8) (N := 16) (v := if v3 < (si S10 713 v0) then v3 else (si S10 713 v0)) (ty := .int) 13 hC hin8 tyX8_ok nmX8 hW hS tv0 rfl rfl ⟨by decide, by decide, rfl, rfl⟩ rfl w_4 rfl (by decide +kernel) rfl rfl dX8_planLeavingOf_98 (fun S13 H locs eS13 hW hS => ?_)
        replace hf := ltE hf S13 eS13
        obtain ⟨x14, ex14⟩ : ∃ z : Int32, z = v2 + (-1) := ⟨_, rfl⟩
        replace hf := ltE hf x14 ex14
        refine lv_iinc (v := x14) (lv' := [(2, .int x14), (0, .ref (ad v0)), (1, .int v1), (3, .int v3)]) hx hb dX8_planLeavingOf_101 hl (k := 2) rfl (by rw [ex14]; rfl) (by decide) rfl (fun ls hl => ?_)
        refine lv_goto (tgt := 15) hx hb dX8_planLeavingOf_104 (by decide) ?_
        exact ih15 S13 v0 v1 x14 tv0 _ _ _ hf hW hS (lv_sub hl [1, 2, 0] rfl)
      intro S0 v0 v1 v2 tv0 H locs ls hf hW hS hl
      unfold f_X8_planLeavingOf_L15 at hf
      refine lv_iload_n hx hb dX8_planLeavingOf_15 rfl (lv_at hl 2 rfl) ?_
      refine lv_if_lt (tgt := 107) hx hb dX8_planLeavingOf_16 (by decide) (fun c44 => ?_) (fun c44 => ?_)
      · replace hf := ifT c44 hf
        have e1 := Option.some.inj hf
        subst e1
        exact W.vret hx hb hr (fun t ht hWm => ⟨⟨rfl, by unfold QB; rw [ht]; exact ⟨hW, trivial⟩⟩, hS.F ht⟩) hS.2.2 dX8_planLeavingOf_107 hlk
      · replace hf := ifF c44 hf
        refine lv_ldc (v := 1000000000) hx hb hown w_9 dX8_planLeavingOf_19 ?_
        refine lv_istore_n (lv' := [(3, .int 1000000000), (0, .ref (ad v0)), (1, .int v1), (2, .int v2)]) hx hb dX8_planLeavingOf_21 rfl hl (by decide) rfl (fun ls hl => ?_)
        refine lv_aload_n hx hb dX8_planLeavingOf_22 rfl (lv_at hl 1 rfl) ?_
        refine lv_iload_n hx hb dX8_planLeavingOf_23 rfl (lv_at hl 3 rfl) ?_
        refine lv_iload_n hx hb dX8_planLeavingOf_24 rfl (lv_at hl 2 rfl) ?_
        replace hf := obE hf
        obtain ⟨z45, hz45, hf⟩ := hf
        obtain ⟨r47, S46⟩ := z45
        replace hf := ltE (ltE hf r47 rfl) S46 rfl
        refine x_callV (As := [.int v2, .int v1]) (rest := []) (o := (some (.int r47))) (S1 := S46) hC hl.1 hW hS hGs hA tv0 rfl (show vwCl[7]? = some (RX8, TX8, 16) ∧ 7 < 11 from ⟨rfl, by decide⟩) (c_X8_stateOf l g ad n K H.size F S0 v0 v2 v1 tv0 r47 S46 hz45) (cwV 2 hts gX8_planLeavingOf_X8_stateOf rfl rfl rfl (by decide +kernel) ⟨Nat.le_of_ble_eq_true rfl, Nat.le_of_ble_eq_true rfl⟩) rfl rfl (Nat.le_of_ble_eq_true rfl) dX8_planLeavingOf_25 ⟨Nat.le_of_ble_eq_true rfl, Nat.le_of_ble_eq_true rfl⟩ (fun H locs hPz45 hW hS => ?_)
        refine W.eq (g2 := F0 m 28 ls [.int r47]) rfl ?_
        refine lv_if_ne (tgt := 75) hx hb dX8_planLeavingOf_28 (by decide) (fun c49 => ?_) (fun c49 => ?_)
        · replace hf := ifT c49 hf
          exact L75 S46 v0 v1 v2 1000000000 tv0 _ _ _ hf hW hS (lv_sub hl [1, 2, 3, 0] rfl)
        · replace hf := ifF (fun q => q c49) hf
          refine lv_aload_n hx hb dX8_planLeavingOf_31 rfl (lv_at hl 1 rfl) ?_
          refine lv_iload_n hx hb dX8_planLeavingOf_32 rfl (lv_at hl 3 rfl) ?_
          refine lv_iload_n hx hb dX8_planLeavingOf_33 rfl (lv_at hl 2 rfl) ?_
          replace hf := obE hf
          obtain ⟨z50, hz50, hf⟩ := hf
          obtain ⟨r52, S51⟩ := z50
          replace hf := ltE (ltE hf r52 rfl) S51 rfl
          refine x_callV (As := [.int v2, .int v1]) (rest := []) (o := (some (.int r52))) (S1 := S51) hC hl.1 hW hS hGs hA tv0 rfl (show vwCl[7]? = some (RX8, TX8, 16) ∧ 7 < 11 from ⟨rfl, by decide⟩) (c_X8_retentionOf l g ad n K H.size F S46 v0 v2 v1 tv0 r52 S51 hz50) (cwV 2 hts gX8_planLeavingOf_X8_retentionOf rfl rfl rfl (by decide +kernel) ⟨Nat.le_of_ble_eq_true rfl, Nat.le_of_ble_eq_true rfl⟩) rfl rfl (Nat.le_of_ble_eq_true rfl) dX8_planLeavingOf_34 ⟨Nat.le_of_ble_eq_true rfl, Nat.le_of_ble_eq_true rfl⟩ (fun H locs hPz50 hW hS => ?_)
          refine W.eq (g2 := F0 m 37 ls [.int r52]) rfl ?_
          refine lv_istore (lv' := [(4, .int r52), (3, .int 1000000000), (0, .ref (ad v0)), (1, .int v1), (2, .int v2)]) hx hb dX8_planLeavingOf_37 hl (by decide) rfl (fun ls hl => ?_)
          refine lv_aload_n hx hb dX8_planLeavingOf_39 rfl (lv_at hl 2 rfl) ?_
          refine lv_iload_n hx hb dX8_planLeavingOf_40 rfl (lv_at hl 4 rfl) ?_
          refine lv_iload_n hx hb dX8_planLeavingOf_41 rfl (lv_at hl 3 rfl) ?_
          refine lv_aload_n hx hb dX8_planLeavingOf_42 rfl (lv_at hl 2 rfl) ?_
          replace hf := obE hf
          obtain ⟨j54, qj54, hf⟩ := hf
          have tj54 := x_rt hW qj54 12 ⟨by decide, rfl⟩
          refine x_getr 714 (ci := 7) (C := RX8) (T := TX8) (N := 16) 14 hC hin8 hW tv0 rfl rfl ⟨by decide, by decide, rfl, rfl⟩ rfl w_10 dX8_planLeavingOf_43 qj54 ?_
          refine lv_iload hx hb dX8_planLeavingOf_46 (lv_at hl 0 rfl) ?_
          replace hf := obE hf
          obtain ⟨z55, hz55, hf⟩ := hf
          obtain ⟨r57, S56⟩ := z55
          replace hf := ltE (ltE hf r57 rfl) S56 rfl
          refine x_callSN (As := [.ref (ad j54), .int r52]) (rest := [.int v1, .int v2, .ref (ad v0)]) (o := (some (.int r57))) (S1 := S56) hC hl.1 hW hS hGs hA (c_X10_at l g ad n K H.size F S51 j54 r52 tj54 r57 S56 hz55) ⟨va_cnB 2 hts gX8_planLeavingOf_X10_at_n112 rfl rfl rfl (va_Nw.of rfl w_11) w_2 (by decide +kernel) ⟨Nat.le_of_ble_eq_true rfl, Nat.le_of_ble_eq_true rfl⟩, w_12, trivial⟩ rfl rfl (Nat.le_of_ble_eq_true rfl) dX8_planLeavingOf_48 ⟨Nat.le_of_ble_eq_true rfl, Nat.le_of_ble_eq_true rfl⟩ (fun H locs hPz55 hW hS => ?_)
          refine W.eq (g2 := F0 m 51 ls [.int r57, .int v1, .int v2, .ref (ad v0)]) rfl ?_
          replace hf := obE hf
          obtain ⟨z59, hz59, hf⟩ := hf
          obtain ⟨r61, S60⟩ := z59
          replace hf := ltE (ltE hf r61 rfl) S60 rfl
          refine x_callV (As := [.int v2, .int v1, .int r57]) (rest := []) (o := (some (.int r61))) (S1 := S60) hC hl.1 hW hS hGs hA tv0 rfl (show vwCl[7]? = some (RX8, TX8, 16) ∧ 7 < 11 from ⟨rfl, by decide⟩) (c_X8_dueDay l g ad n K H.size F S56 v0 v2 v1 r57 tv0 r61 S60 hz59) (cwV 3 hts gX8_planLeavingOf_X8_dueDay rfl rfl rfl (by decide +kernel) ⟨Nat.le_of_ble_eq_true rfl, Nat.le_of_ble_eq_true rfl⟩) rfl rfl (Nat.le_of_ble_eq_true rfl) dX8_planLeavingOf_51 ⟨Nat.le_of_ble_eq_true rfl, Nat.le_of_ble_eq_true rfl⟩ (fun H locs hPz59 hW hS => ?_)
          refine W.eq (g2 := F0 m 54 ls [.int r61]) rfl ?_
          refine lv_istore_n (lv' := [(3, .int r61), (4, .int r52), (0, .ref (ad v0)), (1, .int v1), (2, .int v2)]) hx hb dX8_planLeavingOf_54 rfl hl (by decide) rfl (fun ls hl => ?_)
          refine lv_aload_n hx hb dX8_planLeavingOf_55 rfl (lv_at hl 2 rfl) ?_
          replace hf := obE hf
          obtain ⟨j63, qj63, hf⟩ := hf
          have tj63 := x_rt hW qj63 12 ⟨by decide, rfl⟩
          refine x_getr 714 (ci := 7) (C := RX8) (T := TX8) (N := 16) 14 hC hin8 hW tv0 rfl rfl ⟨by decide, by decide, rfl, rfl⟩ rfl w_10 dX8_planLeavingOf_56 qj63 ?_
          refine lv_iload hx hb dX8_planLeavingOf_59 (lv_at hl 1 rfl) ?_
          refine lv_aload_n hx hb dX8_planLeavingOf_61 rfl (lv_at hl 2 rfl) ?_
          replace hf := obE hf
          obtain ⟨j64, qj64, hf⟩ := hf
          have tj64 := x_rt hW qj64 12 ⟨by decide, rfl⟩
          refine x_getr 714 (ci := 7) (C := RX8) (T := TX8) (N := 16) 14 hC hin8 hW tv0 rfl rfl ⟨by decide, by decide, rfl, rfl⟩ rfl w_10 dX8_planLeavingOf_62 qj64 ?_
          refine lv_iload hx hb dX8_planLeavingOf_65 (lv_at hl 1 rfl) ?_
          replace hf := obE hf
          obtain ⟨z65, hz65, hf⟩ := hf
          obtain ⟨r67, S66⟩ := z65
          replace hf := ltE (ltE hf r67 rfl) S66 rfl
          refine x_callSN (As := [.ref (ad j64), .int r52]) (rest := [.int r52, .ref (ad j63)]) (o := (some (.int r67))) (S1 := S66) hC hl.1 hW hS hGs hA (c_X10_at l g ad n K H.size F S60 j64 r52 tj64 r67 S66 hz65) ⟨va_cnB 2 hts gX8_planLeavingOf_X10_at_n112 rfl rfl rfl (va_Nw.of rfl w_11) w_2 (by decide +kernel) ⟨Nat.le_of_ble_eq_true rfl, Nat.le_of_ble_eq_true rfl⟩, w_12, trivial⟩ rfl rfl (Nat.le_of_ble_eq_true rfl) dX8_planLeavingOf_67 ⟨Nat.le_of_ble_eq_true rfl, Nat.le_of_ble_eq_true rfl⟩ (fun H locs hPz65 hW hS => ?_)
          refine W.eq (g2 := F0 m 70 ls [.int r67, .int r52, .ref (ad j63)]) rfl ?_
          refine lv_iconst (v := 1) hx hb dX8_planLeavingOf_70 (by decide) ?_
          refine lv_iadd hx hb dX8_planLeavingOf_71 ?_
          replace hf := obE hf
          obtain ⟨S70, hz69, hf⟩ := hf
          refine x_callSN (As := [.ref (ad j63), .int r52, .int (r67 + 1)]) (rest := []) (o := none) (S1 := S70) hC hl.1 hW hS hGs hA (c_X10_put l g ad n K H.size F S66 j63 r52 (r67 + 1) tj63 S70 hz69) ⟨va_cnB 3 hts gX8_planLeavingOf_X10_put_n181 rfl rfl rfl (va_Nw.of rfl w_1) w_2 (by decide +kernel) ⟨Nat.le_of_ble_eq_true rfl, Nat.le_of_ble_eq_true rfl⟩, w_3, trivial⟩ rfl rfl (Nat.le_of_ble_eq_true rfl) dX8_planLeavingOf_72 ⟨Nat.le_of_ble_eq_true rfl, Nat.le_of_ble_eq_true rfl⟩ (fun H locs hPz69 hW hS => ?_)
          refine W.eq (g2 := F0 m 75 ls []) rfl ?_
          exact L75 S70 v0 v1 v2 r61 tv0 _ _ _ hf hW hS (lv_sub hl [2, 3, 4, 0] rfl)
  unfold f_X8_planLeavingOf at hf
  refine lv_aload_n hx hb dX8_planLeavingOf_0 rfl (lv_at hl 0 rfl) ?_
  replace hf := obE hf
  obtain ⟨j73, qj73, hf⟩ := hf
  have tj73 := x_rt hW qj73 12 ⟨by decide, rfl⟩
  refine x_getr 714 (ci := 7) (C := RX8) (T := TX8) (N := 16) 14 hC hin8 hW tp0 rfl rfl ⟨by decide, by decide, rfl, rfl⟩ rfl w_10 dX8_planLeavingOf_1 qj73 ?_
  refine lv_iconst (v := 0) hx hb dX8_planLeavingOf_4 (by decide) ?_
  replace hf := obE hf
  obtain ⟨S75, hz74, hf⟩ := hf
  refine x_callS (As := [.ref (ad j73), .int 0]) (rest := []) (o := none) (S1 := S75) hC hl.1 hW hS hGs hA (c_J7_fill_53178 l g ad n K s.heap.size F S0 j73 ((0 : Int32)) tj73 S75 hz74) (va_cwS 2 hts gX8_planLeavingOf_J7_fill_53178 rfl rfl rfl (by decide +kernel) ⟨Nat.le_of_ble_eq_true rfl, Nat.le_of_ble_eq_true rfl⟩) rfl rfl (Nat.le_of_ble_eq_true rfl) dX8_planLeavingOf_5 ⟨Nat.le_of_ble_eq_true rfl, Nat.le_of_ble_eq_true rfl⟩ (fun H locs hPz74 hW hS => ?_)
  refine W.eq (g2 := F0 m 8 ls []) rfl ?_
  refine lv_aload_n hx hb dX8_planLeavingOf_8 rfl (lv_at hl 0 rfl) ?_
  refine x_geti 705 (ci := 7) (C := RX8) (T := TX8) (N := 16) 5 hC hin8 hW tp0 rfl rfl ⟨by decide, by decide, rfl, rfl⟩ rfl w_13 dX8_planLeavingOf_9 ?_
  refine lv_iconst (v := 1) hx hb dX8_planLeavingOf_12 (by decide) ?_
  refine lv_isub hx hb dX8_planLeavingOf_13 ?_
  refine lv_topi (fun x78 ex78 => ?_)
  replace hf := ltE hf x78 ex78
  refine lv_istore_n (lv' := [(2, .int x78), (0, .ref (ad p0)), (1, .int p1)]) hx hb dX8_planLeavingOf_14 rfl hl (by decide) rfl (fun ls hl => ?_)
  exact L15 F S75 p0 p1 x78 tp0 _ _ _ hf hW hS (lv_sub hl [1, 2, 0] rfl)
set_option maxHeartbeats 4000000 in
set_option maxRecDepth 100000 in
theorem c_X8_planLeaving (l : Launch) (g : GP) (ad : Nat → Nat) (n : Nat) (K : Nat → Nat) (sz F : Nat) (S0 : St) (p0 : Nat) (tp0 : p0 < n ∧ K p0 = 7) (S9 : St) (hf : f_X8_planLeaving F S0 p0 = some S9) : Met l yX8_planLeaving wsX8_planLeaving { frames := 4, cells := 0, slots := 0, locals := 92 } (va_Pc [.ref (ad p0)] (PB g ad n K S0 sz)) (QR none (QB g ad n K S9 (dA ad n sz) (True)) (dA ad n sz)) 0 0 (dA ad n sz) := by
  refine Met.ofW (cc := cX8_planLeaving) (maxL := 2) (ret := none) (by decide) rfl ?_
  intro p e s m args below meth c s₁ B hml hv
  obtain ⟨rfl, hsz, hW, hK, hGs⟩ := x_start hv
  subst hsz
  have hx := B.exec
  have hb := B.bytes
  have hr := B.returns
  have hts := atoms_spec (ws := wsX8_planLeaving) B.pre
  have hown : s.vm.findClass RX8 = some m.cls := findClass_of_methodNamed B.named
  have hlk := B.notSynchronized
  have hC : Cx g p s m _ c cX8_planLeaving RX8 wsX8_planLeaving 2 := ⟨hx, hb, hml, hown, hts, hK⟩
  have hA : ∀ q : Nat, s.heap.size ≤ q → dA ad n s.heap.size q := fun q h => Or.inr h
  have hS : va_S (dA ad n s.heap.size) s.heap s.heap [] := va_S.rf
  have hl := lv_entry ([.ref (ad p0)]) (n := 2) (Nat.le_of_ble_eq_true rfl)
  rw [lg_entry_eq]
  generalize (lg_sl ([.ref (ad p0)]) ++ List.replicate (2 - (lg_sl ([.ref (ad p0)])).length) Slot.unset).toArray = ls at hl ⊢
  have hl : lv_has ls 2 [(0, .ref (ad p0))] := hl
  have hin5 : ∀ w ∈ wsX50, w ∈ wsX8_planLeaving := by decide +kernel
  have hin7 : ∀ w ∈ wsX70, w ∈ wsX8_planLeaving := by decide +kernel
  have hin8 : ∀ w ∈ wsX80, w ∈ wsX8_planLeaving := by decide +kernel
  have w_0 := hts (.fieldLink RX8 9 "MailSpool$Spool" "rules" "LMailSpool$Rules;") (by decide +kernel)
  have w_1 := va_Nw.use (A := (List.toArray [.ref (ad p0)])) rfl (hGs.1 (.fieldLinkNest RX8 102 "MailSpool$Rules" "users" "LMailSpool$Names;" "MailSpool") (by decide +kernel))
  have w_2 := va_Nw.use (A := (List.toArray [.ref (ad p0)])) rfl (hGs.1 (.fieldLinkNest RX8 120 "MailSpool$Names" "size" "I" "MailSpool") (by decide +kernel))
  have w_3 := hts (.constant RX8 51 (1000000000)) (by decide +kernel)
  have w_4 := hts (.fieldLink RX8 52 "MailSpool$Spool" "leavingDay" "I") (by decide +kernel)
  have hGE := hGs.2.2.2.2.2.2.1
  have hGM := hGs.2.2.2.2.2.2.2.1
  have L8 : ∀ (fu8 : Nat) (S0 : St) (v0 : Nat) (v1 : Int32) (tv0 : v0 < n ∧ K v0 = 7) (H : Heap) (locs : List Loc) (ls : Array Slot), f_X8_planLeaving_L8 F fu8 S0 v0 v1 = some S9 → Wb g ad n K S0 (dA ad n s.heap.size) H → va_S (dA ad n s.heap.size) s.heap H locs → lv_has ls 2 [(0, .ref (ad v0)), (1, .int v1)] → W p l e (headSpec wsX8_planLeaving { frames := 4, cells := 0, slots := 0, locals := 92 }).room s m (List.toArray [.ref (ad p0)]) below meth c H locs 0 0 (MQ below (QR none (QB g ad n K S9 (dA ad n s.heap.size) (True)) (dA ad n s.heap.size)) (List.toArray [.ref (ad p0)]) s 0 0 (dA ad n s.heap.size)) (F0 m 8 ls []) := by
    intro fu8
    induction fu8 with
    | zero =>
      intro S0 v0 v1 tv0 H locs ls hf
      cases hf
    | succ fu8 ih8 =>
      intro S0 v0 v1 tv0 H locs ls hf hW hS hl
      unfold f_X8_planLeaving_L8 at hf
      refine lv_iload_n hx hb dX8_planLeaving_8 rfl (lv_at hl 1 rfl) ?_
      refine lv_aload_n hx hb dX8_planLeaving_9 rfl (lv_at hl 0 rfl) ?_
      replace hf := obE hf
      obtain ⟨j9, qj9, hf⟩ := hf
      have tj9 := x_rt hW qj9 6 ⟨by decide, rfl⟩
      refine x_getr 700 (ci := 7) (C := RX8) (T := TX8) (N := 16) 0 hC hin8 hW tv0 rfl rfl ⟨by decide, by decide, rfl, rfl⟩ rfl w_0 dX8_planLeaving_10 qj9 ?_
      replace hf := obE hf
      obtain ⟨j10, qj10, hf⟩ := hf
      have tj10 := x_rt hW qj10 4 ⟨by decide, rfl⟩
      refine x_getrN 606 (ci := 6) (C := RX7) (T := TX7) (N := 16) 6 hC hin7 hW tj9 rfl rfl ⟨by decide, by decide, rfl, rfl⟩ rfl w_1 dX8_planLeaving_13 qj10 ?_
      refine x_getiN 401 (ci := 4) (C := RX5) (T := TX5) (N := 2) 1 hC hin5 hW tj10 rfl rfl ⟨by decide, by decide, rfl, rfl⟩ rfl w_2 dX8_planLeaving_16 ?_
      refine lv_icmp_ge (tgt := 33) hx hb dX8_planLeaving_19 (by decide) (fun c11 => ?_) (fun c11 => ?_)
      · replace hf := ifT c11 hf
        have e1 := Option.some.inj hf
        subst e1
        exact W.vret hx hb hr (fun t ht hWm => ⟨⟨rfl, by unfold QB; rw [ht]; exact ⟨hW, trivial⟩⟩, hS.F ht⟩) hS.2.2 dX8_planLeaving_33 hlk
      · replace hf := ifF c11 hf
        refine lv_aload_n hx hb dX8_planLeaving_22 rfl (lv_at hl 0 rfl) ?_
        refine lv_iload_n hx hb dX8_planLeaving_23 rfl (lv_at hl 1 rfl) ?_
        replace hf := obE hf
        obtain ⟨S13, hz12, hf⟩ := hf
        refine x_callV (As := [.int v1]) (rest := []) (o := none) (S1 := S13) hC hl.1 hW hS hGs hA tv0 rfl (show vwCl[7]? = some (RX8, TX8, 16) ∧ 7 < 11 from ⟨rfl, by decide⟩) (c_X8_planLeavingOf l g ad n K H.size F S0 v0 v1 tv0 S13 hz12) (cwV 1 hts gX8_planLeaving_X8_planLeavingOf rfl rfl rfl (by decide +kernel) ⟨Nat.le_of_ble_eq_true rfl, Nat.le_of_ble_eq_true rfl⟩) rfl rfl (Nat.le_of_ble_eq_true rfl) dX8_planLeaving_24 ⟨Nat.le_of_ble_eq_true rfl, Nat.le_of_ble_eq_true rfl⟩ (fun H locs hPz12 hW hS => ?_)
        refine W.eq (g2 := F0 m 27 ls []) rfl ?_
        obtain ⟨x16, ex16⟩ : ∃ z : Int32, z = v1 + 1 := ⟨_, rfl⟩
        replace hf := ltE hf x16 ex16
        refine lv_iinc (v := x16) (lv' := [(1, .int x16), (0, .ref (ad v0))]) hx hb dX8_planLeaving_27 hl (k := 1) rfl (by rw [ex16]; rfl) (by decide) rfl (fun ls hl => ?_)
        refine lv_goto (tgt := 8) hx hb dX8_planLeaving_30 (by decide) ?_
        exact ih8 S13 v0 x16 tv0 _ _ _ hf hW hS (lv_sub hl [1, 0] rfl)
  unfold f_X8_planLeaving at hf
  refine lv_aload_n hx hb dX8_planLeaving_0 rfl (lv_at hl 0 rfl) ?_
  refine lv_ldc (v := 1000000000) hx hb hown w_3 dX8_planLeaving_1 ?_
  refine x_puti 713 (ci := 7) (C := RX8) (T := TX8) (N := 16) (v := 1000000000) (ty := .int) 13 hC hin8 tyX8_ok nmX8 hW hS tp0 rfl rfl ⟨by decide, by decide, rfl, rfl⟩ rfl w_4 rfl (by decide +kernel) rfl rfl dX8_planLeaving_3 (fun S17 H locs eS17 hW hS => ?_)
  replace hf := ltE hf S17 eS17
  refine lv_iconst (v := 0) hx hb dX8_planLeaving_6 (by decide) ?_
  refine lv_istore_n (lv' := [(1, .int 0), (0, .ref (ad p0))]) hx hb dX8_planLeaving_7 rfl hl (by decide) rfl (fun ls hl => ?_)
  exact L8 F S17 p0 0 tp0 _ _ _ hf hW hS (lv_sub hl [1, 0] rfl)
set_option maxHeartbeats 4000000 in
set_option maxRecDepth 100000 in
theorem c_X8_leaveClasses (l : Launch) (g : GP) (ad : Nat → Nat) (n : Nat) (K : Nat → Nat) (sz F : Nat) (S0 : St) (p0 : Nat) (tp0 : p0 < n ∧ K p0 = 7) (S9 : St) (hf : f_X8_leaveClasses F S0 p0 = some S9) : Met l yX8_leaveClasses wsX8_leaveClasses { frames := 4, cells := 0, slots := 0, locals := 93 } (va_Pc [.ref (ad p0)] (PB g ad n K S0 sz)) (QR none (QB g ad n K S9 (dA ad n sz) (True)) (dA ad n sz)) 0 0 (dA ad n sz) := by
  refine Met.ofW (cc := cX8_leaveClasses) (maxL := 5) (ret := none) (by decide) rfl ?_
  intro p e s m args below meth c s₁ B hml hv
  obtain ⟨rfl, hsz, hW, hK, hGs⟩ := x_start hv
  subst hsz
  have hx := B.exec
  have hb := B.bytes
  have hr := B.returns
  have hts := atoms_spec (ws := wsX8_leaveClasses) B.pre
  have hown : s.vm.findClass RX8 = some m.cls := findClass_of_methodNamed B.named
  have hlk := B.notSynchronized
  have hC : Cx g p s m _ c cX8_leaveClasses RX8 wsX8_leaveClasses 5 := ⟨hx, hb, hml, hown, hts, hK⟩
  have hA : ∀ q : Nat, s.heap.size ≤ q → dA ad n s.heap.size q := fun q h => Or.inr h
  have hS : va_S (dA ad n s.heap.size) s.heap s.heap [] := va_S.rf
  have hl := lv_entry ([.ref (ad p0)]) (n := 5) (Nat.le_of_ble_eq_true rfl)
  rw [lg_entry_eq]
  generalize (lg_sl ([.ref (ad p0)]) ++ List.replicate (5 - (lg_sl ([.ref (ad p0)])).length) Slot.unset).toArray = ls at hl ⊢
  have hl : lv_has ls 5 [(0, .ref (ad p0))] := hl
  have hin5 : ∀ w ∈ wsX50, w ∈ wsX8_leaveClasses := by decide +kernel
  have hin7 : ∀ w ∈ wsX70, w ∈ wsX8_leaveClasses := by decide +kernel
  have hin8 : ∀ w ∈ wsX80, w ∈ wsX8_leaveClasses := by decide +kernel
  have w_0 := hts (.fieldLink RX8 44 "MailSpool$Spool" "journal" "LMailSpool$Journal;") (by decide +kernel)
  have w_1 := hts (.fieldLink RX8 66 "MailSpool$Spool" "day" "I") (by decide +kernel)
  have w_2 := hts (.fieldLink RX8 9 "MailSpool$Spool" "rules" "LMailSpool$Rules;") (by decide +kernel)
  have w_3 := va_Nw.use (A := (List.toArray [.ref (ad p0)])) rfl (hGs.1 (.fieldLinkNest RX8 102 "MailSpool$Rules" "users" "LMailSpool$Names;" "MailSpool") (by decide +kernel))
  have w_4 := va_Nw.use (A := (List.toArray [.ref (ad p0)])) rfl (hGs.1 (.fieldLinkNest RX8 120 "MailSpool$Names" "size" "I" "MailSpool") (by decide +kernel))
  have w_5 := va_Nw.use (A := (List.toArray [.ref (ad p0)])) rfl (hGs.1 (.fieldLinkNest RX8 292 "MailSpool$Rules" "classNext" "[I" "MailSpool") (by decide +kernel))
  have w_6 := va_Nw.use (A := (List.toArray [.ref (ad p0)])) rfl (hGs.1 (.methodLinkNest RX8 112 yX10_at "MailSpool") (by decide +kernel))
  have w_7 := hts (.initialized RX10) (by decide +kernel)
  have w_8 := hts (.static yX10_at) (by decide +kernel)
  have w_9 := hts (.fieldLink RX8 48 "MailSpool$Spool" "leaves" "[I") (by decide +kernel)
  have w_10 := hts (.fieldLink RX8 88 "MailSpool$Spool" "messageCount" "I") (by decide +kernel)
  have hGE := hGs.2.2.2.2.2.2.1
  have hGM := hGs.2.2.2.2.2.2.2.1
  have L2 : ∀ (fu2 : Nat) (S0 : St) (v0 : Nat) (v1 : Int32) (tv0 : v0 < n ∧ K v0 = 7) (H : Heap) (locs : List Loc) (ls : Array Slot), f_X8_leaveClasses_L2 F fu2 S0 v0 v1 = some S9 → Wb g ad n K S0 (dA ad n s.heap.size) H → va_S (dA ad n s.heap.size) s.heap H locs → lv_has ls 5 [(0, .ref (ad v0)), (1, .int v1)] → W p l e (headSpec wsX8_leaveClasses { frames := 4, cells := 0, slots := 0, locals := 93 }).room s m (List.toArray [.ref (ad p0)]) below meth c H locs 0 0 (MQ below (QR none (QB g ad n K S9 (dA ad n s.heap.size) (True)) (dA ad n s.heap.size)) (List.toArray [.ref (ad p0)]) s 0 0 (dA ad n s.heap.size)) (F0 m 2 ls []) := by
    intro fu2
    induction fu2 with
    | zero =>
      intro S0 v0 v1 tv0 H locs ls hf
      cases hf
    | succ fu2 ih2 =>
      have L12 : ∀ (fu12 : Nat) (S0 : St) (v0 : Nat) (v1 : Int32) (v2 : Int32) (tv0 : v0 < n ∧ K v0 = 7) (H : Heap) (locs : List Loc) (ls : Array Slot), f_X8_leaveClasses_L12 F (fun a0 a1 a2 => f_X8_leaveClasses_L2 F fu2 a0 a1 a2) fu12 S0 v0 v1 v2 = some S9 → Wb g ad n K S0 (dA ad n s.heap.size) H → va_S (dA ad n s.heap.size) s.heap H locs → lv_has ls 5 [(0, .ref (ad v0)), (1, .int v1), (2, .int v2)] → W p l e (headSpec wsX8_leaveClasses { frames := 4, cells := 0, slots := 0, locals := 93 }).room s m (List.toArray [.ref (ad p0)]) below meth c H locs 0 0 (MQ below (QR none (QB g ad n K S9 (dA ad n s.heap.size) (True)) (dA ad n s.heap.size)) (List.toArray [.ref (ad p0)]) s 0 0 (dA ad n s.heap.size)) (F0 m 12 ls []) := by
        intro fu12
        induction fu12 with
        | zero =>
          intro S0 v0 v1 v2 tv0 H locs ls hf
          cases hf
        | succ fu12 ih12 =>
          have L115 : ∀ (S0 : St) (v0 : Nat) (v1 : Int32) (v2 : Int32) (tv0 : v0 < n ∧ K v0 = 7) (H : Heap) (locs : List Loc) (ls : Array Slot), f_X8_leaveClasses_L115 F (fun a0 a1 a2 => f_X8_leaveClasses_L2 F fu2 a0 a1 a2) (fun a0 a1 a2 a3 => f_X8_leaveClasses_L12 F (fun a0 a1 a2 => f_X8_leaveClasses_L2 F fu2 a0 a1 a2) fu12 a0 a1 a2 a3) S0 v0 v1 v2 = some S9 → Wb g ad n K S0 (dA ad n s.heap.size) H → va_S (dA ad n s.heap.size) s.heap H locs → lv_has ls 5 [(0, .ref (ad v0)), (1, .int v1), (2, .int v2)] → W p l e (headSpec wsX8_leaveClasses { frames := 4, cells := 0, slots := 0, locals := 93 }).room s m (List.toArray [.ref (ad p0)]) below meth c H locs 0 0 (MQ below (QR none (QB g ad n K S9 (dA ad n s.heap.size) (True)) (dA ad n s.heap.size)) (List.toArray [.ref (ad p0)]) s 0 0 (dA ad n s.heap.size)) (F0 m 115 ls []) := by
            intro S0 v0 v1 v2 tv0 H locs ls hf hW hS hl
            unfold f_X8_leaveClasses_L115 at hf
            obtain ⟨x2, ex2⟩ : ∃ z : Int32, z = v2 + 1 := ⟨_, rfl⟩
            replace hf := ltE hf x2 ex2
            refine lv_iinc (v := x2) (lv' := [(2, .int x2), (0, .ref (ad v0)), (1, .int v1)]) hx hb dX8_leaveClasses_115 hl (k := 2) rfl (by rw [ex2]; rfl) (by decide) rfl (fun ls hl => ?_)
            refine lv_goto (tgt := 12) hx hb dX8_leaveClasses_118 (by decide) ?_
            exact ih12 S0 v0 v1 x2 tv0 _ _ _ hf hW hS (lv_sub hl [1, 2, 0] rfl)
          have L90 : ∀ (S0 : St) (v0 : Nat) (v1 : Int32) (v2 : Int32) (v3 : Int32) (v4 : Int32) (tv0 : v0 < n ∧ K v0 = 7) (H : Heap) (locs : List Loc) (ls : Array Slot), f_X8_leaveClasses_L90 F (fun a0 a1 a2 => f_X8_leaveClasses_L2 F fu2 a0 a1 a2) (fun a0 a1 a2 a3 => f_X8_leaveClasses_L12 F (fun a0 a1 a2 => f_X8_leaveClasses_L2 F fu2 a0 a1 a2) fu12 a0 a1 a2 a3) S0 v0 v1 v2 v3 v4 = some S9 → Wb g ad n K S0 (dA ad n s.heap.size) H → va_S (dA ad n s.heap.size) s.heap H locs → lv_has ls 5 [(0, .ref (ad v0)), (1, .int v1), (2, .int v2), (3, .int v3), (4, .int v4)] → W p l e (headSpec wsX8_leaveClasses { frames := 4, cells := 0, slots := 0, locals := 93 }).room s m (List.toArray [.ref (ad p0)]) below meth c H locs 0 0 (MQ below (QR none (QB g ad n K S9 (dA ad n s.heap.size) (True)) (dA ad n s.heap.size)) (List.toArray [.ref (ad p0)]) s 0 0 (dA ad n s.heap.size)) (F0 m 90 ls []) := by
            intro S0 v0 v1 v2 v3 v4 tv0 H locs ls hf hW hS hl
            unfold f_X8_leaveClasses_L90 at hf
            refine lv_iload hx hb dX8_leaveClasses_90 (lv_at hl 4 rfl) ?_
            refine lv_if_eq (tgt := 115) hx hb dX8_leaveClasses_92 (by decide) (fun c13 => ?_) (fun c13 => ?_)
            · replace hf := ifT c13 hf
              exact L115 S0 v0 v1 v2 tv0 _ _ _ hf hW hS (lv_sub hl [0, 1, 2] rfl)
            · replace hf := ifF c13 hf
              refine lv_aload_n hx hb dX8_leaveClasses_95 rfl (lv_at hl 0 rfl) ?_
              refine lv_iload_n hx hb dX8_leaveClasses_96 rfl (lv_at hl 1 rfl) ?_
              refine lv_iload_n hx hb dX8_leaveClasses_97 rfl (lv_at hl 2 rfl) ?_
              refine lv_iload_n hx hb dX8_leaveClasses_98 rfl (lv_at hl 3 rfl) ?_
              replace hf := obE hf
              obtain ⟨S15, hz14, hf⟩ := hf
              refine x_callV (As := [.int v1, .int v2, .int v3]) (rest := []) (o := none) (S1 := S15) hC hl.1 hW hS hGs hA tv0 rfl (show vwCl[7]? = some (RX8, TX8, 16) ∧ 7 < 11 from ⟨rfl, by decide⟩) (c_X8_enterClass l g ad n K H.size F S0 v0 v1 v2 v3 tv0 S15 hz14) (cwV 3 hts gX8_leaveClasses_X8_enterClass rfl rfl rfl (by decide +kernel) ⟨Nat.le_of_ble_eq_true rfl, Nat.le_of_ble_eq_true rfl⟩) rfl rfl (Nat.le_of_ble_eq_true rfl) dX8_leaveClasses_99 ⟨Nat.le_of_ble_eq_true rfl, Nat.le_of_ble_eq_true rfl⟩ (fun H locs hPz14 hW hS => ?_)
              refine W.eq (g2 := F0 m 102 ls []) rfl ?_
              refine lv_aload_n hx hb dX8_leaveClasses_102 rfl (lv_at hl 0 rfl) ?_
              replace hf := obE hf
              obtain ⟨j18, qj18, hf⟩ := hf
              have tj18 := x_rt hW qj18 2 ⟨by decide, rfl⟩
              refine x_getr 711 (ci := 7) (C := RX8) (T := TX8) (N := 16) 11 hC hin8 hW tv0 rfl rfl ⟨by decide, by decide, rfl, rfl⟩ rfl w_0 dX8_leaveClasses_103 qj18 ?_
              refine lv_aload_n hx hb dX8_leaveClasses_106 rfl (lv_at hl 0 rfl) ?_
              refine x_geti 701 (ci := 7) (C := RX8) (T := TX8) (N := 16) 1 hC hin8 hW tv0 rfl rfl ⟨by decide, by decide, rfl, rfl⟩ rfl w_1 dX8_leaveClasses_107 ?_
              refine lv_iconst (v := 3) hx hb dX8_leaveClasses_110 (by decide) ?_
              refine lv_iload_n hx hb dX8_leaveClasses_111 rfl (lv_at hl 1 rfl) ?_
              replace hf := obE hf
              obtain ⟨S20, hz19, hf⟩ := hf
              refine x_callV (As := [.int (si S15 701 v0), .int 3, .int v1]) (rest := []) (o := none) (S1 := S20) hC hl.1 hW hS hGs hA tj18 rfl (show vwCl[2]? = some (RX2, TX2, 5) ∧ 2 < 11 from ⟨rfl, by decide⟩) (c_X2_note l g ad n K H.size F S15 j18 (si S15 701 v0) ((3 : Int32)) v1 tj18 S20 hz19) (cwV 3 hts gX8_leaveClasses_X2_note rfl rfl rfl (by decide +kernel) ⟨Nat.le_of_ble_eq_true rfl, Nat.le_of_ble_eq_true rfl⟩) rfl rfl (Nat.le_of_ble_eq_true rfl) dX8_leaveClasses_112 ⟨Nat.le_of_ble_eq_true rfl, Nat.le_of_ble_eq_true rfl⟩ (fun H locs hPz19 hW hS => ?_)
              refine W.eq (g2 := F0 m 115 ls []) rfl ?_
              exact L115 S20 v0 v1 v2 tv0 _ _ _ hf hW hS (lv_sub hl [0, 1, 2] rfl)
          have L68 : ∀ (S0 : St) (v0 : Nat) (v1 : Int32) (v2 : Int32) (v3 : Int32) (s0 : Int32) (tv0 : v0 < n ∧ K v0 = 7) (H : Heap) (locs : List Loc) (ls : Array Slot), f_X8_leaveClasses_L68 F (fun a0 a1 a2 => f_X8_leaveClasses_L2 F fu2 a0 a1 a2) (fun a0 a1 a2 a3 => f_X8_leaveClasses_L12 F (fun a0 a1 a2 => f_X8_leaveClasses_L2 F fu2 a0 a1 a2) fu12 a0 a1 a2 a3) S0 v0 v1 v2 v3 s0 = some S9 → Wb g ad n K S0 (dA ad n s.heap.size) H → va_S (dA ad n s.heap.size) s.heap H locs → lv_has ls 5 [(0, .ref (ad v0)), (1, .int v1), (2, .int v2), (3, .int v3)] → W p l e (headSpec wsX8_leaveClasses { frames := 4, cells := 0, slots := 0, locals := 93 }).room s m (List.toArray [.ref (ad p0)]) below meth c H locs 0 0 (MQ below (QR none (QB g ad n K S9 (dA ad n s.heap.size) (True)) (dA ad n s.heap.size)) (List.toArray [.ref (ad p0)]) s 0 0 (dA ad n s.heap.size)) (F0 m 68 ls [.int s0]) := by
            intro S0 v0 v1 v2 v3 s0 tv0 H locs ls hf hW hS hl
            unfold f_X8_leaveClasses_L68 at hf
            refine lv_istore (lv' := [(4, .int s0), (0, .ref (ad v0)), (1, .int v1), (2, .int v2), (3, .int v3)]) hx hb dX8_leaveClasses_68 hl (by decide) rfl (fun ls hl => ?_)
            refine lv_iload hx hb dX8_leaveClasses_70 (lv_at hl 0 rfl) ?_
            refine lv_if_eq (tgt := 90) hx hb dX8_leaveClasses_72 (by decide) (fun c29 => ?_) (fun c29 => ?_)
            · replace hf := ifT c29 hf
              exact L90 S0 v0 v1 v2 v3 s0 tv0 _ _ _ hf hW hS (lv_sub hl [1, 2, 3, 4, 0] rfl)
            · replace hf := ifF c29 hf
              refine lv_iload_n hx hb dX8_leaveClasses_75 rfl (lv_at hl 4 rfl) ?_
              refine lv_iconst (v := -1) hx hb dX8_leaveClasses_76 (by decide) ?_
              refine lv_icmp_ne (tgt := 90) hx hb dX8_leaveClasses_77 (by decide) (fun c30 => ?_) (fun c30 => ?_)
              · replace hf := ifT c30 hf
                exact L90 S0 v0 v1 v2 v3 s0 tv0 _ _ _ hf hW hS (lv_sub hl [1, 2, 3, 4, 0] rfl)
              · replace hf := ifF (fun q => q c30) hf
                refine lv_aload_n hx hb dX8_leaveClasses_80 rfl (lv_at hl 1 rfl) ?_
                refine lv_iload_n hx hb dX8_leaveClasses_81 rfl (lv_at hl 2 rfl) ?_
                refine lv_iload_n hx hb dX8_leaveClasses_82 rfl (lv_at hl 3 rfl) ?_
                refine lv_iconst (v := 2) hx hb dX8_leaveClasses_83 (by decide) ?_
                replace hf := obE hf
                obtain ⟨S32, hz31, hf⟩ := hf
                refine x_callV (As := [.int v1, .int v2, .int 2]) (rest := []) (o := none) (S1 := S32) hC hl.1 hW hS hGs hA tv0 rfl (show vwCl[7]? = some (RX8, TX8, 16) ∧ 7 < 11 from ⟨rfl, by decide⟩) (c_X8_endReference l g ad n K H.size F S0 v0 v1 v2 ((2 : Int32)) tv0 S32 hz31) (cwV 3 hts gX8_leaveClasses_X8_endReference rfl rfl rfl (by decide +kernel) ⟨Nat.le_of_ble_eq_true rfl, Nat.le_of_ble_eq_true rfl⟩) rfl rfl (Nat.le_of_ble_eq_true rfl) dX8_leaveClasses_84 ⟨Nat.le_of_ble_eq_true rfl, Nat.le_of_ble_eq_true rfl⟩ (fun H locs hPz31 hW hS => ?_)
                refine W.eq (g2 := F0 m 87 ls []) rfl ?_
                refine lv_goto (tgt := 115) hx hb dX8_leaveClasses_87 (by decide) ?_
                exact L115 S32 v0 v1 v2 tv0 _ _ _ hf hW hS (lv_sub hl [1, 2, 3] rfl)
          intro S0 v0 v1 v2 tv0 H locs ls hf hW hS hl
          unfold f_X8_leaveClasses_L12 at hf
          refine lv_iload_n hx hb dX8_leaveClasses_12 rfl (lv_at hl 2 rfl) ?_
          refine lv_aload_n hx hb dX8_leaveClasses_13 rfl (lv_at hl 0 rfl) ?_
          replace hf := obE hf
          obtain ⟨j55, qj55, hf⟩ := hf
          have tj55 := x_rt hW qj55 6 ⟨by decide, rfl⟩
          refine x_getr 700 (ci := 7) (C := RX8) (T := TX8) (N := 16) 0 hC hin8 hW tv0 rfl rfl ⟨by decide, by decide, rfl, rfl⟩ rfl w_2 dX8_leaveClasses_14 qj55 ?_
          replace hf := obE hf
          obtain ⟨j56, qj56, hf⟩ := hf
          have tj56 := x_rt hW qj56 4 ⟨by decide, rfl⟩
          refine x_getrN 606 (ci := 6) (C := RX7) (T := TX7) (N := 16) 6 hC hin7 hW tj55 rfl rfl ⟨by decide, by decide, rfl, rfl⟩ rfl w_3 dX8_leaveClasses_17 qj56 ?_
          refine x_getiN 401 (ci := 4) (C := RX5) (T := TX5) (N := 2) 1 hC hin5 hW tj56 rfl rfl ⟨by decide, by decide, rfl, rfl⟩ rfl w_4 dX8_leaveClasses_20 ?_
          refine lv_icmp_ge (tgt := 121) hx hb dX8_leaveClasses_23 (by decide) (fun c57 => ?_) (fun c57 => ?_)
          · replace hf := ifT c57 hf
            obtain ⟨x58, ex58⟩ : ∃ z : Int32, z = v1 + 1 := ⟨_, rfl⟩
            replace hf := ltE hf x58 ex58
            refine lv_iinc (v := x58) (lv' := [(1, .int x58), (0, .ref (ad v0)), (2, .int v2)]) hx hb dX8_leaveClasses_121 hl (k := 1) rfl (by rw [ex58]; rfl) (by decide) rfl (fun ls hl => ?_)
            refine lv_goto (tgt := 2) hx hb dX8_leaveClasses_124 (by decide) ?_
            exact ih2 S0 v0 x58 tv0 _ _ _ hf hW hS (lv_sub hl [1, 0] rfl)
          · replace hf := ifF c57 hf
            refine lv_aload_n hx hb dX8_leaveClasses_26 rfl (lv_at hl 0 rfl) ?_
            replace hf := obE hf
            obtain ⟨j59, qj59, hf⟩ := hf
            have tj59 := x_rt hW qj59 6 ⟨by decide, rfl⟩
            refine x_getr 700 (ci := 7) (C := RX8) (T := TX8) (N := 16) 0 hC hin8 hW tv0 rfl rfl ⟨by decide, by decide, rfl, rfl⟩ rfl w_2 dX8_leaveClasses_27 qj59 ?_
            replace hf := obE hf
            obtain ⟨j60, qj60, hf⟩ := hf
            have tj60 := x_rt hW qj60 12 ⟨by decide, rfl⟩
            refine x_getrN 605 (ci := 6) (C := RX7) (T := TX7) (N := 16) 5 hC hin7 hW tj59 rfl rfl ⟨by decide, by decide, rfl, rfl⟩ rfl w_5 dX8_leaveClasses_30 qj60 ?_
            refine lv_aload_n hx hb dX8_leaveClasses_33 rfl (lv_at hl 0 rfl) ?_
            refine lv_iload_n hx hb dX8_leaveClasses_34 rfl (lv_at hl 1 rfl) ?_
            refine lv_iload_n hx hb dX8_leaveClasses_35 rfl (lv_at hl 2 rfl) ?_
            replace hf := obE hf
            obtain ⟨z61, hz61, hf⟩ := hf
            obtain ⟨r63, S62⟩ := z61
            replace hf := ltE (ltE hf r63 rfl) S62 rfl
            refine x_callV (As := [.int v1, .int v2]) (rest := [.ref (ad j60)]) (o := (some (.int r63))) (S1 := S62) hC hl.1 hW hS hGs hA tv0 rfl (show vwCl[7]? = some (RX8, TX8, 16) ∧ 7 < 11 from ⟨rfl, by decide⟩) (c_X8_retentionOf l g ad n K H.size F S0 v0 v1 v2 tv0 r63 S62 hz61) (cwV 2 hts gX8_leaveClasses_X8_retentionOf rfl rfl rfl (by decide +kernel) ⟨Nat.le_of_ble_eq_true rfl, Nat.le_of_ble_eq_true rfl⟩) rfl rfl (Nat.le_of_ble_eq_true rfl) dX8_leaveClasses_36 ⟨Nat.le_of_ble_eq_true rfl, Nat.le_of_ble_eq_true rfl⟩ (fun H locs hPz61 hW hS => ?_)
            refine W.eq (g2 := F0 m 39 ls [.int r63, .ref (ad j60)]) rfl ?_
            replace hf := obE hf
            obtain ⟨z65, hz65, hf⟩ := hf
            obtain ⟨r67, S66⟩ := z65
            replace hf := ltE (ltE hf r67 rfl) S66 rfl
            refine x_callSN (As := [.ref (ad j60), .int r63]) (rest := []) (o := (some (.int r67))) (S1 := S66) hC hl.1 hW hS hGs hA (c_X10_at l g ad n K H.size F S62 j60 r63 tj60 r67 S66 hz65) ⟨va_cnB 2 hts gX8_leaveClasses_X10_at_n112 rfl rfl rfl (va_Nw.of rfl w_6) w_7 (by decide +kernel) ⟨Nat.le_of_ble_eq_true rfl, Nat.le_of_ble_eq_true rfl⟩, w_8, trivial⟩ rfl rfl (Nat.le_of_ble_eq_true rfl) dX8_leaveClasses_39 ⟨Nat.le_of_ble_eq_true rfl, Nat.le_of_ble_eq_true rfl⟩ (fun H locs hPz65 hW hS => ?_)
            refine W.eq (g2 := F0 m 42 ls [.int r67]) rfl ?_
            refine lv_istore_n (lv' := [(3, .int r67), (0, .ref (ad v0)), (1, .int v1), (2, .int v2)]) hx hb dX8_leaveClasses_42 rfl hl (by decide) rfl (fun ls hl => ?_)
            refine lv_aload_n hx hb dX8_leaveClasses_43 rfl (lv_at hl 1 rfl) ?_
            replace hf := obE hf
            obtain ⟨j69, qj69, hf⟩ := hf
            have tj69 := x_rt hW qj69 12 ⟨by decide, rfl⟩
            refine x_getr 712 (ci := 7) (C := RX8) (T := TX8) (N := 16) 12 hC hin8 hW tv0 rfl rfl ⟨by decide, by decide, rfl, rfl⟩ rfl w_9 dX8_leaveClasses_44 qj69 ?_
            refine lv_iload_n hx hb dX8_leaveClasses_47 rfl (lv_at hl 2 rfl) ?_
            refine lv_bipush (v := 10) hx hb dX8_leaveClasses_48 (by decide) ?_
            refine lv_imul hx hb dX8_leaveClasses_50 ?_
            refine lv_iload_n hx hb dX8_leaveClasses_51 rfl (lv_at hl 3 rfl) ?_
            refine lv_iadd hx hb dX8_leaveClasses_52 ?_
            replace hf := obE hf
            obtain ⟨z70, hz70, hf⟩ := hf
            obtain ⟨r72, S71⟩ := z70
            replace hf := ltE (ltE hf r72 rfl) S71 rfl
            refine x_callSN (As := [.ref (ad j69), .int ((v1 * 10) + v2)]) (rest := []) (o := (some (.int r72))) (S1 := S71) hC hl.1 hW hS hGs hA (c_X10_at l g ad n K H.size F S66 j69 ((v1 * 10) + v2) tj69 r72 S71 hz70) ⟨va_cnB 2 hts gX8_leaveClasses_X10_at_n112 rfl rfl rfl (va_Nw.of rfl w_6) w_7 (by decide +kernel) ⟨Nat.le_of_ble_eq_true rfl, Nat.le_of_ble_eq_true rfl⟩, w_8, trivial⟩ rfl rfl (Nat.le_of_ble_eq_true rfl) dX8_leaveClasses_53 ⟨Nat.le_of_ble_eq_true rfl, Nat.le_of_ble_eq_true rfl⟩ (fun H locs hPz70 hW hS => ?_)
            refine W.eq (g2 := F0 m 56 ls [.int r72]) rfl ?_
            refine lv_aload_n hx hb dX8_leaveClasses_56 rfl (lv_at hl 1 rfl) ?_
            refine x_geti 701 (ci := 7) (C := RX8) (T := TX8) (N := 16) 1 hC hin8 hW tv0 rfl rfl ⟨by decide, by decide, rfl, rfl⟩ rfl w_1 dX8_leaveClasses_57 ?_
            refine lv_icmp_gt (tgt := 67) hx hb dX8_leaveClasses_60 (by decide) (fun c74 => ?_) (fun c74 => ?_)
            · replace hf := ifT c74 hf
              refine lv_iconst (v := 0) hx hb dX8_leaveClasses_67 (by decide) ?_
              exact L68 S71 v0 v1 v2 r67 0 tv0 _ _ _ hf hW hS (lv_sub hl [1, 2, 3, 0] rfl)
            · replace hf := ifF c74 hf
              refine lv_iconst (v := 1) hx hb dX8_leaveClasses_63 (by decide) ?_
              refine lv_goto (tgt := 68) hx hb dX8_leaveClasses_64 (by decide) ?_
              exact L68 S71 v0 v1 v2 r67 1 tv0 _ _ _ hf hW hS (lv_sub hl [1, 2, 3, 0] rfl)
      intro S0 v0 v1 tv0 H locs ls hf hW hS hl
      unfold f_X8_leaveClasses_L2 at hf
      refine lv_iload_n hx hb dX8_leaveClasses_2 rfl (lv_at hl 1 rfl) ?_
      refine lv_aload_n hx hb dX8_leaveClasses_3 rfl (lv_at hl 0 rfl) ?_
      refine x_geti 705 (ci := 7) (C := RX8) (T := TX8) (N := 16) 5 hC hin8 hW tv0 rfl rfl ⟨by decide, by decide, rfl, rfl⟩ rfl w_10 dX8_leaveClasses_4 ?_
      refine lv_icmp_ge (tgt := 127) hx hb dX8_leaveClasses_7 (by decide) (fun c76 => ?_) (fun c76 => ?_)
      · replace hf := ifT c76 hf
        have e1 := Option.some.inj hf
        subst e1
        exact W.vret hx hb hr (fun t ht hWm => ⟨⟨rfl, by unfold QB; rw [ht]; exact ⟨hW, trivial⟩⟩, hS.F ht⟩) hS.2.2 dX8_leaveClasses_127 hlk
      · replace hf := ifF c76 hf
        refine lv_iconst (v := 0) hx hb dX8_leaveClasses_10 (by decide) ?_
        refine lv_istore_n (lv' := [(2, .int 0), (0, .ref (ad v0)), (1, .int v1)]) hx hb dX8_leaveClasses_11 rfl hl (by decide) rfl (fun ls hl => ?_)
        exact L12 F S0 v0 v1 0 tv0 _ _ _ hf hW hS (lv_sub hl [1, 2, 0] rfl)
  unfold f_X8_leaveClasses at hf
  refine lv_iconst (v := 0) hx hb dX8_leaveClasses_0 (by decide) ?_
  refine lv_istore_n (lv' := [(1, .int 0), (0, .ref (ad p0))]) hx hb dX8_leaveClasses_1 rfl hl (by decide) rfl (fun ls hl => ?_)
  exact L2 F S0 p0 0 tp0 _ _ _ hf hW hS (lv_sub hl [1, 0] rfl)
set_option maxHeartbeats 4000000 in
set_option maxRecDepth 100000 in
theorem c_X9_removeDead (l : Launch) (g : GP) (ad : Nat → Nat) (n : Nat) (K : Nat → Nat) (sz F : Nat) (S0 : St) (p0 : Nat) (p1 : Int32) (p2 : Int32) (p3 : Nat) (tp0 : p0 < n ∧ K p0 = 8) (tp3 : p3 < n ∧ K p3 = 2) (r9 : Int32) (S9 : St) (hf : f_X9_removeDead F S0 p0 p1 p2 p3 = some (r9, S9)) : Met l yX9_removeDead wsX9_removeDead { frames := 3, cells := 0, slots := 0, locals := 63 } (va_Pc [.ref (ad p0), .int p1, .int p2, .ref (ad p3)] (PB g ad n K S0 sz)) (QR (some (.int r9)) (QB g ad n K S9 (dA ad n sz) (True)) (dA ad n sz)) 0 0 (dA ad n sz) := by
  refine Met.ofW (cc := cX9_removeDead) (maxL := 6) (ret := (some .int)) (by decide) rfl ?_
  intro p e s m args below meth c s₁ B hml hv
  obtain ⟨rfl, hsz, hW, hK, hGs⟩ := x_start hv
  subst hsz
  have hx := B.exec
  have hb := B.bytes
  have hr := B.returns
  have hts := atoms_spec (ws := wsX9_removeDead) B.pre
  have hown : s.vm.findClass RX9 = some m.cls := findClass_of_methodNamed B.named
  have hlk := B.notSynchronized
  have hC : Cx g p s m _ c cX9_removeDead RX9 wsX9_removeDead 6 := ⟨hx, hb, hml, hown, hts, hK⟩
  have hA : ∀ q : Nat, s.heap.size ≤ q → dA ad n s.heap.size q := fun q h => Or.inr h
  have hS : va_S (dA ad n s.heap.size) s.heap s.heap [] := va_S.rf
  have hl := lv_entry ([.ref (ad p0), .int p1, .int p2, .ref (ad p3)]) (n := 6) (Nat.le_of_ble_eq_true rfl)
  rw [lg_entry_eq]
  generalize (lg_sl ([.ref (ad p0), .int p1, .int p2, .ref (ad p3)]) ++ List.replicate (6 - (lg_sl ([.ref (ad p0), .int p1, .int p2, .ref (ad p3)])).length) Slot.unset).toArray = ls at hl ⊢
  have hl : lv_has ls 6 [(0, .ref (ad p0)), (1, .int p1), (2, .int p2), (3, .ref (ad p3))] := hl
  have hin9 : ∀ w ∈ wsX90, w ∈ wsX9_removeDead := by decide +kernel
  have w_0 := hts (.fieldLink RX9 34 "MailSpool$Store" "numbers" "I") (by decide +kernel)
  have w_1 := hts (.fieldLink RX9 41 "MailSpool$Store" "dead" "I") (by decide +kernel)
  have w_2 := hts (.fieldLink RX9 24 "MailSpool$Store" "deadSince" "[I") (by decide +kernel)
  have w_3 := va_Nw.use (A := (List.toArray [.ref (ad p0), .int p1, .int p2, .ref (ad p3)])) rfl (hGs.1 (.methodLinkNest RX9 48 yX10_at "MailSpool") (by decide +kernel))
  have w_4 := hts (.initialized RX10) (by decide +kernel)
  have w_5 := hts (.static yX10_at) (by decide +kernel)
  have w_6 := va_Nw.use (A := (List.toArray [.ref (ad p0), .int p1, .int p2, .ref (ad p3)])) rfl (hGs.1 (.methodLinkNest RX9 93 yX10_put "MailSpool") (by decide +kernel))
  have w_7 := hts (.static yX10_put) (by decide +kernel)
  have w_8 := hts (.fieldLink RX9 38 "MailSpool$Store" "stored" "I") (by decide +kernel)
  have hGE := hGs.2.2.2.2.2.2.1
  have hGM := hGs.2.2.2.2.2.2.2.1
  have L6 : ∀ (fu6 : Nat) (S0 : St) (v0 : Nat) (v1 : Int32) (v2 : Int32) (v3 : Nat) (v4 : Int32) (v5 : Int32) (tv0 : v0 < n ∧ K v0 = 8) (tv3 : v3 < n ∧ K v3 = 2) (H : Heap) (locs : List Loc) (ls : Array Slot), f_X9_removeDead_L6 F fu6 S0 v0 v1 v2 v3 v4 v5 = some (r9, S9) → Wb g ad n K S0 (dA ad n s.heap.size) H → va_S (dA ad n s.heap.size) s.heap H locs → lv_has ls 6 [(0, .ref (ad v0)), (1, .int v1), (2, .int v2), (3, .ref (ad v3)), (4, .int v4), (5, .int v5)] → W p l e (headSpec wsX9_removeDead { frames := 3, cells := 0, slots := 0, locals := 63 }).room s m (List.toArray [.ref (ad p0), .int p1, .int p2, .ref (ad p3)]) below meth c H locs 0 0 (MQ below (QR (some (.int r9)) (QB g ad n K S9 (dA ad n s.heap.size) (True)) (dA ad n s.heap.size)) (List.toArray [.ref (ad p0), .int p1, .int p2, .ref (ad p3)]) s 0 0 (dA ad n s.heap.size)) (F0 m 6 ls []) := by
    intro fu6
    induction fu6 with
    | zero =>
      intro S0 v0 v1 v2 v3 v4 v5 tv0 tv3 H locs ls hf
      cases hf
    | succ fu6 ih6 =>
      have L89 : ∀ (S0 : St) (v0 : Nat) (v1 : Int32) (v2 : Int32) (v3 : Nat) (v4 : Int32) (v5 : Int32) (tv0 : v0 < n ∧ K v0 = 8) (tv3 : v3 < n ∧ K v3 = 2) (H : Heap) (locs : List Loc) (ls : Array Slot), f_X9_removeDead_L89 F (fun a0 a1 a2 a3 a4 a5 a6 => f_X9_removeDead_L6 F fu6 a0 a1 a2 a3 a4 a5 a6) S0 v0 v1 v2 v3 v4 v5 = some (r9, S9) → Wb g ad n K S0 (dA ad n s.heap.size) H → va_S (dA ad n s.heap.size) s.heap H locs → lv_has ls 6 [(0, .ref (ad v0)), (1, .int v1), (2, .int v2), (3, .ref (ad v3)), (4, .int v4), (5, .int v5)] → W p l e (headSpec wsX9_removeDead { frames := 3, cells := 0, slots := 0, locals := 63 }).room s m (List.toArray [.ref (ad p0), .int p1, .int p2, .ref (ad p3)]) below meth c H locs 0 0 (MQ below (QR (some (.int r9)) (QB g ad n K S9 (dA ad n s.heap.size) (True)) (dA ad n s.heap.size)) (List.toArray [.ref (ad p0), .int p1, .int p2, .ref (ad p3)]) s 0 0 (dA ad n s.heap.size)) (F0 m 89 ls []) := by
        intro S0 v0 v1 v2 v3 v4 v5 tv0 tv3 H locs ls hf hW hS hl
        unfold f_X9_removeDead_L89 at hf
        obtain ⟨x2, ex2⟩ : ∃ z : Int32, z = v5 + 1 := ⟨_, rfl⟩
        replace hf := ltE hf x2 ex2
        refine lv_iinc (v := x2) (lv' := [(5, .int x2), (0, .ref (ad v0)), (1, .int v1), (2, .int v2), (3, .ref (ad v3)), (4, .int v4)]) hx hb dX9_removeDead_89 hl (k := 5) rfl (by rw [ex2]; rfl) (by decide) rfl (fun ls hl => ?_)
        refine lv_goto (tgt := 6) hx hb dX9_removeDead_92 (by decide) ?_
        exact ih6 S0 v0 v1 v2 v3 v4 x2 tv0 tv3 _ _ _ hf hW hS (lv_sub hl [1, 2, 3, 4, 5, 0] rfl)
      intro S0 v0 v1 v2 v3 v4 v5 tv0 tv3 H locs ls hf hW hS hl
      unfold f_X9_removeDead_L6 at hf
      refine lv_iload hx hb dX9_removeDead_6 (lv_at hl 5 rfl) ?_
      refine lv_aload_n hx hb dX9_removeDead_8 rfl (lv_at hl 0 rfl) ?_
      refine x_geti 800 (ci := 8) (C := RX9) (T := TX9) (N := 8) 0 hC hin9 hW tv0 rfl rfl ⟨by decide, by decide, rfl, rfl⟩ rfl w_0 dX9_removeDead_9 ?_
      refine lv_icmp_ge (tgt := 95) hx hb dX9_removeDead_12 (by decide) (fun c28 => ?_) (fun c28 => ?_)
      · replace hf := ifT c28 hf
        refine lv_iload hx hb dX9_removeDead_95 (lv_at hl 4 rfl) ?_
        obtain ⟨e1, e2⟩ := so2 hf
        subst e1
        subst e2
        exact W.iret (v := v4) hx hb hr (fun t ht hWm => ⟨⟨rfl, by unfold QB; rw [ht]; exact ⟨hW, trivial⟩⟩, hS.F ht⟩) hS.2.2 dX9_removeDead_97 hlk
      · replace hf := ifF c28 hf
        refine lv_aload_n hx hb dX9_removeDead_15 rfl (lv_at hl 0 rfl) ?_
        refine x_geti 802 (ci := 8) (C := RX9) (T := TX9) (N := 8) 2 hC hin9 hW tv0 rfl rfl ⟨by decide, by decide, rfl, rfl⟩ rfl w_1 dX9_removeDead_16 ?_
        refine lv_if_le (tgt := 95) hx hb dX9_removeDead_19 (by decide) (fun c29 => ?_) (fun c29 => ?_)
        · replace hf := ifT c29 hf
          refine lv_iload hx hb dX9_removeDead_95 (lv_at hl 4 rfl) ?_
          obtain ⟨e1, e2⟩ := so2 hf
          subst e1
          subst e2
          exact W.iret (v := v4) hx hb hr (fun t ht hWm => ⟨⟨rfl, by unfold QB; rw [ht]; exact ⟨hW, trivial⟩⟩, hS.F ht⟩) hS.2.2 dX9_removeDead_97 hlk
        · replace hf := ifF c29 hf
          refine lv_aload_n hx hb dX9_removeDead_22 rfl (lv_at hl 0 rfl) ?_
          refine lv_iload hx hb dX9_removeDead_23 (lv_at hl 5 rfl) ?_
          replace hf := obE hf
          obtain ⟨z30, hz30, hf⟩ := hf
          obtain ⟨r32, S31⟩ := z30
          replace hf := ltE (ltE hf r32 rfl) S31 rfl
          refine x_callV (As := [.int v5]) (rest := []) (o := (some (.int r32))) (S1 := S31) hC hl.1 hW hS hGs hA tv0 rfl (show vwCl[8]? = some (RX9, TX9, 8) ∧ 8 < 11 from ⟨rfl, by decide⟩) (c_X9_isDead l g ad n K H.size F S0 v0 v5 tv0 r32 S31 hz30) (cwV 1 hts gX9_removeDead_X9_isDead rfl rfl rfl (by decide +kernel) ⟨Nat.le_of_ble_eq_true rfl, Nat.le_of_ble_eq_true rfl⟩) rfl rfl (Nat.le_of_ble_eq_true rfl) dX9_removeDead_25 ⟨Nat.le_of_ble_eq_true rfl, Nat.le_of_ble_eq_true rfl⟩ (fun H locs hPz30 hW hS => ?_)
          refine W.eq (g2 := F0 m 28 ls [.int r32]) rfl ?_
          refine lv_if_eq (tgt := 89) hx hb dX9_removeDead_28 (by decide) (fun c34 => ?_) (fun c34 => ?_)
          · replace hf := ifT c34 hf
            exact L89 S31 v0 v1 v2 v3 v4 v5 tv0 tv3 _ _ _ hf hW hS (lv_sub hl [0, 1, 2, 3, 4, 5] rfl)
          · replace hf := ifF c34 hf
            refine lv_iload_n hx hb dX9_removeDead_31 rfl (lv_at hl 1 rfl) ?_
            refine lv_aload_n hx hb dX9_removeDead_32 rfl (lv_at hl 0 rfl) ?_
            replace hf := obE hf
            obtain ⟨j35, qj35, hf⟩ := hf
            have tj35 := x_rt hW qj35 12 ⟨by decide, rfl⟩
            refine x_getr 806 (ci := 8) (C := RX9) (T := TX9) (N := 8) 6 hC hin9 hW tv0 rfl rfl ⟨by decide, by decide, rfl, rfl⟩ rfl w_2 dX9_removeDead_33 qj35 ?_
            refine lv_iload hx hb dX9_removeDead_36 (lv_at hl 5 rfl) ?_
            replace hf := obE hf
            obtain ⟨z36, hz36, hf⟩ := hf
            obtain ⟨r38, S37⟩ := z36
            replace hf := ltE (ltE hf r38 rfl) S37 rfl
            refine x_callSN (As := [.ref (ad j35), .int v5]) (rest := [.int v1]) (o := (some (.int r38))) (S1 := S37) hC hl.1 hW hS hGs hA (c_X10_at l g ad n K H.size F S31 j35 v5 tj35 r38 S37 hz36) ⟨va_cnB 2 hts gX9_removeDead_X10_at_n48 rfl rfl rfl (va_Nw.of rfl w_3) w_4 (by decide +kernel) ⟨Nat.le_of_ble_eq_true rfl, Nat.le_of_ble_eq_true rfl⟩, w_5, trivial⟩ rfl rfl (Nat.le_of_ble_eq_true rfl) dX9_removeDead_38 ⟨Nat.le_of_ble_eq_true rfl, Nat.le_of_ble_eq_true rfl⟩ (fun H locs hPz36 hW hS => ?_)
            refine W.eq (g2 := F0 m 41 ls [.int r38, .int v1]) rfl ?_
            refine lv_isub hx hb dX9_removeDead_41 ?_
            refine lv_iload_n hx hb dX9_removeDead_42 rfl (lv_at hl 2 rfl) ?_
            refine lv_icmp_lt (tgt := 89) hx hb dX9_removeDead_43 (by decide) (fun c40 => ?_) (fun c40 => ?_)
            · replace hf := ifT c40 hf
              exact L89 S37 v0 v1 v2 v3 v4 v5 tv0 tv3 _ _ _ hf hW hS (lv_sub hl [0, 1, 2, 3, 4, 5] rfl)
            · replace hf := ifF c40 hf
              refine lv_aload_n hx hb dX9_removeDead_46 rfl (lv_at hl 0 rfl) ?_
              replace hf := obE hf
              obtain ⟨j41, qj41, hf⟩ := hf
              have tj41 := x_rt hW qj41 12 ⟨by decide, rfl⟩
              refine x_getr 806 (ci := 8) (C := RX9) (T := TX9) (N := 8) 6 hC hin9 hW tv0 rfl rfl ⟨by decide, by decide, rfl, rfl⟩ rfl w_2 dX9_removeDead_47 qj41 ?_
              refine lv_iload hx hb dX9_removeDead_50 (lv_at hl 5 rfl) ?_
              refine lv_bipush (v := -2) hx hb dX9_removeDead_52 (by decide) ?_
              replace hf := obE hf
              obtain ⟨S43, hz42, hf⟩ := hf
              refine x_callSN (As := [.ref (ad j41), .int v5, .int ((-2))]) (rest := []) (o := none) (S1 := S43) hC hl.1 hW hS hGs hA (c_X10_put l g ad n K H.size F S37 j41 v5 (((-2) : Int32)) tj41 S43 hz42) ⟨va_cnB 3 hts gX9_removeDead_X10_put_n93 rfl rfl rfl (va_Nw.of rfl w_6) w_4 (by decide +kernel) ⟨Nat.le_of_ble_eq_true rfl, Nat.le_of_ble_eq_true rfl⟩, w_7, trivial⟩ rfl rfl (Nat.le_of_ble_eq_true rfl) dX9_removeDead_54 ⟨Nat.le_of_ble_eq_true rfl, Nat.le_of_ble_eq_true rfl⟩ (fun H locs hPz42 hW hS => ?_)
              refine W.eq (g2 := F0 m 57 ls []) rfl ?_
              refine lv_aload_n hx hb dX9_removeDead_57 rfl (lv_at hl 0 rfl) ?_
              refine lv_dup hx hb dX9_removeDead_58 rfl ?_
              refine x_geti 801 (ci := 8) (C := RX9) (T := TX9) (N := 8) 1 hC hin9 hW tv0 rfl rfl ⟨by decide, by decide, rfl, rfl⟩ rfl w_8 dX9_removeDead_59 ?_
              refine lv_iconst (v := 1) hx hb dX9_removeDead_62 (by decide) ?_
              refine lv_isub hx hb dX9_removeDead_63 ?_
              refine x_puti 801 (ci := 8) (C := RX9) (T := TX9) (N := 8) (v := (si S43 801 v0) - 1) (ty := .int) 1 hC hin9 tyX9_ok nmX9 hW hS tv0 rfl rfl ⟨by decide, by decide, rfl, rfl⟩ rfl w_8 rfl (by decide +kernel) rfl rfl dX9_removeDead_64 (fun S46 H locs eS46 hW hS => ?_)
              replace hf := ltE hf S46 eS46
              refine lv_aload_n hx hb dX9_removeDead_67 rfl (lv_at hl 0 rfl) ?_
              refine lv_dup hx hb dX9_removeDead_68 rfl ?_
              refine x_geti 802 (ci := 8) (C := RX9) (T := TX9) (N := 8) 2 hC hin9 hW tv0 rfl rfl ⟨by decide, by decide, rfl, rfl⟩ rfl w_1 dX9_removeDead_69 ?_
              refine lv_iconst (v := 1) hx hb dX9_removeDead_72 (by decide) ?_
              refine lv_isub hx hb dX9_removeDead_73 ?_
              refine x_puti 802 (ci := 8) (C := RX9) (T := TX9) (N := 8) (v := (si S46 802 v0) - 1) (ty := .int) 2 hC hin9 tyX9_ok nmX9 hW hS tv0 rfl rfl ⟨by decide, by decide, rfl, rfl⟩ rfl w_1 rfl (by decide +kernel) rfl rfl dX9_removeDead_74 (fun S47 H locs eS47 hW hS => ?_)
              replace hf := ltE hf S47 eS47
              obtain ⟨x48, ex48⟩ : ∃ z : Int32, z = v4 + 1 := ⟨_, rfl⟩
              replace hf := ltE hf x48 ex48
              refine lv_iinc (v := x48) (lv' := [(4, .int x48), (0, .ref (ad v0)), (1, .int v1), (2, .int v2), (3, .ref (ad v3)), (5, .int v5)]) hx hb dX9_removeDead_77 hl (k := 4) rfl (by rw [ex48]; rfl) (by decide) rfl (fun ls hl => ?_)
              refine lv_aload_n hx hb dX9_removeDead_80 rfl (lv_at hl 4 rfl) ?_
              refine lv_iload_n hx hb dX9_removeDead_81 rfl (lv_at hl 2 rfl) ?_
              refine lv_bipush (v := 8) hx hb dX9_removeDead_82 (by decide) ?_
              refine lv_iload hx hb dX9_removeDead_84 (lv_at hl 5 rfl) ?_
              replace hf := obE hf
              obtain ⟨S50, hz49, hf⟩ := hf
              refine x_callV (As := [.int v1, .int 8, .int v5]) (rest := []) (o := none) (S1 := S50) hC hl.1 hW hS hGs hA tv3 rfl (show vwCl[2]? = some (RX2, TX2, 5) ∧ 2 < 11 from ⟨rfl, by decide⟩) (c_X2_note l g ad n K H.size F S47 v3 v1 ((8 : Int32)) v5 tv3 S50 hz49) (cwV 3 hts gX9_removeDead_X2_note rfl rfl rfl (by decide +kernel) ⟨Nat.le_of_ble_eq_true rfl, Nat.le_of_ble_eq_true rfl⟩) rfl rfl (Nat.le_of_ble_eq_true rfl) dX9_removeDead_86 ⟨Nat.le_of_ble_eq_true rfl, Nat.le_of_ble_eq_true rfl⟩ (fun H locs hPz49 hW hS => ?_)
              refine W.eq (g2 := F0 m 89 ls []) rfl ?_
              exact L89 S50 v0 v1 v2 v3 x48 v5 tv0 tv3 _ _ _ hf hW hS (lv_sub hl [1, 2, 3, 4, 0, 5] rfl)
  unfold f_X9_removeDead at hf
  refine lv_iconst (v := 0) hx hb dX9_removeDead_0 (by decide) ?_
  refine lv_istore (lv' := [(4, .int 0), (0, .ref (ad p0)), (1, .int p1), (2, .int p2), (3, .ref (ad p3))]) hx hb dX9_removeDead_1 hl (by decide) rfl (fun ls hl => ?_)
  refine lv_iconst (v := 0) hx hb dX9_removeDead_3 (by decide) ?_
  refine lv_istore (lv' := [(5, .int 0), (4, .int 0), (0, .ref (ad p0)), (1, .int p1), (2, .int p2), (3, .ref (ad p3))]) hx hb dX9_removeDead_4 hl (by decide) rfl (fun ls hl => ?_)
  exact L6 F S0 p0 p1 p2 p3 0 0 tp0 tp3 _ _ _ hf hW hS (lv_sub hl [2, 3, 4, 5, 1, 0] rfl)
set_option maxHeartbeats 4000000 in
set_option maxRecDepth 100000 in
theorem c_X8_beginDay (l : Launch) (g : GP) (ad : Nat → Nat) (n : Nat) (K : Nat → Nat) (sz F : Nat) (S0 : St) (p0 : Nat) (tp0 : p0 < n ∧ K p0 = 7) (r9 : Int32) (S9 : St) (hf : f_X8_beginDay F S0 p0 = some (r9, S9)) : Met l yX8_beginDay wsX8_beginDay { frames := 5, cells := 0, slots := 0, locals := 117 } (va_Pc [.ref (ad p0)] (PB g ad n K S0 sz)) (QR (some (.int r9)) (QB g ad n K S9 (dA ad n sz) (True)) (dA ad n sz)) 0 0 (dA ad n sz) := by
  refine Met.ofW (cc := cX8_beginDay) (maxL := 2) (ret := (some .int)) (by decide) rfl ?_
  intro p e s m args below meth c s₁ B hml hv
  obtain ⟨rfl, hsz, hW, hK, hGs⟩ := x_start hv
  subst hsz
  have hx := B.exec
  have hb := B.bytes
  have hr := B.returns
  have hts := atoms_spec (ws := wsX8_beginDay) B.pre
  have hown : s.vm.findClass RX8 = some m.cls := findClass_of_methodNamed B.named
  have hlk := B.notSynchronized
  have hC : Cx g p s m _ c cX8_beginDay RX8 wsX8_beginDay 2 := ⟨hx, hb, hml, hown, hts, hK⟩
  have hA : ∀ q : Nat, s.heap.size ≤ q → dA ad n s.heap.size q := fun q h => Or.inr h
  have hS : va_S (dA ad n s.heap.size) s.heap s.heap [] := va_S.rf
  have hl := lv_entry ([.ref (ad p0)]) (n := 2) (Nat.le_of_ble_eq_true rfl)
  rw [lg_entry_eq]
  generalize (lg_sl ([.ref (ad p0)]) ++ List.replicate (2 - (lg_sl ([.ref (ad p0)])).length) Slot.unset).toArray = ls at hl ⊢
  have hl : lv_has ls 2 [(0, .ref (ad p0))] := hl
  have hin7 : ∀ w ∈ wsX70, w ∈ wsX8_beginDay := by decide +kernel
  have hin8 : ∀ w ∈ wsX80, w ∈ wsX8_beginDay := by decide +kernel
  have w_0 := hts (.fieldLink RX8 44 "MailSpool$Spool" "journal" "LMailSpool$Journal;") (by decide +kernel)
  have w_1 := hts (.fieldLink RX8 66 "MailSpool$Spool" "day" "I") (by decide +kernel)
  have w_2 := hts (.fieldLink RX8 9 "MailSpool$Spool" "rules" "LMailSpool$Rules;") (by decide +kernel)
  have w_3 := va_Nw.use (A := (List.toArray [.ref (ad p0)])) rfl (hGs.1 (.fieldLinkNest RX8 282 "MailSpool$Rules" "interval" "I" "MailSpool") (by decide +kernel))
  have w_4 := hts (.fieldLink RX8 37 "MailSpool$Spool" "store" "LMailSpool$Store;") (by decide +kernel)
  have w_5 := va_Nw.use (A := (List.toArray [.ref (ad p0)])) rfl (hGs.1 (.fieldLinkNest RX8 285 "MailSpool$Rules" "grace" "I" "MailSpool") (by decide +kernel))
  have w_6 := hts (.fieldLink RX8 52 "MailSpool$Spool" "leavingDay" "I") (by decide +kernel)
  have hGE := hGs.2.2.2.2.2.2.1
  have hGM := hGs.2.2.2.2.2.2.2.1
  have L93 : ∀ (S0 : St) (v0 : Nat) (v1 : Int32) (tv0 : v0 < n ∧ K v0 = 7) (H : Heap) (locs : List Loc) (ls : Array Slot), f_X8_beginDay_L93 F S0 v0 v1 = some (r9, S9) → Wb g ad n K S0 (dA ad n s.heap.size) H → va_S (dA ad n s.heap.size) s.heap H locs → lv_has ls 2 [(0, .ref (ad v0)), (1, .int v1)] → W p l e (headSpec wsX8_beginDay { frames := 5, cells := 0, slots := 0, locals := 117 }).room s m (List.toArray [.ref (ad p0)]) below meth c H locs 0 0 (MQ below (QR (some (.int r9)) (QB g ad n K S9 (dA ad n s.heap.size) (True)) (dA ad n s.heap.size)) (List.toArray [.ref (ad p0)]) s 0 0 (dA ad n s.heap.size)) (F0 m 93 ls []) := by
    intro S0 v0 v1 tv0 H locs ls hf hW hS hl
    unfold f_X8_beginDay_L93 at hf
    refine lv_aload_n hx hb dX8_beginDay_93 rfl (lv_at hl 0 rfl) ?_
    replace hf := obE hf
    obtain ⟨j6, qj6, hf⟩ := hf
    have tj6 := x_rt hW qj6 2 ⟨by decide, rfl⟩
    refine x_getr 711 (ci := 7) (C := RX8) (T := TX8) (N := 16) 11 hC hin8 hW tv0 rfl rfl ⟨by decide, by decide, rfl, rfl⟩ rfl w_0 dX8_beginDay_94 qj6 ?_
    refine lv_aload_n hx hb dX8_beginDay_97 rfl (lv_at hl 0 rfl) ?_
    refine x_geti 701 (ci := 7) (C := RX8) (T := TX8) (N := 16) 1 hC hin8 hW tv0 rfl rfl ⟨by decide, by decide, rfl, rfl⟩ rfl w_1 dX8_beginDay_98 ?_
    refine lv_bipush (v := 10) hx hb dX8_beginDay_101 (by decide) ?_
    refine lv_aload_n hx hb dX8_beginDay_103 rfl (lv_at hl 0 rfl) ?_
    refine x_geti 701 (ci := 7) (C := RX8) (T := TX8) (N := 16) 1 hC hin8 hW tv0 rfl rfl ⟨by decide, by decide, rfl, rfl⟩ rfl w_1 dX8_beginDay_104 ?_
    replace hf := obE hf
    obtain ⟨S8, hz7, hf⟩ := hf
    refine x_callV (As := [.int (si S0 701 v0), .int 10, .int (si S0 701 v0)]) (rest := []) (o := none) (S1 := S8) hC hl.1 hW hS hGs hA tj6 rfl (show vwCl[2]? = some (RX2, TX2, 5) ∧ 2 < 11 from ⟨rfl, by decide⟩) (c_X2_note l g ad n K H.size F S0 j6 (si S0 701 v0) ((10 : Int32)) (si S0 701 v0) tj6 S8 hz7) (cwV 3 hts gX8_beginDay_X2_note rfl rfl rfl (by decide +kernel) ⟨Nat.le_of_ble_eq_true rfl, Nat.le_of_ble_eq_true rfl⟩) rfl rfl (Nat.le_of_ble_eq_true rfl) dX8_beginDay_107 ⟨Nat.le_of_ble_eq_true rfl, Nat.le_of_ble_eq_true rfl⟩ (fun H locs hPz7 hW hS => ?_)
    refine W.eq (g2 := F0 m 110 ls []) rfl ?_
    refine lv_iload_n hx hb dX8_beginDay_110 rfl (lv_at hl 1 rfl) ?_
    obtain ⟨e1, e2⟩ := so2 hf
    subst e1
    subst e2
    exact W.iret (v := v1) hx hb hr (fun t ht hWm => ⟨⟨rfl, by unfold QB; rw [ht]; exact ⟨hW, trivial⟩⟩, hS.F ht⟩) hS.2.2 dX8_beginDay_111 hlk
  have L29 : ∀ (S0 : St) (v0 : Nat) (tv0 : v0 < n ∧ K v0 = 7) (H : Heap) (locs : List Loc) (ls : Array Slot), f_X8_beginDay_L29 F S0 v0 = some (r9, S9) → Wb g ad n K S0 (dA ad n s.heap.size) H → va_S (dA ad n s.heap.size) s.heap H locs → lv_has ls 2 [(0, .ref (ad v0))] → W p l e (headSpec wsX8_beginDay { frames := 5, cells := 0, slots := 0, locals := 117 }).room s m (List.toArray [.ref (ad p0)]) below meth c H locs 0 0 (MQ below (QR (some (.int r9)) (QB g ad n K S9 (dA ad n s.heap.size) (True)) (dA ad n s.heap.size)) (List.toArray [.ref (ad p0)]) s 0 0 (dA ad n s.heap.size)) (F0 m 29 ls []) := by
    intro S0 v0 tv0 H locs ls hf hW hS hl
    unfold f_X8_beginDay_L29 at hf
    refine lv_iconst (v := 0) hx hb dX8_beginDay_29 (by decide) ?_
    refine lv_istore_n (lv' := [(1, .int 0), (0, .ref (ad v0))]) hx hb dX8_beginDay_30 rfl hl (by decide) rfl (fun ls hl => ?_)
    refine lv_aload_n hx hb dX8_beginDay_31 rfl (lv_at hl 1 rfl) ?_
    replace hf := obE hf
    obtain ⟨j28, qj28, hf⟩ := hf
    have tj28 := x_rt hW qj28 6 ⟨by decide, rfl⟩
    refine x_getr 700 (ci := 7) (C := RX8) (T := TX8) (N := 16) 0 hC hin8 hW tv0 rfl rfl ⟨by decide, by decide, rfl, rfl⟩ rfl w_2 dX8_beginDay_32 qj28 ?_
    refine x_getiN 601 (ci := 6) (C := RX7) (T := TX7) (N := 16) 1 hC hin7 hW tj28 rfl rfl ⟨by decide, by decide, rfl, rfl⟩ rfl w_3 dX8_beginDay_35 ?_
    refine lv_if_le (tgt := 93) hx hb dX8_beginDay_38 (by decide) (fun c29 => ?_) (fun c29 => ?_)
    · replace hf := ifT c29 hf
      exact L93 S0 v0 0 tv0 _ _ _ hf hW hS (lv_sub hl [1, 0] rfl)
    · replace hf := ifF c29 hf
      refine lv_aload_n hx hb dX8_beginDay_41 rfl (lv_at hl 1 rfl) ?_
      refine x_geti 701 (ci := 7) (C := RX8) (T := TX8) (N := 16) 1 hC hin8 hW tv0 rfl rfl ⟨by decide, by decide, rfl, rfl⟩ rfl w_1 dX8_beginDay_42 ?_
      refine lv_aload_n hx hb dX8_beginDay_45 rfl (lv_at hl 1 rfl) ?_
      replace hf := obE hf
      obtain ⟨j30, qj30, hf⟩ := hf
      have tj30 := x_rt hW qj30 6 ⟨by decide, rfl⟩
      refine x_getr 700 (ci := 7) (C := RX8) (T := TX8) (N := 16) 0 hC hin8 hW tv0 rfl rfl ⟨by decide, by decide, rfl, rfl⟩ rfl w_2 dX8_beginDay_46 qj30 ?_
      refine x_getiN 601 (ci := 6) (C := RX7) (T := TX7) (N := 16) 1 hC hin7 hW tj30 rfl rfl ⟨by decide, by decide, rfl, rfl⟩ rfl w_3 dX8_beginDay_49 ?_
      replace hf := ckE hf
      obtain ⟨h31, hf⟩ := hf
      refine lv_irem hx hb dX8_beginDay_52 h31 ?_
      refine lv_if_ne (tgt := 93) hx hb dX8_beginDay_53 (by decide) (fun c32 => ?_) (fun c32 => ?_)
      · replace hf := ifT c32 hf
        exact L93 S0 v0 0 tv0 _ _ _ hf hW hS (lv_sub hl [1, 0] rfl)
      · replace hf := ifF (fun q => q c32) hf
        refine lv_aload_n hx hb dX8_beginDay_56 rfl (lv_at hl 1 rfl) ?_
        replace hf := obE hf
        obtain ⟨j33, qj33, hf⟩ := hf
        have tj33 := x_rt hW qj33 8 ⟨by decide, rfl⟩
        refine x_getr 710 (ci := 7) (C := RX8) (T := TX8) (N := 16) 10 hC hin8 hW tv0 rfl rfl ⟨by decide, by decide, rfl, rfl⟩ rfl w_4 dX8_beginDay_57 qj33 ?_
        refine lv_aload_n hx hb dX8_beginDay_60 rfl (lv_at hl 1 rfl) ?_
        refine x_geti 701 (ci := 7) (C := RX8) (T := TX8) (N := 16) 1 hC hin8 hW tv0 rfl rfl ⟨by decide, by decide, rfl, rfl⟩ rfl w_1 dX8_beginDay_61 ?_
        refine lv_aload_n hx hb dX8_beginDay_64 rfl (lv_at hl 1 rfl) ?_
        replace hf := obE hf
        obtain ⟨j34, qj34, hf⟩ := hf
        have tj34 := x_rt hW qj34 6 ⟨by decide, rfl⟩
        refine x_getr 700 (ci := 7) (C := RX8) (T := TX8) (N := 16) 0 hC hin8 hW tv0 rfl rfl ⟨by decide, by decide, rfl, rfl⟩ rfl w_2 dX8_beginDay_65 qj34 ?_
        refine x_getiN 600 (ci := 6) (C := RX7) (T := TX7) (N := 16) 0 hC hin7 hW tj34 rfl rfl ⟨by decide, by decide, rfl, rfl⟩ rfl w_5 dX8_beginDay_68 ?_
        refine lv_aload_n hx hb dX8_beginDay_71 rfl (lv_at hl 1 rfl) ?_
        replace hf := obE hf
        obtain ⟨j35, qj35, hf⟩ := hf
        have tj35 := x_rt hW qj35 2 ⟨by decide, rfl⟩
        refine x_getr 711 (ci := 7) (C := RX8) (T := TX8) (N := 16) 11 hC hin8 hW tv0 rfl rfl ⟨by decide, by decide, rfl, rfl⟩ rfl w_0 dX8_beginDay_72 qj35 ?_
        replace hf := obE hf
        obtain ⟨z36, hz36, hf⟩ := hf
        obtain ⟨r38, S37⟩ := z36
        replace hf := ltE (ltE hf r38 rfl) S37 rfl
        refine x_callV (As := [.int (si S0 701 v0), .int (si S0 600 j34), .ref (ad j35)]) (rest := []) (o := (some (.int r38))) (S1 := S37) hC hl.1 hW hS hGs hA tj33 rfl (show vwCl[8]? = some (RX9, TX9, 8) ∧ 8 < 11 from ⟨rfl, by decide⟩) (c_X9_removeDead l g ad n K H.size F S0 j33 (si S0 701 v0) (si S0 600 j34) j35 tj33 tj35 r38 S37 hz36) (cwV 3 hts gX8_beginDay_X9_removeDead rfl rfl rfl (by decide +kernel) ⟨Nat.le_of_ble_eq_true rfl, Nat.le_of_ble_eq_true rfl⟩) rfl rfl (Nat.le_of_ble_eq_true rfl) dX8_beginDay_75 ⟨Nat.le_of_ble_eq_true rfl, Nat.le_of_ble_eq_true rfl⟩ (fun H locs hPz36 hW hS => ?_)
        refine W.eq (g2 := F0 m 78 ls [.int r38]) rfl ?_
        refine lv_istore_n (lv' := [(1, .int r38), (0, .ref (ad v0))]) hx hb dX8_beginDay_78 rfl hl (by decide) rfl (fun ls hl => ?_)
        refine lv_aload_n hx hb dX8_beginDay_79 rfl (lv_at hl 1 rfl) ?_
        replace hf := obE hf
        obtain ⟨j40, qj40, hf⟩ := hf
        have tj40 := x_rt hW qj40 2 ⟨by decide, rfl⟩
        refine x_getr 711 (ci := 7) (C := RX8) (T := TX8) (N := 16) 11 hC hin8 hW tv0 rfl rfl ⟨by decide, by decide, rfl, rfl⟩ rfl w_0 dX8_beginDay_80 qj40 ?_
        refine lv_aload_n hx hb dX8_beginDay_83 rfl (lv_at hl 1 rfl) ?_
        refine x_geti 701 (ci := 7) (C := RX8) (T := TX8) (N := 16) 1 hC hin8 hW tv0 rfl rfl ⟨by decide, by decide, rfl, rfl⟩ rfl w_1 dX8_beginDay_84 ?_
        refine lv_bipush (v := 9) hx hb dX8_beginDay_87 (by decide) ?_
        refine lv_iload_n hx hb dX8_beginDay_89 rfl (lv_at hl 0 rfl) ?_
        replace hf := obE hf
        obtain ⟨S42, hz41, hf⟩ := hf
        refine x_callV (As := [.int (si S37 701 v0), .int 9, .int r38]) (rest := []) (o := none) (S1 := S42) hC hl.1 hW hS hGs hA tj40 rfl (show vwCl[2]? = some (RX2, TX2, 5) ∧ 2 < 11 from ⟨rfl, by decide⟩) (c_X2_note l g ad n K H.size F S37 j40 (si S37 701 v0) ((9 : Int32)) r38 tj40 S42 hz41) (cwV 3 hts gX8_beginDay_X2_note rfl rfl rfl (by decide +kernel) ⟨Nat.le_of_ble_eq_true rfl, Nat.le_of_ble_eq_true rfl⟩) rfl rfl (Nat.le_of_ble_eq_true rfl) dX8_beginDay_90 ⟨Nat.le_of_ble_eq_true rfl, Nat.le_of_ble_eq_true rfl⟩ (fun H locs hPz41 hW hS => ?_)
        refine W.eq (g2 := F0 m 93 ls []) rfl ?_
        exact L93 S42 v0 r38 tv0 _ _ _ hf hW hS (lv_sub hl [1, 0] rfl)
  unfold f_X8_beginDay at hf
  refine lv_aload_n hx hb dX8_beginDay_0 rfl (lv_at hl 0 rfl) ?_
  refine lv_dup hx hb dX8_beginDay_1 rfl ?_
  refine x_geti 701 (ci := 7) (C := RX8) (T := TX8) (N := 16) 1 hC hin8 hW tp0 rfl rfl ⟨by decide, by decide, rfl, rfl⟩ rfl w_1 dX8_beginDay_2 ?_
  refine lv_iconst (v := 1) hx hb dX8_beginDay_5 (by decide) ?_
  refine lv_iadd hx hb dX8_beginDay_6 ?_
  refine x_puti 701 (ci := 7) (C := RX8) (T := TX8) (N := 16) (v := (si S0 701 p0) + 1) (ty := .int) 1 hC hin8 tyX8_ok nmX8 hW hS tp0 rfl rfl ⟨by decide, by decide, rfl, rfl⟩ rfl w_1 rfl (by decide +kernel) rfl rfl dX8_beginDay_7 (fun S45 H locs eS45 hW hS => ?_)
  replace hf := ltE hf S45 eS45
  refine lv_aload_n hx hb dX8_beginDay_10 rfl (lv_at hl 0 rfl) ?_
  refine x_geti 701 (ci := 7) (C := RX8) (T := TX8) (N := 16) 1 hC hin8 hW tp0 rfl rfl ⟨by decide, by decide, rfl, rfl⟩ rfl w_1 dX8_beginDay_11 ?_
  refine lv_aload_n hx hb dX8_beginDay_14 rfl (lv_at hl 0 rfl) ?_
  refine x_geti 713 (ci := 7) (C := RX8) (T := TX8) (N := 16) 13 hC hin8 hW tp0 rfl rfl ⟨by decide, by decide, rfl, rfl⟩ rfl w_6 dX8_beginDay_15 ?_
  refine lv_icmp_lt (tgt := 29) hx hb dX8_beginDay_18 (by decide) (fun c46 => ?_) (fun c46 => ?_)
  · replace hf := ifT c46 hf
    exact L29 S45 p0 tp0 _ _ _ hf hW hS (lv_sub hl [0] rfl)
  · replace hf := ifF c46 hf
    refine lv_aload_n hx hb dX8_beginDay_21 rfl (lv_at hl 0 rfl) ?_
    replace hf := obE hf
    obtain ⟨S48, hz47, hf⟩ := hf
    refine x_callV (As := []) (rest := []) (o := none) (S1 := S48) hC hl.1 hW hS hGs hA tp0 rfl (show vwCl[7]? = some (RX8, TX8, 16) ∧ 7 < 11 from ⟨rfl, by decide⟩) (c_X8_leaveClasses l g ad n K H.size F S45 p0 tp0 S48 hz47) (cwV 0 hts gX8_beginDay_X8_leaveClasses rfl rfl rfl (by decide +kernel) ⟨Nat.le_of_ble_eq_true rfl, Nat.le_of_ble_eq_true rfl⟩) rfl rfl (Nat.le_of_ble_eq_true rfl) dX8_beginDay_22 ⟨Nat.le_of_ble_eq_true rfl, Nat.le_of_ble_eq_true rfl⟩ (fun H locs hPz47 hW hS => ?_)
    refine W.eq (g2 := F0 m 25 ls []) rfl ?_
    refine lv_aload_n hx hb dX8_beginDay_25 rfl (lv_at hl 0 rfl) ?_
    replace hf := obE hf
    obtain ⟨S52, hz51, hf⟩ := hf
    refine x_callV (As := []) (rest := []) (o := none) (S1 := S52) hC hl.1 hW hS hGs hA tp0 rfl (show vwCl[7]? = some (RX8, TX8, 16) ∧ 7 < 11 from ⟨rfl, by decide⟩) (c_X8_planLeaving l g ad n K H.size F S48 p0 tp0 S52 hz51) (cwV 0 hts gX8_beginDay_X8_planLeaving rfl rfl rfl (by decide +kernel) ⟨Nat.le_of_ble_eq_true rfl, Nat.le_of_ble_eq_true rfl⟩) rfl rfl (Nat.le_of_ble_eq_true rfl) dX8_beginDay_26 ⟨Nat.le_of_ble_eq_true rfl, Nat.le_of_ble_eq_true rfl⟩ (fun H locs hPz51 hW hS => ?_)
    refine W.eq (g2 := F0 m 29 ls []) rfl ?_
    exact L29 S52 p0 tp0 _ _ _ hf hW hS (lv_sub hl [0] rfl)
set_option maxHeartbeats 4000000 in
set_option maxRecDepth 100000 in
theorem c_X10_advance (l : Launch) (hfl : l.stackTraces = false) (g : GP) (ad : Nat → Nat) (n : Nat) (K : Nat → Nat) (sz F : Nat) (S0 : St) (p0 : Nat) (p1 : Int32) (tp0 : p0 < n ∧ K p0 = 9) (o9 : Nat ⊕ Int32) (S9 : St) (hf : f_X10_advance F S0 p0 p1 = some (o9, S9)) : vx_Met l yX10_advance wsX10_advance { frames := 6, cells := 1, slots := 6, locals := 138 } (va_Pc [.ref (ad p0), .int p1] (PB g ad n K S0 sz)) (QT o9 (fun r => some (.int r)) (QB g ad n K S9 (dA ad n sz) True) (dA ad n sz)) (XT o9 (QB g ad n K S9 (dA ad n sz) True) (dA ad n sz)) 1 6 (dA ad n sz) := by
  refine vx_ofW (cc := cX10_advance) (maxL := 4) (ret := (some .int)) (by decide) rfl ?_
  intro p e s m args below meth c s₁ B hml hno hv
  obtain ⟨rfl, hsz, hW, hK, hGs⟩ := x_start hv
  subst hsz
  have hx := B.exec
  have hb := B.bytes
  have hr := B.returns
  have hts := atoms_spec (ws := wsX10_advance) B.pre
  have hown : s.vm.findClass RX10 = some m.cls := findClass_of_methodNamed B.named
  have hlk := B.notSynchronized
  have hC : Cx g p s m _ c cX10_advance RX10 wsX10_advance 4 := ⟨hx, hb, hml, hown, hts, hK⟩
  have hA : ∀ q : Nat, s.heap.size ≤ q → dA ad n s.heap.size q := fun q h => Or.inr h
  have hS : va_S (dA ad n s.heap.size) s.heap s.heap [] := va_S.rf
  have hl := lv_entry ([.ref (ad p0), .int p1]) (n := 4) (Nat.le_of_ble_eq_true rfl)
  rw [lg_entry_eq]
  generalize (lg_sl ([.ref (ad p0), .int p1]) ++ List.replicate (4 - (lg_sl ([.ref (ad p0), .int p1])).length) Slot.unset).toArray = ls at hl ⊢
  have hl : lv_has ls 4 [(0, .ref (ad p0)), (1, .int p1)] := hl
  have hin8 : ∀ w ∈ wsX80, w ∈ wsX10_advance := by decide +kernel
  have hin10 : ∀ w ∈ wsX100, w ∈ wsX10_advance := by decide +kernel
  have w_0 := hts (.fieldLink RX10 42 "MailSpool" "now" "LMailSpool$Spool;") (by decide +kernel)
  have w_1 := hts (.classLink RX10 70 "java/lang/IllegalArgumentException") (by decide +kernel)
  have w_2 := hts (.initialized "java/lang/IllegalArgumentException") (by decide +kernel)
  have w_3 := va_Nw.use (A := (List.toArray [.ref (ad p0), .int p1])) rfl (hGs.1 (.fieldLinkNest RX10 166 "MailSpool$Spool" "day" "I" "MailSpool") (by decide +kernel))
  have w_4 := hts (.classLink RX10 60 "java/lang/IllegalStateException") (by decide +kernel)
  have w_5 := hts (.initialized "java/lang/IllegalStateException") (by decide +kernel)
  have hat1 : ∀ w ∈ (vx_atS RX10 64 (exn 1) exNm).filter goodWord, w.before _ s = true := fun w h => hts w ((by decide +kernel : ∀ w ∈ (vx_atS RX10 64 (exn 1) exNm).filter goodWord, w ∈ wsX10_advance) w h)
  have hat2 : ∀ w ∈ (vx_atS RX10 74 (exn 2) exNm).filter goodWord, w.before _ s = true := fun w h => hts w ((by decide +kernel : ∀ w ∈ (vx_atS RX10 74 (exn 2) exNm).filter goodWord, w ∈ wsX10_advance) w h)
  have hGE := hGs.2.2.2.2.2.2.1
  have hGM := hGs.2.2.2.2.2.2.2.1
  have L64 : ∀ (fu64 : Nat) (S0 : St) (v0 : Nat) (v1 : Int32) (v2 : Int32) (v3 : Int32) (tv0 : v0 < n ∧ K v0 = 9) (H : Heap) (locs : List Loc) (ls : Array Slot), f_X10_advance_L64 F fu64 S0 v0 v1 v2 v3 = some (o9, S9) → Wb g ad n K S0 (dA ad n s.heap.size) H → va_S (dA ad n s.heap.size) s.heap H locs → lv_has ls 4 [(0, .ref (ad v0)), (1, .int v1), (2, .int v2), (3, .int v3)] → W p l e (headSpec wsX10_advance { frames := 6, cells := 1, slots := 6, locals := 138 }).room s m (List.toArray [.ref (ad p0), .int p1]) below meth c H locs 0 0 (vx_MQ below (QT o9 (fun r => some (.int r)) (QB g ad n K S9 (dA ad n s.heap.size) True) (dA ad n s.heap.size)) (XT o9 (QB g ad n K S9 (dA ad n s.heap.size) True) (dA ad n s.heap.size)) (List.toArray [.ref (ad p0), .int p1]) s 1 6 (dA ad n s.heap.size)) (F0 m 64 ls []) := by
    intro fu64
    induction fu64 with
    | zero =>
      intro S0 v0 v1 v2 v3 tv0 H locs ls hf
      cases hf
    | succ fu64 ih64 =>
      intro S0 v0 v1 v2 v3 tv0 H locs ls hf hW hS hl
      unfold f_X10_advance_L64 at hf
      refine lv_iload_n hx hb dX10_advance_64 rfl (lv_at hl 3 rfl) ?_
      refine lv_iload_n hx hb dX10_advance_65 rfl (lv_at hl 1 rfl) ?_
      refine lv_icmp_ge (tgt := 85) hx hb dX10_advance_66 (by decide) (fun c9 => ?_) (fun c9 => ?_)
      · replace hf := ifT c9 hf
        refine lv_iload_n hx hb dX10_advance_85 rfl (lv_at hl 2 rfl) ?_
        obtain ⟨e1, e2⟩ := so2 hf
        subst e1
        subst e2
        refine W.widen (k := 1) (n := 6) (Nat.le_of_ble_eq_true rfl) (Nat.le_of_ble_eq_true rfl) ?_
        exact vx_ret (W.iret (v := v2) hx hb hr (fun t ht hWm => ⟨⟨_, rfl, rfl, by unfold QB; rw [ht]; exact ⟨hW, trivial⟩⟩, hS.F ht⟩) hS.2.2 dX10_advance_86 hlk)
      · replace hf := ifF c9 hf
        refine lv_iload_n hx hb dX10_advance_69 rfl (lv_at hl 2 rfl) ?_
        refine lv_aload_n hx hb dX10_advance_70 rfl (lv_at hl 0 rfl) ?_
        replace hf := obE hf
        obtain ⟨j10, qj10, hf⟩ := hf
        have tj10 := x_rt hW qj10 7 ⟨by decide, rfl⟩
        refine x_getr 905 (ci := 9) (C := RX10) (T := TX10) (N := 11) 5 hC hin10 hW tv0 rfl rfl ⟨by decide, by decide, rfl, rfl⟩ rfl w_0 dX10_advance_71 qj10 ?_
        replace hf := obE hf
        obtain ⟨z11, hz11, hf⟩ := hf
        obtain ⟨r13, S12⟩ := z11
        replace hf := ltE (ltE hf r13 rfl) S12 rfl
        refine x_callV (As := []) (rest := [.int v2]) (o := (some (.int r13))) (S1 := S12) hC hl.1 hW hS hGs hA tj10 rfl (show vwCl[7]? = some (RX8, TX8, 16) ∧ 7 < 11 from ⟨rfl, by decide⟩) (c_X8_beginDay l g ad n K H.size F S0 j10 tj10 r13 S12 hz11) (cwV 0 hts gX10_advance_X8_beginDay rfl rfl rfl (by decide +kernel) ⟨Nat.le_of_ble_eq_true rfl, Nat.le_of_ble_eq_true rfl⟩) rfl rfl (Nat.le_of_ble_eq_true rfl) dX10_advance_74 ⟨Nat.le_of_ble_eq_true rfl, Nat.le_of_ble_eq_true rfl⟩ (fun H locs hPz11 hW hS => ?_)
        refine W.eq (g2 := F0 m 77 ls [.int r13, .int v2]) rfl ?_
        refine lv_iadd hx hb dX10_advance_77 ?_
        refine lv_topi (fun x15 ex15 => ?_)
        replace hf := ltE hf x15 ex15
        refine lv_istore_n (lv' := [(2, .int x15), (0, .ref (ad v0)), (1, .int v1), (3, .int v3)]) hx hb dX10_advance_78 rfl hl (by decide) rfl (fun ls hl => ?_)
        obtain ⟨x16, ex16⟩ : ∃ z : Int32, z = v3 + 1 := ⟨_, rfl⟩
        replace hf := ltE hf x16 ex16
        refine lv_iinc (v := x16) (lv' := [(3, .int x16), (2, .int x15), (0, .ref (ad v0)), (1, .int v1)]) hx hb dX10_advance_79 hl (k := 3) rfl (by rw [ex16]; rfl) (by decide) rfl (fun ls hl => ?_)
        refine lv_goto (tgt := 64) hx hb dX10_advance_82 (by decide) ?_
        exact ih64 S12 v0 v1 x15 x16 tv0 _ _ _ hf hW hS (lv_sub hl [2, 3, 1, 0] rfl)
  have L12 : ∀ (S0 : St)   (H : Heap) (locs : List Loc) (ls : Array Slot), f_X10_advance_L12 F S0  = some (o9, S9) → Wb g ad n K S0 (dA ad n s.heap.size) H → va_S (dA ad n s.heap.size) s.heap H locs → lv_has ls 4 [] → W p l e (headSpec wsX10_advance { frames := 6, cells := 1, slots := 6, locals := 138 }).room s m (List.toArray [.ref (ad p0), .int p1]) below meth c H locs 0 0 (vx_MQ below (QT o9 (fun r => some (.int r)) (QB g ad n K S9 (dA ad n s.heap.size) True) (dA ad n s.heap.size)) (XT o9 (QB g ad n K S9 (dA ad n s.heap.size) True) (dA ad n s.heap.size)) (List.toArray [.ref (ad p0), .int p1]) s 1 6 (dA ad n s.heap.size)) (F0 m 12 ls []) := by
    intro S0  H locs ls hf hW hS hl
    unfold f_X10_advance_L12 at hf
    obtain ⟨e1, e2⟩ := so2 hf
    subst e1
    subst e2
    exact x_throwSW (x := 2) (text := "no such number of days") hC hfl hno hl.1 hGs hS hlk w_1 w_2 (by decide +kernel) hat2 ⟨by decide +kernel, by decide +kernel, by decide +kernel⟩ dX10_advance_12 dX10_advance_15 dX10_advance_16 dX10_advance_19 dX10_advance_22 (Nat.le_of_ble_eq_true rfl) (Nat.le_of_ble_eq_true rfl) (Nat.le_of_ble_eq_true rfl) (Nat.le_of_ble_eq_true rfl) (Nat.le_of_ble_eq_true rfl) (Nat.le_of_ble_eq_true rfl) (fun t hv hq hF => ⟨⟨2, rfl, rfl, hW.kept hq, trivial⟩, hF⟩)
  unfold f_X10_advance at hf
  refine lv_iload_n hx hb dX10_advance_0 rfl (lv_at hl 1 rfl) ?_
  refine lv_iconst (v := 1) hx hb dX10_advance_1 (by decide) ?_
  refine lv_icmp_lt (tgt := 12) hx hb dX10_advance_2 (by decide) (fun c17 => ?_) (fun c17 => ?_)
  · replace hf := ifT c17 hf
    exact L12 S0 _ _ _ hf hW hS (lv_sub hl [] rfl)
  · replace hf := ifF c17 hf
    refine lv_iload_n hx hb dX10_advance_5 rfl (lv_at hl 1 rfl) ?_
    refine lv_sipush (v := 1000) hx hb dX10_advance_6 (by decide) ?_
    refine lv_icmp_le (tgt := 23) hx hb dX10_advance_9 (by decide) (fun c18 => ?_) (fun c18 => ?_)
    · replace hf := ifT c18 hf
      refine lv_aload_n hx hb dX10_advance_23 rfl (lv_at hl 0 rfl) ?_
      replace hf := obE hf
      obtain ⟨j19, qj19, hf⟩ := hf
      have tj19 := x_rt hW qj19 7 ⟨by decide, rfl⟩
      refine x_getr 905 (ci := 9) (C := RX10) (T := TX10) (N := 11) 5 hC hin10 hW tp0 rfl rfl ⟨by decide, by decide, rfl, rfl⟩ rfl w_0 dX10_advance_24 qj19 ?_
      refine x_getiN 701 (ci := 7) (C := RX8) (T := TX8) (N := 16) 1 hC hin8 hW tj19 rfl rfl ⟨by decide, by decide, rfl, rfl⟩ rfl w_3 dX10_advance_27 ?_
      refine lv_iload_n hx hb dX10_advance_30 rfl (lv_at hl 1 rfl) ?_
      refine lv_iadd hx hb dX10_advance_31 ?_
      refine lv_sipush (v := 20000) hx hb dX10_advance_32 (by decide) ?_
      refine lv_icmp_le (tgt := 49) hx hb dX10_advance_35 (by decide) (fun c20 => ?_) (fun c20 => ?_)
      · replace hf := ifT c20 hf
        refine lv_aload_n hx hb dX10_advance_49 rfl (lv_at hl 0 rfl) ?_
        replace hf := obE hf
        obtain ⟨S22, hz21, hf⟩ := hf
        refine x_callV (As := []) (rest := []) (o := none) (S1 := S22) hC hl.1 hW hS hGs hA tp0 rfl (show vwCl[9]? = some (RX10, TX10, 11) ∧ 9 < 11 from ⟨rfl, by decide⟩) (c_X10_remember l g ad n K s.heap.size F S0 p0 tp0 S22 hz21) (cwV 0 hts gX10_advance_X10_remember rfl rfl rfl (by decide +kernel) ⟨Nat.le_of_ble_eq_true rfl, Nat.le_of_ble_eq_true rfl⟩) rfl rfl (Nat.le_of_ble_eq_true rfl) dX10_advance_50 ⟨Nat.le_of_ble_eq_true rfl, Nat.le_of_ble_eq_true rfl⟩ (fun H locs hPz21 hW hS => ?_)
        refine W.eq (g2 := F0 m 53 ls []) rfl ?_
        refine lv_aload_n hx hb dX10_advance_53 rfl (lv_at hl 0 rfl) ?_
        replace hf := obE hf
        obtain ⟨j25, qj25, hf⟩ := hf
        have tj25 := x_rt hW qj25 7 ⟨by decide, rfl⟩
        refine x_getr 905 (ci := 9) (C := RX10) (T := TX10) (N := 11) 5 hC hin10 hW tp0 rfl rfl ⟨by decide, by decide, rfl, rfl⟩ rfl w_0 dX10_advance_54 qj25 ?_
        replace hf := obE hf
        obtain ⟨S27, hz26, hf⟩ := hf
        refine x_callV (As := []) (rest := []) (o := none) (S1 := S27) hC hl.1 hW hS hGs hA tj25 rfl (show vwCl[7]? = some (RX8, TX8, 16) ∧ 7 < 11 from ⟨rfl, by decide⟩) (c_X8_planLeaving l g ad n K H.size F S22 j25 tj25 S27 hz26) (cwV 0 hts gX10_advance_X8_planLeaving rfl rfl rfl (by decide +kernel) ⟨Nat.le_of_ble_eq_true rfl, Nat.le_of_ble_eq_true rfl⟩) rfl rfl (Nat.le_of_ble_eq_true rfl) dX10_advance_57 ⟨Nat.le_of_ble_eq_true rfl, Nat.le_of_ble_eq_true rfl⟩ (fun H locs hPz26 hW hS => ?_)
        refine W.eq (g2 := F0 m 60 ls []) rfl ?_
        refine lv_iconst (v := 0) hx hb dX10_advance_60 (by decide) ?_
        refine lv_istore_n (lv' := [(2, .int 0), (0, .ref (ad p0)), (1, .int p1)]) hx hb dX10_advance_61 rfl hl (by decide) rfl (fun ls hl => ?_)
        refine lv_iconst (v := 0) hx hb dX10_advance_62 (by decide) ?_
        refine lv_istore_n (lv' := [(3, .int 0), (2, .int 0), (0, .ref (ad p0)), (1, .int p1)]) hx hb dX10_advance_63 rfl hl (by decide) rfl (fun ls hl => ?_)
        exact L64 F S27 p0 p1 0 0 tp0 _ _ _ hf hW hS (lv_sub hl [2, 3, 1, 0] rfl)
      · replace hf := ifF c20 hf
        obtain ⟨e1, e2⟩ := so2 hf
        subst e1
        subst e2
        exact x_throwSW (x := 1) (text := "the days are over") hC hfl hno hl.1 hGs hS hlk w_4 w_5 (by decide +kernel) hat1 ⟨by decide +kernel, by decide +kernel, by decide +kernel⟩ dX10_advance_38 dX10_advance_41 dX10_advance_42 dX10_advance_45 dX10_advance_48 (Nat.le_of_ble_eq_true rfl) (Nat.le_of_ble_eq_true rfl) (Nat.le_of_ble_eq_true rfl) (Nat.le_of_ble_eq_true rfl) (Nat.le_of_ble_eq_true rfl) (Nat.le_of_ble_eq_true rfl) (fun t hv hq hF => ⟨⟨1, rfl, rfl, hW.kept hq, trivial⟩, hF⟩)
    · replace hf := ifF c18 hf
      exact L12 S0 _ _ _ hf hW hS (lv_sub hl [] rfl)
set_option maxHeartbeats 4000000 in
set_option maxRecDepth 100000 in
theorem c_X10_nextRound (l : Launch) (g : GP) (ad : Nat → Nat) (n : Nat) (K : Nat → Nat) (sz F : Nat) (S0 : St) (p0 : Nat) (tp0 : p0 < n ∧ K p0 = 9) (r9 : Int32) (S9 : St) (hf : f_X10_nextRound F S0 p0 = some (r9, S9)) : Met l yX10_nextRound wsX10_nextRound { frames := 0, cells := 0, slots := 0, locals := 0 } (va_Pc [.ref (ad p0)] (PB g ad n K S0 sz)) (QR (some (.int r9)) (QB g ad n K S9 (dA ad n sz) (True)) (dA ad n sz)) 0 0 (dA ad n sz) := by
  refine Met.ofW (cc := cX10_nextRound) (maxL := 2) (ret := (some .int)) (by decide) rfl ?_
  intro p e s m args below meth c s₁ B hml hv
  obtain ⟨rfl, hsz, hW, hK, hGs⟩ := x_start hv
  subst hsz
  have hx := B.exec
  have hb := B.bytes
  have hr := B.returns
  have hts := atoms_spec (ws := wsX10_nextRound) B.pre
  have hown : s.vm.findClass RX10 = some m.cls := findClass_of_methodNamed B.named
  have hlk := B.notSynchronized
  have hC : Cx g p s m _ c cX10_nextRound RX10 wsX10_nextRound 2 := ⟨hx, hb, hml, hown, hts, hK⟩
  have hA : ∀ q : Nat, s.heap.size ≤ q → dA ad n s.heap.size q := fun q h => Or.inr h
  have hS : va_S (dA ad n s.heap.size) s.heap s.heap [] := va_S.rf
  have hl := lv_entry ([.ref (ad p0)]) (n := 2) (Nat.le_of_ble_eq_true rfl)
  rw [lg_entry_eq]
  generalize (lg_sl ([.ref (ad p0)]) ++ List.replicate (2 - (lg_sl ([.ref (ad p0)])).length) Slot.unset).toArray = ls at hl ⊢
  have hl : lv_has ls 2 [(0, .ref (ad p0))] := hl
  have hin7 : ∀ w ∈ wsX70, w ∈ wsX10_nextRound := by decide +kernel
  have hin8 : ∀ w ∈ wsX80, w ∈ wsX10_nextRound := by decide +kernel
  have hin10 : ∀ w ∈ wsX100, w ∈ wsX10_nextRound := by decide +kernel
  have w_0 := hts (.fieldLink RX10 42 "MailSpool" "now" "LMailSpool$Spool;") (by decide +kernel)
  have w_1 := va_Nw.use (A := (List.toArray [.ref (ad p0)])) rfl (hGs.1 (.fieldLinkNest RX10 104 "MailSpool$Spool" "rules" "LMailSpool$Rules;" "MailSpool") (by decide +kernel))
  have w_2 := va_Nw.use (A := (List.toArray [.ref (ad p0)])) rfl (hGs.1 (.fieldLinkNest RX10 370 "MailSpool$Rules" "interval" "I" "MailSpool") (by decide +kernel))
  have w_3 := va_Nw.use (A := (List.toArray [.ref (ad p0)])) rfl (hGs.1 (.fieldLinkNest RX10 166 "MailSpool$Spool" "day" "I" "MailSpool") (by decide +kernel))
  have hGE := hGs.2.2.2.2.2.2.1
  have hGM := hGs.2.2.2.2.2.2.2.1
  unfold f_X10_nextRound at hf
  refine lv_aload_n hx hb dX10_nextRound_0 rfl (lv_at hl 0 rfl) ?_
  replace hf := obE hf
  obtain ⟨j1, qj1, hf⟩ := hf
  have tj1 := x_rt hW qj1 7 ⟨by decide, rfl⟩
  refine x_getr 905 (ci := 9) (C := RX10) (T := TX10) (N := 11) 5 hC hin10 hW tp0 rfl rfl ⟨by decide, by decide, rfl, rfl⟩ rfl w_0 dX10_nextRound_1 qj1 ?_
  replace hf := obE hf
  obtain ⟨j2, qj2, hf⟩ := hf
  have tj2 := x_rt hW qj2 6 ⟨by decide, rfl⟩
  refine x_getrN 700 (ci := 7) (C := RX8) (T := TX8) (N := 16) 0 hC hin8 hW tj1 rfl rfl ⟨by decide, by decide, rfl, rfl⟩ rfl w_1 dX10_nextRound_4 qj2 ?_
  refine x_getiN 601 (ci := 6) (C := RX7) (T := TX7) (N := 16) 1 hC hin7 hW tj2 rfl rfl ⟨by decide, by decide, rfl, rfl⟩ rfl w_2 dX10_nextRound_7 ?_
  refine lv_topi (fun x3 ex3 => ?_)
  replace hf := ltE hf x3 ex3
  refine lv_istore_n (lv' := [(1, .int x3), (0, .ref (ad p0))]) hx hb dX10_nextRound_10 rfl hl (by decide) rfl (fun ls hl => ?_)
  refine lv_iload_n hx hb dX10_nextRound_11 rfl (lv_at hl 0 rfl) ?_
  refine lv_if_le (tgt := 31) hx hb dX10_nextRound_12 (by decide) (fun c4 => ?_) (fun c4 => ?_)
  · replace hf := ifT c4 hf
    refine lv_iconst (v := -1) hx hb dX10_nextRound_31 (by decide) ?_
    obtain ⟨e1, e2⟩ := so2 hf
    subst e1
    subst e2
    exact W.iret (v := (-1)) hx hb hr (fun t ht hWm => ⟨⟨rfl, by unfold QB; rw [ht]; exact ⟨hW, trivial⟩⟩, hS.F ht⟩) hS.2.2 dX10_nextRound_32 hlk
  · replace hf := ifF c4 hf
    refine lv_aload_n hx hb dX10_nextRound_15 rfl (lv_at hl 1 rfl) ?_
    replace hf := obE hf
    obtain ⟨j5, qj5, hf⟩ := hf
    have tj5 := x_rt hW qj5 7 ⟨by decide, rfl⟩
    refine x_getr 905 (ci := 9) (C := RX10) (T := TX10) (N := 11) 5 hC hin10 hW tp0 rfl rfl ⟨by decide, by decide, rfl, rfl⟩ rfl w_0 dX10_nextRound_16 qj5 ?_
    refine x_getiN 701 (ci := 7) (C := RX8) (T := TX8) (N := 16) 1 hC hin8 hW tj5 rfl rfl ⟨by decide, by decide, rfl, rfl⟩ rfl w_3 dX10_nextRound_19 ?_
    refine lv_iload_n hx hb dX10_nextRound_22 rfl (lv_at hl 0 rfl) ?_
    replace hf := ckE hf
    obtain ⟨h6, hf⟩ := hf
    refine lv_idiv hx hb dX10_nextRound_23 h6 ?_
    refine lv_iconst (v := 1) hx hb dX10_nextRound_24 (by decide) ?_
    refine lv_iadd hx hb dX10_nextRound_25 ?_
    refine lv_iload_n hx hb dX10_nextRound_26 rfl (lv_at hl 0 rfl) ?_
    refine lv_imul hx hb dX10_nextRound_27 ?_
    refine lv_goto (tgt := 32) hx hb dX10_nextRound_28 (by decide) ?_
    obtain ⟨e1, e2⟩ := so2 hf
    subst e1
    subst e2
    exact W.iret (v := (((si S0 701 j5) / x3) + 1) * x3) hx hb hr (fun t ht hWm => ⟨⟨rfl, by unfold QB; rw [ht]; exact ⟨hW, trivial⟩⟩, hS.F ht⟩) hS.2.2 dX10_nextRound_32 hlk
set_option maxHeartbeats 4000000 in
set_option maxRecDepth 100000 in
theorem c_X10_lookAhead (l : Launch) (g : GP) (ad : Nat → Nat) (n : Nat) (K : Nat → Nat) (sz F : Nat) (S0 : St) (p0 : Nat) (tp0 : p0 < n ∧ K p0 = 9) (S9 : St) (hf : f_X10_lookAhead F S0 p0 = some S9) : Met l yX10_lookAhead wsX10_lookAhead { frames := 5, cells := 0, slots := 0, locals := 113 } (va_Pc [.ref (ad p0)] (PB g ad n K S0 sz)) (QR none (QB g ad n K S9 (dA ad n sz) (True)) (dA ad n sz)) 0 0 (dA ad n sz) := by
  refine Met.ofW (cc := cX10_lookAhead) (maxL := 1) (ret := none) (by decide) rfl ?_
  intro p e s m args below meth c s₁ B hml hv
  obtain ⟨rfl, hsz, hW, hK, hGs⟩ := x_start hv
  subst hsz
  have hx := B.exec
  have hb := B.bytes
  have hr := B.returns
  have hts := atoms_spec (ws := wsX10_lookAhead) B.pre
  have hown : s.vm.findClass RX10 = some m.cls := findClass_of_methodNamed B.named
  have hlk := B.notSynchronized
  have hC : Cx g p s m _ c cX10_lookAhead RX10 wsX10_lookAhead 1 := ⟨hx, hb, hml, hown, hts, hK⟩
  have hA : ∀ q : Nat, s.heap.size ≤ q → dA ad n s.heap.size q := fun q h => Or.inr h
  have hS : va_S (dA ad n s.heap.size) s.heap s.heap [] := va_S.rf
  have hl := lv_entry ([.ref (ad p0)]) (n := 1) (Nat.le_of_ble_eq_true rfl)
  rw [lg_entry_eq]
  generalize (lg_sl ([.ref (ad p0)]) ++ List.replicate (1 - (lg_sl ([.ref (ad p0)])).length) Slot.unset).toArray = ls at hl ⊢
  have hl : lv_has ls 1 [(0, .ref (ad p0))] := hl
  have hin10 : ∀ w ∈ wsX100, w ∈ wsX10_lookAhead := by decide +kernel
  have w_0 := hts (.fieldLink RX10 46 "MailSpool" "later" "LMailSpool$Spool;") (by decide +kernel)
  have w_1 := hts (.fieldLink RX10 42 "MailSpool" "now" "LMailSpool$Spool;") (by decide +kernel)
  have hGE := hGs.2.2.2.2.2.2.1
  have hGM := hGs.2.2.2.2.2.2.2.1
  unfold f_X10_lookAhead at hf
  refine lv_aload_n hx hb dX10_lookAhead_0 rfl (lv_at hl 0 rfl) ?_
  replace hf := obE hf
  obtain ⟨j1, qj1, hf⟩ := hf
  have tj1 := x_rt hW qj1 7 ⟨by decide, rfl⟩
  refine x_getr 906 (ci := 9) (C := RX10) (T := TX10) (N := 11) 6 hC hin10 hW tp0 rfl rfl ⟨by decide, by decide, rfl, rfl⟩ rfl w_0 dX10_lookAhead_1 qj1 ?_
  refine lv_aload_n hx hb dX10_lookAhead_4 rfl (lv_at hl 0 rfl) ?_
  replace hf := obE hf
  obtain ⟨j2, qj2, hf⟩ := hf
  have tj2 := x_rt hW qj2 7 ⟨by decide, rfl⟩
  refine x_getr 905 (ci := 9) (C := RX10) (T := TX10) (N := 11) 5 hC hin10 hW tp0 rfl rfl ⟨by decide, by decide, rfl, rfl⟩ rfl w_1 dX10_lookAhead_5 qj2 ?_
  replace hf := obE hf
  obtain ⟨S4, hz3, hf⟩ := hf
  refine x_callV (As := [.ref (ad j2)]) (rest := []) (o := none) (S1 := S4) hC hl.1 hW hS hGs hA tj1 rfl (show vwCl[7]? = some (RX8, TX8, 16) ∧ 7 < 11 from ⟨rfl, by decide⟩) (c_X8_copyFrom l g ad n K s.heap.size F S0 j1 j2 tj1 tj2 S4 hz3) (cwV 1 hts gX10_lookAhead_X8_copyFrom rfl rfl rfl (by decide +kernel) ⟨Nat.le_of_ble_eq_true rfl, Nat.le_of_ble_eq_true rfl⟩) rfl rfl (Nat.le_of_ble_eq_true rfl) dX10_lookAhead_8 ⟨Nat.le_of_ble_eq_true rfl, Nat.le_of_ble_eq_true rfl⟩ (fun H locs hPz3 hW hS => ?_)
  refine W.eq (g2 := F0 m 11 ls []) rfl ?_
  refine lv_aload_n hx hb dX10_lookAhead_11 rfl (lv_at hl 0 rfl) ?_
  replace hf := obE hf
  obtain ⟨j7, qj7, hf⟩ := hf
  have tj7 := x_rt hW qj7 7 ⟨by decide, rfl⟩
  refine x_getr 906 (ci := 9) (C := RX10) (T := TX10) (N := 11) 6 hC hin10 hW tp0 rfl rfl ⟨by decide, by decide, rfl, rfl⟩ rfl w_0 dX10_lookAhead_12 qj7 ?_
  replace hf := obE hf
  obtain ⟨S9, hz8, hf⟩ := hf
  refine x_callV (As := []) (rest := []) (o := none) (S1 := S9) hC hl.1 hW hS hGs hA tj7 rfl (show vwCl[7]? = some (RX8, TX8, 16) ∧ 7 < 11 from ⟨rfl, by decide⟩) (c_X8_planLeaving l g ad n K H.size F S4 j7 tj7 S9 hz8) (cwV 0 hts gX10_lookAhead_X8_planLeaving rfl rfl rfl (by decide +kernel) ⟨Nat.le_of_ble_eq_true rfl, Nat.le_of_ble_eq_true rfl⟩) rfl rfl (Nat.le_of_ble_eq_true rfl) dX10_lookAhead_15 ⟨Nat.le_of_ble_eq_true rfl, Nat.le_of_ble_eq_true rfl⟩ (fun H locs hPz8 hW hS => ?_)
  refine W.eq (g2 := F0 m 18 ls []) rfl ?_
  have e1 := Option.some.inj hf
  subst e1
  exact W.vret hx hb hr (fun t ht hWm => ⟨⟨rfl, by unfold QB; rw [ht]; exact ⟨hW, trivial⟩⟩, hS.F ht⟩) hS.2.2 dX10_lookAhead_18 hlk
set_option maxHeartbeats 4000000 in
set_option maxRecDepth 100000 in
theorem c_X8_isAtRest (l : Launch) (g : GP) (ad : Nat → Nat) (n : Nat) (K : Nat → Nat) (sz F : Nat) (S0 : St) (p0 : Nat) (tp0 : p0 < n ∧ K p0 = 7) (r9 : Int32) (S9 : St) (hf : f_X8_isAtRest F S0 p0 = some (r9, S9)) : Met l yX8_isAtRest wsX8_isAtRest { frames := 0, cells := 0, slots := 0, locals := 0 } (va_Pc [.ref (ad p0)] (PB g ad n K S0 sz)) (QR (some (.int r9)) (QB g ad n K S9 (dA ad n sz) (True)) (dA ad n sz)) 0 0 (dA ad n sz) := by
  refine Met.ofW (cc := cX8_isAtRest) (maxL := 1) (ret := (some .boolean)) (by decide) rfl ?_
  intro p e s m args below meth c s₁ B hml hv
  obtain ⟨rfl, hsz, hW, hK, hGs⟩ := x_start hv
  subst hsz
  have hx := B.exec
  have hb := B.bytes
  have hr := B.returns
  have hts := atoms_spec (ws := wsX8_isAtRest) B.pre
  have hown : s.vm.findClass RX8 = some m.cls := findClass_of_methodNamed B.named
  have hlk := B.notSynchronized
  have hC : Cx g p s m _ c cX8_isAtRest RX8 wsX8_isAtRest 1 := ⟨hx, hb, hml, hown, hts, hK⟩
  have hA : ∀ q : Nat, s.heap.size ≤ q → dA ad n s.heap.size q := fun q h => Or.inr h
  have hS : va_S (dA ad n s.heap.size) s.heap s.heap [] := va_S.rf
  have hl := lv_entry ([.ref (ad p0)]) (n := 1) (Nat.le_of_ble_eq_true rfl)
  rw [lg_entry_eq]
  generalize (lg_sl ([.ref (ad p0)]) ++ List.replicate (1 - (lg_sl ([.ref (ad p0)])).length) Slot.unset).toArray = ls at hl ⊢
  have hl : lv_has ls 1 [(0, .ref (ad p0))] := hl
  have hin8 : ∀ w ∈ wsX80, w ∈ wsX8_isAtRest := by decide +kernel
  have hin9 : ∀ w ∈ wsX90, w ∈ wsX8_isAtRest := by decide +kernel
  have w_0 := hts (.fieldLink RX8 52 "MailSpool$Spool" "leavingDay" "I") (by decide +kernel)
  have w_1 := hts (.constant RX8 51 (1000000000)) (by decide +kernel)
  have w_2 := hts (.fieldLink RX8 37 "MailSpool$Spool" "store" "LMailSpool$Store;") (by decide +kernel)
  have w_3 := va_Nw.use (A := (List.toArray [.ref (ad p0)])) rfl (hGs.1 (.fieldLinkNest RX8 273 "MailSpool$Store" "dead" "I" "MailSpool") (by decide +kernel))
  have hGE := hGs.2.2.2.2.2.2.1
  have hGM := hGs.2.2.2.2.2.2.2.1
  unfold f_X8_isAtRest at hf
  refine lv_aload_n hx hb dX8_isAtRest_0 rfl (lv_at hl 0 rfl) ?_
  refine x_geti 713 (ci := 7) (C := RX8) (T := TX8) (N := 16) 13 hC hin8 hW tp0 rfl rfl ⟨by decide, by decide, rfl, rfl⟩ rfl w_0 dX8_isAtRest_1 ?_
  refine lv_ldc (v := 1000000000) hx hb hown w_1 dX8_isAtRest_4 ?_
  refine lv_icmp_ne (tgt := 23) hx hb dX8_isAtRest_6 (by decide) (fun c1 => ?_) (fun c1 => ?_)
  · replace hf := ifT c1 hf
    refine lv_iconst (v := 0) hx hb dX8_isAtRest_23 (by decide) ?_
    obtain ⟨e1, e2⟩ := so2 hf
    subst e1
    subst e2
    exact W.zret (v := 0) hx hb hr rfl (fun t ht hWm => ⟨⟨rfl, by unfold QB; rw [ht]; exact ⟨hW, trivial⟩⟩, hS.F ht⟩) hS.2.2 dX8_isAtRest_24 hlk
  · replace hf := ifF (fun q => q c1) hf
    refine lv_aload_n hx hb dX8_isAtRest_9 rfl (lv_at hl 0 rfl) ?_
    replace hf := obE hf
    obtain ⟨j2, qj2, hf⟩ := hf
    have tj2 := x_rt hW qj2 8 ⟨by decide, rfl⟩
    refine x_getr 710 (ci := 7) (C := RX8) (T := TX8) (N := 16) 10 hC hin8 hW tp0 rfl rfl ⟨by decide, by decide, rfl, rfl⟩ rfl w_2 dX8_isAtRest_10 qj2 ?_
    refine x_getiN 802 (ci := 8) (C := RX9) (T := TX9) (N := 8) 2 hC hin9 hW tj2 rfl rfl ⟨by decide, by decide, rfl, rfl⟩ rfl w_3 dX8_isAtRest_13 ?_
    refine lv_if_ne (tgt := 23) hx hb dX8_isAtRest_16 (by decide) (fun c3 => ?_) (fun c3 => ?_)
    · replace hf := ifT c3 hf
      refine lv_iconst (v := 0) hx hb dX8_isAtRest_23 (by decide) ?_
      obtain ⟨e1, e2⟩ := so2 hf
      subst e1
      subst e2
      exact W.zret (v := 0) hx hb hr rfl (fun t ht hWm => ⟨⟨rfl, by unfold QB; rw [ht]; exact ⟨hW, trivial⟩⟩, hS.F ht⟩) hS.2.2 dX8_isAtRest_24 hlk
    · replace hf := ifF (fun q => q c3) hf
      refine lv_iconst (v := 1) hx hb dX8_isAtRest_19 (by decide) ?_
      refine lv_goto (tgt := 24) hx hb dX8_isAtRest_20 (by decide) ?_
      obtain ⟨e1, e2⟩ := so2 hf
      subst e1
      subst e2
      exact W.zret (v := 1) hx hb hr rfl (fun t ht hWm => ⟨⟨rfl, by unfold QB; rw [ht]; exact ⟨hW, trivial⟩⟩, hS.F ht⟩) hS.2.2 dX8_isAtRest_24 hlk
set_option maxHeartbeats 4000000 in
set_option maxRecDepth 100000 in
theorem c_X10_removedOn (l : Launch) (hfl : l.stackTraces = false) (g : GP) (ad : Nat → Nat) (n : Nat) (K : Nat → Nat) (sz F : Nat) (S0 : St) (p0 : Nat) (p1 : Int32) (tp0 : p0 < n ∧ K p0 = 9) (o9 : Nat ⊕ Int32) (S9 : St) (hf : f_X10_removedOn F S0 p0 p1 = some (o9, S9)) : vx_Met l yX10_removedOn wsX10_removedOn { frames := 7, cells := 1, slots := 6, locals := 138 } (va_Pc [.ref (ad p0), .int p1] (PB g ad n K S0 sz)) (QT o9 (fun r => some (.int r)) (QB g ad n K S9 (dA ad n sz) True) (dA ad n sz)) (XT o9 (QB g ad n K S9 (dA ad n sz) True) (dA ad n sz)) 1 6 (dA ad n sz) := by
  refine vx_ofW (cc := cX10_removedOn) (maxL := 3) (ret := (some .int)) (by decide) rfl ?_
  intro p e s m args below meth c s₁ B hml hno hv
  obtain ⟨rfl, hsz, hW, hK, hGs⟩ := x_start hv
  subst hsz
  have hx := B.exec
  have hb := B.bytes
  have hr := B.returns
  have hts := atoms_spec (ws := wsX10_removedOn) B.pre
  have hown : s.vm.findClass RX10 = some m.cls := findClass_of_methodNamed B.named
  have hlk := B.notSynchronized
  have hC : Cx g p s m _ c cX10_removedOn RX10 wsX10_removedOn 3 := ⟨hx, hb, hml, hown, hts, hK⟩
  have hA : ∀ q : Nat, s.heap.size ≤ q → dA ad n s.heap.size q := fun q h => Or.inr h
  have hS : va_S (dA ad n s.heap.size) s.heap s.heap [] := va_S.rf
  have hl := lv_entry ([.ref (ad p0), .int p1]) (n := 3) (Nat.le_of_ble_eq_true rfl)
  rw [lg_entry_eq]
  generalize (lg_sl ([.ref (ad p0), .int p1]) ++ List.replicate (3 - (lg_sl ([.ref (ad p0), .int p1])).length) Slot.unset).toArray = ls at hl ⊢
  have hl : lv_has ls 3 [(0, .ref (ad p0)), (1, .int p1)] := hl
  have hin8 : ∀ w ∈ wsX80, w ∈ wsX10_removedOn := by decide +kernel
  have hin10 : ∀ w ∈ wsX100, w ∈ wsX10_removedOn := by decide +kernel
  have w_0 := hts (.fieldLink RX10 46 "MailSpool" "later" "LMailSpool$Spool;") (by decide +kernel)
  have w_1 := va_Nw.use (A := (List.toArray [.ref (ad p0), .int p1])) rfl (hGs.1 (.fieldLinkNest RX10 186 "MailSpool$Spool" "store" "LMailSpool$Store;" "MailSpool") (by decide +kernel))
  have w_2 := va_Nw.use (A := (List.toArray [.ref (ad p0), .int p1])) rfl (hGs.1 (.fieldLinkNest RX10 166 "MailSpool$Spool" "day" "I" "MailSpool") (by decide +kernel))
  have hGE := hGs.2.2.2.2.2.2.1
  have hGM := hGs.2.2.2.2.2.2.2.1
  have L56 : ∀ (S0 : St) (v0 : Nat) (v1 : Int32) (tv0 : v0 < n ∧ K v0 = 9) (H : Heap) (locs : List Loc) (ls : Array Slot), f_X10_removedOn_L56 F S0 v0 v1 = some (o9, S9) → Wb g ad n K S0 (dA ad n s.heap.size) H → va_S (dA ad n s.heap.size) s.heap H locs → lv_has ls 3 [(0, .ref (ad v0)), (1, .int v1)] → W p l e (headSpec wsX10_removedOn { frames := 7, cells := 1, slots := 6, locals := 138 }).room s m (List.toArray [.ref (ad p0), .int p1]) below meth c H locs 1 6 (vx_MQ below (QT o9 (fun r => some (.int r)) (QB g ad n K S9 (dA ad n s.heap.size) True) (dA ad n s.heap.size)) (XT o9 (QB g ad n K S9 (dA ad n s.heap.size) True) (dA ad n s.heap.size)) (List.toArray [.ref (ad p0), .int p1]) s 1 6 (dA ad n s.heap.size)) (F0 m 56 ls []) := by
    intro S0 v0 v1 tv0 H locs ls hf hW hS hl
    unfold f_X10_removedOn_L56 at hf
    refine lv_aload_n hx hb dX10_removedOn_56 rfl (lv_at hl 0 rfl) ?_
    replace hf := obE hf
    obtain ⟨j9, qj9, hf⟩ := hf
    have tj9 := x_rt hW qj9 7 ⟨by decide, rfl⟩
    refine x_getr 906 (ci := 9) (C := RX10) (T := TX10) (N := 11) 6 hC hin10 hW tv0 rfl rfl ⟨by decide, by decide, rfl, rfl⟩ rfl w_0 dX10_removedOn_57 qj9 ?_
    replace hf := obE hf
    obtain ⟨j10, qj10, hf⟩ := hf
    have tj10 := x_rt hW qj10 8 ⟨by decide, rfl⟩
    refine x_getrN 710 (ci := 7) (C := RX8) (T := TX8) (N := 16) 10 hC hin8 hW tj9 rfl rfl ⟨by decide, by decide, rfl, rfl⟩ rfl w_1 dX10_removedOn_60 qj10 ?_
    refine lv_iload_n hx hb dX10_removedOn_63 rfl (lv_at hl 1 rfl) ?_
    replace hf := obE hf
    obtain ⟨z11, hz11, hf⟩ := hf
    obtain ⟨r13, S12⟩ := z11
    replace hf := ltE (ltE hf r13 rfl) S12 rfl
    refine x_callV (As := [.int v1]) (rest := []) (o := (some (.int r13))) (S1 := S12) hC hl.1 hW hS hGs hA tj10 rfl (show vwCl[8]? = some (RX9, TX9, 8) ∧ 8 < 11 from ⟨rfl, by decide⟩) (c_X9_isStored l g ad n K H.size F S0 j10 v1 tj10 r13 S12 hz11) (cwV 1 hts gX10_removedOn_X9_isStored rfl rfl rfl (by decide +kernel) ⟨Nat.le_of_ble_eq_true rfl, Nat.le_of_ble_eq_true rfl⟩) rfl rfl (Nat.le_of_ble_eq_true rfl) dX10_removedOn_64 ⟨Nat.le_of_ble_eq_true rfl, Nat.le_of_ble_eq_true rfl⟩ (fun H locs hPz11 hW hS => ?_)
    refine W.eq (g2 := F0 m 67 ls [.int r13]) rfl ?_
    refine lv_if_eq (tgt := 74) hx hb dX10_removedOn_67 (by decide) (fun c15 => ?_) (fun c15 => ?_)
    · replace hf := ifT c15 hf
      refine lv_aload_n hx hb dX10_removedOn_74 rfl (lv_at hl 0 rfl) ?_
      replace hf := obE hf
      obtain ⟨j16, qj16, hf⟩ := hf
      have tj16 := x_rt hW qj16 7 ⟨by decide, rfl⟩
      refine x_getr 906 (ci := 9) (C := RX10) (T := TX10) (N := 11) 6 hC hin10 hW tv0 rfl rfl ⟨by decide, by decide, rfl, rfl⟩ rfl w_0 dX10_removedOn_75 qj16 ?_
      refine x_getiN 701 (ci := 7) (C := RX8) (T := TX8) (N := 16) 1 hC hin8 hW tj16 rfl rfl ⟨by decide, by decide, rfl, rfl⟩ rfl w_2 dX10_removedOn_78 ?_
      obtain ⟨e1, e2⟩ := so2 hf
      subst e1
      subst e2
      exact vx_ret (W.iret (v := si S12 701 j16) hx hb hr (fun t ht hWm => ⟨⟨_, rfl, rfl, by unfold QB; rw [ht]; exact ⟨hW, trivial⟩⟩, hS.F ht⟩) hS.2.2 dX10_removedOn_81 hlk)
    · replace hf := ifF c15 hf
      refine lv_iconst (v := -1) hx hb dX10_removedOn_70 (by decide) ?_
      refine lv_goto (tgt := 81) hx hb dX10_removedOn_71 (by decide) ?_
      obtain ⟨e1, e2⟩ := so2 hf
      subst e1
      subst e2
      exact vx_ret (W.iret (v := (-1)) hx hb hr (fun t ht hWm => ⟨⟨_, rfl, rfl, by unfold QB; rw [ht]; exact ⟨hW, trivial⟩⟩, hS.F ht⟩) hS.2.2 dX10_removedOn_81 hlk)
  have L11 : ∀ (fu11 : Nat) (S0 : St) (v0 : Nat) (v1 : Int32) (v2 : Int32) (tv0 : v0 < n ∧ K v0 = 9) (H : Heap) (locs : List Loc) (ls : Array Slot), f_X10_removedOn_L11 F fu11 S0 v0 v1 v2 = some (o9, S9) → Wb g ad n K S0 (dA ad n s.heap.size) H → va_S (dA ad n s.heap.size) s.heap H locs → lv_has ls 3 [(0, .ref (ad v0)), (1, .int v1), (2, .int v2)] → W p l e (headSpec wsX10_removedOn { frames := 7, cells := 1, slots := 6, locals := 138 }).room s m (List.toArray [.ref (ad p0), .int p1]) below meth c H locs 1 6 (vx_MQ below (QT o9 (fun r => some (.int r)) (QB g ad n K S9 (dA ad n s.heap.size) True) (dA ad n s.heap.size)) (XT o9 (QB g ad n K S9 (dA ad n s.heap.size) True) (dA ad n s.heap.size)) (List.toArray [.ref (ad p0), .int p1]) s 1 6 (dA ad n s.heap.size)) (F0 m 11 ls []) := by
    intro fu11
    induction fu11 with
    | zero =>
      intro S0 v0 v1 v2 tv0 H locs ls hf
      cases hf
    | succ fu11 ih11 =>
      intro S0 v0 v1 v2 tv0 H locs ls hf hW hS hl
      unfold f_X10_removedOn_L11 at hf
      refine lv_iload_n hx hb dX10_removedOn_11 rfl (lv_at hl 2 rfl) ?_
      refine lv_sipush (v := 2000) hx hb dX10_removedOn_12 (by decide) ?_
      refine lv_icmp_ge (tgt := 56) hx hb dX10_removedOn_15 (by decide) (fun c37 => ?_) (fun c37 => ?_)
      · replace hf := ifT c37 hf
        exact L56 S0 v0 v1 tv0 _ _ _ hf hW hS (lv_sub hl [0, 1] rfl)
      · replace hf := ifF c37 hf
        refine lv_aload_n hx hb dX10_removedOn_18 rfl (lv_at hl 0 rfl) ?_
        replace hf := obE hf
        obtain ⟨j38, qj38, hf⟩ := hf
        have tj38 := x_rt hW qj38 7 ⟨by decide, rfl⟩
        refine x_getr 906 (ci := 9) (C := RX10) (T := TX10) (N := 11) 6 hC hin10 hW tv0 rfl rfl ⟨by decide, by decide, rfl, rfl⟩ rfl w_0 dX10_removedOn_19 qj38 ?_
        replace hf := obE hf
        obtain ⟨j39, qj39, hf⟩ := hf
        have tj39 := x_rt hW qj39 8 ⟨by decide, rfl⟩
        refine x_getrN 710 (ci := 7) (C := RX8) (T := TX8) (N := 16) 10 hC hin8 hW tj38 rfl rfl ⟨by decide, by decide, rfl, rfl⟩ rfl w_1 dX10_removedOn_22 qj39 ?_
        refine lv_iload_n hx hb dX10_removedOn_25 rfl (lv_at hl 1 rfl) ?_
        replace hf := obE hf
        obtain ⟨z40, hz40, hf⟩ := hf
        obtain ⟨r42, S41⟩ := z40
        replace hf := ltE (ltE hf r42 rfl) S41 rfl
        refine x_callV (As := [.int v1]) (rest := []) (o := (some (.int r42))) (S1 := S41) hC hl.1 hW hS hGs hA tj39 rfl (show vwCl[8]? = some (RX9, TX9, 8) ∧ 8 < 11 from ⟨rfl, by decide⟩) (c_X9_isStored l g ad n K H.size F S0 j39 v1 tj39 r42 S41 hz40) (cwV 1 hts gX10_removedOn_X9_isStored rfl rfl rfl (by decide +kernel) ⟨Nat.le_of_ble_eq_true rfl, Nat.le_of_ble_eq_true rfl⟩) rfl rfl (Nat.le_of_ble_eq_true rfl) dX10_removedOn_26 ⟨Nat.le_of_ble_eq_true rfl, Nat.le_of_ble_eq_true rfl⟩ (fun H locs hPz40 hW hS => ?_)
        refine W.eq (g2 := F0 m 29 ls [.int r42]) rfl ?_
        refine lv_if_eq (tgt := 56) hx hb dX10_removedOn_29 (by decide) (fun c44 => ?_) (fun c44 => ?_)
        · replace hf := ifT c44 hf
          exact L56 S41 v0 v1 tv0 _ _ _ hf hW hS (lv_sub hl [0, 1] rfl)
        · replace hf := ifF c44 hf
          refine lv_aload_n hx hb dX10_removedOn_32 rfl (lv_at hl 0 rfl) ?_
          replace hf := obE hf
          obtain ⟨j45, qj45, hf⟩ := hf
          have tj45 := x_rt hW qj45 7 ⟨by decide, rfl⟩
          refine x_getr 906 (ci := 9) (C := RX10) (T := TX10) (N := 11) 6 hC hin10 hW tv0 rfl rfl ⟨by decide, by decide, rfl, rfl⟩ rfl w_0 dX10_removedOn_33 qj45 ?_
          replace hf := obE hf
          obtain ⟨z46, hz46, hf⟩ := hf
          obtain ⟨r48, S47⟩ := z46
          replace hf := ltE (ltE hf r48 rfl) S47 rfl
          refine x_callV (As := []) (rest := []) (o := (some (.int r48))) (S1 := S47) hC hl.1 hW hS hGs hA tj45 rfl (show vwCl[7]? = some (RX8, TX8, 16) ∧ 7 < 11 from ⟨rfl, by decide⟩) (c_X8_isAtRest l g ad n K H.size F S41 j45 tj45 r48 S47 hz46) (cwV 0 hts gX10_removedOn_X8_isAtRest rfl rfl rfl (by decide +kernel) ⟨Nat.le_of_ble_eq_true rfl, Nat.le_of_ble_eq_true rfl⟩) rfl rfl (Nat.le_of_ble_eq_true rfl) dX10_removedOn_36 ⟨Nat.le_of_ble_eq_true rfl, Nat.le_of_ble_eq_true rfl⟩ (fun H locs hPz46 hW hS => ?_)
          refine W.eq (g2 := F0 m 39 ls [.int r48]) rfl ?_
          refine lv_if_ne (tgt := 56) hx hb dX10_removedOn_39 (by decide) (fun c50 => ?_) (fun c50 => ?_)
          · replace hf := ifT c50 hf
            exact L56 S47 v0 v1 tv0 _ _ _ hf hW hS (lv_sub hl [0, 1] rfl)
          · replace hf := ifF (fun q => q c50) hf
            refine lv_aload_n hx hb dX10_removedOn_42 rfl (lv_at hl 0 rfl) ?_
            replace hf := obE hf
            obtain ⟨j51, qj51, hf⟩ := hf
            have tj51 := x_rt hW qj51 7 ⟨by decide, rfl⟩
            refine x_getr 906 (ci := 9) (C := RX10) (T := TX10) (N := 11) 6 hC hin10 hW tv0 rfl rfl ⟨by decide, by decide, rfl, rfl⟩ rfl w_0 dX10_removedOn_43 qj51 ?_
            replace hf := obE hf
            obtain ⟨z52, hz52, hf⟩ := hf
            obtain ⟨r54, S53⟩ := z52
            replace hf := ltE (ltE hf r54 rfl) S53 rfl
            refine x_callV (As := []) (rest := []) (o := (some (.int r54))) (S1 := S53) hC hl.1 hW hS hGs hA tj51 rfl (show vwCl[7]? = some (RX8, TX8, 16) ∧ 7 < 11 from ⟨rfl, by decide⟩) (c_X8_beginDay l g ad n K H.size F S47 j51 tj51 r54 S53 hz52) (cwV 0 hts gX10_removedOn_X8_beginDay rfl rfl rfl (by decide +kernel) ⟨Nat.le_of_ble_eq_true rfl, Nat.le_of_ble_eq_true rfl⟩) rfl rfl (Nat.le_of_ble_eq_true rfl) dX10_removedOn_46 ⟨Nat.le_of_ble_eq_true rfl, Nat.le_of_ble_eq_true rfl⟩ (fun H locs hPz52 hW hS => ?_)
            refine W.eq (g2 := F0 m 49 ls [.int r54]) rfl ?_
            refine lv_pop hx hb dX10_removedOn_49 rfl ?_
            obtain ⟨x56, ex56⟩ : ∃ z : Int32, z = v2 + 1 := ⟨_, rfl⟩
            replace hf := ltE hf x56 ex56
            refine lv_iinc (v := x56) (lv' := [(2, .int x56), (0, .ref (ad v0)), (1, .int v1)]) hx hb dX10_removedOn_50 hl (k := 2) rfl (by rw [ex56]; rfl) (by decide) rfl (fun ls hl => ?_)
            refine lv_goto (tgt := 11) hx hb dX10_removedOn_53 (by decide) ?_
            exact ih11 S53 v0 v1 x56 tv0 _ _ _ hf hW hS (lv_sub hl [1, 2, 0] rfl)
  unfold f_X10_removedOn at hf
  refine lv_aload_n hx hb dX10_removedOn_0 rfl (lv_at hl 0 rfl) ?_
  refine lv_iload_n hx hb dX10_removedOn_1 rfl (lv_at hl 1 rfl) ?_
  replace hf := obE hf
  obtain ⟨z57, hz57, hf⟩ := hf
  obtain ⟨oz57, S58⟩ := z57
  replace hf := ltE hf S58 rfl
  refine x_tcallV (As := [.int p1]) (rest := []) (S1 := S58) (o := oz57) (vr := (fun _ => none)) (P := True) hC hl.1 hW hS hGs hA tp0 rfl (show vwCl[9]? = some (RX10, TX10, 11) ∧ 9 < 11 from ⟨rfl, by decide⟩) (c_X10_needPart l hfl g ad n K s.heap.size F S0 p0 p1 tp0 oz57 S58 hz57) (cwV 1 hts gX10_removedOn_X10_needPart rfl rfl rfl (by decide +kernel) ⟨Nat.le_of_ble_eq_true rfl, Nat.le_of_ble_eq_true rfl⟩) rfl rfl (Nat.le_of_ble_eq_true rfl) dX10_removedOn_2 ⟨Nat.le_of_ble_eq_true rfl, Nat.le_of_ble_eq_true rfl⟩ (fun x61 H locs ce q9 ho hW hS hc1 hc2 hc3 => ?_) (fun r59 H locs ho hP hW hS => ?_)
  · replace hf := smL ho hf
    obtain ⟨e1, e2⟩ := so2 hf
    subst e1
    subst e2
    exact x_tout hno hlk rfl hW hS hc1 hc2 hc3 (Nat.le_of_ble_eq_true rfl) (Nat.le_of_ble_eq_true rfl)
  · replace hf := smR ho hf
    refine W.widen (k := 1) (n := 6) (Nat.le_of_ble_eq_true rfl) (Nat.le_of_ble_eq_true rfl) ?_
    refine W.eq (g2 := F0 m 5 ls []) rfl ?_
    refine lv_aload_n hx hb dX10_removedOn_5 rfl (lv_at hl 0 rfl) ?_
    replace hf := obE hf
    obtain ⟨S66, hz65, hf⟩ := hf
    refine x_callV (As := []) (rest := []) (o := none) (S1 := S66) hC hl.1 hW hS hGs hA tp0 rfl (show vwCl[9]? = some (RX10, TX10, 11) ∧ 9 < 11 from ⟨rfl, by decide⟩) (c_X10_lookAhead l g ad n K H.size F S58 p0 tp0 S66 hz65) (cwV 0 hts gX10_removedOn_X10_lookAhead rfl rfl rfl (by decide +kernel) ⟨Nat.le_of_ble_eq_true rfl, Nat.le_of_ble_eq_true rfl⟩) rfl rfl (Nat.le_of_ble_eq_true rfl) dX10_removedOn_6 ⟨Nat.le_of_ble_eq_true rfl, Nat.le_of_ble_eq_true rfl⟩ (fun H locs hPz65 hW hS => ?_)
    refine W.eq (g2 := F0 m 9 ls []) rfl ?_
    refine lv_iconst (v := 0) hx hb dX10_removedOn_9 (by decide) ?_
    refine lv_istore_n (lv' := [(2, .int 0), (0, .ref (ad p0)), (1, .int p1)]) hx hb dX10_removedOn_10 rfl hl (by decide) rfl (fun ls hl => ?_)
    exact L11 F S66 p0 p1 0 tp0 _ _ _ hf hW hS (lv_sub hl [1, 2, 0] rfl)
set_option maxHeartbeats 4000000 in
set_option maxRecDepth 100000 in
theorem c_X10_emptyOn (l : Launch) (g : GP) (ad : Nat → Nat) (n : Nat) (K : Nat → Nat) (sz F : Nat) (S0 : St) (p0 : Nat) (tp0 : p0 < n ∧ K p0 = 9) (r9 : Int32) (S9 : St) (hf : f_X10_emptyOn F S0 p0 = some (r9, S9)) : Met l yX10_emptyOn wsX10_emptyOn { frames := 6, cells := 0, slots := 0, locals := 138 } (va_Pc [.ref (ad p0)] (PB g ad n K S0 sz)) (QR (some (.int r9)) (QB g ad n K S9 (dA ad n sz) (True)) (dA ad n sz)) 0 0 (dA ad n sz) := by
  refine Met.ofW (cc := cX10_emptyOn) (maxL := 2) (ret := (some .int)) (by decide) rfl ?_
  intro p e s m args below meth c s₁ B hml hv
  obtain ⟨rfl, hsz, hW, hK, hGs⟩ := x_start hv
  subst hsz
  have hx := B.exec
  have hb := B.bytes
  have hr := B.returns
  have hts := atoms_spec (ws := wsX10_emptyOn) B.pre
  have hown : s.vm.findClass RX10 = some m.cls := findClass_of_methodNamed B.named
  have hlk := B.notSynchronized
  have hC : Cx g p s m _ c cX10_emptyOn RX10 wsX10_emptyOn 2 := ⟨hx, hb, hml, hown, hts, hK⟩
  have hA : ∀ q : Nat, s.heap.size ≤ q → dA ad n s.heap.size q := fun q h => Or.inr h
  have hS : va_S (dA ad n s.heap.size) s.heap s.heap [] := va_S.rf
  have hl := lv_entry ([.ref (ad p0)]) (n := 2) (Nat.le_of_ble_eq_true rfl)
  rw [lg_entry_eq]
  generalize (lg_sl ([.ref (ad p0)]) ++ List.replicate (2 - (lg_sl ([.ref (ad p0)])).length) Slot.unset).toArray = ls at hl ⊢
  have hl : lv_has ls 2 [(0, .ref (ad p0))] := hl
  have hin8 : ∀ w ∈ wsX80, w ∈ wsX10_emptyOn := by decide +kernel
  have hin9 : ∀ w ∈ wsX90, w ∈ wsX10_emptyOn := by decide +kernel
  have hin10 : ∀ w ∈ wsX100, w ∈ wsX10_emptyOn := by decide +kernel
  have w_0 := hts (.fieldLink RX10 46 "MailSpool" "later" "LMailSpool$Spool;") (by decide +kernel)
  have w_1 := va_Nw.use (A := (List.toArray [.ref (ad p0)])) rfl (hGs.1 (.fieldLinkNest RX10 186 "MailSpool$Spool" "store" "LMailSpool$Store;" "MailSpool") (by decide +kernel))
  have w_2 := va_Nw.use (A := (List.toArray [.ref (ad p0)])) rfl (hGs.1 (.fieldLinkNest RX10 254 "MailSpool$Store" "stored" "I" "MailSpool") (by decide +kernel))
  have w_3 := va_Nw.use (A := (List.toArray [.ref (ad p0)])) rfl (hGs.1 (.fieldLinkNest RX10 166 "MailSpool$Spool" "day" "I" "MailSpool") (by decide +kernel))
  have hGE := hGs.2.2.2.2.2.2.1
  have hGM := hGs.2.2.2.2.2.2.2.1
  have L50 : ∀ (S0 : St) (v0 : Nat) (tv0 : v0 < n ∧ K v0 = 9) (H : Heap) (locs : List Loc) (ls : Array Slot), f_X10_emptyOn_L50 F S0 v0 = some (r9, S9) → Wb g ad n K S0 (dA ad n s.heap.size) H → va_S (dA ad n s.heap.size) s.heap H locs → lv_has ls 2 [(0, .ref (ad v0))] → W p l e (headSpec wsX10_emptyOn { frames := 6, cells := 0, slots := 0, locals := 138 }).room s m (List.toArray [.ref (ad p0)]) below meth c H locs 0 0 (MQ below (QR (some (.int r9)) (QB g ad n K S9 (dA ad n s.heap.size) (True)) (dA ad n s.heap.size)) (List.toArray [.ref (ad p0)]) s 0 0 (dA ad n s.heap.size)) (F0 m 50 ls []) := by
    intro S0 v0 tv0 H locs ls hf hW hS hl
    unfold f_X10_emptyOn_L50 at hf
    refine lv_aload_n hx hb dX10_emptyOn_50 rfl (lv_at hl 0 rfl) ?_
    replace hf := obE hf
    obtain ⟨j5, qj5, hf⟩ := hf
    have tj5 := x_rt hW qj5 7 ⟨by decide, rfl⟩
    refine x_getr 906 (ci := 9) (C := RX10) (T := TX10) (N := 11) 6 hC hin10 hW tv0 rfl rfl ⟨by decide, by decide, rfl, rfl⟩ rfl w_0 dX10_emptyOn_51 qj5 ?_
    replace hf := obE hf
    obtain ⟨j6, qj6, hf⟩ := hf
    have tj6 := x_rt hW qj6 8 ⟨by decide, rfl⟩
    refine x_getrN 710 (ci := 7) (C := RX8) (T := TX8) (N := 16) 10 hC hin8 hW tj5 rfl rfl ⟨by decide, by decide, rfl, rfl⟩ rfl w_1 dX10_emptyOn_54 qj6 ?_
    refine x_getiN 801 (ci := 8) (C := RX9) (T := TX9) (N := 8) 1 hC hin9 hW tj6 rfl rfl ⟨by decide, by decide, rfl, rfl⟩ rfl w_2 dX10_emptyOn_57 ?_
    refine lv_if_le (tgt := 67) hx hb dX10_emptyOn_60 (by decide) (fun c7 => ?_) (fun c7 => ?_)
    · replace hf := ifT c7 hf
      refine lv_aload_n hx hb dX10_emptyOn_67 rfl (lv_at hl 0 rfl) ?_
      replace hf := obE hf
      obtain ⟨j8, qj8, hf⟩ := hf
      have tj8 := x_rt hW qj8 7 ⟨by decide, rfl⟩
      refine x_getr 906 (ci := 9) (C := RX10) (T := TX10) (N := 11) 6 hC hin10 hW tv0 rfl rfl ⟨by decide, by decide, rfl, rfl⟩ rfl w_0 dX10_emptyOn_68 qj8 ?_
      refine x_getiN 701 (ci := 7) (C := RX8) (T := TX8) (N := 16) 1 hC hin8 hW tj8 rfl rfl ⟨by decide, by decide, rfl, rfl⟩ rfl w_3 dX10_emptyOn_71 ?_
      obtain ⟨e1, e2⟩ := so2 hf
      subst e1
      subst e2
      exact W.iret (v := si S0 701 j8) hx hb hr (fun t ht hWm => ⟨⟨rfl, by unfold QB; rw [ht]; exact ⟨hW, trivial⟩⟩, hS.F ht⟩) hS.2.2 dX10_emptyOn_74 hlk
    · replace hf := ifF c7 hf
      refine lv_iconst (v := -1) hx hb dX10_emptyOn_63 (by decide) ?_
      refine lv_goto (tgt := 74) hx hb dX10_emptyOn_64 (by decide) ?_
      obtain ⟨e1, e2⟩ := so2 hf
      subst e1
      subst e2
      exact W.iret (v := (-1)) hx hb hr (fun t ht hWm => ⟨⟨rfl, by unfold QB; rw [ht]; exact ⟨hW, trivial⟩⟩, hS.F ht⟩) hS.2.2 dX10_emptyOn_74 hlk
  have L6 : ∀ (fu6 : Nat) (S0 : St) (v0 : Nat) (v1 : Int32) (tv0 : v0 < n ∧ K v0 = 9) (H : Heap) (locs : List Loc) (ls : Array Slot), f_X10_emptyOn_L6 F fu6 S0 v0 v1 = some (r9, S9) → Wb g ad n K S0 (dA ad n s.heap.size) H → va_S (dA ad n s.heap.size) s.heap H locs → lv_has ls 2 [(0, .ref (ad v0)), (1, .int v1)] → W p l e (headSpec wsX10_emptyOn { frames := 6, cells := 0, slots := 0, locals := 138 }).room s m (List.toArray [.ref (ad p0)]) below meth c H locs 0 0 (MQ below (QR (some (.int r9)) (QB g ad n K S9 (dA ad n s.heap.size) (True)) (dA ad n s.heap.size)) (List.toArray [.ref (ad p0)]) s 0 0 (dA ad n s.heap.size)) (F0 m 6 ls []) := by
    intro fu6
    induction fu6 with
    | zero =>
      intro S0 v0 v1 tv0 H locs ls hf
      cases hf
    | succ fu6 ih6 =>
      intro S0 v0 v1 tv0 H locs ls hf hW hS hl
      unfold f_X10_emptyOn_L6 at hf
      refine lv_iload_n hx hb dX10_emptyOn_6 rfl (lv_at hl 1 rfl) ?_
      refine lv_sipush (v := 2000) hx hb dX10_emptyOn_7 (by decide) ?_
      refine lv_icmp_ge (tgt := 50) hx hb dX10_emptyOn_10 (by decide) (fun c25 => ?_) (fun c25 => ?_)
      · replace hf := ifT c25 hf
        exact L50 S0 v0 tv0 _ _ _ hf hW hS (lv_sub hl [0] rfl)
      · replace hf := ifF c25 hf
        refine lv_aload_n hx hb dX10_emptyOn_13 rfl (lv_at hl 0 rfl) ?_
        replace hf := obE hf
        obtain ⟨j26, qj26, hf⟩ := hf
        have tj26 := x_rt hW qj26 7 ⟨by decide, rfl⟩
        refine x_getr 906 (ci := 9) (C := RX10) (T := TX10) (N := 11) 6 hC hin10 hW tv0 rfl rfl ⟨by decide, by decide, rfl, rfl⟩ rfl w_0 dX10_emptyOn_14 qj26 ?_
        replace hf := obE hf
        obtain ⟨j27, qj27, hf⟩ := hf
        have tj27 := x_rt hW qj27 8 ⟨by decide, rfl⟩
        refine x_getrN 710 (ci := 7) (C := RX8) (T := TX8) (N := 16) 10 hC hin8 hW tj26 rfl rfl ⟨by decide, by decide, rfl, rfl⟩ rfl w_1 dX10_emptyOn_17 qj27 ?_
        refine x_getiN 801 (ci := 8) (C := RX9) (T := TX9) (N := 8) 1 hC hin9 hW tj27 rfl rfl ⟨by decide, by decide, rfl, rfl⟩ rfl w_2 dX10_emptyOn_20 ?_
        refine lv_if_le (tgt := 50) hx hb dX10_emptyOn_23 (by decide) (fun c28 => ?_) (fun c28 => ?_)
        · replace hf := ifT c28 hf
          exact L50 S0 v0 tv0 _ _ _ hf hW hS (lv_sub hl [0] rfl)
        · replace hf := ifF c28 hf
          refine lv_aload_n hx hb dX10_emptyOn_26 rfl (lv_at hl 0 rfl) ?_
          replace hf := obE hf
          obtain ⟨j29, qj29, hf⟩ := hf
          have tj29 := x_rt hW qj29 7 ⟨by decide, rfl⟩
          refine x_getr 906 (ci := 9) (C := RX10) (T := TX10) (N := 11) 6 hC hin10 hW tv0 rfl rfl ⟨by decide, by decide, rfl, rfl⟩ rfl w_0 dX10_emptyOn_27 qj29 ?_
          replace hf := obE hf
          obtain ⟨z30, hz30, hf⟩ := hf
          obtain ⟨r32, S31⟩ := z30
          replace hf := ltE (ltE hf r32 rfl) S31 rfl
          refine x_callV (As := []) (rest := []) (o := (some (.int r32))) (S1 := S31) hC hl.1 hW hS hGs hA tj29 rfl (show vwCl[7]? = some (RX8, TX8, 16) ∧ 7 < 11 from ⟨rfl, by decide⟩) (c_X8_isAtRest l g ad n K H.size F S0 j29 tj29 r32 S31 hz30) (cwV 0 hts gX10_emptyOn_X8_isAtRest rfl rfl rfl (by decide +kernel) ⟨Nat.le_of_ble_eq_true rfl, Nat.le_of_ble_eq_true rfl⟩) rfl rfl (Nat.le_of_ble_eq_true rfl) dX10_emptyOn_30 ⟨Nat.le_of_ble_eq_true rfl, Nat.le_of_ble_eq_true rfl⟩ (fun H locs hPz30 hW hS => ?_)
          refine W.eq (g2 := F0 m 33 ls [.int r32]) rfl ?_
          refine lv_if_ne (tgt := 50) hx hb dX10_emptyOn_33 (by decide) (fun c34 => ?_) (fun c34 => ?_)
          · replace hf := ifT c34 hf
            exact L50 S31 v0 tv0 _ _ _ hf hW hS (lv_sub hl [0] rfl)
          · replace hf := ifF (fun q => q c34) hf
            refine lv_aload_n hx hb dX10_emptyOn_36 rfl (lv_at hl 0 rfl) ?_
            replace hf := obE hf
            obtain ⟨j35, qj35, hf⟩ := hf
            have tj35 := x_rt hW qj35 7 ⟨by decide, rfl⟩
            refine x_getr 906 (ci := 9) (C := RX10) (T := TX10) (N := 11) 6 hC hin10 hW tv0 rfl rfl ⟨by decide, by decide, rfl, rfl⟩ rfl w_0 dX10_emptyOn_37 qj35 ?_
            replace hf := obE hf
            obtain ⟨z36, hz36, hf⟩ := hf
            obtain ⟨r38, S37⟩ := z36
            replace hf := ltE (ltE hf r38 rfl) S37 rfl
            refine x_callV (As := []) (rest := []) (o := (some (.int r38))) (S1 := S37) hC hl.1 hW hS hGs hA tj35 rfl (show vwCl[7]? = some (RX8, TX8, 16) ∧ 7 < 11 from ⟨rfl, by decide⟩) (c_X8_beginDay l g ad n K H.size F S31 j35 tj35 r38 S37 hz36) (cwV 0 hts gX10_emptyOn_X8_beginDay rfl rfl rfl (by decide +kernel) ⟨Nat.le_of_ble_eq_true rfl, Nat.le_of_ble_eq_true rfl⟩) rfl rfl (Nat.le_of_ble_eq_true rfl) dX10_emptyOn_40 ⟨Nat.le_of_ble_eq_true rfl, Nat.le_of_ble_eq_true rfl⟩ (fun H locs hPz36 hW hS => ?_)
            refine W.eq (g2 := F0 m 43 ls [.int r38]) rfl ?_
            refine lv_pop hx hb dX10_emptyOn_43 rfl ?_
            obtain ⟨x40, ex40⟩ : ∃ z : Int32, z = v1 + 1 := ⟨_, rfl⟩
            replace hf := ltE hf x40 ex40
            refine lv_iinc (v := x40) (lv' := [(1, .int x40), (0, .ref (ad v0))]) hx hb dX10_emptyOn_44 hl (k := 1) rfl (by rw [ex40]; rfl) (by decide) rfl (fun ls hl => ?_)
            refine lv_goto (tgt := 6) hx hb dX10_emptyOn_47 (by decide) ?_
            exact ih6 S37 v0 x40 tv0 _ _ _ hf hW hS (lv_sub hl [1, 0] rfl)
  unfold f_X10_emptyOn at hf
  refine lv_aload_n hx hb dX10_emptyOn_0 rfl (lv_at hl 0 rfl) ?_
  replace hf := obE hf
  obtain ⟨S42, hz41, hf⟩ := hf
  refine x_callV (As := []) (rest := []) (o := none) (S1 := S42) hC hl.1 hW hS hGs hA tp0 rfl (show vwCl[9]? = some (RX10, TX10, 11) ∧ 9 < 11 from ⟨rfl, by decide⟩) (c_X10_lookAhead l g ad n K s.heap.size F S0 p0 tp0 S42 hz41) (cwV 0 hts gX10_emptyOn_X10_lookAhead rfl rfl rfl (by decide +kernel) ⟨Nat.le_of_ble_eq_true rfl, Nat.le_of_ble_eq_true rfl⟩) rfl rfl (Nat.le_of_ble_eq_true rfl) dX10_emptyOn_1 ⟨Nat.le_of_ble_eq_true rfl, Nat.le_of_ble_eq_true rfl⟩ (fun H locs hPz41 hW hS => ?_)
  refine W.eq (g2 := F0 m 4 ls []) rfl ?_
  refine lv_iconst (v := 0) hx hb dX10_emptyOn_4 (by decide) ?_
  refine lv_istore_n (lv' := [(1, .int 0), (0, .ref (ad p0))]) hx hb dX10_emptyOn_5 rfl hl (by decide) rfl (fun ls hl => ?_)
  exact L6 F S42 p0 0 tp0 _ _ _ hf hW hS (lv_sub hl [1, 0] rfl)
set_option maxHeartbeats 4000000 in
set_option maxRecDepth 100000 in
theorem c_X10_needDaysAhead (l : Launch) (hfl : l.stackTraces = false) (g : GP) (ad : Nat → Nat) (n : Nat) (K : Nat → Nat) (sz F : Nat) (S0 : St) (p0 : Int32) (o9 : Nat ⊕ Unit) (S9 : St) (hf : f_X10_needDaysAhead F S0 p0 = some (o9, S9)) : vx_Met l yX10_needDaysAhead wsX10_needDaysAhead { frames := 6, cells := 1, slots := 6, locals := 100 } (va_Pc [.int p0] (PB g ad n K S0 sz)) (QT o9 (fun _ => none) (QB g ad n K S9 (dA ad n sz) True) (dA ad n sz)) (XT o9 (QB g ad n K S9 (dA ad n sz) True) (dA ad n sz)) 1 6 (dA ad n sz) := by
  refine vx_ofW (cc := cX10_needDaysAhead) (maxL := 1) (ret := none) (by decide) rfl ?_
  intro p e s m args below meth c s₁ B hml hno hv
  obtain ⟨rfl, hsz, hW, hK, hGs⟩ := x_start hv
  subst hsz
  have hx := B.exec
  have hb := B.bytes
  have hr := B.returns
  have hts := atoms_spec (ws := wsX10_needDaysAhead) B.pre
  have hown : s.vm.findClass RX10 = some m.cls := findClass_of_methodNamed B.named
  have hlk := B.notSynchronized
  have hC : Cx g p s m _ c cX10_needDaysAhead RX10 wsX10_needDaysAhead 1 := ⟨hx, hb, hml, hown, hts, hK⟩
  have hA : ∀ q : Nat, s.heap.size ≤ q → dA ad n s.heap.size q := fun q h => Or.inr h
  have hS : va_S (dA ad n s.heap.size) s.heap s.heap [] := va_S.rf
  have hl := lv_entry ([.int p0]) (n := 1) (Nat.le_of_ble_eq_true rfl)
  rw [lg_entry_eq]
  generalize (lg_sl ([.int p0]) ++ List.replicate (1 - (lg_sl ([.int p0])).length) Slot.unset).toArray = ls at hl ⊢
  have hl : lv_has ls 1 [(0, .int p0)] := hl
  have w_0 := hts (.classLink RX10 70 "java/lang/IllegalArgumentException") (by decide +kernel)
  have w_1 := hts (.initialized "java/lang/IllegalArgumentException") (by decide +kernel)
  have hat2 : ∀ w ∈ (vx_atS RX10 74 (exn 2) exNm).filter goodWord, w.before _ s = true := fun w h => hts w ((by decide +kernel : ∀ w ∈ (vx_atS RX10 74 (exn 2) exNm).filter goodWord, w ∈ wsX10_needDaysAhead) w h)
  have hGE := hGs.2.2.2.2.2.2.1
  have hGM := hGs.2.2.2.2.2.2.2.1
  have L11 : ∀ (S0 : St)   (H : Heap) (locs : List Loc) (ls : Array Slot), f_X10_needDaysAhead_L11 F S0  = some (o9, S9) → Wb g ad n K S0 (dA ad n s.heap.size) H → va_S (dA ad n s.heap.size) s.heap H locs → lv_has ls 1 [] → W p l e (headSpec wsX10_needDaysAhead { frames := 6, cells := 1, slots := 6, locals := 100 }).room s m (List.toArray [.int p0]) below meth c H locs 0 0 (vx_MQ below (QT o9 (fun _ => none) (QB g ad n K S9 (dA ad n s.heap.size) True) (dA ad n s.heap.size)) (XT o9 (QB g ad n K S9 (dA ad n s.heap.size) True) (dA ad n s.heap.size)) (List.toArray [.int p0]) s 1 6 (dA ad n s.heap.size)) (F0 m 11 ls []) := by
    intro S0  H locs ls hf hW hS hl
    unfold f_X10_needDaysAhead_L11 at hf
    obtain ⟨e1, e2⟩ := so2 hf
    subst e1
    subst e2
    exact x_throwSW (x := 2) (text := "no such number of days") hC hfl hno hl.1 hGs hS hlk w_0 w_1 (by decide +kernel) hat2 ⟨by decide +kernel, by decide +kernel, by decide +kernel⟩ dX10_needDaysAhead_11 dX10_needDaysAhead_14 dX10_needDaysAhead_15 dX10_needDaysAhead_18 dX10_needDaysAhead_21 (Nat.le_of_ble_eq_true rfl) (Nat.le_of_ble_eq_true rfl) (Nat.le_of_ble_eq_true rfl) (Nat.le_of_ble_eq_true rfl) (Nat.le_of_ble_eq_true rfl) (Nat.le_of_ble_eq_true rfl) (fun t hv hq hF => ⟨⟨2, rfl, rfl, hW.kept hq, trivial⟩, hF⟩)
  unfold f_X10_needDaysAhead at hf
  refine lv_iload_n hx hb dX10_needDaysAhead_0 rfl (lv_at hl 0 rfl) ?_
  refine lv_if_lt (tgt := 11) hx hb dX10_needDaysAhead_1 (by decide) (fun c1 => ?_) (fun c1 => ?_)
  · replace hf := ifT c1 hf
    exact L11 S0 _ _ _ hf hW hS (lv_sub hl [] rfl)
  · replace hf := ifF c1 hf
    refine lv_iload_n hx hb dX10_needDaysAhead_4 rfl (lv_at hl 0 rfl) ?_
    refine lv_sipush (v := 2000) hx hb dX10_needDaysAhead_5 (by decide) ?_
    refine lv_icmp_le (tgt := 22) hx hb dX10_needDaysAhead_8 (by decide) (fun c2 => ?_) (fun c2 => ?_)
    · replace hf := ifT c2 hf
      obtain ⟨e1, e2⟩ := so2 hf
      subst e1
      subst e2
      refine W.widen (k := 1) (n := 6) (Nat.le_of_ble_eq_true rfl) (Nat.le_of_ble_eq_true rfl) ?_
      exact vx_ret (W.vret hx hb hr (fun t ht hWm => ⟨⟨_, rfl, rfl, by unfold QB; rw [ht]; exact ⟨hW, trivial⟩⟩, hS.F ht⟩) hS.2.2 dX10_needDaysAhead_22 hlk)
    · replace hf := ifF c2 hf
      exact L11 S0 _ _ _ hf hW hS (lv_sub hl [] rfl)
set_option maxHeartbeats 4000000 in
set_option maxRecDepth 100000 in
theorem c_X10_bytesAfter (l : Launch) (hfl : l.stackTraces = false) (g : GP) (ad : Nat → Nat) (n : Nat) (K : Nat → Nat) (sz F : Nat) (S0 : St) (p0 : Nat) (p1 : Int32) (tp0 : p0 < n ∧ K p0 = 9) (o9 : Nat ⊕ Int32) (S9 : St) (hf : f_X10_bytesAfter F S0 p0 p1 = some (o9, S9)) : vx_Met l yX10_bytesAfter wsX10_bytesAfter { frames := 7, cells := 1, slots := 6, locals := 138 } (va_Pc [.ref (ad p0), .int p1] (PB g ad n K S0 sz)) (QT o9 (fun r => some (.int r)) (QB g ad n K S9 (dA ad n sz) True) (dA ad n sz)) (XT o9 (QB g ad n K S9 (dA ad n sz) True) (dA ad n sz)) 1 6 (dA ad n sz) := by
  refine vx_ofW (cc := cX10_bytesAfter) (maxL := 3) (ret := (some .int)) (by decide) rfl ?_
  intro p e s m args below meth c s₁ B hml hno hv
  obtain ⟨rfl, hsz, hW, hK, hGs⟩ := x_start hv
  subst hsz
  have hx := B.exec
  have hb := B.bytes
  have hr := B.returns
  have hts := atoms_spec (ws := wsX10_bytesAfter) B.pre
  have hown : s.vm.findClass RX10 = some m.cls := findClass_of_methodNamed B.named
  have hlk := B.notSynchronized
  have hC : Cx g p s m _ c cX10_bytesAfter RX10 wsX10_bytesAfter 3 := ⟨hx, hb, hml, hown, hts, hK⟩
  have hA : ∀ q : Nat, s.heap.size ≤ q → dA ad n s.heap.size q := fun q h => Or.inr h
  have hS : va_S (dA ad n s.heap.size) s.heap s.heap [] := va_S.rf
  have hl := lv_entry ([.ref (ad p0), .int p1]) (n := 3) (Nat.le_of_ble_eq_true rfl)
  rw [lg_entry_eq]
  generalize (lg_sl ([.ref (ad p0), .int p1]) ++ List.replicate (3 - (lg_sl ([.ref (ad p0), .int p1])).length) Slot.unset).toArray = ls at hl ⊢
  have hl : lv_has ls 3 [(0, .ref (ad p0)), (1, .int p1)] := hl
  have hin8 : ∀ w ∈ wsX80, w ∈ wsX10_bytesAfter := by decide +kernel
  have hin10 : ∀ w ∈ wsX100, w ∈ wsX10_bytesAfter := by decide +kernel
  have w_0 := hts (.fieldLink RX10 46 "MailSpool" "later" "LMailSpool$Spool;") (by decide +kernel)
  have w_1 := va_Nw.use (A := (List.toArray [.ref (ad p0), .int p1])) rfl (hGs.1 (.fieldLinkNest RX10 186 "MailSpool$Spool" "store" "LMailSpool$Store;" "MailSpool") (by decide +kernel))
  have hGE := hGs.2.2.2.2.2.2.1
  have hGM := hGs.2.2.2.2.2.2.2.1
  have L39 : ∀ (S0 : St) (v0 : Nat) (tv0 : v0 < n ∧ K v0 = 9) (H : Heap) (locs : List Loc) (ls : Array Slot), f_X10_bytesAfter_L39 F S0 v0 = some (o9, S9) → Wb g ad n K S0 (dA ad n s.heap.size) H → va_S (dA ad n s.heap.size) s.heap H locs → lv_has ls 3 [(0, .ref (ad v0))] → W p l e (headSpec wsX10_bytesAfter { frames := 7, cells := 1, slots := 6, locals := 138 }).room s m (List.toArray [.ref (ad p0), .int p1]) below meth c H locs 1 6 (vx_MQ below (QT o9 (fun r => some (.int r)) (QB g ad n K S9 (dA ad n s.heap.size) True) (dA ad n s.heap.size)) (XT o9 (QB g ad n K S9 (dA ad n s.heap.size) True) (dA ad n s.heap.size)) (List.toArray [.ref (ad p0), .int p1]) s 1 6 (dA ad n s.heap.size)) (F0 m 39 ls []) := by
    intro S0 v0 tv0 H locs ls hf hW hS hl
    unfold f_X10_bytesAfter_L39 at hf
    refine lv_aload_n hx hb dX10_bytesAfter_39 rfl (lv_at hl 0 rfl) ?_
    replace hf := obE hf
    obtain ⟨j7, qj7, hf⟩ := hf
    have tj7 := x_rt hW qj7 7 ⟨by decide, rfl⟩
    refine x_getr 906 (ci := 9) (C := RX10) (T := TX10) (N := 11) 6 hC hin10 hW tv0 rfl rfl ⟨by decide, by decide, rfl, rfl⟩ rfl w_0 dX10_bytesAfter_40 qj7 ?_
    replace hf := obE hf
    obtain ⟨j8, qj8, hf⟩ := hf
    have tj8 := x_rt hW qj8 8 ⟨by decide, rfl⟩
    refine x_getrN 710 (ci := 7) (C := RX8) (T := TX8) (N := 16) 10 hC hin8 hW tj7 rfl rfl ⟨by decide, by decide, rfl, rfl⟩ rfl w_1 dX10_bytesAfter_43 qj8 ?_
    refine lv_iconst (v := 0) hx hb dX10_bytesAfter_46 (by decide) ?_
    replace hf := obE hf
    obtain ⟨z9, hz9, hf⟩ := hf
    obtain ⟨r11, S10⟩ := z9
    replace hf := ltE (ltE hf r11 rfl) S10 rfl
    refine x_callV (As := [.int 0]) (rest := []) (o := (some (.int r11))) (S1 := S10) hC hl.1 hW hS hGs hA tj8 rfl (show vwCl[8]? = some (RX9, TX9, 8) ∧ 8 < 11 from ⟨rfl, by decide⟩) (c_X9_byteSum l g ad n K H.size F S0 j8 ((0 : Int32)) tj8 r11 S10 hz9) (cwV 1 hts gX10_bytesAfter_X9_byteSum rfl rfl rfl (by decide +kernel) ⟨Nat.le_of_ble_eq_true rfl, Nat.le_of_ble_eq_true rfl⟩) rfl rfl (Nat.le_of_ble_eq_true rfl) dX10_bytesAfter_47 ⟨Nat.le_of_ble_eq_true rfl, Nat.le_of_ble_eq_true rfl⟩ (fun H locs hPz9 hW hS => ?_)
    refine W.eq (g2 := F0 m 50 ls [.int r11]) rfl ?_
    obtain ⟨e1, e2⟩ := so2 hf
    subst e1
    subst e2
    exact vx_ret (W.iret (v := r11) hx hb hr (fun t ht hWm => ⟨⟨_, rfl, rfl, by unfold QB; rw [ht]; exact ⟨hW, trivial⟩⟩, hS.F ht⟩) hS.2.2 dX10_bytesAfter_50 hlk)
  have L10 : ∀ (fu10 : Nat) (S0 : St) (v0 : Nat) (v1 : Int32) (v2 : Int32) (tv0 : v0 < n ∧ K v0 = 9) (H : Heap) (locs : List Loc) (ls : Array Slot), f_X10_bytesAfter_L10 F fu10 S0 v0 v1 v2 = some (o9, S9) → Wb g ad n K S0 (dA ad n s.heap.size) H → va_S (dA ad n s.heap.size) s.heap H locs → lv_has ls 3 [(0, .ref (ad v0)), (1, .int v1), (2, .int v2)] → W p l e (headSpec wsX10_bytesAfter { frames := 7, cells := 1, slots := 6, locals := 138 }).room s m (List.toArray [.ref (ad p0), .int p1]) below meth c H locs 1 6 (vx_MQ below (QT o9 (fun r => some (.int r)) (QB g ad n K S9 (dA ad n s.heap.size) True) (dA ad n s.heap.size)) (XT o9 (QB g ad n K S9 (dA ad n s.heap.size) True) (dA ad n s.heap.size)) (List.toArray [.ref (ad p0), .int p1]) s 1 6 (dA ad n s.heap.size)) (F0 m 10 ls []) := by
    intro fu10
    induction fu10 with
    | zero =>
      intro S0 v0 v1 v2 tv0 H locs ls hf
      cases hf
    | succ fu10 ih10 =>
      intro S0 v0 v1 v2 tv0 H locs ls hf hW hS hl
      unfold f_X10_bytesAfter_L10 at hf
      refine lv_iload_n hx hb dX10_bytesAfter_10 rfl (lv_at hl 2 rfl) ?_
      refine lv_iload_n hx hb dX10_bytesAfter_11 rfl (lv_at hl 1 rfl) ?_
      refine lv_icmp_ge (tgt := 39) hx hb dX10_bytesAfter_12 (by decide) (fun c26 => ?_) (fun c26 => ?_)
      · replace hf := ifT c26 hf
        exact L39 S0 v0 tv0 _ _ _ hf hW hS (lv_sub hl [0] rfl)
      · replace hf := ifF c26 hf
        refine lv_aload_n hx hb dX10_bytesAfter_15 rfl (lv_at hl 0 rfl) ?_
        replace hf := obE hf
        obtain ⟨j27, qj27, hf⟩ := hf
        have tj27 := x_rt hW qj27 7 ⟨by decide, rfl⟩
        refine x_getr 906 (ci := 9) (C := RX10) (T := TX10) (N := 11) 6 hC hin10 hW tv0 rfl rfl ⟨by decide, by decide, rfl, rfl⟩ rfl w_0 dX10_bytesAfter_16 qj27 ?_
        replace hf := obE hf
        obtain ⟨z28, hz28, hf⟩ := hf
        obtain ⟨r30, S29⟩ := z28
        replace hf := ltE (ltE hf r30 rfl) S29 rfl
        refine x_callV (As := []) (rest := []) (o := (some (.int r30))) (S1 := S29) hC hl.1 hW hS hGs hA tj27 rfl (show vwCl[7]? = some (RX8, TX8, 16) ∧ 7 < 11 from ⟨rfl, by decide⟩) (c_X8_isAtRest l g ad n K H.size F S0 j27 tj27 r30 S29 hz28) (cwV 0 hts gX10_bytesAfter_X8_isAtRest rfl rfl rfl (by decide +kernel) ⟨Nat.le_of_ble_eq_true rfl, Nat.le_of_ble_eq_true rfl⟩) rfl rfl (Nat.le_of_ble_eq_true rfl) dX10_bytesAfter_19 ⟨Nat.le_of_ble_eq_true rfl, Nat.le_of_ble_eq_true rfl⟩ (fun H locs hPz28 hW hS => ?_)
        refine W.eq (g2 := F0 m 22 ls [.int r30]) rfl ?_
        refine lv_if_ne (tgt := 39) hx hb dX10_bytesAfter_22 (by decide) (fun c32 => ?_) (fun c32 => ?_)
        · replace hf := ifT c32 hf
          exact L39 S29 v0 tv0 _ _ _ hf hW hS (lv_sub hl [0] rfl)
        · replace hf := ifF (fun q => q c32) hf
          refine lv_aload_n hx hb dX10_bytesAfter_25 rfl (lv_at hl 0 rfl) ?_
          replace hf := obE hf
          obtain ⟨j33, qj33, hf⟩ := hf
          have tj33 := x_rt hW qj33 7 ⟨by decide, rfl⟩
          refine x_getr 906 (ci := 9) (C := RX10) (T := TX10) (N := 11) 6 hC hin10 hW tv0 rfl rfl ⟨by decide, by decide, rfl, rfl⟩ rfl w_0 dX10_bytesAfter_26 qj33 ?_
          replace hf := obE hf
          obtain ⟨z34, hz34, hf⟩ := hf
          obtain ⟨r36, S35⟩ := z34
          replace hf := ltE (ltE hf r36 rfl) S35 rfl
          refine x_callV (As := []) (rest := []) (o := (some (.int r36))) (S1 := S35) hC hl.1 hW hS hGs hA tj33 rfl (show vwCl[7]? = some (RX8, TX8, 16) ∧ 7 < 11 from ⟨rfl, by decide⟩) (c_X8_beginDay l g ad n K H.size F S29 j33 tj33 r36 S35 hz34) (cwV 0 hts gX10_bytesAfter_X8_beginDay rfl rfl rfl (by decide +kernel) ⟨Nat.le_of_ble_eq_true rfl, Nat.le_of_ble_eq_true rfl⟩) rfl rfl (Nat.le_of_ble_eq_true rfl) dX10_bytesAfter_29 ⟨Nat.le_of_ble_eq_true rfl, Nat.le_of_ble_eq_true rfl⟩ (fun H locs hPz34 hW hS => ?_)
          refine W.eq (g2 := F0 m 32 ls [.int r36]) rfl ?_
          refine lv_pop hx hb dX10_bytesAfter_32 rfl ?_
          obtain ⟨x38, ex38⟩ : ∃ z : Int32, z = v2 + 1 := ⟨_, rfl⟩
          replace hf := ltE hf x38 ex38
          refine lv_iinc (v := x38) (lv' := [(2, .int x38), (0, .ref (ad v0)), (1, .int v1)]) hx hb dX10_bytesAfter_33 hl (k := 2) rfl (by rw [ex38]; rfl) (by decide) rfl (fun ls hl => ?_)
          refine lv_goto (tgt := 10) hx hb dX10_bytesAfter_36 (by decide) ?_
          exact ih10 S35 v0 v1 x38 tv0 _ _ _ hf hW hS (lv_sub hl [1, 2, 0] rfl)
  unfold f_X10_bytesAfter at hf
  refine lv_iload_n hx hb dX10_bytesAfter_0 rfl (lv_at hl 1 rfl) ?_
  replace hf := obE hf
  obtain ⟨z39, hz39, hf⟩ := hf
  obtain ⟨oz39, S40⟩ := z39
  replace hf := ltE hf S40 rfl
  refine x_tcallS (As := [.int p1]) (rest := []) (S1 := S40) (o := oz39) (vr := (fun _ => none)) (P := True) hC hl.1 hW hS hGs hA (c_X10_needDaysAhead l hfl g ad n K s.heap.size F S0 p1 oz39 S40 hz39) (va_cwS 1 hts gX10_bytesAfter_X10_needDaysAhead rfl rfl rfl (by decide +kernel) ⟨Nat.le_of_ble_eq_true rfl, Nat.le_of_ble_eq_true rfl⟩) rfl rfl (Nat.le_of_ble_eq_true rfl) dX10_bytesAfter_1 ⟨Nat.le_of_ble_eq_true rfl, Nat.le_of_ble_eq_true rfl⟩ (fun x43 H locs ce q9 ho hW hS hc1 hc2 hc3 => ?_) (fun r41 H locs ho hP hW hS => ?_)
  · replace hf := smL ho hf
    obtain ⟨e1, e2⟩ := so2 hf
    subst e1
    subst e2
    exact x_tout hno hlk rfl hW hS hc1 hc2 hc3 (Nat.le_of_ble_eq_true rfl) (Nat.le_of_ble_eq_true rfl)
  · replace hf := smR ho hf
    refine W.widen (k := 1) (n := 6) (Nat.le_of_ble_eq_true rfl) (Nat.le_of_ble_eq_true rfl) ?_
    refine W.eq (g2 := F0 m 4 ls []) rfl ?_
    refine lv_aload_n hx hb dX10_bytesAfter_4 rfl (lv_at hl 0 rfl) ?_
    replace hf := obE hf
    obtain ⟨S48, hz47, hf⟩ := hf
    refine x_callV (As := []) (rest := []) (o := none) (S1 := S48) hC hl.1 hW hS hGs hA tp0 rfl (show vwCl[9]? = some (RX10, TX10, 11) ∧ 9 < 11 from ⟨rfl, by decide⟩) (c_X10_lookAhead l g ad n K H.size F S40 p0 tp0 S48 hz47) (cwV 0 hts gX10_bytesAfter_X10_lookAhead rfl rfl rfl (by decide +kernel) ⟨Nat.le_of_ble_eq_true rfl, Nat.le_of_ble_eq_true rfl⟩) rfl rfl (Nat.le_of_ble_eq_true rfl) dX10_bytesAfter_5 ⟨Nat.le_of_ble_eq_true rfl, Nat.le_of_ble_eq_true rfl⟩ (fun H locs hPz47 hW hS => ?_)
    refine W.eq (g2 := F0 m 8 ls []) rfl ?_
    refine lv_iconst (v := 0) hx hb dX10_bytesAfter_8 (by decide) ?_
    refine lv_istore_n (lv' := [(2, .int 0), (0, .ref (ad p0)), (1, .int p1)]) hx hb dX10_bytesAfter_9 rfl hl (by decide) rfl (fun ls hl => ?_)
    exact L10 F S48 p0 p1 0 tp0 _ _ _ hf hW hS (lv_sub hl [1, 2, 0] rfl)
set_option maxHeartbeats 4000000 in
set_option maxRecDepth 100000 in
theorem c_X8_liveOf (l : Launch) (g : GP) (ad : Nat → Nat) (n : Nat) (K : Nat → Nat) (sz F : Nat) (S0 : St) (p0 : Nat) (p1 : Int32) (tp0 : p0 < n ∧ K p0 = 7) (r9 : Int32) (S9 : St) (hf : f_X8_liveOf F S0 p0 p1 = some (r9, S9)) : Met l yX8_liveOf wsX8_liveOf { frames := 2, cells := 0, slots := 0, locals := 43 } (va_Pc [.ref (ad p0), .int p1] (PB g ad n K S0 sz)) (QR (some (.int r9)) (QB g ad n K S9 (dA ad n sz) (True)) (dA ad n sz)) 0 0 (dA ad n sz) := by
  refine Met.ofW (cc := cX8_liveOf) (maxL := 4) (ret := (some .int)) (by decide) rfl ?_
  intro p e s m args below meth c s₁ B hml hv
  obtain ⟨rfl, hsz, hW, hK, hGs⟩ := x_start hv
  subst hsz
  have hx := B.exec
  have hb := B.bytes
  have hr := B.returns
  have hts := atoms_spec (ws := wsX8_liveOf) B.pre
  have hown : s.vm.findClass RX8 = some m.cls := findClass_of_methodNamed B.named
  have hlk := B.notSynchronized
  have hC : Cx g p s m _ c cX8_liveOf RX8 wsX8_liveOf 4 := ⟨hx, hb, hml, hown, hts, hK⟩
  have hA : ∀ q : Nat, s.heap.size ≤ q → dA ad n s.heap.size q := fun q h => Or.inr h
  have hS : va_S (dA ad n s.heap.size) s.heap s.heap [] := va_S.rf
  have hl := lv_entry ([.ref (ad p0), .int p1]) (n := 4) (Nat.le_of_ble_eq_true rfl)
  rw [lg_entry_eq]
  generalize (lg_sl ([.ref (ad p0), .int p1]) ++ List.replicate (4 - (lg_sl ([.ref (ad p0), .int p1])).length) Slot.unset).toArray = ls at hl ⊢
  have hl : lv_has ls 4 [(0, .ref (ad p0)), (1, .int p1)] := hl
  have hin8 : ∀ w ∈ wsX80, w ∈ wsX8_liveOf := by decide +kernel
  have w_0 := hts (.fieldLink RX8 88 "MailSpool$Spool" "messageCount" "I") (by decide +kernel)
  have hGE := hGs.2.2.2.2.2.2.1
  have hGM := hGs.2.2.2.2.2.2.2.1
  have L4 : ∀ (fu4 : Nat) (S0 : St) (v0 : Nat) (v1 : Int32) (v2 : Int32) (v3 : Int32) (tv0 : v0 < n ∧ K v0 = 7) (H : Heap) (locs : List Loc) (ls : Array Slot), f_X8_liveOf_L4 F fu4 S0 v0 v1 v2 v3 = some (r9, S9) → Wb g ad n K S0 (dA ad n s.heap.size) H → va_S (dA ad n s.heap.size) s.heap H locs → lv_has ls 4 [(0, .ref (ad v0)), (1, .int v1), (2, .int v2), (3, .int v3)] → W p l e (headSpec wsX8_liveOf { frames := 2, cells := 0, slots := 0, locals := 43 }).room s m (List.toArray [.ref (ad p0), .int p1]) below meth c H locs 0 0 (MQ below (QR (some (.int r9)) (QB g ad n K S9 (dA ad n s.heap.size) (True)) (dA ad n s.heap.size)) (List.toArray [.ref (ad p0), .int p1]) s 0 0 (dA ad n s.heap.size)) (F0 m 4 ls []) := by
    intro fu4
    induction fu4 with
    | zero =>
      intro S0 v0 v1 v2 v3 tv0 H locs ls hf
      cases hf
    | succ fu4 ih4 =>
      have L24 : ∀ (S0 : St) (v0 : Nat) (v1 : Int32) (v2 : Int32) (v3 : Int32) (tv0 : v0 < n ∧ K v0 = 7) (H : Heap) (locs : List Loc) (ls : Array Slot), f_X8_liveOf_L24 F (fun a0 a1 a2 a3 a4 => f_X8_liveOf_L4 F fu4 a0 a1 a2 a3 a4) S0 v0 v1 v2 v3 = some (r9, S9) → Wb g ad n K S0 (dA ad n s.heap.size) H → va_S (dA ad n s.heap.size) s.heap H locs → lv_has ls 4 [(0, .ref (ad v0)), (1, .int v1), (2, .int v2), (3, .int v3)] → W p l e (headSpec wsX8_liveOf { frames := 2, cells := 0, slots := 0, locals := 43 }).room s m (List.toArray [.ref (ad p0), .int p1]) below meth c H locs 0 0 (MQ below (QR (some (.int r9)) (QB g ad n K S9 (dA ad n s.heap.size) (True)) (dA ad n s.heap.size)) (List.toArray [.ref (ad p0), .int p1]) s 0 0 (dA ad n s.heap.size)) (F0 m 24 ls []) := by
        intro S0 v0 v1 v2 v3 tv0 H locs ls hf hW hS hl
        unfold f_X8_liveOf_L24 at hf
        obtain ⟨x2, ex2⟩ : ∃ z : Int32, z = v3 + 1 := ⟨_, rfl⟩
        replace hf := ltE hf x2 ex2
        refine lv_iinc (v := x2) (lv' := [(3, .int x2), (0, .ref (ad v0)), (1, .int v1), (2, .int v2)]) hx hb dX8_liveOf_24 hl (k := 3) rfl (by rw [ex2]; rfl) (by decide) rfl (fun ls hl => ?_)
        refine lv_goto (tgt := 4) hx hb dX8_liveOf_27 (by decide) ?_
        exact ih4 S0 v0 v1 v2 x2 tv0 _ _ _ hf hW hS (lv_sub hl [1, 2, 3, 0] rfl)
      intro S0 v0 v1 v2 v3 tv0 H locs ls hf hW hS hl
      unfold f_X8_liveOf_L4 at hf
      refine lv_iload_n hx hb dX8_liveOf_4 rfl (lv_at hl 3 rfl) ?_
      refine lv_aload_n hx hb dX8_liveOf_5 rfl (lv_at hl 0 rfl) ?_
      refine x_geti 705 (ci := 7) (C := RX8) (T := TX8) (N := 16) 5 hC hin8 hW tv0 rfl rfl ⟨by decide, by decide, rfl, rfl⟩ rfl w_0 dX8_liveOf_6 ?_
      refine lv_icmp_ge (tgt := 30) hx hb dX8_liveOf_9 (by decide) (fun c10 => ?_) (fun c10 => ?_)
      · replace hf := ifT c10 hf
        refine lv_iload_n hx hb dX8_liveOf_30 rfl (lv_at hl 2 rfl) ?_
        obtain ⟨e1, e2⟩ := so2 hf
        subst e1
        subst e2
        exact W.iret (v := v2) hx hb hr (fun t ht hWm => ⟨⟨rfl, by unfold QB; rw [ht]; exact ⟨hW, trivial⟩⟩, hS.F ht⟩) hS.2.2 dX8_liveOf_31 hlk
      · replace hf := ifF c10 hf
        refine lv_aload_n hx hb dX8_liveOf_12 rfl (lv_at hl 0 rfl) ?_
        refine lv_iload_n hx hb dX8_liveOf_13 rfl (lv_at hl 3 rfl) ?_
        refine lv_iload_n hx hb dX8_liveOf_14 rfl (lv_at hl 1 rfl) ?_
        replace hf := obE hf
        obtain ⟨z11, hz11, hf⟩ := hf
        obtain ⟨r13, S12⟩ := z11
        replace hf := ltE (ltE hf r13 rfl) S12 rfl
        refine x_callV (As := [.int v3, .int v1]) (rest := []) (o := (some (.int r13))) (S1 := S12) hC hl.1 hW hS hGs hA tv0 rfl (show vwCl[7]? = some (RX8, TX8, 16) ∧ 7 < 11 from ⟨rfl, by decide⟩) (c_X8_stateOf l g ad n K H.size F S0 v0 v3 v1 tv0 r13 S12 hz11) (cwV 2 hts gX8_liveOf_X8_stateOf rfl rfl rfl (by decide +kernel) ⟨Nat.le_of_ble_eq_true rfl, Nat.le_of_ble_eq_true rfl⟩) rfl rfl (Nat.le_of_ble_eq_true rfl) dX8_liveOf_15 ⟨Nat.le_of_ble_eq_true rfl, Nat.le_of_ble_eq_true rfl⟩ (fun H locs hPz11 hW hS => ?_)
        refine W.eq (g2 := F0 m 18 ls [.int r13]) rfl ?_
        refine lv_if_ne (tgt := 24) hx hb dX8_liveOf_18 (by decide) (fun c15 => ?_) (fun c15 => ?_)
        · replace hf := ifT c15 hf
          exact L24 S12 v0 v1 v2 v3 tv0 _ _ _ hf hW hS (lv_sub hl [0, 1, 2, 3] rfl)
        · replace hf := ifF (fun q => q c15) hf
          obtain ⟨x16, ex16⟩ : ∃ z : Int32, z = v2 + 1 := ⟨_, rfl⟩
          replace hf := ltE hf x16 ex16
          refine lv_iinc (v := x16) (lv' := [(2, .int x16), (0, .ref (ad v0)), (1, .int v1), (3, .int v3)]) hx hb dX8_liveOf_21 hl (k := 2) rfl (by rw [ex16]; rfl) (by decide) rfl (fun ls hl => ?_)
          exact L24 S12 v0 v1 x16 v3 tv0 _ _ _ hf hW hS (lv_sub hl [1, 2, 0, 3] rfl)
  unfold f_X8_liveOf at hf
  refine lv_iconst (v := 0) hx hb dX8_liveOf_0 (by decide) ?_
  refine lv_istore_n (lv' := [(2, .int 0), (0, .ref (ad p0)), (1, .int p1)]) hx hb dX8_liveOf_1 rfl hl (by decide) rfl (fun ls hl => ?_)
  refine lv_iconst (v := 0) hx hb dX8_liveOf_2 (by decide) ?_
  refine lv_istore_n (lv' := [(3, .int 0), (2, .int 0), (0, .ref (ad p0)), (1, .int p1)]) hx hb dX8_liveOf_3 rfl hl (by decide) rfl (fun ls hl => ?_)
  exact L4 F S0 p0 p1 0 0 tp0 _ _ _ hf hW hS (lv_sub hl [2, 3, 1, 0] rfl)
set_option maxHeartbeats 4000000 in
set_option maxRecDepth 100000 in
theorem c_X10_goneAfter (l : Launch) (hfl : l.stackTraces = false) (g : GP) (ad : Nat → Nat) (n : Nat) (K : Nat → Nat) (sz F : Nat) (S0 : St) (p0 : Nat) (p1 : Int32) (p2 : Int32) (tp0 : p0 < n ∧ K p0 = 9) (o9 : Nat ⊕ Int32) (S9 : St) (hf : f_X10_goneAfter F S0 p0 p1 p2 = some (o9, S9)) : vx_Met l yX10_goneAfter wsX10_goneAfter { frames := 7, cells := 2, slots := 12, locals := 138 } (va_Pc [.ref (ad p0), .int p1, .int p2] (PB g ad n K S0 sz)) (QT o9 (fun r => some (.int r)) (QB g ad n K S9 (dA ad n sz) True) (dA ad n sz)) (XT o9 (QB g ad n K S9 (dA ad n sz) True) (dA ad n sz)) 2 12 (dA ad n sz) := by
  refine vx_ofW (cc := cX10_goneAfter) (maxL := 4) (ret := (some .int)) (by decide) rfl ?_
  intro p e s m args below meth c s₁ B hml hno hv
  obtain ⟨rfl, hsz, hW, hK, hGs⟩ := x_start hv
  subst hsz
  have hx := B.exec
  have hb := B.bytes
  have hr := B.returns
  have hts := atoms_spec (ws := wsX10_goneAfter) B.pre
  have hown : s.vm.findClass RX10 = some m.cls := findClass_of_methodNamed B.named
  have hlk := B.notSynchronized
  have hC : Cx g p s m _ c cX10_goneAfter RX10 wsX10_goneAfter 4 := ⟨hx, hb, hml, hown, hts, hK⟩
  have hA : ∀ q : Nat, s.heap.size ≤ q → dA ad n s.heap.size q := fun q h => Or.inr h
  have hS : va_S (dA ad n s.heap.size) s.heap s.heap [] := va_S.rf
  have hl := lv_entry ([.ref (ad p0), .int p1, .int p2]) (n := 4) (Nat.le_of_ble_eq_true rfl)
  rw [lg_entry_eq]
  generalize (lg_sl ([.ref (ad p0), .int p1, .int p2]) ++ List.replicate (4 - (lg_sl ([.ref (ad p0), .int p1, .int p2])).length) Slot.unset).toArray = ls at hl ⊢
  have hl : lv_has ls 4 [(0, .ref (ad p0)), (1, .int p1), (2, .int p2)] := hl
  have hin10 : ∀ w ∈ wsX100, w ∈ wsX10_goneAfter := by decide +kernel
  have w_0 := hts (.fieldLink RX10 42 "MailSpool" "now" "LMailSpool$Spool;") (by decide +kernel)
  have w_1 := hts (.fieldLink RX10 46 "MailSpool" "later" "LMailSpool$Spool;") (by decide +kernel)
  have hGE := hGs.2.2.2.2.2.2.1
  have hGM := hGs.2.2.2.2.2.2.2.1
  have L44 : ∀ (S0 : St) (v0 : Nat) (v1 : Int32) (tv0 : v0 < n ∧ K v0 = 9) (H : Heap) (locs : List Loc) (ls : Array Slot), f_X10_goneAfter_L44 F S0 v0 v1 = some (o9, S9) → Wb g ad n K S0 (dA ad n s.heap.size) H → va_S (dA ad n s.heap.size) s.heap H locs → lv_has ls 4 [(0, .ref (ad v0)), (1, .int v1)] → W p l e (headSpec wsX10_goneAfter { frames := 7, cells := 2, slots := 12, locals := 138 }).room s m (List.toArray [.ref (ad p0), .int p1, .int p2]) below meth c H locs 2 12 (vx_MQ below (QT o9 (fun r => some (.int r)) (QB g ad n K S9 (dA ad n s.heap.size) True) (dA ad n s.heap.size)) (XT o9 (QB g ad n K S9 (dA ad n s.heap.size) True) (dA ad n s.heap.size)) (List.toArray [.ref (ad p0), .int p1, .int p2]) s 2 12 (dA ad n s.heap.size)) (F0 m 44 ls []) := by
    intro S0 v0 v1 tv0 H locs ls hf hW hS hl
    unfold f_X10_goneAfter_L44 at hf
    refine lv_aload_n hx hb dX10_goneAfter_44 rfl (lv_at hl 0 rfl) ?_
    replace hf := obE hf
    obtain ⟨j11, qj11, hf⟩ := hf
    have tj11 := x_rt hW qj11 7 ⟨by decide, rfl⟩
    refine x_getr 905 (ci := 9) (C := RX10) (T := TX10) (N := 11) 5 hC hin10 hW tv0 rfl rfl ⟨by decide, by decide, rfl, rfl⟩ rfl w_0 dX10_goneAfter_45 qj11 ?_
    refine lv_iload_n hx hb dX10_goneAfter_48 rfl (lv_at hl 1 rfl) ?_
    replace hf := obE hf
    obtain ⟨z12, hz12, hf⟩ := hf
    obtain ⟨r14, S13⟩ := z12
    replace hf := ltE (ltE hf r14 rfl) S13 rfl
    refine x_callV (As := [.int v1]) (rest := []) (o := (some (.int r14))) (S1 := S13) hC hl.1 hW hS hGs hA tj11 rfl (show vwCl[7]? = some (RX8, TX8, 16) ∧ 7 < 11 from ⟨rfl, by decide⟩) (c_X8_liveOf l g ad n K H.size F S0 j11 v1 tj11 r14 S13 hz12) (cwV 1 hts gX10_goneAfter_X8_liveOf rfl rfl rfl (by decide +kernel) ⟨Nat.le_of_ble_eq_true rfl, Nat.le_of_ble_eq_true rfl⟩) rfl rfl (Nat.le_of_ble_eq_true rfl) dX10_goneAfter_49 ⟨Nat.le_of_ble_eq_true rfl, Nat.le_of_ble_eq_true rfl⟩ (fun H locs hPz12 hW hS => ?_)
    refine W.eq (g2 := F0 m 52 ls [.int r14]) rfl ?_
    refine lv_aload_n hx hb dX10_goneAfter_52 rfl (lv_at hl 0 rfl) ?_
    replace hf := obE hf
    obtain ⟨j16, qj16, hf⟩ := hf
    have tj16 := x_rt hW qj16 7 ⟨by decide, rfl⟩
    refine x_getr 906 (ci := 9) (C := RX10) (T := TX10) (N := 11) 6 hC hin10 hW tv0 rfl rfl ⟨by decide, by decide, rfl, rfl⟩ rfl w_1 dX10_goneAfter_53 qj16 ?_
    refine lv_iload_n hx hb dX10_goneAfter_56 rfl (lv_at hl 1 rfl) ?_
    replace hf := obE hf
    obtain ⟨z17, hz17, hf⟩ := hf
    obtain ⟨r19, S18⟩ := z17
    replace hf := ltE (ltE hf r19 rfl) S18 rfl
    refine x_callV (As := [.int v1]) (rest := [.int r14]) (o := (some (.int r19))) (S1 := S18) hC hl.1 hW hS hGs hA tj16 rfl (show vwCl[7]? = some (RX8, TX8, 16) ∧ 7 < 11 from ⟨rfl, by decide⟩) (c_X8_liveOf l g ad n K H.size F S13 j16 v1 tj16 r19 S18 hz17) (cwV 1 hts gX10_goneAfter_X8_liveOf rfl rfl rfl (by decide +kernel) ⟨Nat.le_of_ble_eq_true rfl, Nat.le_of_ble_eq_true rfl⟩) rfl rfl (Nat.le_of_ble_eq_true rfl) dX10_goneAfter_57 ⟨Nat.le_of_ble_eq_true rfl, Nat.le_of_ble_eq_true rfl⟩ (fun H locs hPz17 hW hS => ?_)
    refine W.eq (g2 := F0 m 60 ls [.int r19, .int r14]) rfl ?_
    refine lv_isub hx hb dX10_goneAfter_60 ?_
    obtain ⟨e1, e2⟩ := so2 hf
    subst e1
    subst e2
    exact vx_ret (W.iret (v := r14 - r19) hx hb hr (fun t ht hWm => ⟨⟨_, rfl, rfl, by unfold QB; rw [ht]; exact ⟨hW, trivial⟩⟩, hS.F ht⟩) hS.2.2 dX10_goneAfter_61 hlk)
  have L15 : ∀ (fu15 : Nat) (S0 : St) (v0 : Nat) (v1 : Int32) (v2 : Int32) (v3 : Int32) (tv0 : v0 < n ∧ K v0 = 9) (H : Heap) (locs : List Loc) (ls : Array Slot), f_X10_goneAfter_L15 F fu15 S0 v0 v1 v2 v3 = some (o9, S9) → Wb g ad n K S0 (dA ad n s.heap.size) H → va_S (dA ad n s.heap.size) s.heap H locs → lv_has ls 4 [(0, .ref (ad v0)), (1, .int v1), (2, .int v2), (3, .int v3)] → W p l e (headSpec wsX10_goneAfter { frames := 7, cells := 2, slots := 12, locals := 138 }).room s m (List.toArray [.ref (ad p0), .int p1, .int p2]) below meth c H locs 2 12 (vx_MQ below (QT o9 (fun r => some (.int r)) (QB g ad n K S9 (dA ad n s.heap.size) True) (dA ad n s.heap.size)) (XT o9 (QB g ad n K S9 (dA ad n s.heap.size) True) (dA ad n s.heap.size)) (List.toArray [.ref (ad p0), .int p1, .int p2]) s 2 12 (dA ad n s.heap.size)) (F0 m 15 ls []) := by
    intro fu15
    induction fu15 with
    | zero =>
      intro S0 v0 v1 v2 v3 tv0 H locs ls hf
      cases hf
    | succ fu15 ih15 =>
      intro S0 v0 v1 v2 v3 tv0 H locs ls hf hW hS hl
      unfold f_X10_goneAfter_L15 at hf
      refine lv_iload_n hx hb dX10_goneAfter_15 rfl (lv_at hl 3 rfl) ?_
      refine lv_iload_n hx hb dX10_goneAfter_16 rfl (lv_at hl 2 rfl) ?_
      refine lv_icmp_ge (tgt := 44) hx hb dX10_goneAfter_17 (by decide) (fun c34 => ?_) (fun c34 => ?_)
      · replace hf := ifT c34 hf
        exact L44 S0 v0 v1 tv0 _ _ _ hf hW hS (lv_sub hl [0, 1] rfl)
      · replace hf := ifF c34 hf
        refine lv_aload_n hx hb dX10_goneAfter_20 rfl (lv_at hl 0 rfl) ?_
        replace hf := obE hf
        obtain ⟨j35, qj35, hf⟩ := hf
        have tj35 := x_rt hW qj35 7 ⟨by decide, rfl⟩
        refine x_getr 906 (ci := 9) (C := RX10) (T := TX10) (N := 11) 6 hC hin10 hW tv0 rfl rfl ⟨by decide, by decide, rfl, rfl⟩ rfl w_1 dX10_goneAfter_21 qj35 ?_
        replace hf := obE hf
        obtain ⟨z36, hz36, hf⟩ := hf
        obtain ⟨r38, S37⟩ := z36
        replace hf := ltE (ltE hf r38 rfl) S37 rfl
        refine x_callV (As := []) (rest := []) (o := (some (.int r38))) (S1 := S37) hC hl.1 hW hS hGs hA tj35 rfl (show vwCl[7]? = some (RX8, TX8, 16) ∧ 7 < 11 from ⟨rfl, by decide⟩) (c_X8_isAtRest l g ad n K H.size F S0 j35 tj35 r38 S37 hz36) (cwV 0 hts gX10_goneAfter_X8_isAtRest rfl rfl rfl (by decide +kernel) ⟨Nat.le_of_ble_eq_true rfl, Nat.le_of_ble_eq_true rfl⟩) rfl rfl (Nat.le_of_ble_eq_true rfl) dX10_goneAfter_24 ⟨Nat.le_of_ble_eq_true rfl, Nat.le_of_ble_eq_true rfl⟩ (fun H locs hPz36 hW hS => ?_)
        refine W.eq (g2 := F0 m 27 ls [.int r38]) rfl ?_
        refine lv_if_ne (tgt := 44) hx hb dX10_goneAfter_27 (by decide) (fun c40 => ?_) (fun c40 => ?_)
        · replace hf := ifT c40 hf
          exact L44 S37 v0 v1 tv0 _ _ _ hf hW hS (lv_sub hl [0, 1] rfl)
        · replace hf := ifF (fun q => q c40) hf
          refine lv_aload_n hx hb dX10_goneAfter_30 rfl (lv_at hl 0 rfl) ?_
          replace hf := obE hf
          obtain ⟨j41, qj41, hf⟩ := hf
          have tj41 := x_rt hW qj41 7 ⟨by decide, rfl⟩
          refine x_getr 906 (ci := 9) (C := RX10) (T := TX10) (N := 11) 6 hC hin10 hW tv0 rfl rfl ⟨by decide, by decide, rfl, rfl⟩ rfl w_1 dX10_goneAfter_31 qj41 ?_
          replace hf := obE hf
          obtain ⟨z42, hz42, hf⟩ := hf
          obtain ⟨r44, S43⟩ := z42
          replace hf := ltE (ltE hf r44 rfl) S43 rfl
          refine x_callV (As := []) (rest := []) (o := (some (.int r44))) (S1 := S43) hC hl.1 hW hS hGs hA tj41 rfl (show vwCl[7]? = some (RX8, TX8, 16) ∧ 7 < 11 from ⟨rfl, by decide⟩) (c_X8_beginDay l g ad n K H.size F S37 j41 tj41 r44 S43 hz42) (cwV 0 hts gX10_goneAfter_X8_beginDay rfl rfl rfl (by decide +kernel) ⟨Nat.le_of_ble_eq_true rfl, Nat.le_of_ble_eq_true rfl⟩) rfl rfl (Nat.le_of_ble_eq_true rfl) dX10_goneAfter_34 ⟨Nat.le_of_ble_eq_true rfl, Nat.le_of_ble_eq_true rfl⟩ (fun H locs hPz42 hW hS => ?_)
          refine W.eq (g2 := F0 m 37 ls [.int r44]) rfl ?_
          refine lv_pop hx hb dX10_goneAfter_37 rfl ?_
          obtain ⟨x46, ex46⟩ : ∃ z : Int32, z = v3 + 1 := ⟨_, rfl⟩
          replace hf := ltE hf x46 ex46
          refine lv_iinc (v := x46) (lv' := [(3, .int x46), (0, .ref (ad v0)), (1, .int v1), (2, .int v2)]) hx hb dX10_goneAfter_38 hl (k := 3) rfl (by rw [ex46]; rfl) (by decide) rfl (fun ls hl => ?_)
          refine lv_goto (tgt := 15) hx hb dX10_goneAfter_41 (by decide) ?_
          exact ih15 S43 v0 v1 v2 x46 tv0 _ _ _ hf hW hS (lv_sub hl [1, 2, 3, 0] rfl)
  unfold f_X10_goneAfter at hf
  refine lv_aload_n hx hb dX10_goneAfter_0 rfl (lv_at hl 0 rfl) ?_
  refine lv_iload_n hx hb dX10_goneAfter_1 rfl (lv_at hl 1 rfl) ?_
  replace hf := obE hf
  obtain ⟨z47, hz47, hf⟩ := hf
  obtain ⟨oz47, S48⟩ := z47
  replace hf := ltE hf S48 rfl
  refine x_tcallV (As := [.int p1]) (rest := []) (S1 := S48) (o := oz47) (vr := (fun _ => none)) (P := True) hC hl.1 hW hS hGs hA tp0 rfl (show vwCl[9]? = some (RX10, TX10, 11) ∧ 9 < 11 from ⟨rfl, by decide⟩) (c_X10_needUser l hfl g ad n K s.heap.size F S0 p0 p1 tp0 oz47 S48 hz47) (cwV 1 hts gX10_goneAfter_X10_needUser rfl rfl rfl (by decide +kernel) ⟨Nat.le_of_ble_eq_true rfl, Nat.le_of_ble_eq_true rfl⟩) rfl rfl (Nat.le_of_ble_eq_true rfl) dX10_goneAfter_2 ⟨Nat.le_of_ble_eq_true rfl, Nat.le_of_ble_eq_true rfl⟩ (fun x51 H locs ce q9 ho hW hS hc1 hc2 hc3 => ?_) (fun r49 H locs ho hP hW hS => ?_)
  · replace hf := smL ho hf
    obtain ⟨e1, e2⟩ := so2 hf
    subst e1
    subst e2
    exact x_tout hno hlk rfl hW hS hc1 hc2 hc3 (Nat.le_of_ble_eq_true rfl) (Nat.le_of_ble_eq_true rfl)
  · replace hf := smR ho hf
    refine W.widen (k := 1) (n := 6) (Nat.le_of_ble_eq_true rfl) (Nat.le_of_ble_eq_true rfl) ?_
    refine W.eq (g2 := F0 m 5 ls []) rfl ?_
    refine lv_iload_n hx hb dX10_goneAfter_5 rfl (lv_at hl 2 rfl) ?_
    replace hf := obE hf
    obtain ⟨z55, hz55, hf⟩ := hf
    obtain ⟨oz55, S56⟩ := z55
    replace hf := ltE hf S56 rfl
    refine x_tcallS (As := [.int p2]) (rest := []) (S1 := S56) (o := oz55) (vr := (fun _ => none)) (P := True) hC hl.1 hW hS hGs hA (c_X10_needDaysAhead l hfl g ad n K H.size F S48 p2 oz55 S56 hz55) (va_cwS 1 hts gX10_goneAfter_X10_needDaysAhead rfl rfl rfl (by decide +kernel) ⟨Nat.le_of_ble_eq_true rfl, Nat.le_of_ble_eq_true rfl⟩) rfl rfl (Nat.le_of_ble_eq_true rfl) dX10_goneAfter_6 ⟨Nat.le_of_ble_eq_true rfl, Nat.le_of_ble_eq_true rfl⟩ (fun x59 H locs ce q9 ho hW hS hc1 hc2 hc3 => ?_) (fun r57 H locs ho hP hW hS => ?_)
    · replace hf := smL ho hf
      obtain ⟨e1, e2⟩ := so2 hf
      subst e1
      subst e2
      exact x_tout hno hlk rfl hW hS hc1 hc2 hc3 (Nat.le_of_ble_eq_true rfl) (Nat.le_of_ble_eq_true rfl)
    · replace hf := smR ho hf
      refine W.widen (k := 2) (n := 12) (Nat.le_of_ble_eq_true rfl) (Nat.le_of_ble_eq_true rfl) ?_
      refine W.eq (g2 := F0 m 9 ls []) rfl ?_
      refine lv_aload_n hx hb dX10_goneAfter_9 rfl (lv_at hl 0 rfl) ?_
      replace hf := obE hf
      obtain ⟨S64, hz63, hf⟩ := hf
      refine x_callV (As := []) (rest := []) (o := none) (S1 := S64) hC hl.1 hW hS hGs hA tp0 rfl (show vwCl[9]? = some (RX10, TX10, 11) ∧ 9 < 11 from ⟨rfl, by decide⟩) (c_X10_lookAhead l g ad n K H.size F S56 p0 tp0 S64 hz63) (cwV 0 hts gX10_goneAfter_X10_lookAhead rfl rfl rfl (by decide +kernel) ⟨Nat.le_of_ble_eq_true rfl, Nat.le_of_ble_eq_true rfl⟩) rfl rfl (Nat.le_of_ble_eq_true rfl) dX10_goneAfter_10 ⟨Nat.le_of_ble_eq_true rfl, Nat.le_of_ble_eq_true rfl⟩ (fun H locs hPz63 hW hS => ?_)
      refine W.eq (g2 := F0 m 13 ls []) rfl ?_
      refine lv_iconst (v := 0) hx hb dX10_goneAfter_13 (by decide) ?_
      refine lv_istore_n (lv' := [(3, .int 0), (0, .ref (ad p0)), (1, .int p1), (2, .int p2)]) hx hb dX10_goneAfter_14 rfl hl (by decide) rfl (fun ls hl => ?_)
      exact L15 F S64 p0 p1 p2 0 tp0 _ _ _ hf hW hS (lv_sub hl [1, 2, 3, 0] rfl)
set_option maxHeartbeats 4000000 in
set_option maxRecDepth 100000 in
theorem c_X10_eventCount (l : Launch) (g : GP) (ad : Nat → Nat) (n : Nat) (K : Nat → Nat) (sz F : Nat) (S0 : St) (p0 : Nat) (tp0 : p0 < n ∧ K p0 = 9) (r9 : Int32) (S9 : St) (hf : f_X10_eventCount F S0 p0 = some (r9, S9)) : Met l yX10_eventCount wsX10_eventCount { frames := 0, cells := 0, slots := 0, locals := 0 } (va_Pc [.ref (ad p0)] (PB g ad n K S0 sz)) (QR (some (.int r9)) (QB g ad n K S9 (dA ad n sz) (True)) (dA ad n sz)) 0 0 (dA ad n sz) := by
  refine Met.ofW (cc := cX10_eventCount) (maxL := 1) (ret := (some .int)) (by decide) rfl ?_
  intro p e s m args below meth c s₁ B hml hv
  obtain ⟨rfl, hsz, hW, hK, hGs⟩ := x_start hv
  subst hsz
  have hx := B.exec
  have hb := B.bytes
  have hr := B.returns
  have hts := atoms_spec (ws := wsX10_eventCount) B.pre
  have hown : s.vm.findClass RX10 = some m.cls := findClass_of_methodNamed B.named
  have hlk := B.notSynchronized
  have hC : Cx g p s m _ c cX10_eventCount RX10 wsX10_eventCount 1 := ⟨hx, hb, hml, hown, hts, hK⟩
  have hA : ∀ q : Nat, s.heap.size ≤ q → dA ad n s.heap.size q := fun q h => Or.inr h
  have hS : va_S (dA ad n s.heap.size) s.heap s.heap [] := va_S.rf
  have hl := lv_entry ([.ref (ad p0)]) (n := 1) (Nat.le_of_ble_eq_true rfl)
  rw [lg_entry_eq]
  generalize (lg_sl ([.ref (ad p0)]) ++ List.replicate (1 - (lg_sl ([.ref (ad p0)])).length) Slot.unset).toArray = ls at hl ⊢
  have hl : lv_has ls 1 [(0, .ref (ad p0))] := hl
  have hin2 : ∀ w ∈ wsX20, w ∈ wsX10_eventCount := by decide +kernel
  have hin8 : ∀ w ∈ wsX80, w ∈ wsX10_eventCount := by decide +kernel
  have hin10 : ∀ w ∈ wsX100, w ∈ wsX10_eventCount := by decide +kernel
  have w_0 := hts (.fieldLink RX10 42 "MailSpool" "now" "LMailSpool$Spool;") (by decide +kernel)
  have w_1 := va_Nw.use (A := (List.toArray [.ref (ad p0)])) rfl (hGs.1 (.fieldLinkNest RX10 388 "MailSpool$Spool" "journal" "LMailSpool$Journal;" "MailSpool") (by decide +kernel))
  have w_2 := va_Nw.use (A := (List.toArray [.ref (ad p0)])) rfl (hGs.1 (.fieldLinkNest RX10 392 "MailSpool$Journal" "size" "I" "MailSpool") (by decide +kernel))
  have hGE := hGs.2.2.2.2.2.2.1
  have hGM := hGs.2.2.2.2.2.2.2.1
  unfold f_X10_eventCount at hf
  refine lv_aload_n hx hb dX10_eventCount_0 rfl (lv_at hl 0 rfl) ?_
  replace hf := obE hf
  obtain ⟨j1, qj1, hf⟩ := hf
  have tj1 := x_rt hW qj1 7 ⟨by decide, rfl⟩
  refine x_getr 905 (ci := 9) (C := RX10) (T := TX10) (N := 11) 5 hC hin10 hW tp0 rfl rfl ⟨by decide, by decide, rfl, rfl⟩ rfl w_0 dX10_eventCount_1 qj1 ?_
  replace hf := obE hf
  obtain ⟨j2, qj2, hf⟩ := hf
  have tj2 := x_rt hW qj2 2 ⟨by decide, rfl⟩
  refine x_getrN 711 (ci := 7) (C := RX8) (T := TX8) (N := 16) 11 hC hin8 hW tj1 rfl rfl ⟨by decide, by decide, rfl, rfl⟩ rfl w_1 dX10_eventCount_4 qj2 ?_
  refine x_getiN 204 (ci := 2) (C := RX2) (T := TX2) (N := 5) 4 hC hin2 hW tj2 rfl rfl ⟨by decide, by decide, rfl, rfl⟩ rfl w_2 dX10_eventCount_7 ?_
  obtain ⟨e1, e2⟩ := so2 hf
  subst e1
  subst e2
  exact W.iret (v := si S0 204 j2) hx hb hr (fun t ht hWm => ⟨⟨rfl, by unfold QB; rw [ht]; exact ⟨hW, trivial⟩⟩, hS.F ht⟩) hS.2.2 dX10_eventCount_10 hlk
set_option maxHeartbeats 4000000 in
set_option maxRecDepth 100000 in
theorem c_X2_valueAt (l : Launch) (g : GP) (ad : Nat → Nat) (n : Nat) (K : Nat → Nat) (sz F : Nat) (S0 : St) (p0 : Nat) (p1 : Int32) (p2 : Int32) (tp0 : p0 < n ∧ K p0 = 2) (r9 : Int32) (S9 : St) (hf : f_X2_valueAt F S0 p0 p1 p2 = some (r9, S9)) : Met l yX2_valueAt wsX2_valueAt { frames := 1, cells := 0, slots := 0, locals := 21 } (va_Pc [.ref (ad p0), .int p1, .int p2] (PB g ad n K S0 sz)) (QR (some (.int r9)) (QB g ad n K S9 (dA ad n sz) (True)) (dA ad n sz)) 0 0 (dA ad n sz) := by
  refine Met.ofW (cc := cX2_valueAt) (maxL := 4) (ret := (some .int)) (by decide) rfl ?_
  intro p e s m args below meth c s₁ B hml hv
  obtain ⟨rfl, hsz, hW, hK, hGs⟩ := x_start hv
  subst hsz
  have hx := B.exec
  have hb := B.bytes
  have hr := B.returns
  have hts := atoms_spec (ws := wsX2_valueAt) B.pre
  have hown : s.vm.findClass RX2 = some m.cls := findClass_of_methodNamed B.named
  have hlk := B.notSynchronized
  have hC : Cx g p s m _ c cX2_valueAt RX2 wsX2_valueAt 4 := ⟨hx, hb, hml, hown, hts, hK⟩
  have hA : ∀ q : Nat, s.heap.size ≤ q → dA ad n s.heap.size q := fun q h => Or.inr h
  have hS : va_S (dA ad n s.heap.size) s.heap s.heap [] := va_S.rf
  have hl := lv_entry ([.ref (ad p0), .int p1, .int p2]) (n := 4) (Nat.le_of_ble_eq_true rfl)
  rw [lg_entry_eq]
  generalize (lg_sl ([.ref (ad p0), .int p1, .int p2]) ++ List.replicate (4 - (lg_sl ([.ref (ad p0), .int p1, .int p2])).length) Slot.unset).toArray = ls at hl ⊢
  have hl : lv_has ls 4 [(0, .ref (ad p0)), (1, .int p1), (2, .int p2)] := hl
  have hin2 : ∀ w ∈ wsX20, w ∈ wsX2_valueAt := by decide +kernel
  have w_0 := hts (.fieldLink RX2 21 "MailSpool$Journal" "first" "I") (by decide +kernel)
  have w_1 := hts (.fieldLink RX2 18 "MailSpool$Journal" "objects" "[I") (by decide +kernel)
  have w_2 := va_Nw.use (A := (List.toArray [.ref (ad p0), .int p1, .int p2])) rfl (hGs.1 (.methodLinkNest RX2 36 yX10_at "MailSpool") (by decide +kernel))
  have w_3 := hts (.initialized RX10) (by decide +kernel)
  have w_4 := hts (.static yX10_at) (by decide +kernel)
  have w_5 := hts (.fieldLink RX2 15 "MailSpool$Journal" "kinds" "[I") (by decide +kernel)
  have w_6 := hts (.fieldLink RX2 9 "MailSpool$Journal" "days" "[I") (by decide +kernel)
  have hGE := hGs.2.2.2.2.2.2.1
  have hGM := hGs.2.2.2.2.2.2.2.1
  unfold f_X2_valueAt at hf
  refine lv_aload_n hx hb dX2_valueAt_0 rfl (lv_at hl 0 rfl) ?_
  refine x_geti 203 (ci := 2) (C := RX2) (T := TX2) (N := 5) 3 hC hin2 hW tp0 rfl rfl ⟨by decide, by decide, rfl, rfl⟩ rfl w_0 dX2_valueAt_1 ?_
  refine lv_iload_n hx hb dX2_valueAt_4 rfl (lv_at hl 1 rfl) ?_
  refine lv_iadd hx hb dX2_valueAt_5 ?_
  refine lv_bipush (v := 60) hx hb dX2_valueAt_6 (by decide) ?_
  refine lv_irem hx hb dX2_valueAt_8 (by decide) ?_
  refine lv_topi (fun x1 ex1 => ?_)
  replace hf := ltE hf x1 ex1
  refine lv_istore_n (lv' := [(3, .int x1), (0, .ref (ad p0)), (1, .int p1), (2, .int p2)]) hx hb dX2_valueAt_9 rfl hl (by decide) rfl (fun ls hl => ?_)
  refine lv_iload_n hx hb dX2_valueAt_10 rfl (lv_at hl 3 rfl) ?_
  refine lv_if_ne (tgt := 23) hx hb dX2_valueAt_11 (by decide) (fun c2 => ?_) (fun c2 => ?_)
  · replace hf := ifT c2 hf
    refine lv_iload_n hx hb dX2_valueAt_23 rfl (lv_at hl 3 rfl) ?_
    refine lv_iconst (v := 1) hx hb dX2_valueAt_24 (by decide) ?_
    refine lv_icmp_ne (tgt := 39) hx hb dX2_valueAt_25 (by decide) (fun c3 => ?_) (fun c3 => ?_)
    · replace hf := ifT c3 hf
      refine lv_aload_n hx hb dX2_valueAt_39 rfl (lv_at hl 1 rfl) ?_
      replace hf := obE hf
      obtain ⟨j4, qj4, hf⟩ := hf
      have tj4 := x_rt hW qj4 12 ⟨by decide, rfl⟩
      refine x_getr 202 (ci := 2) (C := RX2) (T := TX2) (N := 5) 2 hC hin2 hW tp0 rfl rfl ⟨by decide, by decide, rfl, rfl⟩ rfl w_1 dX2_valueAt_40 qj4 ?_
      refine lv_iload_n hx hb dX2_valueAt_43 rfl (lv_at hl 0 rfl) ?_
      replace hf := obE hf
      obtain ⟨z5, hz5, hf⟩ := hf
      obtain ⟨r7, S6⟩ := z5
      replace hf := ltE (ltE hf r7 rfl) S6 rfl
      refine x_callSN (As := [.ref (ad j4), .int x1]) (rest := []) (o := (some (.int r7))) (S1 := S6) hC hl.1 hW hS hGs hA (c_X10_at l g ad n K s.heap.size F S0 j4 x1 tj4 r7 S6 hz5) ⟨va_cnB 2 hts gX2_valueAt_X10_at_n36 rfl rfl rfl (va_Nw.of rfl w_2) w_3 (by decide +kernel) ⟨Nat.le_of_ble_eq_true rfl, Nat.le_of_ble_eq_true rfl⟩, w_4, trivial⟩ rfl rfl (Nat.le_of_ble_eq_true rfl) dX2_valueAt_44 ⟨Nat.le_of_ble_eq_true rfl, Nat.le_of_ble_eq_true rfl⟩ (fun H locs hPz5 hW hS => ?_)
      refine W.eq (g2 := F0 m 47 ls [.int r7]) rfl ?_
      obtain ⟨e1, e2⟩ := so2 hf
      subst e1
      subst e2
      exact W.iret (v := r7) hx hb hr (fun t ht hWm => ⟨⟨rfl, by unfold QB; rw [ht]; exact ⟨hW, trivial⟩⟩, hS.F ht⟩) hS.2.2 dX2_valueAt_47 hlk
    · replace hf := ifF (fun q => q c3) hf
      refine lv_aload_n hx hb dX2_valueAt_28 rfl (lv_at hl 1 rfl) ?_
      replace hf := obE hf
      obtain ⟨j9, qj9, hf⟩ := hf
      have tj9 := x_rt hW qj9 12 ⟨by decide, rfl⟩
      refine x_getr 201 (ci := 2) (C := RX2) (T := TX2) (N := 5) 1 hC hin2 hW tp0 rfl rfl ⟨by decide, by decide, rfl, rfl⟩ rfl w_5 dX2_valueAt_29 qj9 ?_
      refine lv_iload_n hx hb dX2_valueAt_32 rfl (lv_at hl 0 rfl) ?_
      replace hf := obE hf
      obtain ⟨z10, hz10, hf⟩ := hf
      obtain ⟨r12, S11⟩ := z10
      replace hf := ltE (ltE hf r12 rfl) S11 rfl
      refine x_callSN (As := [.ref (ad j9), .int x1]) (rest := []) (o := (some (.int r12))) (S1 := S11) hC hl.1 hW hS hGs hA (c_X10_at l g ad n K s.heap.size F S0 j9 x1 tj9 r12 S11 hz10) ⟨va_cnB 2 hts gX2_valueAt_X10_at_n36 rfl rfl rfl (va_Nw.of rfl w_2) w_3 (by decide +kernel) ⟨Nat.le_of_ble_eq_true rfl, Nat.le_of_ble_eq_true rfl⟩, w_4, trivial⟩ rfl rfl (Nat.le_of_ble_eq_true rfl) dX2_valueAt_33 ⟨Nat.le_of_ble_eq_true rfl, Nat.le_of_ble_eq_true rfl⟩ (fun H locs hPz10 hW hS => ?_)
      refine W.eq (g2 := F0 m 36 ls [.int r12]) rfl ?_
      refine lv_goto (tgt := 47) hx hb dX2_valueAt_36 (by decide) ?_
      obtain ⟨e1, e2⟩ := so2 hf
      subst e1
      subst e2
      exact W.iret (v := r12) hx hb hr (fun t ht hWm => ⟨⟨rfl, by unfold QB; rw [ht]; exact ⟨hW, trivial⟩⟩, hS.F ht⟩) hS.2.2 dX2_valueAt_47 hlk
  · replace hf := ifF (fun q => q c2) hf
    refine lv_aload_n hx hb dX2_valueAt_14 rfl (lv_at hl 1 rfl) ?_
    replace hf := obE hf
    obtain ⟨j14, qj14, hf⟩ := hf
    have tj14 := x_rt hW qj14 12 ⟨by decide, rfl⟩
    refine x_getr 200 (ci := 2) (C := RX2) (T := TX2) (N := 5) 0 hC hin2 hW tp0 rfl rfl ⟨by decide, by decide, rfl, rfl⟩ rfl w_6 dX2_valueAt_15 qj14 ?_
    refine lv_iload_n hx hb dX2_valueAt_18 rfl (lv_at hl 0 rfl) ?_
    replace hf := obE hf
    obtain ⟨z15, hz15, hf⟩ := hf
    obtain ⟨r17, S16⟩ := z15
    replace hf := ltE (ltE hf r17 rfl) S16 rfl
    refine x_callSN (As := [.ref (ad j14), .int x1]) (rest := []) (o := (some (.int r17))) (S1 := S16) hC hl.1 hW hS hGs hA (c_X10_at l g ad n K s.heap.size F S0 j14 x1 tj14 r17 S16 hz15) ⟨va_cnB 2 hts gX2_valueAt_X10_at_n36 rfl rfl rfl (va_Nw.of rfl w_2) w_3 (by decide +kernel) ⟨Nat.le_of_ble_eq_true rfl, Nat.le_of_ble_eq_true rfl⟩, w_4, trivial⟩ rfl rfl (Nat.le_of_ble_eq_true rfl) dX2_valueAt_19 ⟨Nat.le_of_ble_eq_true rfl, Nat.le_of_ble_eq_true rfl⟩ (fun H locs hPz15 hW hS => ?_)
    refine W.eq (g2 := F0 m 22 ls [.int r17]) rfl ?_
    obtain ⟨e1, e2⟩ := so2 hf
    subst e1
    subst e2
    exact W.iret (v := r17) hx hb hr (fun t ht hWm => ⟨⟨rfl, by unfold QB; rw [ht]; exact ⟨hW, trivial⟩⟩, hS.F ht⟩) hS.2.2 dX2_valueAt_22 hlk
