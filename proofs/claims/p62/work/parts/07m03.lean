set_option maxHeartbeats 4000000 in
set_option maxRecDepth 100000 in
theorem c_X9_numberOf (l : Launch) (g : GP) (ad : Nat → Nat) (n : Nat) (K : Nat → Nat) (sz F : Nat) (S0 : St) (p0 : Nat) (p1 : Nat) (p2 : Int32) (tp0 : p0 < n ∧ K p0 = 8) (tp1 : p1 < n ∧ K p1 = 1) (r9 : Int32) (S9 : St) (hf : f_X9_numberOf F S0 p0 p1 p2 = some (r9, S9)) : Met l yX9_numberOf wsX9_numberOf { frames := 3, cells := 0, slots := 0, locals := 67 } (va_Pc [.ref (ad p0), .ref (ad p1), .int p2] (PB g ad n K S0 sz)) (QR (some (.int r9)) (QB g ad n K S9 (dA ad n sz) (True)) (dA ad n sz)) 0 0 (dA ad n sz) := by
  refine Met.ofW (cc := cX9_numberOf) (maxL := 4) (ret := (some .int)) (by decide) rfl ?_
  intro p e s m args below meth c s₁ B hml hv
  obtain ⟨rfl, hsz, hW, hK, hGs⟩ := x_start hv
  subst hsz
  have hx := B.exec
  have hb := B.bytes
  have hr := B.returns
  have hts := atoms_spec (ws := wsX9_numberOf) B.pre
  have hown : s.vm.findClass RX9 = some m.cls := findClass_of_methodNamed B.named
  have hlk := B.notSynchronized
  have hC : Cx g p s m _ c cX9_numberOf RX9 wsX9_numberOf 4 := ⟨hx, hb, hml, hown, hts, hK⟩
  have hA : ∀ q : Nat, s.heap.size ≤ q → dA ad n s.heap.size q := fun q h => Or.inr h
  have hS : va_S (dA ad n s.heap.size) s.heap s.heap [] := va_S.rf
  have hl := lv_entry ([.ref (ad p0), .ref (ad p1), .int p2]) (n := 4) (Nat.le_of_ble_eq_true rfl)
  rw [lg_entry_eq]
  generalize (lg_sl ([.ref (ad p0), .ref (ad p1), .int p2]) ++ List.replicate (4 - (lg_sl ([.ref (ad p0), .ref (ad p1), .int p2])).length) Slot.unset).toArray = ls at hl ⊢
  have hl : lv_has ls 4 [(0, .ref (ad p0)), (1, .ref (ad p1)), (2, .int p2)] := hl
  have hinX9 : ∀ w ∈ wsX90, w ∈ wsX9_numberOf := by decide +kernel
  have w_0 := hts (.fieldLink RX9 34 "MailSpool$Store" "numbers" "I") (by decide +kernel)
  have hGE := hGs.2.2.2.1
  have hGM := hGs.2.2.2.2
  have L2 : ∀ (fu2 : Nat) (S0 : St) (v0 : Nat) (v1 : Nat) (v2 : Int32) (v3 : Int32) (tv0 : v0 < n ∧ K v0 = 8) (tv1 : v1 < n ∧ K v1 = 1) (H : Heap) (locs : List Loc) (ls : Array Slot), f_X9_numberOf_L2 F fu2 S0 v0 v1 v2 v3 = some (r9, S9) → Wb g ad n K S0 (dA ad n s.heap.size) H → va_S (dA ad n s.heap.size) s.heap H locs → lv_has ls 4 [(0, .ref (ad v0)), (1, .ref (ad v1)), (2, .int v2), (3, .int v3)] → W p l e (headSpec wsX9_numberOf { frames := 3, cells := 0, slots := 0, locals := 67 }).room s m (List.toArray [.ref (ad p0), .ref (ad p1), .int p2]) below meth c H locs 0 0 (MQ below (QR (some (.int r9)) (QB g ad n K S9 (dA ad n s.heap.size) (True)) (dA ad n s.heap.size)) (List.toArray [.ref (ad p0), .ref (ad p1), .int p2]) s 0 0 (dA ad n s.heap.size)) (F0 m 2 ls []) := by
    intro fu2
    induction fu2 with
    | zero =>
      intro S0 v0 v1 v2 v3 tv0 tv1 H locs ls hf
      cases hf
    | succ fu2 ih2 =>
      have L33 : ∀ (S0 : St) (v0 : Nat) (v1 : Nat) (v2 : Int32) (v3 : Int32) (tv0 : v0 < n ∧ K v0 = 8) (tv1 : v1 < n ∧ K v1 = 1) (H : Heap) (locs : List Loc) (ls : Array Slot), f_X9_numberOf_L33 F (fun a0 a1 a2 a3 a4 => f_X9_numberOf_L2 F fu2 a0 a1 a2 a3 a4) S0 v0 v1 v2 v3 = some (r9, S9) → Wb g ad n K S0 (dA ad n s.heap.size) H → va_S (dA ad n s.heap.size) s.heap H locs → lv_has ls 4 [(0, .ref (ad v0)), (1, .ref (ad v1)), (2, .int v2), (3, .int v3)] → W p l e (headSpec wsX9_numberOf { frames := 3, cells := 0, slots := 0, locals := 67 }).room s m (List.toArray [.ref (ad p0), .ref (ad p1), .int p2]) below meth c H locs 0 0 (MQ below (QR (some (.int r9)) (QB g ad n K S9 (dA ad n s.heap.size) (True)) (dA ad n s.heap.size)) (List.toArray [.ref (ad p0), .ref (ad p1), .int p2]) s 0 0 (dA ad n s.heap.size)) (F0 m 33 ls []) := by
        intro S0 v0 v1 v2 v3 tv0 tv1 H locs ls hf hW hS hl
        unfold f_X9_numberOf_L33 at hf
        obtain ⟨x2, ex2⟩ : ∃ z : Int32, z = v3 + 1 := ⟨_, rfl⟩
        replace hf := ltE hf x2 ex2
        refine lv_iinc (v := x2) (lv' := [(3, .int x2), (0, .ref (ad v0)), (1, .ref (ad v1)), (2, .int v2)]) hx hb dX9_numberOf_33 hl (k := 3) rfl (by rw [ex2]; rfl) (by decide) rfl (fun ls hl => ?_)
        refine lv_goto (tgt := 2) hx hb dX9_numberOf_36 (by decide) ?_
        exact ih2 S0 v0 v1 v2 x2 tv0 tv1 _ _ _ hf hW hS (lv_sub hl [1, 2, 3, 0] rfl)
      intro S0 v0 v1 v2 v3 tv0 tv1 H locs ls hf hW hS hl
      unfold f_X9_numberOf_L2 at hf
      refine lv_iload_n hx hb dX9_numberOf_2 rfl (lv_at hl 3 rfl) ?_
      refine lv_aload_n hx hb dX9_numberOf_3 rfl (lv_at hl 0 rfl) ?_
      refine x_geti 800 (ci := 8) (C := RX9) (T := TX9) (N := 8) 0 hC hinX9 hW tv0 rfl rfl ⟨by decide, by decide, rfl, rfl⟩ rfl w_0 dX9_numberOf_4 ?_
      refine lv_icmp_ge (tgt := 39) hx hb dX9_numberOf_7 (by decide) (fun c19 => ?_) (fun c19 => ?_)
      · replace hf := ifT c19 hf
        refine lv_iconst (v := -1) hx hb dX9_numberOf_39 (by decide) ?_
        obtain ⟨e1, e2⟩ := so2 hf
        subst e1
        subst e2
        exact W.iret (v := (-1)) hx hb hr (fun t ht hWm => ⟨⟨rfl, by unfold QB; rw [ht]; exact ⟨hW, trivial⟩⟩, hS.F ht⟩) hS.2.2 dX9_numberOf_40 hlk
      · replace hf := ifF c19 hf
        refine lv_aload_n hx hb dX9_numberOf_10 rfl (lv_at hl 0 rfl) ?_
        refine lv_iload_n hx hb dX9_numberOf_11 rfl (lv_at hl 3 rfl) ?_
        replace hf := obE hf
        obtain ⟨z20, hz20, hf⟩ := hf
        obtain ⟨r22, S21⟩ := z20
        replace hf := ltE (ltE hf r22 rfl) S21 rfl
        refine x_callV (As := [.int v3]) (rest := []) (o := (some (.int r22))) (S1 := S21) hC hl.1 hW hS hGs hA tv0 rfl (show vwCl[8]? = some (RX9, TX9, 8) ∧ ob 8 from ⟨rfl, by decide⟩) (c_X9_isStored l g ad n K H.size F S0 v0 v3 tv0 r22 S21 hz20) (cwV 1 hts gX9_numberOf_X9_isStored rfl rfl rfl (by decide +kernel) ⟨Nat.le_of_ble_eq_true rfl, Nat.le_of_ble_eq_true rfl⟩) rfl rfl (Nat.le_of_ble_eq_true rfl) dX9_numberOf_12 ⟨Nat.le_of_ble_eq_true rfl, Nat.le_of_ble_eq_true rfl⟩ (fun H locs hPz20 hW hS => ?_)
        refine W.eq (g2 := F0 m 15 ls [.int r22]) rfl ?_
        refine lv_if_eq (tgt := 33) hx hb dX9_numberOf_15 (by decide) (fun c24 => ?_) (fun c24 => ?_)
        · replace hf := ifT c24 hf
          exact L33 S21 v0 v1 v2 v3 tv0 tv1 _ _ _ hf hW hS (lv_sub hl [0, 1, 2, 3] rfl)
        · replace hf := ifF c24 hf
          refine lv_aload_n hx hb dX9_numberOf_18 rfl (lv_at hl 1 rfl) ?_
          refine lv_aload_n hx hb dX9_numberOf_19 rfl (lv_at hl 0 rfl) ?_
          refine lv_iload_n hx hb dX9_numberOf_20 rfl (lv_at hl 3 rfl) ?_
          replace hf := obE hf
          obtain ⟨z25, hz25, hf⟩ := hf
          obtain ⟨r27, S26⟩ := z25
          replace hf := ltE (ltE hf r27 rfl) S26 rfl
          refine x_callV (As := [.int v3]) (rest := [.ref (ad v1)]) (o := (some (va_re ad r27))) (S1 := S26) hC hl.1 hW hS hGs hA tv0 rfl (show vwCl[8]? = some (RX9, TX9, 8) ∧ ob 8 from ⟨rfl, by decide⟩) (c_X9_bytesOf l g ad n K H.size F S21 v0 v3 tv0 r27 S26 hz25) (cwV 1 hts gX9_numberOf_X9_bytesOf rfl rfl rfl (by decide +kernel) ⟨Nat.le_of_ble_eq_true rfl, Nat.le_of_ble_eq_true rfl⟩) rfl rfl (Nat.le_of_ble_eq_true rfl) dX9_numberOf_21 ⟨Nat.le_of_ble_eq_true rfl, Nat.le_of_ble_eq_true rfl⟩ (fun H locs hPz25 hW hS => ?_)
          replace hf := obE hf
          obtain ⟨j29, qj29, hf⟩ := hf
          have tj29 := hPz25 j29 qj29
          refine W.eq (g2 := F0 m 24 ls [.ref (ad j29), .ref (ad v1)]) (by rw [qj29]; rfl) ?_
          refine lv_iload_n hx hb dX9_numberOf_24 rfl (lv_at hl 2 rfl) ?_
          replace hf := obE hf
          obtain ⟨z30, hz30, hf⟩ := hf
          obtain ⟨r32, S31⟩ := z30
          replace hf := ltE (ltE hf r32 rfl) S31 rfl
          refine x_callV (As := [.ref (ad j29), .int v2]) (rest := []) (o := (some (.int r32))) (S1 := S31) hC hl.1 hW hS hGs hA tv1 rfl (show vwCl[1]? = some (RX1, TX1, 4) ∧ ob 1 from ⟨rfl, by decide⟩) (c_X1_isEqualTo l g ad n K H.size F S26 v1 j29 v2 tv1 tj29 r32 S31 hz30) (cwV 2 hts gX9_numberOf_X1_isEqualTo rfl rfl rfl (by decide +kernel) ⟨Nat.le_of_ble_eq_true rfl, Nat.le_of_ble_eq_true rfl⟩) rfl rfl (Nat.le_of_ble_eq_true rfl) dX9_numberOf_25 ⟨Nat.le_of_ble_eq_true rfl, Nat.le_of_ble_eq_true rfl⟩ (fun H locs hPz30 hW hS => ?_)
          refine W.eq (g2 := F0 m 28 ls [.int r32]) rfl ?_
          refine lv_if_eq (tgt := 33) hx hb dX9_numberOf_28 (by decide) (fun c34 => ?_) (fun c34 => ?_)
          · replace hf := ifT c34 hf
            exact L33 S31 v0 v1 v2 v3 tv0 tv1 _ _ _ hf hW hS (lv_sub hl [0, 1, 2, 3] rfl)
          · replace hf := ifF c34 hf
            refine lv_iload_n hx hb dX9_numberOf_31 rfl (lv_at hl 3 rfl) ?_
            obtain ⟨e1, e2⟩ := so2 hf
            subst e1
            subst e2
            exact W.iret (v := v3) hx hb hr (fun t ht hWm => ⟨⟨rfl, by unfold QB; rw [ht]; exact ⟨hW, trivial⟩⟩, hS.F ht⟩) hS.2.2 dX9_numberOf_32 hlk
  unfold f_X9_numberOf at hf
  refine lv_iconst (v := 0) hx hb dX9_numberOf_0 (by decide) ?_
  refine lv_istore_n (lv' := [(3, .int 0), (0, .ref (ad p0)), (1, .ref (ad p1)), (2, .int p2)]) hx hb dX9_numberOf_1 rfl hl (by decide) rfl (fun ls hl => ?_)
  exact L2 F S0 p0 p1 p2 0 tp0 tp1 _ _ _ hf hW hS (lv_sub hl [1, 2, 3, 0] rfl)
set_option maxHeartbeats 4000000 in
set_option maxRecDepth 100000 in
theorem c_X9_bytesWith (l : Launch) (g : GP) (ad : Nat → Nat) (n : Nat) (K : Nat → Nat) (sz F : Nat) (S0 : St) (p0 : Nat) (p1 : Nat) (tp0 : p0 < n ∧ K p0 = 8) (tp1 : p1 < n ∧ K p1 = 1) (r9 : Int32) (S9 : St) (hf : f_X9_bytesWith F S0 p0 p1 = some (r9, S9)) : Met l yX9_bytesWith wsX9_bytesWith { frames := 4, cells := 0, slots := 0, locals := 90 } (va_Pc [.ref (ad p0), .ref (ad p1)] (PB g ad n K S0 sz)) (QR (some (.int r9)) (QB g ad n K S9 (dA ad n sz) (True)) (dA ad n sz)) 0 0 (dA ad n sz) := by
  refine Met.ofW (cc := cX9_bytesWith) (maxL := 4) (ret := (some .int)) (by decide) rfl ?_
  intro p e s m args below meth c s₁ B hml hv
  obtain ⟨rfl, hsz, hW, hK, hGs⟩ := x_start hv
  subst hsz
  have hx := B.exec
  have hb := B.bytes
  have hr := B.returns
  have hts := atoms_spec (ws := wsX9_bytesWith) B.pre
  have hown : s.vm.findClass RX9 = some m.cls := findClass_of_methodNamed B.named
  have hlk := B.notSynchronized
  have hC : Cx g p s m _ c cX9_bytesWith RX9 wsX9_bytesWith 4 := ⟨hx, hb, hml, hown, hts, hK⟩
  have hA : ∀ q : Nat, s.heap.size ≤ q → dA ad n s.heap.size q := fun q h => Or.inr h
  have hS : va_S (dA ad n s.heap.size) s.heap s.heap [] := va_S.rf
  have hl := lv_entry ([.ref (ad p0), .ref (ad p1)]) (n := 4) (Nat.le_of_ble_eq_true rfl)
  rw [lg_entry_eq]
  generalize (lg_sl ([.ref (ad p0), .ref (ad p1)]) ++ List.replicate (4 - (lg_sl ([.ref (ad p0), .ref (ad p1)])).length) Slot.unset).toArray = ls at hl ⊢
  have hl : lv_has ls 4 [(0, .ref (ad p0)), (1, .ref (ad p1))] := hl
  have hinX1 : ∀ w ∈ wsX10, w ∈ wsX9_bytesWith := by decide +kernel
  have w_0 := va_Nw.use (A := (List.toArray [.ref (ad p0), .ref (ad p1)])) rfl (hGs.1 (.fieldLinkNest RX9 76 "MailSpool$Content" "places" "I" "MailSpool") (by decide +kernel))
  have hGE := hGs.2.2.2.1
  have hGM := hGs.2.2.2.2
  have L8 : ∀ (fu8 : Nat) (S0 : St) (v0 : Nat) (v1 : Nat) (v2 : Int32) (v3 : Int32) (tv0 : v0 < n ∧ K v0 = 8) (tv1 : v1 < n ∧ K v1 = 1) (H : Heap) (locs : List Loc) (ls : Array Slot), f_X9_bytesWith_L8 F fu8 S0 v0 v1 v2 v3 = some (r9, S9) → Wb g ad n K S0 (dA ad n s.heap.size) H → va_S (dA ad n s.heap.size) s.heap H locs → lv_has ls 4 [(0, .ref (ad v0)), (1, .ref (ad v1)), (2, .int v2), (3, .int v3)] → W p l e (headSpec wsX9_bytesWith { frames := 4, cells := 0, slots := 0, locals := 90 }).room s m (List.toArray [.ref (ad p0), .ref (ad p1)]) below meth c H locs 0 0 (MQ below (QR (some (.int r9)) (QB g ad n K S9 (dA ad n s.heap.size) (True)) (dA ad n s.heap.size)) (List.toArray [.ref (ad p0), .ref (ad p1)]) s 0 0 (dA ad n s.heap.size)) (F0 m 8 ls []) := by
    intro fu8
    induction fu8 with
    | zero =>
      intro S0 v0 v1 v2 v3 tv0 tv1 H locs ls hf
      cases hf
    | succ fu8 ih8 =>
      have L42 : ∀ (S0 : St) (v0 : Nat) (v1 : Nat) (v2 : Int32) (v3 : Int32) (tv0 : v0 < n ∧ K v0 = 8) (tv1 : v1 < n ∧ K v1 = 1) (H : Heap) (locs : List Loc) (ls : Array Slot), f_X9_bytesWith_L42 F (fun a0 a1 a2 a3 a4 => f_X9_bytesWith_L8 F fu8 a0 a1 a2 a3 a4) S0 v0 v1 v2 v3 = some (r9, S9) → Wb g ad n K S0 (dA ad n s.heap.size) H → va_S (dA ad n s.heap.size) s.heap H locs → lv_has ls 4 [(0, .ref (ad v0)), (1, .ref (ad v1)), (2, .int v2), (3, .int v3)] → W p l e (headSpec wsX9_bytesWith { frames := 4, cells := 0, slots := 0, locals := 90 }).room s m (List.toArray [.ref (ad p0), .ref (ad p1)]) below meth c H locs 0 0 (MQ below (QR (some (.int r9)) (QB g ad n K S9 (dA ad n s.heap.size) (True)) (dA ad n s.heap.size)) (List.toArray [.ref (ad p0), .ref (ad p1)]) s 0 0 (dA ad n s.heap.size)) (F0 m 42 ls []) := by
        intro S0 v0 v1 v2 v3 tv0 tv1 H locs ls hf hW hS hl
        unfold f_X9_bytesWith_L42 at hf
        obtain ⟨x2, ex2⟩ : ∃ z : Int32, z = v3 + 1 := ⟨_, rfl⟩
        replace hf := ltE hf x2 ex2
        refine lv_iinc (v := x2) (lv' := [(3, .int x2), (0, .ref (ad v0)), (1, .ref (ad v1)), (2, .int v2)]) hx hb dX9_bytesWith_42 hl (k := 3) rfl (by rw [ex2]; rfl) (by decide) rfl (fun ls hl => ?_)
        refine lv_goto (tgt := 8) hx hb dX9_bytesWith_45 (by decide) ?_
        exact ih8 S0 v0 v1 v2 x2 tv0 tv1 _ _ _ hf hW hS (lv_sub hl [1, 2, 3, 0] rfl)
      intro S0 v0 v1 v2 v3 tv0 tv1 H locs ls hf hW hS hl
      unfold f_X9_bytesWith_L8 at hf
      refine lv_iload_n hx hb dX9_bytesWith_8 rfl (lv_at hl 3 rfl) ?_
      refine lv_aload_n hx hb dX9_bytesWith_9 rfl (lv_at hl 1 rfl) ?_
      refine x_getiN 103 (ci := 1) (C := RX1) (T := TX1) (N := 4) 3 hC hinX1 hW tv1 rfl rfl ⟨by decide, by decide, rfl, rfl⟩ rfl w_0 dX9_bytesWith_10 ?_
      refine lv_icmp_ge (tgt := 48) hx hb dX9_bytesWith_13 (by decide) (fun c19 => ?_) (fun c19 => ?_)
      · replace hf := ifT c19 hf
        refine lv_iload_n hx hb dX9_bytesWith_48 rfl (lv_at hl 2 rfl) ?_
        obtain ⟨e1, e2⟩ := so2 hf
        subst e1
        subst e2
        exact W.iret (v := v2) hx hb hr (fun t ht hWm => ⟨⟨rfl, by unfold QB; rw [ht]; exact ⟨hW, trivial⟩⟩, hS.F ht⟩) hS.2.2 dX9_bytesWith_49 hlk
      · replace hf := ifF c19 hf
        refine lv_aload_n hx hb dX9_bytesWith_16 rfl (lv_at hl 1 rfl) ?_
        refine lv_iload_n hx hb dX9_bytesWith_17 rfl (lv_at hl 3 rfl) ?_
        replace hf := obE hf
        obtain ⟨z20, hz20, hf⟩ := hf
        obtain ⟨r22, S21⟩ := z20
        replace hf := ltE (ltE hf r22 rfl) S21 rfl
        refine x_callV (As := [.int v3]) (rest := []) (o := (some (.int r22))) (S1 := S21) hC hl.1 hW hS hGs hA tv1 rfl (show vwCl[1]? = some (RX1, TX1, 4) ∧ ob 1 from ⟨rfl, by decide⟩) (c_X1_isFirstOfItsKind l g ad n K H.size F S0 v1 v3 tv1 r22 S21 hz20) (cwV 1 hts gX9_bytesWith_X1_isFirstOfItsKind rfl rfl rfl (by decide +kernel) ⟨Nat.le_of_ble_eq_true rfl, Nat.le_of_ble_eq_true rfl⟩) rfl rfl (Nat.le_of_ble_eq_true rfl) dX9_bytesWith_18 ⟨Nat.le_of_ble_eq_true rfl, Nat.le_of_ble_eq_true rfl⟩ (fun H locs hPz20 hW hS => ?_)
        refine W.eq (g2 := F0 m 21 ls [.int r22]) rfl ?_
        refine lv_if_eq (tgt := 42) hx hb dX9_bytesWith_21 (by decide) (fun c24 => ?_) (fun c24 => ?_)
        · replace hf := ifT c24 hf
          exact L42 S21 v0 v1 v2 v3 tv0 tv1 _ _ _ hf hW hS (lv_sub hl [0, 1, 2, 3] rfl)
        · replace hf := ifF c24 hf
          refine lv_aload_n hx hb dX9_bytesWith_24 rfl (lv_at hl 0 rfl) ?_
          refine lv_aload_n hx hb dX9_bytesWith_25 rfl (lv_at hl 1 rfl) ?_
          refine lv_iload_n hx hb dX9_bytesWith_26 rfl (lv_at hl 3 rfl) ?_
          replace hf := obE hf
          obtain ⟨z25, hz25, hf⟩ := hf
          obtain ⟨r27, S26⟩ := z25
          replace hf := ltE (ltE hf r27 rfl) S26 rfl
          refine x_callV (As := [.ref (ad v1), .int v3]) (rest := []) (o := (some (.int r27))) (S1 := S26) hC hl.1 hW hS hGs hA tv0 rfl (show vwCl[8]? = some (RX9, TX9, 8) ∧ ob 8 from ⟨rfl, by decide⟩) (c_X9_numberOf l g ad n K H.size F S21 v0 v1 v3 tv0 tv1 r27 S26 hz25) (cwV 2 hts gX9_bytesWith_X9_numberOf rfl rfl rfl (by decide +kernel) ⟨Nat.le_of_ble_eq_true rfl, Nat.le_of_ble_eq_true rfl⟩) rfl rfl (Nat.le_of_ble_eq_true rfl) dX9_bytesWith_27 ⟨Nat.le_of_ble_eq_true rfl, Nat.le_of_ble_eq_true rfl⟩ (fun H locs hPz25 hW hS => ?_)
          refine W.eq (g2 := F0 m 30 ls [.int r27]) rfl ?_
          refine lv_iconst (v := -1) hx hb dX9_bytesWith_30 (by decide) ?_
          refine lv_icmp_ne (tgt := 42) hx hb dX9_bytesWith_31 (by decide) (fun c29 => ?_) (fun c29 => ?_)
          · replace hf := ifT c29 hf
            exact L42 S26 v0 v1 v2 v3 tv0 tv1 _ _ _ hf hW hS (lv_sub hl [0, 1, 2, 3] rfl)
          · replace hf := ifF (fun q => q c29) hf
            refine lv_iload_n hx hb dX9_bytesWith_34 rfl (lv_at hl 2 rfl) ?_
            refine lv_aload_n hx hb dX9_bytesWith_35 rfl (lv_at hl 1 rfl) ?_
            refine lv_iload_n hx hb dX9_bytesWith_36 rfl (lv_at hl 3 rfl) ?_
            replace hf := obE hf
            obtain ⟨z30, hz30, hf⟩ := hf
            obtain ⟨r32, S31⟩ := z30
            replace hf := ltE (ltE hf r32 rfl) S31 rfl
            refine x_callV (As := [.int v3]) (rest := [.int v2]) (o := (some (.int r32))) (S1 := S31) hC hl.1 hW hS hGs hA tv1 rfl (show vwCl[1]? = some (RX1, TX1, 4) ∧ ob 1 from ⟨rfl, by decide⟩) (c_X1_sizeAt l g ad n K H.size F S26 v1 v3 tv1 r32 S31 hz30) (cwV 1 hts gX9_bytesWith_X1_sizeAt rfl rfl rfl (by decide +kernel) ⟨Nat.le_of_ble_eq_true rfl, Nat.le_of_ble_eq_true rfl⟩) rfl rfl (Nat.le_of_ble_eq_true rfl) dX9_bytesWith_37 ⟨Nat.le_of_ble_eq_true rfl, Nat.le_of_ble_eq_true rfl⟩ (fun H locs hPz30 hW hS => ?_)
            refine W.eq (g2 := F0 m 40 ls [.int r32, .int v2]) rfl ?_
            refine lv_iadd hx hb dX9_bytesWith_40 ?_
            refine lv_topi (fun x34 ex34 => ?_)
            replace hf := ltE hf x34 ex34
            refine lv_istore_n (lv' := [(2, .int x34), (0, .ref (ad v0)), (1, .ref (ad v1)), (3, .int v3)]) hx hb dX9_bytesWith_41 rfl hl (by decide) rfl (fun ls hl => ?_)
            exact L42 S31 v0 v1 x34 v3 tv0 tv1 _ _ _ hf hW hS (lv_sub hl [1, 2, 0, 3] rfl)
  unfold f_X9_bytesWith at hf
  refine lv_aload_n hx hb dX9_bytesWith_0 rfl (lv_at hl 0 rfl) ?_
  refine lv_iconst (v := 0) hx hb dX9_bytesWith_1 (by decide) ?_
  replace hf := obE hf
  obtain ⟨z35, hz35, hf⟩ := hf
  obtain ⟨r37, S36⟩ := z35
  replace hf := ltE (ltE hf r37 rfl) S36 rfl
  refine x_callV (As := [.int 0]) (rest := []) (o := (some (.int r37))) (S1 := S36) hC hl.1 hW hS hGs hA tp0 rfl (show vwCl[8]? = some (RX9, TX9, 8) ∧ ob 8 from ⟨rfl, by decide⟩) (c_X9_byteSum l g ad n K s.heap.size F S0 p0 ((0 : Int32)) tp0 r37 S36 hz35) (cwV 1 hts gX9_bytesWith_X9_byteSum rfl rfl rfl (by decide +kernel) ⟨Nat.le_of_ble_eq_true rfl, Nat.le_of_ble_eq_true rfl⟩) rfl rfl (Nat.le_of_ble_eq_true rfl) dX9_bytesWith_2 ⟨Nat.le_of_ble_eq_true rfl, Nat.le_of_ble_eq_true rfl⟩ (fun H locs hPz35 hW hS => ?_)
  refine W.eq (g2 := F0 m 5 ls [.int r37]) rfl ?_
  refine lv_istore_n (lv' := [(2, .int r37), (0, .ref (ad p0)), (1, .ref (ad p1))]) hx hb dX9_bytesWith_5 rfl hl (by decide) rfl (fun ls hl => ?_)
  refine lv_iconst (v := 0) hx hb dX9_bytesWith_6 (by decide) ?_
  refine lv_istore_n (lv' := [(3, .int 0), (2, .int r37), (0, .ref (ad p0)), (1, .ref (ad p1))]) hx hb dX9_bytesWith_7 rfl hl (by decide) rfl (fun ls hl => ?_)
  exact L8 F S36 p0 p1 r37 0 tp0 tp1 _ _ _ hf hW hS (lv_sub hl [2, 3, 1, 0] rfl)
set_option maxHeartbeats 4000000 in
set_option maxRecDepth 100000 in
theorem c_X1_sizeOfAll (l : Launch) (g : GP) (ad : Nat → Nat) (n : Nat) (K : Nat → Nat) (sz F : Nat) (S0 : St) (p0 : Nat) (tp0 : p0 < n ∧ K p0 = 1) (r9 : Int32) (S9 : St) (hf : f_X1_sizeOfAll F S0 p0 = some (r9, S9)) : Met l yX1_sizeOfAll wsX1_sizeOfAll { frames := 2, cells := 0, slots := 0, locals := 42 } (va_Pc [.ref (ad p0)] (PB g ad n K S0 sz)) (QR (some (.int r9)) (QB g ad n K S9 (dA ad n sz) (True)) (dA ad n sz)) 0 0 (dA ad n sz) := by
  refine Met.ofW (cc := cX1_sizeOfAll) (maxL := 3) (ret := (some .int)) (by decide) rfl ?_
  intro p e s m args below meth c s₁ B hml hv
  obtain ⟨rfl, hsz, hW, hK, hGs⟩ := x_start hv
  subst hsz
  have hx := B.exec
  have hb := B.bytes
  have hr := B.returns
  have hts := atoms_spec (ws := wsX1_sizeOfAll) B.pre
  have hown : s.vm.findClass RX1 = some m.cls := findClass_of_methodNamed B.named
  have hlk := B.notSynchronized
  have hC : Cx g p s m _ c cX1_sizeOfAll RX1 wsX1_sizeOfAll 3 := ⟨hx, hb, hml, hown, hts, hK⟩
  have hA : ∀ q : Nat, s.heap.size ≤ q → dA ad n s.heap.size q := fun q h => Or.inr h
  have hS : va_S (dA ad n s.heap.size) s.heap s.heap [] := va_S.rf
  have hl := lv_entry ([.ref (ad p0)]) (n := 3) (Nat.le_of_ble_eq_true rfl)
  rw [lg_entry_eq]
  generalize (lg_sl ([.ref (ad p0)]) ++ List.replicate (3 - (lg_sl ([.ref (ad p0)])).length) Slot.unset).toArray = ls at hl ⊢
  have hl : lv_has ls 3 [(0, .ref (ad p0))] := hl
  have hinX1 : ∀ w ∈ wsX10, w ∈ wsX1_sizeOfAll := by decide +kernel
  have w_0 := hts (.fieldLink RX1 22 "MailSpool$Content" "places" "I") (by decide +kernel)
  have hGE := hGs.2.2.2.1
  have hGM := hGs.2.2.2.2
  have L4 : ∀ (fu4 : Nat) (S0 : St) (v0 : Nat) (v1 : Int32) (v2 : Int32) (tv0 : v0 < n ∧ K v0 = 1) (H : Heap) (locs : List Loc) (ls : Array Slot), f_X1_sizeOfAll_L4 F fu4 S0 v0 v1 v2 = some (r9, S9) → Wb g ad n K S0 (dA ad n s.heap.size) H → va_S (dA ad n s.heap.size) s.heap H locs → lv_has ls 3 [(0, .ref (ad v0)), (1, .int v1), (2, .int v2)] → W p l e (headSpec wsX1_sizeOfAll { frames := 2, cells := 0, slots := 0, locals := 42 }).room s m (List.toArray [.ref (ad p0)]) below meth c H locs 0 0 (MQ below (QR (some (.int r9)) (QB g ad n K S9 (dA ad n s.heap.size) (True)) (dA ad n s.heap.size)) (List.toArray [.ref (ad p0)]) s 0 0 (dA ad n s.heap.size)) (F0 m 4 ls []) := by
    intro fu4
    induction fu4 with
    | zero =>
      intro S0 v0 v1 v2 tv0 H locs ls hf
      cases hf
    | succ fu4 ih4 =>
      intro S0 v0 v1 v2 tv0 H locs ls hf hW hS hl
      unfold f_X1_sizeOfAll_L4 at hf
      refine lv_iload_n hx hb dX1_sizeOfAll_4 rfl (lv_at hl 2 rfl) ?_
      refine lv_aload_n hx hb dX1_sizeOfAll_5 rfl (lv_at hl 0 rfl) ?_
      refine x_geti 103 (ci := 1) (C := RX1) (T := TX1) (N := 4) 3 hC hinX1 hW tv0 rfl rfl ⟨by decide, by decide, rfl, rfl⟩ rfl w_0 dX1_sizeOfAll_6 ?_
      refine lv_icmp_ge (tgt := 26) hx hb dX1_sizeOfAll_9 (by decide) (fun c8 => ?_) (fun c8 => ?_)
      · replace hf := ifT c8 hf
        refine lv_iload_n hx hb dX1_sizeOfAll_26 rfl (lv_at hl 1 rfl) ?_
        obtain ⟨e1, e2⟩ := so2 hf
        subst e1
        subst e2
        exact W.iret (v := v1) hx hb hr (fun t ht hWm => ⟨⟨rfl, by unfold QB; rw [ht]; exact ⟨hW, trivial⟩⟩, hS.F ht⟩) hS.2.2 dX1_sizeOfAll_27 hlk
      · replace hf := ifF c8 hf
        refine lv_iload_n hx hb dX1_sizeOfAll_12 rfl (lv_at hl 1 rfl) ?_
        refine lv_aload_n hx hb dX1_sizeOfAll_13 rfl (lv_at hl 0 rfl) ?_
        refine lv_iload_n hx hb dX1_sizeOfAll_14 rfl (lv_at hl 2 rfl) ?_
        replace hf := obE hf
        obtain ⟨z9, hz9, hf⟩ := hf
        obtain ⟨r11, S10⟩ := z9
        replace hf := ltE (ltE hf r11 rfl) S10 rfl
        refine x_callV (As := [.int v2]) (rest := [.int v1]) (o := (some (.int r11))) (S1 := S10) hC hl.1 hW hS hGs hA tv0 rfl (show vwCl[1]? = some (RX1, TX1, 4) ∧ ob 1 from ⟨rfl, by decide⟩) (c_X1_sizeAt l g ad n K H.size F S0 v0 v2 tv0 r11 S10 hz9) (cwV 1 hts gX1_sizeOfAll_X1_sizeAt rfl rfl rfl (by decide +kernel) ⟨Nat.le_of_ble_eq_true rfl, Nat.le_of_ble_eq_true rfl⟩) rfl rfl (Nat.le_of_ble_eq_true rfl) dX1_sizeOfAll_15 ⟨Nat.le_of_ble_eq_true rfl, Nat.le_of_ble_eq_true rfl⟩ (fun H locs hPz9 hW hS => ?_)
        refine W.eq (g2 := F0 m 18 ls [.int r11, .int v1]) rfl ?_
        refine lv_iadd hx hb dX1_sizeOfAll_18 ?_
        refine lv_topi (fun x13 ex13 => ?_)
        replace hf := ltE hf x13 ex13
        refine lv_istore_n (lv' := [(1, .int x13), (0, .ref (ad v0)), (2, .int v2)]) hx hb dX1_sizeOfAll_19 rfl hl (by decide) rfl (fun ls hl => ?_)
        obtain ⟨x14, ex14⟩ : ∃ z : Int32, z = v2 + 1 := ⟨_, rfl⟩
        replace hf := ltE hf x14 ex14
        refine lv_iinc (v := x14) (lv' := [(2, .int x14), (1, .int x13), (0, .ref (ad v0))]) hx hb dX1_sizeOfAll_20 hl (k := 2) rfl (by rw [ex14]; rfl) (by decide) rfl (fun ls hl => ?_)
        refine lv_goto (tgt := 4) hx hb dX1_sizeOfAll_23 (by decide) ?_
        exact ih4 S10 v0 x13 x14 tv0 _ _ _ hf hW hS (lv_sub hl [2, 1, 0] rfl)
  unfold f_X1_sizeOfAll at hf
  refine lv_iconst (v := 0) hx hb dX1_sizeOfAll_0 (by decide) ?_
  refine lv_istore_n (lv' := [(1, .int 0), (0, .ref (ad p0))]) hx hb dX1_sizeOfAll_1 rfl hl (by decide) rfl (fun ls hl => ?_)
  refine lv_iconst (v := 0) hx hb dX1_sizeOfAll_2 (by decide) ?_
  refine lv_istore_n (lv' := [(2, .int 0), (1, .int 0), (0, .ref (ad p0))]) hx hb dX1_sizeOfAll_3 rfl hl (by decide) rfl (fun ls hl => ?_)
  exact L4 F S0 p0 0 0 tp0 _ _ _ hf hW hS (lv_sub hl [2, 1, 0] rfl)
set_option maxHeartbeats 4000000 in
set_option maxRecDepth 100000 in
theorem c_X10_hasBit (l : Launch) (g : GP) (ad : Nat → Nat) (n : Nat) (K : Nat → Nat) (sz F : Nat) (S0 : St) (p0 : Int32) (p1 : Int32) (r9 : Int32) (S9 : St) (hf : f_X10_hasBit F S0 p0 p1 = some (r9, S9)) : Met l yX10_hasBit wsX10_hasBit { frames := 0, cells := 0, slots := 0, locals := 0 } (va_Pc [.int p0, .int p1] (PB g ad n K S0 sz)) (QR (some (.int r9)) (QB g ad n K S9 (dA ad n sz) (True)) (dA ad n sz)) 0 0 (dA ad n sz) := by
  refine Met.ofW (cc := cX10_hasBit) (maxL := 2) (ret := (some .boolean)) (by decide) rfl ?_
  intro p e s m args below meth c s₁ B hml hv
  obtain ⟨rfl, hsz, hW, hK, hGs⟩ := x_start hv
  subst hsz
  have hx := B.exec
  have hb := B.bytes
  have hr := B.returns
  have hts := atoms_spec (ws := wsX10_hasBit) B.pre
  have hown : s.vm.findClass RX10 = some m.cls := findClass_of_methodNamed B.named
  have hlk := B.notSynchronized
  have hC : Cx g p s m _ c cX10_hasBit RX10 wsX10_hasBit 2 := ⟨hx, hb, hml, hown, hts, hK⟩
  have hA : ∀ q : Nat, s.heap.size ≤ q → dA ad n s.heap.size q := fun q h => Or.inr h
  have hS : va_S (dA ad n s.heap.size) s.heap s.heap [] := va_S.rf
  have hl := lv_entry ([.int p0, .int p1]) (n := 2) (Nat.le_of_ble_eq_true rfl)
  rw [lg_entry_eq]
  generalize (lg_sl ([.int p0, .int p1]) ++ List.replicate (2 - (lg_sl ([.int p0, .int p1])).length) Slot.unset).toArray = ls at hl ⊢
  have hl : lv_has ls 2 [(0, .int p0), (1, .int p1)] := hl
  have hGE := hGs.2.2.2.1
  have hGM := hGs.2.2.2.2
  unfold f_X10_hasBit at hf
  refine lv_iload_n hx hb dX10_hasBit_0 rfl (lv_at hl 0 rfl) ?_
  refine lv_iload_n hx hb dX10_hasBit_1 rfl (lv_at hl 1 rfl) ?_
  refine lv_ishr hx hb dX10_hasBit_2 ?_
  refine lv_iconst (v := 1) hx hb dX10_hasBit_3 (by decide) ?_
  refine lv_iand hx hb dX10_hasBit_4 ?_
  refine lv_if_eq (tgt := 12) hx hb dX10_hasBit_5 (by decide) (fun c1 => ?_) (fun c1 => ?_)
  · replace hf := ifT c1 hf
    refine lv_iconst (v := 0) hx hb dX10_hasBit_12 (by decide) ?_
    obtain ⟨e1, e2⟩ := so2 hf
    subst e1
    subst e2
    exact W.zret (v := 0) hx hb hr rfl (fun t ht hWm => ⟨⟨rfl, by unfold QB; rw [ht]; exact ⟨hW, trivial⟩⟩, hS.F ht⟩) hS.2.2 dX10_hasBit_13 hlk
  · replace hf := ifF c1 hf
    refine lv_iconst (v := 1) hx hb dX10_hasBit_8 (by decide) ?_
    refine lv_goto (tgt := 13) hx hb dX10_hasBit_9 (by decide) ?_
    obtain ⟨e1, e2⟩ := so2 hf
    subst e1
    subst e2
    exact W.zret (v := 1) hx hb hr rfl (fun t ht hWm => ⟨⟨rfl, by unfold QB; rw [ht]; exact ⟨hW, trivial⟩⟩, hS.F ht⟩) hS.2.2 dX10_hasBit_13 hlk
set_option maxHeartbeats 4000000 in
set_option maxRecDepth 100000 in
theorem c_X8_stateOf (l : Launch) (g : GP) (ad : Nat → Nat) (n : Nat) (K : Nat → Nat) (sz F : Nat) (S0 : St) (p0 : Nat) (p1 : Int32) (p2 : Int32) (tp0 : p0 < n ∧ K p0 = 7) (r9 : Int32) (S9 : St) (hf : f_X8_stateOf F S0 p0 p1 p2 = some (r9, S9)) : Met l yX8_stateOf wsX8_stateOf { frames := 1, cells := 0, slots := 0, locals := 21 } (va_Pc [.ref (ad p0), .int p1, .int p2] (PB g ad n K S0 sz)) (QR (some (.int r9)) (QB g ad n K S9 (dA ad n sz) (True)) (dA ad n sz)) 0 0 (dA ad n sz) := by
  refine Met.ofW (cc := cX8_stateOf) (maxL := 3) (ret := (some .int)) (by decide) rfl ?_
  intro p e s m args below meth c s₁ B hml hv
  obtain ⟨rfl, hsz, hW, hK, hGs⟩ := x_start hv
  subst hsz
  have hx := B.exec
  have hb := B.bytes
  have hr := B.returns
  have hts := atoms_spec (ws := wsX8_stateOf) B.pre
  have hown : s.vm.findClass RX8 = some m.cls := findClass_of_methodNamed B.named
  have hlk := B.notSynchronized
  have hC : Cx g p s m _ c cX8_stateOf RX8 wsX8_stateOf 3 := ⟨hx, hb, hml, hown, hts, hK⟩
  have hA : ∀ q : Nat, s.heap.size ≤ q → dA ad n s.heap.size q := fun q h => Or.inr h
  have hS : va_S (dA ad n s.heap.size) s.heap s.heap [] := va_S.rf
  have hl := lv_entry ([.ref (ad p0), .int p1, .int p2]) (n := 3) (Nat.le_of_ble_eq_true rfl)
  rw [lg_entry_eq]
  generalize (lg_sl ([.ref (ad p0), .int p1, .int p2]) ++ List.replicate (3 - (lg_sl ([.ref (ad p0), .int p1, .int p2])).length) Slot.unset).toArray = ls at hl ⊢
  have hl : lv_has ls 3 [(0, .ref (ad p0)), (1, .int p1), (2, .int p2)] := hl
  have hinX7 : ∀ w ∈ wsX70, w ∈ wsX8_stateOf := by decide +kernel
  have hinX8 : ∀ w ∈ wsX80, w ∈ wsX8_stateOf := by decide +kernel
  have w_0 := hts (.fieldLink RX8 88 "MailSpool$Spool" "messageCount" "I") (by decide +kernel)
  have w_1 := hts (.fieldLink RX8 9 "MailSpool$Spool" "rules" "LMailSpool$Rules;") (by decide +kernel)
  have w_2 := va_Nw.use (A := (List.toArray [.ref (ad p0), .int p1, .int p2])) rfl (hGs.1 (.fieldLinkNest RX8 102 "MailSpool$Rules" "users" "LMailSpool$Names;" "MailSpool") (by decide +kernel))
  have w_3 := hts (.fieldLink RX8 25 "MailSpool$Spool" "states" "[I") (by decide +kernel)
  have w_4 := va_Nw.use (A := (List.toArray [.ref (ad p0), .int p1, .int p2])) rfl (hGs.1 (.methodLinkNest RX8 112 yX10_at "MailSpool") (by decide +kernel))
  have w_5 := hts (.initialized RX10) (by decide +kernel)
  have w_6 := hts (.static yX10_at) (by decide +kernel)
  have hGE := hGs.2.2.2.1
  have hGM := hGs.2.2.2.2
  unfold f_X8_stateOf at hf
  refine lv_iload_n hx hb dX8_stateOf_0 rfl (lv_at hl 1 rfl) ?_
  refine lv_if_lt (tgt := 26) hx hb dX8_stateOf_1 (by decide) (fun c1 => ?_) (fun c1 => ?_)
  · replace hf := ifT c1 hf
    refine lv_iconst (v := -1) hx hb dX8_stateOf_26 (by decide) ?_
    obtain ⟨e1, e2⟩ := so2 hf
    subst e1
    subst e2
    exact W.iret (v := (-1)) hx hb hr (fun t ht hWm => ⟨⟨rfl, by unfold QB; rw [ht]; exact ⟨hW, trivial⟩⟩, hS.F ht⟩) hS.2.2 dX8_stateOf_27 hlk
  · replace hf := ifF c1 hf
    refine lv_iload_n hx hb dX8_stateOf_4 rfl (lv_at hl 1 rfl) ?_
    refine lv_aload_n hx hb dX8_stateOf_5 rfl (lv_at hl 0 rfl) ?_
    refine x_geti 705 (ci := 7) (C := RX8) (T := TX8) (N := 16) 5 hC hinX8 hW tp0 rfl rfl ⟨by decide, by decide, rfl, rfl⟩ rfl w_0 dX8_stateOf_6 ?_
    refine lv_icmp_ge (tgt := 26) hx hb dX8_stateOf_9 (by decide) (fun c2 => ?_) (fun c2 => ?_)
    · replace hf := ifT c2 hf
      refine lv_iconst (v := -1) hx hb dX8_stateOf_26 (by decide) ?_
      obtain ⟨e1, e2⟩ := so2 hf
      subst e1
      subst e2
      exact W.iret (v := (-1)) hx hb hr (fun t ht hWm => ⟨⟨rfl, by unfold QB; rw [ht]; exact ⟨hW, trivial⟩⟩, hS.F ht⟩) hS.2.2 dX8_stateOf_27 hlk
    · replace hf := ifF c2 hf
      refine lv_aload_n hx hb dX8_stateOf_12 rfl (lv_at hl 0 rfl) ?_
      replace hf := obE hf
      obtain ⟨j3, qj3, hf⟩ := hf
      have tj3 := x_rt hW qj3 6 ⟨by decide, rfl⟩
      refine x_getr 700 (ci := 7) (C := RX8) (T := TX8) (N := 16) 0 hC hinX8 hW tp0 rfl rfl ⟨by decide, by decide, rfl, rfl⟩ rfl w_1 dX8_stateOf_13 qj3 ?_
      replace hf := obE hf
      obtain ⟨j4, qj4, hf⟩ := hf
      have tj4 := x_rt hW qj4 4 ⟨by decide, rfl⟩
      refine x_getrN 606 (ci := 6) (C := RX7) (T := TX7) (N := 16) 6 hC hinX7 hW tj3 rfl rfl ⟨by decide, by decide, rfl, rfl⟩ rfl w_2 dX8_stateOf_16 qj4 ?_
      refine lv_iload_n hx hb dX8_stateOf_19 rfl (lv_at hl 2 rfl) ?_
      replace hf := obE hf
      obtain ⟨z5, hz5, hf⟩ := hf
      obtain ⟨r7, S6⟩ := z5
      replace hf := ltE (ltE hf r7 rfl) S6 rfl
      refine x_callV (As := [.int p2]) (rest := []) (o := (some (.int r7))) (S1 := S6) hC hl.1 hW hS hGs hA tj4 rfl (show vwCl[4]? = some (RX5, TX5, 2) ∧ ob 4 from ⟨rfl, by decide⟩) (c_X5_has l g ad n K s.heap.size F S0 j4 p2 tj4 r7 S6 hz5) (cwV 1 hts gX8_stateOf_X5_has rfl rfl rfl (by decide +kernel) ⟨Nat.le_of_ble_eq_true rfl, Nat.le_of_ble_eq_true rfl⟩) rfl rfl (Nat.le_of_ble_eq_true rfl) dX8_stateOf_20 ⟨Nat.le_of_ble_eq_true rfl, Nat.le_of_ble_eq_true rfl⟩ (fun H locs hPz5 hW hS => ?_)
      refine W.eq (g2 := F0 m 23 ls [.int r7]) rfl ?_
      refine lv_if_ne (tgt := 28) hx hb dX8_stateOf_23 (by decide) (fun c9 => ?_) (fun c9 => ?_)
      · replace hf := ifT c9 hf
        refine lv_aload_n hx hb dX8_stateOf_28 rfl (lv_at hl 0 rfl) ?_
        replace hf := obE hf
        obtain ⟨j10, qj10, hf⟩ := hf
        have tj10 := x_rt hW qj10 12 ⟨by decide, rfl⟩
        refine x_getr 707 (ci := 7) (C := RX8) (T := TX8) (N := 16) 7 hC hinX8 hW tp0 rfl rfl ⟨by decide, by decide, rfl, rfl⟩ rfl w_3 dX8_stateOf_29 qj10 ?_
        refine lv_iload_n hx hb dX8_stateOf_32 rfl (lv_at hl 1 rfl) ?_
        refine lv_bipush (v := 10) hx hb dX8_stateOf_33 (by decide) ?_
        refine lv_imul hx hb dX8_stateOf_35 ?_
        refine lv_iload_n hx hb dX8_stateOf_36 rfl (lv_at hl 2 rfl) ?_
        refine lv_iadd hx hb dX8_stateOf_37 ?_
        replace hf := obE hf
        obtain ⟨z11, hz11, hf⟩ := hf
        obtain ⟨r13, S12⟩ := z11
        replace hf := ltE (ltE hf r13 rfl) S12 rfl
        refine x_callSN (As := [.ref (ad j10), .int ((p1 * 10) + p2)]) (rest := []) (o := (some (.int r13))) (S1 := S12) hC hl.1 hW hS hGs hA (c_X10_at l g ad n K H.size F S6 j10 ((p1 * 10) + p2) tj10 r13 S12 hz11) ⟨va_cnB 2 hts gX8_stateOf_X10_at_n112 rfl rfl rfl (va_Nw.of rfl w_4) w_5 (by decide +kernel) ⟨Nat.le_of_ble_eq_true rfl, Nat.le_of_ble_eq_true rfl⟩, w_6, trivial⟩ rfl rfl (Nat.le_of_ble_eq_true rfl) dX8_stateOf_38 ⟨Nat.le_of_ble_eq_true rfl, Nat.le_of_ble_eq_true rfl⟩ (fun H locs hPz11 hW hS => ?_)
        refine W.eq (g2 := F0 m 41 ls [.int r13]) rfl ?_
        obtain ⟨e1, e2⟩ := so2 hf
        subst e1
        subst e2
        exact W.iret (v := r13) hx hb hr (fun t ht hWm => ⟨⟨rfl, by unfold QB; rw [ht]; exact ⟨hW, trivial⟩⟩, hS.F ht⟩) hS.2.2 dX8_stateOf_41 hlk
      · replace hf := ifF (fun q => q c9) hf
        refine lv_iconst (v := -1) hx hb dX8_stateOf_26 (by decide) ?_
        obtain ⟨e1, e2⟩ := so2 hf
        subst e1
        subst e2
        exact W.iret (v := (-1)) hx hb hr (fun t ht hWm => ⟨⟨rfl, by unfold QB; rw [ht]; exact ⟨hW, trivial⟩⟩, hS.F ht⟩) hS.2.2 dX8_stateOf_27 hlk
set_option maxHeartbeats 4000000 in
set_option maxRecDepth 100000 in
theorem c_X8_messageAt (l : Launch) (g : GP) (ad : Nat → Nat) (n : Nat) (K : Nat → Nat) (sz F : Nat) (S0 : St) (p0 : Nat) (p1 : Int32) (tp0 : p0 < n ∧ K p0 = 7) (r9 : Option Nat) (S9 : St) (hf : f_X8_messageAt F S0 p0 p1 = some (r9, S9)) : Met l yX8_messageAt wsX8_messageAt { frames := 0, cells := 0, slots := 0, locals := 0 } (va_Pc [.ref (ad p0), .int p1] (PB g ad n K S0 sz)) (QR (some (va_re ad r9)) (QB g ad n K S9 (dA ad n sz) (∀ j, r9 = some j → j < n ∧ K j = 3)) (dA ad n sz)) 0 0 (dA ad n sz) := by
  refine Met.ofW (cc := cX8_messageAt) (maxL := 4) (ret := (some (.object "MailSpool$Message"))) (by decide) rfl ?_
  intro p e s m args below meth c s₁ B hml hv
  obtain ⟨rfl, hsz, hW, hK, hGs⟩ := x_start hv
  subst hsz
  have hx := B.exec
  have hb := B.bytes
  have hr := B.returns
  have hts := atoms_spec (ws := wsX8_messageAt) B.pre
  have hown : s.vm.findClass RX8 = some m.cls := findClass_of_methodNamed B.named
  have hlk := B.notSynchronized
  have hC : Cx g p s m _ c cX8_messageAt RX8 wsX8_messageAt 4 := ⟨hx, hb, hml, hown, hts, hK⟩
  have hA : ∀ q : Nat, s.heap.size ≤ q → dA ad n s.heap.size q := fun q h => Or.inr h
  have hS : va_S (dA ad n s.heap.size) s.heap s.heap [] := va_S.rf
  have hl := lv_entry ([.ref (ad p0), .int p1]) (n := 4) (Nat.le_of_ble_eq_true rfl)
  rw [lg_entry_eq]
  generalize (lg_sl ([.ref (ad p0), .int p1]) ++ List.replicate (4 - (lg_sl ([.ref (ad p0), .int p1])).length) Slot.unset).toArray = ls at hl ⊢
  have hl : lv_has ls 4 [(0, .ref (ad p0)), (1, .int p1)] := hl
  have hinX8 : ∀ w ∈ wsX80, w ∈ wsX8_messageAt := by decide +kernel
  have w_0 := hts (.fieldLink RX8 62 "MailSpool$Spool" "noMessage" "LMailSpool$Message;") (by decide +kernel)
  have w_1 := hts (.fieldLink RX8 21 "MailSpool$Spool" "messages" "[LMailSpool$Message;") (by decide +kernel)
  have w_2 := hts (.fieldLink RX8 88 "MailSpool$Spool" "messageCount" "I") (by decide +kernel)
  have hGE := hGs.2.2.2.1
  have hGM := hGs.2.2.2.2
  have L41 : ∀ (S0 : St) (v0 : Nat) (s0 : Option Nat) (tv0 : v0 < n ∧ K v0 = 7) (ts0 : ∀ j, s0 = some j → j < n ∧ K j = 3) (H : Heap) (locs : List Loc) (ls : Array Slot), f_X8_messageAt_L41 F S0 v0 s0 = some (r9, S9) → Wb g ad n K S0 (dA ad n s.heap.size) H → va_S (dA ad n s.heap.size) s.heap H locs → lv_has ls 4 [(0, .ref (ad v0))] → W p l e (headSpec wsX8_messageAt { frames := 0, cells := 0, slots := 0, locals := 0 }).room s m (List.toArray [.ref (ad p0), .int p1]) below meth c H locs 0 0 (MQ below (QR (some (va_re ad r9)) (QB g ad n K S9 (dA ad n s.heap.size) (∀ j, r9 = some j → j < n ∧ K j = 3)) (dA ad n s.heap.size)) (List.toArray [.ref (ad p0), .int p1]) s 0 0 (dA ad n s.heap.size)) (F0 m 41 ls [va_re ad s0]) := by
    intro S0 v0 s0 tv0 ts0 H locs ls hf hW hS hl
    unfold f_X8_messageAt_L41 at hf
    cases s0 with
    | none =>
      replace hf := osN rfl hf
      refine lv_astore_nN (lv' := [(3, .null), (0, .ref (ad v0))]) hx hb dX8_messageAt_41 rfl hl (by decide) rfl (fun ls hl => ?_)
      refine lv_aload_nN hx hb dX8_messageAt_42 rfl (lv_at hl 0 rfl) ?_
      refine lv_ifnonnullN hx hb dX8_messageAt_43 ?_
      refine lv_aload_n hx hb dX8_messageAt_46 rfl (lv_at hl 1 rfl) ?_
      replace hf := obE hf
      obtain ⟨j2, qj2, hf⟩ := hf
      have tj2 := x_rt hW qj2 3 ⟨by decide, rfl⟩
      refine x_getr 715 (ci := 7) (C := RX8) (T := TX8) (N := 16) 15 hC hinX8 hW tv0 rfl rfl ⟨by decide, by decide, rfl, rfl⟩ rfl w_0 dX8_messageAt_47 qj2 ?_
      refine lv_goto (tgt := 54) hx hb dX8_messageAt_50 (by decide) ?_
      obtain ⟨e1, e2⟩ := so2 hf
      subst e1
      subst e2
      exact W.aret hx hb hr (Or.inl ⟨_, rfl⟩) (Or.inr ⟨_, rfl⟩) (fun t ht hWm => ⟨⟨rfl, by unfold QB; rw [ht]; exact ⟨hW, (fun _ h => by cases h; exact tj2)⟩⟩, hS.F ht⟩) hS.2.2 dX8_messageAt_54 hlk
    | some js0 =>
      replace hf := osS rfl hf
      have tjs0 := ts0 js0 rfl
      refine lv_astore_n (lv' := [(3, .ref (ad js0)), (0, .ref (ad v0))]) hx hb dX8_messageAt_41 rfl hl (by decide) rfl (fun ls hl => ?_)
      refine lv_aload_n hx hb dX8_messageAt_42 rfl (lv_at hl 0 rfl) ?_
      refine lv_ifnonnull (tgt := 53) hx hb dX8_messageAt_43 (by decide) ?_
      refine lv_aload_n hx hb dX8_messageAt_53 rfl (lv_at hl 0 rfl) ?_
      obtain ⟨e1, e2⟩ := so2 hf
      subst e1
      subst e2
      exact W.aret hx hb hr (Or.inl ⟨_, rfl⟩) (Or.inr ⟨_, rfl⟩) (fun t ht hWm => ⟨⟨rfl, by unfold QB; rw [ht]; exact ⟨hW, (fun _ h => by cases h; exact tjs0)⟩⟩, hS.F ht⟩) hS.2.2 dX8_messageAt_54 hlk
  have L26 : ∀ (S0 : St) (v0 : Nat) (v1 : Int32) (s0 : Int32) (tv0 : v0 < n ∧ K v0 = 7) (H : Heap) (locs : List Loc) (ls : Array Slot), f_X8_messageAt_L26 F S0 v0 v1 s0 = some (r9, S9) → Wb g ad n K S0 (dA ad n s.heap.size) H → va_S (dA ad n s.heap.size) s.heap H locs → lv_has ls 4 [(0, .ref (ad v0)), (1, .int v1)] → W p l e (headSpec wsX8_messageAt { frames := 0, cells := 0, slots := 0, locals := 0 }).room s m (List.toArray [.ref (ad p0), .int p1]) below meth c H locs 0 0 (MQ below (QR (some (va_re ad r9)) (QB g ad n K S9 (dA ad n s.heap.size) (∀ j, r9 = some j → j < n ∧ K j = 3)) (dA ad n s.heap.size)) (List.toArray [.ref (ad p0), .int p1]) s 0 0 (dA ad n s.heap.size)) (F0 m 26 ls [.int s0]) := by
    intro S0 v0 v1 s0 tv0 H locs ls hf hW hS hl
    unfold f_X8_messageAt_L26 at hf
    refine lv_istore_n (lv' := [(2, .int s0), (0, .ref (ad v0)), (1, .int v1)]) hx hb dX8_messageAt_26 rfl hl (by decide) rfl (fun ls hl => ?_)
    refine lv_iload_n hx hb dX8_messageAt_27 rfl (lv_at hl 0 rfl) ?_
    refine lv_if_eq (tgt := 40) hx hb dX8_messageAt_28 (by decide) (fun c7 => ?_) (fun c7 => ?_)
    · replace hf := ifT c7 hf
      refine lv_null hx hb dX8_messageAt_40 ?_
      exact L41 S0 v0 none tv0 (fun _ h => by cases h) _ _ _ hf hW hS (lv_sub hl [1] rfl)
    · replace hf := ifF c7 hf
      refine lv_aload_n hx hb dX8_messageAt_31 rfl (lv_at hl 1 rfl) ?_
      replace hf := obE hf
      obtain ⟨j8, qj8, hf⟩ := hf
      have tj8 := x_rt hW qj8 15 ⟨by decide, rfl⟩
      refine x_getr 706 (ci := 7) (C := RX8) (T := TX8) (N := 16) 6 hC hinX8 hW tv0 rfl rfl ⟨by decide, by decide, rfl, rfl⟩ rfl w_1 dX8_messageAt_32 qj8 ?_
      refine lv_iload_n hx hb dX8_messageAt_35 rfl (lv_at hl 2 rfl) ?_
      replace hf := ckiE hf
      obtain ⟨h9, hf⟩ := hf
      refine x_aald (t0 := 4) (C := "MailSpool$Message") hC hW tj8 rfl ⟨by decide, rfl⟩ h9 dX8_messageAt_36 (fun qj10 => ?_) (fun j10 qj10 tj10 => ?_)
      · replace hf := osN qj10 hf
        refine lv_goto (tgt := 41) hx hb dX8_messageAt_37 (by decide) ?_
        exact L41 S0 v0 none tv0 (fun _ h => by cases h) _ _ _ hf hW hS (lv_sub hl [1] rfl)
      · replace hf := osS qj10 hf
        refine lv_goto (tgt := 41) hx hb dX8_messageAt_37 (by decide) ?_
        exact L41 S0 v0 (some j10) tv0 (fun _ h => by cases h; exact tj10) _ _ _ hf hW hS (lv_sub hl [1] rfl)
  have L25 : ∀ (S0 : St) (v0 : Nat) (v1 : Int32) (tv0 : v0 < n ∧ K v0 = 7) (H : Heap) (locs : List Loc) (ls : Array Slot), f_X8_messageAt_L25 F S0 v0 v1 = some (r9, S9) → Wb g ad n K S0 (dA ad n s.heap.size) H → va_S (dA ad n s.heap.size) s.heap H locs → lv_has ls 4 [(0, .ref (ad v0)), (1, .int v1)] → W p l e (headSpec wsX8_messageAt { frames := 0, cells := 0, slots := 0, locals := 0 }).room s m (List.toArray [.ref (ad p0), .int p1]) below meth c H locs 0 0 (MQ below (QR (some (va_re ad r9)) (QB g ad n K S9 (dA ad n s.heap.size) (∀ j, r9 = some j → j < n ∧ K j = 3)) (dA ad n s.heap.size)) (List.toArray [.ref (ad p0), .int p1]) s 0 0 (dA ad n s.heap.size)) (F0 m 25 ls []) := by
    intro S0 v0 v1 tv0 H locs ls hf hW hS hl
    unfold f_X8_messageAt_L25 at hf
    refine lv_iconst (v := 0) hx hb dX8_messageAt_25 (by decide) ?_
    exact L26 S0 v0 v1 0 tv0 _ _ _ hf hW hS (lv_sub hl [0, 1] rfl)
  unfold f_X8_messageAt at hf
  refine lv_iload_n hx hb dX8_messageAt_0 rfl (lv_at hl 1 rfl) ?_
  refine lv_if_lt (tgt := 25) hx hb dX8_messageAt_1 (by decide) (fun c11 => ?_) (fun c11 => ?_)
  · replace hf := ifT c11 hf
    exact L25 S0 p0 p1 tp0 _ _ _ hf hW hS (lv_sub hl [0, 1] rfl)
  · replace hf := ifF c11 hf
    refine lv_iload_n hx hb dX8_messageAt_4 rfl (lv_at hl 1 rfl) ?_
    refine lv_aload_n hx hb dX8_messageAt_5 rfl (lv_at hl 0 rfl) ?_
    refine x_geti 705 (ci := 7) (C := RX8) (T := TX8) (N := 16) 5 hC hinX8 hW tp0 rfl rfl ⟨by decide, by decide, rfl, rfl⟩ rfl w_2 dX8_messageAt_6 ?_
    refine lv_icmp_ge (tgt := 25) hx hb dX8_messageAt_9 (by decide) (fun c12 => ?_) (fun c12 => ?_)
    · replace hf := ifT c12 hf
      exact L25 S0 p0 p1 tp0 _ _ _ hf hW hS (lv_sub hl [0, 1] rfl)
    · replace hf := ifF c12 hf
      refine lv_iload_n hx hb dX8_messageAt_12 rfl (lv_at hl 1 rfl) ?_
      refine lv_aload_n hx hb dX8_messageAt_13 rfl (lv_at hl 0 rfl) ?_
      replace hf := obE hf
      obtain ⟨j13, qj13, hf⟩ := hf
      have tj13 := x_rt hW qj13 15 ⟨by decide, rfl⟩
      refine x_getr 706 (ci := 7) (C := RX8) (T := TX8) (N := 16) 6 hC hinX8 hW tp0 rfl rfl ⟨by decide, by decide, rfl, rfl⟩ rfl w_1 dX8_messageAt_14 qj13 ?_
      refine x_alen hC hW tj13 rfl ⟨by decide, by decide⟩ dX8_messageAt_17 ?_
      refine lv_icmp_ge (tgt := 25) hx hb dX8_messageAt_18 (by decide) (fun c14 => ?_) (fun c14 => ?_)
      · replace hf := ifT c14 hf
        exact L25 S0 p0 p1 tp0 _ _ _ hf hW hS (lv_sub hl [0, 1] rfl)
      · replace hf := ifF c14 hf
        refine lv_iconst (v := 1) hx hb dX8_messageAt_21 (by decide) ?_
        refine lv_goto (tgt := 26) hx hb dX8_messageAt_22 (by decide) ?_
        exact L26 S0 p0 p1 1 tp0 _ _ _ hf hW hS (lv_sub hl [0, 1] rfl)
set_option maxHeartbeats 4000000 in
set_option maxRecDepth 100000 in
theorem c_X8_usageOf (l : Launch) (g : GP) (ad : Nat → Nat) (n : Nat) (K : Nat → Nat) (sz F : Nat) (S0 : St) (p0 : Nat) (p1 : Int32) (tp0 : p0 < n ∧ K p0 = 7) (r9 : Int32) (S9 : St) (hf : f_X8_usageOf F S0 p0 p1 = some (r9, S9)) : Met l yX8_usageOf wsX8_usageOf { frames := 2, cells := 0, slots := 0, locals := 43 } (va_Pc [.ref (ad p0), .int p1] (PB g ad n K S0 sz)) (QR (some (.int r9)) (QB g ad n K S9 (dA ad n sz) (True)) (dA ad n sz)) 0 0 (dA ad n sz) := by
  refine Met.ofW (cc := cX8_usageOf) (maxL := 4) (ret := (some .int)) (by decide) rfl ?_
  intro p e s m args below meth c s₁ B hml hv
  obtain ⟨rfl, hsz, hW, hK, hGs⟩ := x_start hv
  subst hsz
  have hx := B.exec
  have hb := B.bytes
  have hr := B.returns
  have hts := atoms_spec (ws := wsX8_usageOf) B.pre
  have hown : s.vm.findClass RX8 = some m.cls := findClass_of_methodNamed B.named
  have hlk := B.notSynchronized
  have hC : Cx g p s m _ c cX8_usageOf RX8 wsX8_usageOf 4 := ⟨hx, hb, hml, hown, hts, hK⟩
  have hA : ∀ q : Nat, s.heap.size ≤ q → dA ad n s.heap.size q := fun q h => Or.inr h
  have hS : va_S (dA ad n s.heap.size) s.heap s.heap [] := va_S.rf
  have hl := lv_entry ([.ref (ad p0), .int p1]) (n := 4) (Nat.le_of_ble_eq_true rfl)
  rw [lg_entry_eq]
  generalize (lg_sl ([.ref (ad p0), .int p1]) ++ List.replicate (4 - (lg_sl ([.ref (ad p0), .int p1])).length) Slot.unset).toArray = ls at hl ⊢
  have hl : lv_has ls 4 [(0, .ref (ad p0)), (1, .int p1)] := hl
  have hinX4 : ∀ w ∈ wsX40, w ∈ wsX8_usageOf := by decide +kernel
  have hinX8 : ∀ w ∈ wsX80, w ∈ wsX8_usageOf := by decide +kernel
  have w_0 := hts (.fieldLink RX8 88 "MailSpool$Spool" "messageCount" "I") (by decide +kernel)
  have w_1 := va_Nw.use (A := (List.toArray [.ref (ad p0), .int p1])) rfl (hGs.1 (.fieldLinkNest RX8 134 "MailSpool$Message" "size" "I" "MailSpool") (by decide +kernel))
  have hGE := hGs.2.2.2.1
  have hGM := hGs.2.2.2.2
  have L4 : ∀ (fu4 : Nat) (S0 : St) (v0 : Nat) (v1 : Int32) (v2 : Int32) (v3 : Int32) (tv0 : v0 < n ∧ K v0 = 7) (H : Heap) (locs : List Loc) (ls : Array Slot), f_X8_usageOf_L4 F fu4 S0 v0 v1 v2 v3 = some (r9, S9) → Wb g ad n K S0 (dA ad n s.heap.size) H → va_S (dA ad n s.heap.size) s.heap H locs → lv_has ls 4 [(0, .ref (ad v0)), (1, .int v1), (2, .int v2), (3, .int v3)] → W p l e (headSpec wsX8_usageOf { frames := 2, cells := 0, slots := 0, locals := 43 }).room s m (List.toArray [.ref (ad p0), .int p1]) below meth c H locs 0 0 (MQ below (QR (some (.int r9)) (QB g ad n K S9 (dA ad n s.heap.size) (True)) (dA ad n s.heap.size)) (List.toArray [.ref (ad p0), .int p1]) s 0 0 (dA ad n s.heap.size)) (F0 m 4 ls []) := by
    intro fu4
    induction fu4 with
    | zero =>
      intro S0 v0 v1 v2 v3 tv0 H locs ls hf
      cases hf
    | succ fu4 ih4 =>
      have L32 : ∀ (S0 : St) (v0 : Nat) (v1 : Int32) (v2 : Int32) (v3 : Int32) (tv0 : v0 < n ∧ K v0 = 7) (H : Heap) (locs : List Loc) (ls : Array Slot), f_X8_usageOf_L32 F (fun a0 a1 a2 a3 a4 => f_X8_usageOf_L4 F fu4 a0 a1 a2 a3 a4) S0 v0 v1 v2 v3 = some (r9, S9) → Wb g ad n K S0 (dA ad n s.heap.size) H → va_S (dA ad n s.heap.size) s.heap H locs → lv_has ls 4 [(0, .ref (ad v0)), (1, .int v1), (2, .int v2), (3, .int v3)] → W p l e (headSpec wsX8_usageOf { frames := 2, cells := 0, slots := 0, locals := 43 }).room s m (List.toArray [.ref (ad p0), .int p1]) below meth c H locs 0 0 (MQ below (QR (some (.int r9)) (QB g ad n K S9 (dA ad n s.heap.size) (True)) (dA ad n s.heap.size)) (List.toArray [.ref (ad p0), .int p1]) s 0 0 (dA ad n s.heap.size)) (F0 m 32 ls []) := by
        intro S0 v0 v1 v2 v3 tv0 H locs ls hf hW hS hl
        unfold f_X8_usageOf_L32 at hf
        obtain ⟨x2, ex2⟩ : ∃ z : Int32, z = v3 + 1 := ⟨_, rfl⟩
        replace hf := ltE hf x2 ex2
        refine lv_iinc (v := x2) (lv' := [(3, .int x2), (0, .ref (ad v0)), (1, .int v1), (2, .int v2)]) hx hb dX8_usageOf_32 hl (k := 3) rfl (by rw [ex2]; rfl) (by decide) rfl (fun ls hl => ?_)
        refine lv_goto (tgt := 4) hx hb dX8_usageOf_35 (by decide) ?_
        exact ih4 S0 v0 v1 v2 x2 tv0 _ _ _ hf hW hS (lv_sub hl [1, 2, 3, 0] rfl)
      intro S0 v0 v1 v2 v3 tv0 H locs ls hf hW hS hl
      unfold f_X8_usageOf_L4 at hf
      refine lv_iload_n hx hb dX8_usageOf_4 rfl (lv_at hl 3 rfl) ?_
      refine lv_aload_n hx hb dX8_usageOf_5 rfl (lv_at hl 0 rfl) ?_
      refine x_geti 705 (ci := 7) (C := RX8) (T := TX8) (N := 16) 5 hC hinX8 hW tv0 rfl rfl ⟨by decide, by decide, rfl, rfl⟩ rfl w_0 dX8_usageOf_6 ?_
      refine lv_icmp_ge (tgt := 38) hx hb dX8_usageOf_9 (by decide) (fun c15 => ?_) (fun c15 => ?_)
      · replace hf := ifT c15 hf
        refine lv_iload_n hx hb dX8_usageOf_38 rfl (lv_at hl 2 rfl) ?_
        obtain ⟨e1, e2⟩ := so2 hf
        subst e1
        subst e2
        exact W.iret (v := v2) hx hb hr (fun t ht hWm => ⟨⟨rfl, by unfold QB; rw [ht]; exact ⟨hW, trivial⟩⟩, hS.F ht⟩) hS.2.2 dX8_usageOf_39 hlk
      · replace hf := ifF c15 hf
        refine lv_aload_n hx hb dX8_usageOf_12 rfl (lv_at hl 0 rfl) ?_
        refine lv_iload_n hx hb dX8_usageOf_13 rfl (lv_at hl 3 rfl) ?_
        refine lv_iload_n hx hb dX8_usageOf_14 rfl (lv_at hl 1 rfl) ?_
        replace hf := obE hf
        obtain ⟨z16, hz16, hf⟩ := hf
        obtain ⟨r18, S17⟩ := z16
        replace hf := ltE (ltE hf r18 rfl) S17 rfl
        refine x_callV (As := [.int v3, .int v1]) (rest := []) (o := (some (.int r18))) (S1 := S17) hC hl.1 hW hS hGs hA tv0 rfl (show vwCl[7]? = some (RX8, TX8, 16) ∧ ob 7 from ⟨rfl, by decide⟩) (c_X8_stateOf l g ad n K H.size F S0 v0 v3 v1 tv0 r18 S17 hz16) (cwV 2 hts gX8_usageOf_X8_stateOf rfl rfl rfl (by decide +kernel) ⟨Nat.le_of_ble_eq_true rfl, Nat.le_of_ble_eq_true rfl⟩) rfl rfl (Nat.le_of_ble_eq_true rfl) dX8_usageOf_15 ⟨Nat.le_of_ble_eq_true rfl, Nat.le_of_ble_eq_true rfl⟩ (fun H locs hPz16 hW hS => ?_)
        refine W.eq (g2 := F0 m 18 ls [.int r18]) rfl ?_
        refine lv_if_ne (tgt := 32) hx hb dX8_usageOf_18 (by decide) (fun c20 => ?_) (fun c20 => ?_)
        · replace hf := ifT c20 hf
          exact L32 S17 v0 v1 v2 v3 tv0 _ _ _ hf hW hS (lv_sub hl [0, 1, 2, 3] rfl)
        · replace hf := ifF (fun q => q c20) hf
          refine lv_iload_n hx hb dX8_usageOf_21 rfl (lv_at hl 2 rfl) ?_
          refine lv_aload_n hx hb dX8_usageOf_22 rfl (lv_at hl 0 rfl) ?_
          refine lv_iload_n hx hb dX8_usageOf_23 rfl (lv_at hl 3 rfl) ?_
          replace hf := obE hf
          obtain ⟨z21, hz21, hf⟩ := hf
          obtain ⟨r23, S22⟩ := z21
          replace hf := ltE (ltE hf r23 rfl) S22 rfl
          refine x_callV (As := [.int v3]) (rest := [.int v2]) (o := (some (va_re ad r23))) (S1 := S22) hC hl.1 hW hS hGs hA tv0 rfl (show vwCl[7]? = some (RX8, TX8, 16) ∧ ob 7 from ⟨rfl, by decide⟩) (c_X8_messageAt l g ad n K H.size F S17 v0 v3 tv0 r23 S22 hz21) (cwV 1 hts gX8_usageOf_X8_messageAt rfl rfl rfl (by decide +kernel) ⟨Nat.le_of_ble_eq_true rfl, Nat.le_of_ble_eq_true rfl⟩) rfl rfl (Nat.le_of_ble_eq_true rfl) dX8_usageOf_24 ⟨Nat.le_of_ble_eq_true rfl, Nat.le_of_ble_eq_true rfl⟩ (fun H locs hPz21 hW hS => ?_)
          replace hf := obE hf
          obtain ⟨j25, qj25, hf⟩ := hf
          have tj25 := hPz21 j25 qj25
          refine W.eq (g2 := F0 m 27 ls [.ref (ad j25), .int v2]) (by rw [qj25]; rfl) ?_
          refine x_getiN 302 (ci := 3) (C := RX4) (T := TX4) (N := 5) 2 hC hinX4 hW tj25 rfl rfl ⟨by decide, by decide, rfl, rfl⟩ rfl w_1 dX8_usageOf_27 ?_
          refine lv_iadd hx hb dX8_usageOf_30 ?_
          refine lv_topi (fun x26 ex26 => ?_)
          replace hf := ltE hf x26 ex26
          refine lv_istore_n (lv' := [(2, .int x26), (0, .ref (ad v0)), (1, .int v1), (3, .int v3)]) hx hb dX8_usageOf_31 rfl hl (by decide) rfl (fun ls hl => ?_)
          exact L32 S22 v0 v1 x26 v3 tv0 _ _ _ hf hW hS (lv_sub hl [1, 2, 0, 3] rfl)
  unfold f_X8_usageOf at hf
  refine lv_iconst (v := 0) hx hb dX8_usageOf_0 (by decide) ?_
  refine lv_istore_n (lv' := [(2, .int 0), (0, .ref (ad p0)), (1, .int p1)]) hx hb dX8_usageOf_1 rfl hl (by decide) rfl (fun ls hl => ?_)
  refine lv_iconst (v := 0) hx hb dX8_usageOf_2 (by decide) ?_
  refine lv_istore_n (lv' := [(3, .int 0), (2, .int 0), (0, .ref (ad p0)), (1, .int p1)]) hx hb dX8_usageOf_3 rfl hl (by decide) rfl (fun ls hl => ?_)
  exact L4 F S0 p0 p1 0 0 tp0 _ _ _ hf hW hS (lv_sub hl [2, 3, 1, 0] rfl)
set_option maxHeartbeats 4000000 in
set_option maxRecDepth 100000 in
theorem c_X2_note (l : Launch) (g : GP) (ad : Nat → Nat) (n : Nat) (K : Nat → Nat) (sz F : Nat) (S0 : St) (p0 : Nat) (p1 : Int32) (p2 : Int32) (p3 : Int32) (tp0 : p0 < n ∧ K p0 = 2) (S9 : St) (hf : f_X2_note F S0 p0 p1 p2 p3 = some S9) : Met l yX2_note wsX2_note { frames := 1, cells := 0, slots := 0, locals := 22 } (va_Pc [.ref (ad p0), .int p1, .int p2, .int p3] (PB g ad n K S0 sz)) (QR none (QB g ad n K S9 (dA ad n sz) (True)) (dA ad n sz)) 0 0 (dA ad n sz) := by
  refine Met.ofW (cc := cX2_note) (maxL := 5) (ret := none) (by decide) rfl ?_
  intro p e s m args below meth c s₁ B hml hv
  obtain ⟨rfl, hsz, hW, hK, hGs⟩ := x_start hv
  subst hsz
  have hx := B.exec
  have hb := B.bytes
  have hr := B.returns
  have hts := atoms_spec (ws := wsX2_note) B.pre
  have hown : s.vm.findClass RX2 = some m.cls := findClass_of_methodNamed B.named
  have hlk := B.notSynchronized
  have hC : Cx g p s m _ c cX2_note RX2 wsX2_note 5 := ⟨hx, hb, hml, hown, hts, hK⟩
  have hA : ∀ q : Nat, s.heap.size ≤ q → dA ad n s.heap.size q := fun q h => Or.inr h
  have hS : va_S (dA ad n s.heap.size) s.heap s.heap [] := va_S.rf
  have hl := lv_entry ([.ref (ad p0), .int p1, .int p2, .int p3]) (n := 5) (Nat.le_of_ble_eq_true rfl)
  rw [lg_entry_eq]
  generalize (lg_sl ([.ref (ad p0), .int p1, .int p2, .int p3]) ++ List.replicate (5 - (lg_sl ([.ref (ad p0), .int p1, .int p2, .int p3])).length) Slot.unset).toArray = ls at hl ⊢
  have hl : lv_has ls 5 [(0, .ref (ad p0)), (1, .int p1), (2, .int p2), (3, .int p3)] := hl
  have hinX2 : ∀ w ∈ wsX20, w ∈ wsX2_note := by decide +kernel
  have w_0 := hts (.fieldLink RX2 21 "MailSpool$Journal" "first" "I") (by decide +kernel)
  have w_1 := hts (.fieldLink RX2 25 "MailSpool$Journal" "size" "I") (by decide +kernel)
  have w_2 := hts (.fieldLink RX2 9 "MailSpool$Journal" "days" "[I") (by decide +kernel)
  have w_3 := va_Nw.use (A := (List.toArray [.ref (ad p0), .int p1, .int p2, .int p3])) rfl (hGs.1 (.methodLinkNest RX2 32 yX10_put "MailSpool") (by decide +kernel))
  have w_4 := hts (.initialized RX10) (by decide +kernel)
  have w_5 := hts (.static yX10_put) (by decide +kernel)
  have w_6 := hts (.fieldLink RX2 15 "MailSpool$Journal" "kinds" "[I") (by decide +kernel)
  have w_7 := hts (.fieldLink RX2 18 "MailSpool$Journal" "objects" "[I") (by decide +kernel)
  have hGE := hGs.2.2.2.1
  have hGM := hGs.2.2.2.2
  unfold f_X2_note at hf
  refine lv_aload_n hx hb dX2_note_0 rfl (lv_at hl 0 rfl) ?_
  refine x_geti 203 (ci := 2) (C := RX2) (T := TX2) (N := 5) 3 hC hinX2 hW tp0 rfl rfl ⟨by decide, by decide, rfl, rfl⟩ rfl w_0 dX2_note_1 ?_
  refine lv_aload_n hx hb dX2_note_4 rfl (lv_at hl 0 rfl) ?_
  refine x_geti 204 (ci := 2) (C := RX2) (T := TX2) (N := 5) 4 hC hinX2 hW tp0 rfl rfl ⟨by decide, by decide, rfl, rfl⟩ rfl w_1 dX2_note_5 ?_
  refine lv_iadd hx hb dX2_note_8 ?_
  refine lv_bipush (v := 60) hx hb dX2_note_9 (by decide) ?_
  refine lv_irem hx hb dX2_note_11 (by decide) ?_
  refine lv_topi (fun x1 ex1 => ?_)
  replace hf := ltE hf x1 ex1
  refine lv_istore (lv' := [(4, .int x1), (0, .ref (ad p0)), (1, .int p1), (2, .int p2), (3, .int p3)]) hx hb dX2_note_12 hl (by decide) rfl (fun ls hl => ?_)
  refine lv_aload_n hx hb dX2_note_14 rfl (lv_at hl 1 rfl) ?_
  replace hf := obE hf
  obtain ⟨j2, qj2, hf⟩ := hf
  have tj2 := x_rt hW qj2 12 ⟨by decide, rfl⟩
  refine x_getr 200 (ci := 2) (C := RX2) (T := TX2) (N := 5) 0 hC hinX2 hW tp0 rfl rfl ⟨by decide, by decide, rfl, rfl⟩ rfl w_2 dX2_note_15 qj2 ?_
  refine lv_iload hx hb dX2_note_18 (lv_at hl 0 rfl) ?_
  refine lv_iload_n hx hb dX2_note_20 rfl (lv_at hl 2 rfl) ?_
  replace hf := obE hf
  obtain ⟨S4, hz3, hf⟩ := hf
  refine x_callSN (As := [.ref (ad j2), .int x1, .int p1]) (rest := []) (o := none) (S1 := S4) hC hl.1 hW hS hGs hA (c_X10_put l g ad n K s.heap.size F S0 j2 x1 p1 tj2 S4 hz3) ⟨va_cnB 3 hts gX2_note_X10_put_n32 rfl rfl rfl (va_Nw.of rfl w_3) w_4 (by decide +kernel) ⟨Nat.le_of_ble_eq_true rfl, Nat.le_of_ble_eq_true rfl⟩, w_5, trivial⟩ rfl rfl (Nat.le_of_ble_eq_true rfl) dX2_note_21 ⟨Nat.le_of_ble_eq_true rfl, Nat.le_of_ble_eq_true rfl⟩ (fun H locs hPz3 hW hS => ?_)
  refine W.eq (g2 := F0 m 24 ls []) rfl ?_
  refine lv_aload_n hx hb dX2_note_24 rfl (lv_at hl 1 rfl) ?_
  replace hf := obE hf
  obtain ⟨j7, qj7, hf⟩ := hf
  have tj7 := x_rt hW qj7 12 ⟨by decide, rfl⟩
  refine x_getr 201 (ci := 2) (C := RX2) (T := TX2) (N := 5) 1 hC hinX2 hW tp0 rfl rfl ⟨by decide, by decide, rfl, rfl⟩ rfl w_6 dX2_note_25 qj7 ?_
  refine lv_iload hx hb dX2_note_28 (lv_at hl 0 rfl) ?_
  refine lv_iload_n hx hb dX2_note_30 rfl (lv_at hl 3 rfl) ?_
  replace hf := obE hf
  obtain ⟨S9, hz8, hf⟩ := hf
  refine x_callSN (As := [.ref (ad j7), .int x1, .int p2]) (rest := []) (o := none) (S1 := S9) hC hl.1 hW hS hGs hA (c_X10_put l g ad n K H.size F S4 j7 x1 p2 tj7 S9 hz8) ⟨va_cnB 3 hts gX2_note_X10_put_n32 rfl rfl rfl (va_Nw.of rfl w_3) w_4 (by decide +kernel) ⟨Nat.le_of_ble_eq_true rfl, Nat.le_of_ble_eq_true rfl⟩, w_5, trivial⟩ rfl rfl (Nat.le_of_ble_eq_true rfl) dX2_note_31 ⟨Nat.le_of_ble_eq_true rfl, Nat.le_of_ble_eq_true rfl⟩ (fun H locs hPz8 hW hS => ?_)
  refine W.eq (g2 := F0 m 34 ls []) rfl ?_
  refine lv_aload_n hx hb dX2_note_34 rfl (lv_at hl 1 rfl) ?_
  replace hf := obE hf
  obtain ⟨j12, qj12, hf⟩ := hf
  have tj12 := x_rt hW qj12 12 ⟨by decide, rfl⟩
  refine x_getr 202 (ci := 2) (C := RX2) (T := TX2) (N := 5) 2 hC hinX2 hW tp0 rfl rfl ⟨by decide, by decide, rfl, rfl⟩ rfl w_7 dX2_note_35 qj12 ?_
  refine lv_iload hx hb dX2_note_38 (lv_at hl 0 rfl) ?_
  refine lv_iload_n hx hb dX2_note_40 rfl (lv_at hl 4 rfl) ?_
  replace hf := obE hf
  obtain ⟨S14, hz13, hf⟩ := hf
  refine x_callSN (As := [.ref (ad j12), .int x1, .int p3]) (rest := []) (o := none) (S1 := S14) hC hl.1 hW hS hGs hA (c_X10_put l g ad n K H.size F S9 j12 x1 p3 tj12 S14 hz13) ⟨va_cnB 3 hts gX2_note_X10_put_n32 rfl rfl rfl (va_Nw.of rfl w_3) w_4 (by decide +kernel) ⟨Nat.le_of_ble_eq_true rfl, Nat.le_of_ble_eq_true rfl⟩, w_5, trivial⟩ rfl rfl (Nat.le_of_ble_eq_true rfl) dX2_note_41 ⟨Nat.le_of_ble_eq_true rfl, Nat.le_of_ble_eq_true rfl⟩ (fun H locs hPz13 hW hS => ?_)
  refine W.eq (g2 := F0 m 44 ls []) rfl ?_
  refine lv_aload_n hx hb dX2_note_44 rfl (lv_at hl 1 rfl) ?_
  refine x_geti 204 (ci := 2) (C := RX2) (T := TX2) (N := 5) 4 hC hinX2 hW tp0 rfl rfl ⟨by decide, by decide, rfl, rfl⟩ rfl w_1 dX2_note_45 ?_
  refine lv_bipush (v := 60) hx hb dX2_note_48 (by decide) ?_
  refine lv_icmp_ge (tgt := 66) hx hb dX2_note_50 (by decide) (fun c17 => ?_) (fun c17 => ?_)
  · replace hf := ifT c17 hf
    refine lv_aload_n hx hb dX2_note_66 rfl (lv_at hl 1 rfl) ?_
    refine lv_aload_n hx hb dX2_note_67 rfl (lv_at hl 1 rfl) ?_
    refine x_geti 203 (ci := 2) (C := RX2) (T := TX2) (N := 5) 3 hC hinX2 hW tp0 rfl rfl ⟨by decide, by decide, rfl, rfl⟩ rfl w_0 dX2_note_68 ?_
    refine lv_iconst (v := 1) hx hb dX2_note_71 (by decide) ?_
    refine lv_iadd hx hb dX2_note_72 ?_
    refine lv_bipush (v := 60) hx hb dX2_note_73 (by decide) ?_
    refine lv_irem hx hb dX2_note_75 (by decide) ?_
    refine x_puti 203 (ci := 2) (C := RX2) (T := TX2) (N := 5) (v := ((si S14 203 p0) + 1) - ((si S14 203 p0) + 1) / 60 * 60) (ty := .int) 3 hC hinX2 tyX2_ok nmX2 hW hS tp0 rfl rfl ⟨by decide, by decide, rfl, rfl⟩ rfl w_0 rfl (by decide +kernel) rfl rfl dX2_note_76 (fun S18 H locs eS18 hW hS => ?_)
    replace hf := ltE hf S18 eS18
    have e1 := Option.some.inj hf
    subst e1
    exact W.vret hx hb hr (fun t ht hWm => ⟨⟨rfl, by unfold QB; rw [ht]; exact ⟨hW, trivial⟩⟩, hS.F ht⟩) hS.2.2 dX2_note_79 hlk
  · replace hf := ifF c17 hf
    refine lv_aload_n hx hb dX2_note_53 rfl (lv_at hl 1 rfl) ?_
    refine lv_dup hx hb dX2_note_54 rfl ?_
    refine x_geti 204 (ci := 2) (C := RX2) (T := TX2) (N := 5) 4 hC hinX2 hW tp0 rfl rfl ⟨by decide, by decide, rfl, rfl⟩ rfl w_1 dX2_note_55 ?_
    refine lv_iconst (v := 1) hx hb dX2_note_58 (by decide) ?_
    refine lv_iadd hx hb dX2_note_59 ?_
    refine x_puti 204 (ci := 2) (C := RX2) (T := TX2) (N := 5) (v := (si S14 204 p0) + 1) (ty := .int) 4 hC hinX2 tyX2_ok nmX2 hW hS tp0 rfl rfl ⟨by decide, by decide, rfl, rfl⟩ rfl w_1 rfl (by decide +kernel) rfl rfl dX2_note_60 (fun S19 H locs eS19 hW hS => ?_)
    replace hf := ltE hf S19 eS19
    refine lv_goto (tgt := 79) hx hb dX2_note_63 (by decide) ?_
    have e1 := Option.some.inj hf
    subst e1
    exact W.vret hx hb hr (fun t ht hWm => ⟨⟨rfl, by unfold QB; rw [ht]; exact ⟨hW, trivial⟩⟩, hS.F ht⟩) hS.2.2 dX2_note_79 hlk
set_option maxHeartbeats 4000000 in
set_option maxRecDepth 100000 in
theorem c_X8_bounce (l : Launch) (g : GP) (ad : Nat → Nat) (n : Nat) (K : Nat → Nat) (sz F : Nat) (S0 : St) (p0 : Nat) (p1 : Int32) (p2 : Int32) (tp0 : p0 < n ∧ K p0 = 7) (r9 : Int32) (S9 : St) (hf : f_X8_bounce F S0 p0 p1 p2 = some (r9, S9)) : Met l yX8_bounce wsX8_bounce { frames := 3, cells := 0, slots := 0, locals := 66 } (va_Pc [.ref (ad p0), .int p1, .int p2] (PB g ad n K S0 sz)) (QR (some (.int r9)) (QB g ad n K S9 (dA ad n sz) (True)) (dA ad n sz)) 0 0 (dA ad n sz) := by
  refine Met.ofW (cc := cX8_bounce) (maxL := 5) (ret := (some .int)) (by decide) rfl ?_
  intro p e s m args below meth c s₁ B hml hv
  obtain ⟨rfl, hsz, hW, hK, hGs⟩ := x_start hv
  subst hsz
  have hx := B.exec
  have hb := B.bytes
  have hr := B.returns
  have hts := atoms_spec (ws := wsX8_bounce) B.pre
  have hown : s.vm.findClass RX8 = some m.cls := findClass_of_methodNamed B.named
  have hlk := B.notSynchronized
  have hC : Cx g p s m _ c cX8_bounce RX8 wsX8_bounce 5 := ⟨hx, hb, hml, hown, hts, hK⟩
  have hA : ∀ q : Nat, s.heap.size ≤ q → dA ad n s.heap.size q := fun q h => Or.inr h
  have hS : va_S (dA ad n s.heap.size) s.heap s.heap [] := va_S.rf
  have hl := lv_entry ([.ref (ad p0), .int p1, .int p2]) (n := 5) (Nat.le_of_ble_eq_true rfl)
  rw [lg_entry_eq]
  generalize (lg_sl ([.ref (ad p0), .int p1, .int p2]) ++ List.replicate (5 - (lg_sl ([.ref (ad p0), .int p1, .int p2])).length) Slot.unset).toArray = ls at hl ⊢
  have hl : lv_has ls 5 [(0, .ref (ad p0)), (1, .int p1), (2, .int p2)] := hl
  have hinX5 : ∀ w ∈ wsX50, w ∈ wsX8_bounce := by decide +kernel
  have hinX7 : ∀ w ∈ wsX70, w ∈ wsX8_bounce := by decide +kernel
  have hinX8 : ∀ w ∈ wsX80, w ∈ wsX8_bounce := by decide +kernel
  have w_0 := hts (.fieldLink RX8 9 "MailSpool$Spool" "rules" "LMailSpool$Rules;") (by decide +kernel)
  have w_1 := va_Nw.use (A := (List.toArray [.ref (ad p0), .int p1, .int p2])) rfl (hGs.1 (.fieldLinkNest RX8 102 "MailSpool$Rules" "users" "LMailSpool$Names;" "MailSpool") (by decide +kernel))
  have w_2 := va_Nw.use (A := (List.toArray [.ref (ad p0), .int p1, .int p2])) rfl (hGs.1 (.fieldLinkNest RX8 120 "MailSpool$Names" "size" "I" "MailSpool") (by decide +kernel))
  have w_3 := va_Nw.use (A := (List.toArray [.ref (ad p0), .int p1, .int p2])) rfl (hGs.1 (.methodLinkNest RX8 226 yX10_hasBit "MailSpool") (by decide +kernel))
  have w_4 := hts (.initialized RX10) (by decide +kernel)
  have w_5 := hts (.static yX10_hasBit) (by decide +kernel)
  have w_6 := hts (.fieldLink RX8 15 "MailSpool$Spool" "quotas" "[I") (by decide +kernel)
  have w_7 := va_Nw.use (A := (List.toArray [.ref (ad p0), .int p1, .int p2])) rfl (hGs.1 (.methodLinkNest RX8 112 yX10_at "MailSpool") (by decide +kernel))
  have w_8 := hts (.static yX10_at) (by decide +kernel)
  have w_9 := hts (.fieldLink RX8 44 "MailSpool$Spool" "journal" "LMailSpool$Journal;") (by decide +kernel)
  have w_10 := hts (.fieldLink RX8 66 "MailSpool$Spool" "day" "I") (by decide +kernel)
  have hGE := hGs.2.2.2.1
  have hGM := hGs.2.2.2.2
  have L5 : ∀ (fu5 : Nat) (S0 : St) (v0 : Nat) (v1 : Int32) (v2 : Int32) (v3 : Int32) (v4 : Int32) (tv0 : v0 < n ∧ K v0 = 7) (H : Heap) (locs : List Loc) (ls : Array Slot), f_X8_bounce_L5 F fu5 S0 v0 v1 v2 v3 v4 = some (r9, S9) → Wb g ad n K S0 (dA ad n s.heap.size) H → va_S (dA ad n s.heap.size) s.heap H locs → lv_has ls 5 [(0, .ref (ad v0)), (1, .int v1), (2, .int v2), (3, .int v3), (4, .int v4)] → W p l e (headSpec wsX8_bounce { frames := 3, cells := 0, slots := 0, locals := 66 }).room s m (List.toArray [.ref (ad p0), .int p1, .int p2]) below meth c H locs 0 0 (MQ below (QR (some (.int r9)) (QB g ad n K S9 (dA ad n s.heap.size) (True)) (dA ad n s.heap.size)) (List.toArray [.ref (ad p0), .int p1, .int p2]) s 0 0 (dA ad n s.heap.size)) (F0 m 5 ls []) := by
    intro fu5
    induction fu5 with
    | zero =>
      intro S0 v0 v1 v2 v3 v4 tv0 H locs ls hf
      cases hf
    | succ fu5 ih5 =>
      have L70 : ∀ (S0 : St) (v0 : Nat) (v1 : Int32) (v2 : Int32) (v3 : Int32) (v4 : Int32) (tv0 : v0 < n ∧ K v0 = 7) (H : Heap) (locs : List Loc) (ls : Array Slot), f_X8_bounce_L70 F (fun a0 a1 a2 a3 a4 a5 => f_X8_bounce_L5 F fu5 a0 a1 a2 a3 a4 a5) S0 v0 v1 v2 v3 v4 = some (r9, S9) → Wb g ad n K S0 (dA ad n s.heap.size) H → va_S (dA ad n s.heap.size) s.heap H locs → lv_has ls 5 [(0, .ref (ad v0)), (1, .int v1), (2, .int v2), (3, .int v3), (4, .int v4)] → W p l e (headSpec wsX8_bounce { frames := 3, cells := 0, slots := 0, locals := 66 }).room s m (List.toArray [.ref (ad p0), .int p1, .int p2]) below meth c H locs 0 0 (MQ below (QR (some (.int r9)) (QB g ad n K S9 (dA ad n s.heap.size) (True)) (dA ad n s.heap.size)) (List.toArray [.ref (ad p0), .int p1, .int p2]) s 0 0 (dA ad n s.heap.size)) (F0 m 70 ls []) := by
        intro S0 v0 v1 v2 v3 v4 tv0 H locs ls hf hW hS hl
        unfold f_X8_bounce_L70 at hf
        obtain ⟨x2, ex2⟩ : ∃ z : Int32, z = v4 + 1 := ⟨_, rfl⟩
        replace hf := ltE hf x2 ex2
        refine lv_iinc (v := x2) (lv' := [(4, .int x2), (0, .ref (ad v0)), (1, .int v1), (2, .int v2), (3, .int v3)]) hx hb dX8_bounce_70 hl (k := 4) rfl (by rw [ex2]; rfl) (by decide) rfl (fun ls hl => ?_)
        refine lv_goto (tgt := 5) hx hb dX8_bounce_73 (by decide) ?_
        exact ih5 S0 v0 v1 v2 v3 x2 tv0 _ _ _ hf hW hS (lv_sub hl [1, 2, 3, 4, 0] rfl)
      intro S0 v0 v1 v2 v3 v4 tv0 H locs ls hf hW hS hl
      unfold f_X8_bounce_L5 at hf
      refine lv_iload hx hb dX8_bounce_5 (lv_at hl 4 rfl) ?_
      refine lv_aload_n hx hb dX8_bounce_7 rfl (lv_at hl 0 rfl) ?_
      replace hf := obE hf
      obtain ⟨j27, qj27, hf⟩ := hf
      have tj27 := x_rt hW qj27 6 ⟨by decide, rfl⟩
      refine x_getr 700 (ci := 7) (C := RX8) (T := TX8) (N := 16) 0 hC hinX8 hW tv0 rfl rfl ⟨by decide, by decide, rfl, rfl⟩ rfl w_0 dX8_bounce_8 qj27 ?_
      replace hf := obE hf
      obtain ⟨j28, qj28, hf⟩ := hf
      have tj28 := x_rt hW qj28 4 ⟨by decide, rfl⟩
      refine x_getrN 606 (ci := 6) (C := RX7) (T := TX7) (N := 16) 6 hC hinX7 hW tj27 rfl rfl ⟨by decide, by decide, rfl, rfl⟩ rfl w_1 dX8_bounce_11 qj28 ?_
      refine x_getiN 401 (ci := 4) (C := RX5) (T := TX5) (N := 2) 1 hC hinX5 hW tj28 rfl rfl ⟨by decide, by decide, rfl, rfl⟩ rfl w_2 dX8_bounce_14 ?_
      refine lv_icmp_ge (tgt := 76) hx hb dX8_bounce_17 (by decide) (fun c29 => ?_) (fun c29 => ?_)
      · replace hf := ifT c29 hf
        refine lv_iload_n hx hb dX8_bounce_76 rfl (lv_at hl 3 rfl) ?_
        obtain ⟨e1, e2⟩ := so2 hf
        subst e1
        subst e2
        exact W.iret (v := v3) hx hb hr (fun t ht hWm => ⟨⟨rfl, by unfold QB; rw [ht]; exact ⟨hW, trivial⟩⟩, hS.F ht⟩) hS.2.2 dX8_bounce_77 hlk
      · replace hf := ifF c29 hf
        refine lv_iload_n hx hb dX8_bounce_20 rfl (lv_at hl 1 rfl) ?_
        refine lv_iload hx hb dX8_bounce_21 (lv_at hl 4 rfl) ?_
        replace hf := obE hf
        obtain ⟨z30, hz30, hf⟩ := hf
        obtain ⟨r32, S31⟩ := z30
        replace hf := ltE (ltE hf r32 rfl) S31 rfl
        refine x_callSN (As := [.int v1, .int v4]) (rest := []) (o := (some (.int r32))) (S1 := S31) hC hl.1 hW hS hGs hA (c_X10_hasBit l g ad n K H.size F S0 v1 v4 r32 S31 hz30) ⟨va_cnB 2 hts gX8_bounce_X10_hasBit_n226 rfl rfl rfl (va_Nw.of rfl w_3) w_4 (by decide +kernel) ⟨Nat.le_of_ble_eq_true rfl, Nat.le_of_ble_eq_true rfl⟩, w_5, trivial⟩ rfl rfl (Nat.le_of_ble_eq_true rfl) dX8_bounce_23 ⟨Nat.le_of_ble_eq_true rfl, Nat.le_of_ble_eq_true rfl⟩ (fun H locs hPz30 hW hS => ?_)
        refine W.eq (g2 := F0 m 26 ls [.int r32]) rfl ?_
        refine lv_if_eq (tgt := 70) hx hb dX8_bounce_26 (by decide) (fun c34 => ?_) (fun c34 => ?_)
        · replace hf := ifT c34 hf
          exact L70 S31 v0 v1 v2 v3 v4 tv0 _ _ _ hf hW hS (lv_sub hl [0, 1, 2, 3, 4] rfl)
        · replace hf := ifF c34 hf
          refine lv_aload_n hx hb dX8_bounce_29 rfl (lv_at hl 0 rfl) ?_
          refine lv_iload hx hb dX8_bounce_30 (lv_at hl 4 rfl) ?_
          replace hf := obE hf
          obtain ⟨z35, hz35, hf⟩ := hf
          obtain ⟨r37, S36⟩ := z35
          replace hf := ltE (ltE hf r37 rfl) S36 rfl
          refine x_callV (As := [.int v4]) (rest := []) (o := (some (.int r37))) (S1 := S36) hC hl.1 hW hS hGs hA tv0 rfl (show vwCl[7]? = some (RX8, TX8, 16) ∧ ob 7 from ⟨rfl, by decide⟩) (c_X8_usageOf l g ad n K H.size F S31 v0 v4 tv0 r37 S36 hz35) (cwV 1 hts gX8_bounce_X8_usageOf rfl rfl rfl (by decide +kernel) ⟨Nat.le_of_ble_eq_true rfl, Nat.le_of_ble_eq_true rfl⟩) rfl rfl (Nat.le_of_ble_eq_true rfl) dX8_bounce_32 ⟨Nat.le_of_ble_eq_true rfl, Nat.le_of_ble_eq_true rfl⟩ (fun H locs hPz35 hW hS => ?_)
          refine W.eq (g2 := F0 m 35 ls [.int r37]) rfl ?_
          refine lv_iload_n hx hb dX8_bounce_35 rfl (lv_at hl 2 rfl) ?_
          refine lv_iadd hx hb dX8_bounce_36 ?_
          refine lv_aload_n hx hb dX8_bounce_37 rfl (lv_at hl 0 rfl) ?_
          replace hf := obE hf
          obtain ⟨j39, qj39, hf⟩ := hf
          have tj39 := x_rt hW qj39 12 ⟨by decide, rfl⟩
          refine x_getr 704 (ci := 7) (C := RX8) (T := TX8) (N := 16) 4 hC hinX8 hW tv0 rfl rfl ⟨by decide, by decide, rfl, rfl⟩ rfl w_6 dX8_bounce_38 qj39 ?_
          refine lv_iload hx hb dX8_bounce_41 (lv_at hl 4 rfl) ?_
          replace hf := obE hf
          obtain ⟨z40, hz40, hf⟩ := hf
          obtain ⟨r42, S41⟩ := z40
          replace hf := ltE (ltE hf r42 rfl) S41 rfl
          refine x_callSN (As := [.ref (ad j39), .int v4]) (rest := [.int (r37 + v2)]) (o := (some (.int r42))) (S1 := S41) hC hl.1 hW hS hGs hA (c_X10_at l g ad n K H.size F S36 j39 v4 tj39 r42 S41 hz40) ⟨va_cnB 2 hts gX8_bounce_X10_at_n112 rfl rfl rfl (va_Nw.of rfl w_7) w_4 (by decide +kernel) ⟨Nat.le_of_ble_eq_true rfl, Nat.le_of_ble_eq_true rfl⟩, w_8, trivial⟩ rfl rfl (Nat.le_of_ble_eq_true rfl) dX8_bounce_43 ⟨Nat.le_of_ble_eq_true rfl, Nat.le_of_ble_eq_true rfl⟩ (fun H locs hPz40 hW hS => ?_)
          refine W.eq (g2 := F0 m 46 ls [.int r42, .int (r37 + v2)]) rfl ?_
          refine lv_icmp_le (tgt := 70) hx hb dX8_bounce_46 (by decide) (fun c44 => ?_) (fun c44 => ?_)
          · replace hf := ifT c44 hf
            exact L70 S41 v0 v1 v2 v3 v4 tv0 _ _ _ hf hW hS (lv_sub hl [0, 1, 2, 3, 4] rfl)
          · replace hf := ifF c44 hf
            refine lv_iload_n hx hb dX8_bounce_49 rfl (lv_at hl 3 rfl) ?_
            refine lv_iconst (v := 1) hx hb dX8_bounce_50 (by decide) ?_
            refine lv_iload hx hb dX8_bounce_51 (lv_at hl 4 rfl) ?_
            refine lv_ishl hx hb dX8_bounce_53 ?_
            refine lv_ior hx hb dX8_bounce_54 ?_
            refine lv_topi (fun x45 ex45 => ?_)
            replace hf := ltE hf x45 ex45
            refine lv_istore_n (lv' := [(3, .int x45), (0, .ref (ad v0)), (1, .int v1), (2, .int v2), (4, .int v4)]) hx hb dX8_bounce_55 rfl hl (by decide) rfl (fun ls hl => ?_)
            refine lv_aload_n hx hb dX8_bounce_56 rfl (lv_at hl 1 rfl) ?_
            replace hf := obE hf
            obtain ⟨j46, qj46, hf⟩ := hf
            have tj46 := x_rt hW qj46 2 ⟨by decide, rfl⟩
            refine x_getr 711 (ci := 7) (C := RX8) (T := TX8) (N := 16) 11 hC hinX8 hW tv0 rfl rfl ⟨by decide, by decide, rfl, rfl⟩ rfl w_9 dX8_bounce_57 qj46 ?_
            refine lv_aload_n hx hb dX8_bounce_60 rfl (lv_at hl 1 rfl) ?_
            refine x_geti 701 (ci := 7) (C := RX8) (T := TX8) (N := 16) 1 hC hinX8 hW tv0 rfl rfl ⟨by decide, by decide, rfl, rfl⟩ rfl w_10 dX8_bounce_61 ?_
            refine lv_iconst (v := 2) hx hb dX8_bounce_64 (by decide) ?_
            refine lv_iload hx hb dX8_bounce_65 (lv_at hl 4 rfl) ?_
            replace hf := obE hf
            obtain ⟨S48, hz47, hf⟩ := hf
            refine x_callV (As := [.int (si S41 701 v0), .int 2, .int v4]) (rest := []) (o := none) (S1 := S48) hC hl.1 hW hS hGs hA tj46 rfl (show vwCl[2]? = some (RX2, TX2, 5) ∧ ob 2 from ⟨rfl, by decide⟩) (c_X2_note l g ad n K H.size F S41 j46 (si S41 701 v0) ((2 : Int32)) v4 tj46 S48 hz47) (cwV 3 hts gX8_bounce_X2_note rfl rfl rfl (by decide +kernel) ⟨Nat.le_of_ble_eq_true rfl, Nat.le_of_ble_eq_true rfl⟩) rfl rfl (Nat.le_of_ble_eq_true rfl) dX8_bounce_67 ⟨Nat.le_of_ble_eq_true rfl, Nat.le_of_ble_eq_true rfl⟩ (fun H locs hPz47 hW hS => ?_)
            refine W.eq (g2 := F0 m 70 ls []) rfl ?_
            exact L70 S48 v0 v1 v2 x45 v4 tv0 _ _ _ hf hW hS (lv_sub hl [1, 2, 3, 0, 4] rfl)
  unfold f_X8_bounce at hf
  refine lv_iconst (v := 0) hx hb dX8_bounce_0 (by decide) ?_
  refine lv_istore_n (lv' := [(3, .int 0), (0, .ref (ad p0)), (1, .int p1), (2, .int p2)]) hx hb dX8_bounce_1 rfl hl (by decide) rfl (fun ls hl => ?_)
  refine lv_iconst (v := 0) hx hb dX8_bounce_2 (by decide) ?_
  refine lv_istore (lv' := [(4, .int 0), (3, .int 0), (0, .ref (ad p0)), (1, .int p1), (2, .int p2)]) hx hb dX8_bounce_3 hl (by decide) rfl (fun ls hl => ?_)
  exact L5 F S0 p0 p1 p2 0 0 tp0 _ _ _ hf hW hS (lv_sub hl [2, 3, 4, 1, 0] rfl)
set_option maxHeartbeats 4000000 in
set_option maxRecDepth 100000 in
theorem c_X0_addRange (l : Launch) (g : GP) (ad : Nat → Nat) (n : Nat) (K : Nat → Nat) (sz F : Nat) (S0 : St) (p0 : Nat) (p1 : Nat) (p2 : Int32) (p3 : Int32) (tp0 : p0 < n ∧ K p0 = 0) (tp1 : p1 < n ∧ K p1 = 0) (S9 : St) (hf : f_X0_addRange F S0 p0 p1 p2 p3 = some S9) : Met l yX0_addRange wsX0_addRange { frames := 1, cells := 0, slots := 0, locals := 21 } (va_Pc [.ref (ad p0), .ref (ad p1), .int p2, .int p3] (PB g ad n K S0 sz)) (QR none (QB g ad n K S9 (dA ad n sz) (True)) (dA ad n sz)) 0 0 (dA ad n sz) := by
  refine Met.ofW (cc := cX0_addRange) (maxL := 5) (ret := none) (by decide) rfl ?_
  intro p e s m args below meth c s₁ B hml hv
  obtain ⟨rfl, hsz, hW, hK, hGs⟩ := x_start hv
  subst hsz
  have hx := B.exec
  have hb := B.bytes
  have hr := B.returns
  have hts := atoms_spec (ws := wsX0_addRange) B.pre
  have hown : s.vm.findClass RX0 = some m.cls := findClass_of_methodNamed B.named
  have hlk := B.notSynchronized
  have hC : Cx g p s m _ c cX0_addRange RX0 wsX0_addRange 5 := ⟨hx, hb, hml, hown, hts, hK⟩
  have hA : ∀ q : Nat, s.heap.size ≤ q → dA ad n s.heap.size q := fun q h => Or.inr h
  have hS : va_S (dA ad n s.heap.size) s.heap s.heap [] := va_S.rf
  have hl := lv_entry ([.ref (ad p0), .ref (ad p1), .int p2, .int p3]) (n := 5) (Nat.le_of_ble_eq_true rfl)
  rw [lg_entry_eq]
  generalize (lg_sl ([.ref (ad p0), .ref (ad p1), .int p2, .int p3]) ++ List.replicate (5 - (lg_sl ([.ref (ad p0), .ref (ad p1), .int p2, .int p3])).length) Slot.unset).toArray = ls at hl ⊢
  have hl : lv_has ls 5 [(0, .ref (ad p0)), (1, .ref (ad p1)), (2, .int p2), (3, .int p3)] := hl
  have hGE := hGs.2.2.2.1
  have hGM := hGs.2.2.2.2
  have L3 : ∀ (fu3 : Nat) (S0 : St) (v0 : Nat) (v1 : Nat) (v3 : Int32) (v4 : Int32) (tv0 : v0 < n ∧ K v0 = 0) (tv1 : v1 < n ∧ K v1 = 0) (H : Heap) (locs : List Loc) (ls : Array Slot), f_X0_addRange_L3 F fu3 S0 v0 v1 v3 v4 = some S9 → Wb g ad n K S0 (dA ad n s.heap.size) H → va_S (dA ad n s.heap.size) s.heap H locs → lv_has ls 5 [(0, .ref (ad v0)), (1, .ref (ad v1)), (3, .int v3), (4, .int v4)] → W p l e (headSpec wsX0_addRange { frames := 1, cells := 0, slots := 0, locals := 21 }).room s m (List.toArray [.ref (ad p0), .ref (ad p1), .int p2, .int p3]) below meth c H locs 0 0 (MQ below (QR none (QB g ad n K S9 (dA ad n s.heap.size) (True)) (dA ad n s.heap.size)) (List.toArray [.ref (ad p0), .ref (ad p1), .int p2, .int p3]) s 0 0 (dA ad n s.heap.size)) (F0 m 3 ls []) := by
    intro fu3
    induction fu3 with
    | zero =>
      intro S0 v0 v1 v3 v4 tv0 tv1 H locs ls hf
      cases hf
    | succ fu3 ih3 =>
      intro S0 v0 v1 v3 v4 tv0 tv1 H locs ls hf hW hS hl
      unfold f_X0_addRange_L3 at hf
      refine lv_iload hx hb dX0_addRange_3 (lv_at hl 3 rfl) ?_
      refine lv_iload_n hx hb dX0_addRange_5 rfl (lv_at hl 2 rfl) ?_
      refine lv_icmp_ge (tgt := 25) hx hb dX0_addRange_6 (by decide) (fun c11 => ?_) (fun c11 => ?_)
      · replace hf := ifT c11 hf
        have e1 := Option.some.inj hf
        subst e1
        exact W.vret hx hb hr (fun t ht hWm => ⟨⟨rfl, by unfold QB; rw [ht]; exact ⟨hW, trivial⟩⟩, hS.F ht⟩) hS.2.2 dX0_addRange_25 hlk
      · replace hf := ifF c11 hf
        refine lv_aload_n hx hb dX0_addRange_9 rfl (lv_at hl 0 rfl) ?_
        refine lv_aload_n hx hb dX0_addRange_10 rfl (lv_at hl 1 rfl) ?_
        refine lv_iload hx hb dX0_addRange_11 (lv_at hl 3 rfl) ?_
        replace hf := obE hf
        obtain ⟨z12, hz12, hf⟩ := hf
        obtain ⟨r14, S13⟩ := z12
        replace hf := ltE (ltE hf r14 rfl) S13 rfl
        refine x_callV (As := [.int v4]) (rest := [.ref (ad v0)]) (o := (some (.int r14))) (S1 := S13) hC hl.1 hW hS hGs hA tv1 rfl (show vwCl[0]? = some (RX0, TX0, 2) ∧ ob 0 from ⟨rfl, by decide⟩) (c_X0_byteAt l g ad n K H.size F S0 v1 v4 tv1 r14 S13 hz12) (cwV 1 hts gX0_addRange_X0_byteAt rfl rfl rfl (by decide +kernel) ⟨Nat.le_of_ble_eq_true rfl, Nat.le_of_ble_eq_true rfl⟩) rfl rfl (Nat.le_of_ble_eq_true rfl) dX0_addRange_13 ⟨Nat.le_of_ble_eq_true rfl, Nat.le_of_ble_eq_true rfl⟩ (fun H locs hPz12 hW hS => ?_)
        refine W.eq (g2 := F0 m 16 ls [.int r14, .ref (ad v0)]) rfl ?_
        replace hf := obE hf
        obtain ⟨S17, hz16, hf⟩ := hf
        refine x_callV (As := [.int r14]) (rest := []) (o := none) (S1 := S17) hC hl.1 hW hS hGs hA tv0 rfl (show vwCl[0]? = some (RX0, TX0, 2) ∧ ob 0 from ⟨rfl, by decide⟩) (c_X0_add l g ad n K H.size F S13 v0 r14 tv0 S17 hz16) (cwV 1 hts gX0_addRange_X0_add rfl rfl rfl (by decide +kernel) ⟨Nat.le_of_ble_eq_true rfl, Nat.le_of_ble_eq_true rfl⟩) rfl rfl (Nat.le_of_ble_eq_true rfl) dX0_addRange_16 ⟨Nat.le_of_ble_eq_true rfl, Nat.le_of_ble_eq_true rfl⟩ (fun H locs hPz16 hW hS => ?_)
        refine W.eq (g2 := F0 m 19 ls []) rfl ?_
        obtain ⟨x20, ex20⟩ : ∃ z : Int32, z = v4 + 1 := ⟨_, rfl⟩
        replace hf := ltE hf x20 ex20
        refine lv_iinc (v := x20) (lv' := [(4, .int x20), (0, .ref (ad v0)), (1, .ref (ad v1)), (3, .int v3)]) hx hb dX0_addRange_19 hl (k := 3) rfl (by rw [ex20]; rfl) (by decide) rfl (fun ls hl => ?_)
        refine lv_goto (tgt := 3) hx hb dX0_addRange_22 (by decide) ?_
        exact ih3 S17 v0 v1 v3 x20 tv0 tv1 _ _ _ hf hW hS (lv_sub hl [1, 2, 3, 0] rfl)
  unfold f_X0_addRange at hf
  refine lv_iload_n hx hb dX0_addRange_0 rfl (lv_at hl 2 rfl) ?_
  refine lv_istore (lv' := [(4, .int p2), (0, .ref (ad p0)), (1, .ref (ad p1)), (2, .int p2), (3, .int p3)]) hx hb dX0_addRange_1 hl (by decide) rfl (fun ls hl => ?_)
  exact L3 F S0 p0 p1 p3 p2 tp0 tp1 _ _ _ hf hW hS (lv_sub hl [1, 2, 4, 0] rfl)
set_option maxHeartbeats 4000000 in
set_option maxRecDepth 100000 in
theorem c_X1_copyOfPlace (l : Launch) (g : GP) (ad : Nat → Nat) (n : Nat) (K : Nat → Nat) (sz F : Nat) (S0 : St) (p0 : Nat) (p1 : Int32) (tp0 : p0 < n ∧ K p0 = 1) (r9 : Option Nat) (S9 : St) (n9 : Nat) (hf : f_X1_copyOfPlace F S0 n p0 p1 = some (r9, S9, n9)) : Met l yX1_copyOfPlace wsX1_copyOfPlace { frames := 2, cells := 2, slots := 2042, locals := 45 } (va_Pc [.ref (ad p0), .int p1] (PB g ad n K S0 sz)) (QA ad K n (fun a => some (va_re a r9)) g n9 S9 (dA ad n sz) (fun K9 => ∀ j, r9 = some j → j < n9 ∧ K9 j = 0)) 2 2042 (dA ad n sz) := by
  refine Met.ofW (cc := cX1_copyOfPlace) (maxL := 3) (ret := (some (.object "MailSpool$Bytes"))) (by decide) rfl ?_
  intro p e s m args below meth c s₁ B hml hv
  obtain ⟨rfl, hsz, hW, hK, hGs⟩ := x_start hv
  subst hsz
  have hx := B.exec
  have hb := B.bytes
  have hr := B.returns
  have hts := atoms_spec (ws := wsX1_copyOfPlace) B.pre
  have hown : s.vm.findClass RX1 = some m.cls := findClass_of_methodNamed B.named
  have hlk := B.notSynchronized
  have hC : Cx g p s m _ c cX1_copyOfPlace RX1 wsX1_copyOfPlace 3 := ⟨hx, hb, hml, hown, hts, hK⟩
  have hA : ∀ q : Nat, s.heap.size ≤ q → dA ad n s.heap.size q := fun q h => Or.inr h
  have hS : va_S (dA ad n s.heap.size) s.heap s.heap [] := va_S.rf
  have hl := lv_entry ([.ref (ad p0), .int p1]) (n := 3) (Nat.le_of_ble_eq_true rfl)
  rw [lg_entry_eq]
  generalize (lg_sl ([.ref (ad p0), .int p1]) ++ List.replicate (3 - (lg_sl ([.ref (ad p0), .int p1])).length) Slot.unset).toArray = ls at hl ⊢
  have hl : lv_has ls 3 [(0, .ref (ad p0)), (1, .int p1)] := hl
  have hinX0 : ∀ w ∈ wsX00, w ∈ wsX1_copyOfPlace := by decide +kernel
  have hinX1 : ∀ w ∈ wsX10, w ∈ wsX1_copyOfPlace := by decide +kernel
  have w_0 := hts (.classLink RX1 27 RX0) (by decide +kernel)
  have w_1 := hts (.instantiable RX0 2) (by decide +kernel)
  have w_2 := hts (.initialized RX0) (by decide +kernel)
  have w_3 := hts (.methodLink RX1 54 yX0_init) (by decide +kernel)
  have w_4 := hts (.instanceMethod yX0_init) (by decide +kernel)
  have w_5 := hts (.fieldLink RX1 9 "MailSpool$Content" "text" "LMailSpool$Bytes;") (by decide +kernel)
  have w_6 := hts (.fieldLink RX1 15 "MailSpool$Content" "starts" "[I") (by decide +kernel)
  have w_7 := va_Nw.use (A := (List.toArray [.ref (ad p0), .int p1])) rfl (hGs.1 (.methodLinkNest RX1 39 yX10_at "MailSpool") (by decide +kernel))
  have w_8 := hts (.initialized RX10) (by decide +kernel)
  have w_9 := hts (.static yX10_at) (by decide +kernel)
  have w_10 := hts (.fieldLink RX1 19 "MailSpool$Content" "ends" "[I") (by decide +kernel)
  have hGE := hGs.2.2.2.1
  have hGM := hGs.2.2.2.2
  unfold f_X1_copyOfPlace at hf
  refine x_new (ci := 0) (C := RX0) (T := TX0) (N := 2) hC hinX0 tyX0_ok hW hS hA ⟨rfl, by decide, by decide⟩ (by decide +kernel) w_0 w_1 w_2 (Nat.le_of_ble_eq_true rfl) (Nat.le_of_ble_eq_true rfl) dX1_copyOfPlace_0 (fun q1 ad2 K3 S4 H eS4 hag6 eqq1 ekq1 hW hS => ?_)
  replace hf := ltE hf S4 eS4
  obtain ⟨n5, en5⟩ : ∃ z, z = n + 1 := ⟨_, rfl⟩
  rw [← en5] at hag6 hW
  replace hf := ltE hf n5 en5
  have tq1 : n < n5 ∧ K3 n = 0 := ⟨by omega, ekq1⟩
  have g7 := hag6.t tp0
  have g8 := hag6.e tp0 rfl
  have ag9 := (Ag.rf).tr hag6
  refine W.widen (k := 1) (n := 2) (by omega) (by omega) ?_
  refine lv_dup hx hb dX1_copyOfPlace_3 rfl ?_
  refine lv_aload_n hx hb dX1_copyOfPlace_4 rfl (lv_at hl 0 rfl) ?_
  refine lv_iload_n hx hb dX1_copyOfPlace_5 rfl (lv_at hl 1 rfl) ?_
  replace hf := obE hf
  obtain ⟨z10, hz10, hf⟩ := hf
  obtain ⟨r12, S11⟩ := z10
  replace hf := ltE (ltE hf r12 rfl) S11 rfl
  refine x_callV (As := [.int p1]) (rest := [.ref (q1), .ref (q1)]) (o := (some (.int r12))) (S1 := S11) hC hl.1 hW hS hGs hA g7 rfl (show vwCl[1]? = some (RX1, TX1, 4) ∧ ob 1 from ⟨rfl, by decide⟩) (c_X1_sizeAt l g ad2 n5 K3 H.size F S4 p0 p1 g7 r12 S11 hz10) (cwV 1 hts gX1_copyOfPlace_X1_sizeAt rfl rfl rfl (by decide +kernel) ⟨Nat.le_of_ble_eq_true rfl, Nat.le_of_ble_eq_true rfl⟩) rfl (by rw [g8] <;> rfl) (Nat.le_of_ble_eq_true rfl) dX1_copyOfPlace_6 ⟨Nat.le_of_ble_eq_true rfl, Nat.le_of_ble_eq_true rfl⟩ (fun H locs hPz10 hW hS => ?_)
  refine W.eq (g2 := F0 m 9 ls [.int r12, .ref (q1), .ref (q1)]) rfl ?_
  replace hf := obE hf
  obtain ⟨z14, hz14, hf⟩ := hf
  obtain ⟨S15, n17⟩ := z14
  replace hf := ltE (ltE hf S15 rfl) n17 rfl
  refine x_acallI (As := [.int r12]) (rest := [.ref (q1)]) (S1 := S15) (n1 := n17) (o := (fun _ => none)) (P := (fun _ => True)) hC hl.1 hW hS hGs hA (c_X0_init l g ad2 n5 K3 H.size F S11 n r12 tq1 S15 n17 hz14) (cwI 1 hts gX1_copyOfPlace_X0_init rfl rfl rfl w_2 w_3 w_4 rfl (by decide +kernel) ⟨Nat.le_of_ble_eq_true rfl, Nat.le_of_ble_eq_true rfl⟩) rfl (by rw [eqq1] <;> rfl) (Nat.le_of_ble_eq_true rfl) dX1_copyOfPlace_9 ⟨(Nat.le_of_ble_eq_true rfl), (Nat.le_of_ble_eq_true rfl)⟩ (fun ad18 K19 H locs hag20 hPz14 hW hS => ?_)
  have g21 := hag20.t g7
  have g22 := hag20.e g7 g8
  have g23 := hag20.t tq1
  have g24 := hag20.e tq1 eqq1
  have ag25 := (ag9).tr hag20
  refine W.widen (k := 2) (n := 2042) (by omega) (by omega) ?_
  refine W.eq (g2 := F0 m 12 ls [.ref (q1)]) rfl ?_
  refine lv_astore_n (lv' := [(2, .ref (q1)), (0, .ref (ad p0)), (1, .int p1)]) hx hb dX1_copyOfPlace_12 rfl hl (by decide) rfl (fun ls hl => ?_)
  refine lv_aload_n hx hb dX1_copyOfPlace_13 rfl (lv_at hl 0 rfl) ?_
  refine lv_aload_n hx hb dX1_copyOfPlace_14 rfl (lv_at hl 1 rfl) ?_
  replace hf := obE hf
  obtain ⟨j26, qj26, hf⟩ := hf
  have tj26 := x_rt hW qj26 0 ⟨by decide, rfl⟩
  refine x_getr 100 (ci := 1) (C := RX1) (T := TX1) (N := 4) 0 hC hinX1 hW g21 g22 rfl ⟨by decide, by decide, rfl, rfl⟩ rfl w_5 dX1_copyOfPlace_15 qj26 ?_
  refine lv_aload_n hx hb dX1_copyOfPlace_18 rfl (lv_at hl 1 rfl) ?_
  replace hf := obE hf
  obtain ⟨j27, qj27, hf⟩ := hf
  have tj27 := x_rt hW qj27 12 ⟨by decide, rfl⟩
  refine x_getr 101 (ci := 1) (C := RX1) (T := TX1) (N := 4) 1 hC hinX1 hW g21 g22 rfl ⟨by decide, by decide, rfl, rfl⟩ rfl w_6 dX1_copyOfPlace_19 qj27 ?_
  refine lv_iload_n hx hb dX1_copyOfPlace_22 rfl (lv_at hl 2 rfl) ?_
  replace hf := obE hf
  obtain ⟨z28, hz28, hf⟩ := hf
  obtain ⟨r30, S29⟩ := z28
  replace hf := ltE (ltE hf r30 rfl) S29 rfl
  refine x_callSN (As := [.ref (ad18 j27), .int p1]) (rest := [.ref (ad18 j26), .ref (q1)]) (o := (some (.int r30))) (S1 := S29) hC hl.1 hW hS hGs hA (c_X10_at l g ad18 n17 K19 H.size F S15 j27 p1 tj27 r30 S29 hz28) ⟨va_cnB 2 hts gX1_copyOfPlace_X10_at_n39 rfl rfl rfl (va_Nw.of rfl w_7) w_8 (by decide +kernel) ⟨Nat.le_of_ble_eq_true rfl, Nat.le_of_ble_eq_true rfl⟩, w_9, trivial⟩ rfl rfl (Nat.le_of_ble_eq_true rfl) dX1_copyOfPlace_23 ⟨Nat.le_of_ble_eq_true rfl, Nat.le_of_ble_eq_true rfl⟩ (fun H locs hPz28 hW hS => ?_)
  refine W.eq (g2 := F0 m 26 ls [.int r30, .ref (ad18 j26), .ref (q1)]) rfl ?_
  refine lv_aload_n hx hb dX1_copyOfPlace_26 rfl (lv_at hl 1 rfl) ?_
  replace hf := obE hf
  obtain ⟨j32, qj32, hf⟩ := hf
  have tj32 := x_rt hW qj32 12 ⟨by decide, rfl⟩
  refine x_getr 102 (ci := 1) (C := RX1) (T := TX1) (N := 4) 2 hC hinX1 hW g21 g22 rfl ⟨by decide, by decide, rfl, rfl⟩ rfl w_10 dX1_copyOfPlace_27 qj32 ?_
  refine lv_iload_n hx hb dX1_copyOfPlace_30 rfl (lv_at hl 2 rfl) ?_
  replace hf := obE hf
  obtain ⟨z33, hz33, hf⟩ := hf
  obtain ⟨r35, S34⟩ := z33
  replace hf := ltE (ltE hf r35 rfl) S34 rfl
  refine x_callSN (As := [.ref (ad18 j32), .int p1]) (rest := [.int r30, .ref (ad18 j26), .ref (q1)]) (o := (some (.int r35))) (S1 := S34) hC hl.1 hW hS hGs hA (c_X10_at l g ad18 n17 K19 H.size F S29 j32 p1 tj32 r35 S34 hz33) ⟨va_cnB 2 hts gX1_copyOfPlace_X10_at_n39 rfl rfl rfl (va_Nw.of rfl w_7) w_8 (by decide +kernel) ⟨Nat.le_of_ble_eq_true rfl, Nat.le_of_ble_eq_true rfl⟩, w_9, trivial⟩ rfl rfl (Nat.le_of_ble_eq_true rfl) dX1_copyOfPlace_31 ⟨Nat.le_of_ble_eq_true rfl, Nat.le_of_ble_eq_true rfl⟩ (fun H locs hPz33 hW hS => ?_)
  refine W.eq (g2 := F0 m 34 ls [.int r35, .int r30, .ref (ad18 j26), .ref (q1)]) rfl ?_
  replace hf := obE hf
  obtain ⟨S38, hz37, hf⟩ := hf
  refine x_callV (As := [.ref (ad18 j26), .int r30, .int r35]) (rest := []) (o := none) (S1 := S38) hC hl.1 hW hS hGs hA g23 rfl (show vwCl[0]? = some (RX0, TX0, 2) ∧ ob 0 from ⟨rfl, by decide⟩) (c_X0_addRange l g ad18 n17 K19 H.size F S34 n j26 r30 r35 g23 tj26 S38 hz37) (cwV 3 hts gX1_copyOfPlace_X0_addRange rfl rfl rfl (by decide +kernel) ⟨Nat.le_of_ble_eq_true rfl, Nat.le_of_ble_eq_true rfl⟩) rfl (by rw [g24] <;> rfl) (Nat.le_of_ble_eq_true rfl) dX1_copyOfPlace_34 ⟨Nat.le_of_ble_eq_true rfl, Nat.le_of_ble_eq_true rfl⟩ (fun H locs hPz37 hW hS => ?_)
  refine W.eq (g2 := F0 m 37 ls []) rfl ?_
  refine lv_aload_n hx hb dX1_copyOfPlace_37 rfl (lv_at hl 0 rfl) ?_
  obtain ⟨e1, e2, e3⟩ := so3 hf
  subst e1
  subst e2
  subst e3
  exact W.aret hx hb hr (Or.inl ⟨_, rfl⟩) (Or.inr ⟨_, rfl⟩) (fun t ht hWm => ⟨⟨ad18, K19, congrArg (fun z => Outcome.returned (some (Value.ref z))) g24, ag25, (fun _ h => by cases h; exact g23), by rw [ht]; exact hW⟩, hS.F ht⟩) hS.2.2 dX1_copyOfPlace_38 hlk
set_option maxHeartbeats 4000000 in
set_option maxRecDepth 100000 in
theorem c_X9_numberFor (l : Launch) (g : GP) (ad : Nat → Nat) (n : Nat) (K : Nat → Nat) (sz F : Nat) (S0 : St) (p0 : Nat) (p1 : Nat) (p2 : Int32) (p3 : Int32) (tp0 : p0 < n ∧ K p0 = 8) (tp1 : p1 < n ∧ K p1 = 1) (r9 : Int32) (S9 : St) (n9 : Nat) (hf : f_X9_numberFor F S0 n p0 p1 p2 p3 = some (r9, S9, n9)) : Met l yX9_numberFor wsX9_numberFor { frames := 4, cells := 2, slots := 2042, locals := 90 } (va_Pc [.ref (ad p0), .ref (ad p1), .int p2, .int p3] (PB g ad n K S0 sz)) (QA ad K n (fun _ => (some (.int r9))) g n9 S9 (dA ad n sz) (fun _ => True)) 2 2042 (dA ad n sz) := by
  refine Met.ofW (cc := cX9_numberFor) (maxL := 6) (ret := (some .int)) (by decide) rfl ?_
  intro p e s m args below meth c s₁ B hml hv
  obtain ⟨rfl, hsz, hW, hK, hGs⟩ := x_start hv
  subst hsz
  have hx := B.exec
  have hb := B.bytes
  have hr := B.returns
  have hts := atoms_spec (ws := wsX9_numberFor) B.pre
  have hown : s.vm.findClass RX9 = some m.cls := findClass_of_methodNamed B.named
  have hlk := B.notSynchronized
  have hC : Cx g p s m _ c cX9_numberFor RX9 wsX9_numberFor 6 := ⟨hx, hb, hml, hown, hts, hK⟩
  have hA : ∀ q : Nat, s.heap.size ≤ q → dA ad n s.heap.size q := fun q h => Or.inr h
  have hS : va_S (dA ad n s.heap.size) s.heap s.heap [] := va_S.rf
  have hl := lv_entry ([.ref (ad p0), .ref (ad p1), .int p2, .int p3]) (n := 6) (Nat.le_of_ble_eq_true rfl)
  rw [lg_entry_eq]
  generalize (lg_sl ([.ref (ad p0), .ref (ad p1), .int p2, .int p3]) ++ List.replicate (6 - (lg_sl ([.ref (ad p0), .ref (ad p1), .int p2, .int p3])).length) Slot.unset).toArray = ls at hl ⊢
  have hl : lv_has ls 6 [(0, .ref (ad p0)), (1, .ref (ad p1)), (2, .int p2), (3, .int p3)] := hl
  have hinX9 : ∀ w ∈ wsX90, w ∈ wsX9_numberFor := by decide +kernel
  have w_0 := hts (.fieldLink RX9 17 "MailSpool$Store" "firstMessage" "[I") (by decide +kernel)
  have w_1 := va_Nw.use (A := (List.toArray [.ref (ad p0), .ref (ad p1), .int p2, .int p3])) rfl (hGs.1 (.methodLinkNest RX9 93 yX10_put "MailSpool") (by decide +kernel))
  have w_2 := hts (.initialized RX10) (by decide +kernel)
  have w_3 := hts (.static yX10_put) (by decide +kernel)
  have w_4 := hts (.fieldLink RX9 21 "MailSpool$Store" "keepers" "[I") (by decide +kernel)
  have w_5 := hts (.fieldLink RX9 24 "MailSpool$Store" "deadSince" "[I") (by decide +kernel)
  have w_6 := hts (.fieldLink RX9 34 "MailSpool$Store" "numbers" "I") (by decide +kernel)
  have w_7 := hts (.fieldLink RX9 38 "MailSpool$Store" "stored" "I") (by decide +kernel)
  have w_8 := hts (.fieldLink RX9 11 "MailSpool$Store" "contents" "[LMailSpool$Bytes;") (by decide +kernel)
  have hGE := hGs.2.2.2.1
  have hGM := hGs.2.2.2.2
  have L52 : ∀ (adL KL : Nat → Nat) (nL : Nat) (hagL : Ag ad K n adL KL nL) (S0 : St) (v0 : Nat) (v3 : Int32) (v5 : Int32) (tv0 : v0 < nL ∧ KL v0 = 8) (H : Heap) (locs : List Loc) (ls : Array Slot), f_X9_numberFor_L52 F S0 nL v0 v3 v5 = some (r9, S9, n9) → Wb g adL nL KL S0 (dA ad n s.heap.size) H → va_S (dA ad n s.heap.size) s.heap H locs → lv_has ls 6 [(0, .ref (adL v0)), (3, .int v3), (5, .int v5)] → W p l e (headSpec wsX9_numberFor { frames := 4, cells := 2, slots := 2042, locals := 90 }).room s m (List.toArray [.ref (ad p0), .ref (ad p1), .int p2, .int p3]) below meth c H locs 2 2042 (MQ below (QA ad K n (fun _ => (some (.int r9))) g n9 S9 (dA ad n s.heap.size) (fun _ => True)) (List.toArray [.ref (ad p0), .ref (ad p1), .int p2, .int p3]) s 2 2042 (dA ad n s.heap.size)) (F0 m 52 ls []) := by
    intro adL KL nL hagL S0 v0 v3 v5 tv0 H locs ls hf hW hS hl
    unfold f_X9_numberFor_L52 at hf
    refine lv_aload_n hx hb dX9_numberFor_52 rfl (lv_at hl 0 rfl) ?_
    replace hf := obE hf
    obtain ⟨j18, qj18, hf⟩ := hf
    have tj18 := x_rt hW qj18 12 ⟨by decide, rfl⟩
    refine x_getr 804 (ci := 8) (C := RX9) (T := TX9) (N := 8) 4 hC hinX9 hW tv0 rfl rfl ⟨by decide, by decide, rfl, rfl⟩ rfl w_0 dX9_numberFor_53 qj18 ?_
    refine lv_iload hx hb dX9_numberFor_56 (lv_at hl 2 rfl) ?_
    refine lv_iload_n hx hb dX9_numberFor_58 rfl (lv_at hl 1 rfl) ?_
    replace hf := obE hf
    obtain ⟨S20, hz19, hf⟩ := hf
    refine x_callSN (As := [.ref (adL j18), .int v5, .int v3]) (rest := []) (o := none) (S1 := S20) hC hl.1 hW hS hGs hA (c_X10_put l g adL nL KL H.size F S0 j18 v5 v3 tj18 S20 hz19) ⟨va_cnB 3 hts gX9_numberFor_X10_put_n93 rfl rfl rfl (va_Nw.of rfl w_1) w_2 (by decide +kernel) ⟨Nat.le_of_ble_eq_true rfl, Nat.le_of_ble_eq_true rfl⟩, w_3, trivial⟩ rfl rfl (Nat.le_of_ble_eq_true rfl) dX9_numberFor_59 ⟨Nat.le_of_ble_eq_true rfl, Nat.le_of_ble_eq_true rfl⟩ (fun H locs hPz19 hW hS => ?_)
    refine W.eq (g2 := F0 m 62 ls []) rfl ?_
    refine lv_aload_n hx hb dX9_numberFor_62 rfl (lv_at hl 0 rfl) ?_
    replace hf := obE hf
    obtain ⟨j23, qj23, hf⟩ := hf
    have tj23 := x_rt hW qj23 12 ⟨by decide, rfl⟩
    refine x_getr 805 (ci := 8) (C := RX9) (T := TX9) (N := 8) 5 hC hinX9 hW tv0 rfl rfl ⟨by decide, by decide, rfl, rfl⟩ rfl w_4 dX9_numberFor_63 qj23 ?_
    refine lv_iload hx hb dX9_numberFor_66 (lv_at hl 2 rfl) ?_
    refine lv_iconst (v := 0) hx hb dX9_numberFor_68 (by decide) ?_
    replace hf := obE hf
    obtain ⟨S25, hz24, hf⟩ := hf
    refine x_callSN (As := [.ref (adL j23), .int v5, .int 0]) (rest := []) (o := none) (S1 := S25) hC hl.1 hW hS hGs hA (c_X10_put l g adL nL KL H.size F S20 j23 v5 ((0 : Int32)) tj23 S25 hz24) ⟨va_cnB 3 hts gX9_numberFor_X10_put_n93 rfl rfl rfl (va_Nw.of rfl w_1) w_2 (by decide +kernel) ⟨Nat.le_of_ble_eq_true rfl, Nat.le_of_ble_eq_true rfl⟩, w_3, trivial⟩ rfl rfl (Nat.le_of_ble_eq_true rfl) dX9_numberFor_69 ⟨Nat.le_of_ble_eq_true rfl, Nat.le_of_ble_eq_true rfl⟩ (fun H locs hPz24 hW hS => ?_)
    refine W.eq (g2 := F0 m 72 ls []) rfl ?_
    refine lv_aload_n hx hb dX9_numberFor_72 rfl (lv_at hl 0 rfl) ?_
    replace hf := obE hf
    obtain ⟨j28, qj28, hf⟩ := hf
    have tj28 := x_rt hW qj28 12 ⟨by decide, rfl⟩
    refine x_getr 806 (ci := 8) (C := RX9) (T := TX9) (N := 8) 6 hC hinX9 hW tv0 rfl rfl ⟨by decide, by decide, rfl, rfl⟩ rfl w_5 dX9_numberFor_73 qj28 ?_
    refine lv_iload hx hb dX9_numberFor_76 (lv_at hl 2 rfl) ?_
    refine lv_iconst (v := -1) hx hb dX9_numberFor_78 (by decide) ?_
    replace hf := obE hf
    obtain ⟨S30, hz29, hf⟩ := hf
    refine x_callSN (As := [.ref (adL j28), .int v5, .int ((-1))]) (rest := []) (o := none) (S1 := S30) hC hl.1 hW hS hGs hA (c_X10_put l g adL nL KL H.size F S25 j28 v5 (((-1) : Int32)) tj28 S30 hz29) ⟨va_cnB 3 hts gX9_numberFor_X10_put_n93 rfl rfl rfl (va_Nw.of rfl w_1) w_2 (by decide +kernel) ⟨Nat.le_of_ble_eq_true rfl, Nat.le_of_ble_eq_true rfl⟩, w_3, trivial⟩ rfl rfl (Nat.le_of_ble_eq_true rfl) dX9_numberFor_79 ⟨Nat.le_of_ble_eq_true rfl, Nat.le_of_ble_eq_true rfl⟩ (fun H locs hPz29 hW hS => ?_)
    refine W.eq (g2 := F0 m 82 ls []) rfl ?_
    refine lv_aload_n hx hb dX9_numberFor_82 rfl (lv_at hl 0 rfl) ?_
    refine lv_dup hx hb dX9_numberFor_83 rfl ?_
    refine x_geti 800 (ci := 8) (C := RX9) (T := TX9) (N := 8) 0 hC hinX9 hW tv0 rfl rfl ⟨by decide, by decide, rfl, rfl⟩ rfl w_6 dX9_numberFor_84 ?_
    refine lv_iconst (v := 1) hx hb dX9_numberFor_87 (by decide) ?_
    refine lv_iadd hx hb dX9_numberFor_88 ?_
    refine x_puti 800 (ci := 8) (C := RX9) (T := TX9) (N := 8) (v := (si S30 800 v0) + 1) (ty := .int) 0 hC hinX9 tyX9_ok nmX9 hW hS tv0 rfl rfl ⟨by decide, by decide, rfl, rfl⟩ rfl w_6 rfl (by decide +kernel) rfl rfl dX9_numberFor_89 (fun S33 H locs eS33 hW hS => ?_)
    replace hf := ltE hf S33 eS33
    refine lv_aload_n hx hb dX9_numberFor_92 rfl (lv_at hl 0 rfl) ?_
    refine lv_dup hx hb dX9_numberFor_93 rfl ?_
    refine x_geti 801 (ci := 8) (C := RX9) (T := TX9) (N := 8) 1 hC hinX9 hW tv0 rfl rfl ⟨by decide, by decide, rfl, rfl⟩ rfl w_7 dX9_numberFor_94 ?_
    refine lv_iconst (v := 1) hx hb dX9_numberFor_97 (by decide) ?_
    refine lv_iadd hx hb dX9_numberFor_98 ?_
    refine x_puti 801 (ci := 8) (C := RX9) (T := TX9) (N := 8) (v := (si S33 801 v0) + 1) (ty := .int) 1 hC hinX9 tyX9_ok nmX9 hW hS tv0 rfl rfl ⟨by decide, by decide, rfl, rfl⟩ rfl w_7 rfl (by decide +kernel) rfl rfl dX9_numberFor_99 (fun S34 H locs eS34 hW hS => ?_)
    replace hf := ltE hf S34 eS34
    refine lv_iload hx hb dX9_numberFor_102 (lv_at hl 2 rfl) ?_
    obtain ⟨e1, e2, e3⟩ := so3 hf
    subst e1
    subst e2
    subst e3
    exact W.iret (v := v5) hx hb hr (fun t ht hWm => ⟨⟨adL, KL, rfl, hagL, trivial, by rw [ht]; exact hW⟩, hS.F ht⟩) hS.2.2 dX9_numberFor_104 hlk
  unfold f_X9_numberFor at hf
  refine lv_aload_n hx hb dX9_numberFor_0 rfl (lv_at hl 0 rfl) ?_
  refine lv_aload_n hx hb dX9_numberFor_1 rfl (lv_at hl 1 rfl) ?_
  refine lv_iload_n hx hb dX9_numberFor_2 rfl (lv_at hl 2 rfl) ?_
  replace hf := obE hf
  obtain ⟨z35, hz35, hf⟩ := hf
  obtain ⟨r37, S36⟩ := z35
  replace hf := ltE (ltE hf r37 rfl) S36 rfl
  refine x_callV (As := [.ref (ad p1), .int p2]) (rest := []) (o := (some (.int r37))) (S1 := S36) hC hl.1 hW hS hGs hA tp0 rfl (show vwCl[8]? = some (RX9, TX9, 8) ∧ ob 8 from ⟨rfl, by decide⟩) (c_X9_numberOf l g ad n K s.heap.size F S0 p0 p1 p2 tp0 tp1 r37 S36 hz35) (cwV 2 hts gX9_numberFor_X9_numberOf rfl rfl rfl (by decide +kernel) ⟨Nat.le_of_ble_eq_true rfl, Nat.le_of_ble_eq_true rfl⟩) rfl rfl (Nat.le_of_ble_eq_true rfl) dX9_numberFor_3 ⟨Nat.le_of_ble_eq_true rfl, Nat.le_of_ble_eq_true rfl⟩ (fun H locs hPz35 hW hS => ?_)
  refine W.eq (g2 := F0 m 6 ls [.int r37]) rfl ?_
  refine lv_istore (lv' := [(4, .int r37), (0, .ref (ad p0)), (1, .ref (ad p1)), (2, .int p2), (3, .int p3)]) hx hb dX9_numberFor_6 hl (by decide) rfl (fun ls hl => ?_)
  refine lv_iload hx hb dX9_numberFor_8 (lv_at hl 0 rfl) ?_
  refine lv_iconst (v := -1) hx hb dX9_numberFor_10 (by decide) ?_
  refine lv_icmp_ne (tgt := 26) hx hb dX9_numberFor_11 (by decide) (fun c39 => ?_) (fun c39 => ?_)
  · replace hf := ifT c39 hf
    refine lv_iload hx hb dX9_numberFor_26 (lv_at hl 0 rfl) ?_
    obtain ⟨e1, e2, e3⟩ := so3 hf
    subst e1
    subst e2
    subst e3
    refine W.widen (k := 2) (n := 2042) (Nat.le_of_ble_eq_true rfl) (Nat.le_of_ble_eq_true rfl) ?_
    exact W.iret (v := r37) hx hb hr (fun t ht hWm => ⟨⟨ad, K, rfl, Ag.rf, trivial, by rw [ht]; exact hW⟩, hS.F ht⟩) hS.2.2 dX9_numberFor_28 hlk
  · replace hf := ifF (fun q => q c39) hf
    refine lv_aload_n hx hb dX9_numberFor_14 rfl (lv_at hl 1 rfl) ?_
    refine x_geti 800 (ci := 8) (C := RX9) (T := TX9) (N := 8) 0 hC hinX9 hW tp0 rfl rfl ⟨by decide, by decide, rfl, rfl⟩ rfl w_6 dX9_numberFor_15 ?_
    refine lv_aload_n hx hb dX9_numberFor_18 rfl (lv_at hl 1 rfl) ?_
    replace hf := obE hf
    obtain ⟨j40, qj40, hf⟩ := hf
    have tj40 := x_rt hW qj40 14 ⟨by decide, rfl⟩
    refine x_getr 803 (ci := 8) (C := RX9) (T := TX9) (N := 8) 3 hC hinX9 hW tp0 rfl rfl ⟨by decide, by decide, rfl, rfl⟩ rfl w_8 dX9_numberFor_19 qj40 ?_
    refine x_alen hC hW tj40 rfl ⟨by decide, by decide⟩ dX9_numberFor_22 ?_
    refine lv_icmp_lt (tgt := 29) hx hb dX9_numberFor_23 (by decide) (fun c41 => ?_) (fun c41 => ?_)
    · replace hf := ifT c41 hf
      refine lv_aload_n hx hb dX9_numberFor_29 rfl (lv_at hl 1 rfl) ?_
      refine x_geti 800 (ci := 8) (C := RX9) (T := TX9) (N := 8) 0 hC hinX9 hW tp0 rfl rfl ⟨by decide, by decide, rfl, rfl⟩ rfl w_6 dX9_numberFor_30 ?_
      refine lv_topi (fun x42 ex42 => ?_)
      replace hf := ltE hf x42 ex42
      refine lv_istore (lv' := [(5, .int x42), (4, .int r37), (0, .ref (ad p0)), (1, .ref (ad p1)), (2, .int p2), (3, .int p3)]) hx hb dX9_numberFor_33 hl (by decide) rfl (fun ls hl => ?_)
      refine lv_iload hx hb dX9_numberFor_35 (lv_at hl 0 rfl) ?_
      refine lv_if_lt (tgt := 52) hx hb dX9_numberFor_37 (by decide) (fun c43 => ?_) (fun c43 => ?_)
      · replace hf := ifT c43 hf
        refine W.widen (k := 2) (n := 2042) (Nat.le_of_ble_eq_true rfl) (Nat.le_of_ble_eq_true rfl) ?_
        exact L52 ad K n Ag.rf S36 p0 p3 x42 tp0 _ _ _ hf hW hS (lv_sub hl [2, 5, 0] rfl)
      · replace hf := ifF c43 hf
        refine lv_aload_n hx hb dX9_numberFor_40 rfl (lv_at hl 2 rfl) ?_
        replace hf := obE hf
        obtain ⟨j44, qj44, hf⟩ := hf
        have tj44 := x_rt hW qj44 14 ⟨by decide, rfl⟩
        refine x_getr 803 (ci := 8) (C := RX9) (T := TX9) (N := 8) 3 hC hinX9 hW tp0 rfl rfl ⟨by decide, by decide, rfl, rfl⟩ rfl w_8 dX9_numberFor_41 qj44 ?_
        refine lv_iload hx hb dX9_numberFor_44 (lv_at hl 0 rfl) ?_
        refine lv_aload_n hx hb dX9_numberFor_46 rfl (lv_at hl 3 rfl) ?_
        refine lv_iload_n hx hb dX9_numberFor_47 rfl (lv_at hl 4 rfl) ?_
        replace hf := obE hf
        obtain ⟨z45, hz45, hf⟩ := hf
        obtain ⟨r47, S46, n48⟩ := z45
        replace hf := ltE (ltE (ltE hf r47 rfl) S46 rfl) n48 rfl
        refine x_acallV (As := [.int p2]) (rest := [.int x42, .ref (ad j44)]) (S1 := S46) (n1 := n48) (o := (fun a => some (va_re a r47))) (P := (fun K9 => ∀ j, r47 = some j → j < n48 ∧ K9 j = 0)) hC hl.1 hW hS hGs hA tp1 rfl (show vwCl[1]? = some (RX1, TX1, 4) ∧ ob 1 from ⟨rfl, by decide⟩) (c_X1_copyOfPlace l g ad n K H.size F S36 p1 p2 tp1 r47 S46 n48 hz45) (cwV 1 hts gX9_numberFor_X1_copyOfPlace rfl rfl rfl (by decide +kernel) ⟨Nat.le_of_ble_eq_true rfl, Nat.le_of_ble_eq_true rfl⟩) rfl rfl (Nat.le_of_ble_eq_true rfl) dX9_numberFor_48 ⟨(Nat.le_of_ble_eq_true rfl), (Nat.le_of_ble_eq_true rfl)⟩ (fun ad49 K50 H locs hag51 hPz45 hW hS => ?_)
        have g52 := hag51.t tp0
        have g53 := hag51.e tp0 rfl
        have g54 := hag51.t tp1
        have g55 := hag51.e tp1 rfl
        have g56 := hag51.t tj44
        have g57 := hag51.e tj44 rfl
        have ag58 := (Ag.rf).tr hag51
        refine W.widen (k := 2) (n := 2042) (by omega) (by omega) ?_
        replace hf := obE hf
        obtain ⟨j59, qj59, hf⟩ := hf
        have tj59 := hPz45 j59 qj59
        refine W.eq (g2 := F0 m 51 ls [.ref (ad49 j59), .int x42, .ref (ad j44)]) (by rw [qj59]; rfl) ?_
        replace hf := ckiE hf
        obtain ⟨h60, hf⟩ := hf
        refine x_aast (C := RX0) (T := TX0) (N := 2) (t0 := 3) hC hW hS g56 g57 tj59 rfl ⟨by decide, rfl, rfl, rfl, by decide⟩ h60 dX9_numberFor_51 (fun S61 H locs eS61 hW hS => ?_)
        replace hf := ltE hf S61 eS61
        exact L52 ad49 K50 n48 ag58 S61 p0 p3 x42 g52 _ _ _ hf hW hS (lv_sub hl [2, 5, 0] (by rw [g53] <;> rfl))
    · replace hf := ifF c41 hf
      refine lv_iload hx hb dX9_numberFor_26 (lv_at hl 0 rfl) ?_
      obtain ⟨e1, e2, e3⟩ := so3 hf
      subst e1
      subst e2
      subst e3
      refine W.widen (k := 2) (n := 2042) (Nat.le_of_ble_eq_true rfl) (Nat.le_of_ble_eq_true rfl) ?_
      exact W.iret (v := r37) hx hb hr (fun t ht hWm => ⟨⟨ad, K, rfl, Ag.rf, trivial, by rw [ht]; exact hW⟩, hS.F ht⟩) hS.2.2 dX9_numberFor_28 hlk
set_option maxHeartbeats 4000000 in
set_option maxRecDepth 100000 in
theorem c_X9_addKeeper (l : Launch) (g : GP) (ad : Nat → Nat) (n : Nat) (K : Nat → Nat) (sz F : Nat) (S0 : St) (p0 : Nat) (p1 : Int32) (tp0 : p0 < n ∧ K p0 = 8) (r9 : Int32) (S9 : St) (hf : f_X9_addKeeper F S0 p0 p1 = some (r9, S9)) : Met l yX9_addKeeper wsX9_addKeeper { frames := 3, cells := 0, slots := 0, locals := 63 } (va_Pc [.ref (ad p0), .int p1] (PB g ad n K S0 sz)) (QR (some (.int r9)) (QB g ad n K S9 (dA ad n sz) (True)) (dA ad n sz)) 0 0 (dA ad n sz) := by
  refine Met.ofW (cc := cX9_addKeeper) (maxL := 2) (ret := (some .boolean)) (by decide) rfl ?_
  intro p e s m args below meth c s₁ B hml hv
  obtain ⟨rfl, hsz, hW, hK, hGs⟩ := x_start hv
  subst hsz
  have hx := B.exec
  have hb := B.bytes
  have hr := B.returns
  have hts := atoms_spec (ws := wsX9_addKeeper) B.pre
  have hown : s.vm.findClass RX9 = some m.cls := findClass_of_methodNamed B.named
  have hlk := B.notSynchronized
  have hC : Cx g p s m _ c cX9_addKeeper RX9 wsX9_addKeeper 2 := ⟨hx, hb, hml, hown, hts, hK⟩
  have hA : ∀ q : Nat, s.heap.size ≤ q → dA ad n s.heap.size q := fun q h => Or.inr h
  have hS : va_S (dA ad n s.heap.size) s.heap s.heap [] := va_S.rf
  have hl := lv_entry ([.ref (ad p0), .int p1]) (n := 2) (Nat.le_of_ble_eq_true rfl)
  rw [lg_entry_eq]
  generalize (lg_sl ([.ref (ad p0), .int p1]) ++ List.replicate (2 - (lg_sl ([.ref (ad p0), .int p1])).length) Slot.unset).toArray = ls at hl ⊢
  have hl : lv_has ls 2 [(0, .ref (ad p0)), (1, .int p1)] := hl
  have hinX9 : ∀ w ∈ wsX90, w ∈ wsX9_addKeeper := by decide +kernel
  have w_0 := hts (.fieldLink RX9 21 "MailSpool$Store" "keepers" "[I") (by decide +kernel)
  have w_1 := va_Nw.use (A := (List.toArray [.ref (ad p0), .int p1])) rfl (hGs.1 (.methodLinkNest RX9 48 yX10_at "MailSpool") (by decide +kernel))
  have w_2 := hts (.initialized RX10) (by decide +kernel)
  have w_3 := hts (.static yX10_at) (by decide +kernel)
  have w_4 := va_Nw.use (A := (List.toArray [.ref (ad p0), .int p1])) rfl (hGs.1 (.methodLinkNest RX9 93 yX10_put "MailSpool") (by decide +kernel))
  have w_5 := hts (.static yX10_put) (by decide +kernel)
  have w_6 := hts (.fieldLink RX9 24 "MailSpool$Store" "deadSince" "[I") (by decide +kernel)
  have w_7 := hts (.fieldLink RX9 41 "MailSpool$Store" "dead" "I") (by decide +kernel)
  have hGE := hGs.2.2.2.1
  have hGM := hGs.2.2.2.2
  unfold f_X9_addKeeper at hf
  refine lv_aload_n hx hb dX9_addKeeper_0 rfl (lv_at hl 0 rfl) ?_
  replace hf := obE hf
  obtain ⟨j1, qj1, hf⟩ := hf
  have tj1 := x_rt hW qj1 12 ⟨by decide, rfl⟩
  refine x_getr 805 (ci := 8) (C := RX9) (T := TX9) (N := 8) 5 hC hinX9 hW tp0 rfl rfl ⟨by decide, by decide, rfl, rfl⟩ rfl w_0 dX9_addKeeper_1 qj1 ?_
  refine lv_iload_n hx hb dX9_addKeeper_4 rfl (lv_at hl 1 rfl) ?_
  refine lv_aload_n hx hb dX9_addKeeper_5 rfl (lv_at hl 0 rfl) ?_
  replace hf := obE hf
  obtain ⟨j2, qj2, hf⟩ := hf
  have tj2 := x_rt hW qj2 12 ⟨by decide, rfl⟩
  refine x_getr 805 (ci := 8) (C := RX9) (T := TX9) (N := 8) 5 hC hinX9 hW tp0 rfl rfl ⟨by decide, by decide, rfl, rfl⟩ rfl w_0 dX9_addKeeper_6 qj2 ?_
  refine lv_iload_n hx hb dX9_addKeeper_9 rfl (lv_at hl 1 rfl) ?_
  replace hf := obE hf
  obtain ⟨z3, hz3, hf⟩ := hf
  obtain ⟨r5, S4⟩ := z3
  replace hf := ltE (ltE hf r5 rfl) S4 rfl
  refine x_callSN (As := [.ref (ad j2), .int p1]) (rest := [.int p1, .ref (ad j1)]) (o := (some (.int r5))) (S1 := S4) hC hl.1 hW hS hGs hA (c_X10_at l g ad n K s.heap.size F S0 j2 p1 tj2 r5 S4 hz3) ⟨va_cnB 2 hts gX9_addKeeper_X10_at_n48 rfl rfl rfl (va_Nw.of rfl w_1) w_2 (by decide +kernel) ⟨Nat.le_of_ble_eq_true rfl, Nat.le_of_ble_eq_true rfl⟩, w_3, trivial⟩ rfl rfl (Nat.le_of_ble_eq_true rfl) dX9_addKeeper_10 ⟨Nat.le_of_ble_eq_true rfl, Nat.le_of_ble_eq_true rfl⟩ (fun H locs hPz3 hW hS => ?_)
  refine W.eq (g2 := F0 m 13 ls [.int r5, .int p1, .ref (ad j1)]) rfl ?_
  refine lv_iconst (v := 1) hx hb dX9_addKeeper_13 (by decide) ?_
  refine lv_iadd hx hb dX9_addKeeper_14 ?_
  replace hf := obE hf
  obtain ⟨S8, hz7, hf⟩ := hf
  refine x_callSN (As := [.ref (ad j1), .int p1, .int (r5 + 1)]) (rest := []) (o := none) (S1 := S8) hC hl.1 hW hS hGs hA (c_X10_put l g ad n K H.size F S4 j1 p1 (r5 + 1) tj1 S8 hz7) ⟨va_cnB 3 hts gX9_addKeeper_X10_put_n93 rfl rfl rfl (va_Nw.of rfl w_4) w_2 (by decide +kernel) ⟨Nat.le_of_ble_eq_true rfl, Nat.le_of_ble_eq_true rfl⟩, w_5, trivial⟩ rfl rfl (Nat.le_of_ble_eq_true rfl) dX9_addKeeper_15 ⟨Nat.le_of_ble_eq_true rfl, Nat.le_of_ble_eq_true rfl⟩ (fun H locs hPz7 hW hS => ?_)
  refine W.eq (g2 := F0 m 18 ls []) rfl ?_
  refine lv_aload_n hx hb dX9_addKeeper_18 rfl (lv_at hl 0 rfl) ?_
  refine lv_iload_n hx hb dX9_addKeeper_19 rfl (lv_at hl 1 rfl) ?_
  replace hf := obE hf
  obtain ⟨z11, hz11, hf⟩ := hf
  obtain ⟨r13, S12⟩ := z11
  replace hf := ltE (ltE hf r13 rfl) S12 rfl
  refine x_callV (As := [.int p1]) (rest := []) (o := (some (.int r13))) (S1 := S12) hC hl.1 hW hS hGs hA tp0 rfl (show vwCl[8]? = some (RX9, TX9, 8) ∧ ob 8 from ⟨rfl, by decide⟩) (c_X9_isDead l g ad n K H.size F S8 p0 p1 tp0 r13 S12 hz11) (cwV 1 hts gX9_addKeeper_X9_isDead rfl rfl rfl (by decide +kernel) ⟨Nat.le_of_ble_eq_true rfl, Nat.le_of_ble_eq_true rfl⟩) rfl rfl (Nat.le_of_ble_eq_true rfl) dX9_addKeeper_20 ⟨Nat.le_of_ble_eq_true rfl, Nat.le_of_ble_eq_true rfl⟩ (fun H locs hPz11 hW hS => ?_)
  refine W.eq (g2 := F0 m 23 ls [.int r13]) rfl ?_
  refine lv_if_ne (tgt := 28) hx hb dX9_addKeeper_23 (by decide) (fun c15 => ?_) (fun c15 => ?_)
  · replace hf := ifT c15 hf
    refine lv_aload_n hx hb dX9_addKeeper_28 rfl (lv_at hl 0 rfl) ?_
    replace hf := obE hf
    obtain ⟨j16, qj16, hf⟩ := hf
    have tj16 := x_rt hW qj16 12 ⟨by decide, rfl⟩
    refine x_getr 806 (ci := 8) (C := RX9) (T := TX9) (N := 8) 6 hC hinX9 hW tp0 rfl rfl ⟨by decide, by decide, rfl, rfl⟩ rfl w_6 dX9_addKeeper_29 qj16 ?_
    refine lv_iload_n hx hb dX9_addKeeper_32 rfl (lv_at hl 1 rfl) ?_
    refine lv_iconst (v := -1) hx hb dX9_addKeeper_33 (by decide) ?_
    replace hf := obE hf
    obtain ⟨S18, hz17, hf⟩ := hf
    refine x_callSN (As := [.ref (ad j16), .int p1, .int ((-1))]) (rest := []) (o := none) (S1 := S18) hC hl.1 hW hS hGs hA (c_X10_put l g ad n K H.size F S12 j16 p1 (((-1) : Int32)) tj16 S18 hz17) ⟨va_cnB 3 hts gX9_addKeeper_X10_put_n93 rfl rfl rfl (va_Nw.of rfl w_4) w_2 (by decide +kernel) ⟨Nat.le_of_ble_eq_true rfl, Nat.le_of_ble_eq_true rfl⟩, w_5, trivial⟩ rfl rfl (Nat.le_of_ble_eq_true rfl) dX9_addKeeper_34 ⟨Nat.le_of_ble_eq_true rfl, Nat.le_of_ble_eq_true rfl⟩ (fun H locs hPz17 hW hS => ?_)
    refine W.eq (g2 := F0 m 37 ls []) rfl ?_
    refine lv_aload_n hx hb dX9_addKeeper_37 rfl (lv_at hl 0 rfl) ?_
    refine lv_dup hx hb dX9_addKeeper_38 rfl ?_
    refine x_geti 802 (ci := 8) (C := RX9) (T := TX9) (N := 8) 2 hC hinX9 hW tp0 rfl rfl ⟨by decide, by decide, rfl, rfl⟩ rfl w_7 dX9_addKeeper_39 ?_
    refine lv_iconst (v := 1) hx hb dX9_addKeeper_42 (by decide) ?_
    refine lv_isub hx hb dX9_addKeeper_43 ?_
    refine x_puti 802 (ci := 8) (C := RX9) (T := TX9) (N := 8) (v := (si S18 802 p0) - 1) (ty := .int) 2 hC hinX9 tyX9_ok nmX9 hW hS tp0 rfl rfl ⟨by decide, by decide, rfl, rfl⟩ rfl w_7 rfl (by decide +kernel) rfl rfl dX9_addKeeper_44 (fun S21 H locs eS21 hW hS => ?_)
    replace hf := ltE hf S21 eS21
    refine lv_iconst (v := 1) hx hb dX9_addKeeper_47 (by decide) ?_
    obtain ⟨e1, e2⟩ := so2 hf
    subst e1
    subst e2
    exact W.zret (v := 1) hx hb hr rfl (fun t ht hWm => ⟨⟨rfl, by unfold QB; rw [ht]; exact ⟨hW, trivial⟩⟩, hS.F ht⟩) hS.2.2 dX9_addKeeper_48 hlk
  · replace hf := ifF (fun q => q c15) hf
    refine lv_iconst (v := 0) hx hb dX9_addKeeper_26 (by decide) ?_
    obtain ⟨e1, e2⟩ := so2 hf
    subst e1
    subst e2
    exact W.zret (v := 0) hx hb hr rfl (fun t ht hWm => ⟨⟨rfl, by unfold QB; rw [ht]; exact ⟨hW, trivial⟩⟩, hS.F ht⟩) hS.2.2 dX9_addKeeper_27 hlk
set_option maxHeartbeats 4000000 in
set_option maxRecDepth 100000 in
theorem c_X7_wordOfHold (l : Launch) (g : GP) (ad : Nat → Nat) (n : Nat) (K : Nat → Nat) (sz F : Nat) (S0 : St) (p0 : Nat) (p1 : Int32) (tp0 : p0 < n ∧ K p0 = 6) (r9 : Int64) (S9 : St) (hf : f_X7_wordOfHold F S0 p0 p1 = some (r9, S9)) : Met l yX7_wordOfHold wsX7_wordOfHold { frames := 0, cells := 0, slots := 0, locals := 0 } (va_Pc [.ref (ad p0), .int p1] (PB g ad n K S0 sz)) (QR (some (.long r9)) (QB g ad n K S9 (dA ad n sz) (True)) (dA ad n sz)) 0 0 (dA ad n sz) := by
  refine Met.ofW (cc := cX7_wordOfHold) (maxL := 2) (ret := (some .long)) (by decide) rfl ?_
  intro p e s m args below meth c s₁ B hml hv
  obtain ⟨rfl, hsz, hW, hK, hGs⟩ := x_start hv
  subst hsz
  have hx := B.exec
  have hb := B.bytes
  have hr := B.returns
  have hts := atoms_spec (ws := wsX7_wordOfHold) B.pre
  have hown : s.vm.findClass RX7 = some m.cls := findClass_of_methodNamed B.named
  have hlk := B.notSynchronized
  have hC : Cx g p s m _ c cX7_wordOfHold RX7 wsX7_wordOfHold 2 := ⟨hx, hb, hml, hown, hts, hK⟩
  have hA : ∀ q : Nat, s.heap.size ≤ q → dA ad n s.heap.size q := fun q h => Or.inr h
  have hS : va_S (dA ad n s.heap.size) s.heap s.heap [] := va_S.rf
  have hl := lv_entry ([.ref (ad p0), .int p1]) (n := 2) (Nat.le_of_ble_eq_true rfl)
  rw [lg_entry_eq]
  generalize (lg_sl ([.ref (ad p0), .int p1]) ++ List.replicate (2 - (lg_sl ([.ref (ad p0), .int p1])).length) Slot.unset).toArray = ls at hl ⊢
  have hl : lv_has ls 2 [(0, .ref (ad p0)), (1, .int p1)] := hl
  have hinX7 : ∀ w ∈ wsX70, w ∈ wsX7_wordOfHold := by decide +kernel
  have w_0 := hts (.fieldLink RX7 61 "MailSpool$Rules" "holdWord" "[J") (by decide +kernel)
  have hGE := hGs.2.2.2.1
  have hGM := hGs.2.2.2.2
  unfold f_X7_wordOfHold at hf
  refine lv_iload_n hx hb dX7_wordOfHold_0 rfl (lv_at hl 1 rfl) ?_
  refine lv_if_lt (tgt := 22) hx hb dX7_wordOfHold_1 (by decide) (fun c1 => ?_) (fun c1 => ?_)
  · replace hf := ifT c1 hf
    refine lv_lconst (v := 0) hx hb dX7_wordOfHold_22 (by decide) ?_
    obtain ⟨e1, e2⟩ := so2 hf
    subst e1
    subst e2
    exact W.lret (v := 0) hx hb hr (fun t ht hWm => ⟨⟨rfl, by unfold QB; rw [ht]; exact ⟨hW, trivial⟩⟩, hS.F ht⟩) hS.2.2 dX7_wordOfHold_23 hlk
  · replace hf := ifF c1 hf
    refine lv_iload_n hx hb dX7_wordOfHold_4 rfl (lv_at hl 1 rfl) ?_
    refine lv_aload_n hx hb dX7_wordOfHold_5 rfl (lv_at hl 0 rfl) ?_
    replace hf := obE hf
    obtain ⟨j2, qj2, hf⟩ := hf
    have tj2 := x_rt hW qj2 13 ⟨by decide, rfl⟩
    refine x_getr 615 (ci := 6) (C := RX7) (T := TX7) (N := 16) 15 hC hinX7 hW tp0 rfl rfl ⟨by decide, by decide, rfl, rfl⟩ rfl w_0 dX7_wordOfHold_6 qj2 ?_
    refine x_alen hC hW tj2 rfl ⟨by decide, by decide⟩ dX7_wordOfHold_9 ?_
    refine lv_icmp_ge (tgt := 22) hx hb dX7_wordOfHold_10 (by decide) (fun c3 => ?_) (fun c3 => ?_)
    · replace hf := ifT c3 hf
      refine lv_lconst (v := 0) hx hb dX7_wordOfHold_22 (by decide) ?_
      obtain ⟨e1, e2⟩ := so2 hf
      subst e1
      subst e2
      exact W.lret (v := 0) hx hb hr (fun t ht hWm => ⟨⟨rfl, by unfold QB; rw [ht]; exact ⟨hW, trivial⟩⟩, hS.F ht⟩) hS.2.2 dX7_wordOfHold_23 hlk
    · replace hf := ifF c3 hf
      refine lv_aload_n hx hb dX7_wordOfHold_13 rfl (lv_at hl 0 rfl) ?_
      replace hf := obE hf
      obtain ⟨j4, qj4, hf⟩ := hf
      have tj4 := x_rt hW qj4 13 ⟨by decide, rfl⟩
      refine x_getr 615 (ci := 6) (C := RX7) (T := TX7) (N := 16) 15 hC hinX7 hW tp0 rfl rfl ⟨by decide, by decide, rfl, rfl⟩ rfl w_0 dX7_wordOfHold_14 qj4 ?_
      refine lv_iload_n hx hb dX7_wordOfHold_17 rfl (lv_at hl 1 rfl) ?_
      replace hf := ckiE hf
      obtain ⟨h5, hf⟩ := hf
      refine x_lald hC hW tj4 rfl rfl h5 dX7_wordOfHold_18 ?_
      refine lv_goto (tgt := 23) hx hb dX7_wordOfHold_19 (by decide) ?_
      obtain ⟨e1, e2⟩ := so2 hf
      subst e1
      subst e2
      exact W.lret (v := al S0 j4 (Int32.toNatClampNeg p1)) hx hb hr (fun t ht hWm => ⟨⟨rfl, by unfold QB; rw [ht]; exact ⟨hW, trivial⟩⟩, hS.F ht⟩) hS.2.2 dX7_wordOfHold_23 hlk
set_option maxHeartbeats 4000000 in
set_option maxRecDepth 100000 in
theorem c_X0_hasWord (l : Launch) (g : GP) (ad : Nat → Nat) (n : Nat) (K : Nat → Nat) (sz F : Nat) (S0 : St) (p0 : Nat) (p1 : Int64) (tp0 : p0 < n ∧ K p0 = 0) (r9 : Int32) (S9 : St) (hf : f_X0_hasWord F S0 p0 p1 = some (r9, S9)) : Met l yX0_hasWord wsX0_hasWord { frames := 1, cells := 0, slots := 0, locals := 22 } (va_Pc [.ref (ad p0), .long (p1)] (PB g ad n K S0 sz)) (QR (some (.int r9)) (QB g ad n K S9 (dA ad n sz) (True)) (dA ad n sz)) 0 0 (dA ad n sz) := by
  refine Met.ofW (cc := cX0_hasWord) (maxL := 7) (ret := (some .boolean)) (by decide) rfl ?_
  intro p e s m args below meth c s₁ B hml hv
  obtain ⟨rfl, hsz, hW, hK, hGs⟩ := x_start hv
  subst hsz
  have hx := B.exec
  have hb := B.bytes
  have hr := B.returns
  have hts := atoms_spec (ws := wsX0_hasWord) B.pre
  have hown : s.vm.findClass RX0 = some m.cls := findClass_of_methodNamed B.named
  have hlk := B.notSynchronized
  have hC : Cx g p s m _ c cX0_hasWord RX0 wsX0_hasWord 7 := ⟨hx, hb, hml, hown, hts, hK⟩
  have hA : ∀ q : Nat, s.heap.size ≤ q → dA ad n s.heap.size q := fun q h => Or.inr h
  have hS : va_S (dA ad n s.heap.size) s.heap s.heap [] := va_S.rf
  have hl := lv_entry ([.ref (ad p0), .long (p1)]) (n := 7) (Nat.le_of_ble_eq_true rfl)
  rw [lg_entry_eq]
  generalize (lg_sl ([.ref (ad p0), .long (p1)]) ++ List.replicate (7 - (lg_sl ([.ref (ad p0), .long (p1)])).length) Slot.unset).toArray = ls at hl ⊢
  have hl : lv_has ls 7 [(0, .ref (ad p0)), (1, .long (p1))] := hl
  have hinX0 : ∀ w ∈ wsX00, w ∈ wsX0_hasWord := by decide +kernel
  have w_0 := hts (.fieldLink RX0 21 "MailSpool$Bytes" "size" "I") (by decide +kernel)
  have w_1 := va_Nw.use (A := (List.toArray [.ref (ad p0), .long (p1)])) rfl (hGs.1 (.methodLinkNest RX0 37 yX10_isLetter "MailSpool") (by decide +kernel))
  have w_2 := hts (.initialized RX10) (by decide +kernel)
  have w_3 := hts (.static yX10_isLetter) (by decide +kernel)
  have w_4 := va_Nw.use (A := (List.toArray [.ref (ad p0), .long (p1)])) rfl (hGs.1 (.methodLinkNest RX0 41 yX10_withLetter "MailSpool") (by decide +kernel))
  have w_5 := hts (.static yX10_withLetter) (by decide +kernel)
  have hGE := hGs.2.2.2.1
  have hGM := hGs.2.2.2.2
  have L5 : ∀ (fu5 : Nat) (S0 : St) (v0 : Nat) (v1 : Int64) (v3 : Int64) (v5 : Int32) (tv0 : v0 < n ∧ K v0 = 0) (H : Heap) (locs : List Loc) (ls : Array Slot), f_X0_hasWord_L5 F fu5 S0 v0 v1 v3 v5 = some (r9, S9) → Wb g ad n K S0 (dA ad n s.heap.size) H → va_S (dA ad n s.heap.size) s.heap H locs → lv_has ls 7 [(0, .ref (ad v0)), (1, .long (v1)), (3, .long (v3)), (5, .int v5)] → W p l e (headSpec wsX0_hasWord { frames := 1, cells := 0, slots := 0, locals := 22 }).room s m (List.toArray [.ref (ad p0), .long (p1)]) below meth c H locs 0 0 (MQ below (QR (some (.int r9)) (QB g ad n K S9 (dA ad n s.heap.size) (True)) (dA ad n s.heap.size)) (List.toArray [.ref (ad p0), .long (p1)]) s 0 0 (dA ad n s.heap.size)) (F0 m 5 ls []) := by
    intro fu5
    induction fu5 with
    | zero =>
      intro S0 v0 v1 v3 v5 tv0 H locs ls hf
      cases hf
    | succ fu5 ih5 =>
      have L50 : ∀ (S0 : St) (v0 : Nat) (v1 : Int64) (v3 : Int64) (v5 : Int32) (tv0 : v0 < n ∧ K v0 = 0) (H : Heap) (locs : List Loc) (ls : Array Slot), f_X0_hasWord_L50 F (fun a0 a1 a2 a3 a4 => f_X0_hasWord_L5 F fu5 a0 a1 a2 a3 a4) S0 v0 v1 v3 v5 = some (r9, S9) → Wb g ad n K S0 (dA ad n s.heap.size) H → va_S (dA ad n s.heap.size) s.heap H locs → lv_has ls 7 [(0, .ref (ad v0)), (1, .long (v1)), (3, .long (v3)), (5, .int v5)] → W p l e (headSpec wsX0_hasWord { frames := 1, cells := 0, slots := 0, locals := 22 }).room s m (List.toArray [.ref (ad p0), .long (p1)]) below meth c H locs 0 0 (MQ below (QR (some (.int r9)) (QB g ad n K S9 (dA ad n s.heap.size) (True)) (dA ad n s.heap.size)) (List.toArray [.ref (ad p0), .long (p1)]) s 0 0 (dA ad n s.heap.size)) (F0 m 50 ls []) := by
        intro S0 v0 v1 v3 v5 tv0 H locs ls hf hW hS hl
        unfold f_X0_hasWord_L50 at hf
        obtain ⟨x2, ex2⟩ : ∃ z : Int32, z = v5 + 1 := ⟨_, rfl⟩
        replace hf := ltE hf x2 ex2
        refine lv_iinc (v := x2) (lv' := [(5, .int x2), (0, .ref (ad v0)), (1, .long (v1)), (3, .long (v3))]) hx hb dX0_hasWord_50 hl (k := 3) rfl (by rw [ex2]; rfl) (by decide) rfl (fun ls hl => ?_)
        refine lv_goto (tgt := 5) hx hb dX0_hasWord_53 (by decide) ?_
        exact ih5 S0 v0 v1 v3 x2 tv0 _ _ _ hf hW hS (lv_sub hl [1, 2, 3, 0] rfl)
      intro S0 v0 v1 v3 v5 tv0 H locs ls hf hW hS hl
      unfold f_X0_hasWord_L5 at hf
      refine lv_iload hx hb dX0_hasWord_5 (lv_at hl 3 rfl) ?_
      refine lv_aload_n hx hb dX0_hasWord_7 rfl (lv_at hl 0 rfl) ?_
      refine x_geti 1 (ci := 0) (C := RX0) (T := TX0) (N := 2) 1 hC hinX0 hW tv0 rfl rfl ⟨by decide, by decide, rfl, rfl⟩ rfl w_0 dX0_hasWord_8 ?_
      refine lv_icmp_ge (tgt := 56) hx hb dX0_hasWord_11 (by decide) (fun c19 => ?_) (fun c19 => ?_)
      · replace hf := ifT c19 hf
        refine lv_lload_n hx hb dX0_hasWord_56 rfl (lv_at hl 2 rfl) ?_
        refine lv_lload_n hx hb dX0_hasWord_57 rfl (lv_at hl 1 rfl) ?_
        refine W.lcmp hx hb dX0_hasWord_58 ?_
        refine lv_if_ne (tgt := 66) hx hb dX0_hasWord_59 (by decide) (fun c20 => ?_) (fun c20 => ?_)
        · replace hf := ifT c20 hf
          refine lv_iconst (v := 0) hx hb dX0_hasWord_66 (by decide) ?_
          obtain ⟨e1, e2⟩ := so2 hf
          subst e1
          subst e2
          exact W.zret (v := 0) hx hb hr rfl (fun t ht hWm => ⟨⟨rfl, by unfold QB; rw [ht]; exact ⟨hW, trivial⟩⟩, hS.F ht⟩) hS.2.2 dX0_hasWord_67 hlk
        · replace hf := ifF (fun q => q c20) hf
          refine lv_iconst (v := 1) hx hb dX0_hasWord_62 (by decide) ?_
          refine lv_goto (tgt := 67) hx hb dX0_hasWord_63 (by decide) ?_
          obtain ⟨e1, e2⟩ := so2 hf
          subst e1
          subst e2
          exact W.zret (v := 1) hx hb hr rfl (fun t ht hWm => ⟨⟨rfl, by unfold QB; rw [ht]; exact ⟨hW, trivial⟩⟩, hS.F ht⟩) hS.2.2 dX0_hasWord_67 hlk
      · replace hf := ifF c19 hf
        refine lv_aload_n hx hb dX0_hasWord_14 rfl (lv_at hl 0 rfl) ?_
        refine lv_iload hx hb dX0_hasWord_15 (lv_at hl 3 rfl) ?_
        replace hf := obE hf
        obtain ⟨z21, hz21, hf⟩ := hf
        obtain ⟨r23, S22⟩ := z21
        replace hf := ltE (ltE hf r23 rfl) S22 rfl
        refine x_callV (As := [.int v5]) (rest := []) (o := (some (.int r23))) (S1 := S22) hC hl.1 hW hS hGs hA tv0 rfl (show vwCl[0]? = some (RX0, TX0, 2) ∧ ob 0 from ⟨rfl, by decide⟩) (c_X0_byteAt l g ad n K H.size F S0 v0 v5 tv0 r23 S22 hz21) (cwV 1 hts gX0_hasWord_X0_byteAt rfl rfl rfl (by decide +kernel) ⟨Nat.le_of_ble_eq_true rfl, Nat.le_of_ble_eq_true rfl⟩) rfl rfl (Nat.le_of_ble_eq_true rfl) dX0_hasWord_17 ⟨Nat.le_of_ble_eq_true rfl, Nat.le_of_ble_eq_true rfl⟩ (fun H locs hPz21 hW hS => ?_)
        refine W.eq (g2 := F0 m 20 ls [.int r23]) rfl ?_
        refine lv_istore (lv' := [(6, .int r23), (0, .ref (ad v0)), (1, .long (v1)), (3, .long (v3)), (5, .int v5)]) hx hb dX0_hasWord_20 hl (by decide) rfl (fun ls hl => ?_)
        refine lv_iload hx hb dX0_hasWord_22 (lv_at hl 0 rfl) ?_
        replace hf := obE hf
        obtain ⟨z25, hz25, hf⟩ := hf
        obtain ⟨r27, S26⟩ := z25
        replace hf := ltE (ltE hf r27 rfl) S26 rfl
        refine x_callSN (As := [.int r23]) (rest := []) (o := (some (.int r27))) (S1 := S26) hC hl.1 hW hS hGs hA (c_X10_isLetter l g ad n K H.size F S22 r23 r27 S26 hz25) ⟨va_cnB 1 hts gX0_hasWord_X10_isLetter_n37 rfl rfl rfl (va_Nw.of rfl w_1) w_2 (by decide +kernel) ⟨Nat.le_of_ble_eq_true rfl, Nat.le_of_ble_eq_true rfl⟩, w_3, trivial⟩ rfl rfl (Nat.le_of_ble_eq_true rfl) dX0_hasWord_24 ⟨Nat.le_of_ble_eq_true rfl, Nat.le_of_ble_eq_true rfl⟩ (fun H locs hPz25 hW hS => ?_)
        refine W.eq (g2 := F0 m 27 ls [.int r27]) rfl ?_
        refine lv_if_eq (tgt := 40) hx hb dX0_hasWord_27 (by decide) (fun c29 => ?_) (fun c29 => ?_)
        · replace hf := ifT c29 hf
          refine lv_lload_n hx hb dX0_hasWord_40 rfl (lv_at hl 3 rfl) ?_
          refine lv_lload_n hx hb dX0_hasWord_41 rfl (lv_at hl 2 rfl) ?_
          refine W.lcmp hx hb dX0_hasWord_42 ?_
          refine lv_if_ne (tgt := 48) hx hb dX0_hasWord_43 (by decide) (fun c30 => ?_) (fun c30 => ?_)
          · replace hf := ifT c30 hf
            refine lv_lconst (v := 0) hx hb dX0_hasWord_48 (by decide) ?_
            refine lv_lstore_n (lv' := [(3, .long (0)), (6, .int r23), (0, .ref (ad v0)), (1, .long (v1)), (5, .int v5)]) hx hb dX0_hasWord_49 rfl hl (by decide) rfl (fun ls hl => ?_)
            exact L50 S26 v0 v1 0 v5 tv0 _ _ _ hf hW hS (lv_sub hl [2, 3, 0, 4] rfl)
          · replace hf := ifF (fun q => q c30) hf
            refine lv_iconst (v := 1) hx hb dX0_hasWord_46 (by decide) ?_
            obtain ⟨e1, e2⟩ := so2 hf
            subst e1
            subst e2
            exact W.zret (v := 1) hx hb hr rfl (fun t ht hWm => ⟨⟨rfl, by unfold QB; rw [ht]; exact ⟨hW, trivial⟩⟩, hS.F ht⟩) hS.2.2 dX0_hasWord_47 hlk
        · replace hf := ifF c29 hf
          refine lv_lload_n hx hb dX0_hasWord_30 rfl (lv_at hl 3 rfl) ?_
          refine lv_iload hx hb dX0_hasWord_31 (lv_at hl 0 rfl) ?_
          replace hf := obE hf
          obtain ⟨z31, hz31, hf⟩ := hf
          obtain ⟨r33, S32⟩ := z31
          replace hf := ltE (ltE hf r33 rfl) S32 rfl
          refine x_callSN (As := [.long (v3), .int r23]) (rest := []) (o := (some (.long (r33)))) (S1 := S32) hC hl.1 hW hS hGs hA (c_X10_withLetter l g ad n K H.size F S26 v3 r23 r33 S32 hz31) ⟨va_cnB 2 hts gX0_hasWord_X10_withLetter_n41 rfl rfl rfl (va_Nw.of rfl w_4) w_2 (by decide +kernel) ⟨Nat.le_of_ble_eq_true rfl, Nat.le_of_ble_eq_true rfl⟩, w_5, trivial⟩ rfl rfl (Nat.le_of_ble_eq_true rfl) dX0_hasWord_33 ⟨Nat.le_of_ble_eq_true rfl, Nat.le_of_ble_eq_true rfl⟩ (fun H locs hPz31 hW hS => ?_)
          refine W.eq (g2 := F0 m 36 ls [.long (r33)]) rfl ?_
          refine lv_lstore_n (lv' := [(3, .long (r33)), (6, .int r23), (0, .ref (ad v0)), (1, .long (v1)), (5, .int v5)]) hx hb dX0_hasWord_36 rfl hl (by decide) rfl (fun ls hl => ?_)
          refine lv_goto (tgt := 50) hx hb dX0_hasWord_37 (by decide) ?_
          exact L50 S32 v0 v1 r33 v5 tv0 _ _ _ hf hW hS (lv_sub hl [2, 3, 0, 4] rfl)
  unfold f_X0_hasWord at hf
  refine lv_lconst (v := 0) hx hb dX0_hasWord_0 (by decide) ?_
  refine lv_lstore_n (lv' := [(3, .long (0)), (0, .ref (ad p0)), (1, .long (p1))]) hx hb dX0_hasWord_1 rfl hl (by decide) rfl (fun ls hl => ?_)
  refine lv_iconst (v := 0) hx hb dX0_hasWord_2 (by decide) ?_
  refine lv_istore (lv' := [(5, .int 0), (3, .long (0)), (0, .ref (ad p0)), (1, .long (p1))]) hx hb dX0_hasWord_3 hl (by decide) rfl (fun ls hl => ?_)
  exact L5 F S0 p0 p1 0 0 tp0 _ _ _ hf hW hS (lv_sub hl [2, 3, 1, 0] rfl)
set_option maxHeartbeats 4000000 in
set_option maxRecDepth 100000 in
theorem c_X8_hasWord (l : Launch) (g : GP) (ad : Nat → Nat) (n : Nat) (K : Nat → Nat) (sz F : Nat) (S0 : St) (p0 : Nat) (p1 : Int32) (p2 : Int64) (tp0 : p0 < n ∧ K p0 = 7) (r9 : Int32) (S9 : St) (hf : f_X8_hasWord F S0 p0 p1 p2 = some (r9, S9)) : Met l yX8_hasWord wsX8_hasWord { frames := 2, cells := 0, slots := 0, locals := 48 } (va_Pc [.ref (ad p0), .int p1, .long (p2)] (PB g ad n K S0 sz)) (QR (some (.int r9)) (QB g ad n K S9 (dA ad n sz) (True)) (dA ad n sz)) 0 0 (dA ad n sz) := by
  refine Met.ofW (cc := cX8_hasWord) (maxL := 8) (ret := (some .boolean)) (by decide) rfl ?_
  intro p e s m args below meth c s₁ B hml hv
  obtain ⟨rfl, hsz, hW, hK, hGs⟩ := x_start hv
  subst hsz
  have hx := B.exec
  have hb := B.bytes
  have hr := B.returns
  have hts := atoms_spec (ws := wsX8_hasWord) B.pre
  have hown : s.vm.findClass RX8 = some m.cls := findClass_of_methodNamed B.named
  have hlk := B.notSynchronized
  have hC : Cx g p s m _ c cX8_hasWord RX8 wsX8_hasWord 8 := ⟨hx, hb, hml, hown, hts, hK⟩
  have hA : ∀ q : Nat, s.heap.size ≤ q → dA ad n s.heap.size q := fun q h => Or.inr h
  have hS : va_S (dA ad n s.heap.size) s.heap s.heap [] := va_S.rf
  have hl := lv_entry ([.ref (ad p0), .int p1, .long (p2)]) (n := 8) (Nat.le_of_ble_eq_true rfl)
  rw [lg_entry_eq]
  generalize (lg_sl ([.ref (ad p0), .int p1, .long (p2)]) ++ List.replicate (8 - (lg_sl ([.ref (ad p0), .int p1, .long (p2)])).length) Slot.unset).toArray = ls at hl ⊢
  have hl : lv_has ls 8 [(0, .ref (ad p0)), (1, .int p1), (2, .long (p2))] := hl
  have hinX4 : ∀ w ∈ wsX40, w ∈ wsX8_hasWord := by decide +kernel
  have hinX8 : ∀ w ∈ wsX80, w ∈ wsX8_hasWord := by decide +kernel
  have w_0 := hts (.fieldLink RX8 37 "MailSpool$Spool" "store" "LMailSpool$Store;") (by decide +kernel)
  have w_1 := va_Nw.use (A := (List.toArray [.ref (ad p0), .int p1, .long (p2)])) rfl (hGs.1 (.fieldLinkNest RX8 156 "MailSpool$Message" "parts" "[I" "MailSpool") (by decide +kernel))
  have hGE := hGs.2.2.2.1
  have hGM := hGs.2.2.2.2
  have L18 : ∀ (fu18 : Nat) (S0 : St) (v0 : Nat) (v2 : Int64) (v4 : Nat) (v5 : Int32) (v6 : Int32) (tv0 : v0 < n ∧ K v0 = 7) (tv4 : v4 < n ∧ K v4 = 12) (H : Heap) (locs : List Loc) (ls : Array Slot), f_X8_hasWord_L18 F fu18 S0 v0 v2 v4 v5 v6 = some (r9, S9) → Wb g ad n K S0 (dA ad n s.heap.size) H → va_S (dA ad n s.heap.size) s.heap H locs → lv_has ls 8 [(0, .ref (ad v0)), (2, .long (v2)), (4, .ref (ad v4)), (5, .int v5), (6, .int v6)] → W p l e (headSpec wsX8_hasWord { frames := 2, cells := 0, slots := 0, locals := 48 }).room s m (List.toArray [.ref (ad p0), .int p1, .long (p2)]) below meth c H locs 0 0 (MQ below (QR (some (.int r9)) (QB g ad n K S9 (dA ad n s.heap.size) (True)) (dA ad n s.heap.size)) (List.toArray [.ref (ad p0), .int p1, .long (p2)]) s 0 0 (dA ad n s.heap.size)) (F0 m 18 ls []) := by
    intro fu18
    induction fu18 with
    | zero =>
      intro S0 v0 v2 v4 v5 v6 tv0 tv4 H locs ls hf
      cases hf
    | succ fu18 ih18 =>
      intro S0 v0 v2 v4 v5 v6 tv0 tv4 H locs ls hf hW hS hl
      unfold f_X8_hasWord_L18 at hf
      refine lv_iload hx hb dX8_hasWord_18 (lv_at hl 4 rfl) ?_
      refine lv_iload hx hb dX8_hasWord_20 (lv_at hl 3 rfl) ?_
      refine lv_icmp_ge (tgt := 56) hx hb dX8_hasWord_22 (by decide) (fun c16 => ?_) (fun c16 => ?_)
      · replace hf := ifT c16 hf
        refine lv_iconst (v := 0) hx hb dX8_hasWord_56 (by decide) ?_
        obtain ⟨e1, e2⟩ := so2 hf
        subst e1
        subst e2
        exact W.zret (v := 0) hx hb hr rfl (fun t ht hWm => ⟨⟨rfl, by unfold QB; rw [ht]; exact ⟨hW, trivial⟩⟩, hS.F ht⟩) hS.2.2 dX8_hasWord_57 hlk
      · replace hf := ifF c16 hf
        refine lv_aload hx hb dX8_hasWord_25 (lv_at hl 2 rfl) ?_
        refine lv_iload hx hb dX8_hasWord_27 (lv_at hl 4 rfl) ?_
        replace hf := ckiE hf
        obtain ⟨h17, hf⟩ := hf
        refine x_iald hC hW tv4 rfl rfl h17 dX8_hasWord_29 ?_
        refine lv_topi (fun x18 ex18 => ?_)
        replace hf := ltE hf x18 ex18
        refine lv_istore (lv' := [(7, .int x18), (0, .ref (ad v0)), (2, .long (v2)), (4, .ref (ad v4)), (5, .int v5), (6, .int v6)]) hx hb dX8_hasWord_30 hl (by decide) rfl (fun ls hl => ?_)
        refine lv_aload_n hx hb dX8_hasWord_32 rfl (lv_at hl 1 rfl) ?_
        replace hf := obE hf
        obtain ⟨j19, qj19, hf⟩ := hf
        have tj19 := x_rt hW qj19 8 ⟨by decide, rfl⟩
        refine x_getr 710 (ci := 7) (C := RX8) (T := TX8) (N := 16) 10 hC hinX8 hW tv0 rfl rfl ⟨by decide, by decide, rfl, rfl⟩ rfl w_0 dX8_hasWord_33 qj19 ?_
        refine lv_iload hx hb dX8_hasWord_36 (lv_at hl 0 rfl) ?_
        replace hf := obE hf
        obtain ⟨z20, hz20, hf⟩ := hf
        obtain ⟨r22, S21⟩ := z20
        replace hf := ltE (ltE hf r22 rfl) S21 rfl
        refine x_callV (As := [.int x18]) (rest := []) (o := (some (va_re ad r22))) (S1 := S21) hC hl.1 hW hS hGs hA tj19 rfl (show vwCl[8]? = some (RX9, TX9, 8) ∧ ob 8 from ⟨rfl, by decide⟩) (c_X9_bytesOf l g ad n K H.size F S0 j19 x18 tj19 r22 S21 hz20) (cwV 1 hts gX8_hasWord_X9_bytesOf rfl rfl rfl (by decide +kernel) ⟨Nat.le_of_ble_eq_true rfl, Nat.le_of_ble_eq_true rfl⟩) rfl rfl (Nat.le_of_ble_eq_true rfl) dX8_hasWord_38 ⟨Nat.le_of_ble_eq_true rfl, Nat.le_of_ble_eq_true rfl⟩ (fun H locs hPz20 hW hS => ?_)
        replace hf := obE hf
        obtain ⟨j24, qj24, hf⟩ := hf
        have tj24 := hPz20 j24 qj24
        refine W.eq (g2 := F0 m 41 ls [.ref (ad j24)]) (by rw [qj24]; rfl) ?_
        refine lv_lload_n hx hb dX8_hasWord_41 rfl (lv_at hl 2 rfl) ?_
        replace hf := obE hf
        obtain ⟨z25, hz25, hf⟩ := hf
        obtain ⟨r27, S26⟩ := z25
        replace hf := ltE (ltE hf r27 rfl) S26 rfl
        refine x_callV (As := [.long (v2)]) (rest := []) (o := (some (.int r27))) (S1 := S26) hC hl.1 hW hS hGs hA tj24 rfl (show vwCl[0]? = some (RX0, TX0, 2) ∧ ob 0 from ⟨rfl, by decide⟩) (c_X0_hasWord l g ad n K H.size F S21 j24 v2 tj24 r27 S26 hz25) (cwV 1 hts gX8_hasWord_X0_hasWord rfl rfl rfl (by decide +kernel) ⟨Nat.le_of_ble_eq_true rfl, Nat.le_of_ble_eq_true rfl⟩) rfl rfl (Nat.le_of_ble_eq_true rfl) dX8_hasWord_42 ⟨Nat.le_of_ble_eq_true rfl, Nat.le_of_ble_eq_true rfl⟩ (fun H locs hPz25 hW hS => ?_)
        refine W.eq (g2 := F0 m 45 ls [.int r27]) rfl ?_
        refine lv_if_eq (tgt := 50) hx hb dX8_hasWord_45 (by decide) (fun c29 => ?_) (fun c29 => ?_)
        · replace hf := ifT c29 hf
          obtain ⟨x30, ex30⟩ : ∃ z : Int32, z = v6 + 1 := ⟨_, rfl⟩
          replace hf := ltE hf x30 ex30
          refine lv_iinc (v := x30) (lv' := [(6, .int x30), (7, .int x18), (0, .ref (ad v0)), (2, .long (v2)), (4, .ref (ad v4)), (5, .int v5)]) hx hb dX8_hasWord_50 hl (k := 5) rfl (by rw [ex30]; rfl) (by decide) rfl (fun ls hl => ?_)
          refine lv_goto (tgt := 18) hx hb dX8_hasWord_53 (by decide) ?_
          exact ih18 S26 v0 v2 v4 v5 x30 tv0 tv4 _ _ _ hf hW hS (lv_sub hl [2, 3, 4, 5, 0] rfl)
        · replace hf := ifF c29 hf
          refine lv_iconst (v := 1) hx hb dX8_hasWord_48 (by decide) ?_
          obtain ⟨e1, e2⟩ := so2 hf
          subst e1
          subst e2
          exact W.zret (v := 1) hx hb hr rfl (fun t ht hWm => ⟨⟨rfl, by unfold QB; rw [ht]; exact ⟨hW, trivial⟩⟩, hS.F ht⟩) hS.2.2 dX8_hasWord_49 hlk
  unfold f_X8_hasWord at hf
  refine lv_aload_n hx hb dX8_hasWord_0 rfl (lv_at hl 0 rfl) ?_
  refine lv_iload_n hx hb dX8_hasWord_1 rfl (lv_at hl 1 rfl) ?_
  replace hf := obE hf
  obtain ⟨z31, hz31, hf⟩ := hf
  obtain ⟨r33, S32⟩ := z31
  replace hf := ltE (ltE hf r33 rfl) S32 rfl
  refine x_callV (As := [.int p1]) (rest := []) (o := (some (va_re ad r33))) (S1 := S32) hC hl.1 hW hS hGs hA tp0 rfl (show vwCl[7]? = some (RX8, TX8, 16) ∧ ob 7 from ⟨rfl, by decide⟩) (c_X8_messageAt l g ad n K s.heap.size F S0 p0 p1 tp0 r33 S32 hz31) (cwV 1 hts gX8_hasWord_X8_messageAt rfl rfl rfl (by decide +kernel) ⟨Nat.le_of_ble_eq_true rfl, Nat.le_of_ble_eq_true rfl⟩) rfl rfl (Nat.le_of_ble_eq_true rfl) dX8_hasWord_2 ⟨Nat.le_of_ble_eq_true rfl, Nat.le_of_ble_eq_true rfl⟩ (fun H locs hPz31 hW hS => ?_)
  replace hf := obE hf
  obtain ⟨j35, qj35, hf⟩ := hf
  have tj35 := hPz31 j35 qj35
  refine W.eq (g2 := F0 m 5 ls [.ref (ad j35)]) (by rw [qj35]; rfl) ?_
  replace hf := obE hf
  obtain ⟨j36, qj36, hf⟩ := hf
  have tj36 := x_rt hW qj36 12 ⟨by decide, rfl⟩
  refine x_getrN 303 (ci := 3) (C := RX4) (T := TX4) (N := 5) 3 hC hinX4 hW tj35 rfl rfl ⟨by decide, by decide, rfl, rfl⟩ rfl w_1 dX8_hasWord_5 qj36 ?_
  refine lv_astore (lv' := [(4, .ref (ad j36)), (0, .ref (ad p0)), (1, .int p1), (2, .long (p2))]) hx hb dX8_hasWord_8 hl (by decide) rfl (fun ls hl => ?_)
  refine lv_aload hx hb dX8_hasWord_10 (lv_at hl 0 rfl) ?_
  refine x_alen hC hW tj36 rfl ⟨by decide, by decide⟩ dX8_hasWord_12 ?_
  refine lv_topi (fun x37 ex37 => ?_)
  replace hf := ltE hf x37 ex37
  refine lv_istore (lv' := [(5, .int x37), (4, .ref (ad j36)), (0, .ref (ad p0)), (1, .int p1), (2, .long (p2))]) hx hb dX8_hasWord_13 hl (by decide) rfl (fun ls hl => ?_)
  refine lv_iconst (v := 0) hx hb dX8_hasWord_15 (by decide) ?_
  refine lv_istore (lv' := [(6, .int 0), (5, .int x37), (4, .ref (ad j36)), (0, .ref (ad p0)), (1, .int p1), (2, .long (p2))]) hx hb dX8_hasWord_16 hl (by decide) rfl (fun ls hl => ?_)
  exact L18 F S32 p0 p2 j36 x37 0 tp0 tj36 _ _ _ hf hW hS (lv_sub hl [3, 5, 2, 1, 0] rfl)
set_option maxHeartbeats 4000000 in
set_option maxRecDepth 100000 in
theorem c_X8_holdsAskingFor (l : Launch) (g : GP) (ad : Nat → Nat) (n : Nat) (K : Nat → Nat) (sz F : Nat) (S0 : St) (p0 : Nat) (p1 : Int32) (tp0 : p0 < n ∧ K p0 = 7) (r9 : Int32) (S9 : St) (hf : f_X8_holdsAskingFor F S0 p0 p1 = some (r9, S9)) : Met l yX8_holdsAskingFor wsX8_holdsAskingFor { frames := 3, cells := 0, slots := 0, locals := 75 } (va_Pc [.ref (ad p0), .int p1] (PB g ad n K S0 sz)) (QR (some (.int r9)) (QB g ad n K S9 (dA ad n sz) (True)) (dA ad n sz)) 0 0 (dA ad n sz) := by
  refine Met.ofW (cc := cX8_holdsAskingFor) (maxL := 7) (ret := (some .int)) (by decide) rfl ?_
  intro p e s m args below meth c s₁ B hml hv
  obtain ⟨rfl, hsz, hW, hK, hGs⟩ := x_start hv
  subst hsz
  have hx := B.exec
  have hb := B.bytes
  have hr := B.returns
  have hts := atoms_spec (ws := wsX8_holdsAskingFor) B.pre
  have hown : s.vm.findClass RX8 = some m.cls := findClass_of_methodNamed B.named
  have hlk := B.notSynchronized
  have hC : Cx g p s m _ c cX8_holdsAskingFor RX8 wsX8_holdsAskingFor 7 := ⟨hx, hb, hml, hown, hts, hK⟩
  have hA : ∀ q : Nat, s.heap.size ≤ q → dA ad n s.heap.size q := fun q h => Or.inr h
  have hS : va_S (dA ad n s.heap.size) s.heap s.heap [] := va_S.rf
  have hl := lv_entry ([.ref (ad p0), .int p1]) (n := 7) (Nat.le_of_ble_eq_true rfl)
  rw [lg_entry_eq]
  generalize (lg_sl ([.ref (ad p0), .int p1]) ++ List.replicate (7 - (lg_sl ([.ref (ad p0), .int p1])).length) Slot.unset).toArray = ls at hl ⊢
  have hl : lv_has ls 7 [(0, .ref (ad p0)), (1, .int p1)] := hl
  have hinX5 : ∀ w ∈ wsX50, w ∈ wsX8_holdsAskingFor := by decide +kernel
  have hinX7 : ∀ w ∈ wsX70, w ∈ wsX8_holdsAskingFor := by decide +kernel
  have hinX8 : ∀ w ∈ wsX80, w ∈ wsX8_holdsAskingFor := by decide +kernel
  have w_0 := hts (.fieldLink RX8 9 "MailSpool$Spool" "rules" "LMailSpool$Rules;") (by decide +kernel)
  have w_1 := va_Nw.use (A := (List.toArray [.ref (ad p0), .int p1])) rfl (hGs.1 (.fieldLinkNest RX8 232 "MailSpool$Rules" "holds" "LMailSpool$Names;" "MailSpool") (by decide +kernel))
  have w_2 := va_Nw.use (A := (List.toArray [.ref (ad p0), .int p1])) rfl (hGs.1 (.fieldLinkNest RX8 120 "MailSpool$Names" "size" "I" "MailSpool") (by decide +kernel))
  have w_3 := hts (.fieldLink RX8 66 "MailSpool$Spool" "day" "I") (by decide +kernel)
  have w_4 := va_Nw.use (A := (List.toArray [.ref (ad p0), .int p1])) rfl (hGs.1 (.fieldLinkNest RX8 238 "MailSpool$Rules" "holdFrom" "[I" "MailSpool") (by decide +kernel))
  have w_5 := va_Nw.use (A := (List.toArray [.ref (ad p0), .int p1])) rfl (hGs.1 (.methodLinkNest RX8 112 yX10_at "MailSpool") (by decide +kernel))
  have w_6 := hts (.initialized RX10) (by decide +kernel)
  have w_7 := hts (.static yX10_at) (by decide +kernel)
  have w_8 := va_Nw.use (A := (List.toArray [.ref (ad p0), .int p1])) rfl (hGs.1 (.fieldLinkNest RX8 241 "MailSpool$Rules" "holdTo" "[I" "MailSpool") (by decide +kernel))
  have hGE := hGs.2.2.2.1
  have hGM := hGs.2.2.2.2
  have L4 : ∀ (fu4 : Nat) (S0 : St) (v0 : Nat) (v1 : Int32) (v2 : Int32) (v3 : Int32) (tv0 : v0 < n ∧ K v0 = 7) (H : Heap) (locs : List Loc) (ls : Array Slot), f_X8_holdsAskingFor_L4 F fu4 S0 v0 v1 v2 v3 = some (r9, S9) → Wb g ad n K S0 (dA ad n s.heap.size) H → va_S (dA ad n s.heap.size) s.heap H locs → lv_has ls 7 [(0, .ref (ad v0)), (1, .int v1), (2, .int v2), (3, .int v3)] → W p l e (headSpec wsX8_holdsAskingFor { frames := 3, cells := 0, slots := 0, locals := 75 }).room s m (List.toArray [.ref (ad p0), .int p1]) below meth c H locs 0 0 (MQ below (QR (some (.int r9)) (QB g ad n K S9 (dA ad n s.heap.size) (True)) (dA ad n s.heap.size)) (List.toArray [.ref (ad p0), .int p1]) s 0 0 (dA ad n s.heap.size)) (F0 m 4 ls []) := by
    intro fu4
    induction fu4 with
    | zero =>
      intro S0 v0 v1 v2 v3 tv0 H locs ls hf
      cases hf
    | succ fu4 ih4 =>
      have L99 : ∀ (S0 : St) (v0 : Nat) (v1 : Int32) (v2 : Int32) (v3 : Int32) (tv0 : v0 < n ∧ K v0 = 7) (H : Heap) (locs : List Loc) (ls : Array Slot), f_X8_holdsAskingFor_L99 F (fun a0 a1 a2 a3 a4 => f_X8_holdsAskingFor_L4 F fu4 a0 a1 a2 a3 a4) S0 v0 v1 v2 v3 = some (r9, S9) → Wb g ad n K S0 (dA ad n s.heap.size) H → va_S (dA ad n s.heap.size) s.heap H locs → lv_has ls 7 [(0, .ref (ad v0)), (1, .int v1), (2, .int v2), (3, .int v3)] → W p l e (headSpec wsX8_holdsAskingFor { frames := 3, cells := 0, slots := 0, locals := 75 }).room s m (List.toArray [.ref (ad p0), .int p1]) below meth c H locs 0 0 (MQ below (QR (some (.int r9)) (QB g ad n K S9 (dA ad n s.heap.size) (True)) (dA ad n s.heap.size)) (List.toArray [.ref (ad p0), .int p1]) s 0 0 (dA ad n s.heap.size)) (F0 m 99 ls []) := by
        intro S0 v0 v1 v2 v3 tv0 H locs ls hf hW hS hl
        unfold f_X8_holdsAskingFor_L99 at hf
        obtain ⟨x2, ex2⟩ : ∃ z : Int32, z = v3 + 1 := ⟨_, rfl⟩
        replace hf := ltE hf x2 ex2
        refine lv_iinc (v := x2) (lv' := [(3, .int x2), (0, .ref (ad v0)), (1, .int v1), (2, .int v2)]) hx hb dX8_holdsAskingFor_99 hl (k := 3) rfl (by rw [ex2]; rfl) (by decide) rfl (fun ls hl => ?_)
        refine lv_goto (tgt := 4) hx hb dX8_holdsAskingFor_102 (by decide) ?_
        exact ih4 S0 v0 v1 v2 x2 tv0 _ _ _ hf hW hS (lv_sub hl [1, 2, 3, 0] rfl)
      have L93 : ∀ (S0 : St) (v0 : Nat) (v1 : Int32) (v2 : Int32) (v3 : Int32) (tv0 : v0 < n ∧ K v0 = 7) (H : Heap) (locs : List Loc) (ls : Array Slot), f_X8_holdsAskingFor_L93 F (fun a0 a1 a2 a3 a4 => f_X8_holdsAskingFor_L4 F fu4 a0 a1 a2 a3 a4) S0 v0 v1 v2 v3 = some (r9, S9) → Wb g ad n K S0 (dA ad n s.heap.size) H → va_S (dA ad n s.heap.size) s.heap H locs → lv_has ls 7 [(0, .ref (ad v0)), (1, .int v1), (2, .int v2), (3, .int v3)] → W p l e (headSpec wsX8_holdsAskingFor { frames := 3, cells := 0, slots := 0, locals := 75 }).room s m (List.toArray [.ref (ad p0), .int p1]) below meth c H locs 0 0 (MQ below (QR (some (.int r9)) (QB g ad n K S9 (dA ad n s.heap.size) (True)) (dA ad n s.heap.size)) (List.toArray [.ref (ad p0), .int p1]) s 0 0 (dA ad n s.heap.size)) (F0 m 93 ls []) := by
        intro S0 v0 v1 v2 v3 tv0 H locs ls hf hW hS hl
        unfold f_X8_holdsAskingFor_L93 at hf
        refine lv_iload_n hx hb dX8_holdsAskingFor_93 rfl (lv_at hl 2 rfl) ?_
        refine lv_iconst (v := 1) hx hb dX8_holdsAskingFor_94 (by decide) ?_
        refine lv_iload_n hx hb dX8_holdsAskingFor_95 rfl (lv_at hl 3 rfl) ?_
        refine lv_ishl hx hb dX8_holdsAskingFor_96 ?_
        refine lv_ior hx hb dX8_holdsAskingFor_97 ?_
        refine lv_topi (fun x4 ex4 => ?_)
        replace hf := ltE hf x4 ex4
        refine lv_istore_n (lv' := [(2, .int x4), (0, .ref (ad v0)), (1, .int v1), (3, .int v3)]) hx hb dX8_holdsAskingFor_98 rfl hl (by decide) rfl (fun ls hl => ?_)
        exact L99 S0 v0 v1 x4 v3 tv0 _ _ _ hf hW hS (lv_sub hl [1, 2, 0, 3] rfl)
      have L69 : ∀ (S0 : St) (v0 : Nat) (v1 : Int32) (v2 : Int32) (v3 : Int32) (v4 : Int64) (s0 : Int32) (tv0 : v0 < n ∧ K v0 = 7) (H : Heap) (locs : List Loc) (ls : Array Slot), f_X8_holdsAskingFor_L69 F (fun a0 a1 a2 a3 a4 => f_X8_holdsAskingFor_L4 F fu4 a0 a1 a2 a3 a4) S0 v0 v1 v2 v3 v4 s0 = some (r9, S9) → Wb g ad n K S0 (dA ad n s.heap.size) H → va_S (dA ad n s.heap.size) s.heap H locs → lv_has ls 7 [(0, .ref (ad v0)), (1, .int v1), (2, .int v2), (3, .int v3), (4, .long (v4))] → W p l e (headSpec wsX8_holdsAskingFor { frames := 3, cells := 0, slots := 0, locals := 75 }).room s m (List.toArray [.ref (ad p0), .int p1]) below meth c H locs 0 0 (MQ below (QR (some (.int r9)) (QB g ad n K S9 (dA ad n s.heap.size) (True)) (dA ad n s.heap.size)) (List.toArray [.ref (ad p0), .int p1]) s 0 0 (dA ad n s.heap.size)) (F0 m 69 ls [.int s0]) := by
        intro S0 v0 v1 v2 v3 v4 s0 tv0 H locs ls hf hW hS hl
        unfold f_X8_holdsAskingFor_L69 at hf
        refine lv_istore (lv' := [(6, .int s0), (0, .ref (ad v0)), (1, .int v1), (2, .int v2), (3, .int v3), (4, .long (v4))]) hx hb dX8_holdsAskingFor_69 hl (by decide) rfl (fun ls hl => ?_)
        refine lv_iload hx hb dX8_holdsAskingFor_71 (lv_at hl 0 rfl) ?_
        refine lv_if_eq (tgt := 99) hx hb dX8_holdsAskingFor_73 (by decide) (fun c12 => ?_) (fun c12 => ?_)
        · replace hf := ifT c12 hf
          exact L99 S0 v0 v1 v2 v3 tv0 _ _ _ hf hW hS (lv_sub hl [1, 2, 3, 4] rfl)
        · replace hf := ifF c12 hf
          refine lv_lload hx hb dX8_holdsAskingFor_76 (lv_at hl 5 rfl) ?_
          refine lv_lconst (v := 0) hx hb dX8_holdsAskingFor_78 (by decide) ?_
          refine W.lcmp hx hb dX8_holdsAskingFor_79 ?_
          refine lv_if_eq (tgt := 93) hx hb dX8_holdsAskingFor_80 (by decide) (fun c13 => ?_) (fun c13 => ?_)
          · replace hf := ifT c13 hf
            exact L93 S0 v0 v1 v2 v3 tv0 _ _ _ hf hW hS (lv_sub hl [1, 2, 3, 4] rfl)
          · replace hf := ifF c13 hf
            refine lv_aload_n hx hb dX8_holdsAskingFor_83 rfl (lv_at hl 1 rfl) ?_
            refine lv_iload_n hx hb dX8_holdsAskingFor_84 rfl (lv_at hl 2 rfl) ?_
            refine lv_lload hx hb dX8_holdsAskingFor_85 (lv_at hl 5 rfl) ?_
            replace hf := obE hf
            obtain ⟨z14, hz14, hf⟩ := hf
            obtain ⟨r16, S15⟩ := z14
            replace hf := ltE (ltE hf r16 rfl) S15 rfl
            refine x_callV (As := [.int v1, .long (v4)]) (rest := []) (o := (some (.int r16))) (S1 := S15) hC hl.1 hW hS hGs hA tv0 rfl (show vwCl[7]? = some (RX8, TX8, 16) ∧ ob 7 from ⟨rfl, by decide⟩) (c_X8_hasWord l g ad n K H.size F S0 v0 v1 v4 tv0 r16 S15 hz14) (cwV 2 hts gX8_holdsAskingFor_X8_hasWord rfl rfl rfl (by decide +kernel) ⟨Nat.le_of_ble_eq_true rfl, Nat.le_of_ble_eq_true rfl⟩) rfl rfl (Nat.le_of_ble_eq_true rfl) dX8_holdsAskingFor_87 ⟨Nat.le_of_ble_eq_true rfl, Nat.le_of_ble_eq_true rfl⟩ (fun H locs hPz14 hW hS => ?_)
            refine W.eq (g2 := F0 m 90 ls [.int r16]) rfl ?_
            refine lv_if_eq (tgt := 99) hx hb dX8_holdsAskingFor_90 (by decide) (fun c18 => ?_) (fun c18 => ?_)
            · replace hf := ifT c18 hf
              exact L99 S15 v0 v1 v2 v3 tv0 _ _ _ hf hW hS (lv_sub hl [1, 2, 3, 4] rfl)
            · replace hf := ifF c18 hf
              exact L93 S15 v0 v1 v2 v3 tv0 _ _ _ hf hW hS (lv_sub hl [1, 2, 3, 4] rfl)
      have L68 : ∀ (S0 : St) (v0 : Nat) (v1 : Int32) (v2 : Int32) (v3 : Int32) (v4 : Int64) (tv0 : v0 < n ∧ K v0 = 7) (H : Heap) (locs : List Loc) (ls : Array Slot), f_X8_holdsAskingFor_L68 F (fun a0 a1 a2 a3 a4 => f_X8_holdsAskingFor_L4 F fu4 a0 a1 a2 a3 a4) S0 v0 v1 v2 v3 v4 = some (r9, S9) → Wb g ad n K S0 (dA ad n s.heap.size) H → va_S (dA ad n s.heap.size) s.heap H locs → lv_has ls 7 [(0, .ref (ad v0)), (1, .int v1), (2, .int v2), (3, .int v3), (4, .long (v4))] → W p l e (headSpec wsX8_holdsAskingFor { frames := 3, cells := 0, slots := 0, locals := 75 }).room s m (List.toArray [.ref (ad p0), .int p1]) below meth c H locs 0 0 (MQ below (QR (some (.int r9)) (QB g ad n K S9 (dA ad n s.heap.size) (True)) (dA ad n s.heap.size)) (List.toArray [.ref (ad p0), .int p1]) s 0 0 (dA ad n s.heap.size)) (F0 m 68 ls []) := by
        intro S0 v0 v1 v2 v3 v4 tv0 H locs ls hf hW hS hl
        unfold f_X8_holdsAskingFor_L68 at hf
        refine lv_iconst (v := 0) hx hb dX8_holdsAskingFor_68 (by decide) ?_
        exact L69 S0 v0 v1 v2 v3 v4 0 tv0 _ _ _ hf hW hS (lv_sub hl [0, 1, 2, 3, 4] rfl)
      intro S0 v0 v1 v2 v3 tv0 H locs ls hf hW hS hl
      unfold f_X8_holdsAskingFor_L4 at hf
      refine lv_iload_n hx hb dX8_holdsAskingFor_4 rfl (lv_at hl 3 rfl) ?_
      refine lv_aload_n hx hb dX8_holdsAskingFor_5 rfl (lv_at hl 0 rfl) ?_
      replace hf := obE hf
      obtain ⟨j41, qj41, hf⟩ := hf
      have tj41 := x_rt hW qj41 6 ⟨by decide, rfl⟩
      refine x_getr 700 (ci := 7) (C := RX8) (T := TX8) (N := 16) 0 hC hinX8 hW tv0 rfl rfl ⟨by decide, by decide, rfl, rfl⟩ rfl w_0 dX8_holdsAskingFor_6 qj41 ?_
      replace hf := obE hf
      obtain ⟨j42, qj42, hf⟩ := hf
      have tj42 := x_rt hW qj42 4 ⟨by decide, rfl⟩
      refine x_getrN 611 (ci := 6) (C := RX7) (T := TX7) (N := 16) 11 hC hinX7 hW tj41 rfl rfl ⟨by decide, by decide, rfl, rfl⟩ rfl w_1 dX8_holdsAskingFor_9 qj42 ?_
      refine x_getiN 401 (ci := 4) (C := RX5) (T := TX5) (N := 2) 1 hC hinX5 hW tj42 rfl rfl ⟨by decide, by decide, rfl, rfl⟩ rfl w_2 dX8_holdsAskingFor_12 ?_
      refine lv_icmp_ge (tgt := 105) hx hb dX8_holdsAskingFor_15 (by decide) (fun c43 => ?_) (fun c43 => ?_)
      · replace hf := ifT c43 hf
        refine lv_iload_n hx hb dX8_holdsAskingFor_105 rfl (lv_at hl 2 rfl) ?_
        obtain ⟨e1, e2⟩ := so2 hf
        subst e1
        subst e2
        exact W.iret (v := v2) hx hb hr (fun t ht hWm => ⟨⟨rfl, by unfold QB; rw [ht]; exact ⟨hW, trivial⟩⟩, hS.F ht⟩) hS.2.2 dX8_holdsAskingFor_106 hlk
      · replace hf := ifF c43 hf
        refine lv_aload_n hx hb dX8_holdsAskingFor_18 rfl (lv_at hl 0 rfl) ?_
        replace hf := obE hf
        obtain ⟨j44, qj44, hf⟩ := hf
        have tj44 := x_rt hW qj44 6 ⟨by decide, rfl⟩
        refine x_getr 700 (ci := 7) (C := RX8) (T := TX8) (N := 16) 0 hC hinX8 hW tv0 rfl rfl ⟨by decide, by decide, rfl, rfl⟩ rfl w_0 dX8_holdsAskingFor_19 qj44 ?_
        refine lv_iload_n hx hb dX8_holdsAskingFor_22 rfl (lv_at hl 3 rfl) ?_
        replace hf := obE hf
        obtain ⟨z45, hz45, hf⟩ := hf
        obtain ⟨r47, S46⟩ := z45
        replace hf := ltE (ltE hf r47 rfl) S46 rfl
        refine x_callV (As := [.int v3]) (rest := []) (o := (some (.long (r47)))) (S1 := S46) hC hl.1 hW hS hGs hA tj44 rfl (show vwCl[6]? = some (RX7, TX7, 16) ∧ ob 6 from ⟨rfl, by decide⟩) (c_X7_wordOfHold l g ad n K H.size F S0 j44 v3 tj44 r47 S46 hz45) (cwV 1 hts gX8_holdsAskingFor_X7_wordOfHold rfl rfl rfl (by decide +kernel) ⟨Nat.le_of_ble_eq_true rfl, Nat.le_of_ble_eq_true rfl⟩) rfl rfl (Nat.le_of_ble_eq_true rfl) dX8_holdsAskingFor_23 ⟨Nat.le_of_ble_eq_true rfl, Nat.le_of_ble_eq_true rfl⟩ (fun H locs hPz45 hW hS => ?_)
        refine W.eq (g2 := F0 m 26 ls [.long (r47)]) rfl ?_
        refine lv_lstore (lv' := [(4, .long (r47)), (0, .ref (ad v0)), (1, .int v1), (2, .int v2), (3, .int v3)]) hx hb dX8_holdsAskingFor_26 hl (by decide) rfl (fun ls hl => ?_)
        refine lv_aload_n hx hb dX8_holdsAskingFor_28 rfl (lv_at hl 1 rfl) ?_
        refine x_geti 701 (ci := 7) (C := RX8) (T := TX8) (N := 16) 1 hC hinX8 hW tv0 rfl rfl ⟨by decide, by decide, rfl, rfl⟩ rfl w_3 dX8_holdsAskingFor_29 ?_
        refine lv_aload_n hx hb dX8_holdsAskingFor_32 rfl (lv_at hl 1 rfl) ?_
        replace hf := obE hf
        obtain ⟨j49, qj49, hf⟩ := hf
        have tj49 := x_rt hW qj49 6 ⟨by decide, rfl⟩
        refine x_getr 700 (ci := 7) (C := RX8) (T := TX8) (N := 16) 0 hC hinX8 hW tv0 rfl rfl ⟨by decide, by decide, rfl, rfl⟩ rfl w_0 dX8_holdsAskingFor_33 qj49 ?_
        replace hf := obE hf
        obtain ⟨j50, qj50, hf⟩ := hf
        have tj50 := x_rt hW qj50 12 ⟨by decide, rfl⟩
        refine x_getrN 613 (ci := 6) (C := RX7) (T := TX7) (N := 16) 13 hC hinX7 hW tj49 rfl rfl ⟨by decide, by decide, rfl, rfl⟩ rfl w_4 dX8_holdsAskingFor_36 qj50 ?_
        refine lv_iload_n hx hb dX8_holdsAskingFor_39 rfl (lv_at hl 4 rfl) ?_
        replace hf := obE hf
        obtain ⟨z51, hz51, hf⟩ := hf
        obtain ⟨r53, S52⟩ := z51
        replace hf := ltE (ltE hf r53 rfl) S52 rfl
        refine x_callSN (As := [.ref (ad j50), .int v3]) (rest := [.int (si S46 701 v0)]) (o := (some (.int r53))) (S1 := S52) hC hl.1 hW hS hGs hA (c_X10_at l g ad n K H.size F S46 j50 v3 tj50 r53 S52 hz51) ⟨va_cnB 2 hts gX8_holdsAskingFor_X10_at_n112 rfl rfl rfl (va_Nw.of rfl w_5) w_6 (by decide +kernel) ⟨Nat.le_of_ble_eq_true rfl, Nat.le_of_ble_eq_true rfl⟩, w_7, trivial⟩ rfl rfl (Nat.le_of_ble_eq_true rfl) dX8_holdsAskingFor_40 ⟨Nat.le_of_ble_eq_true rfl, Nat.le_of_ble_eq_true rfl⟩ (fun H locs hPz51 hW hS => ?_)
        refine W.eq (g2 := F0 m 43 ls [.int r53, .int (si S46 701 v0)]) rfl ?_
        refine lv_icmp_lt (tgt := 68) hx hb dX8_holdsAskingFor_43 (by decide) (fun c55 => ?_) (fun c55 => ?_)
        · replace hf := ifT c55 hf
          exact L68 S52 v0 v1 v2 v3 r47 tv0 _ _ _ hf hW hS (lv_sub hl [1, 2, 3, 4, 0] rfl)
        · replace hf := ifF c55 hf
          refine lv_aload_n hx hb dX8_holdsAskingFor_46 rfl (lv_at hl 1 rfl) ?_
          refine x_geti 701 (ci := 7) (C := RX8) (T := TX8) (N := 16) 1 hC hinX8 hW tv0 rfl rfl ⟨by decide, by decide, rfl, rfl⟩ rfl w_3 dX8_holdsAskingFor_47 ?_
          refine lv_aload_n hx hb dX8_holdsAskingFor_50 rfl (lv_at hl 1 rfl) ?_
          replace hf := obE hf
          obtain ⟨j56, qj56, hf⟩ := hf
          have tj56 := x_rt hW qj56 6 ⟨by decide, rfl⟩
          refine x_getr 700 (ci := 7) (C := RX8) (T := TX8) (N := 16) 0 hC hinX8 hW tv0 rfl rfl ⟨by decide, by decide, rfl, rfl⟩ rfl w_0 dX8_holdsAskingFor_51 qj56 ?_
          replace hf := obE hf
          obtain ⟨j57, qj57, hf⟩ := hf
          have tj57 := x_rt hW qj57 12 ⟨by decide, rfl⟩
          refine x_getrN 614 (ci := 6) (C := RX7) (T := TX7) (N := 16) 14 hC hinX7 hW tj56 rfl rfl ⟨by decide, by decide, rfl, rfl⟩ rfl w_8 dX8_holdsAskingFor_54 qj57 ?_
          refine lv_iload_n hx hb dX8_holdsAskingFor_57 rfl (lv_at hl 4 rfl) ?_
          replace hf := obE hf
          obtain ⟨z58, hz58, hf⟩ := hf
          obtain ⟨r60, S59⟩ := z58
          replace hf := ltE (ltE hf r60 rfl) S59 rfl
          refine x_callSN (As := [.ref (ad j57), .int v3]) (rest := [.int (si S52 701 v0)]) (o := (some (.int r60))) (S1 := S59) hC hl.1 hW hS hGs hA (c_X10_at l g ad n K H.size F S52 j57 v3 tj57 r60 S59 hz58) ⟨va_cnB 2 hts gX8_holdsAskingFor_X10_at_n112 rfl rfl rfl (va_Nw.of rfl w_5) w_6 (by decide +kernel) ⟨Nat.le_of_ble_eq_true rfl, Nat.le_of_ble_eq_true rfl⟩, w_7, trivial⟩ rfl rfl (Nat.le_of_ble_eq_true rfl) dX8_holdsAskingFor_58 ⟨Nat.le_of_ble_eq_true rfl, Nat.le_of_ble_eq_true rfl⟩ (fun H locs hPz58 hW hS => ?_)
          refine W.eq (g2 := F0 m 61 ls [.int r60, .int (si S52 701 v0)]) rfl ?_
          refine lv_icmp_gt (tgt := 68) hx hb dX8_holdsAskingFor_61 (by decide) (fun c62 => ?_) (fun c62 => ?_)
          · replace hf := ifT c62 hf
            exact L68 S59 v0 v1 v2 v3 r47 tv0 _ _ _ hf hW hS (lv_sub hl [1, 2, 3, 4, 0] rfl)
          · replace hf := ifF c62 hf
            refine lv_iconst (v := 1) hx hb dX8_holdsAskingFor_64 (by decide) ?_
            refine lv_goto (tgt := 69) hx hb dX8_holdsAskingFor_65 (by decide) ?_
            exact L69 S59 v0 v1 v2 v3 r47 1 tv0 _ _ _ hf hW hS (lv_sub hl [1, 2, 3, 4, 0] rfl)
  unfold f_X8_holdsAskingFor at hf
  refine lv_iconst (v := 0) hx hb dX8_holdsAskingFor_0 (by decide) ?_
  refine lv_istore_n (lv' := [(2, .int 0), (0, .ref (ad p0)), (1, .int p1)]) hx hb dX8_holdsAskingFor_1 rfl hl (by decide) rfl (fun ls hl => ?_)
  refine lv_iconst (v := 0) hx hb dX8_holdsAskingFor_2 (by decide) ?_
  refine lv_istore_n (lv' := [(3, .int 0), (2, .int 0), (0, .ref (ad p0)), (1, .int p1)]) hx hb dX8_holdsAskingFor_3 rfl hl (by decide) rfl (fun ls hl => ?_)
  exact L4 F S0 p0 p1 0 0 tp0 _ _ _ hf hW hS (lv_sub hl [2, 3, 1, 0] rfl)
set_option maxHeartbeats 4000000 in
set_option maxRecDepth 100000 in
theorem c_X8_addReferences (l : Launch) (g : GP) (ad : Nat → Nat) (n : Nat) (K : Nat → Nat) (sz F : Nat) (S0 : St) (p0 : Nat) (p1 : Int32) (p2 : Int32) (p3 : Int32) (tp0 : p0 < n ∧ K p0 = 7) (S9 : St) (hf : f_X8_addReferences F S0 p0 p1 p2 p3 = some S9) : Met l yX8_addReferences wsX8_addReferences { frames := 1, cells := 0, slots := 0, locals := 22 } (va_Pc [.ref (ad p0), .int p1, .int p2, .int p3] (PB g ad n K S0 sz)) (QR none (QB g ad n K S9 (dA ad n sz) (True)) (dA ad n sz)) 0 0 (dA ad n sz) := by
  refine Met.ofW (cc := cX8_addReferences) (maxL := 6) (ret := none) (by decide) rfl ?_
  intro p e s m args below meth c s₁ B hml hv
  obtain ⟨rfl, hsz, hW, hK, hGs⟩ := x_start hv
  subst hsz
  have hx := B.exec
  have hb := B.bytes
  have hr := B.returns
  have hts := atoms_spec (ws := wsX8_addReferences) B.pre
  have hown : s.vm.findClass RX8 = some m.cls := findClass_of_methodNamed B.named
  have hlk := B.notSynchronized
  have hC : Cx g p s m _ c cX8_addReferences RX8 wsX8_addReferences 6 := ⟨hx, hb, hml, hown, hts, hK⟩
  have hA : ∀ q : Nat, s.heap.size ≤ q → dA ad n s.heap.size q := fun q h => Or.inr h
  have hS : va_S (dA ad n s.heap.size) s.heap s.heap [] := va_S.rf
  have hl := lv_entry ([.ref (ad p0), .int p1, .int p2, .int p3]) (n := 6) (Nat.le_of_ble_eq_true rfl)
  rw [lg_entry_eq]
  generalize (lg_sl ([.ref (ad p0), .int p1, .int p2, .int p3]) ++ List.replicate (6 - (lg_sl ([.ref (ad p0), .int p1, .int p2, .int p3])).length) Slot.unset).toArray = ls at hl ⊢
  have hl : lv_has ls 6 [(0, .ref (ad p0)), (1, .int p1), (2, .int p2), (3, .int p3)] := hl
  have hinX7 : ∀ w ∈ wsX70, w ∈ wsX8_addReferences := by decide +kernel
  have hinX8 : ∀ w ∈ wsX80, w ∈ wsX8_addReferences := by decide +kernel
  have w_0 := va_Nw.use (A := (List.toArray [.ref (ad p0), .int p1, .int p2, .int p3])) rfl (hGs.1 (.methodLinkNest RX8 181 yX10_put "MailSpool") (by decide +kernel))
  have w_1 := hts (.initialized RX10) (by decide +kernel)
  have w_2 := hts (.static yX10_put) (by decide +kernel)
  have w_3 := hts (.fieldLink RX8 31 "MailSpool$Spool" "entered" "[I") (by decide +kernel)
  have w_4 := hts (.fieldLink RX8 66 "MailSpool$Spool" "day" "I") (by decide +kernel)
  have w_5 := hts (.fieldLink RX8 28 "MailSpool$Spool" "retentions" "[I") (by decide +kernel)
  have w_6 := hts (.fieldLink RX8 9 "MailSpool$Spool" "rules" "LMailSpool$Rules;") (by decide +kernel)
  have w_7 := va_Nw.use (A := (List.toArray [.ref (ad p0), .int p1, .int p2, .int p3])) rfl (hGs.1 (.fieldLinkNest RX8 244 "MailSpool$Rules" "userClass" "[I" "MailSpool") (by decide +kernel))
  have w_8 := va_Nw.use (A := (List.toArray [.ref (ad p0), .int p1, .int p2, .int p3])) rfl (hGs.1 (.methodLinkNest RX8 112 yX10_at "MailSpool") (by decide +kernel))
  have w_9 := hts (.static yX10_at) (by decide +kernel)
  have w_10 := hts (.fieldLink RX8 25 "MailSpool$Spool" "states" "[I") (by decide +kernel)
  have w_11 := va_Nw.use (A := (List.toArray [.ref (ad p0), .int p1, .int p2, .int p3])) rfl (hGs.1 (.methodLinkNest RX8 226 yX10_hasBit "MailSpool") (by decide +kernel))
  have w_12 := hts (.static yX10_hasBit) (by decide +kernel)
  have hGE := hGs.2.2.2.1
  have hGM := hGs.2.2.2.2
  have L3 : ∀ (fu3 : Nat) (S0 : St) (v0 : Nat) (v1 : Int32) (v2 : Int32) (v3 : Int32) (v4 : Int32) (tv0 : v0 < n ∧ K v0 = 7) (H : Heap) (locs : List Loc) (ls : Array Slot), f_X8_addReferences_L3 F fu3 S0 v0 v1 v2 v3 v4 = some S9 → Wb g ad n K S0 (dA ad n s.heap.size) H → va_S (dA ad n s.heap.size) s.heap H locs → lv_has ls 6 [(0, .ref (ad v0)), (1, .int v1), (2, .int v2), (3, .int v3), (4, .int v4)] → W p l e (headSpec wsX8_addReferences { frames := 1, cells := 0, slots := 0, locals := 22 }).room s m (List.toArray [.ref (ad p0), .int p1, .int p2, .int p3]) below meth c H locs 0 0 (MQ below (QR none (QB g ad n K S9 (dA ad n s.heap.size) (True)) (dA ad n s.heap.size)) (List.toArray [.ref (ad p0), .int p1, .int p2, .int p3]) s 0 0 (dA ad n s.heap.size)) (F0 m 3 ls []) := by
    intro fu3
    induction fu3 with
    | zero =>
      intro S0 v0 v1 v2 v3 v4 tv0 H locs ls hf
      cases hf
    | succ fu3 ih3 =>
      have L69 : ∀ (S0 : St) (v0 : Nat) (v1 : Int32) (v2 : Int32) (v3 : Int32) (v4 : Int32) (v5 : Int32) (s0 : Int32) (s1 : Int32) (s2 : Nat) (tv0 : v0 < n ∧ K v0 = 7) (ts2 : s2 < n ∧ K s2 = 12) (H : Heap) (locs : List Loc) (ls : Array Slot), f_X8_addReferences_L69 F (fun a0 a1 a2 a3 a4 a5 => f_X8_addReferences_L3 F fu3 a0 a1 a2 a3 a4 a5) S0 v0 v1 v2 v3 v4 v5 s0 s1 s2 = some S9 → Wb g ad n K S0 (dA ad n s.heap.size) H → va_S (dA ad n s.heap.size) s.heap H locs → lv_has ls 6 [(0, .ref (ad v0)), (1, .int v1), (2, .int v2), (3, .int v3), (4, .int v4), (5, .int v5)] → W p l e (headSpec wsX8_addReferences { frames := 1, cells := 0, slots := 0, locals := 22 }).room s m (List.toArray [.ref (ad p0), .int p1, .int p2, .int p3]) below meth c H locs 0 0 (MQ below (QR none (QB g ad n K S9 (dA ad n s.heap.size) (True)) (dA ad n s.heap.size)) (List.toArray [.ref (ad p0), .int p1, .int p2, .int p3]) s 0 0 (dA ad n s.heap.size)) (F0 m 69 ls [.int s0, .int s1, .ref (ad s2)]) := by
        intro S0 v0 v1 v2 v3 v4 v5 s0 s1 s2 tv0 ts2 H locs ls hf hW hS hl
        unfold f_X8_addReferences_L69 at hf
        replace hf := obE hf
        obtain ⟨S12, hz11, hf⟩ := hf
        refine x_callSN (As := [.ref (ad s2), .int s1, .int s0]) (rest := []) (o := none) (S1 := S12) hC hl.1 hW hS hGs hA (c_X10_put l g ad n K H.size F S0 s2 s1 s0 ts2 S12 hz11) ⟨va_cnB 3 hts gX8_addReferences_X10_put_n181 rfl rfl rfl (va_Nw.of rfl w_0) w_1 (by decide +kernel) ⟨Nat.le_of_ble_eq_true rfl, Nat.le_of_ble_eq_true rfl⟩, w_2, trivial⟩ rfl rfl (Nat.le_of_ble_eq_true rfl) dX8_addReferences_69 ⟨Nat.le_of_ble_eq_true rfl, Nat.le_of_ble_eq_true rfl⟩ (fun H locs hPz11 hW hS => ?_)
        refine W.eq (g2 := F0 m 72 ls []) rfl ?_
        refine lv_aload_n hx hb dX8_addReferences_72 rfl (lv_at hl 0 rfl) ?_
        replace hf := obE hf
        obtain ⟨j15, qj15, hf⟩ := hf
        have tj15 := x_rt hW qj15 12 ⟨by decide, rfl⟩
        refine x_getr 709 (ci := 7) (C := RX8) (T := TX8) (N := 16) 9 hC hinX8 hW tv0 rfl rfl ⟨by decide, by decide, rfl, rfl⟩ rfl w_3 dX8_addReferences_73 qj15 ?_
        refine lv_iload hx hb dX8_addReferences_76 (lv_at hl 5 rfl) ?_
        refine lv_aload_n hx hb dX8_addReferences_78 rfl (lv_at hl 0 rfl) ?_
        refine x_geti 701 (ci := 7) (C := RX8) (T := TX8) (N := 16) 1 hC hinX8 hW tv0 rfl rfl ⟨by decide, by decide, rfl, rfl⟩ rfl w_4 dX8_addReferences_79 ?_
        replace hf := obE hf
        obtain ⟨S17, hz16, hf⟩ := hf
        refine x_callSN (As := [.ref (ad j15), .int v5, .int (si S12 701 v0)]) (rest := []) (o := none) (S1 := S17) hC hl.1 hW hS hGs hA (c_X10_put l g ad n K H.size F S12 j15 v5 (si S12 701 v0) tj15 S17 hz16) ⟨va_cnB 3 hts gX8_addReferences_X10_put_n181 rfl rfl rfl (va_Nw.of rfl w_0) w_1 (by decide +kernel) ⟨Nat.le_of_ble_eq_true rfl, Nat.le_of_ble_eq_true rfl⟩, w_2, trivial⟩ rfl rfl (Nat.le_of_ble_eq_true rfl) dX8_addReferences_82 ⟨Nat.le_of_ble_eq_true rfl, Nat.le_of_ble_eq_true rfl⟩ (fun H locs hPz16 hW hS => ?_)
        refine W.eq (g2 := F0 m 85 ls []) rfl ?_
        obtain ⟨x20, ex20⟩ : ∃ z : Int32, z = v4 + 1 := ⟨_, rfl⟩
        replace hf := ltE hf x20 ex20
        refine lv_iinc (v := x20) (lv' := [(4, .int x20), (0, .ref (ad v0)), (1, .int v1), (2, .int v2), (3, .int v3), (5, .int v5)]) hx hb dX8_addReferences_85 hl (k := 4) rfl (by rw [ex20]; rfl) (by decide) rfl (fun ls hl => ?_)
        refine lv_goto (tgt := 3) hx hb dX8_addReferences_88 (by decide) ?_
        exact ih3 S17 v0 v1 v2 v3 x20 tv0 _ _ _ hf hW hS (lv_sub hl [1, 2, 3, 4, 0] rfl)
      have L39 : ∀ (S0 : St) (v0 : Nat) (v1 : Int32) (v2 : Int32) (v3 : Int32) (v4 : Int32) (v5 : Int32) (s0 : Int32) (s1 : Int32) (s2 : Nat) (tv0 : v0 < n ∧ K v0 = 7) (ts2 : s2 < n ∧ K s2 = 12) (H : Heap) (locs : List Loc) (ls : Array Slot), f_X8_addReferences_L39 F (fun a0 a1 a2 a3 a4 a5 => f_X8_addReferences_L3 F fu3 a0 a1 a2 a3 a4 a5) S0 v0 v1 v2 v3 v4 v5 s0 s1 s2 = some S9 → Wb g ad n K S0 (dA ad n s.heap.size) H → va_S (dA ad n s.heap.size) s.heap H locs → lv_has ls 6 [(0, .ref (ad v0)), (1, .int v1), (2, .int v2), (3, .int v3), (4, .int v4), (5, .int v5)] → W p l e (headSpec wsX8_addReferences { frames := 1, cells := 0, slots := 0, locals := 22 }).room s m (List.toArray [.ref (ad p0), .int p1, .int p2, .int p3]) below meth c H locs 0 0 (MQ below (QR none (QB g ad n K S9 (dA ad n s.heap.size) (True)) (dA ad n s.heap.size)) (List.toArray [.ref (ad p0), .int p1, .int p2, .int p3]) s 0 0 (dA ad n s.heap.size)) (F0 m 39 ls [.int s0, .int s1, .ref (ad s2)]) := by
        intro S0 v0 v1 v2 v3 v4 v5 s0 s1 s2 tv0 ts2 H locs ls hf hW hS hl
        unfold f_X8_addReferences_L39 at hf
        replace hf := obE hf
        obtain ⟨S34, hz33, hf⟩ := hf
        refine x_callSN (As := [.ref (ad s2), .int s1, .int s0]) (rest := []) (o := none) (S1 := S34) hC hl.1 hW hS hGs hA (c_X10_put l g ad n K H.size F S0 s2 s1 s0 ts2 S34 hz33) ⟨va_cnB 3 hts gX8_addReferences_X10_put_n181 rfl rfl rfl (va_Nw.of rfl w_0) w_1 (by decide +kernel) ⟨Nat.le_of_ble_eq_true rfl, Nat.le_of_ble_eq_true rfl⟩, w_2, trivial⟩ rfl rfl (Nat.le_of_ble_eq_true rfl) dX8_addReferences_39 ⟨Nat.le_of_ble_eq_true rfl, Nat.le_of_ble_eq_true rfl⟩ (fun H locs hPz33 hW hS => ?_)
        refine W.eq (g2 := F0 m 42 ls []) rfl ?_
        refine lv_aload_n hx hb dX8_addReferences_42 rfl (lv_at hl 0 rfl) ?_
        replace hf := obE hf
        obtain ⟨j37, qj37, hf⟩ := hf
        have tj37 := x_rt hW qj37 12 ⟨by decide, rfl⟩
        refine x_getr 708 (ci := 7) (C := RX8) (T := TX8) (N := 16) 8 hC hinX8 hW tv0 rfl rfl ⟨by decide, by decide, rfl, rfl⟩ rfl w_5 dX8_addReferences_43 qj37 ?_
        refine lv_iload hx hb dX8_addReferences_46 (lv_at hl 5 rfl) ?_
        refine lv_iload_n hx hb dX8_addReferences_48 rfl (lv_at hl 3 rfl) ?_
        refine lv_iconst (v := -1) hx hb dX8_addReferences_49 (by decide) ?_
        refine lv_icmp_ne (tgt := 68) hx hb dX8_addReferences_50 (by decide) (fun c38 => ?_) (fun c38 => ?_)
        · replace hf := ifT c38 hf
          refine lv_iload_n hx hb dX8_addReferences_68 rfl (lv_at hl 3 rfl) ?_
          exact L69 S34 v0 v1 v2 v3 v4 v5 v3 v5 j37 tv0 tj37 _ _ _ hf hW hS (lv_sub hl [0, 1, 2, 3, 4, 5] rfl)
        · replace hf := ifF (fun q => q c38) hf
          refine lv_aload_n hx hb dX8_addReferences_53 rfl (lv_at hl 0 rfl) ?_
          replace hf := obE hf
          obtain ⟨j39, qj39, hf⟩ := hf
          have tj39 := x_rt hW qj39 6 ⟨by decide, rfl⟩
          refine x_getr 700 (ci := 7) (C := RX8) (T := TX8) (N := 16) 0 hC hinX8 hW tv0 rfl rfl ⟨by decide, by decide, rfl, rfl⟩ rfl w_6 dX8_addReferences_54 qj39 ?_
          replace hf := obE hf
          obtain ⟨j40, qj40, hf⟩ := hf
          have tj40 := x_rt hW qj40 12 ⟨by decide, rfl⟩
          refine x_getrN 607 (ci := 6) (C := RX7) (T := TX7) (N := 16) 7 hC hinX7 hW tj39 rfl rfl ⟨by decide, by decide, rfl, rfl⟩ rfl w_7 dX8_addReferences_57 qj40 ?_
          refine lv_iload hx hb dX8_addReferences_60 (lv_at hl 4 rfl) ?_
          replace hf := obE hf
          obtain ⟨z41, hz41, hf⟩ := hf
          obtain ⟨r43, S42⟩ := z41
          replace hf := ltE (ltE hf r43 rfl) S42 rfl
          refine x_callSN (As := [.ref (ad j40), .int v4]) (rest := [.int v5, .ref (ad j37)]) (o := (some (.int r43))) (S1 := S42) hC hl.1 hW hS hGs hA (c_X10_at l g ad n K H.size F S34 j40 v4 tj40 r43 S42 hz41) ⟨va_cnB 2 hts gX8_addReferences_X10_at_n112 rfl rfl rfl (va_Nw.of rfl w_8) w_1 (by decide +kernel) ⟨Nat.le_of_ble_eq_true rfl, Nat.le_of_ble_eq_true rfl⟩, w_9, trivial⟩ rfl rfl (Nat.le_of_ble_eq_true rfl) dX8_addReferences_62 ⟨Nat.le_of_ble_eq_true rfl, Nat.le_of_ble_eq_true rfl⟩ (fun H locs hPz41 hW hS => ?_)
          refine W.eq (g2 := F0 m 65 ls [.int r43, .int v5, .ref (ad j37)]) rfl ?_
          refine lv_goto (tgt := 69) hx hb dX8_addReferences_65 (by decide) ?_
          exact L69 S42 v0 v1 v2 v3 v4 v5 r43 v5 j37 tv0 tj37 _ _ _ hf hW hS (lv_sub hl [0, 1, 2, 3, 4, 5] rfl)
      intro S0 v0 v1 v2 v3 v4 tv0 H locs ls hf hW hS hl
      unfold f_X8_addReferences_L3 at hf
      refine lv_iload hx hb dX8_addReferences_3 (lv_at hl 4 rfl) ?_
      refine lv_bipush (v := 10) hx hb dX8_addReferences_5 (by decide) ?_
      refine lv_icmp_ge (tgt := 91) hx hb dX8_addReferences_7 (by decide) (fun c53 => ?_) (fun c53 => ?_)
      · replace hf := ifT c53 hf
        have e1 := Option.some.inj hf
        subst e1
        exact W.vret hx hb hr (fun t ht hWm => ⟨⟨rfl, by unfold QB; rw [ht]; exact ⟨hW, trivial⟩⟩, hS.F ht⟩) hS.2.2 dX8_addReferences_91 hlk
      · replace hf := ifF c53 hf
        refine lv_iload_n hx hb dX8_addReferences_10 rfl (lv_at hl 1 rfl) ?_
        refine lv_bipush (v := 10) hx hb dX8_addReferences_11 (by decide) ?_
        refine lv_imul hx hb dX8_addReferences_13 ?_
        refine lv_iload hx hb dX8_addReferences_14 (lv_at hl 4 rfl) ?_
        refine lv_iadd hx hb dX8_addReferences_16 ?_
        refine lv_topi (fun x54 ex54 => ?_)
        replace hf := ltE hf x54 ex54
        refine lv_istore (lv' := [(5, .int x54), (0, .ref (ad v0)), (1, .int v1), (2, .int v2), (3, .int v3), (4, .int v4)]) hx hb dX8_addReferences_17 hl (by decide) rfl (fun ls hl => ?_)
        refine lv_aload_n hx hb dX8_addReferences_19 rfl (lv_at hl 1 rfl) ?_
        replace hf := obE hf
        obtain ⟨j55, qj55, hf⟩ := hf
        have tj55 := x_rt hW qj55 12 ⟨by decide, rfl⟩
        refine x_getr 707 (ci := 7) (C := RX8) (T := TX8) (N := 16) 7 hC hinX8 hW tv0 rfl rfl ⟨by decide, by decide, rfl, rfl⟩ rfl w_10 dX8_addReferences_20 qj55 ?_
        refine lv_iload hx hb dX8_addReferences_23 (lv_at hl 0 rfl) ?_
        refine lv_iload_n hx hb dX8_addReferences_25 rfl (lv_at hl 3 rfl) ?_
        refine lv_iload hx hb dX8_addReferences_26 (lv_at hl 5 rfl) ?_
        replace hf := obE hf
        obtain ⟨z56, hz56, hf⟩ := hf
        obtain ⟨r58, S57⟩ := z56
        replace hf := ltE (ltE hf r58 rfl) S57 rfl
        refine x_callSN (As := [.int v2, .int v4]) (rest := [.int x54, .ref (ad j55)]) (o := (some (.int r58))) (S1 := S57) hC hl.1 hW hS hGs hA (c_X10_hasBit l g ad n K H.size F S0 v2 v4 r58 S57 hz56) ⟨va_cnB 2 hts gX8_addReferences_X10_hasBit_n226 rfl rfl rfl (va_Nw.of rfl w_11) w_1 (by decide +kernel) ⟨Nat.le_of_ble_eq_true rfl, Nat.le_of_ble_eq_true rfl⟩, w_12, trivial⟩ rfl rfl (Nat.le_of_ble_eq_true rfl) dX8_addReferences_28 ⟨Nat.le_of_ble_eq_true rfl, Nat.le_of_ble_eq_true rfl⟩ (fun H locs hPz56 hW hS => ?_)
        refine W.eq (g2 := F0 m 31 ls [.int r58, .int x54, .ref (ad j55)]) rfl ?_
        refine lv_if_eq (tgt := 38) hx hb dX8_addReferences_31 (by decide) (fun c60 => ?_) (fun c60 => ?_)
        · replace hf := ifT c60 hf
          refine lv_iconst (v := -1) hx hb dX8_addReferences_38 (by decide) ?_
          exact L39 S57 v0 v1 v2 v3 v4 x54 ((-1)) x54 j55 tv0 tj55 _ _ _ hf hW hS (lv_sub hl [1, 2, 3, 4, 5, 0] rfl)
        · replace hf := ifF c60 hf
          refine lv_iconst (v := 0) hx hb dX8_addReferences_34 (by decide) ?_
          refine lv_goto (tgt := 39) hx hb dX8_addReferences_35 (by decide) ?_
          exact L39 S57 v0 v1 v2 v3 v4 x54 0 x54 j55 tv0 tj55 _ _ _ hf hW hS (lv_sub hl [1, 2, 3, 4, 5, 0] rfl)
  unfold f_X8_addReferences at hf
  refine lv_iconst (v := 0) hx hb dX8_addReferences_0 (by decide) ?_
  refine lv_istore (lv' := [(4, .int 0), (0, .ref (ad p0)), (1, .int p1), (2, .int p2), (3, .int p3)]) hx hb dX8_addReferences_1 hl (by decide) rfl (fun ls hl => ?_)
  exact L3 F S0 p0 p1 p2 p3 0 tp0 _ _ _ hf hW hS (lv_sub hl [1, 2, 3, 4, 0] rfl)
set_option maxHeartbeats 4000000 in
set_option maxRecDepth 100000 in
theorem c_X8_receive (l : Launch) (g : GP) (ad : Nat → Nat) (n : Nat) (K : Nat → Nat) (sz F : Nat) (S0 : St) (p0 : Nat) (p1 : Nat) (p2 : Int32) (p3 : Int32) (p4 : Int32) (tp0 : p0 < n ∧ K p0 = 7) (tp1 : p1 < n ∧ K p1 = 1) (r9 : Int32) (S9 : St) (n9 : Nat) (hf : f_X8_receive F S0 n p0 p1 p2 p3 p4 = some (r9, S9, n9)) : Met l yX8_receive wsX8_receive { frames := 5, cells := 10, slots := 8177, locals := 115 } (va_Pc [.ref (ad p0), .ref (ad p1), .int p2, .int p3, .int p4] (PB g ad n K S0 sz)) (QA ad K n (fun _ => (some (.int r9))) g n9 S9 (dA ad n sz) (fun _ => True)) 10 8177 (dA ad n sz) := by
  refine Met.ofW (cc := cX8_receive) (maxL := 9) (ret := (some .int)) (by decide) rfl ?_
  intro p e s m args below meth c s₁ B hml hv
  obtain ⟨rfl, hsz, hW, hK, hGs⟩ := x_start hv
  subst hsz
  have hx := B.exec
  have hb := B.bytes
  have hr := B.returns
  have hts := atoms_spec (ws := wsX8_receive) B.pre
  have hown : s.vm.findClass RX8 = some m.cls := findClass_of_methodNamed B.named
  have hlk := B.notSynchronized
  have hC : Cx g p s m _ c cX8_receive RX8 wsX8_receive 9 := ⟨hx, hb, hml, hown, hts, hK⟩
  have hA : ∀ q : Nat, s.heap.size ≤ q → dA ad n s.heap.size q := fun q h => Or.inr h
  have hS : va_S (dA ad n s.heap.size) s.heap s.heap [] := va_S.rf
  have hl := lv_entry ([.ref (ad p0), .ref (ad p1), .int p2, .int p3, .int p4]) (n := 9) (Nat.le_of_ble_eq_true rfl)
  rw [lg_entry_eq]
  generalize (lg_sl ([.ref (ad p0), .ref (ad p1), .int p2, .int p3, .int p4]) ++ List.replicate (9 - (lg_sl ([.ref (ad p0), .ref (ad p1), .int p2, .int p3, .int p4])).length) Slot.unset).toArray = ls at hl ⊢
  have hl : lv_has ls 9 [(0, .ref (ad p0)), (1, .ref (ad p1)), (2, .int p2), (3, .int p3), (4, .int p4)] := hl
  have hinX1 : ∀ w ∈ wsX10, w ∈ wsX8_receive := by decide +kernel
  have hinX4 : ∀ w ∈ wsX40, w ∈ wsX8_receive := by decide +kernel
  have hinX8 : ∀ w ∈ wsX80, w ∈ wsX8_receive := by decide +kernel
  have w_0 := hts (.fieldLink RX8 88 "MailSpool$Spool" "messageCount" "I") (by decide +kernel)
  have w_1 := va_Nw.use (A := (List.toArray [.ref (ad p0), .ref (ad p1), .int p2, .int p3, .int p4])) rfl (hGs.1 (.fieldLinkNest RX8 127 "MailSpool$Message" "holds" "I" "MailSpool") (by decide +kernel))
  have w_2 := hts (.fieldLink RX8 69 "MailSpool$Spool" "bouncedUsers" "I") (by decide +kernel)
  have w_3 := hts (.fieldLink RX8 44 "MailSpool$Spool" "journal" "LMailSpool$Journal;") (by decide +kernel)
  have w_4 := hts (.fieldLink RX8 66 "MailSpool$Spool" "day" "I") (by decide +kernel)
  have w_5 := hts (.fieldLink RX8 21 "MailSpool$Spool" "messages" "[LMailSpool$Message;") (by decide +kernel)
  have w_6 := va_Nw.use (A := (List.toArray [.ref (ad p0), .ref (ad p1), .int p2, .int p3, .int p4])) rfl (hGs.1 (.fieldLinkNest RX8 203 "MailSpool$Content" "places" "I" "MailSpool") (by decide +kernel))
  have w_7 := hts (.fieldLink RX8 37 "MailSpool$Spool" "store" "LMailSpool$Store;") (by decide +kernel)
  have w_8 := va_Nw.use (A := (List.toArray [.ref (ad p0), .ref (ad p1), .int p2, .int p3, .int p4])) rfl (hGs.1 (.fieldLinkNest RX8 156 "MailSpool$Message" "parts" "[I" "MailSpool") (by decide +kernel))
  have w_9 := va_Nw.use (A := (List.toArray [.ref (ad p0), .ref (ad p1), .int p2, .int p3, .int p4])) rfl (hGs.1 (.methodLinkNest RX8 181 yX10_put "MailSpool") (by decide +kernel))
  have w_10 := hts (.initialized RX10) (by decide +kernel)
  have w_11 := hts (.static yX10_put) (by decide +kernel)
  have w_12 := hts (.classLink RX8 19 RX4) (by decide +kernel)
  have w_13 := hts (.instantiable RX4 5) (by decide +kernel)
  have w_14 := hts (.initialized RX4) (by decide +kernel)
  have w_15 := hts (.methodLink RX8 59 yX4_init) (by decide +kernel)
  have w_16 := hts (.instanceMethod yX4_init) (by decide +kernel)
  have hGE := hGs.2.2.2.1
  have hGM := hGs.2.2.2.2
  have L600156 : ∀ (adL KL : Nat → Nat) (nL : Nat) (hagL : Ag ad K n adL KL nL) (S0 : St) (v0 : Nat) (v3 : Int32) (v4 : Int32) (v5 : Int32) (v6 : Nat) (tv0 : v0 < nL ∧ KL v0 = 7) (tv6 : v6 < nL ∧ KL v6 = 3) (H : Heap) (locs : List Loc) (ls : Array Slot), f_X8_receive_L600156 F S0 nL v0 v3 v4 v5 v6 = some (r9, S9, n9) → Wb g adL nL KL S0 (dA ad n s.heap.size) H → va_S (dA ad n s.heap.size) s.heap H locs → lv_has ls 9 [(0, .ref (adL v0)), (3, .int v3), (4, .int v4), (5, .int v5), (6, .ref (adL v6))] → W p l e (headSpec wsX8_receive { frames := 5, cells := 10, slots := 8177, locals := 115 }).room s m (List.toArray [.ref (ad p0), .ref (ad p1), .int p2, .int p3, .int p4]) below meth c H locs 10 8177 (MQ below (QA ad K n (fun _ => (some (.int r9))) g n9 S9 (dA ad n s.heap.size) (fun _ => True)) (List.toArray [.ref (ad p0), .ref (ad p1), .int p2, .int p3, .int p4]) s 10 8177 (dA ad n s.heap.size)) (F0 m 156 ls []) := by
    intro adL KL nL hagL S0 v0 v3 v4 v5 v6 tv0 tv6 H locs ls hf hW hS hl
    unfold f_X8_receive_L600156 at hf
    refine lv_aload_n hx hb dX8_receive_156 rfl (lv_at hl 0 rfl) ?_
    refine lv_dup hx hb dX8_receive_157 rfl ?_
    refine x_geti 705 (ci := 7) (C := RX8) (T := TX8) (N := 16) 5 hC hinX8 hW tv0 rfl rfl ⟨by decide, by decide, rfl, rfl⟩ rfl w_0 dX8_receive_158 ?_
    refine lv_iconst (v := 1) hx hb dX8_receive_161 (by decide) ?_
    refine lv_iadd hx hb dX8_receive_162 ?_
    refine x_puti 705 (ci := 7) (C := RX8) (T := TX8) (N := 16) (v := (si S0 705 v0) + 1) (ty := .int) 5 hC hinX8 tyX8_ok nmX8 hW hS tv0 rfl rfl ⟨by decide, by decide, rfl, rfl⟩ rfl w_0 rfl (by decide +kernel) rfl rfl dX8_receive_163 (fun S16 H locs eS16 hW hS => ?_)
    replace hf := ltE hf S16 eS16
    refine lv_aload hx hb dX8_receive_166 (lv_at hl 4 rfl) ?_
    refine lv_aload_n hx hb dX8_receive_168 rfl (lv_at hl 0 rfl) ?_
    refine lv_iload hx hb dX8_receive_169 (lv_at hl 3 rfl) ?_
    replace hf := obE hf
    obtain ⟨z17, hz17, hf⟩ := hf
    obtain ⟨r19, S18⟩ := z17
    replace hf := ltE (ltE hf r19 rfl) S18 rfl
    refine x_callV (As := [.int v5]) (rest := [.ref (adL v6)]) (o := (some (.int r19))) (S1 := S18) hC hl.1 hW hS hGs hA tv0 rfl (show vwCl[7]? = some (RX8, TX8, 16) ∧ ob 7 from ⟨rfl, by decide⟩) (c_X8_holdsAskingFor l g adL nL KL H.size F S16 v0 v5 tv0 r19 S18 hz17) (cwV 1 hts gX8_receive_X8_holdsAskingFor rfl rfl rfl (by decide +kernel) ⟨Nat.le_of_ble_eq_true rfl, Nat.le_of_ble_eq_true rfl⟩) rfl rfl (Nat.le_of_ble_eq_true rfl) dX8_receive_171 ⟨Nat.le_of_ble_eq_true rfl, Nat.le_of_ble_eq_true rfl⟩ (fun H locs hPz17 hW hS => ?_)
    refine W.eq (g2 := F0 m 174 ls [.int r19, .ref (adL v6)]) rfl ?_
    refine x_putiN 304 (ci := 3) (C := RX4) (T := TX4) (N := 5) (v := r19) (ty := .int) 4 hC hinX4 tyX4_ok nmX4 hW hS tv6 rfl rfl ⟨by decide, by decide, rfl, rfl⟩ rfl w_1 rfl (by decide +kernel) rfl rfl dX8_receive_174 (fun S21 H locs eS21 hW hS => ?_)
    replace hf := ltE hf S21 eS21
    refine lv_aload_n hx hb dX8_receive_177 rfl (lv_at hl 0 rfl) ?_
    refine lv_iload hx hb dX8_receive_178 (lv_at hl 3 rfl) ?_
    refine lv_iload_n hx hb dX8_receive_180 rfl (lv_at hl 1 rfl) ?_
    refine lv_aload_n hx hb dX8_receive_181 rfl (lv_at hl 0 rfl) ?_
    refine x_geti 702 (ci := 7) (C := RX8) (T := TX8) (N := 16) 2 hC hinX8 hW tv0 rfl rfl ⟨by decide, by decide, rfl, rfl⟩ rfl w_2 dX8_receive_182 ?_
    refine lv_iconst (v := -1) hx hb dX8_receive_185 (by decide) ?_
    refine lv_ixor hx hb dX8_receive_186 ?_
    refine lv_iand hx hb dX8_receive_187 ?_
    refine lv_iload hx hb dX8_receive_188 (lv_at hl 2 rfl) ?_
    replace hf := obE hf
    obtain ⟨S23, hz22, hf⟩ := hf
    refine x_callV (As := [.int v5, .int (v3 &&& ((si S21 702 v0) ^^^ ((-1)))), .int v4]) (rest := []) (o := none) (S1 := S23) hC hl.1 hW hS hGs hA tv0 rfl (show vwCl[7]? = some (RX8, TX8, 16) ∧ ob 7 from ⟨rfl, by decide⟩) (c_X8_addReferences l g adL nL KL H.size F S21 v0 v5 (v3 &&& ((si S21 702 v0) ^^^ ((-1)))) v4 tv0 S23 hz22) (cwV 3 hts gX8_receive_X8_addReferences rfl rfl rfl (by decide +kernel) ⟨Nat.le_of_ble_eq_true rfl, Nat.le_of_ble_eq_true rfl⟩) rfl rfl (Nat.le_of_ble_eq_true rfl) dX8_receive_190 ⟨Nat.le_of_ble_eq_true rfl, Nat.le_of_ble_eq_true rfl⟩ (fun H locs hPz22 hW hS => ?_)
    refine W.eq (g2 := F0 m 193 ls []) rfl ?_
    refine lv_aload_n hx hb dX8_receive_193 rfl (lv_at hl 0 rfl) ?_
    replace hf := obE hf
    obtain ⟨j26, qj26, hf⟩ := hf
    have tj26 := x_rt hW qj26 2 ⟨by decide, rfl⟩
    refine x_getr 711 (ci := 7) (C := RX8) (T := TX8) (N := 16) 11 hC hinX8 hW tv0 rfl rfl ⟨by decide, by decide, rfl, rfl⟩ rfl w_3 dX8_receive_194 qj26 ?_
    refine lv_aload_n hx hb dX8_receive_197 rfl (lv_at hl 0 rfl) ?_
    refine x_geti 701 (ci := 7) (C := RX8) (T := TX8) (N := 16) 1 hC hinX8 hW tv0 rfl rfl ⟨by decide, by decide, rfl, rfl⟩ rfl w_4 dX8_receive_198 ?_
    refine lv_iconst (v := 1) hx hb dX8_receive_201 (by decide) ?_
    refine lv_iload hx hb dX8_receive_202 (lv_at hl 3 rfl) ?_
    replace hf := obE hf
    obtain ⟨S28, hz27, hf⟩ := hf
    refine x_callV (As := [.int (si S23 701 v0), .int 1, .int v5]) (rest := []) (o := none) (S1 := S28) hC hl.1 hW hS hGs hA tj26 rfl (show vwCl[2]? = some (RX2, TX2, 5) ∧ ob 2 from ⟨rfl, by decide⟩) (c_X2_note l g adL nL KL H.size F S23 j26 (si S23 701 v0) ((1 : Int32)) v5 tj26 S28 hz27) (cwV 3 hts gX8_receive_X2_note rfl rfl rfl (by decide +kernel) ⟨Nat.le_of_ble_eq_true rfl, Nat.le_of_ble_eq_true rfl⟩) rfl rfl (Nat.le_of_ble_eq_true rfl) dX8_receive_204 ⟨Nat.le_of_ble_eq_true rfl, Nat.le_of_ble_eq_true rfl⟩ (fun H locs hPz27 hW hS => ?_)
    refine W.eq (g2 := F0 m 207 ls []) rfl ?_
    refine lv_iload hx hb dX8_receive_207 (lv_at hl 3 rfl) ?_
    obtain ⟨e1, e2, e3⟩ := so3 hf
    subst e1
    subst e2
    subst e3
    exact W.iret (v := v5) hx hb hr (fun t ht hWm => ⟨⟨adL, KL, rfl, hagL, trivial, by rw [ht]; exact hW⟩, hS.F ht⟩) hS.2.2 dX8_receive_209 hlk
  have L600132 : ∀ (adL KL : Nat → Nat) (nL : Nat) (hagL : Ag ad K n adL KL nL) (S0 : St) (v0 : Nat) (v3 : Int32) (v4 : Int32) (v5 : Int32) (v6 : Nat) (tv0 : v0 < nL ∧ KL v0 = 7) (tv6 : v6 < nL ∧ KL v6 = 3) (H : Heap) (locs : List Loc) (ls : Array Slot), f_X8_receive_L600132 F S0 nL v0 v3 v4 v5 v6 = some (r9, S9, n9) → Wb g adL nL KL S0 (dA ad n s.heap.size) H → va_S (dA ad n s.heap.size) s.heap H locs → lv_has ls 9 [(0, .ref (adL v0)), (3, .int v3), (4, .int v4), (5, .int v5), (6, .ref (adL v6))] → W p l e (headSpec wsX8_receive { frames := 5, cells := 10, slots := 8177, locals := 115 }).room s m (List.toArray [.ref (ad p0), .ref (ad p1), .int p2, .int p3, .int p4]) below meth c H locs 10 8177 (MQ below (QA ad K n (fun _ => (some (.int r9))) g n9 S9 (dA ad n s.heap.size) (fun _ => True)) (List.toArray [.ref (ad p0), .ref (ad p1), .int p2, .int p3, .int p4]) s 10 8177 (dA ad n s.heap.size)) (F0 m 132 ls []) := by
    intro adL KL nL hagL S0 v0 v3 v4 v5 v6 tv0 tv6 H locs ls hf hW hS hl
    unfold f_X8_receive_L600132 at hf
    refine lv_iload hx hb dX8_receive_132 (lv_at hl 3 rfl) ?_
    refine lv_if_lt (tgt := 156) hx hb dX8_receive_134 (by decide) (fun c37 => ?_) (fun c37 => ?_)
    · replace hf := ifT c37 hf
      exact L600156 adL KL nL hagL S0 v0 v3 v4 v5 v6 tv0 tv6 _ _ _ hf hW hS (lv_sub hl [0, 1, 2, 3, 4] rfl)
    · replace hf := ifF c37 hf
      refine lv_iload hx hb dX8_receive_137 (lv_at hl 3 rfl) ?_
      refine lv_aload_n hx hb dX8_receive_139 rfl (lv_at hl 0 rfl) ?_
      replace hf := obE hf
      obtain ⟨j38, qj38, hf⟩ := hf
      have tj38 := x_rt hW qj38 15 ⟨by decide, rfl⟩
      refine x_getr 706 (ci := 7) (C := RX8) (T := TX8) (N := 16) 6 hC hinX8 hW tv0 rfl rfl ⟨by decide, by decide, rfl, rfl⟩ rfl w_5 dX8_receive_140 qj38 ?_
      refine x_alen hC hW tj38 rfl ⟨by decide, by decide⟩ dX8_receive_143 ?_
      refine lv_icmp_ge (tgt := 156) hx hb dX8_receive_144 (by decide) (fun c39 => ?_) (fun c39 => ?_)
      · replace hf := ifT c39 hf
        exact L600156 adL KL nL hagL S0 v0 v3 v4 v5 v6 tv0 tv6 _ _ _ hf hW hS (lv_sub hl [0, 1, 2, 3, 4] rfl)
      · replace hf := ifF c39 hf
        refine lv_aload_n hx hb dX8_receive_147 rfl (lv_at hl 0 rfl) ?_
        replace hf := obE hf
        obtain ⟨j40, qj40, hf⟩ := hf
        have tj40 := x_rt hW qj40 15 ⟨by decide, rfl⟩
        refine x_getr 706 (ci := 7) (C := RX8) (T := TX8) (N := 16) 6 hC hinX8 hW tv0 rfl rfl ⟨by decide, by decide, rfl, rfl⟩ rfl w_5 dX8_receive_148 qj40 ?_
        refine lv_iload hx hb dX8_receive_151 (lv_at hl 3 rfl) ?_
        refine lv_aload hx hb dX8_receive_153 (lv_at hl 4 rfl) ?_
        replace hf := ckiE hf
        obtain ⟨h41, hf⟩ := hf
        refine x_aast (C := RX4) (T := TX4) (N := 5) (t0 := 4) hC hW hS tj40 rfl tv6 rfl ⟨by decide, rfl, rfl, rfl, by decide⟩ h41 dX8_receive_155 (fun S42 H locs eS42 hW hS => ?_)
        replace hf := ltE hf S42 eS42
        exact L600156 adL KL nL hagL S42 v0 v3 v4 v5 v6 tv0 tv6 _ _ _ hf hW hS (lv_sub hl [0, 1, 2, 3, 4] rfl)
  have L300126 : ∀ (adL KL : Nat → Nat) (nL : Nat) (hagL : Ag ad K n adL KL nL) (S0 : St) (v0 : Nat) (v1 : Nat) (v3 : Int32) (v4 : Int32) (v5 : Int32) (v6 : Nat) (v7 : Int32) (tv0 : v0 < nL ∧ KL v0 = 7) (tv1 : v1 < nL ∧ KL v1 = 1) (tv6 : v6 < nL ∧ KL v6 = 3) (H : Heap) (locs : List Loc) (ls : Array Slot), f_X8_receive_L300126 F S0 nL v0 v1 v3 v4 v5 v6 v7 = some (r9, S9, n9) → Wb g adL nL KL S0 (dA ad n s.heap.size) H → va_S (dA ad n s.heap.size) s.heap H locs → lv_has ls 9 [(0, .ref (adL v0)), (1, .ref (adL v1)), (3, .int v3), (4, .int v4), (5, .int v5), (6, .ref (adL v6)), (7, .int v7)] → W p l e (headSpec wsX8_receive { frames := 5, cells := 10, slots := 8177, locals := 115 }).room s m (List.toArray [.ref (ad p0), .ref (ad p1), .int p2, .int p3, .int p4]) below meth c H locs 10 8177 (MQ below (QA ad K n (fun _ => (some (.int r9))) g n9 S9 (dA ad n s.heap.size) (fun _ => True)) (List.toArray [.ref (ad p0), .ref (ad p1), .int p2, .int p3, .int p4]) s 10 8177 (dA ad n s.heap.size)) (F0 m 126 ls []) := by
    intro adL KL nL hagL S0 v0 v1 v3 v4 v5 v6 v7 tv0 tv1 tv6 H locs ls hf hW hS hl
    unfold f_X8_receive_L300126 at hf
    obtain ⟨x45, ex45⟩ : ∃ z : Int32, z = v7 + 1 := ⟨_, rfl⟩
    replace hf := ltE hf x45 ex45
    refine lv_iinc (v := x45) (lv' := [(7, .int x45), (0, .ref (adL v0)), (1, .ref (adL v1)), (3, .int v3), (4, .int v4), (5, .int v5), (6, .ref (adL v6))]) hx hb dX8_receive_126 hl (k := 6) rfl (by rw [ex45]; rfl) (by decide) rfl (fun ls hl => ?_)
    refine lv_goto (tgt := 55) hx hb dX8_receive_129 (by decide) ?_
    refine lv_iload hx hb dX8_receive_55 (lv_at hl 0 rfl) ?_
    refine lv_aload_n hx hb dX8_receive_57 rfl (lv_at hl 2 rfl) ?_
    refine x_getiN 103 (ci := 1) (C := RX1) (T := TX1) (N := 4) 3 hC hinX1 hW tv1 rfl rfl ⟨by decide, by decide, rfl, rfl⟩ rfl w_6 dX8_receive_58 ?_
    refine lv_icmp_ge (tgt := 132) hx hb dX8_receive_61 (by decide) (fun c46 => ?_) (fun c46 => ?_)
    · replace hf := ifT c46 hf
      exact L600132 adL KL nL hagL S0 v0 v3 v4 v5 v6 tv0 tv6 _ _ _ hf hW hS (lv_sub hl [1, 3, 4, 5, 6] rfl)
    · replace hf := ifF c46 hf
      cases hf
  have L200126 : ∀ (adL KL : Nat → Nat) (nL : Nat) (hagL : Ag ad K n adL KL nL) (S0 : St) (v0 : Nat) (v1 : Nat) (v3 : Int32) (v4 : Int32) (v5 : Int32) (v6 : Nat) (v7 : Int32) (tv0 : v0 < nL ∧ KL v0 = 7) (tv1 : v1 < nL ∧ KL v1 = 1) (tv6 : v6 < nL ∧ KL v6 = 3) (H : Heap) (locs : List Loc) (ls : Array Slot), f_X8_receive_L200126 F S0 nL v0 v1 v3 v4 v5 v6 v7 = some (r9, S9, n9) → Wb g adL nL KL S0 (dA ad n s.heap.size) H → va_S (dA ad n s.heap.size) s.heap H locs → lv_has ls 9 [(0, .ref (adL v0)), (1, .ref (adL v1)), (3, .int v3), (4, .int v4), (5, .int v5), (6, .ref (adL v6)), (7, .int v7)] → W p l e (headSpec wsX8_receive { frames := 5, cells := 10, slots := 8177, locals := 115 }).room s m (List.toArray [.ref (ad p0), .ref (ad p1), .int p2, .int p3, .int p4]) below meth c H locs 8 6135 (MQ below (QA ad K n (fun _ => (some (.int r9))) g n9 S9 (dA ad n s.heap.size) (fun _ => True)) (List.toArray [.ref (ad p0), .ref (ad p1), .int p2, .int p3, .int p4]) s 10 8177 (dA ad n s.heap.size)) (F0 m 126 ls []) := by
    intro adL KL nL hagL S0 v0 v1 v3 v4 v5 v6 v7 tv0 tv1 tv6 H locs ls hf hW hS hl
    unfold f_X8_receive_L200126 at hf
    obtain ⟨x85, ex85⟩ : ∃ z : Int32, z = v7 + 1 := ⟨_, rfl⟩
    replace hf := ltE hf x85 ex85
    refine lv_iinc (v := x85) (lv' := [(7, .int x85), (0, .ref (adL v0)), (1, .ref (adL v1)), (3, .int v3), (4, .int v4), (5, .int v5), (6, .ref (adL v6))]) hx hb dX8_receive_126 hl (k := 6) rfl (by rw [ex85]; rfl) (by decide) rfl (fun ls hl => ?_)
    refine lv_goto (tgt := 55) hx hb dX8_receive_129 (by decide) ?_
    refine lv_iload hx hb dX8_receive_55 (lv_at hl 0 rfl) ?_
    refine lv_aload_n hx hb dX8_receive_57 rfl (lv_at hl 2 rfl) ?_
    refine x_getiN 103 (ci := 1) (C := RX1) (T := TX1) (N := 4) 3 hC hinX1 hW tv1 rfl rfl ⟨by decide, by decide, rfl, rfl⟩ rfl w_6 dX8_receive_58 ?_
    refine lv_icmp_ge (tgt := 132) hx hb dX8_receive_61 (by decide) (fun c86 => ?_) (fun c86 => ?_)
    · replace hf := ifT c86 hf
      refine W.widen (k := 10) (n := 8177) (Nat.le_of_ble_eq_true rfl) (Nat.le_of_ble_eq_true rfl) ?_
      exact L600132 adL KL nL hagL S0 v0 v3 v4 v5 v6 tv0 tv6 _ _ _ hf hW hS (lv_sub hl [1, 3, 4, 5, 6] rfl)
    · replace hf := ifF c86 hf
      refine lv_aload_n hx hb dX8_receive_64 rfl (lv_at hl 1 rfl) ?_
      replace hf := obE hf
      obtain ⟨j87, qj87, hf⟩ := hf
      have tj87 := x_rt hW qj87 8 ⟨by decide, rfl⟩
      refine x_getr 710 (ci := 7) (C := RX8) (T := TX8) (N := 16) 10 hC hinX8 hW tv0 rfl rfl ⟨by decide, by decide, rfl, rfl⟩ rfl w_7 dX8_receive_65 qj87 ?_
      refine lv_aload_n hx hb dX8_receive_68 rfl (lv_at hl 2 rfl) ?_
      refine lv_iload hx hb dX8_receive_69 (lv_at hl 0 rfl) ?_
      refine lv_iload hx hb dX8_receive_71 (lv_at hl 5 rfl) ?_
      replace hf := obE hf
      obtain ⟨z88, hz88, hf⟩ := hf
      obtain ⟨r90, S89, n91⟩ := z88
      replace hf := ltE (ltE (ltE hf r90 rfl) S89 rfl) n91 rfl
      refine x_acallV (As := [.ref (adL v1), .int x85, .int v5]) (rest := []) (S1 := S89) (n1 := n91) (o := (fun _ => some (.int r90))) (P := (fun _ => True)) hC hl.1 hW hS hGs hA tj87 rfl (show vwCl[8]? = some (RX9, TX9, 8) ∧ ob 8 from ⟨rfl, by decide⟩) (c_X9_numberFor l g adL nL KL H.size F S0 j87 v1 x85 v5 tj87 tv1 r90 S89 n91 hz88) (cwV 3 hts gX8_receive_X9_numberFor rfl rfl rfl (by decide +kernel) ⟨Nat.le_of_ble_eq_true rfl, Nat.le_of_ble_eq_true rfl⟩) rfl rfl (Nat.le_of_ble_eq_true rfl) dX8_receive_73 ⟨(Nat.le_of_ble_eq_true rfl), (Nat.le_of_ble_eq_true rfl)⟩ (fun ad92 K93 H locs hag94 hPz88 hW hS => ?_)
      have g95 := hag94.t tv0
      have g96 := hag94.e tv0 rfl
      have g97 := hag94.t tv1
      have g98 := hag94.e tv1 rfl
      have g99 := hag94.t tv6
      have g100 := hag94.e tv6 rfl
      have ag101 := (hagL).tr hag94
      refine W.widen (k := 10) (n := 8177) (by omega) (by omega) ?_
      refine W.eq (g2 := F0 m 76 ls [.int r90]) rfl ?_
      refine lv_istore (lv' := [(8, .int r90), (7, .int x85), (0, .ref (adL v0)), (1, .ref (adL v1)), (3, .int v3), (4, .int v4), (5, .int v5), (6, .ref (adL v6))]) hx hb dX8_receive_76 hl (by decide) rfl (fun ls hl => ?_)
      refine lv_aload hx hb dX8_receive_78 (lv_at hl 7 rfl) ?_
      replace hf := obE hf
      obtain ⟨j102, qj102, hf⟩ := hf
      have tj102 := x_rt hW qj102 12 ⟨by decide, rfl⟩
      refine x_getrN 303 (ci := 3) (C := RX4) (T := TX4) (N := 5) 3 hC hinX4 hW g99 g100 rfl ⟨by decide, by decide, rfl, rfl⟩ rfl w_8 dX8_receive_80 qj102 ?_
      refine lv_iload hx hb dX8_receive_83 (lv_at hl 1 rfl) ?_
      refine lv_iload hx hb dX8_receive_85 (lv_at hl 0 rfl) ?_
      replace hf := obE hf
      obtain ⟨S104, hz103, hf⟩ := hf
      refine x_callSN (As := [.ref (ad92 j102), .int x85, .int r90]) (rest := []) (o := none) (S1 := S104) hC hl.1 hW hS hGs hA (c_X10_put l g ad92 n91 K93 H.size F S89 j102 x85 r90 tj102 S104 hz103) ⟨va_cnB 3 hts gX8_receive_X10_put_n181 rfl rfl rfl (va_Nw.of rfl w_9) w_10 (by decide +kernel) ⟨Nat.le_of_ble_eq_true rfl, Nat.le_of_ble_eq_true rfl⟩, w_11, trivial⟩ rfl rfl (Nat.le_of_ble_eq_true rfl) dX8_receive_87 ⟨Nat.le_of_ble_eq_true rfl, Nat.le_of_ble_eq_true rfl⟩ (fun H locs hPz103 hW hS => ?_)
      refine W.eq (g2 := F0 m 90 ls []) rfl ?_
      refine lv_aload_n hx hb dX8_receive_90 rfl (lv_at hl 3 rfl) ?_
      refine lv_iload hx hb dX8_receive_91 (lv_at hl 1 rfl) ?_
      replace hf := obE hf
      obtain ⟨z107, hz107, hf⟩ := hf
      obtain ⟨r109, S108⟩ := z107
      replace hf := ltE (ltE hf r109 rfl) S108 rfl
      refine x_callV (As := [.int x85]) (rest := []) (o := (some (.int r109))) (S1 := S108) hC hl.1 hW hS hGs hA g97 rfl (show vwCl[1]? = some (RX1, TX1, 4) ∧ ob 1 from ⟨rfl, by decide⟩) (c_X1_isFirstOfItsKind l g ad92 n91 K93 H.size F S104 v1 x85 g97 r109 S108 hz107) (cwV 1 hts gX8_receive_X1_isFirstOfItsKind rfl rfl rfl (by decide +kernel) ⟨Nat.le_of_ble_eq_true rfl, Nat.le_of_ble_eq_true rfl⟩) rfl (by rw [g98] <;> rfl) (Nat.le_of_ble_eq_true rfl) dX8_receive_93 ⟨Nat.le_of_ble_eq_true rfl, Nat.le_of_ble_eq_true rfl⟩ (fun H locs hPz107 hW hS => ?_)
      refine W.eq (g2 := F0 m 96 ls [.int r109]) rfl ?_
      refine lv_if_eq (tgt := 126) hx hb dX8_receive_96 (by decide) (fun c111 => ?_) (fun c111 => ?_)
      · replace hf := ifT c111 hf
        exact L300126 ad92 K93 n91 ag101 S108 v0 v1 v3 v4 v5 v6 x85 g95 g97 g99 _ _ _ hf hW hS (lv_sub hl [2, 3, 4, 5, 6, 7, 1] (by rw [g96, g98, g100] <;> rfl))
      · replace hf := ifF c111 hf
        refine lv_aload_n hx hb dX8_receive_99 rfl (lv_at hl 2 rfl) ?_
        replace hf := obE hf
        obtain ⟨j112, qj112, hf⟩ := hf
        have tj112 := x_rt hW qj112 8 ⟨by decide, rfl⟩
        refine x_getr 710 (ci := 7) (C := RX8) (T := TX8) (N := 16) 10 hC hinX8 hW g95 g96 rfl ⟨by decide, by decide, rfl, rfl⟩ rfl w_7 dX8_receive_100 qj112 ?_
        refine lv_iload hx hb dX8_receive_103 (lv_at hl 0 rfl) ?_
        replace hf := obE hf
        obtain ⟨z113, hz113, hf⟩ := hf
        obtain ⟨r115, S114⟩ := z113
        replace hf := ltE (ltE hf r115 rfl) S114 rfl
        refine x_callV (As := [.int r90]) (rest := []) (o := (some (.int r115))) (S1 := S114) hC hl.1 hW hS hGs hA tj112 rfl (show vwCl[8]? = some (RX9, TX9, 8) ∧ ob 8 from ⟨rfl, by decide⟩) (c_X9_addKeeper l g ad92 n91 K93 H.size F S108 j112 r90 tj112 r115 S114 hz113) (cwV 1 hts gX8_receive_X9_addKeeper rfl rfl rfl (by decide +kernel) ⟨Nat.le_of_ble_eq_true rfl, Nat.le_of_ble_eq_true rfl⟩) rfl rfl (Nat.le_of_ble_eq_true rfl) dX8_receive_105 ⟨Nat.le_of_ble_eq_true rfl, Nat.le_of_ble_eq_true rfl⟩ (fun H locs hPz113 hW hS => ?_)
        refine W.eq (g2 := F0 m 108 ls [.int r115]) rfl ?_
        refine lv_if_eq (tgt := 126) hx hb dX8_receive_108 (by decide) (fun c117 => ?_) (fun c117 => ?_)
        · replace hf := ifT c117 hf
          exact L300126 ad92 K93 n91 ag101 S114 v0 v1 v3 v4 v5 v6 x85 g95 g97 g99 _ _ _ hf hW hS (lv_sub hl [2, 3, 4, 5, 6, 7, 1] (by rw [g96, g98, g100] <;> rfl))
        · replace hf := ifF c117 hf
          refine lv_aload_n hx hb dX8_receive_111 rfl (lv_at hl 2 rfl) ?_
          replace hf := obE hf
          obtain ⟨j118, qj118, hf⟩ := hf
          have tj118 := x_rt hW qj118 2 ⟨by decide, rfl⟩
          refine x_getr 711 (ci := 7) (C := RX8) (T := TX8) (N := 16) 11 hC hinX8 hW g95 g96 rfl ⟨by decide, by decide, rfl, rfl⟩ rfl w_3 dX8_receive_112 qj118 ?_
          refine lv_aload_n hx hb dX8_receive_115 rfl (lv_at hl 2 rfl) ?_
          refine x_geti 701 (ci := 7) (C := RX8) (T := TX8) (N := 16) 1 hC hinX8 hW g95 g96 rfl ⟨by decide, by decide, rfl, rfl⟩ rfl w_4 dX8_receive_116 ?_
          refine lv_bipush (v := 7) hx hb dX8_receive_119 (by decide) ?_
          refine lv_iload hx hb dX8_receive_121 (lv_at hl 0 rfl) ?_
          replace hf := obE hf
          obtain ⟨S120, hz119, hf⟩ := hf
          refine x_callV (As := [.int (si S114 701 v0), .int 7, .int r90]) (rest := []) (o := none) (S1 := S120) hC hl.1 hW hS hGs hA tj118 rfl (show vwCl[2]? = some (RX2, TX2, 5) ∧ ob 2 from ⟨rfl, by decide⟩) (c_X2_note l g ad92 n91 K93 H.size F S114 j118 (si S114 701 v0) ((7 : Int32)) r90 tj118 S120 hz119) (cwV 3 hts gX8_receive_X2_note rfl rfl rfl (by decide +kernel) ⟨Nat.le_of_ble_eq_true rfl, Nat.le_of_ble_eq_true rfl⟩) rfl rfl (Nat.le_of_ble_eq_true rfl) dX8_receive_123 ⟨Nat.le_of_ble_eq_true rfl, Nat.le_of_ble_eq_true rfl⟩ (fun H locs hPz119 hW hS => ?_)
          refine W.eq (g2 := F0 m 126 ls []) rfl ?_
          exact L300126 ad92 K93 n91 ag101 S120 v0 v1 v3 v4 v5 v6 x85 g95 g97 g99 _ _ _ hf hW hS (lv_sub hl [2, 3, 4, 5, 6, 7, 1] (by rw [g96, g98, g100] <;> rfl))
  have L100126 : ∀ (adL KL : Nat → Nat) (nL : Nat) (hagL : Ag ad K n adL KL nL) (S0 : St) (v0 : Nat) (v1 : Nat) (v3 : Int32) (v4 : Int32) (v5 : Int32) (v6 : Nat) (v7 : Int32) (tv0 : v0 < nL ∧ KL v0 = 7) (tv1 : v1 < nL ∧ KL v1 = 1) (tv6 : v6 < nL ∧ KL v6 = 3) (H : Heap) (locs : List Loc) (ls : Array Slot), f_X8_receive_L100126 F S0 nL v0 v1 v3 v4 v5 v6 v7 = some (r9, S9, n9) → Wb g adL nL KL S0 (dA ad n s.heap.size) H → va_S (dA ad n s.heap.size) s.heap H locs → lv_has ls 9 [(0, .ref (adL v0)), (1, .ref (adL v1)), (3, .int v3), (4, .int v4), (5, .int v5), (6, .ref (adL v6)), (7, .int v7)] → W p l e (headSpec wsX8_receive { frames := 5, cells := 10, slots := 8177, locals := 115 }).room s m (List.toArray [.ref (ad p0), .ref (ad p1), .int p2, .int p3, .int p4]) below meth c H locs 6 4093 (MQ below (QA ad K n (fun _ => (some (.int r9))) g n9 S9 (dA ad n s.heap.size) (fun _ => True)) (List.toArray [.ref (ad p0), .ref (ad p1), .int p2, .int p3, .int p4]) s 10 8177 (dA ad n s.heap.size)) (F0 m 126 ls []) := by
    intro adL KL nL hagL S0 v0 v1 v3 v4 v5 v6 v7 tv0 tv1 tv6 H locs ls hf hW hS hl
    unfold f_X8_receive_L100126 at hf
    obtain ⟨x161, ex161⟩ : ∃ z : Int32, z = v7 + 1 := ⟨_, rfl⟩
    replace hf := ltE hf x161 ex161
    refine lv_iinc (v := x161) (lv' := [(7, .int x161), (0, .ref (adL v0)), (1, .ref (adL v1)), (3, .int v3), (4, .int v4), (5, .int v5), (6, .ref (adL v6))]) hx hb dX8_receive_126 hl (k := 6) rfl (by rw [ex161]; rfl) (by decide) rfl (fun ls hl => ?_)
    refine lv_goto (tgt := 55) hx hb dX8_receive_129 (by decide) ?_
    refine lv_iload hx hb dX8_receive_55 (lv_at hl 0 rfl) ?_
    refine lv_aload_n hx hb dX8_receive_57 rfl (lv_at hl 2 rfl) ?_
    refine x_getiN 103 (ci := 1) (C := RX1) (T := TX1) (N := 4) 3 hC hinX1 hW tv1 rfl rfl ⟨by decide, by decide, rfl, rfl⟩ rfl w_6 dX8_receive_58 ?_
    refine lv_icmp_ge (tgt := 132) hx hb dX8_receive_61 (by decide) (fun c162 => ?_) (fun c162 => ?_)
    · replace hf := ifT c162 hf
      refine W.widen (k := 10) (n := 8177) (Nat.le_of_ble_eq_true rfl) (Nat.le_of_ble_eq_true rfl) ?_
      exact L600132 adL KL nL hagL S0 v0 v3 v4 v5 v6 tv0 tv6 _ _ _ hf hW hS (lv_sub hl [1, 3, 4, 5, 6] rfl)
    · replace hf := ifF c162 hf
      refine lv_aload_n hx hb dX8_receive_64 rfl (lv_at hl 1 rfl) ?_
      replace hf := obE hf
      obtain ⟨j163, qj163, hf⟩ := hf
      have tj163 := x_rt hW qj163 8 ⟨by decide, rfl⟩
      refine x_getr 710 (ci := 7) (C := RX8) (T := TX8) (N := 16) 10 hC hinX8 hW tv0 rfl rfl ⟨by decide, by decide, rfl, rfl⟩ rfl w_7 dX8_receive_65 qj163 ?_
      refine lv_aload_n hx hb dX8_receive_68 rfl (lv_at hl 2 rfl) ?_
      refine lv_iload hx hb dX8_receive_69 (lv_at hl 0 rfl) ?_
      refine lv_iload hx hb dX8_receive_71 (lv_at hl 5 rfl) ?_
      replace hf := obE hf
      obtain ⟨z164, hz164, hf⟩ := hf
      obtain ⟨r166, S165, n167⟩ := z164
      replace hf := ltE (ltE (ltE hf r166 rfl) S165 rfl) n167 rfl
      refine x_acallV (As := [.ref (adL v1), .int x161, .int v5]) (rest := []) (S1 := S165) (n1 := n167) (o := (fun _ => some (.int r166))) (P := (fun _ => True)) hC hl.1 hW hS hGs hA tj163 rfl (show vwCl[8]? = some (RX9, TX9, 8) ∧ ob 8 from ⟨rfl, by decide⟩) (c_X9_numberFor l g adL nL KL H.size F S0 j163 v1 x161 v5 tj163 tv1 r166 S165 n167 hz164) (cwV 3 hts gX8_receive_X9_numberFor rfl rfl rfl (by decide +kernel) ⟨Nat.le_of_ble_eq_true rfl, Nat.le_of_ble_eq_true rfl⟩) rfl rfl (Nat.le_of_ble_eq_true rfl) dX8_receive_73 ⟨(Nat.le_of_ble_eq_true rfl), (Nat.le_of_ble_eq_true rfl)⟩ (fun ad168 K169 H locs hag170 hPz164 hW hS => ?_)
      have g171 := hag170.t tv0
      have g172 := hag170.e tv0 rfl
      have g173 := hag170.t tv1
      have g174 := hag170.e tv1 rfl
      have g175 := hag170.t tv6
      have g176 := hag170.e tv6 rfl
      have ag177 := (hagL).tr hag170
      refine W.widen (k := 8) (n := 6135) (by omega) (by omega) ?_
      refine W.eq (g2 := F0 m 76 ls [.int r166]) rfl ?_
      refine lv_istore (lv' := [(8, .int r166), (7, .int x161), (0, .ref (adL v0)), (1, .ref (adL v1)), (3, .int v3), (4, .int v4), (5, .int v5), (6, .ref (adL v6))]) hx hb dX8_receive_76 hl (by decide) rfl (fun ls hl => ?_)
      refine lv_aload hx hb dX8_receive_78 (lv_at hl 7 rfl) ?_
      replace hf := obE hf
      obtain ⟨j178, qj178, hf⟩ := hf
      have tj178 := x_rt hW qj178 12 ⟨by decide, rfl⟩
      refine x_getrN 303 (ci := 3) (C := RX4) (T := TX4) (N := 5) 3 hC hinX4 hW g175 g176 rfl ⟨by decide, by decide, rfl, rfl⟩ rfl w_8 dX8_receive_80 qj178 ?_
      refine lv_iload hx hb dX8_receive_83 (lv_at hl 1 rfl) ?_
      refine lv_iload hx hb dX8_receive_85 (lv_at hl 0 rfl) ?_
      replace hf := obE hf
      obtain ⟨S180, hz179, hf⟩ := hf
      refine x_callSN (As := [.ref (ad168 j178), .int x161, .int r166]) (rest := []) (o := none) (S1 := S180) hC hl.1 hW hS hGs hA (c_X10_put l g ad168 n167 K169 H.size F S165 j178 x161 r166 tj178 S180 hz179) ⟨va_cnB 3 hts gX8_receive_X10_put_n181 rfl rfl rfl (va_Nw.of rfl w_9) w_10 (by decide +kernel) ⟨Nat.le_of_ble_eq_true rfl, Nat.le_of_ble_eq_true rfl⟩, w_11, trivial⟩ rfl rfl (Nat.le_of_ble_eq_true rfl) dX8_receive_87 ⟨Nat.le_of_ble_eq_true rfl, Nat.le_of_ble_eq_true rfl⟩ (fun H locs hPz179 hW hS => ?_)
      refine W.eq (g2 := F0 m 90 ls []) rfl ?_
      refine lv_aload_n hx hb dX8_receive_90 rfl (lv_at hl 3 rfl) ?_
      refine lv_iload hx hb dX8_receive_91 (lv_at hl 1 rfl) ?_
      replace hf := obE hf
      obtain ⟨z183, hz183, hf⟩ := hf
      obtain ⟨r185, S184⟩ := z183
      replace hf := ltE (ltE hf r185 rfl) S184 rfl
      refine x_callV (As := [.int x161]) (rest := []) (o := (some (.int r185))) (S1 := S184) hC hl.1 hW hS hGs hA g173 rfl (show vwCl[1]? = some (RX1, TX1, 4) ∧ ob 1 from ⟨rfl, by decide⟩) (c_X1_isFirstOfItsKind l g ad168 n167 K169 H.size F S180 v1 x161 g173 r185 S184 hz183) (cwV 1 hts gX8_receive_X1_isFirstOfItsKind rfl rfl rfl (by decide +kernel) ⟨Nat.le_of_ble_eq_true rfl, Nat.le_of_ble_eq_true rfl⟩) rfl (by rw [g174] <;> rfl) (Nat.le_of_ble_eq_true rfl) dX8_receive_93 ⟨Nat.le_of_ble_eq_true rfl, Nat.le_of_ble_eq_true rfl⟩ (fun H locs hPz183 hW hS => ?_)
      refine W.eq (g2 := F0 m 96 ls [.int r185]) rfl ?_
      refine lv_if_eq (tgt := 126) hx hb dX8_receive_96 (by decide) (fun c187 => ?_) (fun c187 => ?_)
      · replace hf := ifT c187 hf
        exact L200126 ad168 K169 n167 ag177 S184 v0 v1 v3 v4 v5 v6 x161 g171 g173 g175 _ _ _ hf hW hS (lv_sub hl [2, 3, 4, 5, 6, 7, 1] (by rw [g172, g174, g176] <;> rfl))
      · replace hf := ifF c187 hf
        refine lv_aload_n hx hb dX8_receive_99 rfl (lv_at hl 2 rfl) ?_
        replace hf := obE hf
        obtain ⟨j188, qj188, hf⟩ := hf
        have tj188 := x_rt hW qj188 8 ⟨by decide, rfl⟩
        refine x_getr 710 (ci := 7) (C := RX8) (T := TX8) (N := 16) 10 hC hinX8 hW g171 g172 rfl ⟨by decide, by decide, rfl, rfl⟩ rfl w_7 dX8_receive_100 qj188 ?_
        refine lv_iload hx hb dX8_receive_103 (lv_at hl 0 rfl) ?_
        replace hf := obE hf
        obtain ⟨z189, hz189, hf⟩ := hf
        obtain ⟨r191, S190⟩ := z189
        replace hf := ltE (ltE hf r191 rfl) S190 rfl
        refine x_callV (As := [.int r166]) (rest := []) (o := (some (.int r191))) (S1 := S190) hC hl.1 hW hS hGs hA tj188 rfl (show vwCl[8]? = some (RX9, TX9, 8) ∧ ob 8 from ⟨rfl, by decide⟩) (c_X9_addKeeper l g ad168 n167 K169 H.size F S184 j188 r166 tj188 r191 S190 hz189) (cwV 1 hts gX8_receive_X9_addKeeper rfl rfl rfl (by decide +kernel) ⟨Nat.le_of_ble_eq_true rfl, Nat.le_of_ble_eq_true rfl⟩) rfl rfl (Nat.le_of_ble_eq_true rfl) dX8_receive_105 ⟨Nat.le_of_ble_eq_true rfl, Nat.le_of_ble_eq_true rfl⟩ (fun H locs hPz189 hW hS => ?_)
        refine W.eq (g2 := F0 m 108 ls [.int r191]) rfl ?_
        refine lv_if_eq (tgt := 126) hx hb dX8_receive_108 (by decide) (fun c193 => ?_) (fun c193 => ?_)
        · replace hf := ifT c193 hf
          exact L200126 ad168 K169 n167 ag177 S190 v0 v1 v3 v4 v5 v6 x161 g171 g173 g175 _ _ _ hf hW hS (lv_sub hl [2, 3, 4, 5, 6, 7, 1] (by rw [g172, g174, g176] <;> rfl))
        · replace hf := ifF c193 hf
          refine lv_aload_n hx hb dX8_receive_111 rfl (lv_at hl 2 rfl) ?_
          replace hf := obE hf
          obtain ⟨j194, qj194, hf⟩ := hf
          have tj194 := x_rt hW qj194 2 ⟨by decide, rfl⟩
          refine x_getr 711 (ci := 7) (C := RX8) (T := TX8) (N := 16) 11 hC hinX8 hW g171 g172 rfl ⟨by decide, by decide, rfl, rfl⟩ rfl w_3 dX8_receive_112 qj194 ?_
          refine lv_aload_n hx hb dX8_receive_115 rfl (lv_at hl 2 rfl) ?_
          refine x_geti 701 (ci := 7) (C := RX8) (T := TX8) (N := 16) 1 hC hinX8 hW g171 g172 rfl ⟨by decide, by decide, rfl, rfl⟩ rfl w_4 dX8_receive_116 ?_
          refine lv_bipush (v := 7) hx hb dX8_receive_119 (by decide) ?_
          refine lv_iload hx hb dX8_receive_121 (lv_at hl 0 rfl) ?_
          replace hf := obE hf
          obtain ⟨S196, hz195, hf⟩ := hf
          refine x_callV (As := [.int (si S190 701 v0), .int 7, .int r166]) (rest := []) (o := none) (S1 := S196) hC hl.1 hW hS hGs hA tj194 rfl (show vwCl[2]? = some (RX2, TX2, 5) ∧ ob 2 from ⟨rfl, by decide⟩) (c_X2_note l g ad168 n167 K169 H.size F S190 j194 (si S190 701 v0) ((7 : Int32)) r166 tj194 S196 hz195) (cwV 3 hts gX8_receive_X2_note rfl rfl rfl (by decide +kernel) ⟨Nat.le_of_ble_eq_true rfl, Nat.le_of_ble_eq_true rfl⟩) rfl rfl (Nat.le_of_ble_eq_true rfl) dX8_receive_123 ⟨Nat.le_of_ble_eq_true rfl, Nat.le_of_ble_eq_true rfl⟩ (fun H locs hPz195 hW hS => ?_)
          refine W.eq (g2 := F0 m 126 ls []) rfl ?_
          exact L200126 ad168 K169 n167 ag177 S196 v0 v1 v3 v4 v5 v6 x161 g171 g173 g175 _ _ _ hf hW hS (lv_sub hl [2, 3, 4, 5, 6, 7, 1] (by rw [g172, g174, g176] <;> rfl))
  have L126 : ∀ (adL KL : Nat → Nat) (nL : Nat) (hagL : Ag ad K n adL KL nL) (S0 : St) (v0 : Nat) (v1 : Nat) (v3 : Int32) (v4 : Int32) (v5 : Int32) (v6 : Nat) (v7 : Int32) (tv0 : v0 < nL ∧ KL v0 = 7) (tv1 : v1 < nL ∧ KL v1 = 1) (tv6 : v6 < nL ∧ KL v6 = 3) (H : Heap) (locs : List Loc) (ls : Array Slot), f_X8_receive_L126 F S0 nL v0 v1 v3 v4 v5 v6 v7 = some (r9, S9, n9) → Wb g adL nL KL S0 (dA ad n s.heap.size) H → va_S (dA ad n s.heap.size) s.heap H locs → lv_has ls 9 [(0, .ref (adL v0)), (1, .ref (adL v1)), (3, .int v3), (4, .int v4), (5, .int v5), (6, .ref (adL v6)), (7, .int v7)] → W p l e (headSpec wsX8_receive { frames := 5, cells := 10, slots := 8177, locals := 115 }).room s m (List.toArray [.ref (ad p0), .ref (ad p1), .int p2, .int p3, .int p4]) below meth c H locs 4 2051 (MQ below (QA ad K n (fun _ => (some (.int r9))) g n9 S9 (dA ad n s.heap.size) (fun _ => True)) (List.toArray [.ref (ad p0), .ref (ad p1), .int p2, .int p3, .int p4]) s 10 8177 (dA ad n s.heap.size)) (F0 m 126 ls []) := by
    intro adL KL nL hagL S0 v0 v1 v3 v4 v5 v6 v7 tv0 tv1 tv6 H locs ls hf hW hS hl
    unfold f_X8_receive_L126 at hf
    obtain ⟨x237, ex237⟩ : ∃ z : Int32, z = v7 + 1 := ⟨_, rfl⟩
    replace hf := ltE hf x237 ex237
    refine lv_iinc (v := x237) (lv' := [(7, .int x237), (0, .ref (adL v0)), (1, .ref (adL v1)), (3, .int v3), (4, .int v4), (5, .int v5), (6, .ref (adL v6))]) hx hb dX8_receive_126 hl (k := 6) rfl (by rw [ex237]; rfl) (by decide) rfl (fun ls hl => ?_)
    refine lv_goto (tgt := 55) hx hb dX8_receive_129 (by decide) ?_
    refine lv_iload hx hb dX8_receive_55 (lv_at hl 0 rfl) ?_
    refine lv_aload_n hx hb dX8_receive_57 rfl (lv_at hl 2 rfl) ?_
    refine x_getiN 103 (ci := 1) (C := RX1) (T := TX1) (N := 4) 3 hC hinX1 hW tv1 rfl rfl ⟨by decide, by decide, rfl, rfl⟩ rfl w_6 dX8_receive_58 ?_
    refine lv_icmp_ge (tgt := 132) hx hb dX8_receive_61 (by decide) (fun c238 => ?_) (fun c238 => ?_)
    · replace hf := ifT c238 hf
      refine W.widen (k := 10) (n := 8177) (Nat.le_of_ble_eq_true rfl) (Nat.le_of_ble_eq_true rfl) ?_
      exact L600132 adL KL nL hagL S0 v0 v3 v4 v5 v6 tv0 tv6 _ _ _ hf hW hS (lv_sub hl [1, 3, 4, 5, 6] rfl)
    · replace hf := ifF c238 hf
      refine lv_aload_n hx hb dX8_receive_64 rfl (lv_at hl 1 rfl) ?_
      replace hf := obE hf
      obtain ⟨j239, qj239, hf⟩ := hf
      have tj239 := x_rt hW qj239 8 ⟨by decide, rfl⟩
      refine x_getr 710 (ci := 7) (C := RX8) (T := TX8) (N := 16) 10 hC hinX8 hW tv0 rfl rfl ⟨by decide, by decide, rfl, rfl⟩ rfl w_7 dX8_receive_65 qj239 ?_
      refine lv_aload_n hx hb dX8_receive_68 rfl (lv_at hl 2 rfl) ?_
      refine lv_iload hx hb dX8_receive_69 (lv_at hl 0 rfl) ?_
      refine lv_iload hx hb dX8_receive_71 (lv_at hl 5 rfl) ?_
      replace hf := obE hf
      obtain ⟨z240, hz240, hf⟩ := hf
      obtain ⟨r242, S241, n243⟩ := z240
      replace hf := ltE (ltE (ltE hf r242 rfl) S241 rfl) n243 rfl
      refine x_acallV (As := [.ref (adL v1), .int x237, .int v5]) (rest := []) (S1 := S241) (n1 := n243) (o := (fun _ => some (.int r242))) (P := (fun _ => True)) hC hl.1 hW hS hGs hA tj239 rfl (show vwCl[8]? = some (RX9, TX9, 8) ∧ ob 8 from ⟨rfl, by decide⟩) (c_X9_numberFor l g adL nL KL H.size F S0 j239 v1 x237 v5 tj239 tv1 r242 S241 n243 hz240) (cwV 3 hts gX8_receive_X9_numberFor rfl rfl rfl (by decide +kernel) ⟨Nat.le_of_ble_eq_true rfl, Nat.le_of_ble_eq_true rfl⟩) rfl rfl (Nat.le_of_ble_eq_true rfl) dX8_receive_73 ⟨(Nat.le_of_ble_eq_true rfl), (Nat.le_of_ble_eq_true rfl)⟩ (fun ad244 K245 H locs hag246 hPz240 hW hS => ?_)
      have g247 := hag246.t tv0
      have g248 := hag246.e tv0 rfl
      have g249 := hag246.t tv1
      have g250 := hag246.e tv1 rfl
      have g251 := hag246.t tv6
      have g252 := hag246.e tv6 rfl
      have ag253 := (hagL).tr hag246
      refine W.widen (k := 6) (n := 4093) (by omega) (by omega) ?_
      refine W.eq (g2 := F0 m 76 ls [.int r242]) rfl ?_
      refine lv_istore (lv' := [(8, .int r242), (7, .int x237), (0, .ref (adL v0)), (1, .ref (adL v1)), (3, .int v3), (4, .int v4), (5, .int v5), (6, .ref (adL v6))]) hx hb dX8_receive_76 hl (by decide) rfl (fun ls hl => ?_)
      refine lv_aload hx hb dX8_receive_78 (lv_at hl 7 rfl) ?_
      replace hf := obE hf
      obtain ⟨j254, qj254, hf⟩ := hf
      have tj254 := x_rt hW qj254 12 ⟨by decide, rfl⟩
      refine x_getrN 303 (ci := 3) (C := RX4) (T := TX4) (N := 5) 3 hC hinX4 hW g251 g252 rfl ⟨by decide, by decide, rfl, rfl⟩ rfl w_8 dX8_receive_80 qj254 ?_
      refine lv_iload hx hb dX8_receive_83 (lv_at hl 1 rfl) ?_
      refine lv_iload hx hb dX8_receive_85 (lv_at hl 0 rfl) ?_
      replace hf := obE hf
      obtain ⟨S256, hz255, hf⟩ := hf
      refine x_callSN (As := [.ref (ad244 j254), .int x237, .int r242]) (rest := []) (o := none) (S1 := S256) hC hl.1 hW hS hGs hA (c_X10_put l g ad244 n243 K245 H.size F S241 j254 x237 r242 tj254 S256 hz255) ⟨va_cnB 3 hts gX8_receive_X10_put_n181 rfl rfl rfl (va_Nw.of rfl w_9) w_10 (by decide +kernel) ⟨Nat.le_of_ble_eq_true rfl, Nat.le_of_ble_eq_true rfl⟩, w_11, trivial⟩ rfl rfl (Nat.le_of_ble_eq_true rfl) dX8_receive_87 ⟨Nat.le_of_ble_eq_true rfl, Nat.le_of_ble_eq_true rfl⟩ (fun H locs hPz255 hW hS => ?_)
      refine W.eq (g2 := F0 m 90 ls []) rfl ?_
      refine lv_aload_n hx hb dX8_receive_90 rfl (lv_at hl 3 rfl) ?_
      refine lv_iload hx hb dX8_receive_91 (lv_at hl 1 rfl) ?_
      replace hf := obE hf
      obtain ⟨z259, hz259, hf⟩ := hf
      obtain ⟨r261, S260⟩ := z259
      replace hf := ltE (ltE hf r261 rfl) S260 rfl
      refine x_callV (As := [.int x237]) (rest := []) (o := (some (.int r261))) (S1 := S260) hC hl.1 hW hS hGs hA g249 rfl (show vwCl[1]? = some (RX1, TX1, 4) ∧ ob 1 from ⟨rfl, by decide⟩) (c_X1_isFirstOfItsKind l g ad244 n243 K245 H.size F S256 v1 x237 g249 r261 S260 hz259) (cwV 1 hts gX8_receive_X1_isFirstOfItsKind rfl rfl rfl (by decide +kernel) ⟨Nat.le_of_ble_eq_true rfl, Nat.le_of_ble_eq_true rfl⟩) rfl (by rw [g250] <;> rfl) (Nat.le_of_ble_eq_true rfl) dX8_receive_93 ⟨Nat.le_of_ble_eq_true rfl, Nat.le_of_ble_eq_true rfl⟩ (fun H locs hPz259 hW hS => ?_)
      refine W.eq (g2 := F0 m 96 ls [.int r261]) rfl ?_
      refine lv_if_eq (tgt := 126) hx hb dX8_receive_96 (by decide) (fun c263 => ?_) (fun c263 => ?_)
      · replace hf := ifT c263 hf
        exact L100126 ad244 K245 n243 ag253 S260 v0 v1 v3 v4 v5 v6 x237 g247 g249 g251 _ _ _ hf hW hS (lv_sub hl [2, 3, 4, 5, 6, 7, 1] (by rw [g248, g250, g252] <;> rfl))
      · replace hf := ifF c263 hf
        refine lv_aload_n hx hb dX8_receive_99 rfl (lv_at hl 2 rfl) ?_
        replace hf := obE hf
        obtain ⟨j264, qj264, hf⟩ := hf
        have tj264 := x_rt hW qj264 8 ⟨by decide, rfl⟩
        refine x_getr 710 (ci := 7) (C := RX8) (T := TX8) (N := 16) 10 hC hinX8 hW g247 g248 rfl ⟨by decide, by decide, rfl, rfl⟩ rfl w_7 dX8_receive_100 qj264 ?_
        refine lv_iload hx hb dX8_receive_103 (lv_at hl 0 rfl) ?_
        replace hf := obE hf
        obtain ⟨z265, hz265, hf⟩ := hf
        obtain ⟨r267, S266⟩ := z265
        replace hf := ltE (ltE hf r267 rfl) S266 rfl
        refine x_callV (As := [.int r242]) (rest := []) (o := (some (.int r267))) (S1 := S266) hC hl.1 hW hS hGs hA tj264 rfl (show vwCl[8]? = some (RX9, TX9, 8) ∧ ob 8 from ⟨rfl, by decide⟩) (c_X9_addKeeper l g ad244 n243 K245 H.size F S260 j264 r242 tj264 r267 S266 hz265) (cwV 1 hts gX8_receive_X9_addKeeper rfl rfl rfl (by decide +kernel) ⟨Nat.le_of_ble_eq_true rfl, Nat.le_of_ble_eq_true rfl⟩) rfl rfl (Nat.le_of_ble_eq_true rfl) dX8_receive_105 ⟨Nat.le_of_ble_eq_true rfl, Nat.le_of_ble_eq_true rfl⟩ (fun H locs hPz265 hW hS => ?_)
        refine W.eq (g2 := F0 m 108 ls [.int r267]) rfl ?_
        refine lv_if_eq (tgt := 126) hx hb dX8_receive_108 (by decide) (fun c269 => ?_) (fun c269 => ?_)
        · replace hf := ifT c269 hf
          exact L100126 ad244 K245 n243 ag253 S266 v0 v1 v3 v4 v5 v6 x237 g247 g249 g251 _ _ _ hf hW hS (lv_sub hl [2, 3, 4, 5, 6, 7, 1] (by rw [g248, g250, g252] <;> rfl))
        · replace hf := ifF c269 hf
          refine lv_aload_n hx hb dX8_receive_111 rfl (lv_at hl 2 rfl) ?_
          replace hf := obE hf
          obtain ⟨j270, qj270, hf⟩ := hf
          have tj270 := x_rt hW qj270 2 ⟨by decide, rfl⟩
          refine x_getr 711 (ci := 7) (C := RX8) (T := TX8) (N := 16) 11 hC hinX8 hW g247 g248 rfl ⟨by decide, by decide, rfl, rfl⟩ rfl w_3 dX8_receive_112 qj270 ?_
          refine lv_aload_n hx hb dX8_receive_115 rfl (lv_at hl 2 rfl) ?_
          refine x_geti 701 (ci := 7) (C := RX8) (T := TX8) (N := 16) 1 hC hinX8 hW g247 g248 rfl ⟨by decide, by decide, rfl, rfl⟩ rfl w_4 dX8_receive_116 ?_
          refine lv_bipush (v := 7) hx hb dX8_receive_119 (by decide) ?_
          refine lv_iload hx hb dX8_receive_121 (lv_at hl 0 rfl) ?_
          replace hf := obE hf
          obtain ⟨S272, hz271, hf⟩ := hf
          refine x_callV (As := [.int (si S266 701 v0), .int 7, .int r242]) (rest := []) (o := none) (S1 := S272) hC hl.1 hW hS hGs hA tj270 rfl (show vwCl[2]? = some (RX2, TX2, 5) ∧ ob 2 from ⟨rfl, by decide⟩) (c_X2_note l g ad244 n243 K245 H.size F S266 j270 (si S266 701 v0) ((7 : Int32)) r242 tj270 S272 hz271) (cwV 3 hts gX8_receive_X2_note rfl rfl rfl (by decide +kernel) ⟨Nat.le_of_ble_eq_true rfl, Nat.le_of_ble_eq_true rfl⟩) rfl rfl (Nat.le_of_ble_eq_true rfl) dX8_receive_123 ⟨Nat.le_of_ble_eq_true rfl, Nat.le_of_ble_eq_true rfl⟩ (fun H locs hPz271 hW hS => ?_)
          refine W.eq (g2 := F0 m 126 ls []) rfl ?_
          exact L100126 ad244 K245 n243 ag253 S272 v0 v1 v3 v4 v5 v6 x237 g247 g249 g251 _ _ _ hf hW hS (lv_sub hl [2, 3, 4, 5, 6, 7, 1] (by rw [g248, g250, g252] <;> rfl))
  unfold f_X8_receive at hf
  refine lv_aload_n hx hb dX8_receive_0 rfl (lv_at hl 0 rfl) ?_
  refine lv_aload_n hx hb dX8_receive_1 rfl (lv_at hl 0 rfl) ?_
  refine lv_iload_n hx hb dX8_receive_2 rfl (lv_at hl 3 rfl) ?_
  refine lv_aload_n hx hb dX8_receive_3 rfl (lv_at hl 1 rfl) ?_
  replace hf := obE hf
  obtain ⟨z275, hz275, hf⟩ := hf
  obtain ⟨r277, S276⟩ := z275
  replace hf := ltE (ltE hf r277 rfl) S276 rfl
  refine x_callV (As := []) (rest := [.int p3, .ref (ad p0), .ref (ad p0)]) (o := (some (.int r277))) (S1 := S276) hC hl.1 hW hS hGs hA tp1 rfl (show vwCl[1]? = some (RX1, TX1, 4) ∧ ob 1 from ⟨rfl, by decide⟩) (c_X1_sizeOfAll l g ad n K s.heap.size F S0 p1 tp1 r277 S276 hz275) (cwV 0 hts gX8_receive_X1_sizeOfAll rfl rfl rfl (by decide +kernel) ⟨Nat.le_of_ble_eq_true rfl, Nat.le_of_ble_eq_true rfl⟩) rfl rfl (Nat.le_of_ble_eq_true rfl) dX8_receive_4 ⟨Nat.le_of_ble_eq_true rfl, Nat.le_of_ble_eq_true rfl⟩ (fun H locs hPz275 hW hS => ?_)
  refine W.eq (g2 := F0 m 7 ls [.int r277, .int p3, .ref (ad p0), .ref (ad p0)]) rfl ?_
  replace hf := obE hf
  obtain ⟨z279, hz279, hf⟩ := hf
  obtain ⟨r281, S280⟩ := z279
  replace hf := ltE (ltE hf r281 rfl) S280 rfl
  refine x_callV (As := [.int p3, .int r277]) (rest := [.ref (ad p0)]) (o := (some (.int r281))) (S1 := S280) hC hl.1 hW hS hGs hA tp0 rfl (show vwCl[7]? = some (RX8, TX8, 16) ∧ ob 7 from ⟨rfl, by decide⟩) (c_X8_bounce l g ad n K H.size F S276 p0 p3 r277 tp0 r281 S280 hz279) (cwV 2 hts gX8_receive_X8_bounce rfl rfl rfl (by decide +kernel) ⟨Nat.le_of_ble_eq_true rfl, Nat.le_of_ble_eq_true rfl⟩) rfl rfl (Nat.le_of_ble_eq_true rfl) dX8_receive_7 ⟨Nat.le_of_ble_eq_true rfl, Nat.le_of_ble_eq_true rfl⟩ (fun H locs hPz279 hW hS => ?_)
  refine W.eq (g2 := F0 m 10 ls [.int r281, .ref (ad p0)]) rfl ?_
  refine x_puti 702 (ci := 7) (C := RX8) (T := TX8) (N := 16) (v := r281) (ty := .int) 2 hC hinX8 tyX8_ok nmX8 hW hS tp0 rfl rfl ⟨by decide, by decide, rfl, rfl⟩ rfl w_2 rfl (by decide +kernel) rfl rfl dX8_receive_10 (fun S283 H locs eS283 hW hS => ?_)
  replace hf := ltE hf S283 eS283
  refine lv_aload_n hx hb dX8_receive_13 rfl (lv_at hl 0 rfl) ?_
  refine x_geti 702 (ci := 7) (C := RX8) (T := TX8) (N := 16) 2 hC hinX8 hW tp0 rfl rfl ⟨by decide, by decide, rfl, rfl⟩ rfl w_2 dX8_receive_14 ?_
  refine lv_iload_n hx hb dX8_receive_17 rfl (lv_at hl 3 rfl) ?_
  refine lv_icmp_ne (tgt := 24) hx hb dX8_receive_18 (by decide) (fun c284 => ?_) (fun c284 => ?_)
  · replace hf := ifT c284 hf
    refine lv_aload_n hx hb dX8_receive_24 rfl (lv_at hl 0 rfl) ?_
    refine x_geti 705 (ci := 7) (C := RX8) (T := TX8) (N := 16) 5 hC hinX8 hW tp0 rfl rfl ⟨by decide, by decide, rfl, rfl⟩ rfl w_0 dX8_receive_25 ?_
    refine lv_topi (fun x285 ex285 => ?_)
    replace hf := ltE hf x285 ex285
    refine lv_istore (lv' := [(5, .int x285), (0, .ref (ad p0)), (1, .ref (ad p1)), (2, .int p2), (3, .int p3), (4, .int p4)]) hx hb dX8_receive_28 hl (by decide) rfl (fun ls hl => ?_)
    refine x_new (ci := 3) (C := RX4) (T := TX4) (N := 5) hC hinX4 tyX4_ok hW hS hA ⟨rfl, by decide, by decide⟩ (by decide +kernel) w_12 w_13 w_14 (Nat.le_of_ble_eq_true rfl) (Nat.le_of_ble_eq_true rfl) dX8_receive_30 (fun q286 ad287 K288 S289 H eS289 hag291 eqq286 ekq286 hW hS => ?_)
    replace hf := ltE hf S289 eS289
    obtain ⟨n290, en290⟩ : ∃ z, z = n + 1 := ⟨_, rfl⟩
    rw [← en290] at hag291 hW
    replace hf := ltE hf n290 en290
    have tq286 : n < n290 ∧ K288 n = 3 := ⟨by omega, ekq286⟩
    have g292 := hag291.t tp0
    have g293 := hag291.e tp0 rfl
    have g294 := hag291.t tp1
    have g295 := hag291.e tp1 rfl
    have ag296 := (Ag.rf).tr hag291
    refine W.widen (k := 1) (n := 5) (by omega) (by omega) ?_
    refine lv_dup hx hb dX8_receive_33 rfl ?_
    refine lv_iload_n hx hb dX8_receive_34 rfl (lv_at hl 3 rfl) ?_
    refine lv_aload_n hx hb dX8_receive_35 rfl (lv_at hl 1 rfl) ?_
    refine x_geti 701 (ci := 7) (C := RX8) (T := TX8) (N := 16) 1 hC hinX8 hW g292 g293 rfl ⟨by decide, by decide, rfl, rfl⟩ rfl w_4 dX8_receive_36 ?_
    refine lv_aload_n hx hb dX8_receive_39 rfl (lv_at hl 2 rfl) ?_
    replace hf := obE hf
    obtain ⟨z297, hz297, hf⟩ := hf
    obtain ⟨r299, S298⟩ := z297
    replace hf := ltE (ltE hf r299 rfl) S298 rfl
    refine x_callV (As := []) (rest := [.int (si S289 701 p0), .int p2, .ref (q286), .ref (q286)]) (o := (some (.int r299))) (S1 := S298) hC hl.1 hW hS hGs hA g294 rfl (show vwCl[1]? = some (RX1, TX1, 4) ∧ ob 1 from ⟨rfl, by decide⟩) (c_X1_sizeOfAll l g ad287 n290 K288 H.size F S289 p1 g294 r299 S298 hz297) (cwV 0 hts gX8_receive_X1_sizeOfAll rfl rfl rfl (by decide +kernel) ⟨Nat.le_of_ble_eq_true rfl, Nat.le_of_ble_eq_true rfl⟩) rfl (by rw [g295] <;> rfl) (Nat.le_of_ble_eq_true rfl) dX8_receive_40 ⟨Nat.le_of_ble_eq_true rfl, Nat.le_of_ble_eq_true rfl⟩ (fun H locs hPz297 hW hS => ?_)
    refine W.eq (g2 := F0 m 43 ls [.int r299, .int (si S289 701 p0), .int p2, .ref (q286), .ref (q286)]) rfl ?_
    refine lv_aload_n hx hb dX8_receive_43 rfl (lv_at hl 2 rfl) ?_
    refine x_getiN 103 (ci := 1) (C := RX1) (T := TX1) (N := 4) 3 hC hinX1 hW g294 g295 rfl ⟨by decide, by decide, rfl, rfl⟩ rfl w_6 dX8_receive_44 ?_
    replace hf := obE hf
    obtain ⟨z301, hz301, hf⟩ := hf
    obtain ⟨S302, n304⟩ := z301
    replace hf := ltE (ltE hf S302 rfl) n304 rfl
    refine x_acallI (As := [.int p2, .int (si S289 701 p0), .int r299, .int (si S298 103 p1)]) (rest := [.ref (q286)]) (S1 := S302) (n1 := n304) (o := (fun _ => none)) (P := (fun _ => True)) hC hl.1 hW hS hGs hA (c_X4_init l g ad287 n290 K288 H.size F S298 n p2 (si S289 701 p0) r299 (si S298 103 p1) tq286 S302 n304 hz301) (cwI 4 hts gX8_receive_X4_init rfl rfl rfl w_14 w_15 w_16 rfl (by decide +kernel) ⟨Nat.le_of_ble_eq_true rfl, Nat.le_of_ble_eq_true rfl⟩) rfl (by rw [eqq286] <;> rfl) (Nat.le_of_ble_eq_true rfl) dX8_receive_47 ⟨(Nat.le_of_ble_eq_true rfl), (Nat.le_of_ble_eq_true rfl)⟩ (fun ad305 K306 H locs hag307 hPz301 hW hS => ?_)
    have g308 := hag307.t g292
    have g309 := hag307.e g292 g293
    have g310 := hag307.t g294
    have g311 := hag307.e g294 g295
    have g312 := hag307.t tq286
    have g313 := hag307.e tq286 eqq286
    have ag314 := (ag296).tr hag307
    refine W.widen (k := 2) (n := 9) (by omega) (by omega) ?_
    refine W.eq (g2 := F0 m 50 ls [.ref (q286)]) rfl ?_
    refine lv_astore (lv' := [(6, .ref (q286)), (5, .int x285), (0, .ref (ad p0)), (1, .ref (ad p1)), (2, .int p2), (3, .int p3), (4, .int p4)]) hx hb dX8_receive_50 hl (by decide) rfl (fun ls hl => ?_)
    refine lv_iconst (v := 0) hx hb dX8_receive_52 (by decide) ?_
    refine lv_istore (lv' := [(7, .int 0), (6, .ref (q286)), (5, .int x285), (0, .ref (ad p0)), (1, .ref (ad p1)), (2, .int p2), (3, .int p3), (4, .int p4)]) hx hb dX8_receive_53 hl (by decide) rfl (fun ls hl => ?_)
    refine lv_iload hx hb dX8_receive_55 (lv_at hl 0 rfl) ?_
    refine lv_aload_n hx hb dX8_receive_57 rfl (lv_at hl 4 rfl) ?_
    refine x_getiN 103 (ci := 1) (C := RX1) (T := TX1) (N := 4) 3 hC hinX1 hW g310 g311 rfl ⟨by decide, by decide, rfl, rfl⟩ rfl w_6 dX8_receive_58 ?_
    refine lv_icmp_ge (tgt := 132) hx hb dX8_receive_61 (by decide) (fun c315 => ?_) (fun c315 => ?_)
    · replace hf := ifT c315 hf
      refine W.widen (k := 10) (n := 8177) (Nat.le_of_ble_eq_true rfl) (Nat.le_of_ble_eq_true rfl) ?_
      exact L600132 ad305 K306 n304 ag314 S302 p0 p3 p4 x285 n g308 g312 _ _ _ hf hW hS (lv_sub hl [3, 6, 7, 2, 1] (by rw [g309, g313] <;> rfl))
    · replace hf := ifF c315 hf
      refine lv_aload_n hx hb dX8_receive_64 rfl (lv_at hl 3 rfl) ?_
      replace hf := obE hf
      obtain ⟨j316, qj316, hf⟩ := hf
      have tj316 := x_rt hW qj316 8 ⟨by decide, rfl⟩
      refine x_getr 710 (ci := 7) (C := RX8) (T := TX8) (N := 16) 10 hC hinX8 hW g308 g309 rfl ⟨by decide, by decide, rfl, rfl⟩ rfl w_7 dX8_receive_65 qj316 ?_
      refine lv_aload_n hx hb dX8_receive_68 rfl (lv_at hl 4 rfl) ?_
      refine lv_iload hx hb dX8_receive_69 (lv_at hl 0 rfl) ?_
      refine lv_iload hx hb dX8_receive_71 (lv_at hl 2 rfl) ?_
      replace hf := obE hf
      obtain ⟨z317, hz317, hf⟩ := hf
      obtain ⟨r319, S318, n320⟩ := z317
      replace hf := ltE (ltE (ltE hf r319 rfl) S318 rfl) n320 rfl
      refine x_acallV (As := [.ref (ad305 p1), .int 0, .int x285]) (rest := []) (S1 := S318) (n1 := n320) (o := (fun _ => some (.int r319))) (P := (fun _ => True)) hC hl.1 hW hS hGs hA tj316 rfl (show vwCl[8]? = some (RX9, TX9, 8) ∧ ob 8 from ⟨rfl, by decide⟩) (c_X9_numberFor l g ad305 n304 K306 H.size F S302 j316 p1 ((0 : Int32)) x285 tj316 g310 r319 S318 n320 hz317) (cwV 3 hts gX8_receive_X9_numberFor rfl rfl rfl (by decide +kernel) ⟨Nat.le_of_ble_eq_true rfl, Nat.le_of_ble_eq_true rfl⟩) rfl (by rw [g311] <;> rfl) (Nat.le_of_ble_eq_true rfl) dX8_receive_73 ⟨(Nat.le_of_ble_eq_true rfl), (Nat.le_of_ble_eq_true rfl)⟩ (fun ad321 K322 H locs hag323 hPz317 hW hS => ?_)
      have g324 := hag323.t g312
      have g325 := hag323.e g312 g313
      have g326 := hag323.t g308
      have g327 := hag323.e g308 g309
      have g328 := hag323.t g310
      have g329 := hag323.e g310 g311
      have ag330 := (ag314).tr hag323
      refine W.widen (k := 4) (n := 2051) (by omega) (by omega) ?_
      refine W.eq (g2 := F0 m 76 ls [.int r319]) rfl ?_
      refine lv_istore (lv' := [(8, .int r319), (7, .int 0), (6, .ref (q286)), (5, .int x285), (0, .ref (ad p0)), (1, .ref (ad p1)), (2, .int p2), (3, .int p3), (4, .int p4)]) hx hb dX8_receive_76 hl (by decide) rfl (fun ls hl => ?_)
      refine lv_aload hx hb dX8_receive_78 (lv_at hl 2 rfl) ?_
      replace hf := obE hf
      obtain ⟨j331, qj331, hf⟩ := hf
      have tj331 := x_rt hW qj331 12 ⟨by decide, rfl⟩
      refine x_getrN 303 (ci := 3) (C := RX4) (T := TX4) (N := 5) 3 hC hinX4 hW g324 g325 rfl ⟨by decide, by decide, rfl, rfl⟩ rfl w_8 dX8_receive_80 qj331 ?_
      refine lv_iload hx hb dX8_receive_83 (lv_at hl 1 rfl) ?_
      refine lv_iload hx hb dX8_receive_85 (lv_at hl 0 rfl) ?_
      replace hf := obE hf
      obtain ⟨S333, hz332, hf⟩ := hf
      refine x_callSN (As := [.ref (ad321 j331), .int 0, .int r319]) (rest := []) (o := none) (S1 := S333) hC hl.1 hW hS hGs hA (c_X10_put l g ad321 n320 K322 H.size F S318 j331 ((0 : Int32)) r319 tj331 S333 hz332) ⟨va_cnB 3 hts gX8_receive_X10_put_n181 rfl rfl rfl (va_Nw.of rfl w_9) w_10 (by decide +kernel) ⟨Nat.le_of_ble_eq_true rfl, Nat.le_of_ble_eq_true rfl⟩, w_11, trivial⟩ rfl rfl (Nat.le_of_ble_eq_true rfl) dX8_receive_87 ⟨Nat.le_of_ble_eq_true rfl, Nat.le_of_ble_eq_true rfl⟩ (fun H locs hPz332 hW hS => ?_)
      refine W.eq (g2 := F0 m 90 ls []) rfl ?_
      refine lv_aload_n hx hb dX8_receive_90 rfl (lv_at hl 5 rfl) ?_
      refine lv_iload hx hb dX8_receive_91 (lv_at hl 1 rfl) ?_
      replace hf := obE hf
      obtain ⟨z336, hz336, hf⟩ := hf
      obtain ⟨r338, S337⟩ := z336
      replace hf := ltE (ltE hf r338 rfl) S337 rfl
      refine x_callV (As := [.int 0]) (rest := []) (o := (some (.int r338))) (S1 := S337) hC hl.1 hW hS hGs hA g328 rfl (show vwCl[1]? = some (RX1, TX1, 4) ∧ ob 1 from ⟨rfl, by decide⟩) (c_X1_isFirstOfItsKind l g ad321 n320 K322 H.size F S333 p1 ((0 : Int32)) g328 r338 S337 hz336) (cwV 1 hts gX8_receive_X1_isFirstOfItsKind rfl rfl rfl (by decide +kernel) ⟨Nat.le_of_ble_eq_true rfl, Nat.le_of_ble_eq_true rfl⟩) rfl (by rw [g329] <;> rfl) (Nat.le_of_ble_eq_true rfl) dX8_receive_93 ⟨Nat.le_of_ble_eq_true rfl, Nat.le_of_ble_eq_true rfl⟩ (fun H locs hPz336 hW hS => ?_)
      refine W.eq (g2 := F0 m 96 ls [.int r338]) rfl ?_
      refine lv_if_eq (tgt := 126) hx hb dX8_receive_96 (by decide) (fun c340 => ?_) (fun c340 => ?_)
      · replace hf := ifT c340 hf
        exact L126 ad321 K322 n320 ag330 S337 p0 p1 p3 p4 x285 n 0 g326 g328 g324 _ _ _ hf hW hS (lv_sub hl [4, 5, 7, 8, 3, 2, 1] (by rw [g327, g329, g325] <;> rfl))
      · replace hf := ifF c340 hf
        refine lv_aload_n hx hb dX8_receive_99 rfl (lv_at hl 4 rfl) ?_
        replace hf := obE hf
        obtain ⟨j341, qj341, hf⟩ := hf
        have tj341 := x_rt hW qj341 8 ⟨by decide, rfl⟩
        refine x_getr 710 (ci := 7) (C := RX8) (T := TX8) (N := 16) 10 hC hinX8 hW g326 g327 rfl ⟨by decide, by decide, rfl, rfl⟩ rfl w_7 dX8_receive_100 qj341 ?_
        refine lv_iload hx hb dX8_receive_103 (lv_at hl 0 rfl) ?_
        replace hf := obE hf
        obtain ⟨z342, hz342, hf⟩ := hf
        obtain ⟨r344, S343⟩ := z342
        replace hf := ltE (ltE hf r344 rfl) S343 rfl
        refine x_callV (As := [.int r319]) (rest := []) (o := (some (.int r344))) (S1 := S343) hC hl.1 hW hS hGs hA tj341 rfl (show vwCl[8]? = some (RX9, TX9, 8) ∧ ob 8 from ⟨rfl, by decide⟩) (c_X9_addKeeper l g ad321 n320 K322 H.size F S337 j341 r319 tj341 r344 S343 hz342) (cwV 1 hts gX8_receive_X9_addKeeper rfl rfl rfl (by decide +kernel) ⟨Nat.le_of_ble_eq_true rfl, Nat.le_of_ble_eq_true rfl⟩) rfl rfl (Nat.le_of_ble_eq_true rfl) dX8_receive_105 ⟨Nat.le_of_ble_eq_true rfl, Nat.le_of_ble_eq_true rfl⟩ (fun H locs hPz342 hW hS => ?_)
        refine W.eq (g2 := F0 m 108 ls [.int r344]) rfl ?_
        refine lv_if_eq (tgt := 126) hx hb dX8_receive_108 (by decide) (fun c346 => ?_) (fun c346 => ?_)
        · replace hf := ifT c346 hf
          exact L126 ad321 K322 n320 ag330 S343 p0 p1 p3 p4 x285 n 0 g326 g328 g324 _ _ _ hf hW hS (lv_sub hl [4, 5, 7, 8, 3, 2, 1] (by rw [g327, g329, g325] <;> rfl))
        · replace hf := ifF c346 hf
          refine lv_aload_n hx hb dX8_receive_111 rfl (lv_at hl 4 rfl) ?_
          replace hf := obE hf
          obtain ⟨j347, qj347, hf⟩ := hf
          have tj347 := x_rt hW qj347 2 ⟨by decide, rfl⟩
          refine x_getr 711 (ci := 7) (C := RX8) (T := TX8) (N := 16) 11 hC hinX8 hW g326 g327 rfl ⟨by decide, by decide, rfl, rfl⟩ rfl w_3 dX8_receive_112 qj347 ?_
          refine lv_aload_n hx hb dX8_receive_115 rfl (lv_at hl 4 rfl) ?_
          refine x_geti 701 (ci := 7) (C := RX8) (T := TX8) (N := 16) 1 hC hinX8 hW g326 g327 rfl ⟨by decide, by decide, rfl, rfl⟩ rfl w_4 dX8_receive_116 ?_
          refine lv_bipush (v := 7) hx hb dX8_receive_119 (by decide) ?_
          refine lv_iload hx hb dX8_receive_121 (lv_at hl 0 rfl) ?_
          replace hf := obE hf
          obtain ⟨S349, hz348, hf⟩ := hf
          refine x_callV (As := [.int (si S343 701 p0), .int 7, .int r319]) (rest := []) (o := none) (S1 := S349) hC hl.1 hW hS hGs hA tj347 rfl (show vwCl[2]? = some (RX2, TX2, 5) ∧ ob 2 from ⟨rfl, by decide⟩) (c_X2_note l g ad321 n320 K322 H.size F S343 j347 (si S343 701 p0) ((7 : Int32)) r319 tj347 S349 hz348) (cwV 3 hts gX8_receive_X2_note rfl rfl rfl (by decide +kernel) ⟨Nat.le_of_ble_eq_true rfl, Nat.le_of_ble_eq_true rfl⟩) rfl rfl (Nat.le_of_ble_eq_true rfl) dX8_receive_123 ⟨Nat.le_of_ble_eq_true rfl, Nat.le_of_ble_eq_true rfl⟩ (fun H locs hPz348 hW hS => ?_)
          refine W.eq (g2 := F0 m 126 ls []) rfl ?_
          exact L126 ad321 K322 n320 ag330 S349 p0 p1 p3 p4 x285 n 0 g326 g328 g324 _ _ _ hf hW hS (lv_sub hl [4, 5, 7, 8, 3, 2, 1] (by rw [g327, g329, g325] <;> rfl))
  · replace hf := ifF (fun q => q c284) hf
    refine lv_bipush (v := -2) hx hb dX8_receive_21 (by decide) ?_
    obtain ⟨e1, e2, e3⟩ := so3 hf
    subst e1
    subst e2
    subst e3
    refine W.widen (k := 10) (n := 8177) (Nat.le_of_ble_eq_true rfl) (Nat.le_of_ble_eq_true rfl) ?_
    exact W.iret (v := (-2)) hx hb hr (fun t ht hWm => ⟨⟨ad, K, rfl, Ag.rf, trivial, by rw [ht]; exact hW⟩, hS.F ht⟩) hS.2.2 dX8_receive_23 hlk
