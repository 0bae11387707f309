set_option maxHeartbeats 4000000 in
set_option maxRecDepth 100000 in
theorem c_X11_buryParts (l : Launch) (g : GP) (ad : Nat → Nat) (n : Nat) (K : Nat → Nat) (sz F : Nat) (S0 : St) (p0 : Nat) (p1 : Int32) (tp0 : p0 < n ∧ K p0 = 10) (S9 : St) (hf : f_X11_buryParts F S0 p0 p1 = some S9) : Met l yX11_buryParts wsX11_buryParts { frames := 4, cells := 0, slots := 0, locals := 89 } (va_Pc [.ref (ad p0), .int p1] (PB g ad n K S0 sz)) (QR none (QB g ad n K S9 (dA ad n sz) (True)) (dA ad n sz)) 0 0 (dA ad n sz) := by
  refine Met.ofW (cc := cX11_buryParts) (maxL := 3) (ret := none) (by decide) rfl ?_
  intro p e s m args below meth c s₁ B hml hv
  obtain ⟨rfl, hsz, hW, hK, hGs⟩ := x_start hv
  subst hsz
  have hx := B.exec
  have hb := B.bytes
  have hr := B.returns
  have hts := atoms_spec (ws := wsX11_buryParts) B.pre
  have hown : s.vm.findClass RX11 = some m.cls := findClass_of_methodNamed B.named
  have hlk := B.notSynchronized
  have hC : Cx g p s m _ c cX11_buryParts RX11 wsX11_buryParts 3 := ⟨hx, hb, hml, hown, hts, hK⟩
  have hA : ∀ q : Nat, s.heap.size ≤ q → dA ad n s.heap.size q := fun q h => Or.inr h
  have hS : va_S (dA ad n s.heap.size) s.heap s.heap [] := va_S.rf
  have hl := lv_entry ([.ref (ad p0), .int p1]) (n := 3) (Nat.le_of_ble_eq_true rfl)
  rw [lg_entry_eq]
  generalize (lg_sl ([.ref (ad p0), .int p1]) ++ List.replicate (3 - (lg_sl ([.ref (ad p0), .int p1])).length) Slot.unset).toArray = ls at hl ⊢
  have hl : lv_has ls 3 [(0, .ref (ad p0)), (1, .int p1)] := hl
  have hin11 : ∀ w ∈ wsX110, w ∈ wsX11_buryParts := by decide +kernel
  have w_0 := hts (.fieldLink RX11 17 "MailSpoolModel" "net" "[I") (by decide +kernel)
  have hGE := hGs.2.2.2.2.2.2.1
  have hGM := hGs.2.2.2.2.2.2.2.1
  have L11 : ∀ (fu11 : Nat) (S0 : St) (v0 : Nat) (v1 : Int32) (v2 : Int32) (tv0 : v0 < n ∧ K v0 = 10) (H : Heap) (locs : List Loc) (ls : Array Slot), f_X11_buryParts_L11 F fu11 S0 v0 v1 v2 = some S9 → Wb g ad n K S0 (dA ad n s.heap.size) H → va_S (dA ad n s.heap.size) s.heap H locs → lv_has ls 3 [(0, .ref (ad v0)), (1, .int v1), (2, .int v2)] → W p l e (headSpec wsX11_buryParts { frames := 4, cells := 0, slots := 0, locals := 89 }).room s m (List.toArray [.ref (ad p0), .int p1]) below meth c H locs 0 0 (MQ below (QR none (QB g ad n K S9 (dA ad n s.heap.size) (True)) (dA ad n s.heap.size)) (List.toArray [.ref (ad p0), .int p1]) s 0 0 (dA ad n s.heap.size)) (F0 m 11 ls []) := by
    intro fu11
    induction fu11 with
    | zero =>
      intro S0 v0 v1 v2 tv0 H locs ls hf
      cases hf
    | succ fu11 ih11 =>
      have L77 : ∀ (S0 : St) (v0 : Nat) (v1 : Int32) (v2 : Int32) (tv0 : v0 < n ∧ K v0 = 10) (H : Heap) (locs : List Loc) (ls : Array Slot), f_X11_buryParts_L77 F (fun a0 a1 a2 a3 => f_X11_buryParts_L11 F fu11 a0 a1 a2 a3) S0 v0 v1 v2 = some S9 → Wb g ad n K S0 (dA ad n s.heap.size) H → va_S (dA ad n s.heap.size) s.heap H locs → lv_has ls 3 [(0, .ref (ad v0)), (1, .int v1), (2, .int v2)] → W p l e (headSpec wsX11_buryParts { frames := 4, cells := 0, slots := 0, locals := 89 }).room s m (List.toArray [.ref (ad p0), .int p1]) below meth c H locs 0 0 (MQ below (QR none (QB g ad n K S9 (dA ad n s.heap.size) (True)) (dA ad n s.heap.size)) (List.toArray [.ref (ad p0), .int p1]) s 0 0 (dA ad n s.heap.size)) (F0 m 77 ls []) := by
        intro S0 v0 v1 v2 tv0 H locs ls hf hW hS hl
        unfold f_X11_buryParts_L77 at hf
        obtain ⟨x2, ex2⟩ : ∃ z : Int32, z = v2 + 1 := ⟨_, rfl⟩
        replace hf := ltE hf x2 ex2
        refine lv_iinc (v := x2) (lv' := [(2, .int x2), (0, .ref (ad v0)), (1, .int v1)]) hx hb dX11_buryParts_77 hl (k := 2) rfl (by rw [ex2]; rfl) (by decide) rfl (fun ls hl => ?_)
        refine lv_goto (tgt := 11) hx hb dX11_buryParts_80 (by decide) ?_
        exact ih11 S0 v0 v1 x2 tv0 _ _ _ hf hW hS (lv_sub hl [1, 2, 0] rfl)
      intro S0 v0 v1 v2 tv0 H locs ls hf hW hS hl
      unfold f_X11_buryParts_L11 at hf
      refine lv_iload_n hx hb dX11_buryParts_11 rfl (lv_at hl 2 rfl) ?_
      refine lv_aload_n hx hb dX11_buryParts_12 rfl (lv_at hl 0 rfl) ?_
      replace hf := obE hf
      obtain ⟨j30, qj30, hf⟩ := hf
      have tj30 := x_rt hW qj30 12 ⟨by decide, rfl⟩
      refine x_getr 1001 (ci := 10) (C := RX11) (T := TX11) (N := 30) 1 hC hin11 hW tv0 rfl rfl ⟨by decide, by decide, rfl, rfl⟩ rfl w_0 dX11_buryParts_13 qj30 ?_
      refine lv_bipush (v := 8) hx hb dX11_buryParts_16 (by decide) ?_
      replace hf := ckiE hf
      obtain ⟨h31, hf⟩ := hf
      refine x_iald hC hW tj30 rfl rfl h31 dX11_buryParts_18 ?_
      refine lv_icmp_ge (tgt := 83) hx hb dX11_buryParts_19 (by decide) (fun c32 => ?_) (fun c32 => ?_)
      · replace hf := ifT c32 hf
        have e1 := Option.some.inj hf
        subst e1
        exact W.vret hx hb hr (fun t ht hWm => ⟨⟨rfl, by unfold QB; rw [ht]; exact ⟨hW, trivial⟩⟩, hS.F ht⟩) hS.2.2 dX11_buryParts_83 hlk
      · replace hf := ifF c32 hf
        refine lv_aload_n hx hb dX11_buryParts_22 rfl (lv_at hl 0 rfl) ?_
        refine lv_iload_n hx hb dX11_buryParts_23 rfl (lv_at hl 1 rfl) ?_
        refine lv_iload_n hx hb dX11_buryParts_24 rfl (lv_at hl 2 rfl) ?_
        replace hf := obE hf
        obtain ⟨z33, hz33, hf⟩ := hf
        obtain ⟨r35, S34⟩ := z33
        replace hf := ltE (ltE hf r35 rfl) S34 rfl
        refine x_callV (As := [.int v1, .int v2]) (rest := []) (o := (some (.int r35))) (S1 := S34) hC hl.1 hW hS hGs hA tv0 rfl (show vwCl[10]? = some (RX11, TX11, 30) ∧ 10 < 11 from ⟨rfl, by decide⟩) (c_X11_has l g ad n K H.size F S0 v0 v1 v2 tv0 r35 S34 hz33) (cwV 2 hts gX11_buryParts_X11_has rfl rfl rfl (by decide +kernel) ⟨Nat.le_of_ble_eq_true rfl, Nat.le_of_ble_eq_true rfl⟩) rfl rfl (Nat.le_of_ble_eq_true rfl) dX11_buryParts_25 ⟨Nat.le_of_ble_eq_true rfl, Nat.le_of_ble_eq_true rfl⟩ (fun H locs hPz33 hW hS => ?_)
        refine W.eq (g2 := F0 m 28 ls [.int r35]) rfl ?_
        refine lv_if_eq (tgt := 77) hx hb dX11_buryParts_28 (by decide) (fun c37 => ?_) (fun c37 => ?_)
        · replace hf := ifT c37 hf
          exact L77 S34 v0 v1 v2 tv0 _ _ _ hf hW hS (lv_sub hl [0, 1, 2] rfl)
        · replace hf := ifF c37 hf
          refine lv_aload_n hx hb dX11_buryParts_31 rfl (lv_at hl 0 rfl) ?_
          refine lv_iload_n hx hb dX11_buryParts_32 rfl (lv_at hl 2 rfl) ?_
          replace hf := obE hf
          obtain ⟨z38, hz38, hf⟩ := hf
          obtain ⟨r40, S39⟩ := z38
          replace hf := ltE (ltE hf r40 rfl) S39 rfl
          refine x_callV (As := [.int v2]) (rest := []) (o := (some (.int r40))) (S1 := S39) hC hl.1 hW hS hGs hA tv0 rfl (show vwCl[10]? = some (RX11, TX11, 30) ∧ 10 < 11 from ⟨rfl, by decide⟩) (c_X11_isDead l g ad n K H.size F S34 v0 v2 tv0 r40 S39 hz38) (cwV 1 hts gX11_buryParts_X11_isDead rfl rfl rfl (by decide +kernel) ⟨Nat.le_of_ble_eq_true rfl, Nat.le_of_ble_eq_true rfl⟩) rfl rfl (Nat.le_of_ble_eq_true rfl) dX11_buryParts_33 ⟨Nat.le_of_ble_eq_true rfl, Nat.le_of_ble_eq_true rfl⟩ (fun H locs hPz38 hW hS => ?_)
          refine W.eq (g2 := F0 m 36 ls [.int r40]) rfl ?_
          refine lv_if_ne (tgt := 77) hx hb dX11_buryParts_36 (by decide) (fun c42 => ?_) (fun c42 => ?_)
          · replace hf := ifT c42 hf
            exact L77 S39 v0 v1 v2 tv0 _ _ _ hf hW hS (lv_sub hl [0, 1, 2] rfl)
          · replace hf := ifF (fun q => q c42) hf
            refine lv_aload_n hx hb dX11_buryParts_39 rfl (lv_at hl 0 rfl) ?_
            refine lv_iload_n hx hb dX11_buryParts_40 rfl (lv_at hl 2 rfl) ?_
            replace hf := obE hf
            obtain ⟨z43, hz43, hf⟩ := hf
            obtain ⟨r45, S44⟩ := z43
            replace hf := ltE (ltE hf r45 rfl) S44 rfl
            refine x_callV (As := [.int v2]) (rest := []) (o := (some (.int r45))) (S1 := S44) hC hl.1 hW hS hGs hA tv0 rfl (show vwCl[10]? = some (RX11, TX11, 30) ∧ 10 < 11 from ⟨rfl, by decide⟩) (c_X11_keepers l g ad n K H.size F S39 v0 v2 tv0 r45 S44 hz43) (cwV 1 hts gX11_buryParts_X11_keepers rfl rfl rfl (by decide +kernel) ⟨Nat.le_of_ble_eq_true rfl, Nat.le_of_ble_eq_true rfl⟩) rfl rfl (Nat.le_of_ble_eq_true rfl) dX11_buryParts_41 ⟨Nat.le_of_ble_eq_true rfl, Nat.le_of_ble_eq_true rfl⟩ (fun H locs hPz43 hW hS => ?_)
            refine W.eq (g2 := F0 m 44 ls [.int r45]) rfl ?_
            refine lv_if_le (tgt := 50) hx hb dX11_buryParts_44 (by decide) (fun c47 => ?_) (fun c47 => ?_)
            · replace hf := ifT c47 hf
              refine lv_aload_n hx hb dX11_buryParts_50 rfl (lv_at hl 0 rfl) ?_
              replace hf := obE hf
              obtain ⟨j48, qj48, hf⟩ := hf
              have tj48 := x_rt hW qj48 12 ⟨by decide, rfl⟩
              refine x_getr 1001 (ci := 10) (C := RX11) (T := TX11) (N := 30) 1 hC hin11 hW tv0 rfl rfl ⟨by decide, by decide, rfl, rfl⟩ rfl w_0 dX11_buryParts_51 qj48 ?_
              refine lv_sipush (v := 4771) hx hb dX11_buryParts_54 (by decide) ?_
              refine lv_iconst (v := 3) hx hb dX11_buryParts_57 (by decide) ?_
              refine lv_iload_n hx hb dX11_buryParts_58 rfl (lv_at hl 2 rfl) ?_
              refine lv_imul hx hb dX11_buryParts_59 ?_
              refine lv_iadd hx hb dX11_buryParts_60 ?_
              refine lv_iconst (v := 2) hx hb dX11_buryParts_61 (by decide) ?_
              refine lv_iadd hx hb dX11_buryParts_62 ?_
              refine lv_aload_n hx hb dX11_buryParts_63 rfl (lv_at hl 0 rfl) ?_
              replace hf := obE hf
              obtain ⟨j49, qj49, hf⟩ := hf
              have tj49 := x_rt hW qj49 12 ⟨by decide, rfl⟩
              refine x_getr 1001 (ci := 10) (C := RX11) (T := TX11) (N := 30) 1 hC hin11 hW tv0 rfl rfl ⟨by decide, by decide, rfl, rfl⟩ rfl w_0 dX11_buryParts_64 qj49 ?_
              refine lv_iconst (v := 2) hx hb dX11_buryParts_67 (by decide) ?_
              replace hf := ckiE hf
              obtain ⟨h50, hf⟩ := hf
              refine x_iald hC hW tj49 rfl rfl h50 dX11_buryParts_68 ?_
              replace hf := ckiE hf
              obtain ⟨h51, hf⟩ := hf
              refine x_iast hC hW hS tj48 rfl rfl h51 dX11_buryParts_69 (fun S52 H locs eS52 hW hS => ?_)
              replace hf := ltE hf S52 eS52
              refine lv_aload_n hx hb dX11_buryParts_70 rfl (lv_at hl 0 rfl) ?_
              refine lv_bipush (v := 6) hx hb dX11_buryParts_71 (by decide) ?_
              refine lv_iload_n hx hb dX11_buryParts_73 rfl (lv_at hl 2 rfl) ?_
              replace hf := obE hf
              obtain ⟨S54, hz53, hf⟩ := hf
              refine x_callV (As := [.int 6, .int v2]) (rest := []) (o := none) (S1 := S54) hC hl.1 hW hS hGs hA tv0 rfl (show vwCl[10]? = some (RX11, TX11, 30) ∧ 10 < 11 from ⟨rfl, by decide⟩) (c_X11_log l g ad n K H.size F S52 v0 ((6 : Int32)) v2 tv0 S54 hz53) (cwV 2 hts gX11_buryParts_X11_log rfl rfl rfl (by decide +kernel) ⟨Nat.le_of_ble_eq_true rfl, Nat.le_of_ble_eq_true rfl⟩) rfl rfl (Nat.le_of_ble_eq_true rfl) dX11_buryParts_74 ⟨Nat.le_of_ble_eq_true rfl, Nat.le_of_ble_eq_true rfl⟩ (fun H locs hPz53 hW hS => ?_)
              refine W.eq (g2 := F0 m 77 ls []) rfl ?_
              exact L77 S54 v0 v1 v2 tv0 _ _ _ hf hW hS (lv_sub hl [0, 1, 2] rfl)
            · replace hf := ifF c47 hf
              refine lv_goto (tgt := 77) hx hb dX11_buryParts_47 (by decide) ?_
              exact L77 S44 v0 v1 v2 tv0 _ _ _ hf hW hS (lv_sub hl [0, 1, 2] rfl)
  unfold f_X11_buryParts at hf
  refine lv_aload_n hx hb dX11_buryParts_0 rfl (lv_at hl 0 rfl) ?_
  refine lv_iload_n hx hb dX11_buryParts_1 rfl (lv_at hl 1 rfl) ?_
  replace hf := obE hf
  obtain ⟨z57, hz57, hf⟩ := hf
  obtain ⟨r59, S58⟩ := z57
  replace hf := ltE (ltE hf r59 rfl) S58 rfl
  refine x_callV (As := [.int p1]) (rest := []) (o := (some (.int r59))) (S1 := S58) hC hl.1 hW hS hGs hA tp0 rfl (show vwCl[10]? = some (RX11, TX11, 30) ∧ 10 < 11 from ⟨rfl, by decide⟩) (c_X11_isKeptMessage l g ad n K s.heap.size F S0 p0 p1 tp0 r59 S58 hz57) (cwV 1 hts gX11_buryParts_X11_isKeptMessage rfl rfl rfl (by decide +kernel) ⟨Nat.le_of_ble_eq_true rfl, Nat.le_of_ble_eq_true rfl⟩) rfl rfl (Nat.le_of_ble_eq_true rfl) dX11_buryParts_2 ⟨Nat.le_of_ble_eq_true rfl, Nat.le_of_ble_eq_true rfl⟩ (fun H locs hPz57 hW hS => ?_)
  refine W.eq (g2 := F0 m 5 ls [.int r59]) rfl ?_
  refine lv_if_eq (tgt := 9) hx hb dX11_buryParts_5 (by decide) (fun c61 => ?_) (fun c61 => ?_)
  · replace hf := ifT c61 hf
    refine lv_iconst (v := 0) hx hb dX11_buryParts_9 (by decide) ?_
    refine lv_istore_n (lv' := [(2, .int 0), (0, .ref (ad p0)), (1, .int p1)]) hx hb dX11_buryParts_10 rfl hl (by decide) rfl (fun ls hl => ?_)
    exact L11 F S58 p0 p1 0 tp0 _ _ _ hf hW hS (lv_sub hl [1, 2, 0] rfl)
  · replace hf := ifF c61 hf
    have e1 := Option.some.inj hf
    subst e1
    exact W.vret hx hb hr (fun t ht hWm => ⟨⟨rfl, by unfold QB; rw [ht]; exact ⟨hW, trivial⟩⟩, hS.F ht⟩) hS.2.2 dX11_buryParts_8 hlk
set_option maxHeartbeats 4000000 in
set_option maxRecDepth 100000 in
theorem c_X11_ceases (l : Launch) (g : GP) (ad : Nat → Nat) (n : Nat) (K : Nat → Nat) (sz F : Nat) (S0 : St) (p0 : Nat) (p1 : Int32) (p2 : Int32) (p3 : Int32) (tp0 : p0 < n ∧ K p0 = 10) (r9 : Int32) (S9 : St) (hf : f_X11_ceases F S0 p0 p1 p2 p3 = some (r9, S9)) : Met l yX11_ceases wsX11_ceases { frames := 6, cells := 0, slots := 0, locals := 143 } (va_Pc [.ref (ad p0), .int p1, .int p2, .int p3] (PB g ad n K S0 sz)) (QR (some (.int r9)) (QB g ad n K S9 (dA ad n sz) (True)) (dA ad n sz)) 0 0 (dA ad n sz) := by
  refine Met.ofW (cc := cX11_ceases) (maxL := 5) (ret := (some .int)) (by decide) rfl ?_
  intro p e s m args below meth c s₁ B hml hv
  obtain ⟨rfl, hsz, hW, hK, hGs⟩ := x_start hv
  subst hsz
  have hx := B.exec
  have hb := B.bytes
  have hr := B.returns
  have hts := atoms_spec (ws := wsX11_ceases) B.pre
  have hown : s.vm.findClass RX11 = some m.cls := findClass_of_methodNamed B.named
  have hlk := B.notSynchronized
  have hC : Cx g p s m _ c cX11_ceases RX11 wsX11_ceases 5 := ⟨hx, hb, hml, hown, hts, hK⟩
  have hA : ∀ q : Nat, s.heap.size ≤ q → dA ad n s.heap.size q := fun q h => Or.inr h
  have hS : va_S (dA ad n s.heap.size) s.heap s.heap [] := va_S.rf
  have hl := lv_entry ([.ref (ad p0), .int p1, .int p2, .int p3]) (n := 5) (Nat.le_of_ble_eq_true rfl)
  rw [lg_entry_eq]
  generalize (lg_sl ([.ref (ad p0), .int p1, .int p2, .int p3]) ++ List.replicate (5 - (lg_sl ([.ref (ad p0), .int p1, .int p2, .int p3])).length) Slot.unset).toArray = ls at hl ⊢
  have hl : lv_has ls 5 [(0, .ref (ad p0)), (1, .int p1), (2, .int p2), (3, .int p3)] := hl
  have hin11 : ∀ w ∈ wsX110, w ∈ wsX11_ceases := by decide +kernel
  have w_0 := hts (.fieldLink RX11 17 "MailSpoolModel" "net" "[I") (by decide +kernel)
  have hGE := hGs.2.2.2.2.2.2.1
  have hGM := hGs.2.2.2.2.2.2.2.1
  have L49 : ∀ (S0 : St) (v0 : Nat) (v1 : Int32) (v2 : Int32) (s0 : Int32) (s1 : Nat) (tv0 : v0 < n ∧ K v0 = 10) (ts1 : s1 < n ∧ K s1 = 10) (H : Heap) (locs : List Loc) (ls : Array Slot), f_X11_ceases_L49 F S0 v0 v1 v2 s0 s1 = some (r9, S9) → Wb g ad n K S0 (dA ad n s.heap.size) H → va_S (dA ad n s.heap.size) s.heap H locs → lv_has ls 5 [(0, .ref (ad v0)), (1, .int v1), (2, .int v2)] → W p l e (headSpec wsX11_ceases { frames := 6, cells := 0, slots := 0, locals := 143 }).room s m (List.toArray [.ref (ad p0), .int p1, .int p2, .int p3]) below meth c H locs 0 0 (MQ below (QR (some (.int r9)) (QB g ad n K S9 (dA ad n s.heap.size) (True)) (dA ad n s.heap.size)) (List.toArray [.ref (ad p0), .int p1, .int p2, .int p3]) s 0 0 (dA ad n s.heap.size)) (F0 m 49 ls [.int s0, .ref (ad s1)]) := by
    intro S0 v0 v1 v2 s0 s1 tv0 ts1 H locs ls hf hW hS hl
    unfold f_X11_ceases_L49 at hf
    refine lv_iload_n hx hb dX11_ceases_49 rfl (lv_at hl 1 rfl) ?_
    replace hf := obE hf
    obtain ⟨S14, hz13, hf⟩ := hf
    refine x_callV (As := [.int s0, .int v1]) (rest := []) (o := none) (S1 := S14) hC hl.1 hW hS hGs hA ts1 rfl (show vwCl[10]? = some (RX11, TX11, 30) ∧ 10 < 11 from ⟨rfl, by decide⟩) (c_X11_log l g ad n K H.size F S0 s1 s0 v1 ts1 S14 hz13) (cwV 2 hts gX11_ceases_X11_log rfl rfl rfl (by decide +kernel) ⟨Nat.le_of_ble_eq_true rfl, Nat.le_of_ble_eq_true rfl⟩) rfl rfl (Nat.le_of_ble_eq_true rfl) dX11_ceases_50 ⟨Nat.le_of_ble_eq_true rfl, Nat.le_of_ble_eq_true rfl⟩ (fun H locs hPz13 hW hS => ?_)
    refine W.eq (g2 := F0 m 53 ls []) rfl ?_
    refine lv_aload_n hx hb dX11_ceases_53 rfl (lv_at hl 0 rfl) ?_
    refine lv_iload_n hx hb dX11_ceases_54 rfl (lv_at hl 1 rfl) ?_
    replace hf := obE hf
    obtain ⟨S18, hz17, hf⟩ := hf
    refine x_callV (As := [.int v1]) (rest := []) (o := none) (S1 := S18) hC hl.1 hW hS hGs hA tv0 rfl (show vwCl[10]? = some (RX11, TX11, 30) ∧ 10 < 11 from ⟨rfl, by decide⟩) (c_X11_buryParts l g ad n K H.size F S14 v0 v1 tv0 S18 hz17) (cwV 1 hts gX11_ceases_X11_buryParts rfl rfl rfl (by decide +kernel) ⟨Nat.le_of_ble_eq_true rfl, Nat.le_of_ble_eq_true rfl⟩) rfl rfl (Nat.le_of_ble_eq_true rfl) dX11_ceases_55 ⟨Nat.le_of_ble_eq_true rfl, Nat.le_of_ble_eq_true rfl⟩ (fun H locs hPz17 hW hS => ?_)
    refine W.eq (g2 := F0 m 58 ls []) rfl ?_
    refine lv_aload_n hx hb dX11_ceases_58 rfl (lv_at hl 0 rfl) ?_
    refine lv_iload_n hx hb dX11_ceases_59 rfl (lv_at hl 1 rfl) ?_
    refine lv_iload_n hx hb dX11_ceases_60 rfl (lv_at hl 2 rfl) ?_
    replace hf := obE hf
    obtain ⟨z21, hz21, hf⟩ := hf
    obtain ⟨r23, S22⟩ := z21
    replace hf := ltE (ltE hf r23 rfl) S22 rfl
    refine x_callV (As := [.int v1, .int v2]) (rest := []) (o := (some (.int r23))) (S1 := S22) hC hl.1 hW hS hGs hA tv0 rfl (show vwCl[10]? = some (RX11, TX11, 30) ∧ 10 < 11 from ⟨rfl, by decide⟩) (c_X11_stateOf l g ad n K H.size F S18 v0 v1 v2 tv0 r23 S22 hz21) (cwV 2 hts gX11_ceases_X11_stateOf rfl rfl rfl (by decide +kernel) ⟨Nat.le_of_ble_eq_true rfl, Nat.le_of_ble_eq_true rfl⟩) rfl rfl (Nat.le_of_ble_eq_true rfl) dX11_ceases_61 ⟨Nat.le_of_ble_eq_true rfl, Nat.le_of_ble_eq_true rfl⟩ (fun H locs hPz21 hW hS => ?_)
    refine W.eq (g2 := F0 m 64 ls [.int r23]) rfl ?_
    obtain ⟨e1, e2⟩ := so2 hf
    subst e1
    subst e2
    exact W.iret (v := r23) hx hb hr (fun t ht hWm => ⟨⟨rfl, by unfold QB; rw [ht]; exact ⟨hW, trivial⟩⟩, hS.F ht⟩) hS.2.2 dX11_ceases_64 hlk
  have L37 : ∀ (S0 : St) (v0 : Nat) (v1 : Int32) (v2 : Int32) (v4 : Int32) (s0 : Int32) (s1 : Int32) (s2 : Nat) (tv0 : v0 < n ∧ K v0 = 10) (ts2 : s2 < n ∧ K s2 = 12) (H : Heap) (locs : List Loc) (ls : Array Slot), f_X11_ceases_L37 F S0 v0 v1 v2 v4 s0 s1 s2 = some (r9, S9) → Wb g ad n K S0 (dA ad n s.heap.size) H → va_S (dA ad n s.heap.size) s.heap H locs → lv_has ls 5 [(0, .ref (ad v0)), (1, .int v1), (2, .int v2), (4, .int v4)] → W p l e (headSpec wsX11_ceases { frames := 6, cells := 0, slots := 0, locals := 143 }).room s m (List.toArray [.ref (ad p0), .int p1, .int p2, .int p3]) below meth c H locs 0 0 (MQ below (QR (some (.int r9)) (QB g ad n K S9 (dA ad n s.heap.size) (True)) (dA ad n s.heap.size)) (List.toArray [.ref (ad p0), .int p1, .int p2, .int p3]) s 0 0 (dA ad n s.heap.size)) (F0 m 37 ls [.int s0, .int s1, .ref (ad s2)]) := by
    intro S0 v0 v1 v2 v4 s0 s1 s2 tv0 ts2 H locs ls hf hW hS hl
    unfold f_X11_ceases_L37 at hf
    replace hf := ckiE hf
    obtain ⟨h28, hf⟩ := hf
    refine x_iast hC hW hS ts2 rfl rfl h28 dX11_ceases_37 (fun S29 H locs eS29 hW hS => ?_)
    replace hf := ltE hf S29 eS29
    refine lv_aload_n hx hb dX11_ceases_38 rfl (lv_at hl 0 rfl) ?_
    refine lv_iload hx hb dX11_ceases_39 (lv_at hl 3 rfl) ?_
    refine lv_if_eq (tgt := 48) hx hb dX11_ceases_41 (by decide) (fun c30 => ?_) (fun c30 => ?_)
    · replace hf := ifT c30 hf
      refine lv_iconst (v := 4) hx hb dX11_ceases_48 (by decide) ?_
      exact L49 S29 v0 v1 v2 4 v0 tv0 tv0 _ _ _ hf hW hS (lv_sub hl [0, 1, 2] rfl)
    · replace hf := ifF c30 hf
      refine lv_iconst (v := 5) hx hb dX11_ceases_44 (by decide) ?_
      refine lv_goto (tgt := 49) hx hb dX11_ceases_45 (by decide) ?_
      exact L49 S29 v0 v1 v2 5 v0 tv0 tv0 _ _ _ hf hW hS (lv_sub hl [0, 1, 2] rfl)
  have L14 : ∀ (S0 : St) (v0 : Nat) (v1 : Int32) (v2 : Int32) (v3 : Int32) (s0 : Int32) (tv0 : v0 < n ∧ K v0 = 10) (H : Heap) (locs : List Loc) (ls : Array Slot), f_X11_ceases_L14 F S0 v0 v1 v2 v3 s0 = some (r9, S9) → Wb g ad n K S0 (dA ad n s.heap.size) H → va_S (dA ad n s.heap.size) s.heap H locs → lv_has ls 5 [(0, .ref (ad v0)), (1, .int v1), (2, .int v2), (3, .int v3)] → W p l e (headSpec wsX11_ceases { frames := 6, cells := 0, slots := 0, locals := 143 }).room s m (List.toArray [.ref (ad p0), .int p1, .int p2, .int p3]) below meth c H locs 0 0 (MQ below (QR (some (.int r9)) (QB g ad n K S9 (dA ad n s.heap.size) (True)) (dA ad n s.heap.size)) (List.toArray [.ref (ad p0), .int p1, .int p2, .int p3]) s 0 0 (dA ad n s.heap.size)) (F0 m 14 ls [.int s0]) := by
    intro S0 v0 v1 v2 v3 s0 tv0 H locs ls hf hW hS hl
    unfold f_X11_ceases_L14 at hf
    refine lv_istore (lv' := [(4, .int s0), (0, .ref (ad v0)), (1, .int v1), (2, .int v2), (3, .int v3)]) hx hb dX11_ceases_14 hl (by decide) rfl (fun ls hl => ?_)
    refine lv_aload_n hx hb dX11_ceases_16 rfl (lv_at hl 1 rfl) ?_
    replace hf := obE hf
    obtain ⟨j37, qj37, hf⟩ := hf
    have tj37 := x_rt hW qj37 12 ⟨by decide, rfl⟩
    refine x_getr 1001 (ci := 10) (C := RX11) (T := TX11) (N := 30) 1 hC hin11 hW tv0 rfl rfl ⟨by decide, by decide, rfl, rfl⟩ rfl w_0 dX11_ceases_17 qj37 ?_
    refine lv_iload_n hx hb dX11_ceases_20 rfl (lv_at hl 2 rfl) ?_
    refine lv_iload_n hx hb dX11_ceases_21 rfl (lv_at hl 3 rfl) ?_
    replace hf := obE hf
    obtain ⟨z38, hz38, hf⟩ := hf
    obtain ⟨r40, S39⟩ := z38
    replace hf := ltE (ltE hf r40 rfl) S39 rfl
    refine x_callS (As := [.int v1, .int v2]) (rest := [.ref (ad j37)]) (o := (some (.int r40))) (S1 := S39) hC hl.1 hW hS hGs hA (c_X11_refAt l g ad n K H.size F S0 v1 v2 r40 S39 hz38) (va_cwS 2 hts gX11_ceases_X11_refAt rfl rfl rfl (by decide +kernel) ⟨Nat.le_of_ble_eq_true rfl, Nat.le_of_ble_eq_true rfl⟩) rfl rfl (Nat.le_of_ble_eq_true rfl) dX11_ceases_22 ⟨Nat.le_of_ble_eq_true rfl, Nat.le_of_ble_eq_true rfl⟩ (fun H locs hPz38 hW hS => ?_)
    refine W.eq (g2 := F0 m 25 ls [.int r40, .ref (ad j37)]) rfl ?_
    refine lv_iconst (v := 0) hx hb dX11_ceases_25 (by decide) ?_
    refine lv_iadd hx hb dX11_ceases_26 ?_
    refine lv_iload hx hb dX11_ceases_27 (lv_at hl 0 rfl) ?_
    refine lv_if_eq (tgt := 36) hx hb dX11_ceases_29 (by decide) (fun c42 => ?_) (fun c42 => ?_)
    · replace hf := ifT c42 hf
      refine lv_iconst (v := 3) hx hb dX11_ceases_36 (by decide) ?_
      exact L37 S39 v0 v1 v2 s0 3 (r40 + 0) j37 tv0 tj37 _ _ _ hf hW hS (lv_sub hl [1, 2, 3, 0] rfl)
    · replace hf := ifF c42 hf
      refine lv_iload_n hx hb dX11_ceases_32 rfl (lv_at hl 4 rfl) ?_
      refine lv_goto (tgt := 37) hx hb dX11_ceases_33 (by decide) ?_
      exact L37 S39 v0 v1 v2 s0 v3 (r40 + 0) j37 tv0 tj37 _ _ _ hf hW hS (lv_sub hl [1, 2, 3, 0] rfl)
  unfold f_X11_ceases at hf
  refine lv_aload_n hx hb dX11_ceases_0 rfl (lv_at hl 0 rfl) ?_
  refine lv_iload_n hx hb dX11_ceases_1 rfl (lv_at hl 1 rfl) ?_
  refine lv_iload_n hx hb dX11_ceases_2 rfl (lv_at hl 2 rfl) ?_
  replace hf := obE hf
  obtain ⟨z43, hz43, hf⟩ := hf
  obtain ⟨r45, S44⟩ := z43
  replace hf := ltE (ltE hf r45 rfl) S44 rfl
  refine x_callV (As := [.int p1, .int p2]) (rest := []) (o := (some (.int r45))) (S1 := S44) hC hl.1 hW hS hGs hA tp0 rfl (show vwCl[10]? = some (RX11, TX11, 30) ∧ 10 < 11 from ⟨rfl, by decide⟩) (c_X11_covers l g ad n K s.heap.size F S0 p0 p1 p2 tp0 r45 S44 hz43) (cwV 2 hts gX11_ceases_X11_covers rfl rfl rfl (by decide +kernel) ⟨Nat.le_of_ble_eq_true rfl, Nat.le_of_ble_eq_true rfl⟩) rfl rfl (Nat.le_of_ble_eq_true rfl) dX11_ceases_3 ⟨Nat.le_of_ble_eq_true rfl, Nat.le_of_ble_eq_true rfl⟩ (fun H locs hPz43 hW hS => ?_)
  refine W.eq (g2 := F0 m 6 ls [.int r45]) rfl ?_
  refine lv_if_eq (tgt := 13) hx hb dX11_ceases_6 (by decide) (fun c47 => ?_) (fun c47 => ?_)
  · replace hf := ifT c47 hf
    refine lv_iconst (v := 0) hx hb dX11_ceases_13 (by decide) ?_
    exact L14 S44 p0 p1 p2 p3 0 tp0 _ _ _ hf hW hS (lv_sub hl [0, 1, 2, 3] rfl)
  · replace hf := ifF c47 hf
    refine lv_iconst (v := 1) hx hb dX11_ceases_9 (by decide) ?_
    refine lv_goto (tgt := 14) hx hb dX11_ceases_10 (by decide) ?_
    exact L14 S44 p0 p1 p2 p3 1 tp0 _ _ _ hf hW hS (lv_sub hl [0, 1, 2, 3] rfl)
set_option maxHeartbeats 4000000 in
set_option maxRecDepth 100000 in
theorem c_X11_cutInput (l : Launch) (g : GP) (ad : Nat → Nat) (n : Nat) (K : Nat → Nat) (sz F : Nat) (S0 : St) (p0 : Nat) (tp0 : p0 < n ∧ K p0 = 10) (S9 : St) (hf : f_X11_cutInput F S0 p0 = some S9) : Met l yX11_cutInput wsX11_cutInput { frames := 0, cells := 0, slots := 0, locals := 0 } (va_Pc [.ref (ad p0)] (PB g ad n K S0 sz)) (QR none (QB g ad n K S9 (dA ad n sz) (True)) (dA ad n sz)) 0 0 (dA ad n sz) := by
  refine Met.ofW (cc := cX11_cutInput) (maxL := 2) (ret := none) (by decide) rfl ?_
  intro p e s m args below meth c s₁ B hml hv
  obtain ⟨rfl, hsz, hW, hK, hGs⟩ := x_start hv
  subst hsz
  have hx := B.exec
  have hb := B.bytes
  have hr := B.returns
  have hts := atoms_spec (ws := wsX11_cutInput) B.pre
  have hown : s.vm.findClass RX11 = some m.cls := findClass_of_methodNamed B.named
  have hlk := B.notSynchronized
  have hC : Cx g p s m _ c cX11_cutInput RX11 wsX11_cutInput 2 := ⟨hx, hb, hml, hown, hts, hK⟩
  have hA : ∀ q : Nat, s.heap.size ≤ q → dA ad n s.heap.size q := fun q h => Or.inr h
  have hS : va_S (dA ad n s.heap.size) s.heap s.heap [] := va_S.rf
  have hl := lv_entry ([.ref (ad p0)]) (n := 2) (Nat.le_of_ble_eq_true rfl)
  rw [lg_entry_eq]
  generalize (lg_sl ([.ref (ad p0)]) ++ List.replicate (2 - (lg_sl ([.ref (ad p0)])).length) Slot.unset).toArray = ls at hl ⊢
  have hl : lv_has ls 2 [(0, .ref (ad p0))] := hl
  have hin11 : ∀ w ∈ wsX110, w ∈ wsX11_cutInput := by decide +kernel
  have w_0 := hts (.fieldLink RX11 91 "MailSpoolModel" "inputSize" "I") (by decide +kernel)
  have w_1 := hts (.fieldLink RX11 41 "MailSpoolModel" "partStart" "[I") (by decide +kernel)
  have w_2 := hts (.fieldLink RX11 325 "MailSpoolModel" "partsIn" "I") (by decide +kernel)
  have w_3 := hts (.fieldLink RX11 32 "MailSpoolModel" "input" "[B") (by decide +kernel)
  have hGE := hGs.2.2.2.2.2.2.1
  have hGM := hGs.2.2.2.2.2.2.2.1
  have L14 : ∀ (fu14 : Nat) (S0 : St) (v0 : Nat) (v1 : Int32) (tv0 : v0 < n ∧ K v0 = 10) (H : Heap) (locs : List Loc) (ls : Array Slot), f_X11_cutInput_L14 F fu14 S0 v0 v1 = some S9 → Wb g ad n K S0 (dA ad n s.heap.size) H → va_S (dA ad n s.heap.size) s.heap H locs → lv_has ls 2 [(0, .ref (ad v0)), (1, .int v1)] → W p l e (headSpec wsX11_cutInput { frames := 0, cells := 0, slots := 0, locals := 0 }).room s m (List.toArray [.ref (ad p0)]) below meth c H locs 0 0 (MQ below (QR none (QB g ad n K S9 (dA ad n s.heap.size) (True)) (dA ad n s.heap.size)) (List.toArray [.ref (ad p0)]) s 0 0 (dA ad n s.heap.size)) (F0 m 14 ls []) := by
    intro fu14
    induction fu14 with
    | zero =>
      intro S0 v0 v1 tv0 H locs ls hf
      cases hf
    | succ fu14 ih14 =>
      have L58 : ∀ (S0 : St) (v0 : Nat) (v1 : Int32) (tv0 : v0 < n ∧ K v0 = 10) (H : Heap) (locs : List Loc) (ls : Array Slot), f_X11_cutInput_L58 F (fun a0 a1 a2 => f_X11_cutInput_L14 F fu14 a0 a1 a2) S0 v0 v1 = some S9 → Wb g ad n K S0 (dA ad n s.heap.size) H → va_S (dA ad n s.heap.size) s.heap H locs → lv_has ls 2 [(0, .ref (ad v0)), (1, .int v1)] → W p l e (headSpec wsX11_cutInput { frames := 0, cells := 0, slots := 0, locals := 0 }).room s m (List.toArray [.ref (ad p0)]) below meth c H locs 0 0 (MQ below (QR none (QB g ad n K S9 (dA ad n s.heap.size) (True)) (dA ad n s.heap.size)) (List.toArray [.ref (ad p0)]) s 0 0 (dA ad n s.heap.size)) (F0 m 58 ls []) := by
        intro S0 v0 v1 tv0 H locs ls hf hW hS hl
        unfold f_X11_cutInput_L58 at hf
        obtain ⟨x2, ex2⟩ : ∃ z : Int32, z = v1 + 1 := ⟨_, rfl⟩
        replace hf := ltE hf x2 ex2
        refine lv_iinc (v := x2) (lv' := [(1, .int x2), (0, .ref (ad v0))]) hx hb dX11_cutInput_58 hl (k := 1) rfl (by rw [ex2]; rfl) (by decide) rfl (fun ls hl => ?_)
        refine lv_goto (tgt := 14) hx hb dX11_cutInput_61 (by decide) ?_
        exact ih14 S0 v0 x2 tv0 _ _ _ hf hW hS (lv_sub hl [1, 0] rfl)
      intro S0 v0 v1 tv0 H locs ls hf hW hS hl
      unfold f_X11_cutInput_L14 at hf
      refine lv_iload_n hx hb dX11_cutInput_14 rfl (lv_at hl 1 rfl) ?_
      refine lv_aload_n hx hb dX11_cutInput_15 rfl (lv_at hl 0 rfl) ?_
      refine x_geti 1007 (ci := 10) (C := RX11) (T := TX11) (N := 30) 7 hC hin11 hW tv0 rfl rfl ⟨by decide, by decide, rfl, rfl⟩ rfl w_0 dX11_cutInput_16 ?_
      refine lv_icmp_ge (tgt := 64) hx hb dX11_cutInput_19 (by decide) (fun c14 => ?_) (fun c14 => ?_)
      · replace hf := ifT c14 hf
        refine lv_aload_n hx hb dX11_cutInput_64 rfl (lv_at hl 0 rfl) ?_
        replace hf := obE hf
        obtain ⟨j15, qj15, hf⟩ := hf
        have tj15 := x_rt hW qj15 12 ⟨by decide, rfl⟩
        refine x_getr 1017 (ci := 10) (C := RX11) (T := TX11) (N := 30) 17 hC hin11 hW tv0 rfl rfl ⟨by decide, by decide, rfl, rfl⟩ rfl w_1 dX11_cutInput_65 qj15 ?_
        refine lv_aload_n hx hb dX11_cutInput_68 rfl (lv_at hl 0 rfl) ?_
        refine x_geti 1018 (ci := 10) (C := RX11) (T := TX11) (N := 30) 18 hC hin11 hW tv0 rfl rfl ⟨by decide, by decide, rfl, rfl⟩ rfl w_2 dX11_cutInput_69 ?_
        refine lv_aload_n hx hb dX11_cutInput_72 rfl (lv_at hl 0 rfl) ?_
        refine x_geti 1007 (ci := 10) (C := RX11) (T := TX11) (N := 30) 7 hC hin11 hW tv0 rfl rfl ⟨by decide, by decide, rfl, rfl⟩ rfl w_0 dX11_cutInput_73 ?_
        refine lv_iconst (v := 1) hx hb dX11_cutInput_76 (by decide) ?_
        refine lv_iadd hx hb dX11_cutInput_77 ?_
        replace hf := ckiE hf
        obtain ⟨h16, hf⟩ := hf
        refine x_iast hC hW hS tj15 rfl rfl h16 dX11_cutInput_78 (fun S17 H locs eS17 hW hS => ?_)
        replace hf := ltE hf S17 eS17
        have e1 := Option.some.inj hf
        subst e1
        exact W.vret hx hb hr (fun t ht hWm => ⟨⟨rfl, by unfold QB; rw [ht]; exact ⟨hW, trivial⟩⟩, hS.F ht⟩) hS.2.2 dX11_cutInput_79 hlk
      · replace hf := ifF c14 hf
        refine lv_aload_n hx hb dX11_cutInput_22 rfl (lv_at hl 0 rfl) ?_
        replace hf := obE hf
        obtain ⟨j18, qj18, hf⟩ := hf
        have tj18 := x_rt hW qj18 11 ⟨by decide, rfl⟩
        refine x_getr 1006 (ci := 10) (C := RX11) (T := TX11) (N := 30) 6 hC hin11 hW tv0 rfl rfl ⟨by decide, by decide, rfl, rfl⟩ rfl w_3 dX11_cutInput_23 qj18 ?_
        refine lv_iload_n hx hb dX11_cutInput_26 rfl (lv_at hl 1 rfl) ?_
        replace hf := ckiE hf
        obtain ⟨h19, hf⟩ := hf
        refine x_bald hC hW tj18 rfl rfl h19 dX11_cutInput_27 ?_
        refine lv_bipush (v := 124) hx hb dX11_cutInput_28 (by decide) ?_
        refine lv_icmp_eq (tgt := 36) hx hb dX11_cutInput_30 (by decide) (fun c20 => ?_) (fun c20 => ?_)
        · replace hf := ifT c20 hf
          refine lv_aload_n hx hb dX11_cutInput_36 rfl (lv_at hl 0 rfl) ?_
          replace hf := obE hf
          obtain ⟨j21, qj21, hf⟩ := hf
          have tj21 := x_rt hW qj21 12 ⟨by decide, rfl⟩
          refine x_getr 1017 (ci := 10) (C := RX11) (T := TX11) (N := 30) 17 hC hin11 hW tv0 rfl rfl ⟨by decide, by decide, rfl, rfl⟩ rfl w_1 dX11_cutInput_37 qj21 ?_
          refine lv_aload_n hx hb dX11_cutInput_40 rfl (lv_at hl 0 rfl) ?_
          refine x_geti 1018 (ci := 10) (C := RX11) (T := TX11) (N := 30) 18 hC hin11 hW tv0 rfl rfl ⟨by decide, by decide, rfl, rfl⟩ rfl w_2 dX11_cutInput_41 ?_
          refine lv_iload_n hx hb dX11_cutInput_44 rfl (lv_at hl 1 rfl) ?_
          refine lv_iconst (v := 1) hx hb dX11_cutInput_45 (by decide) ?_
          refine lv_iadd hx hb dX11_cutInput_46 ?_
          replace hf := ckiE hf
          obtain ⟨h22, hf⟩ := hf
          refine x_iast hC hW hS tj21 rfl rfl h22 dX11_cutInput_47 (fun S23 H locs eS23 hW hS => ?_)
          replace hf := ltE hf S23 eS23
          refine lv_aload_n hx hb dX11_cutInput_48 rfl (lv_at hl 0 rfl) ?_
          refine lv_dup hx hb dX11_cutInput_49 rfl ?_
          refine x_geti 1018 (ci := 10) (C := RX11) (T := TX11) (N := 30) 18 hC hin11 hW tv0 rfl rfl ⟨by decide, by decide, rfl, rfl⟩ rfl w_2 dX11_cutInput_50 ?_
          refine lv_iconst (v := 1) hx hb dX11_cutInput_53 (by decide) ?_
          refine lv_iadd hx hb dX11_cutInput_54 ?_
          refine x_puti 1018 (ci := 10) (C := RX11) (T := TX11) (N := 30) (v := (si S23 1018 v0) + 1) (ty := .int) 18 hC hin11 tyX11_ok nmX11 hW hS tv0 rfl rfl ⟨by decide, by decide, rfl, rfl⟩ rfl w_2 rfl (by decide +kernel) rfl rfl dX11_cutInput_55 (fun S24 H locs eS24 hW hS => ?_)
          replace hf := ltE hf S24 eS24
          exact L58 S24 v0 v1 tv0 _ _ _ hf hW hS (lv_sub hl [0, 1] rfl)
        · replace hf := ifF c20 hf
          refine lv_goto (tgt := 58) hx hb dX11_cutInput_33 (by decide) ?_
          exact L58 S0 v0 v1 tv0 _ _ _ hf hW hS (lv_sub hl [0, 1] rfl)
  unfold f_X11_cutInput at hf
  refine lv_aload_n hx hb dX11_cutInput_0 rfl (lv_at hl 0 rfl) ?_
  refine lv_iconst (v := 1) hx hb dX11_cutInput_1 (by decide) ?_
  refine x_puti 1018 (ci := 10) (C := RX11) (T := TX11) (N := 30) (v := 1) (ty := .int) 18 hC hin11 tyX11_ok nmX11 hW hS tp0 rfl rfl ⟨by decide, by decide, rfl, rfl⟩ rfl w_2 rfl (by decide +kernel) rfl rfl dX11_cutInput_2 (fun S25 H locs eS25 hW hS => ?_)
  replace hf := ltE hf S25 eS25
  refine lv_aload_n hx hb dX11_cutInput_5 rfl (lv_at hl 0 rfl) ?_
  replace hf := obE hf
  obtain ⟨j26, qj26, hf⟩ := hf
  have tj26 := x_rt hW qj26 12 ⟨by decide, rfl⟩
  refine x_getr 1017 (ci := 10) (C := RX11) (T := TX11) (N := 30) 17 hC hin11 hW tp0 rfl rfl ⟨by decide, by decide, rfl, rfl⟩ rfl w_1 dX11_cutInput_6 qj26 ?_
  refine lv_iconst (v := 0) hx hb dX11_cutInput_9 (by decide) ?_
  refine lv_iconst (v := 0) hx hb dX11_cutInput_10 (by decide) ?_
  replace hf := ckiE hf
  obtain ⟨h27, hf⟩ := hf
  refine x_iast hC hW hS tj26 rfl rfl h27 dX11_cutInput_11 (fun S28 H locs eS28 hW hS => ?_)
  replace hf := ltE hf S28 eS28
  refine lv_iconst (v := 0) hx hb dX11_cutInput_12 (by decide) ?_
  refine lv_istore_n (lv' := [(1, .int 0), (0, .ref (ad p0))]) hx hb dX11_cutInput_13 rfl hl (by decide) rfl (fun ls hl => ?_)
  exact L14 F S28 p0 0 tp0 _ _ _ hf hW hS (lv_sub hl [1, 0] rfl)
set_option maxHeartbeats 4000000 in
set_option maxRecDepth 100000 in
theorem c_X11_lengthIn (l : Launch) (g : GP) (ad : Nat → Nat) (n : Nat) (K : Nat → Nat) (sz F : Nat) (S0 : St) (p0 : Nat) (p1 : Int32) (tp0 : p0 < n ∧ K p0 = 10) (r9 : Int32) (S9 : St) (hf : f_X11_lengthIn F S0 p0 p1 = some (r9, S9)) : Met l yX11_lengthIn wsX11_lengthIn { frames := 0, cells := 0, slots := 0, locals := 0 } (va_Pc [.ref (ad p0), .int p1] (PB g ad n K S0 sz)) (QR (some (.int r9)) (QB g ad n K S9 (dA ad n sz) (True)) (dA ad n sz)) 0 0 (dA ad n sz) := by
  refine Met.ofW (cc := cX11_lengthIn) (maxL := 2) (ret := (some .int)) (by decide) rfl ?_
  intro p e s m args below meth c s₁ B hml hv
  obtain ⟨rfl, hsz, hW, hK, hGs⟩ := x_start hv
  subst hsz
  have hx := B.exec
  have hb := B.bytes
  have hr := B.returns
  have hts := atoms_spec (ws := wsX11_lengthIn) B.pre
  have hown : s.vm.findClass RX11 = some m.cls := findClass_of_methodNamed B.named
  have hlk := B.notSynchronized
  have hC : Cx g p s m _ c cX11_lengthIn RX11 wsX11_lengthIn 2 := ⟨hx, hb, hml, hown, hts, hK⟩
  have hA : ∀ q : Nat, s.heap.size ≤ q → dA ad n s.heap.size q := fun q h => Or.inr h
  have hS : va_S (dA ad n s.heap.size) s.heap s.heap [] := va_S.rf
  have hl := lv_entry ([.ref (ad p0), .int p1]) (n := 2) (Nat.le_of_ble_eq_true rfl)
  rw [lg_entry_eq]
  generalize (lg_sl ([.ref (ad p0), .int p1]) ++ List.replicate (2 - (lg_sl ([.ref (ad p0), .int p1])).length) Slot.unset).toArray = ls at hl ⊢
  have hl : lv_has ls 2 [(0, .ref (ad p0)), (1, .int p1)] := hl
  have hin11 : ∀ w ∈ wsX110, w ∈ wsX11_lengthIn := by decide +kernel
  have w_0 := hts (.fieldLink RX11 41 "MailSpoolModel" "partStart" "[I") (by decide +kernel)
  have hGE := hGs.2.2.2.2.2.2.1
  have hGM := hGs.2.2.2.2.2.2.2.1
  unfold f_X11_lengthIn at hf
  refine lv_aload_n hx hb dX11_lengthIn_0 rfl (lv_at hl 0 rfl) ?_
  replace hf := obE hf
  obtain ⟨j1, qj1, hf⟩ := hf
  have tj1 := x_rt hW qj1 12 ⟨by decide, rfl⟩
  refine x_getr 1017 (ci := 10) (C := RX11) (T := TX11) (N := 30) 17 hC hin11 hW tp0 rfl rfl ⟨by decide, by decide, rfl, rfl⟩ rfl w_0 dX11_lengthIn_1 qj1 ?_
  refine lv_iload_n hx hb dX11_lengthIn_4 rfl (lv_at hl 1 rfl) ?_
  refine lv_iconst (v := 1) hx hb dX11_lengthIn_5 (by decide) ?_
  refine lv_iadd hx hb dX11_lengthIn_6 ?_
  replace hf := ckiE hf
  obtain ⟨h2, hf⟩ := hf
  refine x_iald hC hW tj1 rfl rfl h2 dX11_lengthIn_7 ?_
  refine lv_aload_n hx hb dX11_lengthIn_8 rfl (lv_at hl 0 rfl) ?_
  replace hf := obE hf
  obtain ⟨j3, qj3, hf⟩ := hf
  have tj3 := x_rt hW qj3 12 ⟨by decide, rfl⟩
  refine x_getr 1017 (ci := 10) (C := RX11) (T := TX11) (N := 30) 17 hC hin11 hW tp0 rfl rfl ⟨by decide, by decide, rfl, rfl⟩ rfl w_0 dX11_lengthIn_9 qj3 ?_
  refine lv_iload_n hx hb dX11_lengthIn_12 rfl (lv_at hl 1 rfl) ?_
  replace hf := ckiE hf
  obtain ⟨h4, hf⟩ := hf
  refine x_iald hC hW tj3 rfl rfl h4 dX11_lengthIn_13 ?_
  refine lv_isub hx hb dX11_lengthIn_14 ?_
  refine lv_iconst (v := 1) hx hb dX11_lengthIn_15 (by decide) ?_
  refine lv_isub hx hb dX11_lengthIn_16 ?_
  obtain ⟨e1, e2⟩ := so2 hf
  subst e1
  subst e2
  exact W.iret (v := ((ai S0 j1 (Int32.toNatClampNeg (p1 + 1))) - (ai S0 j3 (Int32.toNatClampNeg p1))) - 1) hx hb hr (fun t ht hWm => ⟨⟨rfl, by unfold QB; rw [ht]; exact ⟨hW, trivial⟩⟩, hS.F ht⟩) hS.2.2 dX11_lengthIn_17 hlk
set_option maxHeartbeats 4000000 in
set_option maxRecDepth 100000 in
theorem c_X11_isContent (l : Launch) (g : GP) (ad : Nat → Nat) (n : Nat) (K : Nat → Nat) (sz F : Nat) (S0 : St) (p0 : Nat) (tp0 : p0 < n ∧ K p0 = 10) (r9 : Int32) (S9 : St) (hf : f_X11_isContent F S0 p0 = some (r9, S9)) : Met l yX11_isContent wsX11_isContent { frames := 1, cells := 0, slots := 0, locals := 25 } (va_Pc [.ref (ad p0)] (PB g ad n K S0 sz)) (QR (some (.int r9)) (QB g ad n K S9 (dA ad n sz) (True)) (dA ad n sz)) 0 0 (dA ad n sz) := by
  refine Met.ofW (cc := cX11_isContent) (maxL := 3) (ret := (some .boolean)) (by decide) rfl ?_
  intro p e s m args below meth c s₁ B hml hv
  obtain ⟨rfl, hsz, hW, hK, hGs⟩ := x_start hv
  subst hsz
  have hx := B.exec
  have hb := B.bytes
  have hr := B.returns
  have hts := atoms_spec (ws := wsX11_isContent) B.pre
  have hown : s.vm.findClass RX11 = some m.cls := findClass_of_methodNamed B.named
  have hlk := B.notSynchronized
  have hC : Cx g p s m _ c cX11_isContent RX11 wsX11_isContent 3 := ⟨hx, hb, hml, hown, hts, hK⟩
  have hA : ∀ q : Nat, s.heap.size ≤ q → dA ad n s.heap.size q := fun q h => Or.inr h
  have hS : va_S (dA ad n s.heap.size) s.heap s.heap [] := va_S.rf
  have hl := lv_entry ([.ref (ad p0)]) (n := 3) (Nat.le_of_ble_eq_true rfl)
  rw [lg_entry_eq]
  generalize (lg_sl ([.ref (ad p0)]) ++ List.replicate (3 - (lg_sl ([.ref (ad p0)])).length) Slot.unset).toArray = ls at hl ⊢
  have hl : lv_has ls 3 [(0, .ref (ad p0))] := hl
  have hin11 : ∀ w ∈ wsX110, w ∈ wsX11_isContent := by decide +kernel
  have w_0 := hts (.fieldLink RX11 325 "MailSpoolModel" "partsIn" "I") (by decide +kernel)
  have w_1 := hts (.constantLong RX11 334 (200)) (by decide +kernel)
  have hGE := hGs.2.2.2.2.2.2.1
  have hGM := hGs.2.2.2.2.2.2.2.1
  have L20 : ∀ (fu20 : Nat) (S0 : St) (v0 : Nat) (v1 : Int32) (v2 : Int32) (tv0 : v0 < n ∧ K v0 = 10) (H : Heap) (locs : List Loc) (ls : Array Slot), f_X11_isContent_L20 F fu20 S0 v0 v1 v2 = some (r9, S9) → Wb g ad n K S0 (dA ad n s.heap.size) H → va_S (dA ad n s.heap.size) s.heap H locs → lv_has ls 3 [(0, .ref (ad v0)), (1, .int v1), (2, .int v2)] → W p l e (headSpec wsX11_isContent { frames := 1, cells := 0, slots := 0, locals := 25 }).room s m (List.toArray [.ref (ad p0)]) below meth c H locs 0 0 (MQ below (QR (some (.int r9)) (QB g ad n K S9 (dA ad n s.heap.size) (True)) (dA ad n s.heap.size)) (List.toArray [.ref (ad p0)]) s 0 0 (dA ad n s.heap.size)) (F0 m 20 ls []) := by
    intro fu20
    induction fu20 with
    | zero =>
      intro S0 v0 v1 v2 tv0 H locs ls hf
      cases hf
    | succ fu20 ih20 =>
      intro S0 v0 v1 v2 tv0 H locs ls hf hW hS hl
      unfold f_X11_isContent_L20 at hf
      refine lv_iload_n hx hb dX11_isContent_20 rfl (lv_at hl 2 rfl) ?_
      refine lv_aload_n hx hb dX11_isContent_21 rfl (lv_at hl 0 rfl) ?_
      refine x_geti 1018 (ci := 10) (C := RX11) (T := TX11) (N := 30) 18 hC hin11 hW tv0 rfl rfl ⟨by decide, by decide, rfl, rfl⟩ rfl w_0 dX11_isContent_22 ?_
      refine lv_icmp_ge (tgt := 52) hx hb dX11_isContent_25 (by decide) (fun c14 => ?_) (fun c14 => ?_)
      · replace hf := ifT c14 hf
        refine lv_iload_n hx hb dX11_isContent_52 rfl (lv_at hl 1 rfl) ?_
        replace hf := ckE hf
        obtain ⟨h15, hf⟩ := hf
        obtain ⟨e1, e2⟩ := so2 hf
        subst e1
        subst e2
        exact W.zret (v := v1) hx hb hr (zn h15) (fun t ht hWm => ⟨⟨rfl, by unfold QB; rw [ht]; exact ⟨hW, trivial⟩⟩, hS.F ht⟩) hS.2.2 dX11_isContent_53 hlk
      · replace hf := ifF c14 hf
        refine lv_iload_n hx hb dX11_isContent_28 rfl (lv_at hl 1 rfl) ?_
        refine lv_if_eq (tgt := 52) hx hb dX11_isContent_29 (by decide) (fun c16 => ?_) (fun c16 => ?_)
        · replace hf := ifT c16 hf
          refine lv_iload_n hx hb dX11_isContent_52 rfl (lv_at hl 1 rfl) ?_
          replace hf := ckE hf
          obtain ⟨h17, hf⟩ := hf
          obtain ⟨e1, e2⟩ := so2 hf
          subst e1
          subst e2
          exact W.zret (v := v1) hx hb hr (zn h17) (fun t ht hWm => ⟨⟨rfl, by unfold QB; rw [ht]; exact ⟨hW, trivial⟩⟩, hS.F ht⟩) hS.2.2 dX11_isContent_53 hlk
        · replace hf := ifF c16 hf
          refine lv_aload_n hx hb dX11_isContent_32 rfl (lv_at hl 0 rfl) ?_
          refine lv_iload_n hx hb dX11_isContent_33 rfl (lv_at hl 2 rfl) ?_
          replace hf := obE hf
          obtain ⟨z18, hz18, hf⟩ := hf
          obtain ⟨r20, S19⟩ := z18
          replace hf := ltE (ltE hf r20 rfl) S19 rfl
          refine x_callV (As := [.int v2]) (rest := []) (o := (some (.int r20))) (S1 := S19) hC hl.1 hW hS hGs hA tv0 rfl (show vwCl[10]? = some (RX11, TX11, 30) ∧ 10 < 11 from ⟨rfl, by decide⟩) (c_X11_lengthIn l g ad n K H.size F S0 v0 v2 tv0 r20 S19 hz18) (cwV 1 hts gX11_isContent_X11_lengthIn rfl rfl rfl (by decide +kernel) ⟨Nat.le_of_ble_eq_true rfl, Nat.le_of_ble_eq_true rfl⟩) rfl rfl (Nat.le_of_ble_eq_true rfl) dX11_isContent_34 ⟨Nat.le_of_ble_eq_true rfl, Nat.le_of_ble_eq_true rfl⟩ (fun H locs hPz18 hW hS => ?_)
          refine W.eq (g2 := F0 m 37 ls [.int r20]) rfl ?_
          refine lv_i2l (v := r20.toInt64) hx hb dX11_isContent_37 rfl ?_
          refine lv_lconst (v := 1) hx hb dX11_isContent_38 (by decide) ?_
          refine lv_ldc2 (v := (200)) hx hb hown w_1 dX11_isContent_39 ?_
          replace hf := obE hf
          obtain ⟨z22, hz22, hf⟩ := hf
          obtain ⟨r24, S23⟩ := z22
          replace hf := ltE (ltE hf r24 rfl) S23 rfl
          refine x_callS (As := [.long (r20.toInt64), .long (1), .long ((200))]) (rest := []) (o := (some (.int r24))) (S1 := S23) hC hl.1 hW hS hGs hA (c_X11_in l g ad n K H.size F S19 r20.toInt64 ((1 : Int64)) (((200) : Int64)) r24 S23 hz22) (va_cwS 3 hts gX11_isContent_X11_in rfl rfl rfl (by decide +kernel) ⟨Nat.le_of_ble_eq_true rfl, Nat.le_of_ble_eq_true rfl⟩) rfl rfl (Nat.le_of_ble_eq_true rfl) dX11_isContent_42 ⟨Nat.le_of_ble_eq_true rfl, Nat.le_of_ble_eq_true rfl⟩ (fun H locs hPz22 hW hS => ?_)
          refine W.eq (g2 := F0 m 45 ls [.int r24]) rfl ?_
          refine lv_istore_n (lv' := [(1, .int r24), (0, .ref (ad v0)), (2, .int v2)]) hx hb dX11_isContent_45 rfl hl (by decide) rfl (fun ls hl => ?_)
          obtain ⟨x26, ex26⟩ : ∃ z : Int32, z = v2 + 1 := ⟨_, rfl⟩
          replace hf := ltE hf x26 ex26
          refine lv_iinc (v := x26) (lv' := [(2, .int x26), (1, .int r24), (0, .ref (ad v0))]) hx hb dX11_isContent_46 hl (k := 2) rfl (by rw [ex26]; rfl) (by decide) rfl (fun ls hl => ?_)
          refine lv_goto (tgt := 20) hx hb dX11_isContent_49 (by decide) ?_
          exact ih20 S23 v0 r24 x26 tv0 _ _ _ hf hW hS (lv_sub hl [2, 1, 0] rfl)
  have L17 : ∀ (S0 : St) (v0 : Nat) (s0 : Int32) (tv0 : v0 < n ∧ K v0 = 10) (H : Heap) (locs : List Loc) (ls : Array Slot), f_X11_isContent_L17 F S0 v0 s0 = some (r9, S9) → Wb g ad n K S0 (dA ad n s.heap.size) H → va_S (dA ad n s.heap.size) s.heap H locs → lv_has ls 3 [(0, .ref (ad v0))] → W p l e (headSpec wsX11_isContent { frames := 1, cells := 0, slots := 0, locals := 25 }).room s m (List.toArray [.ref (ad p0)]) below meth c H locs 0 0 (MQ below (QR (some (.int r9)) (QB g ad n K S9 (dA ad n s.heap.size) (True)) (dA ad n s.heap.size)) (List.toArray [.ref (ad p0)]) s 0 0 (dA ad n s.heap.size)) (F0 m 17 ls [.int s0]) := by
    intro S0 v0 s0 tv0 H locs ls hf hW hS hl
    unfold f_X11_isContent_L17 at hf
    refine lv_istore_n (lv' := [(1, .int s0), (0, .ref (ad v0))]) hx hb dX11_isContent_17 rfl hl (by decide) rfl (fun ls hl => ?_)
    refine lv_iconst (v := 0) hx hb dX11_isContent_18 (by decide) ?_
    refine lv_istore_n (lv' := [(2, .int 0), (1, .int s0), (0, .ref (ad v0))]) hx hb dX11_isContent_19 rfl hl (by decide) rfl (fun ls hl => ?_)
    exact L20 F S0 v0 s0 0 tv0 _ _ _ hf hW hS (lv_sub hl [2, 1, 0] rfl)
  unfold f_X11_isContent at hf
  refine lv_aload_n hx hb dX11_isContent_0 rfl (lv_at hl 0 rfl) ?_
  replace hf := obE hf
  obtain ⟨S28, hz27, hf⟩ := hf
  refine x_callV (As := []) (rest := []) (o := none) (S1 := S28) hC hl.1 hW hS hGs hA tp0 rfl (show vwCl[10]? = some (RX11, TX11, 30) ∧ 10 < 11 from ⟨rfl, by decide⟩) (c_X11_cutInput l g ad n K s.heap.size F S0 p0 tp0 S28 hz27) (cwV 0 hts gX11_isContent_X11_cutInput rfl rfl rfl (by decide +kernel) ⟨Nat.le_of_ble_eq_true rfl, Nat.le_of_ble_eq_true rfl⟩) rfl rfl (Nat.le_of_ble_eq_true rfl) dX11_isContent_1 ⟨Nat.le_of_ble_eq_true rfl, Nat.le_of_ble_eq_true rfl⟩ (fun H locs hPz27 hW hS => ?_)
  refine W.eq (g2 := F0 m 4 ls []) rfl ?_
  refine lv_aload_n hx hb dX11_isContent_4 rfl (lv_at hl 0 rfl) ?_
  refine x_geti 1018 (ci := 10) (C := RX11) (T := TX11) (N := 30) 18 hC hin11 hW tp0 rfl rfl ⟨by decide, by decide, rfl, rfl⟩ rfl w_0 dX11_isContent_5 ?_
  refine lv_iconst (v := 4) hx hb dX11_isContent_8 (by decide) ?_
  refine lv_icmp_gt (tgt := 16) hx hb dX11_isContent_9 (by decide) (fun c31 => ?_) (fun c31 => ?_)
  · replace hf := ifT c31 hf
    refine lv_iconst (v := 0) hx hb dX11_isContent_16 (by decide) ?_
    exact L17 S28 p0 0 tp0 _ _ _ hf hW hS (lv_sub hl [0] rfl)
  · replace hf := ifF c31 hf
    refine lv_iconst (v := 1) hx hb dX11_isContent_12 (by decide) ?_
    refine lv_goto (tgt := 17) hx hb dX11_isContent_13 (by decide) ?_
    exact L17 S28 p0 1 tp0 _ _ _ hf hW hS (lv_sub hl [0] rfl)
set_option maxHeartbeats 4000000 in
set_option maxRecDepth 100000 in
theorem c_X11_storedLike (l : Launch) (g : GP) (ad : Nat → Nat) (n : Nat) (K : Nat → Nat) (sz F : Nat) (S0 : St) (p0 : Nat) (p1 : Int32) (tp0 : p0 < n ∧ K p0 = 10) (r9 : Int32) (S9 : St) (hf : f_X11_storedLike F S0 p0 p1 = some (r9, S9)) : Met l yX11_storedLike wsX11_storedLike { frames := 2, cells := 0, slots := 0, locals := 46 } (va_Pc [.ref (ad p0), .int p1] (PB g ad n K S0 sz)) (QR (some (.int r9)) (QB g ad n K S9 (dA ad n sz) (True)) (dA ad n sz)) 0 0 (dA ad n sz) := by
  refine Met.ofW (cc := cX11_storedLike) (maxL := 5) (ret := (some .int)) (by decide) rfl ?_
  intro p e s m args below meth c s₁ B hml hv
  obtain ⟨rfl, hsz, hW, hK, hGs⟩ := x_start hv
  subst hsz
  have hx := B.exec
  have hb := B.bytes
  have hr := B.returns
  have hts := atoms_spec (ws := wsX11_storedLike) B.pre
  have hown : s.vm.findClass RX11 = some m.cls := findClass_of_methodNamed B.named
  have hlk := B.notSynchronized
  have hC : Cx g p s m _ c cX11_storedLike RX11 wsX11_storedLike 5 := ⟨hx, hb, hml, hown, hts, hK⟩
  have hA : ∀ q : Nat, s.heap.size ≤ q → dA ad n s.heap.size q := fun q h => Or.inr h
  have hS : va_S (dA ad n s.heap.size) s.heap s.heap [] := va_S.rf
  have hl := lv_entry ([.ref (ad p0), .int p1]) (n := 5) (Nat.le_of_ble_eq_true rfl)
  rw [lg_entry_eq]
  generalize (lg_sl ([.ref (ad p0), .int p1]) ++ List.replicate (5 - (lg_sl ([.ref (ad p0), .int p1])).length) Slot.unset).toArray = ls at hl ⊢
  have hl : lv_has ls 5 [(0, .ref (ad p0)), (1, .int p1)] := hl
  have hin11 : ∀ w ∈ wsX110, w ∈ wsX11_storedLike := by decide +kernel
  have w_0 := hts (.fieldLink RX11 32 "MailSpoolModel" "input" "[B") (by decide +kernel)
  have w_1 := hts (.fieldLink RX11 41 "MailSpoolModel" "partStart" "[I") (by decide +kernel)
  have w_2 := hts (.fieldLink RX11 17 "MailSpoolModel" "net" "[I") (by decide +kernel)
  have hGE := hGs.2.2.2.2.2.2.1
  have hGM := hGs.2.2.2.2.2.2.2.1
  have L2 : ∀ (fu2 : Nat) (S0 : St) (v0 : Nat) (v1 : Int32) (v2 : Int32) (tv0 : v0 < n ∧ K v0 = 10) (H : Heap) (locs : List Loc) (ls : Array Slot), f_X11_storedLike_L2 F fu2 S0 v0 v1 v2 = some (r9, S9) → Wb g ad n K S0 (dA ad n s.heap.size) H → va_S (dA ad n s.heap.size) s.heap H locs → lv_has ls 5 [(0, .ref (ad v0)), (1, .int v1), (2, .int v2)] → W p l e (headSpec wsX11_storedLike { frames := 2, cells := 0, slots := 0, locals := 46 }).room s m (List.toArray [.ref (ad p0), .int p1]) below meth c H locs 0 0 (MQ below (QR (some (.int r9)) (QB g ad n K S9 (dA ad n s.heap.size) (True)) (dA ad n s.heap.size)) (List.toArray [.ref (ad p0), .int p1]) s 0 0 (dA ad n s.heap.size)) (F0 m 2 ls []) := by
    intro fu2
    induction fu2 with
    | zero =>
      intro S0 v0 v1 v2 tv0 H locs ls hf
      cases hf
    | succ fu2 ih2 =>
      have L94 : ∀ (S0 : St) (v0 : Nat) (v1 : Int32) (v2 : Int32) (v3 : Int32) (tv0 : v0 < n ∧ K v0 = 10) (H : Heap) (locs : List Loc) (ls : Array Slot), f_X11_storedLike_L94 F (fun a0 a1 a2 a3 => f_X11_storedLike_L2 F fu2 a0 a1 a2 a3) S0 v0 v1 v2 v3 = some (r9, S9) → Wb g ad n K S0 (dA ad n s.heap.size) H → va_S (dA ad n s.heap.size) s.heap H locs → lv_has ls 5 [(0, .ref (ad v0)), (1, .int v1), (2, .int v2), (3, .int v3)] → W p l e (headSpec wsX11_storedLike { frames := 2, cells := 0, slots := 0, locals := 46 }).room s m (List.toArray [.ref (ad p0), .int p1]) below meth c H locs 0 0 (MQ below (QR (some (.int r9)) (QB g ad n K S9 (dA ad n s.heap.size) (True)) (dA ad n s.heap.size)) (List.toArray [.ref (ad p0), .int p1]) s 0 0 (dA ad n s.heap.size)) (F0 m 94 ls []) := by
        intro S0 v0 v1 v2 v3 tv0 H locs ls hf hW hS hl
        unfold f_X11_storedLike_L94 at hf
        refine lv_iload_n hx hb dX11_storedLike_94 rfl (lv_at hl 3 rfl) ?_
        refine lv_if_eq (tgt := 100) hx hb dX11_storedLike_95 (by decide) (fun c3 => ?_) (fun c3 => ?_)
        · replace hf := ifT c3 hf
          obtain ⟨x4, ex4⟩ : ∃ z : Int32, z = v2 + 1 := ⟨_, rfl⟩
          replace hf := ltE hf x4 ex4
          refine lv_iinc (v := x4) (lv' := [(2, .int x4), (0, .ref (ad v0)), (1, .int v1), (3, .int v3)]) hx hb dX11_storedLike_100 hl (k := 2) rfl (by rw [ex4]; rfl) (by decide) rfl (fun ls hl => ?_)
          refine lv_goto (tgt := 2) hx hb dX11_storedLike_103 (by decide) ?_
          exact ih2 S0 v0 v1 x4 tv0 _ _ _ hf hW hS (lv_sub hl [1, 2, 0] rfl)
        · replace hf := ifF c3 hf
          refine lv_iload_n hx hb dX11_storedLike_98 rfl (lv_at hl 2 rfl) ?_
          obtain ⟨e1, e2⟩ := so2 hf
          subst e1
          subst e2
          exact W.iret (v := v2) hx hb hr (fun t ht hWm => ⟨⟨rfl, by unfold QB; rw [ht]; exact ⟨hW, trivial⟩⟩, hS.F ht⟩) hS.2.2 dX11_storedLike_99 hlk
      have L44 : ∀ (fu44 : Nat) (S0 : St) (v0 : Nat) (v1 : Int32) (v2 : Int32) (v3 : Int32) (v4 : Int32) (tv0 : v0 < n ∧ K v0 = 10) (H : Heap) (locs : List Loc) (ls : Array Slot), f_X11_storedLike_L44 F (fun a0 a1 a2 a3 => f_X11_storedLike_L2 F fu2 a0 a1 a2 a3) fu44 S0 v0 v1 v2 v3 v4 = some (r9, S9) → Wb g ad n K S0 (dA ad n s.heap.size) H → va_S (dA ad n s.heap.size) s.heap H locs → lv_has ls 5 [(0, .ref (ad v0)), (1, .int v1), (2, .int v2), (3, .int v3), (4, .int v4)] → W p l e (headSpec wsX11_storedLike { frames := 2, cells := 0, slots := 0, locals := 46 }).room s m (List.toArray [.ref (ad p0), .int p1]) below meth c H locs 0 0 (MQ below (QR (some (.int r9)) (QB g ad n K S9 (dA ad n s.heap.size) (True)) (dA ad n s.heap.size)) (List.toArray [.ref (ad p0), .int p1]) s 0 0 (dA ad n s.heap.size)) (F0 m 44 ls []) := by
        intro fu44
        induction fu44 with
        | zero =>
          intro S0 v0 v1 v2 v3 v4 tv0 H locs ls hf
          cases hf
        | succ fu44 ih44 =>
          have L87 : ∀ (S0 : St) (v0 : Nat) (v1 : Int32) (v2 : Int32) (v4 : Int32) (s0 : Int32) (tv0 : v0 < n ∧ K v0 = 10) (H : Heap) (locs : List Loc) (ls : Array Slot), f_X11_storedLike_L87 F (fun a0 a1 a2 a3 => f_X11_storedLike_L2 F fu2 a0 a1 a2 a3) (fun a0 a1 a2 a3 a4 a5 => f_X11_storedLike_L44 F (fun a0 a1 a2 a3 => f_X11_storedLike_L2 F fu2 a0 a1 a2 a3) fu44 a0 a1 a2 a3 a4 a5) S0 v0 v1 v2 v4 s0 = some (r9, S9) → Wb g ad n K S0 (dA ad n s.heap.size) H → va_S (dA ad n s.heap.size) s.heap H locs → lv_has ls 5 [(0, .ref (ad v0)), (1, .int v1), (2, .int v2), (4, .int v4)] → W p l e (headSpec wsX11_storedLike { frames := 2, cells := 0, slots := 0, locals := 46 }).room s m (List.toArray [.ref (ad p0), .int p1]) below meth c H locs 0 0 (MQ below (QR (some (.int r9)) (QB g ad n K S9 (dA ad n s.heap.size) (True)) (dA ad n s.heap.size)) (List.toArray [.ref (ad p0), .int p1]) s 0 0 (dA ad n s.heap.size)) (F0 m 87 ls [.int s0]) := by
            intro S0 v0 v1 v2 v4 s0 tv0 H locs ls hf hW hS hl
            unfold f_X11_storedLike_L87 at hf
            refine lv_istore_n (lv' := [(3, .int s0), (0, .ref (ad v0)), (1, .int v1), (2, .int v2), (4, .int v4)]) hx hb dX11_storedLike_87 rfl hl (by decide) rfl (fun ls hl => ?_)
            obtain ⟨x6, ex6⟩ : ∃ z : Int32, z = v4 + 1 := ⟨_, rfl⟩
            replace hf := ltE hf x6 ex6
            refine lv_iinc (v := x6) (lv' := [(4, .int x6), (3, .int s0), (0, .ref (ad v0)), (1, .int v1), (2, .int v2)]) hx hb dX11_storedLike_88 hl (k := 4) rfl (by rw [ex6]; rfl) (by decide) rfl (fun ls hl => ?_)
            refine lv_goto (tgt := 44) hx hb dX11_storedLike_91 (by decide) ?_
            exact ih44 S0 v0 v1 v2 s0 x6 tv0 _ _ _ hf hW hS (lv_sub hl [2, 3, 4, 1, 0] rfl)
          intro S0 v0 v1 v2 v3 v4 tv0 H locs ls hf hW hS hl
          unfold f_X11_storedLike_L44 at hf
          refine lv_iload hx hb dX11_storedLike_44 (lv_at hl 4 rfl) ?_
          refine lv_aload_n hx hb dX11_storedLike_46 rfl (lv_at hl 0 rfl) ?_
          refine lv_iload_n hx hb dX11_storedLike_47 rfl (lv_at hl 1 rfl) ?_
          replace hf := obE hf
          obtain ⟨z22, hz22, hf⟩ := hf
          obtain ⟨r24, S23⟩ := z22
          replace hf := ltE (ltE hf r24 rfl) S23 rfl
          refine x_callV (As := [.int v1]) (rest := [.int v4]) (o := (some (.int r24))) (S1 := S23) hC hl.1 hW hS hGs hA tv0 rfl (show vwCl[10]? = some (RX11, TX11, 30) ∧ 10 < 11 from ⟨rfl, by decide⟩) (c_X11_lengthIn l g ad n K H.size F S0 v0 v1 tv0 r24 S23 hz22) (cwV 1 hts gX11_storedLike_X11_lengthIn rfl rfl rfl (by decide +kernel) ⟨Nat.le_of_ble_eq_true rfl, Nat.le_of_ble_eq_true rfl⟩) rfl rfl (Nat.le_of_ble_eq_true rfl) dX11_storedLike_48 ⟨Nat.le_of_ble_eq_true rfl, Nat.le_of_ble_eq_true rfl⟩ (fun H locs hPz22 hW hS => ?_)
          refine W.eq (g2 := F0 m 51 ls [.int r24, .int v4]) rfl ?_
          refine lv_icmp_ge (tgt := 94) hx hb dX11_storedLike_51 (by decide) (fun c26 => ?_) (fun c26 => ?_)
          · replace hf := ifT c26 hf
            exact L94 S23 v0 v1 v2 v3 tv0 _ _ _ hf hW hS (lv_sub hl [0, 1, 2, 3] rfl)
          · replace hf := ifF c26 hf
            refine lv_iload_n hx hb dX11_storedLike_54 rfl (lv_at hl 3 rfl) ?_
            refine lv_if_eq (tgt := 94) hx hb dX11_storedLike_55 (by decide) (fun c27 => ?_) (fun c27 => ?_)
            · replace hf := ifT c27 hf
              exact L94 S23 v0 v1 v2 v3 tv0 _ _ _ hf hW hS (lv_sub hl [0, 1, 2, 3] rfl)
            · replace hf := ifF c27 hf
              refine lv_aload_n hx hb dX11_storedLike_58 rfl (lv_at hl 0 rfl) ?_
              refine lv_iload_n hx hb dX11_storedLike_59 rfl (lv_at hl 2 rfl) ?_
              refine lv_iload hx hb dX11_storedLike_60 (lv_at hl 4 rfl) ?_
              replace hf := obE hf
              obtain ⟨z28, hz28, hf⟩ := hf
              obtain ⟨r30, S29⟩ := z28
              replace hf := ltE (ltE hf r30 rfl) S29 rfl
              refine x_callV (As := [.int v2, .int v4]) (rest := []) (o := (some (.int r30))) (S1 := S29) hC hl.1 hW hS hGs hA tv0 rfl (show vwCl[10]? = some (RX11, TX11, 30) ∧ 10 < 11 from ⟨rfl, by decide⟩) (c_X11_partByteAt l g ad n K H.size F S23 v0 v2 v4 tv0 r30 S29 hz28) (cwV 2 hts gX11_storedLike_X11_partByteAt rfl rfl rfl (by decide +kernel) ⟨Nat.le_of_ble_eq_true rfl, Nat.le_of_ble_eq_true rfl⟩) rfl rfl (Nat.le_of_ble_eq_true rfl) dX11_storedLike_62 ⟨Nat.le_of_ble_eq_true rfl, Nat.le_of_ble_eq_true rfl⟩ (fun H locs hPz28 hW hS => ?_)
              refine W.eq (g2 := F0 m 65 ls [.int r30]) rfl ?_
              refine lv_aload_n hx hb dX11_storedLike_65 rfl (lv_at hl 0 rfl) ?_
              replace hf := obE hf
              obtain ⟨j32, qj32, hf⟩ := hf
              have tj32 := x_rt hW qj32 11 ⟨by decide, rfl⟩
              refine x_getr 1006 (ci := 10) (C := RX11) (T := TX11) (N := 30) 6 hC hin11 hW tv0 rfl rfl ⟨by decide, by decide, rfl, rfl⟩ rfl w_0 dX11_storedLike_66 qj32 ?_
              refine lv_aload_n hx hb dX11_storedLike_69 rfl (lv_at hl 0 rfl) ?_
              replace hf := obE hf
              obtain ⟨j33, qj33, hf⟩ := hf
              have tj33 := x_rt hW qj33 12 ⟨by decide, rfl⟩
              refine x_getr 1017 (ci := 10) (C := RX11) (T := TX11) (N := 30) 17 hC hin11 hW tv0 rfl rfl ⟨by decide, by decide, rfl, rfl⟩ rfl w_1 dX11_storedLike_70 qj33 ?_
              refine lv_iload_n hx hb dX11_storedLike_73 rfl (lv_at hl 1 rfl) ?_
              replace hf := ckiE hf
              obtain ⟨h34, hf⟩ := hf
              refine x_iald hC hW tj33 rfl rfl h34 dX11_storedLike_74 ?_
              refine lv_iload hx hb dX11_storedLike_75 (lv_at hl 4 rfl) ?_
              refine lv_iadd hx hb dX11_storedLike_77 ?_
              replace hf := ckiE hf
              obtain ⟨h35, hf⟩ := hf
              refine x_bald hC hW tj32 rfl rfl h35 dX11_storedLike_78 ?_
              refine lv_icmp_ne (tgt := 86) hx hb dX11_storedLike_79 (by decide) (fun c36 => ?_) (fun c36 => ?_)
              · replace hf := ifT c36 hf
                refine lv_iconst (v := 0) hx hb dX11_storedLike_86 (by decide) ?_
                exact L87 S29 v0 v1 v2 v4 0 tv0 _ _ _ hf hW hS (lv_sub hl [0, 1, 2, 4] rfl)
              · replace hf := ifF (fun q => q c36) hf
                refine lv_iconst (v := 1) hx hb dX11_storedLike_82 (by decide) ?_
                refine lv_goto (tgt := 87) hx hb dX11_storedLike_83 (by decide) ?_
                exact L87 S29 v0 v1 v2 v4 1 tv0 _ _ _ hf hW hS (lv_sub hl [0, 1, 2, 4] rfl)
      have L40 : ∀ (S0 : St) (v0 : Nat) (v1 : Int32) (v2 : Int32) (s0 : Int32) (tv0 : v0 < n ∧ K v0 = 10) (H : Heap) (locs : List Loc) (ls : Array Slot), f_X11_storedLike_L40 F (fun a0 a1 a2 a3 => f_X11_storedLike_L2 F fu2 a0 a1 a2 a3) S0 v0 v1 v2 s0 = some (r9, S9) → Wb g ad n K S0 (dA ad n s.heap.size) H → va_S (dA ad n s.heap.size) s.heap H locs → lv_has ls 5 [(0, .ref (ad v0)), (1, .int v1), (2, .int v2)] → W p l e (headSpec wsX11_storedLike { frames := 2, cells := 0, slots := 0, locals := 46 }).room s m (List.toArray [.ref (ad p0), .int p1]) below meth c H locs 0 0 (MQ below (QR (some (.int r9)) (QB g ad n K S9 (dA ad n s.heap.size) (True)) (dA ad n s.heap.size)) (List.toArray [.ref (ad p0), .int p1]) s 0 0 (dA ad n s.heap.size)) (F0 m 40 ls [.int s0]) := by
        intro S0 v0 v1 v2 s0 tv0 H locs ls hf hW hS hl
        unfold f_X11_storedLike_L40 at hf
        refine lv_istore_n (lv' := [(3, .int s0), (0, .ref (ad v0)), (1, .int v1), (2, .int v2)]) hx hb dX11_storedLike_40 rfl hl (by decide) rfl (fun ls hl => ?_)
        refine lv_iconst (v := 0) hx hb dX11_storedLike_41 (by decide) ?_
        refine lv_istore (lv' := [(4, .int 0), (3, .int s0), (0, .ref (ad v0)), (1, .int v1), (2, .int v2)]) hx hb dX11_storedLike_42 hl (by decide) rfl (fun ls hl => ?_)
        exact L44 F S0 v0 v1 v2 s0 0 tv0 _ _ _ hf hW hS (lv_sub hl [2, 3, 4, 1, 0] rfl)
      have L39 : ∀ (S0 : St) (v0 : Nat) (v1 : Int32) (v2 : Int32) (tv0 : v0 < n ∧ K v0 = 10) (H : Heap) (locs : List Loc) (ls : Array Slot), f_X11_storedLike_L39 F (fun a0 a1 a2 a3 => f_X11_storedLike_L2 F fu2 a0 a1 a2 a3) S0 v0 v1 v2 = some (r9, S9) → Wb g ad n K S0 (dA ad n s.heap.size) H → va_S (dA ad n s.heap.size) s.heap H locs → lv_has ls 5 [(0, .ref (ad v0)), (1, .int v1), (2, .int v2)] → W p l e (headSpec wsX11_storedLike { frames := 2, cells := 0, slots := 0, locals := 46 }).room s m (List.toArray [.ref (ad p0), .int p1]) below meth c H locs 0 0 (MQ below (QR (some (.int r9)) (QB g ad n K S9 (dA ad n s.heap.size) (True)) (dA ad n s.heap.size)) (List.toArray [.ref (ad p0), .int p1]) s 0 0 (dA ad n s.heap.size)) (F0 m 39 ls []) := by
        intro S0 v0 v1 v2 tv0 H locs ls hf hW hS hl
        unfold f_X11_storedLike_L39 at hf
        refine lv_iconst (v := 0) hx hb dX11_storedLike_39 (by decide) ?_
        exact L40 S0 v0 v1 v2 0 tv0 _ _ _ hf hW hS (lv_sub hl [0, 1, 2] rfl)
      intro S0 v0 v1 v2 tv0 H locs ls hf hW hS hl
      unfold f_X11_storedLike_L2 at hf
      refine lv_iload_n hx hb dX11_storedLike_2 rfl (lv_at hl 2 rfl) ?_
      refine lv_aload_n hx hb dX11_storedLike_3 rfl (lv_at hl 0 rfl) ?_
      replace hf := obE hf
      obtain ⟨j54, qj54, hf⟩ := hf
      have tj54 := x_rt hW qj54 12 ⟨by decide, rfl⟩
      refine x_getr 1001 (ci := 10) (C := RX11) (T := TX11) (N := 30) 1 hC hin11 hW tv0 rfl rfl ⟨by decide, by decide, rfl, rfl⟩ rfl w_2 dX11_storedLike_4 qj54 ?_
      refine lv_bipush (v := 8) hx hb dX11_storedLike_7 (by decide) ?_
      replace hf := ckiE hf
      obtain ⟨h55, hf⟩ := hf
      refine x_iald hC hW tj54 rfl rfl h55 dX11_storedLike_9 ?_
      refine lv_icmp_ge (tgt := 106) hx hb dX11_storedLike_10 (by decide) (fun c56 => ?_) (fun c56 => ?_)
      · replace hf := ifT c56 hf
        refine lv_iconst (v := -1) hx hb dX11_storedLike_106 (by decide) ?_
        obtain ⟨e1, e2⟩ := so2 hf
        subst e1
        subst e2
        exact W.iret (v := (-1)) hx hb hr (fun t ht hWm => ⟨⟨rfl, by unfold QB; rw [ht]; exact ⟨hW, trivial⟩⟩, hS.F ht⟩) hS.2.2 dX11_storedLike_107 hlk
      · replace hf := ifF c56 hf
        refine lv_aload_n hx hb dX11_storedLike_13 rfl (lv_at hl 0 rfl) ?_
        refine lv_iload_n hx hb dX11_storedLike_14 rfl (lv_at hl 2 rfl) ?_
        replace hf := obE hf
        obtain ⟨z57, hz57, hf⟩ := hf
        obtain ⟨r59, S58⟩ := z57
        replace hf := ltE (ltE hf r59 rfl) S58 rfl
        refine x_callV (As := [.int v2]) (rest := []) (o := (some (.int r59))) (S1 := S58) hC hl.1 hW hS hGs hA tv0 rfl (show vwCl[10]? = some (RX11, TX11, 30) ∧ 10 < 11 from ⟨rfl, by decide⟩) (c_X11_isStored l g ad n K H.size F S0 v0 v2 tv0 r59 S58 hz57) (cwV 1 hts gX11_storedLike_X11_isStored rfl rfl rfl (by decide +kernel) ⟨Nat.le_of_ble_eq_true rfl, Nat.le_of_ble_eq_true rfl⟩) rfl rfl (Nat.le_of_ble_eq_true rfl) dX11_storedLike_15 ⟨Nat.le_of_ble_eq_true rfl, Nat.le_of_ble_eq_true rfl⟩ (fun H locs hPz57 hW hS => ?_)
        refine W.eq (g2 := F0 m 18 ls [.int r59]) rfl ?_
        refine lv_if_eq (tgt := 39) hx hb dX11_storedLike_18 (by decide) (fun c61 => ?_) (fun c61 => ?_)
        · replace hf := ifT c61 hf
          exact L39 S58 v0 v1 v2 tv0 _ _ _ hf hW hS (lv_sub hl [0, 1, 2] rfl)
        · replace hf := ifF c61 hf
          refine lv_aload_n hx hb dX11_storedLike_21 rfl (lv_at hl 0 rfl) ?_
          refine lv_iload_n hx hb dX11_storedLike_22 rfl (lv_at hl 2 rfl) ?_
          refine lv_iconst (v := 0) hx hb dX11_storedLike_23 (by decide) ?_
          replace hf := obE hf
          obtain ⟨z62, hz62, hf⟩ := hf
          obtain ⟨r64, S63⟩ := z62
          replace hf := ltE (ltE hf r64 rfl) S63 rfl
          refine x_callV (As := [.int v2, .int 0]) (rest := []) (o := (some (.int r64))) (S1 := S63) hC hl.1 hW hS hGs hA tv0 rfl (show vwCl[10]? = some (RX11, TX11, 30) ∧ 10 < 11 from ⟨rfl, by decide⟩) (c_X11_partValue l g ad n K H.size F S58 v0 v2 ((0 : Int32)) tv0 r64 S63 hz62) (cwV 2 hts gX11_storedLike_X11_partValue rfl rfl rfl (by decide +kernel) ⟨Nat.le_of_ble_eq_true rfl, Nat.le_of_ble_eq_true rfl⟩) rfl rfl (Nat.le_of_ble_eq_true rfl) dX11_storedLike_24 ⟨Nat.le_of_ble_eq_true rfl, Nat.le_of_ble_eq_true rfl⟩ (fun H locs hPz62 hW hS => ?_)
          refine W.eq (g2 := F0 m 27 ls [.int r64]) rfl ?_
          refine lv_aload_n hx hb dX11_storedLike_27 rfl (lv_at hl 0 rfl) ?_
          refine lv_iload_n hx hb dX11_storedLike_28 rfl (lv_at hl 1 rfl) ?_
          replace hf := obE hf
          obtain ⟨z66, hz66, hf⟩ := hf
          obtain ⟨r68, S67⟩ := z66
          replace hf := ltE (ltE hf r68 rfl) S67 rfl
          refine x_callV (As := [.int v1]) (rest := [.int r64]) (o := (some (.int r68))) (S1 := S67) hC hl.1 hW hS hGs hA tv0 rfl (show vwCl[10]? = some (RX11, TX11, 30) ∧ 10 < 11 from ⟨rfl, by decide⟩) (c_X11_lengthIn l g ad n K H.size F S63 v0 v1 tv0 r68 S67 hz66) (cwV 1 hts gX11_storedLike_X11_lengthIn rfl rfl rfl (by decide +kernel) ⟨Nat.le_of_ble_eq_true rfl, Nat.le_of_ble_eq_true rfl⟩) rfl rfl (Nat.le_of_ble_eq_true rfl) dX11_storedLike_29 ⟨Nat.le_of_ble_eq_true rfl, Nat.le_of_ble_eq_true rfl⟩ (fun H locs hPz66 hW hS => ?_)
          refine W.eq (g2 := F0 m 32 ls [.int r68, .int r64]) rfl ?_
          refine lv_icmp_ne (tgt := 39) hx hb dX11_storedLike_32 (by decide) (fun c70 => ?_) (fun c70 => ?_)
          · replace hf := ifT c70 hf
            exact L39 S67 v0 v1 v2 tv0 _ _ _ hf hW hS (lv_sub hl [0, 1, 2] rfl)
          · replace hf := ifF (fun q => q c70) hf
            refine lv_iconst (v := 1) hx hb dX11_storedLike_35 (by decide) ?_
            refine lv_goto (tgt := 40) hx hb dX11_storedLike_36 (by decide) ?_
            exact L40 S67 v0 v1 v2 1 tv0 _ _ _ hf hW hS (lv_sub hl [0, 1, 2] rfl)
  unfold f_X11_storedLike at hf
  refine lv_iconst (v := 0) hx hb dX11_storedLike_0 (by decide) ?_
  refine lv_istore_n (lv' := [(2, .int 0), (0, .ref (ad p0)), (1, .int p1)]) hx hb dX11_storedLike_1 rfl hl (by decide) rfl (fun ls hl => ?_)
  exact L2 F S0 p0 p1 0 tp0 _ _ _ hf hW hS (lv_sub hl [1, 2, 0] rfl)
set_option maxHeartbeats 4000000 in
set_option maxRecDepth 100000 in
theorem c_X11_areSame (l : Launch) (g : GP) (ad : Nat → Nat) (n : Nat) (K : Nat → Nat) (sz F : Nat) (S0 : St) (p0 : Nat) (p1 : Int32) (p2 : Int32) (tp0 : p0 < n ∧ K p0 = 10) (r9 : Int32) (S9 : St) (hf : f_X11_areSame F S0 p0 p1 p2 = some (r9, S9)) : Met l yX11_areSame wsX11_areSame { frames := 1, cells := 0, slots := 0, locals := 21 } (va_Pc [.ref (ad p0), .int p1, .int p2] (PB g ad n K S0 sz)) (QR (some (.int r9)) (QB g ad n K S9 (dA ad n sz) (True)) (dA ad n sz)) 0 0 (dA ad n sz) := by
  refine Met.ofW (cc := cX11_areSame) (maxL := 5) (ret := (some .boolean)) (by decide) rfl ?_
  intro p e s m args below meth c s₁ B hml hv
  obtain ⟨rfl, hsz, hW, hK, hGs⟩ := x_start hv
  subst hsz
  have hx := B.exec
  have hb := B.bytes
  have hr := B.returns
  have hts := atoms_spec (ws := wsX11_areSame) B.pre
  have hown : s.vm.findClass RX11 = some m.cls := findClass_of_methodNamed B.named
  have hlk := B.notSynchronized
  have hC : Cx g p s m _ c cX11_areSame RX11 wsX11_areSame 5 := ⟨hx, hb, hml, hown, hts, hK⟩
  have hA : ∀ q : Nat, s.heap.size ≤ q → dA ad n s.heap.size q := fun q h => Or.inr h
  have hS : va_S (dA ad n s.heap.size) s.heap s.heap [] := va_S.rf
  have hl := lv_entry ([.ref (ad p0), .int p1, .int p2]) (n := 5) (Nat.le_of_ble_eq_true rfl)
  rw [lg_entry_eq]
  generalize (lg_sl ([.ref (ad p0), .int p1, .int p2]) ++ List.replicate (5 - (lg_sl ([.ref (ad p0), .int p1, .int p2])).length) Slot.unset).toArray = ls at hl ⊢
  have hl : lv_has ls 5 [(0, .ref (ad p0)), (1, .int p1), (2, .int p2)] := hl
  have hin11 : ∀ w ∈ wsX110, w ∈ wsX11_areSame := by decide +kernel
  have w_0 := hts (.fieldLink RX11 32 "MailSpoolModel" "input" "[B") (by decide +kernel)
  have w_1 := hts (.fieldLink RX11 41 "MailSpoolModel" "partStart" "[I") (by decide +kernel)
  have hGE := hGs.2.2.2.2.2.2.1
  have hGM := hGs.2.2.2.2.2.2.2.1
  have L22 : ∀ (fu22 : Nat) (S0 : St) (v0 : Nat) (v1 : Int32) (v2 : Int32) (v3 : Int32) (v4 : Int32) (tv0 : v0 < n ∧ K v0 = 10) (H : Heap) (locs : List Loc) (ls : Array Slot), f_X11_areSame_L22 F fu22 S0 v0 v1 v2 v3 v4 = some (r9, S9) → Wb g ad n K S0 (dA ad n s.heap.size) H → va_S (dA ad n s.heap.size) s.heap H locs → lv_has ls 5 [(0, .ref (ad v0)), (1, .int v1), (2, .int v2), (3, .int v3), (4, .int v4)] → W p l e (headSpec wsX11_areSame { frames := 1, cells := 0, slots := 0, locals := 21 }).room s m (List.toArray [.ref (ad p0), .int p1, .int p2]) below meth c H locs 0 0 (MQ below (QR (some (.int r9)) (QB g ad n K S9 (dA ad n s.heap.size) (True)) (dA ad n s.heap.size)) (List.toArray [.ref (ad p0), .int p1, .int p2]) s 0 0 (dA ad n s.heap.size)) (F0 m 22 ls []) := by
    intro fu22
    induction fu22 with
    | zero =>
      intro S0 v0 v1 v2 v3 v4 tv0 H locs ls hf
      cases hf
    | succ fu22 ih22 =>
      have L72 : ∀ (S0 : St) (v0 : Nat) (v1 : Int32) (v2 : Int32) (v4 : Int32) (s0 : Int32) (tv0 : v0 < n ∧ K v0 = 10) (H : Heap) (locs : List Loc) (ls : Array Slot), f_X11_areSame_L72 F (fun a0 a1 a2 a3 a4 a5 => f_X11_areSame_L22 F fu22 a0 a1 a2 a3 a4 a5) S0 v0 v1 v2 v4 s0 = some (r9, S9) → Wb g ad n K S0 (dA ad n s.heap.size) H → va_S (dA ad n s.heap.size) s.heap H locs → lv_has ls 5 [(0, .ref (ad v0)), (1, .int v1), (2, .int v2), (4, .int v4)] → W p l e (headSpec wsX11_areSame { frames := 1, cells := 0, slots := 0, locals := 21 }).room s m (List.toArray [.ref (ad p0), .int p1, .int p2]) below meth c H locs 0 0 (MQ below (QR (some (.int r9)) (QB g ad n K S9 (dA ad n s.heap.size) (True)) (dA ad n s.heap.size)) (List.toArray [.ref (ad p0), .int p1, .int p2]) s 0 0 (dA ad n s.heap.size)) (F0 m 72 ls [.int s0]) := by
        intro S0 v0 v1 v2 v4 s0 tv0 H locs ls hf hW hS hl
        unfold f_X11_areSame_L72 at hf
        refine lv_istore_n (lv' := [(3, .int s0), (0, .ref (ad v0)), (1, .int v1), (2, .int v2), (4, .int v4)]) hx hb dX11_areSame_72 rfl hl (by decide) rfl (fun ls hl => ?_)
        obtain ⟨x2, ex2⟩ : ∃ z : Int32, z = v4 + 1 := ⟨_, rfl⟩
        replace hf := ltE hf x2 ex2
        refine lv_iinc (v := x2) (lv' := [(4, .int x2), (3, .int s0), (0, .ref (ad v0)), (1, .int v1), (2, .int v2)]) hx hb dX11_areSame_73 hl (k := 4) rfl (by rw [ex2]; rfl) (by decide) rfl (fun ls hl => ?_)
        refine lv_goto (tgt := 22) hx hb dX11_areSame_76 (by decide) ?_
        exact ih22 S0 v0 v1 v2 s0 x2 tv0 _ _ _ hf hW hS (lv_sub hl [2, 3, 4, 1, 0] rfl)
      intro S0 v0 v1 v2 v3 v4 tv0 H locs ls hf hW hS hl
      unfold f_X11_areSame_L22 at hf
      refine lv_iload hx hb dX11_areSame_22 (lv_at hl 4 rfl) ?_
      refine lv_aload_n hx hb dX11_areSame_24 rfl (lv_at hl 0 rfl) ?_
      refine lv_iload_n hx hb dX11_areSame_25 rfl (lv_at hl 1 rfl) ?_
      replace hf := obE hf
      obtain ⟨z20, hz20, hf⟩ := hf
      obtain ⟨r22, S21⟩ := z20
      replace hf := ltE (ltE hf r22 rfl) S21 rfl
      refine x_callV (As := [.int v1]) (rest := [.int v4]) (o := (some (.int r22))) (S1 := S21) hC hl.1 hW hS hGs hA tv0 rfl (show vwCl[10]? = some (RX11, TX11, 30) ∧ 10 < 11 from ⟨rfl, by decide⟩) (c_X11_lengthIn l g ad n K H.size F S0 v0 v1 tv0 r22 S21 hz20) (cwV 1 hts gX11_areSame_X11_lengthIn rfl rfl rfl (by decide +kernel) ⟨Nat.le_of_ble_eq_true rfl, Nat.le_of_ble_eq_true rfl⟩) rfl rfl (Nat.le_of_ble_eq_true rfl) dX11_areSame_26 ⟨Nat.le_of_ble_eq_true rfl, Nat.le_of_ble_eq_true rfl⟩ (fun H locs hPz20 hW hS => ?_)
      refine W.eq (g2 := F0 m 29 ls [.int r22, .int v4]) rfl ?_
      refine lv_icmp_ge (tgt := 79) hx hb dX11_areSame_29 (by decide) (fun c24 => ?_) (fun c24 => ?_)
      · replace hf := ifT c24 hf
        refine lv_iload_n hx hb dX11_areSame_79 rfl (lv_at hl 3 rfl) ?_
        replace hf := ckE hf
        obtain ⟨h25, hf⟩ := hf
        obtain ⟨e1, e2⟩ := so2 hf
        subst e1
        subst e2
        exact W.zret (v := v3) hx hb hr (zn h25) (fun t ht hWm => ⟨⟨rfl, by unfold QB; rw [ht]; exact ⟨hW, trivial⟩⟩, hS.F ht⟩) hS.2.2 dX11_areSame_80 hlk
      · replace hf := ifF c24 hf
        refine lv_iload_n hx hb dX11_areSame_32 rfl (lv_at hl 3 rfl) ?_
        refine lv_if_eq (tgt := 79) hx hb dX11_areSame_33 (by decide) (fun c26 => ?_) (fun c26 => ?_)
        · replace hf := ifT c26 hf
          refine lv_iload_n hx hb dX11_areSame_79 rfl (lv_at hl 3 rfl) ?_
          replace hf := ckE hf
          obtain ⟨h27, hf⟩ := hf
          obtain ⟨e1, e2⟩ := so2 hf
          subst e1
          subst e2
          exact W.zret (v := v3) hx hb hr (zn h27) (fun t ht hWm => ⟨⟨rfl, by unfold QB; rw [ht]; exact ⟨hW, trivial⟩⟩, hS.F ht⟩) hS.2.2 dX11_areSame_80 hlk
        · replace hf := ifF c26 hf
          refine lv_aload_n hx hb dX11_areSame_36 rfl (lv_at hl 0 rfl) ?_
          replace hf := obE hf
          obtain ⟨j28, qj28, hf⟩ := hf
          have tj28 := x_rt hW qj28 11 ⟨by decide, rfl⟩
          refine x_getr 1006 (ci := 10) (C := RX11) (T := TX11) (N := 30) 6 hC hin11 hW tv0 rfl rfl ⟨by decide, by decide, rfl, rfl⟩ rfl w_0 dX11_areSame_37 qj28 ?_
          refine lv_aload_n hx hb dX11_areSame_40 rfl (lv_at hl 0 rfl) ?_
          replace hf := obE hf
          obtain ⟨j29, qj29, hf⟩ := hf
          have tj29 := x_rt hW qj29 12 ⟨by decide, rfl⟩
          refine x_getr 1017 (ci := 10) (C := RX11) (T := TX11) (N := 30) 17 hC hin11 hW tv0 rfl rfl ⟨by decide, by decide, rfl, rfl⟩ rfl w_1 dX11_areSame_41 qj29 ?_
          refine lv_iload_n hx hb dX11_areSame_44 rfl (lv_at hl 1 rfl) ?_
          replace hf := ckiE hf
          obtain ⟨h30, hf⟩ := hf
          refine x_iald hC hW tj29 rfl rfl h30 dX11_areSame_45 ?_
          refine lv_iload hx hb dX11_areSame_46 (lv_at hl 4 rfl) ?_
          refine lv_iadd hx hb dX11_areSame_48 ?_
          replace hf := ckiE hf
          obtain ⟨h31, hf⟩ := hf
          refine x_bald hC hW tj28 rfl rfl h31 dX11_areSame_49 ?_
          refine lv_aload_n hx hb dX11_areSame_50 rfl (lv_at hl 0 rfl) ?_
          replace hf := obE hf
          obtain ⟨j32, qj32, hf⟩ := hf
          have tj32 := x_rt hW qj32 11 ⟨by decide, rfl⟩
          refine x_getr 1006 (ci := 10) (C := RX11) (T := TX11) (N := 30) 6 hC hin11 hW tv0 rfl rfl ⟨by decide, by decide, rfl, rfl⟩ rfl w_0 dX11_areSame_51 qj32 ?_
          refine lv_aload_n hx hb dX11_areSame_54 rfl (lv_at hl 0 rfl) ?_
          replace hf := obE hf
          obtain ⟨j33, qj33, hf⟩ := hf
          have tj33 := x_rt hW qj33 12 ⟨by decide, rfl⟩
          refine x_getr 1017 (ci := 10) (C := RX11) (T := TX11) (N := 30) 17 hC hin11 hW tv0 rfl rfl ⟨by decide, by decide, rfl, rfl⟩ rfl w_1 dX11_areSame_55 qj33 ?_
          refine lv_iload_n hx hb dX11_areSame_58 rfl (lv_at hl 2 rfl) ?_
          replace hf := ckiE hf
          obtain ⟨h34, hf⟩ := hf
          refine x_iald hC hW tj33 rfl rfl h34 dX11_areSame_59 ?_
          refine lv_iload hx hb dX11_areSame_60 (lv_at hl 4 rfl) ?_
          refine lv_iadd hx hb dX11_areSame_62 ?_
          replace hf := ckiE hf
          obtain ⟨h35, hf⟩ := hf
          refine x_bald hC hW tj32 rfl rfl h35 dX11_areSame_63 ?_
          refine lv_icmp_ne (tgt := 71) hx hb dX11_areSame_64 (by decide) (fun c36 => ?_) (fun c36 => ?_)
          · replace hf := ifT c36 hf
            refine lv_iconst (v := 0) hx hb dX11_areSame_71 (by decide) ?_
            exact L72 S21 v0 v1 v2 v4 0 tv0 _ _ _ hf hW hS (lv_sub hl [0, 1, 2, 4] rfl)
          · replace hf := ifF (fun q => q c36) hf
            refine lv_iconst (v := 1) hx hb dX11_areSame_67 (by decide) ?_
            refine lv_goto (tgt := 72) hx hb dX11_areSame_68 (by decide) ?_
            exact L72 S21 v0 v1 v2 v4 1 tv0 _ _ _ hf hW hS (lv_sub hl [0, 1, 2, 4] rfl)
  have L18 : ∀ (S0 : St) (v0 : Nat) (v1 : Int32) (v2 : Int32) (s0 : Int32) (tv0 : v0 < n ∧ K v0 = 10) (H : Heap) (locs : List Loc) (ls : Array Slot), f_X11_areSame_L18 F S0 v0 v1 v2 s0 = some (r9, S9) → Wb g ad n K S0 (dA ad n s.heap.size) H → va_S (dA ad n s.heap.size) s.heap H locs → lv_has ls 5 [(0, .ref (ad v0)), (1, .int v1), (2, .int v2)] → W p l e (headSpec wsX11_areSame { frames := 1, cells := 0, slots := 0, locals := 21 }).room s m (List.toArray [.ref (ad p0), .int p1, .int p2]) below meth c H locs 0 0 (MQ below (QR (some (.int r9)) (QB g ad n K S9 (dA ad n s.heap.size) (True)) (dA ad n s.heap.size)) (List.toArray [.ref (ad p0), .int p1, .int p2]) s 0 0 (dA ad n s.heap.size)) (F0 m 18 ls [.int s0]) := by
    intro S0 v0 v1 v2 s0 tv0 H locs ls hf hW hS hl
    unfold f_X11_areSame_L18 at hf
    refine lv_istore_n (lv' := [(3, .int s0), (0, .ref (ad v0)), (1, .int v1), (2, .int v2)]) hx hb dX11_areSame_18 rfl hl (by decide) rfl (fun ls hl => ?_)
    refine lv_iconst (v := 0) hx hb dX11_areSame_19 (by decide) ?_
    refine lv_istore (lv' := [(4, .int 0), (3, .int s0), (0, .ref (ad v0)), (1, .int v1), (2, .int v2)]) hx hb dX11_areSame_20 hl (by decide) rfl (fun ls hl => ?_)
    exact L22 F S0 v0 v1 v2 s0 0 tv0 _ _ _ hf hW hS (lv_sub hl [2, 3, 4, 1, 0] rfl)
  unfold f_X11_areSame at hf
  refine lv_aload_n hx hb dX11_areSame_0 rfl (lv_at hl 0 rfl) ?_
  refine lv_iload_n hx hb dX11_areSame_1 rfl (lv_at hl 1 rfl) ?_
  replace hf := obE hf
  obtain ⟨z37, hz37, hf⟩ := hf
  obtain ⟨r39, S38⟩ := z37
  replace hf := ltE (ltE hf r39 rfl) S38 rfl
  refine x_callV (As := [.int p1]) (rest := []) (o := (some (.int r39))) (S1 := S38) hC hl.1 hW hS hGs hA tp0 rfl (show vwCl[10]? = some (RX11, TX11, 30) ∧ 10 < 11 from ⟨rfl, by decide⟩) (c_X11_lengthIn l g ad n K s.heap.size F S0 p0 p1 tp0 r39 S38 hz37) (cwV 1 hts gX11_areSame_X11_lengthIn rfl rfl rfl (by decide +kernel) ⟨Nat.le_of_ble_eq_true rfl, Nat.le_of_ble_eq_true rfl⟩) rfl rfl (Nat.le_of_ble_eq_true rfl) dX11_areSame_2 ⟨Nat.le_of_ble_eq_true rfl, Nat.le_of_ble_eq_true rfl⟩ (fun H locs hPz37 hW hS => ?_)
  refine W.eq (g2 := F0 m 5 ls [.int r39]) rfl ?_
  refine lv_aload_n hx hb dX11_areSame_5 rfl (lv_at hl 0 rfl) ?_
  refine lv_iload_n hx hb dX11_areSame_6 rfl (lv_at hl 2 rfl) ?_
  replace hf := obE hf
  obtain ⟨z41, hz41, hf⟩ := hf
  obtain ⟨r43, S42⟩ := z41
  replace hf := ltE (ltE hf r43 rfl) S42 rfl
  refine x_callV (As := [.int p2]) (rest := [.int r39]) (o := (some (.int r43))) (S1 := S42) hC hl.1 hW hS hGs hA tp0 rfl (show vwCl[10]? = some (RX11, TX11, 30) ∧ 10 < 11 from ⟨rfl, by decide⟩) (c_X11_lengthIn l g ad n K H.size F S38 p0 p2 tp0 r43 S42 hz41) (cwV 1 hts gX11_areSame_X11_lengthIn rfl rfl rfl (by decide +kernel) ⟨Nat.le_of_ble_eq_true rfl, Nat.le_of_ble_eq_true rfl⟩) rfl rfl (Nat.le_of_ble_eq_true rfl) dX11_areSame_7 ⟨Nat.le_of_ble_eq_true rfl, Nat.le_of_ble_eq_true rfl⟩ (fun H locs hPz41 hW hS => ?_)
  refine W.eq (g2 := F0 m 10 ls [.int r43, .int r39]) rfl ?_
  refine lv_icmp_ne (tgt := 17) hx hb dX11_areSame_10 (by decide) (fun c45 => ?_) (fun c45 => ?_)
  · replace hf := ifT c45 hf
    refine lv_iconst (v := 0) hx hb dX11_areSame_17 (by decide) ?_
    exact L18 S42 p0 p1 p2 0 tp0 _ _ _ hf hW hS (lv_sub hl [0, 1, 2] rfl)
  · replace hf := ifF (fun q => q c45) hf
    refine lv_iconst (v := 1) hx hb dX11_areSame_13 (by decide) ?_
    refine lv_goto (tgt := 18) hx hb dX11_areSame_14 (by decide) ?_
    exact L18 S42 p0 p1 p2 1 tp0 _ _ _ hf hW hS (lv_sub hl [0, 1, 2] rfl)
set_option maxHeartbeats 4000000 in
set_option maxRecDepth 100000 in
theorem c_X11_stored (l : Launch) (g : GP) (ad : Nat → Nat) (n : Nat) (K : Nat → Nat) (sz F : Nat) (S0 : St) (p0 : Nat) (tp0 : p0 < n ∧ K p0 = 10) (r9 : Int32) (S9 : St) (hf : f_X11_stored F S0 p0 = some (r9, S9)) : Met l yX11_stored wsX11_stored { frames := 2, cells := 0, slots := 0, locals := 46 } (va_Pc [.ref (ad p0)] (PB g ad n K S0 sz)) (QR (some (.int r9)) (QB g ad n K S9 (dA ad n sz) (True)) (dA ad n sz)) 0 0 (dA ad n sz) := by
  refine Met.ofW (cc := cX11_stored) (maxL := 3) (ret := (some .int)) (by decide) rfl ?_
  intro p e s m args below meth c s₁ B hml hv
  obtain ⟨rfl, hsz, hW, hK, hGs⟩ := x_start hv
  subst hsz
  have hx := B.exec
  have hb := B.bytes
  have hr := B.returns
  have hts := atoms_spec (ws := wsX11_stored) B.pre
  have hown : s.vm.findClass RX11 = some m.cls := findClass_of_methodNamed B.named
  have hlk := B.notSynchronized
  have hC : Cx g p s m _ c cX11_stored RX11 wsX11_stored 3 := ⟨hx, hb, hml, hown, hts, hK⟩
  have hA : ∀ q : Nat, s.heap.size ≤ q → dA ad n s.heap.size q := fun q h => Or.inr h
  have hS : va_S (dA ad n s.heap.size) s.heap s.heap [] := va_S.rf
  have hl := lv_entry ([.ref (ad p0)]) (n := 3) (Nat.le_of_ble_eq_true rfl)
  rw [lg_entry_eq]
  generalize (lg_sl ([.ref (ad p0)]) ++ List.replicate (3 - (lg_sl ([.ref (ad p0)])).length) Slot.unset).toArray = ls at hl ⊢
  have hl : lv_has ls 3 [(0, .ref (ad p0))] := hl
  have hin11 : ∀ w ∈ wsX110, w ∈ wsX11_stored := by decide +kernel
  have w_0 := hts (.fieldLink RX11 17 "MailSpoolModel" "net" "[I") (by decide +kernel)
  have hGE := hGs.2.2.2.2.2.2.1
  have hGM := hGs.2.2.2.2.2.2.2.1
  have L4 : ∀ (fu4 : Nat) (S0 : St) (v0 : Nat) (v1 : Int32) (v2 : Int32) (tv0 : v0 < n ∧ K v0 = 10) (H : Heap) (locs : List Loc) (ls : Array Slot), f_X11_stored_L4 F fu4 S0 v0 v1 v2 = some (r9, S9) → Wb g ad n K S0 (dA ad n s.heap.size) H → va_S (dA ad n s.heap.size) s.heap H locs → lv_has ls 3 [(0, .ref (ad v0)), (1, .int v1), (2, .int v2)] → W p l e (headSpec wsX11_stored { frames := 2, cells := 0, slots := 0, locals := 46 }).room s m (List.toArray [.ref (ad p0)]) below meth c H locs 0 0 (MQ below (QR (some (.int r9)) (QB g ad n K S9 (dA ad n s.heap.size) (True)) (dA ad n s.heap.size)) (List.toArray [.ref (ad p0)]) s 0 0 (dA ad n s.heap.size)) (F0 m 4 ls []) := by
    intro fu4
    induction fu4 with
    | zero =>
      intro S0 v0 v1 v2 tv0 H locs ls hf
      cases hf
    | succ fu4 ih4 =>
      have L34 : ∀ (S0 : St) (v0 : Nat) (v2 : Int32) (s0 : Int32) (s1 : Int32) (tv0 : v0 < n ∧ K v0 = 10) (H : Heap) (locs : List Loc) (ls : Array Slot), f_X11_stored_L34 F (fun a0 a1 a2 a3 => f_X11_stored_L4 F fu4 a0 a1 a2 a3) S0 v0 v2 s0 s1 = some (r9, S9) → Wb g ad n K S0 (dA ad n s.heap.size) H → va_S (dA ad n s.heap.size) s.heap H locs → lv_has ls 3 [(0, .ref (ad v0)), (2, .int v2)] → W p l e (headSpec wsX11_stored { frames := 2, cells := 0, slots := 0, locals := 46 }).room s m (List.toArray [.ref (ad p0)]) below meth c H locs 0 0 (MQ below (QR (some (.int r9)) (QB g ad n K S9 (dA ad n s.heap.size) (True)) (dA ad n s.heap.size)) (List.toArray [.ref (ad p0)]) s 0 0 (dA ad n s.heap.size)) (F0 m 34 ls [.int s0, .int s1]) := by
        intro S0 v0 v2 s0 s1 tv0 H locs ls hf hW hS hl
        unfold f_X11_stored_L34 at hf
        refine lv_iadd hx hb dX11_stored_34 ?_
        refine lv_topi (fun x3 ex3 => ?_)
        replace hf := ltE hf x3 ex3
        refine lv_istore_n (lv' := [(1, .int x3), (0, .ref (ad v0)), (2, .int v2)]) hx hb dX11_stored_35 rfl hl (by decide) rfl (fun ls hl => ?_)
        obtain ⟨x4, ex4⟩ : ∃ z : Int32, z = v2 + 1 := ⟨_, rfl⟩
        replace hf := ltE hf x4 ex4
        refine lv_iinc (v := x4) (lv' := [(2, .int x4), (1, .int x3), (0, .ref (ad v0))]) hx hb dX11_stored_36 hl (k := 2) rfl (by rw [ex4]; rfl) (by decide) rfl (fun ls hl => ?_)
        refine lv_goto (tgt := 4) hx hb dX11_stored_39 (by decide) ?_
        exact ih4 S0 v0 x3 x4 tv0 _ _ _ hf hW hS (lv_sub hl [2, 1, 0] rfl)
      intro S0 v0 v1 v2 tv0 H locs ls hf hW hS hl
      unfold f_X11_stored_L4 at hf
      refine lv_iload_n hx hb dX11_stored_4 rfl (lv_at hl 2 rfl) ?_
      refine lv_aload_n hx hb dX11_stored_5 rfl (lv_at hl 0 rfl) ?_
      replace hf := obE hf
      obtain ⟨j17, qj17, hf⟩ := hf
      have tj17 := x_rt hW qj17 12 ⟨by decide, rfl⟩
      refine x_getr 1001 (ci := 10) (C := RX11) (T := TX11) (N := 30) 1 hC hin11 hW tv0 rfl rfl ⟨by decide, by decide, rfl, rfl⟩ rfl w_0 dX11_stored_6 qj17 ?_
      refine lv_bipush (v := 8) hx hb dX11_stored_9 (by decide) ?_
      replace hf := ckiE hf
      obtain ⟨h18, hf⟩ := hf
      refine x_iald hC hW tj17 rfl rfl h18 dX11_stored_11 ?_
      refine lv_icmp_ge (tgt := 42) hx hb dX11_stored_12 (by decide) (fun c19 => ?_) (fun c19 => ?_)
      · replace hf := ifT c19 hf
        refine lv_iload_n hx hb dX11_stored_42 rfl (lv_at hl 1 rfl) ?_
        obtain ⟨e1, e2⟩ := so2 hf
        subst e1
        subst e2
        exact W.iret (v := v1) hx hb hr (fun t ht hWm => ⟨⟨rfl, by unfold QB; rw [ht]; exact ⟨hW, trivial⟩⟩, hS.F ht⟩) hS.2.2 dX11_stored_43 hlk
      · replace hf := ifF c19 hf
        refine lv_iload_n hx hb dX11_stored_15 rfl (lv_at hl 1 rfl) ?_
        refine lv_aload_n hx hb dX11_stored_16 rfl (lv_at hl 0 rfl) ?_
        refine lv_iload_n hx hb dX11_stored_17 rfl (lv_at hl 2 rfl) ?_
        replace hf := obE hf
        obtain ⟨z20, hz20, hf⟩ := hf
        obtain ⟨r22, S21⟩ := z20
        replace hf := ltE (ltE hf r22 rfl) S21 rfl
        refine x_callV (As := [.int v2]) (rest := [.int v1]) (o := (some (.int r22))) (S1 := S21) hC hl.1 hW hS hGs hA tv0 rfl (show vwCl[10]? = some (RX11, TX11, 30) ∧ 10 < 11 from ⟨rfl, by decide⟩) (c_X11_isStored l g ad n K H.size F S0 v0 v2 tv0 r22 S21 hz20) (cwV 1 hts gX11_stored_X11_isStored rfl rfl rfl (by decide +kernel) ⟨Nat.le_of_ble_eq_true rfl, Nat.le_of_ble_eq_true rfl⟩) rfl rfl (Nat.le_of_ble_eq_true rfl) dX11_stored_18 ⟨Nat.le_of_ble_eq_true rfl, Nat.le_of_ble_eq_true rfl⟩ (fun H locs hPz20 hW hS => ?_)
        refine W.eq (g2 := F0 m 21 ls [.int r22, .int v1]) rfl ?_
        refine lv_if_eq (tgt := 33) hx hb dX11_stored_21 (by decide) (fun c24 => ?_) (fun c24 => ?_)
        · replace hf := ifT c24 hf
          refine lv_iconst (v := 0) hx hb dX11_stored_33 (by decide) ?_
          exact L34 S21 v0 v2 0 v1 tv0 _ _ _ hf hW hS (lv_sub hl [0, 2] rfl)
        · replace hf := ifF c24 hf
          refine lv_aload_n hx hb dX11_stored_24 rfl (lv_at hl 0 rfl) ?_
          refine lv_iload_n hx hb dX11_stored_25 rfl (lv_at hl 2 rfl) ?_
          refine lv_iconst (v := 0) hx hb dX11_stored_26 (by decide) ?_
          replace hf := obE hf
          obtain ⟨z25, hz25, hf⟩ := hf
          obtain ⟨r27, S26⟩ := z25
          replace hf := ltE (ltE hf r27 rfl) S26 rfl
          refine x_callV (As := [.int v2, .int 0]) (rest := [.int v1]) (o := (some (.int r27))) (S1 := S26) hC hl.1 hW hS hGs hA tv0 rfl (show vwCl[10]? = some (RX11, TX11, 30) ∧ 10 < 11 from ⟨rfl, by decide⟩) (c_X11_partValue l g ad n K H.size F S21 v0 v2 ((0 : Int32)) tv0 r27 S26 hz25) (cwV 2 hts gX11_stored_X11_partValue rfl rfl rfl (by decide +kernel) ⟨Nat.le_of_ble_eq_true rfl, Nat.le_of_ble_eq_true rfl⟩) rfl rfl (Nat.le_of_ble_eq_true rfl) dX11_stored_27 ⟨Nat.le_of_ble_eq_true rfl, Nat.le_of_ble_eq_true rfl⟩ (fun H locs hPz25 hW hS => ?_)
          refine W.eq (g2 := F0 m 30 ls [.int r27, .int v1]) rfl ?_
          refine lv_goto (tgt := 34) hx hb dX11_stored_30 (by decide) ?_
          exact L34 S26 v0 v2 r27 v1 tv0 _ _ _ hf hW hS (lv_sub hl [0, 2] rfl)
  unfold f_X11_stored at hf
  refine lv_iconst (v := 0) hx hb dX11_stored_0 (by decide) ?_
  refine lv_istore_n (lv' := [(1, .int 0), (0, .ref (ad p0))]) hx hb dX11_stored_1 rfl hl (by decide) rfl (fun ls hl => ?_)
  refine lv_iconst (v := 0) hx hb dX11_stored_2 (by decide) ?_
  refine lv_istore_n (lv' := [(2, .int 0), (1, .int 0), (0, .ref (ad p0))]) hx hb dX11_stored_3 rfl hl (by decide) rfl (fun ls hl => ?_)
  exact L4 F S0 p0 0 0 tp0 _ _ _ hf hW hS (lv_sub hl [2, 1, 0] rfl)
set_option maxHeartbeats 4000000 in
set_option maxRecDepth 100000 in
theorem c_X11_hasRoom (l : Launch) (g : GP) (ad : Nat → Nat) (n : Nat) (K : Nat → Nat) (sz F : Nat) (S0 : St) (p0 : Nat) (tp0 : p0 < n ∧ K p0 = 10) (r9 : Int32) (S9 : St) (hf : f_X11_hasRoom F S0 p0 = some (r9, S9)) : Met l yX11_hasRoom wsX11_hasRoom { frames := 3, cells := 0, slots := 0, locals := 70 } (va_Pc [.ref (ad p0)] (PB g ad n K S0 sz)) (QR (some (.int r9)) (QB g ad n K S9 (dA ad n sz) (True)) (dA ad n sz)) 0 0 (dA ad n sz) := by
  refine Met.ofW (cc := cX11_hasRoom) (maxL := 5) (ret := (some .boolean)) (by decide) rfl ?_
  intro p e s m args below meth c s₁ B hml hv
  obtain ⟨rfl, hsz, hW, hK, hGs⟩ := x_start hv
  subst hsz
  have hx := B.exec
  have hb := B.bytes
  have hr := B.returns
  have hts := atoms_spec (ws := wsX11_hasRoom) B.pre
  have hown : s.vm.findClass RX11 = some m.cls := findClass_of_methodNamed B.named
  have hlk := B.notSynchronized
  have hC : Cx g p s m _ c cX11_hasRoom RX11 wsX11_hasRoom 5 := ⟨hx, hb, hml, hown, hts, hK⟩
  have hA : ∀ q : Nat, s.heap.size ≤ q → dA ad n s.heap.size q := fun q h => Or.inr h
  have hS : va_S (dA ad n s.heap.size) s.heap s.heap [] := va_S.rf
  have hl := lv_entry ([.ref (ad p0)]) (n := 5) (Nat.le_of_ble_eq_true rfl)
  rw [lg_entry_eq]
  generalize (lg_sl ([.ref (ad p0)]) ++ List.replicate (5 - (lg_sl ([.ref (ad p0)])).length) Slot.unset).toArray = ls at hl ⊢
  have hl : lv_has ls 5 [(0, .ref (ad p0))] := hl
  have hin11 : ∀ w ∈ wsX110, w ∈ wsX11_hasRoom := by decide +kernel
  have w_0 := hts (.fieldLink RX11 325 "MailSpoolModel" "partsIn" "I") (by decide +kernel)
  have hGE := hGs.2.2.2.2.2.2.1
  have hGM := hGs.2.2.2.2.2.2.2.1
  have L7 : ∀ (fu7 : Nat) (S0 : St) (v0 : Nat) (v1 : Int32) (v2 : Int32) (tv0 : v0 < n ∧ K v0 = 10) (H : Heap) (locs : List Loc) (ls : Array Slot), f_X11_hasRoom_L7 F fu7 S0 v0 v1 v2 = some (r9, S9) → Wb g ad n K S0 (dA ad n s.heap.size) H → va_S (dA ad n s.heap.size) s.heap H locs → lv_has ls 5 [(0, .ref (ad v0)), (1, .int v1), (2, .int v2)] → W p l e (headSpec wsX11_hasRoom { frames := 3, cells := 0, slots := 0, locals := 70 }).room s m (List.toArray [.ref (ad p0)]) below meth c H locs 0 0 (MQ below (QR (some (.int r9)) (QB g ad n K S9 (dA ad n s.heap.size) (True)) (dA ad n s.heap.size)) (List.toArray [.ref (ad p0)]) s 0 0 (dA ad n s.heap.size)) (F0 m 7 ls []) := by
    intro fu7
    induction fu7 with
    | zero =>
      intro S0 v0 v1 v2 tv0 H locs ls hf
      cases hf
    | succ fu7 ih7 =>
      have L79 : ∀ (S0 : St) (v0 : Nat) (v2 : Int32) (s0 : Int32) (s1 : Int32) (tv0 : v0 < n ∧ K v0 = 10) (H : Heap) (locs : List Loc) (ls : Array Slot), f_X11_hasRoom_L79 F (fun a0 a1 a2 a3 => f_X11_hasRoom_L7 F fu7 a0 a1 a2 a3) S0 v0 v2 s0 s1 = some (r9, S9) → Wb g ad n K S0 (dA ad n s.heap.size) H → va_S (dA ad n s.heap.size) s.heap H locs → lv_has ls 5 [(0, .ref (ad v0)), (2, .int v2)] → W p l e (headSpec wsX11_hasRoom { frames := 3, cells := 0, slots := 0, locals := 70 }).room s m (List.toArray [.ref (ad p0)]) below meth c H locs 0 0 (MQ below (QR (some (.int r9)) (QB g ad n K S9 (dA ad n s.heap.size) (True)) (dA ad n s.heap.size)) (List.toArray [.ref (ad p0)]) s 0 0 (dA ad n s.heap.size)) (F0 m 79 ls [.int s0, .int s1]) := by
        intro S0 v0 v2 s0 s1 tv0 H locs ls hf hW hS hl
        unfold f_X11_hasRoom_L79 at hf
        refine lv_iadd hx hb dX11_hasRoom_79 ?_
        refine lv_topi (fun x3 ex3 => ?_)
        replace hf := ltE hf x3 ex3
        refine lv_istore_n (lv' := [(1, .int x3), (0, .ref (ad v0)), (2, .int v2)]) hx hb dX11_hasRoom_80 rfl hl (by decide) rfl (fun ls hl => ?_)
        obtain ⟨x4, ex4⟩ : ∃ z : Int32, z = v2 + 1 := ⟨_, rfl⟩
        replace hf := ltE hf x4 ex4
        refine lv_iinc (v := x4) (lv' := [(2, .int x4), (1, .int x3), (0, .ref (ad v0))]) hx hb dX11_hasRoom_81 hl (k := 2) rfl (by rw [ex4]; rfl) (by decide) rfl (fun ls hl => ?_)
        refine lv_goto (tgt := 7) hx hb dX11_hasRoom_84 (by decide) ?_
        exact ih7 S0 v0 x3 x4 tv0 _ _ _ hf hW hS (lv_sub hl [2, 1, 0] rfl)
      have L65 : ∀ (S0 : St) (v0 : Nat) (v1 : Int32) (v2 : Int32) (v3 : Int32) (tv0 : v0 < n ∧ K v0 = 10) (H : Heap) (locs : List Loc) (ls : Array Slot), f_X11_hasRoom_L65 F (fun a0 a1 a2 a3 => f_X11_hasRoom_L7 F fu7 a0 a1 a2 a3) S0 v0 v1 v2 v3 = some (r9, S9) → Wb g ad n K S0 (dA ad n s.heap.size) H → va_S (dA ad n s.heap.size) s.heap H locs → lv_has ls 5 [(0, .ref (ad v0)), (1, .int v1), (2, .int v2), (3, .int v3)] → W p l e (headSpec wsX11_hasRoom { frames := 3, cells := 0, slots := 0, locals := 70 }).room s m (List.toArray [.ref (ad p0)]) below meth c H locs 0 0 (MQ below (QR (some (.int r9)) (QB g ad n K S9 (dA ad n s.heap.size) (True)) (dA ad n s.heap.size)) (List.toArray [.ref (ad p0)]) s 0 0 (dA ad n s.heap.size)) (F0 m 65 ls []) := by
        intro S0 v0 v1 v2 v3 tv0 H locs ls hf hW hS hl
        unfold f_X11_hasRoom_L65 at hf
        refine lv_iload_n hx hb dX11_hasRoom_65 rfl (lv_at hl 1 rfl) ?_
        refine lv_iload_n hx hb dX11_hasRoom_66 rfl (lv_at hl 3 rfl) ?_
        refine lv_if_eq (tgt := 78) hx hb dX11_hasRoom_67 (by decide) (fun c10 => ?_) (fun c10 => ?_)
        · replace hf := ifT c10 hf
          refine lv_iconst (v := 0) hx hb dX11_hasRoom_78 (by decide) ?_
          exact L79 S0 v0 v2 0 v1 tv0 _ _ _ hf hW hS (lv_sub hl [0, 2] rfl)
        · replace hf := ifF c10 hf
          refine lv_aload_n hx hb dX11_hasRoom_70 rfl (lv_at hl 0 rfl) ?_
          refine lv_iload_n hx hb dX11_hasRoom_71 rfl (lv_at hl 2 rfl) ?_
          replace hf := obE hf
          obtain ⟨z11, hz11, hf⟩ := hf
          obtain ⟨r13, S12⟩ := z11
          replace hf := ltE (ltE hf r13 rfl) S12 rfl
          refine x_callV (As := [.int v2]) (rest := [.int v1]) (o := (some (.int r13))) (S1 := S12) hC hl.1 hW hS hGs hA tv0 rfl (show vwCl[10]? = some (RX11, TX11, 30) ∧ 10 < 11 from ⟨rfl, by decide⟩) (c_X11_lengthIn l g ad n K H.size F S0 v0 v2 tv0 r13 S12 hz11) (cwV 1 hts gX11_hasRoom_X11_lengthIn rfl rfl rfl (by decide +kernel) ⟨Nat.le_of_ble_eq_true rfl, Nat.le_of_ble_eq_true rfl⟩) rfl rfl (Nat.le_of_ble_eq_true rfl) dX11_hasRoom_72 ⟨Nat.le_of_ble_eq_true rfl, Nat.le_of_ble_eq_true rfl⟩ (fun H locs hPz11 hW hS => ?_)
          refine W.eq (g2 := F0 m 75 ls [.int r13, .int v1]) rfl ?_
          refine lv_goto (tgt := 79) hx hb dX11_hasRoom_75 (by decide) ?_
          exact L79 S12 v0 v2 r13 v1 tv0 _ _ _ hf hW hS (lv_sub hl [0, 2] rfl)
      have L33 : ∀ (fu33 : Nat) (S0 : St) (v0 : Nat) (v1 : Int32) (v2 : Int32) (v3 : Int32) (v4 : Int32) (tv0 : v0 < n ∧ K v0 = 10) (H : Heap) (locs : List Loc) (ls : Array Slot), f_X11_hasRoom_L33 F (fun a0 a1 a2 a3 => f_X11_hasRoom_L7 F fu7 a0 a1 a2 a3) fu33 S0 v0 v1 v2 v3 v4 = some (r9, S9) → Wb g ad n K S0 (dA ad n s.heap.size) H → va_S (dA ad n s.heap.size) s.heap H locs → lv_has ls 5 [(0, .ref (ad v0)), (1, .int v1), (2, .int v2), (3, .int v3), (4, .int v4)] → W p l e (headSpec wsX11_hasRoom { frames := 3, cells := 0, slots := 0, locals := 70 }).room s m (List.toArray [.ref (ad p0)]) below meth c H locs 0 0 (MQ below (QR (some (.int r9)) (QB g ad n K S9 (dA ad n s.heap.size) (True)) (dA ad n s.heap.size)) (List.toArray [.ref (ad p0)]) s 0 0 (dA ad n s.heap.size)) (F0 m 33 ls []) := by
        intro fu33
        induction fu33 with
        | zero =>
          intro S0 v0 v1 v2 v3 v4 tv0 H locs ls hf
          cases hf
        | succ fu33 ih33 =>
          have L58 : ∀ (S0 : St) (v0 : Nat) (v1 : Int32) (v2 : Int32) (v4 : Int32) (s0 : Int32) (tv0 : v0 < n ∧ K v0 = 10) (H : Heap) (locs : List Loc) (ls : Array Slot), f_X11_hasRoom_L58 F (fun a0 a1 a2 a3 => f_X11_hasRoom_L7 F fu7 a0 a1 a2 a3) (fun a0 a1 a2 a3 a4 a5 => f_X11_hasRoom_L33 F (fun a0 a1 a2 a3 => f_X11_hasRoom_L7 F fu7 a0 a1 a2 a3) fu33 a0 a1 a2 a3 a4 a5) S0 v0 v1 v2 v4 s0 = some (r9, S9) → Wb g ad n K S0 (dA ad n s.heap.size) H → va_S (dA ad n s.heap.size) s.heap H locs → lv_has ls 5 [(0, .ref (ad v0)), (1, .int v1), (2, .int v2), (4, .int v4)] → W p l e (headSpec wsX11_hasRoom { frames := 3, cells := 0, slots := 0, locals := 70 }).room s m (List.toArray [.ref (ad p0)]) below meth c H locs 0 0 (MQ below (QR (some (.int r9)) (QB g ad n K S9 (dA ad n s.heap.size) (True)) (dA ad n s.heap.size)) (List.toArray [.ref (ad p0)]) s 0 0 (dA ad n s.heap.size)) (F0 m 58 ls [.int s0]) := by
            intro S0 v0 v1 v2 v4 s0 tv0 H locs ls hf hW hS hl
            unfold f_X11_hasRoom_L58 at hf
            refine lv_istore_n (lv' := [(3, .int s0), (0, .ref (ad v0)), (1, .int v1), (2, .int v2), (4, .int v4)]) hx hb dX11_hasRoom_58 rfl hl (by decide) rfl (fun ls hl => ?_)
            obtain ⟨x16, ex16⟩ : ∃ z : Int32, z = v4 + 1 := ⟨_, rfl⟩
            replace hf := ltE hf x16 ex16
            refine lv_iinc (v := x16) (lv' := [(4, .int x16), (3, .int s0), (0, .ref (ad v0)), (1, .int v1), (2, .int v2)]) hx hb dX11_hasRoom_59 hl (k := 4) rfl (by rw [ex16]; rfl) (by decide) rfl (fun ls hl => ?_)
            refine lv_goto (tgt := 33) hx hb dX11_hasRoom_62 (by decide) ?_
            exact ih33 S0 v0 v1 v2 s0 x16 tv0 _ _ _ hf hW hS (lv_sub hl [2, 3, 4, 1, 0] rfl)
          intro S0 v0 v1 v2 v3 v4 tv0 H locs ls hf hW hS hl
          unfold f_X11_hasRoom_L33 at hf
          refine lv_iload hx hb dX11_hasRoom_33 (lv_at hl 4 rfl) ?_
          refine lv_iload_n hx hb dX11_hasRoom_35 rfl (lv_at hl 2 rfl) ?_
          refine lv_icmp_ge (tgt := 65) hx hb dX11_hasRoom_36 (by decide) (fun c24 => ?_) (fun c24 => ?_)
          · replace hf := ifT c24 hf
            exact L65 S0 v0 v1 v2 v3 tv0 _ _ _ hf hW hS (lv_sub hl [0, 1, 2, 3] rfl)
          · replace hf := ifF c24 hf
            refine lv_iload_n hx hb dX11_hasRoom_39 rfl (lv_at hl 3 rfl) ?_
            refine lv_if_eq (tgt := 65) hx hb dX11_hasRoom_40 (by decide) (fun c25 => ?_) (fun c25 => ?_)
            · replace hf := ifT c25 hf
              exact L65 S0 v0 v1 v2 v3 tv0 _ _ _ hf hW hS (lv_sub hl [0, 1, 2, 3] rfl)
            · replace hf := ifF c25 hf
              refine lv_aload_n hx hb dX11_hasRoom_43 rfl (lv_at hl 0 rfl) ?_
              refine lv_iload_n hx hb dX11_hasRoom_44 rfl (lv_at hl 2 rfl) ?_
              refine lv_iload hx hb dX11_hasRoom_45 (lv_at hl 4 rfl) ?_
              replace hf := obE hf
              obtain ⟨z26, hz26, hf⟩ := hf
              obtain ⟨r28, S27⟩ := z26
              replace hf := ltE (ltE hf r28 rfl) S27 rfl
              refine x_callV (As := [.int v2, .int v4]) (rest := []) (o := (some (.int r28))) (S1 := S27) hC hl.1 hW hS hGs hA tv0 rfl (show vwCl[10]? = some (RX11, TX11, 30) ∧ 10 < 11 from ⟨rfl, by decide⟩) (c_X11_areSame l g ad n K H.size F S0 v0 v2 v4 tv0 r28 S27 hz26) (cwV 2 hts gX11_hasRoom_X11_areSame rfl rfl rfl (by decide +kernel) ⟨Nat.le_of_ble_eq_true rfl, Nat.le_of_ble_eq_true rfl⟩) rfl rfl (Nat.le_of_ble_eq_true rfl) dX11_hasRoom_47 ⟨Nat.le_of_ble_eq_true rfl, Nat.le_of_ble_eq_true rfl⟩ (fun H locs hPz26 hW hS => ?_)
              refine W.eq (g2 := F0 m 50 ls [.int r28]) rfl ?_
              refine lv_if_ne (tgt := 57) hx hb dX11_hasRoom_50 (by decide) (fun c30 => ?_) (fun c30 => ?_)
              · replace hf := ifT c30 hf
                refine lv_iconst (v := 0) hx hb dX11_hasRoom_57 (by decide) ?_
                exact L58 S27 v0 v1 v2 v4 0 tv0 _ _ _ hf hW hS (lv_sub hl [0, 1, 2, 4] rfl)
              · replace hf := ifF (fun q => q c30) hf
                refine lv_iconst (v := 1) hx hb dX11_hasRoom_53 (by decide) ?_
                refine lv_goto (tgt := 58) hx hb dX11_hasRoom_54 (by decide) ?_
                exact L58 S27 v0 v1 v2 v4 1 tv0 _ _ _ hf hW hS (lv_sub hl [0, 1, 2, 4] rfl)
      have L29 : ∀ (S0 : St) (v0 : Nat) (v1 : Int32) (v2 : Int32) (s0 : Int32) (tv0 : v0 < n ∧ K v0 = 10) (H : Heap) (locs : List Loc) (ls : Array Slot), f_X11_hasRoom_L29 F (fun a0 a1 a2 a3 => f_X11_hasRoom_L7 F fu7 a0 a1 a2 a3) S0 v0 v1 v2 s0 = some (r9, S9) → Wb g ad n K S0 (dA ad n s.heap.size) H → va_S (dA ad n s.heap.size) s.heap H locs → lv_has ls 5 [(0, .ref (ad v0)), (1, .int v1), (2, .int v2)] → W p l e (headSpec wsX11_hasRoom { frames := 3, cells := 0, slots := 0, locals := 70 }).room s m (List.toArray [.ref (ad p0)]) below meth c H locs 0 0 (MQ below (QR (some (.int r9)) (QB g ad n K S9 (dA ad n s.heap.size) (True)) (dA ad n s.heap.size)) (List.toArray [.ref (ad p0)]) s 0 0 (dA ad n s.heap.size)) (F0 m 29 ls [.int s0]) := by
        intro S0 v0 v1 v2 s0 tv0 H locs ls hf hW hS hl
        unfold f_X11_hasRoom_L29 at hf
        refine lv_istore_n (lv' := [(3, .int s0), (0, .ref (ad v0)), (1, .int v1), (2, .int v2)]) hx hb dX11_hasRoom_29 rfl hl (by decide) rfl (fun ls hl => ?_)
        refine lv_iconst (v := 0) hx hb dX11_hasRoom_30 (by decide) ?_
        refine lv_istore (lv' := [(4, .int 0), (3, .int s0), (0, .ref (ad v0)), (1, .int v1), (2, .int v2)]) hx hb dX11_hasRoom_31 hl (by decide) rfl (fun ls hl => ?_)
        exact L33 F S0 v0 v1 v2 s0 0 tv0 _ _ _ hf hW hS (lv_sub hl [2, 3, 4, 1, 0] rfl)
      intro S0 v0 v1 v2 tv0 H locs ls hf hW hS hl
      unfold f_X11_hasRoom_L7 at hf
      refine lv_iload_n hx hb dX11_hasRoom_7 rfl (lv_at hl 2 rfl) ?_
      refine lv_aload_n hx hb dX11_hasRoom_8 rfl (lv_at hl 0 rfl) ?_
      refine x_geti 1018 (ci := 10) (C := RX11) (T := TX11) (N := 30) 18 hC hin11 hW tv0 rfl rfl ⟨by decide, by decide, rfl, rfl⟩ rfl w_0 dX11_hasRoom_9 ?_
      refine lv_icmp_ge (tgt := 87) hx hb dX11_hasRoom_12 (by decide) (fun c38 => ?_) (fun c38 => ?_)
      · replace hf := ifT c38 hf
        refine lv_iload_n hx hb dX11_hasRoom_87 rfl (lv_at hl 1 rfl) ?_
        refine lv_sipush (v := 8000) hx hb dX11_hasRoom_88 (by decide) ?_
        refine lv_icmp_gt (tgt := 98) hx hb dX11_hasRoom_91 (by decide) (fun c39 => ?_) (fun c39 => ?_)
        · replace hf := ifT c39 hf
          refine lv_iconst (v := 0) hx hb dX11_hasRoom_98 (by decide) ?_
          obtain ⟨e1, e2⟩ := so2 hf
          subst e1
          subst e2
          exact W.zret (v := 0) hx hb hr rfl (fun t ht hWm => ⟨⟨rfl, by unfold QB; rw [ht]; exact ⟨hW, trivial⟩⟩, hS.F ht⟩) hS.2.2 dX11_hasRoom_99 hlk
        · replace hf := ifF c39 hf
          refine lv_iconst (v := 1) hx hb dX11_hasRoom_94 (by decide) ?_
          refine lv_goto (tgt := 99) hx hb dX11_hasRoom_95 (by decide) ?_
          obtain ⟨e1, e2⟩ := so2 hf
          subst e1
          subst e2
          exact W.zret (v := 1) hx hb hr rfl (fun t ht hWm => ⟨⟨rfl, by unfold QB; rw [ht]; exact ⟨hW, trivial⟩⟩, hS.F ht⟩) hS.2.2 dX11_hasRoom_99 hlk
      · replace hf := ifF c38 hf
        refine lv_aload_n hx hb dX11_hasRoom_15 rfl (lv_at hl 0 rfl) ?_
        refine lv_iload_n hx hb dX11_hasRoom_16 rfl (lv_at hl 2 rfl) ?_
        replace hf := obE hf
        obtain ⟨z40, hz40, hf⟩ := hf
        obtain ⟨r42, S41⟩ := z40
        replace hf := ltE (ltE hf r42 rfl) S41 rfl
        refine x_callV (As := [.int v2]) (rest := []) (o := (some (.int r42))) (S1 := S41) hC hl.1 hW hS hGs hA tv0 rfl (show vwCl[10]? = some (RX11, TX11, 30) ∧ 10 < 11 from ⟨rfl, by decide⟩) (c_X11_storedLike l g ad n K H.size F S0 v0 v2 tv0 r42 S41 hz40) (cwV 1 hts gX11_hasRoom_X11_storedLike rfl rfl rfl (by decide +kernel) ⟨Nat.le_of_ble_eq_true rfl, Nat.le_of_ble_eq_true rfl⟩) rfl rfl (Nat.le_of_ble_eq_true rfl) dX11_hasRoom_17 ⟨Nat.le_of_ble_eq_true rfl, Nat.le_of_ble_eq_true rfl⟩ (fun H locs hPz40 hW hS => ?_)
        refine W.eq (g2 := F0 m 20 ls [.int r42]) rfl ?_
        refine lv_iconst (v := -1) hx hb dX11_hasRoom_20 (by decide) ?_
        refine lv_icmp_ne (tgt := 28) hx hb dX11_hasRoom_21 (by decide) (fun c44 => ?_) (fun c44 => ?_)
        · replace hf := ifT c44 hf
          refine lv_iconst (v := 0) hx hb dX11_hasRoom_28 (by decide) ?_
          exact L29 S41 v0 v1 v2 0 tv0 _ _ _ hf hW hS (lv_sub hl [0, 1, 2] rfl)
        · replace hf := ifF (fun q => q c44) hf
          refine lv_iconst (v := 1) hx hb dX11_hasRoom_24 (by decide) ?_
          refine lv_goto (tgt := 29) hx hb dX11_hasRoom_25 (by decide) ?_
          exact L29 S41 v0 v1 v2 1 tv0 _ _ _ hf hW hS (lv_sub hl [0, 1, 2] rfl)
  unfold f_X11_hasRoom at hf
  refine lv_aload_n hx hb dX11_hasRoom_0 rfl (lv_at hl 0 rfl) ?_
  replace hf := obE hf
  obtain ⟨z45, hz45, hf⟩ := hf
  obtain ⟨r47, S46⟩ := z45
  replace hf := ltE (ltE hf r47 rfl) S46 rfl
  refine x_callV (As := []) (rest := []) (o := (some (.int r47))) (S1 := S46) hC hl.1 hW hS hGs hA tp0 rfl (show vwCl[10]? = some (RX11, TX11, 30) ∧ 10 < 11 from ⟨rfl, by decide⟩) (c_X11_stored l g ad n K s.heap.size F S0 p0 tp0 r47 S46 hz45) (cwV 0 hts gX11_hasRoom_X11_stored rfl rfl rfl (by decide +kernel) ⟨Nat.le_of_ble_eq_true rfl, Nat.le_of_ble_eq_true rfl⟩) rfl rfl (Nat.le_of_ble_eq_true rfl) dX11_hasRoom_1 ⟨Nat.le_of_ble_eq_true rfl, Nat.le_of_ble_eq_true rfl⟩ (fun H locs hPz45 hW hS => ?_)
  refine W.eq (g2 := F0 m 4 ls [.int r47]) rfl ?_
  refine lv_istore_n (lv' := [(1, .int r47), (0, .ref (ad p0))]) hx hb dX11_hasRoom_4 rfl hl (by decide) rfl (fun ls hl => ?_)
  refine lv_iconst (v := 0) hx hb dX11_hasRoom_5 (by decide) ?_
  refine lv_istore_n (lv' := [(2, .int 0), (1, .int r47), (0, .ref (ad p0))]) hx hb dX11_hasRoom_6 rfl hl (by decide) rfl (fun ls hl => ?_)
  exact L7 F S46 p0 r47 0 tp0 _ _ _ hf hW hS (lv_sub hl [2, 1, 0] rfl)
set_option maxHeartbeats 4000000 in
set_option maxRecDepth 100000 in
theorem c_X11_sizeOf (l : Launch) (g : GP) (ad : Nat → Nat) (n : Nat) (K : Nat → Nat) (sz F : Nat) (S0 : St) (p0 : Nat) (p1 : Int32) (tp0 : p0 < n ∧ K p0 = 10) (r9 : Int32) (S9 : St) (hf : f_X11_sizeOf F S0 p0 p1 = some (r9, S9)) : Met l yX11_sizeOf wsX11_sizeOf { frames := 1, cells := 0, slots := 0, locals := 22 } (va_Pc [.ref (ad p0), .int p1] (PB g ad n K S0 sz)) (QR (some (.int r9)) (QB g ad n K S9 (dA ad n sz) (True)) (dA ad n sz)) 0 0 (dA ad n sz) := by
  refine Met.ofW (cc := cX11_sizeOf) (maxL := 4) (ret := (some .int)) (by decide) rfl ?_
  intro p e s m args below meth c s₁ B hml hv
  obtain ⟨rfl, hsz, hW, hK, hGs⟩ := x_start hv
  subst hsz
  have hx := B.exec
  have hb := B.bytes
  have hr := B.returns
  have hts := atoms_spec (ws := wsX11_sizeOf) B.pre
  have hown : s.vm.findClass RX11 = some m.cls := findClass_of_methodNamed B.named
  have hlk := B.notSynchronized
  have hC : Cx g p s m _ c cX11_sizeOf RX11 wsX11_sizeOf 4 := ⟨hx, hb, hml, hown, hts, hK⟩
  have hA : ∀ q : Nat, s.heap.size ≤ q → dA ad n s.heap.size q := fun q h => Or.inr h
  have hS : va_S (dA ad n s.heap.size) s.heap s.heap [] := va_S.rf
  have hl := lv_entry ([.ref (ad p0), .int p1]) (n := 4) (Nat.le_of_ble_eq_true rfl)
  rw [lg_entry_eq]
  generalize (lg_sl ([.ref (ad p0), .int p1]) ++ List.replicate (4 - (lg_sl ([.ref (ad p0), .int p1])).length) Slot.unset).toArray = ls at hl ⊢
  have hl : lv_has ls 4 [(0, .ref (ad p0)), (1, .int p1)] := hl
  have hGE := hGs.2.2.2.2.2.2.1
  have hGM := hGs.2.2.2.2.2.2.2.1
  have L4 : ∀ (fu4 : Nat) (S0 : St) (v0 : Nat) (v1 : Int32) (v2 : Int32) (v3 : Int32) (tv0 : v0 < n ∧ K v0 = 10) (H : Heap) (locs : List Loc) (ls : Array Slot), f_X11_sizeOf_L4 F fu4 S0 v0 v1 v2 v3 = some (r9, S9) → Wb g ad n K S0 (dA ad n s.heap.size) H → va_S (dA ad n s.heap.size) s.heap H locs → lv_has ls 4 [(0, .ref (ad v0)), (1, .int v1), (2, .int v2), (3, .int v3)] → W p l e (headSpec wsX11_sizeOf { frames := 1, cells := 0, slots := 0, locals := 22 }).room s m (List.toArray [.ref (ad p0), .int p1]) below meth c H locs 0 0 (MQ below (QR (some (.int r9)) (QB g ad n K S9 (dA ad n s.heap.size) (True)) (dA ad n s.heap.size)) (List.toArray [.ref (ad p0), .int p1]) s 0 0 (dA ad n s.heap.size)) (F0 m 4 ls []) := by
    intro fu4
    induction fu4 with
    | zero =>
      intro S0 v0 v1 v2 v3 tv0 H locs ls hf
      cases hf
    | succ fu4 ih4 =>
      intro S0 v0 v1 v2 v3 tv0 H locs ls hf hW hS hl
      unfold f_X11_sizeOf_L4 at hf
      refine lv_iload_n hx hb dX11_sizeOf_4 rfl (lv_at hl 3 rfl) ?_
      refine lv_aload_n hx hb dX11_sizeOf_5 rfl (lv_at hl 0 rfl) ?_
      refine lv_iload_n hx hb dX11_sizeOf_6 rfl (lv_at hl 1 rfl) ?_
      refine lv_iconst (v := 2) hx hb dX11_sizeOf_7 (by decide) ?_
      replace hf := obE hf
      obtain ⟨z16, hz16, hf⟩ := hf
      obtain ⟨r18, S17⟩ := z16
      replace hf := ltE (ltE hf r18 rfl) S17 rfl
      refine x_callV (As := [.int v1, .int 2]) (rest := [.int v3]) (o := (some (.int r18))) (S1 := S17) hC hl.1 hW hS hGs hA tv0 rfl (show vwCl[10]? = some (RX11, TX11, 30) ∧ 10 < 11 from ⟨rfl, by decide⟩) (c_X11_messageValue l g ad n K H.size F S0 v0 v1 ((2 : Int32)) tv0 r18 S17 hz16) (cwV 2 hts gX11_sizeOf_X11_messageValue rfl rfl rfl (by decide +kernel) ⟨Nat.le_of_ble_eq_true rfl, Nat.le_of_ble_eq_true rfl⟩) rfl rfl (Nat.le_of_ble_eq_true rfl) dX11_sizeOf_8 ⟨Nat.le_of_ble_eq_true rfl, Nat.le_of_ble_eq_true rfl⟩ (fun H locs hPz16 hW hS => ?_)
      refine W.eq (g2 := F0 m 11 ls [.int r18, .int v3]) rfl ?_
      refine lv_icmp_ge (tgt := 36) hx hb dX11_sizeOf_11 (by decide) (fun c20 => ?_) (fun c20 => ?_)
      · replace hf := ifT c20 hf
        refine lv_iload_n hx hb dX11_sizeOf_36 rfl (lv_at hl 2 rfl) ?_
        obtain ⟨e1, e2⟩ := so2 hf
        subst e1
        subst e2
        exact W.iret (v := v2) hx hb hr (fun t ht hWm => ⟨⟨rfl, by unfold QB; rw [ht]; exact ⟨hW, trivial⟩⟩, hS.F ht⟩) hS.2.2 dX11_sizeOf_37 hlk
      · replace hf := ifF c20 hf
        refine lv_iload_n hx hb dX11_sizeOf_14 rfl (lv_at hl 2 rfl) ?_
        refine lv_aload_n hx hb dX11_sizeOf_15 rfl (lv_at hl 0 rfl) ?_
        refine lv_aload_n hx hb dX11_sizeOf_16 rfl (lv_at hl 0 rfl) ?_
        refine lv_iload_n hx hb dX11_sizeOf_17 rfl (lv_at hl 1 rfl) ?_
        refine lv_iconst (v := 3) hx hb dX11_sizeOf_18 (by decide) ?_
        refine lv_iload_n hx hb dX11_sizeOf_19 rfl (lv_at hl 3 rfl) ?_
        refine lv_iadd hx hb dX11_sizeOf_20 ?_
        replace hf := obE hf
        obtain ⟨z21, hz21, hf⟩ := hf
        obtain ⟨r23, S22⟩ := z21
        replace hf := ltE (ltE hf r23 rfl) S22 rfl
        refine x_callV (As := [.int v1, .int (3 + v3)]) (rest := [.ref (ad v0), .int v2]) (o := (some (.int r23))) (S1 := S22) hC hl.1 hW hS hGs hA tv0 rfl (show vwCl[10]? = some (RX11, TX11, 30) ∧ 10 < 11 from ⟨rfl, by decide⟩) (c_X11_messageValue l g ad n K H.size F S17 v0 v1 (3 + v3) tv0 r23 S22 hz21) (cwV 2 hts gX11_sizeOf_X11_messageValue rfl rfl rfl (by decide +kernel) ⟨Nat.le_of_ble_eq_true rfl, Nat.le_of_ble_eq_true rfl⟩) rfl rfl (Nat.le_of_ble_eq_true rfl) dX11_sizeOf_21 ⟨Nat.le_of_ble_eq_true rfl, Nat.le_of_ble_eq_true rfl⟩ (fun H locs hPz21 hW hS => ?_)
        refine W.eq (g2 := F0 m 24 ls [.int r23, .ref (ad v0), .int v2]) rfl ?_
        refine lv_iconst (v := 0) hx hb dX11_sizeOf_24 (by decide) ?_
        replace hf := obE hf
        obtain ⟨z25, hz25, hf⟩ := hf
        obtain ⟨r27, S26⟩ := z25
        replace hf := ltE (ltE hf r27 rfl) S26 rfl
        refine x_callV (As := [.int r23, .int 0]) (rest := [.int v2]) (o := (some (.int r27))) (S1 := S26) hC hl.1 hW hS hGs hA tv0 rfl (show vwCl[10]? = some (RX11, TX11, 30) ∧ 10 < 11 from ⟨rfl, by decide⟩) (c_X11_partValue l g ad n K H.size F S22 v0 r23 ((0 : Int32)) tv0 r27 S26 hz25) (cwV 2 hts gX11_sizeOf_X11_partValue rfl rfl rfl (by decide +kernel) ⟨Nat.le_of_ble_eq_true rfl, Nat.le_of_ble_eq_true rfl⟩) rfl rfl (Nat.le_of_ble_eq_true rfl) dX11_sizeOf_25 ⟨Nat.le_of_ble_eq_true rfl, Nat.le_of_ble_eq_true rfl⟩ (fun H locs hPz25 hW hS => ?_)
        refine W.eq (g2 := F0 m 28 ls [.int r27, .int v2]) rfl ?_
        refine lv_iadd hx hb dX11_sizeOf_28 ?_
        refine lv_topi (fun x29 ex29 => ?_)
        replace hf := ltE hf x29 ex29
        refine lv_istore_n (lv' := [(2, .int x29), (0, .ref (ad v0)), (1, .int v1), (3, .int v3)]) hx hb dX11_sizeOf_29 rfl hl (by decide) rfl (fun ls hl => ?_)
        obtain ⟨x30, ex30⟩ : ∃ z : Int32, z = v3 + 1 := ⟨_, rfl⟩
        replace hf := ltE hf x30 ex30
        refine lv_iinc (v := x30) (lv' := [(3, .int x30), (2, .int x29), (0, .ref (ad v0)), (1, .int v1)]) hx hb dX11_sizeOf_30 hl (k := 3) rfl (by rw [ex30]; rfl) (by decide) rfl (fun ls hl => ?_)
        refine lv_goto (tgt := 4) hx hb dX11_sizeOf_33 (by decide) ?_
        exact ih4 S26 v0 v1 x29 x30 tv0 _ _ _ hf hW hS (lv_sub hl [2, 3, 1, 0] rfl)
  unfold f_X11_sizeOf at hf
  refine lv_iconst (v := 0) hx hb dX11_sizeOf_0 (by decide) ?_
  refine lv_istore_n (lv' := [(2, .int 0), (0, .ref (ad p0)), (1, .int p1)]) hx hb dX11_sizeOf_1 rfl hl (by decide) rfl (fun ls hl => ?_)
  refine lv_iconst (v := 0) hx hb dX11_sizeOf_2 (by decide) ?_
  refine lv_istore_n (lv' := [(3, .int 0), (2, .int 0), (0, .ref (ad p0)), (1, .int p1)]) hx hb dX11_sizeOf_3 rfl hl (by decide) rfl (fun ls hl => ?_)
  exact L4 F S0 p0 p1 0 0 tp0 _ _ _ hf hW hS (lv_sub hl [2, 3, 1, 0] rfl)
set_option maxHeartbeats 4000000 in
set_option maxRecDepth 100000 in
theorem c_X11_usageOf (l : Launch) (g : GP) (ad : Nat → Nat) (n : Nat) (K : Nat → Nat) (sz F : Nat) (S0 : St) (p0 : Nat) (p1 : Int32) (tp0 : p0 < n ∧ K p0 = 10) (r9 : Int32) (S9 : St) (hf : f_X11_usageOf F S0 p0 p1 = some (r9, S9)) : Met l yX11_usageOf wsX11_usageOf { frames := 3, cells := 0, slots := 0, locals := 65 } (va_Pc [.ref (ad p0), .int p1] (PB g ad n K S0 sz)) (QR (some (.int r9)) (QB g ad n K S9 (dA ad n sz) (True)) (dA ad n sz)) 0 0 (dA ad n sz) := by
  refine Met.ofW (cc := cX11_usageOf) (maxL := 4) (ret := (some .int)) (by decide) rfl ?_
  intro p e s m args below meth c s₁ B hml hv
  obtain ⟨rfl, hsz, hW, hK, hGs⟩ := x_start hv
  subst hsz
  have hx := B.exec
  have hb := B.bytes
  have hr := B.returns
  have hts := atoms_spec (ws := wsX11_usageOf) B.pre
  have hown : s.vm.findClass RX11 = some m.cls := findClass_of_methodNamed B.named
  have hlk := B.notSynchronized
  have hC : Cx g p s m _ c cX11_usageOf RX11 wsX11_usageOf 4 := ⟨hx, hb, hml, hown, hts, hK⟩
  have hA : ∀ q : Nat, s.heap.size ≤ q → dA ad n s.heap.size q := fun q h => Or.inr h
  have hS : va_S (dA ad n s.heap.size) s.heap s.heap [] := va_S.rf
  have hl := lv_entry ([.ref (ad p0), .int p1]) (n := 4) (Nat.le_of_ble_eq_true rfl)
  rw [lg_entry_eq]
  generalize (lg_sl ([.ref (ad p0), .int p1]) ++ List.replicate (4 - (lg_sl ([.ref (ad p0), .int p1])).length) Slot.unset).toArray = ls at hl ⊢
  have hl : lv_has ls 4 [(0, .ref (ad p0)), (1, .int p1)] := hl
  have hin11 : ∀ w ∈ wsX110, w ∈ wsX11_usageOf := by decide +kernel
  have w_0 := hts (.fieldLink RX11 17 "MailSpoolModel" "net" "[I") (by decide +kernel)
  have hGE := hGs.2.2.2.2.2.2.1
  have hGM := hGs.2.2.2.2.2.2.2.1
  have L4 : ∀ (fu4 : Nat) (S0 : St) (v0 : Nat) (v1 : Int32) (v2 : Int32) (v3 : Int32) (tv0 : v0 < n ∧ K v0 = 10) (H : Heap) (locs : List Loc) (ls : Array Slot), f_X11_usageOf_L4 F fu4 S0 v0 v1 v2 v3 = some (r9, S9) → Wb g ad n K S0 (dA ad n s.heap.size) H → va_S (dA ad n s.heap.size) s.heap H locs → lv_has ls 4 [(0, .ref (ad v0)), (1, .int v1), (2, .int v2), (3, .int v3)] → W p l e (headSpec wsX11_usageOf { frames := 3, cells := 0, slots := 0, locals := 65 }).room s m (List.toArray [.ref (ad p0), .int p1]) below meth c H locs 0 0 (MQ below (QR (some (.int r9)) (QB g ad n K S9 (dA ad n s.heap.size) (True)) (dA ad n s.heap.size)) (List.toArray [.ref (ad p0), .int p1]) s 0 0 (dA ad n s.heap.size)) (F0 m 4 ls []) := by
    intro fu4
    induction fu4 with
    | zero =>
      intro S0 v0 v1 v2 v3 tv0 H locs ls hf
      cases hf
    | succ fu4 ih4 =>
      have L34 : ∀ (S0 : St) (v0 : Nat) (v1 : Int32) (v3 : Int32) (s0 : Int32) (s1 : Int32) (tv0 : v0 < n ∧ K v0 = 10) (H : Heap) (locs : List Loc) (ls : Array Slot), f_X11_usageOf_L34 F (fun a0 a1 a2 a3 a4 => f_X11_usageOf_L4 F fu4 a0 a1 a2 a3 a4) S0 v0 v1 v3 s0 s1 = some (r9, S9) → Wb g ad n K S0 (dA ad n s.heap.size) H → va_S (dA ad n s.heap.size) s.heap H locs → lv_has ls 4 [(0, .ref (ad v0)), (1, .int v1), (3, .int v3)] → W p l e (headSpec wsX11_usageOf { frames := 3, cells := 0, slots := 0, locals := 65 }).room s m (List.toArray [.ref (ad p0), .int p1]) below meth c H locs 0 0 (MQ below (QR (some (.int r9)) (QB g ad n K S9 (dA ad n s.heap.size) (True)) (dA ad n s.heap.size)) (List.toArray [.ref (ad p0), .int p1]) s 0 0 (dA ad n s.heap.size)) (F0 m 34 ls [.int s0, .int s1]) := by
        intro S0 v0 v1 v3 s0 s1 tv0 H locs ls hf hW hS hl
        unfold f_X11_usageOf_L34 at hf
        refine lv_iadd hx hb dX11_usageOf_34 ?_
        refine lv_topi (fun x3 ex3 => ?_)
        replace hf := ltE hf x3 ex3
        refine lv_istore_n (lv' := [(2, .int x3), (0, .ref (ad v0)), (1, .int v1), (3, .int v3)]) hx hb dX11_usageOf_35 rfl hl (by decide) rfl (fun ls hl => ?_)
        obtain ⟨x4, ex4⟩ : ∃ z : Int32, z = v3 + 1 := ⟨_, rfl⟩
        replace hf := ltE hf x4 ex4
        refine lv_iinc (v := x4) (lv' := [(3, .int x4), (2, .int x3), (0, .ref (ad v0)), (1, .int v1)]) hx hb dX11_usageOf_36 hl (k := 3) rfl (by rw [ex4]; rfl) (by decide) rfl (fun ls hl => ?_)
        refine lv_goto (tgt := 4) hx hb dX11_usageOf_39 (by decide) ?_
        exact ih4 S0 v0 v1 x3 x4 tv0 _ _ _ hf hW hS (lv_sub hl [2, 3, 1, 0] rfl)
      intro S0 v0 v1 v2 v3 tv0 H locs ls hf hW hS hl
      unfold f_X11_usageOf_L4 at hf
      refine lv_iload_n hx hb dX11_usageOf_4 rfl (lv_at hl 3 rfl) ?_
      refine lv_aload_n hx hb dX11_usageOf_5 rfl (lv_at hl 0 rfl) ?_
      replace hf := obE hf
      obtain ⟨j17, qj17, hf⟩ := hf
      have tj17 := x_rt hW qj17 12 ⟨by decide, rfl⟩
      refine x_getr 1001 (ci := 10) (C := RX11) (T := TX11) (N := 30) 1 hC hin11 hW tv0 rfl rfl ⟨by decide, by decide, rfl, rfl⟩ rfl w_0 dX11_usageOf_6 qj17 ?_
      refine lv_bipush (v := 7) hx hb dX11_usageOf_9 (by decide) ?_
      replace hf := ckiE hf
      obtain ⟨h18, hf⟩ := hf
      refine x_iald hC hW tj17 rfl rfl h18 dX11_usageOf_11 ?_
      refine lv_icmp_ge (tgt := 42) hx hb dX11_usageOf_12 (by decide) (fun c19 => ?_) (fun c19 => ?_)
      · replace hf := ifT c19 hf
        refine lv_iload_n hx hb dX11_usageOf_42 rfl (lv_at hl 2 rfl) ?_
        obtain ⟨e1, e2⟩ := so2 hf
        subst e1
        subst e2
        exact W.iret (v := v2) hx hb hr (fun t ht hWm => ⟨⟨rfl, by unfold QB; rw [ht]; exact ⟨hW, trivial⟩⟩, hS.F ht⟩) hS.2.2 dX11_usageOf_43 hlk
      · replace hf := ifF c19 hf
        refine lv_iload_n hx hb dX11_usageOf_15 rfl (lv_at hl 2 rfl) ?_
        refine lv_aload_n hx hb dX11_usageOf_16 rfl (lv_at hl 0 rfl) ?_
        refine lv_iload_n hx hb dX11_usageOf_17 rfl (lv_at hl 3 rfl) ?_
        refine lv_iload_n hx hb dX11_usageOf_18 rfl (lv_at hl 1 rfl) ?_
        replace hf := obE hf
        obtain ⟨z20, hz20, hf⟩ := hf
        obtain ⟨r22, S21⟩ := z20
        replace hf := ltE (ltE hf r22 rfl) S21 rfl
        refine x_callV (As := [.int v3, .int v1]) (rest := [.int v2]) (o := (some (.int r22))) (S1 := S21) hC hl.1 hW hS hGs hA tv0 rfl (show vwCl[10]? = some (RX11, TX11, 30) ∧ 10 < 11 from ⟨rfl, by decide⟩) (c_X11_isLive l g ad n K H.size F S0 v0 v3 v1 tv0 r22 S21 hz20) (cwV 2 hts gX11_usageOf_X11_isLive rfl rfl rfl (by decide +kernel) ⟨Nat.le_of_ble_eq_true rfl, Nat.le_of_ble_eq_true rfl⟩) rfl rfl (Nat.le_of_ble_eq_true rfl) dX11_usageOf_19 ⟨Nat.le_of_ble_eq_true rfl, Nat.le_of_ble_eq_true rfl⟩ (fun H locs hPz20 hW hS => ?_)
        refine W.eq (g2 := F0 m 22 ls [.int r22, .int v2]) rfl ?_
        refine lv_if_eq (tgt := 33) hx hb dX11_usageOf_22 (by decide) (fun c24 => ?_) (fun c24 => ?_)
        · replace hf := ifT c24 hf
          refine lv_iconst (v := 0) hx hb dX11_usageOf_33 (by decide) ?_
          exact L34 S21 v0 v1 v3 0 v2 tv0 _ _ _ hf hW hS (lv_sub hl [0, 1, 3] rfl)
        · replace hf := ifF c24 hf
          refine lv_aload_n hx hb dX11_usageOf_25 rfl (lv_at hl 0 rfl) ?_
          refine lv_iload_n hx hb dX11_usageOf_26 rfl (lv_at hl 3 rfl) ?_
          replace hf := obE hf
          obtain ⟨z25, hz25, hf⟩ := hf
          obtain ⟨r27, S26⟩ := z25
          replace hf := ltE (ltE hf r27 rfl) S26 rfl
          refine x_callV (As := [.int v3]) (rest := [.int v2]) (o := (some (.int r27))) (S1 := S26) hC hl.1 hW hS hGs hA tv0 rfl (show vwCl[10]? = some (RX11, TX11, 30) ∧ 10 < 11 from ⟨rfl, by decide⟩) (c_X11_sizeOf l g ad n K H.size F S21 v0 v3 tv0 r27 S26 hz25) (cwV 1 hts gX11_usageOf_X11_sizeOf rfl rfl rfl (by decide +kernel) ⟨Nat.le_of_ble_eq_true rfl, Nat.le_of_ble_eq_true rfl⟩) rfl rfl (Nat.le_of_ble_eq_true rfl) dX11_usageOf_27 ⟨Nat.le_of_ble_eq_true rfl, Nat.le_of_ble_eq_true rfl⟩ (fun H locs hPz25 hW hS => ?_)
          refine W.eq (g2 := F0 m 30 ls [.int r27, .int v2]) rfl ?_
          refine lv_goto (tgt := 34) hx hb dX11_usageOf_30 (by decide) ?_
          exact L34 S26 v0 v1 v3 r27 v2 tv0 _ _ _ hf hW hS (lv_sub hl [0, 1, 3] rfl)
  unfold f_X11_usageOf at hf
  refine lv_iconst (v := 0) hx hb dX11_usageOf_0 (by decide) ?_
  refine lv_istore_n (lv' := [(2, .int 0), (0, .ref (ad p0)), (1, .int p1)]) hx hb dX11_usageOf_1 rfl hl (by decide) rfl (fun ls hl => ?_)
  refine lv_iconst (v := 0) hx hb dX11_usageOf_2 (by decide) ?_
  refine lv_istore_n (lv' := [(3, .int 0), (2, .int 0), (0, .ref (ad p0)), (1, .int p1)]) hx hb dX11_usageOf_3 rfl hl (by decide) rfl (fun ls hl => ?_)
  exact L4 F S0 p0 p1 0 0 tp0 _ _ _ hf hW hS (lv_sub hl [2, 3, 1, 0] rfl)
set_option maxHeartbeats 4000000 in
set_option maxRecDepth 100000 in
theorem c_X11_storePart (l : Launch) (g : GP) (ad : Nat → Nat) (n : Nat) (K : Nat → Nat) (sz F : Nat) (S0 : St) (p0 : Nat) (p1 : Int32) (tp0 : p0 < n ∧ K p0 = 10) (r9 : Int32) (S9 : St) (hf : f_X11_storePart F S0 p0 p1 = some (r9, S9)) : Met l yX11_storePart wsX11_storePart { frames := 1, cells := 0, slots := 0, locals := 21 } (va_Pc [.ref (ad p0), .int p1] (PB g ad n K S0 sz)) (QR (some (.int r9)) (QB g ad n K S9 (dA ad n sz) (True)) (dA ad n sz)) 0 0 (dA ad n sz) := by
  refine Met.ofW (cc := cX11_storePart) (maxL := 4) (ret := (some .int)) (by decide) rfl ?_
  intro p e s m args below meth c s₁ B hml hv
  obtain ⟨rfl, hsz, hW, hK, hGs⟩ := x_start hv
  subst hsz
  have hx := B.exec
  have hb := B.bytes
  have hr := B.returns
  have hts := atoms_spec (ws := wsX11_storePart) B.pre
  have hown : s.vm.findClass RX11 = some m.cls := findClass_of_methodNamed B.named
  have hlk := B.notSynchronized
  have hC : Cx g p s m _ c cX11_storePart RX11 wsX11_storePart 4 := ⟨hx, hb, hml, hown, hts, hK⟩
  have hA : ∀ q : Nat, s.heap.size ≤ q → dA ad n s.heap.size q := fun q h => Or.inr h
  have hS : va_S (dA ad n s.heap.size) s.heap s.heap [] := va_S.rf
  have hl := lv_entry ([.ref (ad p0), .int p1]) (n := 4) (Nat.le_of_ble_eq_true rfl)
  rw [lg_entry_eq]
  generalize (lg_sl ([.ref (ad p0), .int p1]) ++ List.replicate (4 - (lg_sl ([.ref (ad p0), .int p1])).length) Slot.unset).toArray = ls at hl ⊢
  have hl : lv_has ls 4 [(0, .ref (ad p0)), (1, .int p1)] := hl
  have hin11 : ∀ w ∈ wsX110, w ∈ wsX11_storePart := by decide +kernel
  have w_0 := hts (.fieldLink RX11 17 "MailSpoolModel" "net" "[I") (by decide +kernel)
  have w_1 := hts (.fieldLink RX11 25 "MailSpoolModel" "bytes" "[B") (by decide +kernel)
  have w_2 := hts (.fieldLink RX11 32 "MailSpoolModel" "input" "[B") (by decide +kernel)
  have w_3 := hts (.fieldLink RX11 41 "MailSpoolModel" "partStart" "[I") (by decide +kernel)
  have hGE := hGs.2.2.2.2.2.2.1
  have hGM := hGs.2.2.2.2.2.2.2.1
  have L59 : ∀ (fu59 : Nat) (S0 : St) (v0 : Nat) (v1 : Int32) (v2 : Int32) (v3 : Int32) (tv0 : v0 < n ∧ K v0 = 10) (H : Heap) (locs : List Loc) (ls : Array Slot), f_X11_storePart_L59 F fu59 S0 v0 v1 v2 v3 = some (r9, S9) → Wb g ad n K S0 (dA ad n s.heap.size) H → va_S (dA ad n s.heap.size) s.heap H locs → lv_has ls 4 [(0, .ref (ad v0)), (1, .int v1), (2, .int v2), (3, .int v3)] → W p l e (headSpec wsX11_storePart { frames := 1, cells := 0, slots := 0, locals := 21 }).room s m (List.toArray [.ref (ad p0), .int p1]) below meth c H locs 0 0 (MQ below (QR (some (.int r9)) (QB g ad n K S9 (dA ad n s.heap.size) (True)) (dA ad n s.heap.size)) (List.toArray [.ref (ad p0), .int p1]) s 0 0 (dA ad n s.heap.size)) (F0 m 59 ls []) := by
    intro fu59
    induction fu59 with
    | zero =>
      intro S0 v0 v1 v2 v3 tv0 H locs ls hf
      cases hf
    | succ fu59 ih59 =>
      intro S0 v0 v1 v2 v3 tv0 H locs ls hf hW hS hl
      unfold f_X11_storePart_L59 at hf
      refine lv_iload_n hx hb dX11_storePart_59 rfl (lv_at hl 3 rfl) ?_
      refine lv_aload_n hx hb dX11_storePart_60 rfl (lv_at hl 0 rfl) ?_
      refine lv_iload_n hx hb dX11_storePart_61 rfl (lv_at hl 1 rfl) ?_
      replace hf := obE hf
      obtain ⟨z18, hz18, hf⟩ := hf
      obtain ⟨r20, S19⟩ := z18
      replace hf := ltE (ltE hf r20 rfl) S19 rfl
      refine x_callV (As := [.int v1]) (rest := [.int v3]) (o := (some (.int r20))) (S1 := S19) hC hl.1 hW hS hGs hA tv0 rfl (show vwCl[10]? = some (RX11, TX11, 30) ∧ 10 < 11 from ⟨rfl, by decide⟩) (c_X11_lengthIn l g ad n K H.size F S0 v0 v1 tv0 r20 S19 hz18) (cwV 1 hts gX11_storePart_X11_lengthIn rfl rfl rfl (by decide +kernel) ⟨Nat.le_of_ble_eq_true rfl, Nat.le_of_ble_eq_true rfl⟩) rfl rfl (Nat.le_of_ble_eq_true rfl) dX11_storePart_62 ⟨Nat.le_of_ble_eq_true rfl, Nat.le_of_ble_eq_true rfl⟩ (fun H locs hPz18 hW hS => ?_)
      refine W.eq (g2 := F0 m 65 ls [.int r20, .int v3]) rfl ?_
      refine lv_icmp_ge (tgt := 99) hx hb dX11_storePart_65 (by decide) (fun c22 => ?_) (fun c22 => ?_)
      · replace hf := ifT c22 hf
        refine lv_aload_n hx hb dX11_storePart_99 rfl (lv_at hl 0 rfl) ?_
        replace hf := obE hf
        obtain ⟨j23, qj23, hf⟩ := hf
        have tj23 := x_rt hW qj23 12 ⟨by decide, rfl⟩
        refine x_getr 1001 (ci := 10) (C := RX11) (T := TX11) (N := 30) 1 hC hin11 hW tv0 rfl rfl ⟨by decide, by decide, rfl, rfl⟩ rfl w_0 dX11_storePart_100 qj23 ?_
        refine lv_bipush (v := 8) hx hb dX11_storePart_103 (by decide) ?_
        refine lv_dup2_11 hx hb dX11_storePart_105 rfl rfl ?_
        replace hf := ckiE hf
        obtain ⟨h24, hf⟩ := hf
        refine x_iald hC hW tj23 rfl rfl h24 dX11_storePart_106 ?_
        refine lv_iconst (v := 1) hx hb dX11_storePart_107 (by decide) ?_
        refine lv_iadd hx hb dX11_storePart_108 ?_
        replace hf := ckiE hf
        obtain ⟨h25, hf⟩ := hf
        refine x_iast hC hW hS tj23 rfl rfl h25 dX11_storePart_109 (fun S26 H locs eS26 hW hS => ?_)
        replace hf := ltE hf S26 eS26
        refine lv_iload_n hx hb dX11_storePart_110 rfl (lv_at hl 2 rfl) ?_
        obtain ⟨e1, e2⟩ := so2 hf
        subst e1
        subst e2
        exact W.iret (v := v2) hx hb hr (fun t ht hWm => ⟨⟨rfl, by unfold QB; rw [ht]; exact ⟨hW, trivial⟩⟩, hS.F ht⟩) hS.2.2 dX11_storePart_111 hlk
      · replace hf := ifF c22 hf
        refine lv_aload_n hx hb dX11_storePart_68 rfl (lv_at hl 0 rfl) ?_
        replace hf := obE hf
        obtain ⟨j27, qj27, hf⟩ := hf
        have tj27 := x_rt hW qj27 11 ⟨by decide, rfl⟩
        refine x_getr 1003 (ci := 10) (C := RX11) (T := TX11) (N := 30) 3 hC hin11 hW tv0 rfl rfl ⟨by decide, by decide, rfl, rfl⟩ rfl w_1 dX11_storePart_69 qj27 ?_
        refine lv_sipush (v := 200) hx hb dX11_storePart_72 (by decide) ?_
        refine lv_iload_n hx hb dX11_storePart_75 rfl (lv_at hl 2 rfl) ?_
        refine lv_imul hx hb dX11_storePart_76 ?_
        refine lv_iload_n hx hb dX11_storePart_77 rfl (lv_at hl 3 rfl) ?_
        refine lv_iadd hx hb dX11_storePart_78 ?_
        refine lv_aload_n hx hb dX11_storePart_79 rfl (lv_at hl 0 rfl) ?_
        replace hf := obE hf
        obtain ⟨j28, qj28, hf⟩ := hf
        have tj28 := x_rt hW qj28 11 ⟨by decide, rfl⟩
        refine x_getr 1006 (ci := 10) (C := RX11) (T := TX11) (N := 30) 6 hC hin11 hW tv0 rfl rfl ⟨by decide, by decide, rfl, rfl⟩ rfl w_2 dX11_storePart_80 qj28 ?_
        refine lv_aload_n hx hb dX11_storePart_83 rfl (lv_at hl 0 rfl) ?_
        replace hf := obE hf
        obtain ⟨j29, qj29, hf⟩ := hf
        have tj29 := x_rt hW qj29 12 ⟨by decide, rfl⟩
        refine x_getr 1017 (ci := 10) (C := RX11) (T := TX11) (N := 30) 17 hC hin11 hW tv0 rfl rfl ⟨by decide, by decide, rfl, rfl⟩ rfl w_3 dX11_storePart_84 qj29 ?_
        refine lv_iload_n hx hb dX11_storePart_87 rfl (lv_at hl 1 rfl) ?_
        replace hf := ckiE hf
        obtain ⟨h30, hf⟩ := hf
        refine x_iald hC hW tj29 rfl rfl h30 dX11_storePart_88 ?_
        refine lv_iload_n hx hb dX11_storePart_89 rfl (lv_at hl 3 rfl) ?_
        refine lv_iadd hx hb dX11_storePart_90 ?_
        replace hf := ckiE hf
        obtain ⟨h31, hf⟩ := hf
        refine x_bald hC hW tj28 rfl rfl h31 dX11_storePart_91 ?_
        replace hf := ckiE hf
        obtain ⟨h32, hf⟩ := hf
        refine x_bast hC hW hS tj27 rfl rfl h32 dX11_storePart_92 (fun S33 H locs eS33 hW hS => ?_)
        replace hf := ltE hf S33 eS33
        obtain ⟨x34, ex34⟩ : ∃ z : Int32, z = v3 + 1 := ⟨_, rfl⟩
        replace hf := ltE hf x34 ex34
        refine lv_iinc (v := x34) (lv' := [(3, .int x34), (0, .ref (ad v0)), (1, .int v1), (2, .int v2)]) hx hb dX11_storePart_93 hl (k := 3) rfl (by rw [ex34]; rfl) (by decide) rfl (fun ls hl => ?_)
        refine lv_goto (tgt := 59) hx hb dX11_storePart_96 (by decide) ?_
        exact ih59 S33 v0 v1 v2 x34 tv0 _ _ _ hf hW hS (lv_sub hl [1, 2, 3, 0] rfl)
  unfold f_X11_storePart at hf
  refine lv_aload_n hx hb dX11_storePart_0 rfl (lv_at hl 0 rfl) ?_
  replace hf := obE hf
  obtain ⟨j35, qj35, hf⟩ := hf
  have tj35 := x_rt hW qj35 12 ⟨by decide, rfl⟩
  refine x_getr 1001 (ci := 10) (C := RX11) (T := TX11) (N := 30) 1 hC hin11 hW tp0 rfl rfl ⟨by decide, by decide, rfl, rfl⟩ rfl w_0 dX11_storePart_1 qj35 ?_
  refine lv_bipush (v := 8) hx hb dX11_storePart_4 (by decide) ?_
  replace hf := ckiE hf
  obtain ⟨h36, hf⟩ := hf
  refine x_iald hC hW tj35 rfl rfl h36 dX11_storePart_6 ?_
  refine lv_topi (fun x37 ex37 => ?_)
  replace hf := ltE hf x37 ex37
  refine lv_istore_n (lv' := [(2, .int x37), (0, .ref (ad p0)), (1, .int p1)]) hx hb dX11_storePart_7 rfl hl (by decide) rfl (fun ls hl => ?_)
  refine lv_aload_n hx hb dX11_storePart_8 rfl (lv_at hl 1 rfl) ?_
  replace hf := obE hf
  obtain ⟨j38, qj38, hf⟩ := hf
  have tj38 := x_rt hW qj38 12 ⟨by decide, rfl⟩
  refine x_getr 1001 (ci := 10) (C := RX11) (T := TX11) (N := 30) 1 hC hin11 hW tp0 rfl rfl ⟨by decide, by decide, rfl, rfl⟩ rfl w_0 dX11_storePart_9 qj38 ?_
  refine lv_sipush (v := 4771) hx hb dX11_storePart_12 (by decide) ?_
  refine lv_iconst (v := 3) hx hb dX11_storePart_15 (by decide) ?_
  refine lv_iload_n hx hb dX11_storePart_16 rfl (lv_at hl 0 rfl) ?_
  refine lv_imul hx hb dX11_storePart_17 ?_
  refine lv_iadd hx hb dX11_storePart_18 ?_
  refine lv_iconst (v := 0) hx hb dX11_storePart_19 (by decide) ?_
  refine lv_iadd hx hb dX11_storePart_20 ?_
  refine lv_aload_n hx hb dX11_storePart_21 rfl (lv_at hl 1 rfl) ?_
  refine lv_iload_n hx hb dX11_storePart_22 rfl (lv_at hl 2 rfl) ?_
  replace hf := obE hf
  obtain ⟨z39, hz39, hf⟩ := hf
  obtain ⟨r41, S40⟩ := z39
  replace hf := ltE (ltE hf r41 rfl) S40 rfl
  refine x_callV (As := [.int p1]) (rest := [.int ((4771 + (3 * x37)) + 0), .ref (ad j38)]) (o := (some (.int r41))) (S1 := S40) hC hl.1 hW hS hGs hA tp0 rfl (show vwCl[10]? = some (RX11, TX11, 30) ∧ 10 < 11 from ⟨rfl, by decide⟩) (c_X11_lengthIn l g ad n K s.heap.size F S0 p0 p1 tp0 r41 S40 hz39) (cwV 1 hts gX11_storePart_X11_lengthIn rfl rfl rfl (by decide +kernel) ⟨Nat.le_of_ble_eq_true rfl, Nat.le_of_ble_eq_true rfl⟩) rfl rfl (Nat.le_of_ble_eq_true rfl) dX11_storePart_23 ⟨Nat.le_of_ble_eq_true rfl, Nat.le_of_ble_eq_true rfl⟩ (fun H locs hPz39 hW hS => ?_)
  refine W.eq (g2 := F0 m 26 ls [.int r41, .int ((4771 + (3 * x37)) + 0), .ref (ad j38)]) rfl ?_
  replace hf := ckiE hf
  obtain ⟨h43, hf⟩ := hf
  refine x_iast hC hW hS tj38 rfl rfl h43 dX11_storePart_26 (fun S44 H locs eS44 hW hS => ?_)
  replace hf := ltE hf S44 eS44
  refine lv_aload_n hx hb dX11_storePart_27 rfl (lv_at hl 1 rfl) ?_
  replace hf := obE hf
  obtain ⟨j45, qj45, hf⟩ := hf
  have tj45 := x_rt hW qj45 12 ⟨by decide, rfl⟩
  refine x_getr 1001 (ci := 10) (C := RX11) (T := TX11) (N := 30) 1 hC hin11 hW tp0 rfl rfl ⟨by decide, by decide, rfl, rfl⟩ rfl w_0 dX11_storePart_28 qj45 ?_
  refine lv_sipush (v := 4771) hx hb dX11_storePart_31 (by decide) ?_
  refine lv_iconst (v := 3) hx hb dX11_storePart_34 (by decide) ?_
  refine lv_iload_n hx hb dX11_storePart_35 rfl (lv_at hl 0 rfl) ?_
  refine lv_imul hx hb dX11_storePart_36 ?_
  refine lv_iadd hx hb dX11_storePart_37 ?_
  refine lv_iconst (v := 1) hx hb dX11_storePart_38 (by decide) ?_
  refine lv_iadd hx hb dX11_storePart_39 ?_
  refine lv_iconst (v := 1) hx hb dX11_storePart_40 (by decide) ?_
  replace hf := ckiE hf
  obtain ⟨h46, hf⟩ := hf
  refine x_iast hC hW hS tj45 rfl rfl h46 dX11_storePart_41 (fun S47 H locs eS47 hW hS => ?_)
  replace hf := ltE hf S47 eS47
  refine lv_aload_n hx hb dX11_storePart_42 rfl (lv_at hl 1 rfl) ?_
  replace hf := obE hf
  obtain ⟨j48, qj48, hf⟩ := hf
  have tj48 := x_rt hW qj48 12 ⟨by decide, rfl⟩
  refine x_getr 1001 (ci := 10) (C := RX11) (T := TX11) (N := 30) 1 hC hin11 hW tp0 rfl rfl ⟨by decide, by decide, rfl, rfl⟩ rfl w_0 dX11_storePart_43 qj48 ?_
  refine lv_sipush (v := 4771) hx hb dX11_storePart_46 (by decide) ?_
  refine lv_iconst (v := 3) hx hb dX11_storePart_49 (by decide) ?_
  refine lv_iload_n hx hb dX11_storePart_50 rfl (lv_at hl 0 rfl) ?_
  refine lv_imul hx hb dX11_storePart_51 ?_
  refine lv_iadd hx hb dX11_storePart_52 ?_
  refine lv_iconst (v := 2) hx hb dX11_storePart_53 (by decide) ?_
  refine lv_iadd hx hb dX11_storePart_54 ?_
  refine lv_iconst (v := -1) hx hb dX11_storePart_55 (by decide) ?_
  replace hf := ckiE hf
  obtain ⟨h49, hf⟩ := hf
  refine x_iast hC hW hS tj48 rfl rfl h49 dX11_storePart_56 (fun S50 H locs eS50 hW hS => ?_)
  replace hf := ltE hf S50 eS50
  refine lv_iconst (v := 0) hx hb dX11_storePart_57 (by decide) ?_
  refine lv_istore_n (lv' := [(3, .int 0), (2, .int x37), (0, .ref (ad p0)), (1, .int p1)]) hx hb dX11_storePart_58 rfl hl (by decide) rfl (fun ls hl => ?_)
  exact L59 F S50 p0 p1 x37 0 tp0 _ _ _ hf hW hS (lv_sub hl [2, 3, 1, 0] rfl)
set_option maxHeartbeats 4000000 in
set_option maxRecDepth 100000 in
theorem c_X11_storeParts (l : Launch) (g : GP) (ad : Nat → Nat) (n : Nat) (K : Nat → Nat) (sz F : Nat) (S0 : St) (p0 : Nat) (p1 : Int32) (tp0 : p0 < n ∧ K p0 = 10) (S9 : St) (hf : f_X11_storeParts F S0 p0 p1 = some S9) : Met l yX11_storeParts wsX11_storeParts { frames := 3, cells := 0, slots := 0, locals := 70 } (va_Pc [.ref (ad p0), .int p1] (PB g ad n K S0 sz)) (QR none (QB g ad n K S9 (dA ad n sz) (True)) (dA ad n sz)) 0 0 (dA ad n sz) := by
  refine Met.ofW (cc := cX11_storeParts) (maxL := 4) (ret := none) (by decide) rfl ?_
  intro p e s m args below meth c s₁ B hml hv
  obtain ⟨rfl, hsz, hW, hK, hGs⟩ := x_start hv
  subst hsz
  have hx := B.exec
  have hb := B.bytes
  have hr := B.returns
  have hts := atoms_spec (ws := wsX11_storeParts) B.pre
  have hown : s.vm.findClass RX11 = some m.cls := findClass_of_methodNamed B.named
  have hlk := B.notSynchronized
  have hC : Cx g p s m _ c cX11_storeParts RX11 wsX11_storeParts 4 := ⟨hx, hb, hml, hown, hts, hK⟩
  have hA : ∀ q : Nat, s.heap.size ≤ q → dA ad n s.heap.size q := fun q h => Or.inr h
  have hS : va_S (dA ad n s.heap.size) s.heap s.heap [] := va_S.rf
  have hl := lv_entry ([.ref (ad p0), .int p1]) (n := 4) (Nat.le_of_ble_eq_true rfl)
  rw [lg_entry_eq]
  generalize (lg_sl ([.ref (ad p0), .int p1]) ++ List.replicate (4 - (lg_sl ([.ref (ad p0), .int p1])).length) Slot.unset).toArray = ls at hl ⊢
  have hl : lv_has ls 4 [(0, .ref (ad p0)), (1, .int p1)] := hl
  have hin11 : ∀ w ∈ wsX110, w ∈ wsX11_storeParts := by decide +kernel
  have w_0 := hts (.fieldLink RX11 17 "MailSpoolModel" "net" "[I") (by decide +kernel)
  have w_1 := hts (.fieldLink RX11 325 "MailSpoolModel" "partsIn" "I") (by decide +kernel)
  have hGE := hGs.2.2.2.2.2.2.1
  have hGM := hGs.2.2.2.2.2.2.2.1
  have L2 : ∀ (fu2 : Nat) (S0 : St) (v0 : Nat) (v1 : Int32) (v2 : Int32) (tv0 : v0 < n ∧ K v0 = 10) (H : Heap) (locs : List Loc) (ls : Array Slot), f_X11_storeParts_L2 F fu2 S0 v0 v1 v2 = some S9 → Wb g ad n K S0 (dA ad n s.heap.size) H → va_S (dA ad n s.heap.size) s.heap H locs → lv_has ls 4 [(0, .ref (ad v0)), (1, .int v1), (2, .int v2)] → W p l e (headSpec wsX11_storeParts { frames := 3, cells := 0, slots := 0, locals := 70 }).room s m (List.toArray [.ref (ad p0), .int p1]) below meth c H locs 0 0 (MQ below (QR none (QB g ad n K S9 (dA ad n s.heap.size) (True)) (dA ad n s.heap.size)) (List.toArray [.ref (ad p0), .int p1]) s 0 0 (dA ad n s.heap.size)) (F0 m 2 ls []) := by
    intro fu2
    induction fu2 with
    | zero =>
      intro S0 v0 v1 v2 tv0 H locs ls hf
      cases hf
    | succ fu2 ih2 =>
      have L60 : ∀ (S0 : St) (v0 : Nat) (v1 : Int32) (v2 : Int32) (v3 : Int32) (tv0 : v0 < n ∧ K v0 = 10) (H : Heap) (locs : List Loc) (ls : Array Slot), f_X11_storeParts_L60 F (fun a0 a1 a2 a3 => f_X11_storeParts_L2 F fu2 a0 a1 a2 a3) S0 v0 v1 v2 v3 = some S9 → Wb g ad n K S0 (dA ad n s.heap.size) H → va_S (dA ad n s.heap.size) s.heap H locs → lv_has ls 4 [(0, .ref (ad v0)), (1, .int v1), (2, .int v2), (3, .int v3)] → W p l e (headSpec wsX11_storeParts { frames := 3, cells := 0, slots := 0, locals := 70 }).room s m (List.toArray [.ref (ad p0), .int p1]) below meth c H locs 0 0 (MQ below (QR none (QB g ad n K S9 (dA ad n s.heap.size) (True)) (dA ad n s.heap.size)) (List.toArray [.ref (ad p0), .int p1]) s 0 0 (dA ad n s.heap.size)) (F0 m 60 ls []) := by
        intro S0 v0 v1 v2 v3 tv0 H locs ls hf hW hS hl
        unfold f_X11_storeParts_L60 at hf
        refine lv_aload_n hx hb dX11_storeParts_60 rfl (lv_at hl 0 rfl) ?_
        replace hf := obE hf
        obtain ⟨j5, qj5, hf⟩ := hf
        have tj5 := x_rt hW qj5 12 ⟨by decide, rfl⟩
        refine x_getr 1001 (ci := 10) (C := RX11) (T := TX11) (N := 30) 1 hC hin11 hW tv0 rfl rfl ⟨by decide, by decide, rfl, rfl⟩ rfl w_0 dX11_storeParts_61 qj5 ?_
        refine lv_sipush (v := 331) hx hb dX11_storeParts_64 (by decide) ?_
        refine lv_bipush (v := 7) hx hb dX11_storeParts_67 (by decide) ?_
        refine lv_iload_n hx hb dX11_storeParts_69 rfl (lv_at hl 1 rfl) ?_
        refine lv_imul hx hb dX11_storeParts_70 ?_
        refine lv_iadd hx hb dX11_storeParts_71 ?_
        refine lv_iconst (v := 3) hx hb dX11_storeParts_72 (by decide) ?_
        refine lv_iadd hx hb dX11_storeParts_73 ?_
        refine lv_iload_n hx hb dX11_storeParts_74 rfl (lv_at hl 2 rfl) ?_
        refine lv_iadd hx hb dX11_storeParts_75 ?_
        refine lv_iload_n hx hb dX11_storeParts_76 rfl (lv_at hl 3 rfl) ?_
        replace hf := ckiE hf
        obtain ⟨h6, hf⟩ := hf
        refine x_iast hC hW hS tj5 rfl rfl h6 dX11_storeParts_77 (fun S7 H locs eS7 hW hS => ?_)
        replace hf := ltE hf S7 eS7
        obtain ⟨x8, ex8⟩ : ∃ z : Int32, z = v2 + 1 := ⟨_, rfl⟩
        replace hf := ltE hf x8 ex8
        refine lv_iinc (v := x8) (lv' := [(2, .int x8), (0, .ref (ad v0)), (1, .int v1), (3, .int v3)]) hx hb dX11_storeParts_78 hl (k := 2) rfl (by rw [ex8]; rfl) (by decide) rfl (fun ls hl => ?_)
        refine lv_goto (tgt := 2) hx hb dX11_storeParts_81 (by decide) ?_
        exact ih2 S7 v0 v1 x8 tv0 _ _ _ hf hW hS (lv_sub hl [1, 2, 0] rfl)
      intro S0 v0 v1 v2 tv0 H locs ls hf hW hS hl
      unfold f_X11_storeParts_L2 at hf
      refine lv_iload_n hx hb dX11_storeParts_2 rfl (lv_at hl 2 rfl) ?_
      refine lv_aload_n hx hb dX11_storeParts_3 rfl (lv_at hl 0 rfl) ?_
      refine x_geti 1018 (ci := 10) (C := RX11) (T := TX11) (N := 30) 18 hC hin11 hW tv0 rfl rfl ⟨by decide, by decide, rfl, rfl⟩ rfl w_1 dX11_storeParts_4 ?_
      refine lv_icmp_ge (tgt := 84) hx hb dX11_storeParts_7 (by decide) (fun c31 => ?_) (fun c31 => ?_)
      · replace hf := ifT c31 hf
        have e1 := Option.some.inj hf
        subst e1
        exact W.vret hx hb hr (fun t ht hWm => ⟨⟨rfl, by unfold QB; rw [ht]; exact ⟨hW, trivial⟩⟩, hS.F ht⟩) hS.2.2 dX11_storeParts_84 hlk
      · replace hf := ifF c31 hf
        refine lv_aload_n hx hb dX11_storeParts_10 rfl (lv_at hl 0 rfl) ?_
        refine lv_iload_n hx hb dX11_storeParts_11 rfl (lv_at hl 2 rfl) ?_
        replace hf := obE hf
        obtain ⟨z32, hz32, hf⟩ := hf
        obtain ⟨r34, S33⟩ := z32
        replace hf := ltE (ltE hf r34 rfl) S33 rfl
        refine x_callV (As := [.int v2]) (rest := []) (o := (some (.int r34))) (S1 := S33) hC hl.1 hW hS hGs hA tv0 rfl (show vwCl[10]? = some (RX11, TX11, 30) ∧ 10 < 11 from ⟨rfl, by decide⟩) (c_X11_storedLike l g ad n K H.size F S0 v0 v2 tv0 r34 S33 hz32) (cwV 1 hts gX11_storeParts_X11_storedLike rfl rfl rfl (by decide +kernel) ⟨Nat.le_of_ble_eq_true rfl, Nat.le_of_ble_eq_true rfl⟩) rfl rfl (Nat.le_of_ble_eq_true rfl) dX11_storeParts_12 ⟨Nat.le_of_ble_eq_true rfl, Nat.le_of_ble_eq_true rfl⟩ (fun H locs hPz32 hW hS => ?_)
        refine W.eq (g2 := F0 m 15 ls [.int r34]) rfl ?_
        refine lv_istore_n (lv' := [(3, .int r34), (0, .ref (ad v0)), (1, .int v1), (2, .int v2)]) hx hb dX11_storeParts_15 rfl hl (by decide) rfl (fun ls hl => ?_)
        refine lv_iload_n hx hb dX11_storeParts_16 rfl (lv_at hl 0 rfl) ?_
        refine lv_iconst (v := -1) hx hb dX11_storeParts_17 (by decide) ?_
        refine lv_icmp_ne (tgt := 30) hx hb dX11_storeParts_18 (by decide) (fun c36 => ?_) (fun c36 => ?_)
        · replace hf := ifT c36 hf
          refine lv_aload_n hx hb dX11_storeParts_30 rfl (lv_at hl 1 rfl) ?_
          refine lv_iload_n hx hb dX11_storeParts_31 rfl (lv_at hl 0 rfl) ?_
          replace hf := obE hf
          obtain ⟨z37, hz37, hf⟩ := hf
          obtain ⟨r39, S38⟩ := z37
          replace hf := ltE (ltE hf r39 rfl) S38 rfl
          refine x_callV (As := [.int r34]) (rest := []) (o := (some (.int r39))) (S1 := S38) hC hl.1 hW hS hGs hA tv0 rfl (show vwCl[10]? = some (RX11, TX11, 30) ∧ 10 < 11 from ⟨rfl, by decide⟩) (c_X11_isDead l g ad n K H.size F S33 v0 r34 tv0 r39 S38 hz37) (cwV 1 hts gX11_storeParts_X11_isDead rfl rfl rfl (by decide +kernel) ⟨Nat.le_of_ble_eq_true rfl, Nat.le_of_ble_eq_true rfl⟩) rfl rfl (Nat.le_of_ble_eq_true rfl) dX11_storeParts_32 ⟨Nat.le_of_ble_eq_true rfl, Nat.le_of_ble_eq_true rfl⟩ (fun H locs hPz37 hW hS => ?_)
          refine W.eq (g2 := F0 m 35 ls [.int r39]) rfl ?_
          refine lv_if_eq (tgt := 60) hx hb dX11_storeParts_35 (by decide) (fun c41 => ?_) (fun c41 => ?_)
          · replace hf := ifT c41 hf
            exact L60 S38 v0 v1 v2 r34 tv0 _ _ _ hf hW hS (lv_sub hl [1, 2, 3, 0] rfl)
          · replace hf := ifF c41 hf
            refine lv_aload_n hx hb dX11_storeParts_38 rfl (lv_at hl 1 rfl) ?_
            replace hf := obE hf
            obtain ⟨j42, qj42, hf⟩ := hf
            have tj42 := x_rt hW qj42 12 ⟨by decide, rfl⟩
            refine x_getr 1001 (ci := 10) (C := RX11) (T := TX11) (N := 30) 1 hC hin11 hW tv0 rfl rfl ⟨by decide, by decide, rfl, rfl⟩ rfl w_0 dX11_storeParts_39 qj42 ?_
            refine lv_sipush (v := 4771) hx hb dX11_storeParts_42 (by decide) ?_
            refine lv_iconst (v := 3) hx hb dX11_storeParts_45 (by decide) ?_
            refine lv_iload_n hx hb dX11_storeParts_46 rfl (lv_at hl 0 rfl) ?_
            refine lv_imul hx hb dX11_storeParts_47 ?_
            refine lv_iadd hx hb dX11_storeParts_48 ?_
            refine lv_iconst (v := 2) hx hb dX11_storeParts_49 (by decide) ?_
            refine lv_iadd hx hb dX11_storeParts_50 ?_
            refine lv_iconst (v := -1) hx hb dX11_storeParts_51 (by decide) ?_
            replace hf := ckiE hf
            obtain ⟨h43, hf⟩ := hf
            refine x_iast hC hW hS tj42 rfl rfl h43 dX11_storeParts_52 (fun S44 H locs eS44 hW hS => ?_)
            replace hf := ltE hf S44 eS44
            refine lv_aload_n hx hb dX11_storeParts_53 rfl (lv_at hl 1 rfl) ?_
            refine lv_bipush (v := 7) hx hb dX11_storeParts_54 (by decide) ?_
            refine lv_iload_n hx hb dX11_storeParts_56 rfl (lv_at hl 0 rfl) ?_
            replace hf := obE hf
            obtain ⟨S46, hz45, hf⟩ := hf
            refine x_callV (As := [.int 7, .int r34]) (rest := []) (o := none) (S1 := S46) hC hl.1 hW hS hGs hA tv0 rfl (show vwCl[10]? = some (RX11, TX11, 30) ∧ 10 < 11 from ⟨rfl, by decide⟩) (c_X11_log l g ad n K H.size F S44 v0 ((7 : Int32)) r34 tv0 S46 hz45) (cwV 2 hts gX11_storeParts_X11_log rfl rfl rfl (by decide +kernel) ⟨Nat.le_of_ble_eq_true rfl, Nat.le_of_ble_eq_true rfl⟩) rfl rfl (Nat.le_of_ble_eq_true rfl) dX11_storeParts_57 ⟨Nat.le_of_ble_eq_true rfl, Nat.le_of_ble_eq_true rfl⟩ (fun H locs hPz45 hW hS => ?_)
            refine W.eq (g2 := F0 m 60 ls []) rfl ?_
            exact L60 S46 v0 v1 v2 r34 tv0 _ _ _ hf hW hS (lv_sub hl [1, 2, 3, 0] rfl)
        · replace hf := ifF (fun q => q c36) hf
          refine lv_aload_n hx hb dX11_storeParts_21 rfl (lv_at hl 1 rfl) ?_
          refine lv_iload_n hx hb dX11_storeParts_22 rfl (lv_at hl 3 rfl) ?_
          replace hf := obE hf
          obtain ⟨z49, hz49, hf⟩ := hf
          obtain ⟨r51, S50⟩ := z49
          replace hf := ltE (ltE hf r51 rfl) S50 rfl
          refine x_callV (As := [.int v2]) (rest := []) (o := (some (.int r51))) (S1 := S50) hC hl.1 hW hS hGs hA tv0 rfl (show vwCl[10]? = some (RX11, TX11, 30) ∧ 10 < 11 from ⟨rfl, by decide⟩) (c_X11_storePart l g ad n K H.size F S33 v0 v2 tv0 r51 S50 hz49) (cwV 1 hts gX11_storeParts_X11_storePart rfl rfl rfl (by decide +kernel) ⟨Nat.le_of_ble_eq_true rfl, Nat.le_of_ble_eq_true rfl⟩) rfl rfl (Nat.le_of_ble_eq_true rfl) dX11_storeParts_23 ⟨Nat.le_of_ble_eq_true rfl, Nat.le_of_ble_eq_true rfl⟩ (fun H locs hPz49 hW hS => ?_)
          refine W.eq (g2 := F0 m 26 ls [.int r51]) rfl ?_
          refine lv_istore_n (lv' := [(3, .int r51), (0, .ref (ad v0)), (1, .int v1), (2, .int v2)]) hx hb dX11_storeParts_26 rfl hl (by decide) rfl (fun ls hl => ?_)
          refine lv_goto (tgt := 60) hx hb dX11_storeParts_27 (by decide) ?_
          exact L60 S50 v0 v1 v2 r51 tv0 _ _ _ hf hW hS (lv_sub hl [1, 2, 3, 0] rfl)
  unfold f_X11_storeParts at hf
  refine lv_iconst (v := 0) hx hb dX11_storeParts_0 (by decide) ?_
  refine lv_istore_n (lv' := [(2, .int 0), (0, .ref (ad p0)), (1, .int p1)]) hx hb dX11_storeParts_1 rfl hl (by decide) rfl (fun ls hl => ?_)
  exact L2 F S0 p0 p1 0 tp0 _ _ _ hf hW hS (lv_sub hl [1, 2, 0] rfl)
set_option maxHeartbeats 4000000 in
set_option maxRecDepth 100000 in
theorem c_X11_everyUser (l : Launch) (g : GP) (ad : Nat → Nat) (n : Nat) (K : Nat → Nat) (sz F : Nat) (S0 : St) (p0 : Nat) (tp0 : p0 < n ∧ K p0 = 10) (r9 : Int32) (S9 : St) (hf : f_X11_everyUser F S0 p0 = some (r9, S9)) : Met l yX11_everyUser wsX11_everyUser { frames := 0, cells := 0, slots := 0, locals := 0 } (va_Pc [.ref (ad p0)] (PB g ad n K S0 sz)) (QR (some (.int r9)) (QB g ad n K S9 (dA ad n sz) (True)) (dA ad n sz)) 0 0 (dA ad n sz) := by
  refine Met.ofW (cc := cX11_everyUser) (maxL := 1) (ret := (some .int)) (by decide) rfl ?_
  intro p e s m args below meth c s₁ B hml hv
  obtain ⟨rfl, hsz, hW, hK, hGs⟩ := x_start hv
  subst hsz
  have hx := B.exec
  have hb := B.bytes
  have hr := B.returns
  have hts := atoms_spec (ws := wsX11_everyUser) B.pre
  have hown : s.vm.findClass RX11 = some m.cls := findClass_of_methodNamed B.named
  have hlk := B.notSynchronized
  have hC : Cx g p s m _ c cX11_everyUser RX11 wsX11_everyUser 1 := ⟨hx, hb, hml, hown, hts, hK⟩
  have hA : ∀ q : Nat, s.heap.size ≤ q → dA ad n s.heap.size q := fun q h => Or.inr h
  have hS : va_S (dA ad n s.heap.size) s.heap s.heap [] := va_S.rf
  have hl := lv_entry ([.ref (ad p0)]) (n := 1) (Nat.le_of_ble_eq_true rfl)
  rw [lg_entry_eq]
  generalize (lg_sl ([.ref (ad p0)]) ++ List.replicate (1 - (lg_sl ([.ref (ad p0)])).length) Slot.unset).toArray = ls at hl ⊢
  have hl : lv_has ls 1 [(0, .ref (ad p0))] := hl
  have hin11 : ∀ w ∈ wsX110, w ∈ wsX11_everyUser := by decide +kernel
  have w_0 := hts (.fieldLink RX11 17 "MailSpoolModel" "net" "[I") (by decide +kernel)
  have hGE := hGs.2.2.2.2.2.2.1
  have hGM := hGs.2.2.2.2.2.2.2.1
  unfold f_X11_everyUser at hf
  refine lv_iconst (v := 1) hx hb dX11_everyUser_0 (by decide) ?_
  refine lv_aload_n hx hb dX11_everyUser_1 rfl (lv_at hl 0 rfl) ?_
  replace hf := obE hf
  obtain ⟨j1, qj1, hf⟩ := hf
  have tj1 := x_rt hW qj1 12 ⟨by decide, rfl⟩
  refine x_getr 1001 (ci := 10) (C := RX11) (T := TX11) (N := 30) 1 hC hin11 hW tp0 rfl rfl ⟨by decide, by decide, rfl, rfl⟩ rfl w_0 dX11_everyUser_2 qj1 ?_
  refine lv_iconst (v := 4) hx hb dX11_everyUser_5 (by decide) ?_
  replace hf := ckiE hf
  obtain ⟨h2, hf⟩ := hf
  refine x_iald hC hW tj1 rfl rfl h2 dX11_everyUser_6 ?_
  refine lv_ishl hx hb dX11_everyUser_7 ?_
  refine lv_iconst (v := 1) hx hb dX11_everyUser_8 (by decide) ?_
  refine lv_isub hx hb dX11_everyUser_9 ?_
  obtain ⟨e1, e2⟩ := so2 hf
  subst e1
  subst e2
  exact W.iret (v := (1 <<< ((ai S0 j1 (Int32.toNatClampNeg 4)) &&& 31)) - 1) hx hb hr (fun t ht hWm => ⟨⟨rfl, by unfold QB; rw [ht]; exact ⟨hW, trivial⟩⟩, hS.F ht⟩) hS.2.2 dX11_everyUser_10 hlk
set_option maxHeartbeats 4000000 in
set_option maxRecDepth 100000 in
theorem c_X11_areUsers (l : Launch) (g : GP) (ad : Nat → Nat) (n : Nat) (K : Nat → Nat) (sz F : Nat) (S0 : St) (p0 : Nat) (p1 : Int32) (tp0 : p0 < n ∧ K p0 = 10) (r9 : Int32) (S9 : St) (hf : f_X11_areUsers F S0 p0 p1 = some (r9, S9)) : Met l yX11_areUsers wsX11_areUsers { frames := 1, cells := 0, slots := 0, locals := 20 } (va_Pc [.ref (ad p0), .int p1] (PB g ad n K S0 sz)) (QR (some (.int r9)) (QB g ad n K S9 (dA ad n sz) (True)) (dA ad n sz)) 0 0 (dA ad n sz) := by
  refine Met.ofW (cc := cX11_areUsers) (maxL := 2) (ret := (some .boolean)) (by decide) rfl ?_
  intro p e s m args below meth c s₁ B hml hv
  obtain ⟨rfl, hsz, hW, hK, hGs⟩ := x_start hv
  subst hsz
  have hx := B.exec
  have hb := B.bytes
  have hr := B.returns
  have hts := atoms_spec (ws := wsX11_areUsers) B.pre
  have hown : s.vm.findClass RX11 = some m.cls := findClass_of_methodNamed B.named
  have hlk := B.notSynchronized
  have hC : Cx g p s m _ c cX11_areUsers RX11 wsX11_areUsers 2 := ⟨hx, hb, hml, hown, hts, hK⟩
  have hA : ∀ q : Nat, s.heap.size ≤ q → dA ad n s.heap.size q := fun q h => Or.inr h
  have hS : va_S (dA ad n s.heap.size) s.heap s.heap [] := va_S.rf
  have hl := lv_entry ([.ref (ad p0), .int p1]) (n := 2) (Nat.le_of_ble_eq_true rfl)
  rw [lg_entry_eq]
  generalize (lg_sl ([.ref (ad p0), .int p1]) ++ List.replicate (2 - (lg_sl ([.ref (ad p0), .int p1])).length) Slot.unset).toArray = ls at hl ⊢
  have hl : lv_has ls 2 [(0, .ref (ad p0)), (1, .int p1)] := hl
  have hGE := hGs.2.2.2.2.2.2.1
  have hGM := hGs.2.2.2.2.2.2.2.1
  unfold f_X11_areUsers at hf
  refine lv_iload_n hx hb dX11_areUsers_0 rfl (lv_at hl 1 rfl) ?_
  refine lv_aload_n hx hb dX11_areUsers_1 rfl (lv_at hl 0 rfl) ?_
  replace hf := obE hf
  obtain ⟨z1, hz1, hf⟩ := hf
  obtain ⟨r3, S2⟩ := z1
  replace hf := ltE (ltE hf r3 rfl) S2 rfl
  refine x_callV (As := []) (rest := [.int p1]) (o := (some (.int r3))) (S1 := S2) hC hl.1 hW hS hGs hA tp0 rfl (show vwCl[10]? = some (RX11, TX11, 30) ∧ 10 < 11 from ⟨rfl, by decide⟩) (c_X11_everyUser l g ad n K s.heap.size F S0 p0 tp0 r3 S2 hz1) (cwV 0 hts gX11_areUsers_X11_everyUser rfl rfl rfl (by decide +kernel) ⟨Nat.le_of_ble_eq_true rfl, Nat.le_of_ble_eq_true rfl⟩) rfl rfl (Nat.le_of_ble_eq_true rfl) dX11_areUsers_2 ⟨Nat.le_of_ble_eq_true rfl, Nat.le_of_ble_eq_true rfl⟩ (fun H locs hPz1 hW hS => ?_)
  refine W.eq (g2 := F0 m 5 ls [.int r3, .int p1]) rfl ?_
  refine lv_iconst (v := -1) hx hb dX11_areUsers_5 (by decide) ?_
  refine lv_ixor hx hb dX11_areUsers_6 ?_
  refine lv_iand hx hb dX11_areUsers_7 ?_
  refine lv_if_ne (tgt := 15) hx hb dX11_areUsers_8 (by decide) (fun c5 => ?_) (fun c5 => ?_)
  · replace hf := ifT c5 hf
    refine lv_iconst (v := 0) hx hb dX11_areUsers_15 (by decide) ?_
    obtain ⟨e1, e2⟩ := so2 hf
    subst e1
    subst e2
    exact W.zret (v := 0) hx hb hr rfl (fun t ht hWm => ⟨⟨rfl, by unfold QB; rw [ht]; exact ⟨hW, trivial⟩⟩, hS.F ht⟩) hS.2.2 dX11_areUsers_16 hlk
  · replace hf := ifF (fun q => q c5) hf
    refine lv_iconst (v := 1) hx hb dX11_areUsers_11 (by decide) ?_
    refine lv_goto (tgt := 16) hx hb dX11_areUsers_12 (by decide) ?_
    obtain ⟨e1, e2⟩ := so2 hf
    subst e1
    subst e2
    exact W.zret (v := 1) hx hb hr rfl (fun t ht hWm => ⟨⟨rfl, by unfold QB; rw [ht]; exact ⟨hW, trivial⟩⟩, hS.F ht⟩) hS.2.2 dX11_areUsers_16 hlk
set_option maxHeartbeats 4000000 in
set_option maxRecDepth 100000 in
theorem c_X11_sizeIn (l : Launch) (g : GP) (ad : Nat → Nat) (n : Nat) (K : Nat → Nat) (sz F : Nat) (S0 : St) (p0 : Nat) (tp0 : p0 < n ∧ K p0 = 10) (r9 : Int32) (S9 : St) (hf : f_X11_sizeIn F S0 p0 = some (r9, S9)) : Met l yX11_sizeIn wsX11_sizeIn { frames := 1, cells := 0, slots := 0, locals := 21 } (va_Pc [.ref (ad p0)] (PB g ad n K S0 sz)) (QR (some (.int r9)) (QB g ad n K S9 (dA ad n sz) (True)) (dA ad n sz)) 0 0 (dA ad n sz) := by
  refine Met.ofW (cc := cX11_sizeIn) (maxL := 3) (ret := (some .int)) (by decide) rfl ?_
  intro p e s m args below meth c s₁ B hml hv
  obtain ⟨rfl, hsz, hW, hK, hGs⟩ := x_start hv
  subst hsz
  have hx := B.exec
  have hb := B.bytes
  have hr := B.returns
  have hts := atoms_spec (ws := wsX11_sizeIn) B.pre
  have hown : s.vm.findClass RX11 = some m.cls := findClass_of_methodNamed B.named
  have hlk := B.notSynchronized
  have hC : Cx g p s m _ c cX11_sizeIn RX11 wsX11_sizeIn 3 := ⟨hx, hb, hml, hown, hts, hK⟩
  have hA : ∀ q : Nat, s.heap.size ≤ q → dA ad n s.heap.size q := fun q h => Or.inr h
  have hS : va_S (dA ad n s.heap.size) s.heap s.heap [] := va_S.rf
  have hl := lv_entry ([.ref (ad p0)]) (n := 3) (Nat.le_of_ble_eq_true rfl)
  rw [lg_entry_eq]
  generalize (lg_sl ([.ref (ad p0)]) ++ List.replicate (3 - (lg_sl ([.ref (ad p0)])).length) Slot.unset).toArray = ls at hl ⊢
  have hl : lv_has ls 3 [(0, .ref (ad p0))] := hl
  have hin11 : ∀ w ∈ wsX110, w ∈ wsX11_sizeIn := by decide +kernel
  have w_0 := hts (.fieldLink RX11 325 "MailSpoolModel" "partsIn" "I") (by decide +kernel)
  have hGE := hGs.2.2.2.2.2.2.1
  have hGM := hGs.2.2.2.2.2.2.2.1
  have L4 : ∀ (fu4 : Nat) (S0 : St) (v0 : Nat) (v1 : Int32) (v2 : Int32) (tv0 : v0 < n ∧ K v0 = 10) (H : Heap) (locs : List Loc) (ls : Array Slot), f_X11_sizeIn_L4 F fu4 S0 v0 v1 v2 = some (r9, S9) → Wb g ad n K S0 (dA ad n s.heap.size) H → va_S (dA ad n s.heap.size) s.heap H locs → lv_has ls 3 [(0, .ref (ad v0)), (1, .int v1), (2, .int v2)] → W p l e (headSpec wsX11_sizeIn { frames := 1, cells := 0, slots := 0, locals := 21 }).room s m (List.toArray [.ref (ad p0)]) below meth c H locs 0 0 (MQ below (QR (some (.int r9)) (QB g ad n K S9 (dA ad n s.heap.size) (True)) (dA ad n s.heap.size)) (List.toArray [.ref (ad p0)]) s 0 0 (dA ad n s.heap.size)) (F0 m 4 ls []) := by
    intro fu4
    induction fu4 with
    | zero =>
      intro S0 v0 v1 v2 tv0 H locs ls hf
      cases hf
    | succ fu4 ih4 =>
      intro S0 v0 v1 v2 tv0 H locs ls hf hW hS hl
      unfold f_X11_sizeIn_L4 at hf
      refine lv_iload_n hx hb dX11_sizeIn_4 rfl (lv_at hl 2 rfl) ?_
      refine lv_aload_n hx hb dX11_sizeIn_5 rfl (lv_at hl 0 rfl) ?_
      refine x_geti 1018 (ci := 10) (C := RX11) (T := TX11) (N := 30) 18 hC hin11 hW tv0 rfl rfl ⟨by decide, by decide, rfl, rfl⟩ rfl w_0 dX11_sizeIn_6 ?_
      refine lv_icmp_ge (tgt := 26) hx hb dX11_sizeIn_9 (by decide) (fun c8 => ?_) (fun c8 => ?_)
      · replace hf := ifT c8 hf
        refine lv_iload_n hx hb dX11_sizeIn_26 rfl (lv_at hl 1 rfl) ?_
        obtain ⟨e1, e2⟩ := so2 hf
        subst e1
        subst e2
        exact W.iret (v := v1) hx hb hr (fun t ht hWm => ⟨⟨rfl, by unfold QB; rw [ht]; exact ⟨hW, trivial⟩⟩, hS.F ht⟩) hS.2.2 dX11_sizeIn_27 hlk
      · replace hf := ifF c8 hf
        refine lv_iload_n hx hb dX11_sizeIn_12 rfl (lv_at hl 1 rfl) ?_
        refine lv_aload_n hx hb dX11_sizeIn_13 rfl (lv_at hl 0 rfl) ?_
        refine lv_iload_n hx hb dX11_sizeIn_14 rfl (lv_at hl 2 rfl) ?_
        replace hf := obE hf
        obtain ⟨z9, hz9, hf⟩ := hf
        obtain ⟨r11, S10⟩ := z9
        replace hf := ltE (ltE hf r11 rfl) S10 rfl
        refine x_callV (As := [.int v2]) (rest := [.int v1]) (o := (some (.int r11))) (S1 := S10) hC hl.1 hW hS hGs hA tv0 rfl (show vwCl[10]? = some (RX11, TX11, 30) ∧ 10 < 11 from ⟨rfl, by decide⟩) (c_X11_lengthIn l g ad n K H.size F S0 v0 v2 tv0 r11 S10 hz9) (cwV 1 hts gX11_sizeIn_X11_lengthIn rfl rfl rfl (by decide +kernel) ⟨Nat.le_of_ble_eq_true rfl, Nat.le_of_ble_eq_true rfl⟩) rfl rfl (Nat.le_of_ble_eq_true rfl) dX11_sizeIn_15 ⟨Nat.le_of_ble_eq_true rfl, Nat.le_of_ble_eq_true rfl⟩ (fun H locs hPz9 hW hS => ?_)
        refine W.eq (g2 := F0 m 18 ls [.int r11, .int v1]) rfl ?_
        refine lv_iadd hx hb dX11_sizeIn_18 ?_
        refine lv_topi (fun x13 ex13 => ?_)
        replace hf := ltE hf x13 ex13
        refine lv_istore_n (lv' := [(1, .int x13), (0, .ref (ad v0)), (2, .int v2)]) hx hb dX11_sizeIn_19 rfl hl (by decide) rfl (fun ls hl => ?_)
        obtain ⟨x14, ex14⟩ : ∃ z : Int32, z = v2 + 1 := ⟨_, rfl⟩
        replace hf := ltE hf x14 ex14
        refine lv_iinc (v := x14) (lv' := [(2, .int x14), (1, .int x13), (0, .ref (ad v0))]) hx hb dX11_sizeIn_20 hl (k := 2) rfl (by rw [ex14]; rfl) (by decide) rfl (fun ls hl => ?_)
        refine lv_goto (tgt := 4) hx hb dX11_sizeIn_23 (by decide) ?_
        exact ih4 S10 v0 x13 x14 tv0 _ _ _ hf hW hS (lv_sub hl [2, 1, 0] rfl)
  unfold f_X11_sizeIn at hf
  refine lv_iconst (v := 0) hx hb dX11_sizeIn_0 (by decide) ?_
  refine lv_istore_n (lv' := [(1, .int 0), (0, .ref (ad p0))]) hx hb dX11_sizeIn_1 rfl hl (by decide) rfl (fun ls hl => ?_)
  refine lv_iconst (v := 0) hx hb dX11_sizeIn_2 (by decide) ?_
  refine lv_istore_n (lv' := [(2, .int 0), (1, .int 0), (0, .ref (ad p0))]) hx hb dX11_sizeIn_3 rfl hl (by decide) rfl (fun ls hl => ?_)
  exact L4 F S0 p0 0 0 tp0 _ _ _ hf hW hS (lv_sub hl [2, 1, 0] rfl)
set_option maxHeartbeats 4000000 in
set_option maxRecDepth 100000 in
theorem c_X11_storeMessage (l : Launch) (g : GP) (ad : Nat → Nat) (n : Nat) (K : Nat → Nat) (sz F : Nat) (S0 : St) (p0 : Nat) (p1 : Int32) (p2 : Int32) (p3 : Int32) (p4 : Int32) (tp0 : p0 < n ∧ K p0 = 10) (S9 : St) (hf : f_X11_storeMessage F S0 p0 p1 p2 p3 p4 = some S9) : Met l yX11_storeMessage wsX11_storeMessage { frames := 4, cells := 0, slots := 0, locals := 93 } (va_Pc [.ref (ad p0), .int p1, .int p2, .int p3, .int p4] (PB g ad n K S0 sz)) (QR none (QB g ad n K S9 (dA ad n sz) (True)) (dA ad n sz)) 0 0 (dA ad n sz) := by
  refine Met.ofW (cc := cX11_storeMessage) (maxL := 6) (ret := none) (by decide) rfl ?_
  intro p e s m args below meth c s₁ B hml hv
  obtain ⟨rfl, hsz, hW, hK, hGs⟩ := x_start hv
  subst hsz
  have hx := B.exec
  have hb := B.bytes
  have hr := B.returns
  have hts := atoms_spec (ws := wsX11_storeMessage) B.pre
  have hown : s.vm.findClass RX11 = some m.cls := findClass_of_methodNamed B.named
  have hlk := B.notSynchronized
  have hC : Cx g p s m _ c cX11_storeMessage RX11 wsX11_storeMessage 6 := ⟨hx, hb, hml, hown, hts, hK⟩
  have hA : ∀ q : Nat, s.heap.size ≤ q → dA ad n s.heap.size q := fun q h => Or.inr h
  have hS : va_S (dA ad n s.heap.size) s.heap s.heap [] := va_S.rf
  have hl := lv_entry ([.ref (ad p0), .int p1, .int p2, .int p3, .int p4]) (n := 6) (Nat.le_of_ble_eq_true rfl)
  rw [lg_entry_eq]
  generalize (lg_sl ([.ref (ad p0), .int p1, .int p2, .int p3, .int p4]) ++ List.replicate (6 - (lg_sl ([.ref (ad p0), .int p1, .int p2, .int p3, .int p4])).length) Slot.unset).toArray = ls at hl ⊢
  have hl : lv_has ls 6 [(0, .ref (ad p0)), (1, .int p1), (2, .int p2), (3, .int p3), (4, .int p4)] := hl
  have hin11 : ∀ w ∈ wsX110, w ∈ wsX11_storeMessage := by decide +kernel
  have w_0 := hts (.fieldLink RX11 17 "MailSpoolModel" "net" "[I") (by decide +kernel)
  have w_1 := hts (.fieldLink RX11 325 "MailSpoolModel" "partsIn" "I") (by decide +kernel)
  have hGE := hGs.2.2.2.2.2.2.1
  have hGM := hGs.2.2.2.2.2.2.2.1
  have L64 : ∀ (fu64 : Nat) (S0 : St) (v0 : Nat) (v1 : Int32) (v3 : Int32) (v4 : Int32) (v5 : Int32) (tv0 : v0 < n ∧ K v0 = 10) (H : Heap) (locs : List Loc) (ls : Array Slot), f_X11_storeMessage_L64 F fu64 S0 v0 v1 v3 v4 v5 = some S9 → Wb g ad n K S0 (dA ad n s.heap.size) H → va_S (dA ad n s.heap.size) s.heap H locs → lv_has ls 6 [(0, .ref (ad v0)), (1, .int v1), (3, .int v3), (4, .int v4), (5, .int v5)] → W p l e (headSpec wsX11_storeMessage { frames := 4, cells := 0, slots := 0, locals := 93 }).room s m (List.toArray [.ref (ad p0), .int p1, .int p2, .int p3, .int p4]) below meth c H locs 0 0 (MQ below (QR none (QB g ad n K S9 (dA ad n s.heap.size) (True)) (dA ad n s.heap.size)) (List.toArray [.ref (ad p0), .int p1, .int p2, .int p3, .int p4]) s 0 0 (dA ad n s.heap.size)) (F0 m 64 ls []) := by
    intro fu64
    induction fu64 with
    | zero =>
      intro S0 v0 v1 v3 v4 v5 tv0 H locs ls hf
      cases hf
    | succ fu64 ih64 =>
      have L136 : ∀ (S0 : St) (v0 : Nat) (v1 : Int32) (v3 : Int32) (v4 : Int32) (v5 : Int32) (s0 : Int32) (s1 : Int32) (s2 : Nat) (tv0 : v0 < n ∧ K v0 = 10) (ts2 : s2 < n ∧ K s2 = 12) (H : Heap) (locs : List Loc) (ls : Array Slot), f_X11_storeMessage_L136 F (fun a0 a1 a2 a3 a4 a5 => f_X11_storeMessage_L64 F fu64 a0 a1 a2 a3 a4 a5) S0 v0 v1 v3 v4 v5 s0 s1 s2 = some S9 → Wb g ad n K S0 (dA ad n s.heap.size) H → va_S (dA ad n s.heap.size) s.heap H locs → lv_has ls 6 [(0, .ref (ad v0)), (1, .int v1), (3, .int v3), (4, .int v4), (5, .int v5)] → W p l e (headSpec wsX11_storeMessage { frames := 4, cells := 0, slots := 0, locals := 93 }).room s m (List.toArray [.ref (ad p0), .int p1, .int p2, .int p3, .int p4]) below meth c H locs 0 0 (MQ below (QR none (QB g ad n K S9 (dA ad n s.heap.size) (True)) (dA ad n s.heap.size)) (List.toArray [.ref (ad p0), .int p1, .int p2, .int p3, .int p4]) s 0 0 (dA ad n s.heap.size)) (F0 m 136 ls [.int s0, .int s1, .ref (ad s2)]) := by
        intro S0 v0 v1 v3 v4 v5 s0 s1 s2 tv0 ts2 H locs ls hf hW hS hl
        unfold f_X11_storeMessage_L136 at hf
        replace hf := ckiE hf
        obtain ⟨h13, hf⟩ := hf
        refine x_iast hC hW hS ts2 rfl rfl h13 dX11_storeMessage_136 (fun S14 H locs eS14 hW hS => ?_)
        replace hf := ltE hf S14 eS14
        refine lv_aload_n hx hb dX11_storeMessage_137 rfl (lv_at hl 0 rfl) ?_
        replace hf := obE hf
        obtain ⟨j15, qj15, hf⟩ := hf
        have tj15 := x_rt hW qj15 12 ⟨by decide, rfl⟩
        refine x_getr 1001 (ci := 10) (C := RX11) (T := TX11) (N := 30) 1 hC hin11 hW tv0 rfl rfl ⟨by decide, by decide, rfl, rfl⟩ rfl w_0 dX11_storeMessage_138 qj15 ?_
        refine lv_iload_n hx hb dX11_storeMessage_141 rfl (lv_at hl 1 rfl) ?_
        refine lv_iload hx hb dX11_storeMessage_142 (lv_at hl 4 rfl) ?_
        replace hf := obE hf
        obtain ⟨z16, hz16, hf⟩ := hf
        obtain ⟨r18, S17⟩ := z16
        replace hf := ltE (ltE hf r18 rfl) S17 rfl
        refine x_callS (As := [.int v1, .int v5]) (rest := [.ref (ad j15)]) (o := (some (.int r18))) (S1 := S17) hC hl.1 hW hS hGs hA (c_X11_refAt l g ad n K H.size F S14 v1 v5 r18 S17 hz16) (va_cwS 2 hts gX11_storeMessage_X11_refAt rfl rfl rfl (by decide +kernel) ⟨Nat.le_of_ble_eq_true rfl, Nat.le_of_ble_eq_true rfl⟩) rfl rfl (Nat.le_of_ble_eq_true rfl) dX11_storeMessage_144 ⟨Nat.le_of_ble_eq_true rfl, Nat.le_of_ble_eq_true rfl⟩ (fun H locs hPz16 hW hS => ?_)
        refine W.eq (g2 := F0 m 147 ls [.int r18, .ref (ad j15)]) rfl ?_
        refine lv_iconst (v := 2) hx hb dX11_storeMessage_147 (by decide) ?_
        refine lv_iadd hx hb dX11_storeMessage_148 ?_
        refine lv_aload_n hx hb dX11_storeMessage_149 rfl (lv_at hl 0 rfl) ?_
        replace hf := obE hf
        obtain ⟨j20, qj20, hf⟩ := hf
        have tj20 := x_rt hW qj20 12 ⟨by decide, rfl⟩
        refine x_getr 1001 (ci := 10) (C := RX11) (T := TX11) (N := 30) 1 hC hin11 hW tv0 rfl rfl ⟨by decide, by decide, rfl, rfl⟩ rfl w_0 dX11_storeMessage_150 qj20 ?_
        refine lv_iconst (v := 2) hx hb dX11_storeMessage_153 (by decide) ?_
        replace hf := ckiE hf
        obtain ⟨h21, hf⟩ := hf
        refine x_iald hC hW tj20 rfl rfl h21 dX11_storeMessage_154 ?_
        replace hf := ckiE hf
        obtain ⟨h22, hf⟩ := hf
        refine x_iast hC hW hS tj15 rfl rfl h22 dX11_storeMessage_155 (fun S23 H locs eS23 hW hS => ?_)
        replace hf := ltE hf S23 eS23
        obtain ⟨x24, ex24⟩ : ∃ z : Int32, z = v5 + 1 := ⟨_, rfl⟩
        replace hf := ltE hf x24 ex24
        refine lv_iinc (v := x24) (lv' := [(5, .int x24), (0, .ref (ad v0)), (1, .int v1), (3, .int v3), (4, .int v4)]) hx hb dX11_storeMessage_156 hl (k := 4) rfl (by rw [ex24]; rfl) (by decide) rfl (fun ls hl => ?_)
        refine lv_goto (tgt := 64) hx hb dX11_storeMessage_159 (by decide) ?_
        exact ih64 S23 v0 v1 v3 v4 x24 tv0 _ _ _ hf hW hS (lv_sub hl [1, 2, 3, 4, 0] rfl)
      have L97 : ∀ (S0 : St) (v0 : Nat) (v1 : Int32) (v3 : Int32) (v4 : Int32) (v5 : Int32) (s0 : Int32) (s1 : Int32) (s2 : Nat) (tv0 : v0 < n ∧ K v0 = 10) (ts2 : s2 < n ∧ K s2 = 12) (H : Heap) (locs : List Loc) (ls : Array Slot), f_X11_storeMessage_L97 F (fun a0 a1 a2 a3 a4 a5 => f_X11_storeMessage_L64 F fu64 a0 a1 a2 a3 a4 a5) S0 v0 v1 v3 v4 v5 s0 s1 s2 = some S9 → Wb g ad n K S0 (dA ad n s.heap.size) H → va_S (dA ad n s.heap.size) s.heap H locs → lv_has ls 6 [(0, .ref (ad v0)), (1, .int v1), (3, .int v3), (4, .int v4), (5, .int v5)] → W p l e (headSpec wsX11_storeMessage { frames := 4, cells := 0, slots := 0, locals := 93 }).room s m (List.toArray [.ref (ad p0), .int p1, .int p2, .int p3, .int p4]) below meth c H locs 0 0 (MQ below (QR none (QB g ad n K S9 (dA ad n s.heap.size) (True)) (dA ad n s.heap.size)) (List.toArray [.ref (ad p0), .int p1, .int p2, .int p3, .int p4]) s 0 0 (dA ad n s.heap.size)) (F0 m 97 ls [.int s0, .int s1, .ref (ad s2)]) := by
        intro S0 v0 v1 v3 v4 v5 s0 s1 s2 tv0 ts2 H locs ls hf hW hS hl
        unfold f_X11_storeMessage_L97 at hf
        replace hf := ckiE hf
        obtain ⟨h35, hf⟩ := hf
        refine x_iast hC hW hS ts2 rfl rfl h35 dX11_storeMessage_97 (fun S36 H locs eS36 hW hS => ?_)
        replace hf := ltE hf S36 eS36
        refine lv_aload_n hx hb dX11_storeMessage_98 rfl (lv_at hl 0 rfl) ?_
        replace hf := obE hf
        obtain ⟨j37, qj37, hf⟩ := hf
        have tj37 := x_rt hW qj37 12 ⟨by decide, rfl⟩
        refine x_getr 1001 (ci := 10) (C := RX11) (T := TX11) (N := 30) 1 hC hin11 hW tv0 rfl rfl ⟨by decide, by decide, rfl, rfl⟩ rfl w_0 dX11_storeMessage_99 qj37 ?_
        refine lv_iload_n hx hb dX11_storeMessage_102 rfl (lv_at hl 1 rfl) ?_
        refine lv_iload hx hb dX11_storeMessage_103 (lv_at hl 4 rfl) ?_
        replace hf := obE hf
        obtain ⟨z38, hz38, hf⟩ := hf
        obtain ⟨r40, S39⟩ := z38
        replace hf := ltE (ltE hf r40 rfl) S39 rfl
        refine x_callS (As := [.int v1, .int v5]) (rest := [.ref (ad j37)]) (o := (some (.int r40))) (S1 := S39) hC hl.1 hW hS hGs hA (c_X11_refAt l g ad n K H.size F S36 v1 v5 r40 S39 hz38) (va_cwS 2 hts gX11_storeMessage_X11_refAt rfl rfl rfl (by decide +kernel) ⟨Nat.le_of_ble_eq_true rfl, Nat.le_of_ble_eq_true rfl⟩) rfl rfl (Nat.le_of_ble_eq_true rfl) dX11_storeMessage_105 ⟨Nat.le_of_ble_eq_true rfl, Nat.le_of_ble_eq_true rfl⟩ (fun H locs hPz38 hW hS => ?_)
        refine W.eq (g2 := F0 m 108 ls [.int r40, .ref (ad j37)]) rfl ?_
        refine lv_iconst (v := 1) hx hb dX11_storeMessage_108 (by decide) ?_
        refine lv_iadd hx hb dX11_storeMessage_109 ?_
        refine lv_iload hx hb dX11_storeMessage_110 (lv_at hl 3 rfl) ?_
        refine lv_iconst (v := -1) hx hb dX11_storeMessage_112 (by decide) ?_
        refine lv_icmp_ne (tgt := 134) hx hb dX11_storeMessage_113 (by decide) (fun c42 => ?_) (fun c42 => ?_)
        · replace hf := ifT c42 hf
          refine lv_iload hx hb dX11_storeMessage_134 (lv_at hl 3 rfl) ?_
          exact L136 S39 v0 v1 v3 v4 v5 v4 (r40 + 1) j37 tv0 tj37 _ _ _ hf hW hS (lv_sub hl [0, 1, 2, 3, 4] rfl)
        · replace hf := ifF (fun q => q c42) hf
          refine lv_aload_n hx hb dX11_storeMessage_116 rfl (lv_at hl 0 rfl) ?_
          replace hf := obE hf
          obtain ⟨j43, qj43, hf⟩ := hf
          have tj43 := x_rt hW qj43 12 ⟨by decide, rfl⟩
          refine x_getr 1001 (ci := 10) (C := RX11) (T := TX11) (N := 30) 1 hC hin11 hW tv0 rfl rfl ⟨by decide, by decide, rfl, rfl⟩ rfl w_0 dX11_storeMessage_117 qj43 ?_
          refine lv_bipush (v := 83) hx hb dX11_storeMessage_120 (by decide) ?_
          refine lv_bipush (v := 8) hx hb dX11_storeMessage_122 (by decide) ?_
          refine lv_iload hx hb dX11_storeMessage_124 (lv_at hl 4 rfl) ?_
          refine lv_imul hx hb dX11_storeMessage_126 ?_
          refine lv_iadd hx hb dX11_storeMessage_127 ?_
          refine lv_iconst (v := 0) hx hb dX11_storeMessage_128 (by decide) ?_
          refine lv_iadd hx hb dX11_storeMessage_129 ?_
          replace hf := ckiE hf
          obtain ⟨h44, hf⟩ := hf
          refine x_iald hC hW tj43 rfl rfl h44 dX11_storeMessage_130 ?_
          refine lv_goto (tgt := 136) hx hb dX11_storeMessage_131 (by decide) ?_
          exact L136 S39 v0 v1 v3 v4 v5 (ai S39 j43 (Int32.toNatClampNeg ((83 + (8 * v5)) + 0))) (r40 + 1) j37 tv0 tj37 _ _ _ hf hW hS (lv_sub hl [0, 1, 2, 3, 4] rfl)
      intro S0 v0 v1 v3 v4 v5 tv0 H locs ls hf hW hS hl
      unfold f_X11_storeMessage_L64 at hf
      refine lv_iload hx hb dX11_storeMessage_64 (lv_at hl 4 rfl) ?_
      refine lv_bipush (v := 10) hx hb dX11_storeMessage_66 (by decide) ?_
      refine lv_icmp_ge (tgt := 162) hx hb dX11_storeMessage_68 (by decide) (fun c64 => ?_) (fun c64 => ?_)
      · replace hf := ifT c64 hf
        refine lv_aload_n hx hb dX11_storeMessage_162 rfl (lv_at hl 0 rfl) ?_
        replace hf := obE hf
        obtain ⟨j65, qj65, hf⟩ := hf
        have tj65 := x_rt hW qj65 12 ⟨by decide, rfl⟩
        refine x_getr 1001 (ci := 10) (C := RX11) (T := TX11) (N := 30) 1 hC hin11 hW tv0 rfl rfl ⟨by decide, by decide, rfl, rfl⟩ rfl w_0 dX11_storeMessage_163 qj65 ?_
        refine lv_bipush (v := 7) hx hb dX11_storeMessage_166 (by decide) ?_
        refine lv_dup2_11 hx hb dX11_storeMessage_168 rfl rfl ?_
        replace hf := ckiE hf
        obtain ⟨h66, hf⟩ := hf
        refine x_iald hC hW tj65 rfl rfl h66 dX11_storeMessage_169 ?_
        refine lv_iconst (v := 1) hx hb dX11_storeMessage_170 (by decide) ?_
        refine lv_iadd hx hb dX11_storeMessage_171 ?_
        replace hf := ckiE hf
        obtain ⟨h67, hf⟩ := hf
        refine x_iast hC hW hS tj65 rfl rfl h67 dX11_storeMessage_172 (fun S68 H locs eS68 hW hS => ?_)
        replace hf := ltE hf S68 eS68
        refine lv_aload_n hx hb dX11_storeMessage_173 rfl (lv_at hl 0 rfl) ?_
        refine lv_iconst (v := 1) hx hb dX11_storeMessage_174 (by decide) ?_
        refine lv_iload_n hx hb dX11_storeMessage_175 rfl (lv_at hl 1 rfl) ?_
        replace hf := obE hf
        obtain ⟨S70, hz69, hf⟩ := hf
        refine x_callV (As := [.int 1, .int v1]) (rest := []) (o := none) (S1 := S70) hC hl.1 hW hS hGs hA tv0 rfl (show vwCl[10]? = some (RX11, TX11, 30) ∧ 10 < 11 from ⟨rfl, by decide⟩) (c_X11_log l g ad n K H.size F S68 v0 ((1 : Int32)) v1 tv0 S70 hz69) (cwV 2 hts gX11_storeMessage_X11_log rfl rfl rfl (by decide +kernel) ⟨Nat.le_of_ble_eq_true rfl, Nat.le_of_ble_eq_true rfl⟩) rfl rfl (Nat.le_of_ble_eq_true rfl) dX11_storeMessage_176 ⟨Nat.le_of_ble_eq_true rfl, Nat.le_of_ble_eq_true rfl⟩ (fun H locs hPz69 hW hS => ?_)
        refine W.eq (g2 := F0 m 179 ls []) rfl ?_
        have e1 := Option.some.inj hf
        subst e1
        exact W.vret hx hb hr (fun t ht hWm => ⟨⟨rfl, by unfold QB; rw [ht]; exact ⟨hW, trivial⟩⟩, hS.F ht⟩) hS.2.2 dX11_storeMessage_179 hlk
      · replace hf := ifF c64 hf
        refine lv_aload_n hx hb dX11_storeMessage_71 rfl (lv_at hl 0 rfl) ?_
        replace hf := obE hf
        obtain ⟨j73, qj73, hf⟩ := hf
        have tj73 := x_rt hW qj73 12 ⟨by decide, rfl⟩
        refine x_getr 1001 (ci := 10) (C := RX11) (T := TX11) (N := 30) 1 hC hin11 hW tv0 rfl rfl ⟨by decide, by decide, rfl, rfl⟩ rfl w_0 dX11_storeMessage_72 qj73 ?_
        refine lv_iload_n hx hb dX11_storeMessage_75 rfl (lv_at hl 1 rfl) ?_
        refine lv_iload hx hb dX11_storeMessage_76 (lv_at hl 4 rfl) ?_
        replace hf := obE hf
        obtain ⟨z74, hz74, hf⟩ := hf
        obtain ⟨r76, S75⟩ := z74
        replace hf := ltE (ltE hf r76 rfl) S75 rfl
        refine x_callS (As := [.int v1, .int v5]) (rest := [.ref (ad j73)]) (o := (some (.int r76))) (S1 := S75) hC hl.1 hW hS hGs hA (c_X11_refAt l g ad n K H.size F S0 v1 v5 r76 S75 hz74) (va_cwS 2 hts gX11_storeMessage_X11_refAt rfl rfl rfl (by decide +kernel) ⟨Nat.le_of_ble_eq_true rfl, Nat.le_of_ble_eq_true rfl⟩) rfl rfl (Nat.le_of_ble_eq_true rfl) dX11_storeMessage_78 ⟨Nat.le_of_ble_eq_true rfl, Nat.le_of_ble_eq_true rfl⟩ (fun H locs hPz74 hW hS => ?_)
        refine W.eq (g2 := F0 m 81 ls [.int r76, .ref (ad j73)]) rfl ?_
        refine lv_iconst (v := 0) hx hb dX11_storeMessage_81 (by decide) ?_
        refine lv_iadd hx hb dX11_storeMessage_82 ?_
        refine lv_iload_n hx hb dX11_storeMessage_83 rfl (lv_at hl 2 rfl) ?_
        refine lv_iload hx hb dX11_storeMessage_84 (lv_at hl 4 rfl) ?_
        replace hf := obE hf
        obtain ⟨z78, hz78, hf⟩ := hf
        obtain ⟨r80, S79⟩ := z78
        replace hf := ltE (ltE hf r80 rfl) S79 rfl
        refine x_callS (As := [.int v3, .int v5]) (rest := [.int (r76 + 0), .ref (ad j73)]) (o := (some (.int r80))) (S1 := S79) hC hl.1 hW hS hGs hA (c_X11_hasBit l g ad n K H.size F S75 v3 v5 r80 S79 hz78) (va_cwS 2 hts gX11_storeMessage_X11_hasBit rfl rfl rfl (by decide +kernel) ⟨Nat.le_of_ble_eq_true rfl, Nat.le_of_ble_eq_true rfl⟩) rfl rfl (Nat.le_of_ble_eq_true rfl) dX11_storeMessage_86 ⟨Nat.le_of_ble_eq_true rfl, Nat.le_of_ble_eq_true rfl⟩ (fun H locs hPz78 hW hS => ?_)
        refine W.eq (g2 := F0 m 89 ls [.int r80, .int (r76 + 0), .ref (ad j73)]) rfl ?_
        refine lv_if_eq (tgt := 96) hx hb dX11_storeMessage_89 (by decide) (fun c82 => ?_) (fun c82 => ?_)
        · replace hf := ifT c82 hf
          refine lv_iconst (v := -1) hx hb dX11_storeMessage_96 (by decide) ?_
          exact L97 S79 v0 v1 v3 v4 v5 ((-1)) (r76 + 0) j73 tv0 tj73 _ _ _ hf hW hS (lv_sub hl [0, 1, 2, 3, 4] rfl)
        · replace hf := ifF c82 hf
          refine lv_iconst (v := 0) hx hb dX11_storeMessage_92 (by decide) ?_
          refine lv_goto (tgt := 97) hx hb dX11_storeMessage_93 (by decide) ?_
          exact L97 S79 v0 v1 v3 v4 v5 0 (r76 + 0) j73 tv0 tj73 _ _ _ hf hW hS (lv_sub hl [0, 1, 2, 3, 4] rfl)
  unfold f_X11_storeMessage at hf
  refine lv_aload_n hx hb dX11_storeMessage_0 rfl (lv_at hl 0 rfl) ?_
  refine lv_iload_n hx hb dX11_storeMessage_1 rfl (lv_at hl 1 rfl) ?_
  replace hf := obE hf
  obtain ⟨S84, hz83, hf⟩ := hf
  refine x_callV (As := [.int p1]) (rest := []) (o := none) (S1 := S84) hC hl.1 hW hS hGs hA tp0 rfl (show vwCl[10]? = some (RX11, TX11, 30) ∧ 10 < 11 from ⟨rfl, by decide⟩) (c_X11_storeParts l g ad n K s.heap.size F S0 p0 p1 tp0 S84 hz83) (cwV 1 hts gX11_storeMessage_X11_storeParts rfl rfl rfl (by decide +kernel) ⟨Nat.le_of_ble_eq_true rfl, Nat.le_of_ble_eq_true rfl⟩) rfl rfl (Nat.le_of_ble_eq_true rfl) dX11_storeMessage_2 ⟨Nat.le_of_ble_eq_true rfl, Nat.le_of_ble_eq_true rfl⟩ (fun H locs hPz83 hW hS => ?_)
  refine W.eq (g2 := F0 m 5 ls []) rfl ?_
  refine lv_aload_n hx hb dX11_storeMessage_5 rfl (lv_at hl 0 rfl) ?_
  replace hf := obE hf
  obtain ⟨j87, qj87, hf⟩ := hf
  have tj87 := x_rt hW qj87 12 ⟨by decide, rfl⟩
  refine x_getr 1001 (ci := 10) (C := RX11) (T := TX11) (N := 30) 1 hC hin11 hW tp0 rfl rfl ⟨by decide, by decide, rfl, rfl⟩ rfl w_0 dX11_storeMessage_6 qj87 ?_
  refine lv_sipush (v := 331) hx hb dX11_storeMessage_9 (by decide) ?_
  refine lv_bipush (v := 7) hx hb dX11_storeMessage_12 (by decide) ?_
  refine lv_iload_n hx hb dX11_storeMessage_14 rfl (lv_at hl 1 rfl) ?_
  refine lv_imul hx hb dX11_storeMessage_15 ?_
  refine lv_iadd hx hb dX11_storeMessage_16 ?_
  refine lv_iconst (v := 0) hx hb dX11_storeMessage_17 (by decide) ?_
  refine lv_iadd hx hb dX11_storeMessage_18 ?_
  refine lv_iload_n hx hb dX11_storeMessage_19 rfl (lv_at hl 2 rfl) ?_
  replace hf := ckiE hf
  obtain ⟨h88, hf⟩ := hf
  refine x_iast hC hW hS tj87 rfl rfl h88 dX11_storeMessage_20 (fun S89 H locs eS89 hW hS => ?_)
  replace hf := ltE hf S89 eS89
  refine lv_aload_n hx hb dX11_storeMessage_21 rfl (lv_at hl 0 rfl) ?_
  replace hf := obE hf
  obtain ⟨j90, qj90, hf⟩ := hf
  have tj90 := x_rt hW qj90 12 ⟨by decide, rfl⟩
  refine x_getr 1001 (ci := 10) (C := RX11) (T := TX11) (N := 30) 1 hC hin11 hW tp0 rfl rfl ⟨by decide, by decide, rfl, rfl⟩ rfl w_0 dX11_storeMessage_22 qj90 ?_
  refine lv_sipush (v := 331) hx hb dX11_storeMessage_25 (by decide) ?_
  refine lv_bipush (v := 7) hx hb dX11_storeMessage_28 (by decide) ?_
  refine lv_iload_n hx hb dX11_storeMessage_30 rfl (lv_at hl 1 rfl) ?_
  refine lv_imul hx hb dX11_storeMessage_31 ?_
  refine lv_iadd hx hb dX11_storeMessage_32 ?_
  refine lv_iconst (v := 1) hx hb dX11_storeMessage_33 (by decide) ?_
  refine lv_iadd hx hb dX11_storeMessage_34 ?_
  refine lv_aload_n hx hb dX11_storeMessage_35 rfl (lv_at hl 0 rfl) ?_
  replace hf := obE hf
  obtain ⟨j91, qj91, hf⟩ := hf
  have tj91 := x_rt hW qj91 12 ⟨by decide, rfl⟩
  refine x_getr 1001 (ci := 10) (C := RX11) (T := TX11) (N := 30) 1 hC hin11 hW tp0 rfl rfl ⟨by decide, by decide, rfl, rfl⟩ rfl w_0 dX11_storeMessage_36 qj91 ?_
  refine lv_iconst (v := 2) hx hb dX11_storeMessage_39 (by decide) ?_
  replace hf := ckiE hf
  obtain ⟨h92, hf⟩ := hf
  refine x_iald hC hW tj91 rfl rfl h92 dX11_storeMessage_40 ?_
  replace hf := ckiE hf
  obtain ⟨h93, hf⟩ := hf
  refine x_iast hC hW hS tj90 rfl rfl h93 dX11_storeMessage_41 (fun S94 H locs eS94 hW hS => ?_)
  replace hf := ltE hf S94 eS94
  refine lv_aload_n hx hb dX11_storeMessage_42 rfl (lv_at hl 0 rfl) ?_
  replace hf := obE hf
  obtain ⟨j95, qj95, hf⟩ := hf
  have tj95 := x_rt hW qj95 12 ⟨by decide, rfl⟩
  refine x_getr 1001 (ci := 10) (C := RX11) (T := TX11) (N := 30) 1 hC hin11 hW tp0 rfl rfl ⟨by decide, by decide, rfl, rfl⟩ rfl w_0 dX11_storeMessage_43 qj95 ?_
  refine lv_sipush (v := 331) hx hb dX11_storeMessage_46 (by decide) ?_
  refine lv_bipush (v := 7) hx hb dX11_storeMessage_49 (by decide) ?_
  refine lv_iload_n hx hb dX11_storeMessage_51 rfl (lv_at hl 1 rfl) ?_
  refine lv_imul hx hb dX11_storeMessage_52 ?_
  refine lv_iadd hx hb dX11_storeMessage_53 ?_
  refine lv_iconst (v := 2) hx hb dX11_storeMessage_54 (by decide) ?_
  refine lv_iadd hx hb dX11_storeMessage_55 ?_
  refine lv_aload_n hx hb dX11_storeMessage_56 rfl (lv_at hl 0 rfl) ?_
  refine x_geti 1018 (ci := 10) (C := RX11) (T := TX11) (N := 30) 18 hC hin11 hW tp0 rfl rfl ⟨by decide, by decide, rfl, rfl⟩ rfl w_1 dX11_storeMessage_57 ?_
  replace hf := ckiE hf
  obtain ⟨h96, hf⟩ := hf
  refine x_iast hC hW hS tj95 rfl rfl h96 dX11_storeMessage_60 (fun S97 H locs eS97 hW hS => ?_)
  replace hf := ltE hf S97 eS97
  refine lv_iconst (v := 0) hx hb dX11_storeMessage_61 (by decide) ?_
  refine lv_istore (lv' := [(5, .int 0), (0, .ref (ad p0)), (1, .int p1), (2, .int p2), (3, .int p3), (4, .int p4)]) hx hb dX11_storeMessage_62 hl (by decide) rfl (fun ls hl => ?_)
  exact L64 F S97 p0 p1 p3 p4 0 tp0 _ _ _ hf hW hS (lv_sub hl [1, 2, 4, 5, 0] rfl)
set_option maxHeartbeats 4000000 in
set_option maxRecDepth 100000 in
theorem c_X11_deliver (l : Launch) (g : GP) (ad : Nat → Nat) (n : Nat) (K : Nat → Nat) (sz F : Nat) (S0 : St) (p0 : Nat) (p1 : Int32) (p2 : Int32) (p3 : Int32) (tp0 : p0 < n ∧ K p0 = 10) (r9 : Int32) (S9 : St) (hf : f_X11_deliver F S0 p0 p1 p2 p3 = some (r9, S9)) : Met l yX11_deliver wsX11_deliver { frames := 5, cells := 0, slots := 0, locals := 118 } (va_Pc [.ref (ad p0), .int p1, .int p2, .int p3] (PB g ad n K S0 sz)) (QR (some (.int r9)) (QB g ad n K S9 (dA ad n sz) (True)) (dA ad n sz)) 0 0 (dA ad n sz) := by
  refine Met.ofW (cc := cX11_deliver) (maxL := 9) (ret := (some .int)) (by decide) rfl ?_
  intro p e s m args below meth c s₁ B hml hv
  obtain ⟨rfl, hsz, hW, hK, hGs⟩ := x_start hv
  subst hsz
  have hx := B.exec
  have hb := B.bytes
  have hr := B.returns
  have hts := atoms_spec (ws := wsX11_deliver) B.pre
  have hown : s.vm.findClass RX11 = some m.cls := findClass_of_methodNamed B.named
  have hlk := B.notSynchronized
  have hC : Cx g p s m _ c cX11_deliver RX11 wsX11_deliver 9 := ⟨hx, hb, hml, hown, hts, hK⟩
  have hA : ∀ q : Nat, s.heap.size ≤ q → dA ad n s.heap.size q := fun q h => Or.inr h
  have hS : va_S (dA ad n s.heap.size) s.heap s.heap [] := va_S.rf
  have hl := lv_entry ([.ref (ad p0), .int p1, .int p2, .int p3]) (n := 9) (Nat.le_of_ble_eq_true rfl)
  rw [lg_entry_eq]
  generalize (lg_sl ([.ref (ad p0), .int p1, .int p2, .int p3]) ++ List.replicate (9 - (lg_sl ([.ref (ad p0), .int p1, .int p2, .int p3])).length) Slot.unset).toArray = ls at hl ⊢
  have hl : lv_has ls 9 [(0, .ref (ad p0)), (1, .int p1), (2, .int p2), (3, .int p3)] := hl
  have hin11 : ∀ w ∈ wsX110, w ∈ wsX11_deliver := by decide +kernel
  have w_0 := hts (.fieldLink RX11 91 "MailSpoolModel" "inputSize" "I") (by decide +kernel)
  have w_1 := hts (.fieldLink RX11 17 "MailSpoolModel" "net" "[I") (by decide +kernel)
  have hGE := hGs.2.2.2.2.2.2.1
  have hGM := hGs.2.2.2.2.2.2.2.1
  have L234 : ∀ (S0 : St) (v0 : Nat) (v8 : Int32) (tv0 : v0 < n ∧ K v0 = 10) (H : Heap) (locs : List Loc) (ls : Array Slot), f_X11_deliver_L234 F S0 v0 v8 = some (r9, S9) → Wb g ad n K S0 (dA ad n s.heap.size) H → va_S (dA ad n s.heap.size) s.heap H locs → lv_has ls 9 [(0, .ref (ad v0)), (8, .int v8)] → W p l e (headSpec wsX11_deliver { frames := 5, cells := 0, slots := 0, locals := 118 }).room s m (List.toArray [.ref (ad p0), .int p1, .int p2, .int p3]) below meth c H locs 0 0 (MQ below (QR (some (.int r9)) (QB g ad n K S9 (dA ad n s.heap.size) (True)) (dA ad n s.heap.size)) (List.toArray [.ref (ad p0), .int p1, .int p2, .int p3]) s 0 0 (dA ad n s.heap.size)) (F0 m 234 ls []) := by
    intro S0 v0 v8 tv0 H locs ls hf hW hS hl
    unfold f_X11_deliver_L234 at hf
    refine lv_aload_n hx hb dX11_deliver_234 rfl (lv_at hl 0 rfl) ?_
    refine lv_iconst (v := 0) hx hb dX11_deliver_235 (by decide) ?_
    refine x_puti 1007 (ci := 10) (C := RX11) (T := TX11) (N := 30) (v := 0) (ty := .int) 7 hC hin11 tyX11_ok nmX11 hW hS tv0 rfl rfl ⟨by decide, by decide, rfl, rfl⟩ rfl w_0 rfl (by decide +kernel) rfl rfl dX11_deliver_236 (fun S2 H locs eS2 hW hS => ?_)
    replace hf := ltE hf S2 eS2
    refine lv_iload hx hb dX11_deliver_239 (lv_at hl 1 rfl) ?_
    obtain ⟨e1, e2⟩ := so2 hf
    subst e1
    subst e2
    exact W.iret (v := v8) hx hb hr (fun t ht hWm => ⟨⟨rfl, by unfold QB; rw [ht]; exact ⟨hW, trivial⟩⟩, hS.F ht⟩) hS.2.2 dX11_deliver_241 hlk
  have L211 : ∀ (S0 : St) (v0 : Nat) (v1 : Int32) (v2 : Int32) (v3 : Int32) (v7 : Int32) (s0 : Int32) (tv0 : v0 < n ∧ K v0 = 10) (H : Heap) (locs : List Loc) (ls : Array Slot), f_X11_deliver_L211 F S0 v0 v1 v2 v3 v7 s0 = some (r9, S9) → Wb g ad n K S0 (dA ad n s.heap.size) H → va_S (dA ad n s.heap.size) s.heap H locs → lv_has ls 9 [(0, .ref (ad v0)), (1, .int v1), (2, .int v2), (3, .int v3), (7, .int v7)] → W p l e (headSpec wsX11_deliver { frames := 5, cells := 0, slots := 0, locals := 118 }).room s m (List.toArray [.ref (ad p0), .int p1, .int p2, .int p3]) below meth c H locs 0 0 (MQ below (QR (some (.int r9)) (QB g ad n K S9 (dA ad n s.heap.size) (True)) (dA ad n s.heap.size)) (List.toArray [.ref (ad p0), .int p1, .int p2, .int p3]) s 0 0 (dA ad n s.heap.size)) (F0 m 211 ls [.int s0]) := by
    intro S0 v0 v1 v2 v3 v7 s0 tv0 H locs ls hf hW hS hl
    unfold f_X11_deliver_L211 at hf
    refine lv_istore (lv' := [(8, .int s0), (0, .ref (ad v0)), (1, .int v1), (2, .int v2), (3, .int v3), (7, .int v7)]) hx hb dX11_deliver_211 hl (by decide) rfl (fun ls hl => ?_)
    refine lv_iload hx hb dX11_deliver_213 (lv_at hl 0 rfl) ?_
    refine lv_bipush (v := -2) hx hb dX11_deliver_215 (by decide) ?_
    refine lv_icmp_eq (tgt := 234) hx hb dX11_deliver_217 (by decide) (fun c8 => ?_) (fun c8 => ?_)
    · replace hf := ifT c8 hf
      exact L234 S0 v0 s0 tv0 _ _ _ hf hW hS (lv_sub hl [1, 0] rfl)
    · replace hf := ifF c8 hf
      refine lv_aload_n hx hb dX11_deliver_220 rfl (lv_at hl 1 rfl) ?_
      refine lv_iload hx hb dX11_deliver_221 (lv_at hl 0 rfl) ?_
      refine lv_iload_n hx hb dX11_deliver_223 rfl (lv_at hl 2 rfl) ?_
      refine lv_iload_n hx hb dX11_deliver_224 rfl (lv_at hl 3 rfl) ?_
      refine lv_iload hx hb dX11_deliver_225 (lv_at hl 5 rfl) ?_
      refine lv_iconst (v := -1) hx hb dX11_deliver_227 (by decide) ?_
      refine lv_ixor hx hb dX11_deliver_228 ?_
      refine lv_iand hx hb dX11_deliver_229 ?_
      refine lv_iload_n hx hb dX11_deliver_230 rfl (lv_at hl 4 rfl) ?_
      replace hf := obE hf
      obtain ⟨S10, hz9, hf⟩ := hf
      refine x_callV (As := [.int s0, .int v1, .int (v2 &&& (v7 ^^^ ((-1)))), .int v3]) (rest := []) (o := none) (S1 := S10) hC hl.1 hW hS hGs hA tv0 rfl (show vwCl[10]? = some (RX11, TX11, 30) ∧ 10 < 11 from ⟨rfl, by decide⟩) (c_X11_storeMessage l g ad n K H.size F S0 v0 s0 v1 (v2 &&& (v7 ^^^ ((-1)))) v3 tv0 S10 hz9) (cwV 4 hts gX11_deliver_X11_storeMessage rfl rfl rfl (by decide +kernel) ⟨Nat.le_of_ble_eq_true rfl, Nat.le_of_ble_eq_true rfl⟩) rfl rfl (Nat.le_of_ble_eq_true rfl) dX11_deliver_231 ⟨Nat.le_of_ble_eq_true rfl, Nat.le_of_ble_eq_true rfl⟩ (fun H locs hPz9 hW hS => ?_)
      refine W.eq (g2 := F0 m 234 ls []) rfl ?_
      exact L234 S10 v0 s0 tv0 _ _ _ hf hW hS (lv_sub hl [1, 0] rfl)
  have L112 : ∀ (fu112 : Nat) (S0 : St) (v0 : Nat) (v1 : Int32) (v2 : Int32) (v3 : Int32) (v6 : Int32) (v7 : Int32) (v8 : Int32) (tv0 : v0 < n ∧ K v0 = 10) (H : Heap) (locs : List Loc) (ls : Array Slot), f_X11_deliver_L112 F fu112 S0 v0 v1 v2 v3 v6 v7 v8 = some (r9, S9) → Wb g ad n K S0 (dA ad n s.heap.size) H → va_S (dA ad n s.heap.size) s.heap H locs → lv_has ls 9 [(0, .ref (ad v0)), (1, .int v1), (2, .int v2), (3, .int v3), (6, .int v6), (7, .int v7), (8, .int v8)] → W p l e (headSpec wsX11_deliver { frames := 5, cells := 0, slots := 0, locals := 118 }).room s m (List.toArray [.ref (ad p0), .int p1, .int p2, .int p3]) below meth c H locs 0 0 (MQ below (QR (some (.int r9)) (QB g ad n K S9 (dA ad n s.heap.size) (True)) (dA ad n s.heap.size)) (List.toArray [.ref (ad p0), .int p1, .int p2, .int p3]) s 0 0 (dA ad n s.heap.size)) (F0 m 112 ls []) := by
    intro fu112
    induction fu112 with
    | zero =>
      intro S0 v0 v1 v2 v3 v6 v7 v8 tv0 H locs ls hf
      cases hf
    | succ fu112 ih112 =>
      have L178 : ∀ (S0 : St) (v0 : Nat) (v1 : Int32) (v2 : Int32) (v3 : Int32) (v6 : Int32) (v7 : Int32) (v8 : Int32) (tv0 : v0 < n ∧ K v0 = 10) (H : Heap) (locs : List Loc) (ls : Array Slot), f_X11_deliver_L178 F (fun a0 a1 a2 a3 a4 a5 a6 a7 => f_X11_deliver_L112 F fu112 a0 a1 a2 a3 a4 a5 a6 a7) S0 v0 v1 v2 v3 v6 v7 v8 = some (r9, S9) → Wb g ad n K S0 (dA ad n s.heap.size) H → va_S (dA ad n s.heap.size) s.heap H locs → lv_has ls 9 [(0, .ref (ad v0)), (1, .int v1), (2, .int v2), (3, .int v3), (6, .int v6), (7, .int v7), (8, .int v8)] → W p l e (headSpec wsX11_deliver { frames := 5, cells := 0, slots := 0, locals := 118 }).room s m (List.toArray [.ref (ad p0), .int p1, .int p2, .int p3]) below meth c H locs 0 0 (MQ below (QR (some (.int r9)) (QB g ad n K S9 (dA ad n s.heap.size) (True)) (dA ad n s.heap.size)) (List.toArray [.ref (ad p0), .int p1, .int p2, .int p3]) s 0 0 (dA ad n s.heap.size)) (F0 m 178 ls []) := by
        intro S0 v0 v1 v2 v3 v6 v7 v8 tv0 H locs ls hf hW hS hl
        unfold f_X11_deliver_L178 at hf
        obtain ⟨x14, ex14⟩ : ∃ z : Int32, z = v8 + 1 := ⟨_, rfl⟩
        replace hf := ltE hf x14 ex14
        refine lv_iinc (v := x14) (lv' := [(8, .int x14), (0, .ref (ad v0)), (1, .int v1), (2, .int v2), (3, .int v3), (6, .int v6), (7, .int v7)]) hx hb dX11_deliver_178 hl (k := 6) rfl (by rw [ex14]; rfl) (by decide) rfl (fun ls hl => ?_)
        refine lv_goto (tgt := 112) hx hb dX11_deliver_181 (by decide) ?_
        exact ih112 S0 v0 v1 v2 v3 v6 v7 x14 tv0 _ _ _ hf hW hS (lv_sub hl [1, 2, 3, 4, 5, 6, 0] rfl)
      intro S0 v0 v1 v2 v3 v6 v7 v8 tv0 H locs ls hf hW hS hl
      unfold f_X11_deliver_L112 at hf
      refine lv_iload hx hb dX11_deliver_112 (lv_at hl 6 rfl) ?_
      refine lv_aload_n hx hb dX11_deliver_114 rfl (lv_at hl 0 rfl) ?_
      replace hf := obE hf
      obtain ⟨j41, qj41, hf⟩ := hf
      have tj41 := x_rt hW qj41 12 ⟨by decide, rfl⟩
      refine x_getr 1001 (ci := 10) (C := RX11) (T := TX11) (N := 30) 1 hC hin11 hW tv0 rfl rfl ⟨by decide, by decide, rfl, rfl⟩ rfl w_1 dX11_deliver_115 qj41 ?_
      refine lv_iconst (v := 4) hx hb dX11_deliver_118 (by decide) ?_
      replace hf := ckiE hf
      obtain ⟨h42, hf⟩ := hf
      refine x_iald hC hW tj41 rfl rfl h42 dX11_deliver_119 ?_
      refine lv_icmp_ge (tgt := 184) hx hb dX11_deliver_120 (by decide) (fun c43 => ?_) (fun c43 => ?_)
      · replace hf := ifT c43 hf
        refine lv_aload_n hx hb dX11_deliver_184 rfl (lv_at hl 0 rfl) ?_
        replace hf := obE hf
        obtain ⟨j44, qj44, hf⟩ := hf
        have tj44 := x_rt hW qj44 12 ⟨by decide, rfl⟩
        refine x_getr 1001 (ci := 10) (C := RX11) (T := TX11) (N := 30) 1 hC hin11 hW tv0 rfl rfl ⟨by decide, by decide, rfl, rfl⟩ rfl w_1 dX11_deliver_185 qj44 ?_
        refine lv_bipush (v := 10) hx hb dX11_deliver_188 (by decide) ?_
        refine lv_iload hx hb dX11_deliver_190 (lv_at hl 5 rfl) ?_
        replace hf := ckiE hf
        obtain ⟨h45, hf⟩ := hf
        refine x_iast hC hW hS tj44 rfl rfl h45 dX11_deliver_192 (fun S46 H locs eS46 hW hS => ?_)
        replace hf := ltE hf S46 eS46
        refine lv_iload hx hb dX11_deliver_193 (lv_at hl 5 rfl) ?_
        refine lv_iload_n hx hb dX11_deliver_195 rfl (lv_at hl 2 rfl) ?_
        refine lv_icmp_ne (tgt := 204) hx hb dX11_deliver_196 (by decide) (fun c47 => ?_) (fun c47 => ?_)
        · replace hf := ifT c47 hf
          refine lv_aload_n hx hb dX11_deliver_204 rfl (lv_at hl 0 rfl) ?_
          replace hf := obE hf
          obtain ⟨j48, qj48, hf⟩ := hf
          have tj48 := x_rt hW qj48 12 ⟨by decide, rfl⟩
          refine x_getr 1001 (ci := 10) (C := RX11) (T := TX11) (N := 30) 1 hC hin11 hW tv0 rfl rfl ⟨by decide, by decide, rfl, rfl⟩ rfl w_1 dX11_deliver_205 qj48 ?_
          refine lv_bipush (v := 7) hx hb dX11_deliver_208 (by decide) ?_
          replace hf := ckiE hf
          obtain ⟨h49, hf⟩ := hf
          refine x_iald hC hW tj48 rfl rfl h49 dX11_deliver_210 ?_
          exact L211 S46 v0 v1 v2 v3 v7 (ai S46 j48 (Int32.toNatClampNeg 7)) tv0 _ _ _ hf hW hS (lv_sub hl [0, 1, 2, 3, 5] rfl)
        · replace hf := ifF (fun q => q c47) hf
          refine lv_bipush (v := -2) hx hb dX11_deliver_199 (by decide) ?_
          refine lv_goto (tgt := 211) hx hb dX11_deliver_201 (by decide) ?_
          exact L211 S46 v0 v1 v2 v3 v7 ((-2)) tv0 _ _ _ hf hW hS (lv_sub hl [0, 1, 2, 3, 5] rfl)
      · replace hf := ifF c43 hf
        refine lv_iload_n hx hb dX11_deliver_123 rfl (lv_at hl 2 rfl) ?_
        refine lv_iload hx hb dX11_deliver_124 (lv_at hl 6 rfl) ?_
        replace hf := obE hf
        obtain ⟨z50, hz50, hf⟩ := hf
        obtain ⟨r52, S51⟩ := z50
        replace hf := ltE (ltE hf r52 rfl) S51 rfl
        refine x_callS (As := [.int v2, .int v8]) (rest := []) (o := (some (.int r52))) (S1 := S51) hC hl.1 hW hS hGs hA (c_X11_hasBit l g ad n K H.size F S0 v2 v8 r52 S51 hz50) (va_cwS 2 hts gX11_deliver_X11_hasBit rfl rfl rfl (by decide +kernel) ⟨Nat.le_of_ble_eq_true rfl, Nat.le_of_ble_eq_true rfl⟩) rfl rfl (Nat.le_of_ble_eq_true rfl) dX11_deliver_126 ⟨Nat.le_of_ble_eq_true rfl, Nat.le_of_ble_eq_true rfl⟩ (fun H locs hPz50 hW hS => ?_)
        refine W.eq (g2 := F0 m 129 ls [.int r52]) rfl ?_
        refine lv_if_eq (tgt := 178) hx hb dX11_deliver_129 (by decide) (fun c54 => ?_) (fun c54 => ?_)
        · replace hf := ifT c54 hf
          exact L178 S51 v0 v1 v2 v3 v6 v7 v8 tv0 _ _ _ hf hW hS (lv_sub hl [0, 1, 2, 3, 4, 5, 6] rfl)
        · replace hf := ifF c54 hf
          refine lv_aload_n hx hb dX11_deliver_132 rfl (lv_at hl 0 rfl) ?_
          refine lv_iload hx hb dX11_deliver_133 (lv_at hl 6 rfl) ?_
          replace hf := obE hf
          obtain ⟨z55, hz55, hf⟩ := hf
          obtain ⟨r57, S56⟩ := z55
          replace hf := ltE (ltE hf r57 rfl) S56 rfl
          refine x_callV (As := [.int v8]) (rest := []) (o := (some (.int r57))) (S1 := S56) hC hl.1 hW hS hGs hA tv0 rfl (show vwCl[10]? = some (RX11, TX11, 30) ∧ 10 < 11 from ⟨rfl, by decide⟩) (c_X11_usageOf l g ad n K H.size F S51 v0 v8 tv0 r57 S56 hz55) (cwV 1 hts gX11_deliver_X11_usageOf rfl rfl rfl (by decide +kernel) ⟨Nat.le_of_ble_eq_true rfl, Nat.le_of_ble_eq_true rfl⟩) rfl rfl (Nat.le_of_ble_eq_true rfl) dX11_deliver_135 ⟨Nat.le_of_ble_eq_true rfl, Nat.le_of_ble_eq_true rfl⟩ (fun H locs hPz55 hW hS => ?_)
          refine W.eq (g2 := F0 m 138 ls [.int r57]) rfl ?_
          refine lv_iload hx hb dX11_deliver_138 (lv_at hl 4 rfl) ?_
          refine lv_iadd hx hb dX11_deliver_140 ?_
          refine lv_aload_n hx hb dX11_deliver_141 rfl (lv_at hl 0 rfl) ?_
          replace hf := obE hf
          obtain ⟨j59, qj59, hf⟩ := hf
          have tj59 := x_rt hW qj59 12 ⟨by decide, rfl⟩
          refine x_getr 1001 (ci := 10) (C := RX11) (T := TX11) (N := 30) 1 hC hin11 hW tv0 rfl rfl ⟨by decide, by decide, rfl, rfl⟩ rfl w_1 dX11_deliver_142 qj59 ?_
          refine lv_bipush (v := 83) hx hb dX11_deliver_145 (by decide) ?_
          refine lv_bipush (v := 8) hx hb dX11_deliver_147 (by decide) ?_
          refine lv_iload hx hb dX11_deliver_149 (lv_at hl 6 rfl) ?_
          refine lv_imul hx hb dX11_deliver_151 ?_
          refine lv_iadd hx hb dX11_deliver_152 ?_
          refine lv_iconst (v := 1) hx hb dX11_deliver_153 (by decide) ?_
          refine lv_iadd hx hb dX11_deliver_154 ?_
          replace hf := ckiE hf
          obtain ⟨h60, hf⟩ := hf
          refine x_iald hC hW tj59 rfl rfl h60 dX11_deliver_155 ?_
          refine lv_icmp_gt (tgt := 162) hx hb dX11_deliver_156 (by decide) (fun c61 => ?_) (fun c61 => ?_)
          · replace hf := ifT c61 hf
            refine lv_iload hx hb dX11_deliver_162 (lv_at hl 5 rfl) ?_
            refine lv_iconst (v := 1) hx hb dX11_deliver_164 (by decide) ?_
            refine lv_iload hx hb dX11_deliver_165 (lv_at hl 6 rfl) ?_
            refine lv_ishl hx hb dX11_deliver_167 ?_
            refine lv_ior hx hb dX11_deliver_168 ?_
            refine lv_topi (fun x62 ex62 => ?_)
            replace hf := ltE hf x62 ex62
            refine lv_istore (lv' := [(7, .int x62), (0, .ref (ad v0)), (1, .int v1), (2, .int v2), (3, .int v3), (6, .int v6), (8, .int v8)]) hx hb dX11_deliver_169 hl (by decide) rfl (fun ls hl => ?_)
            refine lv_aload_n hx hb dX11_deliver_171 rfl (lv_at hl 1 rfl) ?_
            refine lv_iconst (v := 2) hx hb dX11_deliver_172 (by decide) ?_
            refine lv_iload hx hb dX11_deliver_173 (lv_at hl 6 rfl) ?_
            replace hf := obE hf
            obtain ⟨S64, hz63, hf⟩ := hf
            refine x_callV (As := [.int 2, .int v8]) (rest := []) (o := none) (S1 := S64) hC hl.1 hW hS hGs hA tv0 rfl (show vwCl[10]? = some (RX11, TX11, 30) ∧ 10 < 11 from ⟨rfl, by decide⟩) (c_X11_log l g ad n K H.size F S56 v0 ((2 : Int32)) v8 tv0 S64 hz63) (cwV 2 hts gX11_deliver_X11_log rfl rfl rfl (by decide +kernel) ⟨Nat.le_of_ble_eq_true rfl, Nat.le_of_ble_eq_true rfl⟩) rfl rfl (Nat.le_of_ble_eq_true rfl) dX11_deliver_175 ⟨Nat.le_of_ble_eq_true rfl, Nat.le_of_ble_eq_true rfl⟩ (fun H locs hPz63 hW hS => ?_)
            refine W.eq (g2 := F0 m 178 ls []) rfl ?_
            exact L178 S64 v0 v1 v2 v3 v6 x62 v8 tv0 _ _ _ hf hW hS (lv_sub hl [1, 2, 3, 4, 5, 0, 6] rfl)
          · replace hf := ifF c61 hf
            refine lv_goto (tgt := 178) hx hb dX11_deliver_159 (by decide) ?_
            exact L178 S56 v0 v1 v2 v3 v6 v7 v8 tv0 _ _ _ hf hW hS (lv_sub hl [0, 1, 2, 3, 4, 5, 6] rfl)
  have L88 : ∀ (S0 : St) (v0 : Nat) (v1 : Int32) (v2 : Int32) (v3 : Int32) (s0 : Int32) (s1 : Int32) (s2 : Int32) (s3 : Nat) (tv0 : v0 < n ∧ K v0 = 10) (ts3 : s3 < n ∧ K s3 = 10) (H : Heap) (locs : List Loc) (ls : Array Slot), f_X11_deliver_L88 F S0 v0 v1 v2 v3 s0 s1 s2 s3 = some (r9, S9) → Wb g ad n K S0 (dA ad n s.heap.size) H → va_S (dA ad n s.heap.size) s.heap H locs → lv_has ls 9 [(0, .ref (ad v0)), (1, .int v1), (2, .int v2), (3, .int v3)] → W p l e (headSpec wsX11_deliver { frames := 5, cells := 0, slots := 0, locals := 118 }).room s m (List.toArray [.ref (ad p0), .int p1, .int p2, .int p3]) below meth c H locs 0 0 (MQ below (QR (some (.int r9)) (QB g ad n K S9 (dA ad n s.heap.size) (True)) (dA ad n s.heap.size)) (List.toArray [.ref (ad p0), .int p1, .int p2, .int p3]) s 0 0 (dA ad n s.heap.size)) (F0 m 88 ls [.int s0, .int s1, .int s2, .ref (ad s3)]) := by
    intro S0 v0 v1 v2 v3 s0 s1 s2 s3 tv0 ts3 H locs ls hf hW hS hl
    unfold f_X11_deliver_L88 at hf
    replace hf := obE hf
    obtain ⟨z80, hz80, hf⟩ := hf
    obtain ⟨r82, S81⟩ := z80
    replace hf := ltE (ltE hf r82 rfl) S81 rfl
    refine x_callV (As := [.int s2, .int s1, .int s0]) (rest := []) (o := (some (.int r82))) (S1 := S81) hC hl.1 hW hS hGs hA ts3 rfl (show vwCl[10]? = some (RX11, TX11, 30) ∧ 10 < 11 from ⟨rfl, by decide⟩) (c_X11_passes3 l g ad n K H.size F S0 s3 s2 s1 s0 ts3 r82 S81 hz80) (cwV 3 hts gX11_deliver_X11_passes3 rfl rfl rfl (by decide +kernel) ⟨Nat.le_of_ble_eq_true rfl, Nat.le_of_ble_eq_true rfl⟩) rfl rfl (Nat.le_of_ble_eq_true rfl) dX11_deliver_88 ⟨Nat.le_of_ble_eq_true rfl, Nat.le_of_ble_eq_true rfl⟩ (fun H locs hPz80 hW hS => ?_)
    refine W.eq (g2 := F0 m 91 ls [.int r82]) rfl ?_
    refine lv_if_ne (tgt := 96) hx hb dX11_deliver_91 (by decide) (fun c84 => ?_) (fun c84 => ?_)
    · replace hf := ifT c84 hf
      refine lv_aload_n hx hb dX11_deliver_96 rfl (lv_at hl 0 rfl) ?_
      replace hf := obE hf
      obtain ⟨S86, hz85, hf⟩ := hf
      refine x_callV (As := []) (rest := []) (o := none) (S1 := S86) hC hl.1 hW hS hGs hA tv0 rfl (show vwCl[10]? = some (RX11, TX11, 30) ∧ 10 < 11 from ⟨rfl, by decide⟩) (c_X11_remember l g ad n K H.size F S81 v0 tv0 S86 hz85) (cwV 0 hts gX11_deliver_X11_remember rfl rfl rfl (by decide +kernel) ⟨Nat.le_of_ble_eq_true rfl, Nat.le_of_ble_eq_true rfl⟩) rfl rfl (Nat.le_of_ble_eq_true rfl) dX11_deliver_97 ⟨Nat.le_of_ble_eq_true rfl, Nat.le_of_ble_eq_true rfl⟩ (fun H locs hPz85 hW hS => ?_)
      refine W.eq (g2 := F0 m 100 ls []) rfl ?_
      refine lv_aload_n hx hb dX11_deliver_100 rfl (lv_at hl 0 rfl) ?_
      replace hf := obE hf
      obtain ⟨z89, hz89, hf⟩ := hf
      obtain ⟨r91, S90⟩ := z89
      replace hf := ltE (ltE hf r91 rfl) S90 rfl
      refine x_callV (As := []) (rest := []) (o := (some (.int r91))) (S1 := S90) hC hl.1 hW hS hGs hA tv0 rfl (show vwCl[10]? = some (RX11, TX11, 30) ∧ 10 < 11 from ⟨rfl, by decide⟩) (c_X11_sizeIn l g ad n K H.size F S86 v0 tv0 r91 S90 hz89) (cwV 0 hts gX11_deliver_X11_sizeIn rfl rfl rfl (by decide +kernel) ⟨Nat.le_of_ble_eq_true rfl, Nat.le_of_ble_eq_true rfl⟩) rfl rfl (Nat.le_of_ble_eq_true rfl) dX11_deliver_101 ⟨Nat.le_of_ble_eq_true rfl, Nat.le_of_ble_eq_true rfl⟩ (fun H locs hPz89 hW hS => ?_)
      refine W.eq (g2 := F0 m 104 ls [.int r91]) rfl ?_
      refine lv_istore (lv' := [(6, .int r91), (0, .ref (ad v0)), (1, .int v1), (2, .int v2), (3, .int v3)]) hx hb dX11_deliver_104 hl (by decide) rfl (fun ls hl => ?_)
      refine lv_iconst (v := 0) hx hb dX11_deliver_106 (by decide) ?_
      refine lv_istore (lv' := [(7, .int 0), (6, .int r91), (0, .ref (ad v0)), (1, .int v1), (2, .int v2), (3, .int v3)]) hx hb dX11_deliver_107 hl (by decide) rfl (fun ls hl => ?_)
      refine lv_iconst (v := 0) hx hb dX11_deliver_109 (by decide) ?_
      refine lv_istore (lv' := [(8, .int 0), (7, .int 0), (6, .int r91), (0, .ref (ad v0)), (1, .int v1), (2, .int v2), (3, .int v3)]) hx hb dX11_deliver_110 hl (by decide) rfl (fun ls hl => ?_)
      exact L112 F S90 v0 v1 v2 v3 r91 0 0 tv0 _ _ _ hf hW hS (lv_sub hl [3, 4, 5, 6, 2, 1, 0] rfl)
    · replace hf := ifF (fun q => q c84) hf
      refine lv_iconst (v := 0) hx hb dX11_deliver_94 (by decide) ?_
      obtain ⟨e1, e2⟩ := so2 hf
      subst e1
      subst e2
      exact W.iret (v := 0) hx hb hr (fun t ht hWm => ⟨⟨rfl, by unfold QB; rw [ht]; exact ⟨hW, trivial⟩⟩, hS.F ht⟩) hS.2.2 dX11_deliver_95 hlk
  have L87 : ∀ (S0 : St) (v0 : Nat) (v1 : Int32) (v2 : Int32) (v3 : Int32) (s0 : Int32) (s1 : Int32) (s2 : Nat) (tv0 : v0 < n ∧ K v0 = 10) (ts2 : s2 < n ∧ K s2 = 10) (H : Heap) (locs : List Loc) (ls : Array Slot), f_X11_deliver_L87 F S0 v0 v1 v2 v3 s0 s1 s2 = some (r9, S9) → Wb g ad n K S0 (dA ad n s.heap.size) H → va_S (dA ad n s.heap.size) s.heap H locs → lv_has ls 9 [(0, .ref (ad v0)), (1, .int v1), (2, .int v2), (3, .int v3)] → W p l e (headSpec wsX11_deliver { frames := 5, cells := 0, slots := 0, locals := 118 }).room s m (List.toArray [.ref (ad p0), .int p1, .int p2, .int p3]) below meth c H locs 0 0 (MQ below (QR (some (.int r9)) (QB g ad n K S9 (dA ad n s.heap.size) (True)) (dA ad n s.heap.size)) (List.toArray [.ref (ad p0), .int p1, .int p2, .int p3]) s 0 0 (dA ad n s.heap.size)) (F0 m 87 ls [.int s0, .int s1, .ref (ad s2)]) := by
    intro S0 v0 v1 v2 v3 s0 s1 s2 tv0 ts2 H locs ls hf hW hS hl
    unfold f_X11_deliver_L87 at hf
    refine lv_iconst (v := 0) hx hb dX11_deliver_87 (by decide) ?_
    exact L88 S0 v0 v1 v2 v3 0 s0 s1 s2 tv0 ts2 _ _ _ hf hW hS (lv_sub hl [0, 1, 2, 3] rfl)
  have L83 : ∀ (S0 : St) (v0 : Nat) (v1 : Int32) (v2 : Int32) (v3 : Int32) (s0 : Int32) (s1 : Int32) (s2 : Nat) (tv0 : v0 < n ∧ K v0 = 10) (ts2 : s2 < n ∧ K s2 = 10) (H : Heap) (locs : List Loc) (ls : Array Slot), f_X11_deliver_L83 F S0 v0 v1 v2 v3 s0 s1 s2 = some (r9, S9) → Wb g ad n K S0 (dA ad n s.heap.size) H → va_S (dA ad n s.heap.size) s.heap H locs → lv_has ls 9 [(0, .ref (ad v0)), (1, .int v1), (2, .int v2), (3, .int v3)] → W p l e (headSpec wsX11_deliver { frames := 5, cells := 0, slots := 0, locals := 118 }).room s m (List.toArray [.ref (ad p0), .int p1, .int p2, .int p3]) below meth c H locs 0 0 (MQ below (QR (some (.int r9)) (QB g ad n K S9 (dA ad n s.heap.size) (True)) (dA ad n s.heap.size)) (List.toArray [.ref (ad p0), .int p1, .int p2, .int p3]) s 0 0 (dA ad n s.heap.size)) (F0 m 83 ls [.int s0, .int s1, .ref (ad s2)]) := by
    intro S0 v0 v1 v2 v3 s0 s1 s2 tv0 ts2 H locs ls hf hW hS hl
    unfold f_X11_deliver_L83 at hf
    refine lv_iconst (v := 1) hx hb dX11_deliver_83 (by decide) ?_
    refine lv_goto (tgt := 88) hx hb dX11_deliver_84 (by decide) ?_
    exact L88 S0 v0 v1 v2 v3 1 s0 s1 s2 tv0 ts2 _ _ _ hf hW hS (lv_sub hl [0, 1, 2, 3] rfl)
  have L52 : ∀ (S0 : St) (v0 : Nat) (v1 : Int32) (v2 : Int32) (v3 : Int32) (v4 : Int32) (s0 : Int32) (tv0 : v0 < n ∧ K v0 = 10) (H : Heap) (locs : List Loc) (ls : Array Slot), f_X11_deliver_L52 F S0 v0 v1 v2 v3 v4 s0 = some (r9, S9) → Wb g ad n K S0 (dA ad n s.heap.size) H → va_S (dA ad n s.heap.size) s.heap H locs → lv_has ls 9 [(0, .ref (ad v0)), (1, .int v1), (2, .int v2), (3, .int v3), (4, .int v4)] → W p l e (headSpec wsX11_deliver { frames := 5, cells := 0, slots := 0, locals := 118 }).room s m (List.toArray [.ref (ad p0), .int p1, .int p2, .int p3]) below meth c H locs 0 0 (MQ below (QR (some (.int r9)) (QB g ad n K S9 (dA ad n s.heap.size) (True)) (dA ad n s.heap.size)) (List.toArray [.ref (ad p0), .int p1, .int p2, .int p3]) s 0 0 (dA ad n s.heap.size)) (F0 m 52 ls [.int s0]) := by
    intro S0 v0 v1 v2 v3 v4 s0 tv0 H locs ls hf hW hS hl
    unfold f_X11_deliver_L52 at hf
    refine lv_istore (lv' := [(5, .int s0), (0, .ref (ad v0)), (1, .int v1), (2, .int v2), (3, .int v3), (4, .int v4)]) hx hb dX11_deliver_52 hl (by decide) rfl (fun ls hl => ?_)
    refine lv_aload_n hx hb dX11_deliver_54 rfl (lv_at hl 1 rfl) ?_
    refine lv_iload hx hb dX11_deliver_55 (lv_at hl 5 rfl) ?_
    refine lv_iload hx hb dX11_deliver_57 (lv_at hl 0 rfl) ?_
    refine lv_iload hx hb dX11_deliver_59 (lv_at hl 0 rfl) ?_
    refine lv_if_eq (tgt := 83) hx hb dX11_deliver_61 (by decide) (fun c102 => ?_) (fun c102 => ?_)
    · replace hf := ifT c102 hf
      exact L83 S0 v0 v1 v2 v3 s0 v4 v0 tv0 tv0 _ _ _ hf hW hS (lv_sub hl [1, 2, 3, 4] rfl)
    · replace hf := ifF c102 hf
      refine lv_aload_n hx hb dX11_deliver_64 rfl (lv_at hl 1 rfl) ?_
      replace hf := obE hf
      obtain ⟨j103, qj103, hf⟩ := hf
      have tj103 := x_rt hW qj103 12 ⟨by decide, rfl⟩
      refine x_getr 1001 (ci := 10) (C := RX11) (T := TX11) (N := 30) 1 hC hin11 hW tv0 rfl rfl ⟨by decide, by decide, rfl, rfl⟩ rfl w_1 dX11_deliver_65 qj103 ?_
      refine lv_bipush (v := 7) hx hb dX11_deliver_68 (by decide) ?_
      replace hf := ckiE hf
      obtain ⟨h104, hf⟩ := hf
      refine x_iald hC hW tj103 rfl rfl h104 dX11_deliver_70 ?_
      refine lv_bipush (v := 120) hx hb dX11_deliver_71 (by decide) ?_
      refine lv_icmp_ge (tgt := 87) hx hb dX11_deliver_73 (by decide) (fun c105 => ?_) (fun c105 => ?_)
      · replace hf := ifT c105 hf
        exact L87 S0 v0 v1 v2 v3 s0 v4 v0 tv0 tv0 _ _ _ hf hW hS (lv_sub hl [1, 2, 3, 4] rfl)
      · replace hf := ifF c105 hf
        refine lv_aload_n hx hb dX11_deliver_76 rfl (lv_at hl 1 rfl) ?_
        replace hf := obE hf
        obtain ⟨z106, hz106, hf⟩ := hf
        obtain ⟨r108, S107⟩ := z106
        replace hf := ltE (ltE hf r108 rfl) S107 rfl
        refine x_callV (As := []) (rest := [.int s0, .int v4, .ref (ad v0)]) (o := (some (.int r108))) (S1 := S107) hC hl.1 hW hS hGs hA tv0 rfl (show vwCl[10]? = some (RX11, TX11, 30) ∧ 10 < 11 from ⟨rfl, by decide⟩) (c_X11_hasRoom l g ad n K H.size F S0 v0 tv0 r108 S107 hz106) (cwV 0 hts gX11_deliver_X11_hasRoom rfl rfl rfl (by decide +kernel) ⟨Nat.le_of_ble_eq_true rfl, Nat.le_of_ble_eq_true rfl⟩) rfl rfl (Nat.le_of_ble_eq_true rfl) dX11_deliver_77 ⟨Nat.le_of_ble_eq_true rfl, Nat.le_of_ble_eq_true rfl⟩ (fun H locs hPz106 hW hS => ?_)
        refine W.eq (g2 := F0 m 80 ls [.int r108, .int s0, .int v4, .ref (ad v0)]) rfl ?_
        refine lv_if_eq (tgt := 87) hx hb dX11_deliver_80 (by decide) (fun c110 => ?_) (fun c110 => ?_)
        · replace hf := ifT c110 hf
          exact L87 S107 v0 v1 v2 v3 s0 v4 v0 tv0 tv0 _ _ _ hf hW hS (lv_sub hl [1, 2, 3, 4] rfl)
        · replace hf := ifF c110 hf
          exact L83 S107 v0 v1 v2 v3 s0 v4 v0 tv0 tv0 _ _ _ hf hW hS (lv_sub hl [1, 2, 3, 4] rfl)
  have L51 : ∀ (S0 : St) (v0 : Nat) (v1 : Int32) (v2 : Int32) (v3 : Int32) (v4 : Int32) (tv0 : v0 < n ∧ K v0 = 10) (H : Heap) (locs : List Loc) (ls : Array Slot), f_X11_deliver_L51 F S0 v0 v1 v2 v3 v4 = some (r9, S9) → Wb g ad n K S0 (dA ad n s.heap.size) H → va_S (dA ad n s.heap.size) s.heap H locs → lv_has ls 9 [(0, .ref (ad v0)), (1, .int v1), (2, .int v2), (3, .int v3), (4, .int v4)] → W p l e (headSpec wsX11_deliver { frames := 5, cells := 0, slots := 0, locals := 118 }).room s m (List.toArray [.ref (ad p0), .int p1, .int p2, .int p3]) below meth c H locs 0 0 (MQ below (QR (some (.int r9)) (QB g ad n K S9 (dA ad n s.heap.size) (True)) (dA ad n s.heap.size)) (List.toArray [.ref (ad p0), .int p1, .int p2, .int p3]) s 0 0 (dA ad n s.heap.size)) (F0 m 51 ls []) := by
    intro S0 v0 v1 v2 v3 v4 tv0 H locs ls hf hW hS hl
    unfold f_X11_deliver_L51 at hf
    refine lv_iconst (v := 0) hx hb dX11_deliver_51 (by decide) ?_
    exact L52 S0 v0 v1 v2 v3 v4 0 tv0 _ _ _ hf hW hS (lv_sub hl [0, 1, 2, 3, 4] rfl)
  have L34 : ∀ (S0 : St) (v0 : Nat) (v1 : Int32) (v2 : Int32) (v3 : Int32) (s0 : Int32) (tv0 : v0 < n ∧ K v0 = 10) (H : Heap) (locs : List Loc) (ls : Array Slot), f_X11_deliver_L34 F S0 v0 v1 v2 v3 s0 = some (r9, S9) → Wb g ad n K S0 (dA ad n s.heap.size) H → va_S (dA ad n s.heap.size) s.heap H locs → lv_has ls 9 [(0, .ref (ad v0)), (1, .int v1), (2, .int v2), (3, .int v3)] → W p l e (headSpec wsX11_deliver { frames := 5, cells := 0, slots := 0, locals := 118 }).room s m (List.toArray [.ref (ad p0), .int p1, .int p2, .int p3]) below meth c H locs 0 0 (MQ below (QR (some (.int r9)) (QB g ad n K S9 (dA ad n s.heap.size) (True)) (dA ad n s.heap.size)) (List.toArray [.ref (ad p0), .int p1, .int p2, .int p3]) s 0 0 (dA ad n s.heap.size)) (F0 m 34 ls [.int s0]) := by
    intro S0 v0 v1 v2 v3 s0 tv0 H locs ls hf hW hS hl
    unfold f_X11_deliver_L34 at hf
    refine lv_istore (lv' := [(4, .int s0), (0, .ref (ad v0)), (1, .int v1), (2, .int v2), (3, .int v3)]) hx hb dX11_deliver_34 hl (by decide) rfl (fun ls hl => ?_)
    refine lv_iload_n hx hb dX11_deliver_36 rfl (lv_at hl 3 rfl) ?_
    refine lv_if_eq (tgt := 51) hx hb dX11_deliver_37 (by decide) (fun c117 => ?_) (fun c117 => ?_)
    · replace hf := ifT c117 hf
      exact L51 S0 v0 v1 v2 v3 s0 tv0 _ _ _ hf hW hS (lv_sub hl [1, 2, 3, 4, 0] rfl)
    · replace hf := ifF c117 hf
      refine lv_aload_n hx hb dX11_deliver_40 rfl (lv_at hl 1 rfl) ?_
      replace hf := obE hf
      obtain ⟨z118, hz118, hf⟩ := hf
      obtain ⟨r120, S119⟩ := z118
      replace hf := ltE (ltE hf r120 rfl) S119 rfl
      refine x_callV (As := []) (rest := []) (o := (some (.int r120))) (S1 := S119) hC hl.1 hW hS hGs hA tv0 rfl (show vwCl[10]? = some (RX11, TX11, 30) ∧ 10 < 11 from ⟨rfl, by decide⟩) (c_X11_isContent l g ad n K H.size F S0 v0 tv0 r120 S119 hz118) (cwV 0 hts gX11_deliver_X11_isContent rfl rfl rfl (by decide +kernel) ⟨Nat.le_of_ble_eq_true rfl, Nat.le_of_ble_eq_true rfl⟩) rfl rfl (Nat.le_of_ble_eq_true rfl) dX11_deliver_41 ⟨Nat.le_of_ble_eq_true rfl, Nat.le_of_ble_eq_true rfl⟩ (fun H locs hPz118 hW hS => ?_)
      refine W.eq (g2 := F0 m 44 ls [.int r120]) rfl ?_
      refine lv_if_eq (tgt := 51) hx hb dX11_deliver_44 (by decide) (fun c122 => ?_) (fun c122 => ?_)
      · replace hf := ifT c122 hf
        exact L51 S119 v0 v1 v2 v3 s0 tv0 _ _ _ hf hW hS (lv_sub hl [1, 2, 3, 4, 0] rfl)
      · replace hf := ifF c122 hf
        refine lv_iconst (v := 1) hx hb dX11_deliver_47 (by decide) ?_
        refine lv_goto (tgt := 52) hx hb dX11_deliver_48 (by decide) ?_
        exact L52 S119 v0 v1 v2 v3 s0 1 tv0 _ _ _ hf hW hS (lv_sub hl [1, 2, 3, 4, 0] rfl)
  have L33 : ∀ (S0 : St) (v0 : Nat) (v1 : Int32) (v2 : Int32) (v3 : Int32) (tv0 : v0 < n ∧ K v0 = 10) (H : Heap) (locs : List Loc) (ls : Array Slot), f_X11_deliver_L33 F S0 v0 v1 v2 v3 = some (r9, S9) → Wb g ad n K S0 (dA ad n s.heap.size) H → va_S (dA ad n s.heap.size) s.heap H locs → lv_has ls 9 [(0, .ref (ad v0)), (1, .int v1), (2, .int v2), (3, .int v3)] → W p l e (headSpec wsX11_deliver { frames := 5, cells := 0, slots := 0, locals := 118 }).room s m (List.toArray [.ref (ad p0), .int p1, .int p2, .int p3]) below meth c H locs 0 0 (MQ below (QR (some (.int r9)) (QB g ad n K S9 (dA ad n s.heap.size) (True)) (dA ad n s.heap.size)) (List.toArray [.ref (ad p0), .int p1, .int p2, .int p3]) s 0 0 (dA ad n s.heap.size)) (F0 m 33 ls []) := by
    intro S0 v0 v1 v2 v3 tv0 H locs ls hf hW hS hl
    unfold f_X11_deliver_L33 at hf
    refine lv_iconst (v := 0) hx hb dX11_deliver_33 (by decide) ?_
    exact L34 S0 v0 v1 v2 v3 0 tv0 _ _ _ hf hW hS (lv_sub hl [0, 1, 2, 3] rfl)
  have L29 : ∀ (S0 : St) (v0 : Nat) (v1 : Int32) (v2 : Int32) (v3 : Int32) (tv0 : v0 < n ∧ K v0 = 10) (H : Heap) (locs : List Loc) (ls : Array Slot), f_X11_deliver_L29 F S0 v0 v1 v2 v3 = some (r9, S9) → Wb g ad n K S0 (dA ad n s.heap.size) H → va_S (dA ad n s.heap.size) s.heap H locs → lv_has ls 9 [(0, .ref (ad v0)), (1, .int v1), (2, .int v2), (3, .int v3)] → W p l e (headSpec wsX11_deliver { frames := 5, cells := 0, slots := 0, locals := 118 }).room s m (List.toArray [.ref (ad p0), .int p1, .int p2, .int p3]) below meth c H locs 0 0 (MQ below (QR (some (.int r9)) (QB g ad n K S9 (dA ad n s.heap.size) (True)) (dA ad n s.heap.size)) (List.toArray [.ref (ad p0), .int p1, .int p2, .int p3]) s 0 0 (dA ad n s.heap.size)) (F0 m 29 ls []) := by
    intro S0 v0 v1 v2 v3 tv0 H locs ls hf hW hS hl
    unfold f_X11_deliver_L29 at hf
    refine lv_iconst (v := 1) hx hb dX11_deliver_29 (by decide) ?_
    refine lv_goto (tgt := 34) hx hb dX11_deliver_30 (by decide) ?_
    exact L34 S0 v0 v1 v2 v3 1 tv0 _ _ _ hf hW hS (lv_sub hl [0, 1, 2, 3] rfl)
  unfold f_X11_deliver at hf
  refine lv_aload_n hx hb dX11_deliver_0 rfl (lv_at hl 0 rfl) ?_
  refine lv_iload_n hx hb dX11_deliver_1 rfl (lv_at hl 1 rfl) ?_
  replace hf := obE hf
  obtain ⟨z123, hz123, hf⟩ := hf
  obtain ⟨r125, S124⟩ := z123
  replace hf := ltE (ltE hf r125 rfl) S124 rfl
  refine x_callV (As := [.int p1]) (rest := []) (o := (some (.int r125))) (S1 := S124) hC hl.1 hW hS hGs hA tp0 rfl (show vwCl[10]? = some (RX11, TX11, 30) ∧ 10 < 11 from ⟨rfl, by decide⟩) (c_X11_isUser l g ad n K s.heap.size F S0 p0 p1 tp0 r125 S124 hz123) (cwV 1 hts gX11_deliver_X11_isUser rfl rfl rfl (by decide +kernel) ⟨Nat.le_of_ble_eq_true rfl, Nat.le_of_ble_eq_true rfl⟩) rfl rfl (Nat.le_of_ble_eq_true rfl) dX11_deliver_2 ⟨Nat.le_of_ble_eq_true rfl, Nat.le_of_ble_eq_true rfl⟩ (fun H locs hPz123 hW hS => ?_)
  refine W.eq (g2 := F0 m 5 ls [.int r125]) rfl ?_
  refine lv_if_eq (tgt := 33) hx hb dX11_deliver_5 (by decide) (fun c127 => ?_) (fun c127 => ?_)
  · replace hf := ifT c127 hf
    exact L33 S124 p0 p1 p2 p3 tp0 _ _ _ hf hW hS (lv_sub hl [0, 1, 2, 3] rfl)
  · replace hf := ifF c127 hf
    refine lv_aload_n hx hb dX11_deliver_8 rfl (lv_at hl 0 rfl) ?_
    refine lv_iload_n hx hb dX11_deliver_9 rfl (lv_at hl 2 rfl) ?_
    replace hf := obE hf
    obtain ⟨z128, hz128, hf⟩ := hf
    obtain ⟨r130, S129⟩ := z128
    replace hf := ltE (ltE hf r130 rfl) S129 rfl
    refine x_callV (As := [.int p2]) (rest := []) (o := (some (.int r130))) (S1 := S129) hC hl.1 hW hS hGs hA tp0 rfl (show vwCl[10]? = some (RX11, TX11, 30) ∧ 10 < 11 from ⟨rfl, by decide⟩) (c_X11_areUsers l g ad n K H.size F S124 p0 p2 tp0 r130 S129 hz128) (cwV 1 hts gX11_deliver_X11_areUsers rfl rfl rfl (by decide +kernel) ⟨Nat.le_of_ble_eq_true rfl, Nat.le_of_ble_eq_true rfl⟩) rfl rfl (Nat.le_of_ble_eq_true rfl) dX11_deliver_10 ⟨Nat.le_of_ble_eq_true rfl, Nat.le_of_ble_eq_true rfl⟩ (fun H locs hPz128 hW hS => ?_)
    refine W.eq (g2 := F0 m 13 ls [.int r130]) rfl ?_
    refine lv_if_eq (tgt := 33) hx hb dX11_deliver_13 (by decide) (fun c132 => ?_) (fun c132 => ?_)
    · replace hf := ifT c132 hf
      exact L33 S129 p0 p1 p2 p3 tp0 _ _ _ hf hW hS (lv_sub hl [0, 1, 2, 3] rfl)
    · replace hf := ifF c132 hf
      refine lv_iload_n hx hb dX11_deliver_16 rfl (lv_at hl 3 rfl) ?_
      refine lv_iconst (v := -1) hx hb dX11_deliver_17 (by decide) ?_
      refine lv_icmp_eq (tgt := 29) hx hb dX11_deliver_18 (by decide) (fun c133 => ?_) (fun c133 => ?_)
      · replace hf := ifT c133 hf
        exact L29 S129 p0 p1 p2 p3 tp0 _ _ _ hf hW hS (lv_sub hl [0, 1, 2, 3] rfl)
      · replace hf := ifF c133 hf
        refine lv_aload_n hx hb dX11_deliver_21 rfl (lv_at hl 0 rfl) ?_
        refine lv_iload_n hx hb dX11_deliver_22 rfl (lv_at hl 3 rfl) ?_
        replace hf := obE hf
        obtain ⟨z134, hz134, hf⟩ := hf
        obtain ⟨r136, S135⟩ := z134
        replace hf := ltE (ltE hf r136 rfl) S135 rfl
        refine x_callV (As := [.int p3]) (rest := []) (o := (some (.int r136))) (S1 := S135) hC hl.1 hW hS hGs hA tp0 rfl (show vwCl[10]? = some (RX11, TX11, 30) ∧ 10 < 11 from ⟨rfl, by decide⟩) (c_X11_isClass l g ad n K H.size F S129 p0 p3 tp0 r136 S135 hz134) (cwV 1 hts gX11_deliver_X11_isClass rfl rfl rfl (by decide +kernel) ⟨Nat.le_of_ble_eq_true rfl, Nat.le_of_ble_eq_true rfl⟩) rfl rfl (Nat.le_of_ble_eq_true rfl) dX11_deliver_23 ⟨Nat.le_of_ble_eq_true rfl, Nat.le_of_ble_eq_true rfl⟩ (fun H locs hPz134 hW hS => ?_)
        refine W.eq (g2 := F0 m 26 ls [.int r136]) rfl ?_
        refine lv_if_eq (tgt := 33) hx hb dX11_deliver_26 (by decide) (fun c138 => ?_) (fun c138 => ?_)
        · replace hf := ifT c138 hf
          exact L33 S135 p0 p1 p2 p3 tp0 _ _ _ hf hW hS (lv_sub hl [0, 1, 2, 3] rfl)
        · replace hf := ifF c138 hf
          exact L29 S135 p0 p1 p2 p3 tp0 _ _ _ hf hW hS (lv_sub hl [0, 1, 2, 3] rfl)
