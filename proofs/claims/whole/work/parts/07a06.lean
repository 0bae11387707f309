set_option maxHeartbeats 4000000 in
set_option maxRecDepth 100000 in
theorem c_X11_leaveAll (l : Launch) (g : GP) (ad : Nat → Nat) (n : Nat) (K : Nat → Nat) (sz F : Nat) (S0 : St) (p0 : Nat) (tp0 : p0 < n ∧ K p0 = 10) (r9 : Int32) (S9 : St) (hf : f_X11_leaveAll F S0 p0 = some (r9, S9)) : Met l yX11_leaveAll wsX11_leaveAll { frames := 8, cells := 0, slots := 0, locals := 190 } (va_Pc [.ref (ad p0)] (PB g ad n K S0 sz)) (QR (some (.int r9)) (QB g ad n K S9 (dA ad n sz) (True)) (dA ad n sz)) 0 0 (dA ad n sz) := by
  refine Met.ofW (cc := cX11_leaveAll) (maxL := 5) (ret := (some .boolean)) (by decide) rfl ?_
  intro p e s m args below meth c s₁ B hml hv
  obtain ⟨rfl, hsz, hW, hK, hGs⟩ := x_start hv
  subst hsz
  have hx := B.exec
  have hb := B.bytes
  have hr := B.returns
  have hts := atoms_spec (ws := wsX11_leaveAll) B.pre
  have hown : s.vm.findClass RX11 = some m.cls := findClass_of_methodNamed B.named
  have hlk := B.notSynchronized
  have hC : Cx g p s m _ c cX11_leaveAll RX11 wsX11_leaveAll 5 := ⟨hx, hb, hml, hown, hts, hK⟩
  have hA : ∀ q : Nat, s.heap.size ≤ q → dA ad n s.heap.size q := fun q h => Or.inr h
  have hS : va_S (dA ad n s.heap.size) s.heap s.heap [] := va_S.rf
  have hl := lv_entry ([.ref (ad p0)]) (n := 5) (Nat.le_of_ble_eq_true rfl)
  rw [lg_entry_eq]
  generalize (lg_sl ([.ref (ad p0)]) ++ List.replicate (5 - (lg_sl ([.ref (ad p0)])).length) Slot.unset).toArray = ls at hl ⊢
  have hl : lv_has ls 5 [(0, .ref (ad p0))] := hl
  have hin11 : ∀ w ∈ wsX110, w ∈ wsX11_leaveAll := by decide +kernel
  have w_0 := hts (.fieldLink RX11 17 "MailSpoolModel" "net" "[I") (by decide +kernel)
  have w_1 := hts (.fieldLink RX11 47 "MailSpoolModel" "seenIn" "[I") (by decide +kernel)
  have hGE := hGs.2.2.2.2.2.2.1
  have hGM := hGs.2.2.2.2.2.2.2.1
  have L8 : ∀ (fu8 : Nat) (S0 : St) (v0 : Nat) (v1 : Int32) (v2 : Int32) (tv0 : v0 < n ∧ K v0 = 10) (H : Heap) (locs : List Loc) (ls : Array Slot), f_X11_leaveAll_L8 F fu8 S0 v0 v1 v2 = some (r9, S9) → Wb g ad n K S0 (dA ad n s.heap.size) H → va_S (dA ad n s.heap.size) s.heap H locs → lv_has ls 5 [(0, .ref (ad v0)), (1, .int v1), (2, .int v2)] → W p l e (headSpec wsX11_leaveAll { frames := 8, cells := 0, slots := 0, locals := 190 }).room s m (List.toArray [.ref (ad p0)]) below meth c H locs 0 0 (MQ below (QR (some (.int r9)) (QB g ad n K S9 (dA ad n s.heap.size) (True)) (dA ad n s.heap.size)) (List.toArray [.ref (ad p0)]) s 0 0 (dA ad n s.heap.size)) (F0 m 8 ls []) := by
    intro fu8
    induction fu8 with
    | zero =>
      intro S0 v0 v1 v2 tv0 H locs ls hf
      cases hf
    | succ fu8 ih8 =>
      have L28 : ∀ (fu28 : Nat) (S0 : St) (v0 : Nat) (v1 : Int32) (v2 : Int32) (v3 : Int32) (v4 : Int32) (tv0 : v0 < n ∧ K v0 = 10) (H : Heap) (locs : List Loc) (ls : Array Slot), f_X11_leaveAll_L28 F (fun a0 a1 a2 a3 => f_X11_leaveAll_L8 F fu8 a0 a1 a2 a3) fu28 S0 v0 v1 v2 v3 v4 = some (r9, S9) → Wb g ad n K S0 (dA ad n s.heap.size) H → va_S (dA ad n s.heap.size) s.heap H locs → lv_has ls 5 [(0, .ref (ad v0)), (1, .int v1), (2, .int v2), (3, .int v3), (4, .int v4)] → W p l e (headSpec wsX11_leaveAll { frames := 8, cells := 0, slots := 0, locals := 190 }).room s m (List.toArray [.ref (ad p0)]) below meth c H locs 0 0 (MQ below (QR (some (.int r9)) (QB g ad n K S9 (dA ad n s.heap.size) (True)) (dA ad n s.heap.size)) (List.toArray [.ref (ad p0)]) s 0 0 (dA ad n s.heap.size)) (F0 m 28 ls []) := by
        intro fu28
        induction fu28 with
        | zero =>
          intro S0 v0 v1 v2 v3 v4 tv0 H locs ls hf
          cases hf
        | succ fu28 ih28 =>
          have L112 : ∀ (S0 : St) (v0 : Nat) (v1 : Int32) (v2 : Int32) (v3 : Int32) (v4 : Int32) (tv0 : v0 < n ∧ K v0 = 10) (H : Heap) (locs : List Loc) (ls : Array Slot), f_X11_leaveAll_L112 F (fun a0 a1 a2 a3 => f_X11_leaveAll_L8 F fu8 a0 a1 a2 a3) (fun a0 a1 a2 a3 a4 a5 => f_X11_leaveAll_L28 F (fun a0 a1 a2 a3 => f_X11_leaveAll_L8 F fu8 a0 a1 a2 a3) fu28 a0 a1 a2 a3 a4 a5) S0 v0 v1 v2 v3 v4 = some (r9, S9) → Wb g ad n K S0 (dA ad n s.heap.size) H → va_S (dA ad n s.heap.size) s.heap H locs → lv_has ls 5 [(0, .ref (ad v0)), (1, .int v1), (2, .int v2), (3, .int v3), (4, .int v4)] → W p l e (headSpec wsX11_leaveAll { frames := 8, cells := 0, slots := 0, locals := 190 }).room s m (List.toArray [.ref (ad p0)]) below meth c H locs 0 0 (MQ below (QR (some (.int r9)) (QB g ad n K S9 (dA ad n s.heap.size) (True)) (dA ad n s.heap.size)) (List.toArray [.ref (ad p0)]) s 0 0 (dA ad n s.heap.size)) (F0 m 112 ls []) := by
            intro S0 v0 v1 v2 v3 v4 tv0 H locs ls hf hW hS hl
            unfold f_X11_leaveAll_L112 at hf
            obtain ⟨x3, ex3⟩ : ∃ z : Int32, z = v3 + 3 := ⟨_, rfl⟩
            replace hf := ltE hf x3 ex3
            refine lv_iinc (v := x3) (lv' := [(3, .int x3), (0, .ref (ad v0)), (1, .int v1), (2, .int v2), (4, .int v4)]) hx hb dX11_leaveAll_112 hl (k := 3) rfl (by rw [ex3]; rfl) (by decide) rfl (fun ls hl => ?_)
            obtain ⟨x4, ex4⟩ : ∃ z : Int32, z = v4 + 1 := ⟨_, rfl⟩
            replace hf := ltE hf x4 ex4
            refine lv_iinc (v := x4) (lv' := [(4, .int x4), (3, .int x3), (0, .ref (ad v0)), (1, .int v1), (2, .int v2)]) hx hb dX11_leaveAll_115 hl (k := 4) rfl (by rw [ex4]; rfl) (by decide) rfl (fun ls hl => ?_)
            refine lv_goto (tgt := 28) hx hb dX11_leaveAll_118 (by decide) ?_
            exact ih28 S0 v0 v1 v2 x3 x4 tv0 _ _ _ hf hW hS (lv_sub hl [2, 3, 4, 1, 0] rfl)
          have L80 : ∀ (S0 : St) (v0 : Nat) (v1 : Int32) (v2 : Int32) (v3 : Int32) (v4 : Int32) (tv0 : v0 < n ∧ K v0 = 10) (H : Heap) (locs : List Loc) (ls : Array Slot), f_X11_leaveAll_L80 F (fun a0 a1 a2 a3 => f_X11_leaveAll_L8 F fu8 a0 a1 a2 a3) (fun a0 a1 a2 a3 a4 a5 => f_X11_leaveAll_L28 F (fun a0 a1 a2 a3 => f_X11_leaveAll_L8 F fu8 a0 a1 a2 a3) fu28 a0 a1 a2 a3 a4 a5) S0 v0 v1 v2 v3 v4 = some (r9, S9) → Wb g ad n K S0 (dA ad n s.heap.size) H → va_S (dA ad n s.heap.size) s.heap H locs → lv_has ls 5 [(0, .ref (ad v0)), (1, .int v1), (2, .int v2), (3, .int v3), (4, .int v4)] → W p l e (headSpec wsX11_leaveAll { frames := 8, cells := 0, slots := 0, locals := 190 }).room s m (List.toArray [.ref (ad p0)]) below meth c H locs 0 0 (MQ below (QR (some (.int r9)) (QB g ad n K S9 (dA ad n s.heap.size) (True)) (dA ad n s.heap.size)) (List.toArray [.ref (ad p0)]) s 0 0 (dA ad n s.heap.size)) (F0 m 80 ls []) := by
            intro S0 v0 v1 v2 v3 v4 tv0 H locs ls hf hW hS hl
            unfold f_X11_leaveAll_L80 at hf
            refine lv_aload_n hx hb dX11_leaveAll_80 rfl (lv_at hl 0 rfl) ?_
            replace hf := obE hf
            obtain ⟨j14, qj14, hf⟩ := hf
            have tj14 := x_rt hW qj14 12 ⟨by decide, rfl⟩
            refine x_getr 1001 (ci := 10) (C := RX11) (T := TX11) (N := 30) 1 hC hin11 hW tv0 rfl rfl ⟨by decide, by decide, rfl, rfl⟩ rfl w_0 dX11_leaveAll_81 qj14 ?_
            refine lv_iload_n hx hb dX11_leaveAll_84 rfl (lv_at hl 3 rfl) ?_
            replace hf := ckiE hf
            obtain ⟨h15, hf⟩ := hf
            refine x_iald hC hW tj14 rfl rfl h15 dX11_leaveAll_85 ?_
            refine lv_if_ne (tgt := 112) hx hb dX11_leaveAll_86 (by decide) (fun c16 => ?_) (fun c16 => ?_)
            · replace hf := ifT c16 hf
              exact L112 S0 v0 v1 v2 v3 v4 tv0 _ _ _ hf hW hS (lv_sub hl [0, 1, 2, 3, 4] rfl)
            · replace hf := ifF (fun q => q c16) hf
              refine lv_aload_n hx hb dX11_leaveAll_89 rfl (lv_at hl 0 rfl) ?_
              replace hf := obE hf
              obtain ⟨j17, qj17, hf⟩ := hf
              have tj17 := x_rt hW qj17 12 ⟨by decide, rfl⟩
              refine x_getr 1020 (ci := 10) (C := RX11) (T := TX11) (N := 30) 20 hC hin11 hW tv0 rfl rfl ⟨by decide, by decide, rfl, rfl⟩ rfl w_1 dX11_leaveAll_90 qj17 ?_
              refine lv_bipush (v := 8) hx hb dX11_leaveAll_93 (by decide) ?_
              refine lv_iload hx hb dX11_leaveAll_95 (lv_at hl 4 rfl) ?_
              refine lv_imul hx hb dX11_leaveAll_97 ?_
              refine lv_aload_n hx hb dX11_leaveAll_98 rfl (lv_at hl 0 rfl) ?_
              replace hf := obE hf
              obtain ⟨j18, qj18, hf⟩ := hf
              have tj18 := x_rt hW qj18 12 ⟨by decide, rfl⟩
              refine x_getr 1001 (ci := 10) (C := RX11) (T := TX11) (N := 30) 1 hC hin11 hW tv0 rfl rfl ⟨by decide, by decide, rfl, rfl⟩ rfl w_0 dX11_leaveAll_99 qj18 ?_
              refine lv_iload_n hx hb dX11_leaveAll_102 rfl (lv_at hl 3 rfl) ?_
              refine lv_iconst (v := 1) hx hb dX11_leaveAll_103 (by decide) ?_
              refine lv_iadd hx hb dX11_leaveAll_104 ?_
              replace hf := ckiE hf
              obtain ⟨h19, hf⟩ := hf
              refine x_iald hC hW tj18 rfl rfl h19 dX11_leaveAll_105 ?_
              refine lv_iadd hx hb dX11_leaveAll_106 ?_
              refine lv_dup2_11 hx hb dX11_leaveAll_107 rfl rfl ?_
              replace hf := ckiE hf
              obtain ⟨h20, hf⟩ := hf
              refine x_iald hC hW tj17 rfl rfl h20 dX11_leaveAll_108 ?_
              refine lv_iconst (v := 1) hx hb dX11_leaveAll_109 (by decide) ?_
              refine lv_iadd hx hb dX11_leaveAll_110 ?_
              replace hf := ckiE hf
              obtain ⟨h21, hf⟩ := hf
              refine x_iast hC hW hS tj17 rfl rfl h21 dX11_leaveAll_111 (fun S22 H locs eS22 hW hS => ?_)
              replace hf := ltE hf S22 eS22
              exact L112 S22 v0 v1 v2 v3 v4 tv0 _ _ _ hf hW hS (lv_sub hl [0, 1, 2, 3, 4] rfl)
          intro S0 v0 v1 v2 v3 v4 tv0 H locs ls hf hW hS hl
          unfold f_X11_leaveAll_L28 at hf
          refine lv_iload hx hb dX11_leaveAll_28 (lv_at hl 4 rfl) ?_
          refine lv_aload_n hx hb dX11_leaveAll_30 rfl (lv_at hl 0 rfl) ?_
          replace hf := obE hf
          obtain ⟨j45, qj45, hf⟩ := hf
          have tj45 := x_rt hW qj45 12 ⟨by decide, rfl⟩
          refine x_getr 1001 (ci := 10) (C := RX11) (T := TX11) (N := 30) 1 hC hin11 hW tv0 rfl rfl ⟨by decide, by decide, rfl, rfl⟩ rfl w_0 dX11_leaveAll_31 qj45 ?_
          refine lv_iconst (v := 4) hx hb dX11_leaveAll_34 (by decide) ?_
          replace hf := ckiE hf
          obtain ⟨h46, hf⟩ := hf
          refine x_iald hC hW tj45 rfl rfl h46 dX11_leaveAll_35 ?_
          refine lv_icmp_ge (tgt := 121) hx hb dX11_leaveAll_36 (by decide) (fun c47 => ?_) (fun c47 => ?_)
          · replace hf := ifT c47 hf
            obtain ⟨x48, ex48⟩ : ∃ z : Int32, z = v2 + 1 := ⟨_, rfl⟩
            replace hf := ltE hf x48 ex48
            refine lv_iinc (v := x48) (lv' := [(2, .int x48), (0, .ref (ad v0)), (1, .int v1), (3, .int v3), (4, .int v4)]) hx hb dX11_leaveAll_121 hl (k := 2) rfl (by rw [ex48]; rfl) (by decide) rfl (fun ls hl => ?_)
            refine lv_goto (tgt := 8) hx hb dX11_leaveAll_124 (by decide) ?_
            exact ih8 S0 v0 v1 x48 tv0 _ _ _ hf hW hS (lv_sub hl [1, 2, 0] rfl)
          · replace hf := ifF c47 hf
            refine lv_aload_n hx hb dX11_leaveAll_39 rfl (lv_at hl 0 rfl) ?_
            replace hf := obE hf
            obtain ⟨j49, qj49, hf⟩ := hf
            have tj49 := x_rt hW qj49 12 ⟨by decide, rfl⟩
            refine x_getr 1001 (ci := 10) (C := RX11) (T := TX11) (N := 30) 1 hC hin11 hW tv0 rfl rfl ⟨by decide, by decide, rfl, rfl⟩ rfl w_0 dX11_leaveAll_40 qj49 ?_
            refine lv_iload_n hx hb dX11_leaveAll_43 rfl (lv_at hl 3 rfl) ?_
            replace hf := ckiE hf
            obtain ⟨h50, hf⟩ := hf
            refine x_iald hC hW tj49 rfl rfl h50 dX11_leaveAll_44 ?_
            refine lv_if_ne (tgt := 80) hx hb dX11_leaveAll_45 (by decide) (fun c51 => ?_) (fun c51 => ?_)
            · replace hf := ifT c51 hf
              exact L80 S0 v0 v1 v2 v3 v4 tv0 _ _ _ hf hW hS (lv_sub hl [0, 1, 2, 3, 4] rfl)
            · replace hf := ifF (fun q => q c51) hf
              refine lv_aload_n hx hb dX11_leaveAll_48 rfl (lv_at hl 0 rfl) ?_
              refine lv_iload_n hx hb dX11_leaveAll_49 rfl (lv_at hl 3 rfl) ?_
              refine lv_iload hx hb dX11_leaveAll_50 (lv_at hl 4 rfl) ?_
              replace hf := obE hf
              obtain ⟨z52, hz52, hf⟩ := hf
              obtain ⟨r54, S53⟩ := z52
              replace hf := ltE (ltE hf r54 rfl) S53 rfl
              refine x_callV (As := [.int v3, .int v4]) (rest := []) (o := (some (.int r54))) (S1 := S53) hC hl.1 hW hS hGs hA tv0 rfl (show vwCl[10]? = some (RX11, TX11, 30) ∧ 10 < 11 from ⟨rfl, by decide⟩) (c_X11_isDue l g ad n K H.size F S0 v0 v3 v4 tv0 r54 S53 hz52) (cwV 2 hts gX11_leaveAll_X11_isDue rfl rfl rfl (by decide +kernel) ⟨Nat.le_of_ble_eq_true rfl, Nat.le_of_ble_eq_true rfl⟩) rfl rfl (Nat.le_of_ble_eq_true rfl) dX11_leaveAll_52 ⟨Nat.le_of_ble_eq_true rfl, Nat.le_of_ble_eq_true rfl⟩ (fun H locs hPz52 hW hS => ?_)
              refine W.eq (g2 := F0 m 55 ls [.int r54]) rfl ?_
              refine lv_if_eq (tgt := 80) hx hb dX11_leaveAll_55 (by decide) (fun c56 => ?_) (fun c56 => ?_)
              · replace hf := ifT c56 hf
                exact L80 S53 v0 v1 v2 v3 v4 tv0 _ _ _ hf hW hS (lv_sub hl [0, 1, 2, 3, 4] rfl)
              · replace hf := ifF c56 hf
                refine lv_aload_n hx hb dX11_leaveAll_58 rfl (lv_at hl 0 rfl) ?_
                refine lv_iload_n hx hb dX11_leaveAll_59 rfl (lv_at hl 2 rfl) ?_
                refine lv_iload hx hb dX11_leaveAll_60 (lv_at hl 4 rfl) ?_
                refine lv_aload_n hx hb dX11_leaveAll_62 rfl (lv_at hl 0 rfl) ?_
                refine lv_aload_n hx hb dX11_leaveAll_63 rfl (lv_at hl 0 rfl) ?_
                replace hf := obE hf
                obtain ⟨j57, qj57, hf⟩ := hf
                have tj57 := x_rt hW qj57 12 ⟨by decide, rfl⟩
                refine x_getr 1001 (ci := 10) (C := RX11) (T := TX11) (N := 30) 1 hC hin11 hW tv0 rfl rfl ⟨by decide, by decide, rfl, rfl⟩ rfl w_0 dX11_leaveAll_64 qj57 ?_
                refine lv_iload_n hx hb dX11_leaveAll_67 rfl (lv_at hl 3 rfl) ?_
                refine lv_iconst (v := 1) hx hb dX11_leaveAll_68 (by decide) ?_
                refine lv_iadd hx hb dX11_leaveAll_69 ?_
                replace hf := ckiE hf
                obtain ⟨h58, hf⟩ := hf
                refine x_iald hC hW tj57 rfl rfl h58 dX11_leaveAll_70 ?_
                refine lv_iconst (v := 2) hx hb dX11_leaveAll_71 (by decide) ?_
                replace hf := obE hf
                obtain ⟨z59, hz59, hf⟩ := hf
                obtain ⟨r61, S60⟩ := z59
                replace hf := ltE (ltE hf r61 rfl) S60 rfl
                refine x_callV (As := [.int (ai S53 j57 (Int32.toNatClampNeg (v3 + 1))), .int 2]) (rest := [.int v4, .int v2, .ref (ad v0)]) (o := (some (.int r61))) (S1 := S60) hC hl.1 hW hS hGs hA tv0 rfl (show vwCl[10]? = some (RX11, TX11, 30) ∧ 10 < 11 from ⟨rfl, by decide⟩) (c_X11_classValue l g ad n K H.size F S53 v0 (ai S53 j57 (Int32.toNatClampNeg (v3 + 1))) ((2 : Int32)) tv0 r61 S60 hz59) (cwV 2 hts gX11_leaveAll_X11_classValue rfl rfl rfl (by decide +kernel) ⟨Nat.le_of_ble_eq_true rfl, Nat.le_of_ble_eq_true rfl⟩) rfl rfl (Nat.le_of_ble_eq_true rfl) dX11_leaveAll_72 ⟨Nat.le_of_ble_eq_true rfl, Nat.le_of_ble_eq_true rfl⟩ (fun H locs hPz59 hW hS => ?_)
                refine W.eq (g2 := F0 m 75 ls [.int r61, .int v4, .int v2, .ref (ad v0)]) rfl ?_
                replace hf := obE hf
                obtain ⟨S64, hz63, hf⟩ := hf
                refine x_callV (As := [.int v2, .int v4, .int r61]) (rest := []) (o := none) (S1 := S64) hC hl.1 hW hS hGs hA tv0 rfl (show vwCl[10]? = some (RX11, TX11, 30) ∧ 10 < 11 from ⟨rfl, by decide⟩) (c_X11_leave l g ad n K H.size F S60 v0 v2 v4 r61 tv0 S64 hz63) (cwV 3 hts gX11_leaveAll_X11_leave rfl rfl rfl (by decide +kernel) ⟨Nat.le_of_ble_eq_true rfl, Nat.le_of_ble_eq_true rfl⟩) rfl rfl (Nat.le_of_ble_eq_true rfl) dX11_leaveAll_75 ⟨Nat.le_of_ble_eq_true rfl, Nat.le_of_ble_eq_true rfl⟩ (fun H locs hPz63 hW hS => ?_)
                refine W.eq (g2 := F0 m 78 ls []) rfl ?_
                refine lv_iconst (v := 1) hx hb dX11_leaveAll_78 (by decide) ?_
                refine lv_istore_n (lv' := [(1, .int 1), (0, .ref (ad v0)), (2, .int v2), (3, .int v3), (4, .int v4)]) hx hb dX11_leaveAll_79 rfl hl (by decide) rfl (fun ls hl => ?_)
                exact L80 S64 v0 1 v2 v3 v4 tv0 _ _ _ hf hW hS (lv_sub hl [1, 0, 2, 3, 4] rfl)
      intro S0 v0 v1 v2 tv0 H locs ls hf hW hS hl
      unfold f_X11_leaveAll_L8 at hf
      refine lv_iload_n hx hb dX11_leaveAll_8 rfl (lv_at hl 2 rfl) ?_
      refine lv_aload_n hx hb dX11_leaveAll_9 rfl (lv_at hl 0 rfl) ?_
      replace hf := obE hf
      obtain ⟨j75, qj75, hf⟩ := hf
      have tj75 := x_rt hW qj75 12 ⟨by decide, rfl⟩
      refine x_getr 1001 (ci := 10) (C := RX11) (T := TX11) (N := 30) 1 hC hin11 hW tv0 rfl rfl ⟨by decide, by decide, rfl, rfl⟩ rfl w_0 dX11_leaveAll_10 qj75 ?_
      refine lv_bipush (v := 7) hx hb dX11_leaveAll_13 (by decide) ?_
      replace hf := ckiE hf
      obtain ⟨h76, hf⟩ := hf
      refine x_iald hC hW tj75 rfl rfl h76 dX11_leaveAll_15 ?_
      refine lv_icmp_ge (tgt := 127) hx hb dX11_leaveAll_16 (by decide) (fun c77 => ?_) (fun c77 => ?_)
      · replace hf := ifT c77 hf
        refine lv_iload_n hx hb dX11_leaveAll_127 rfl (lv_at hl 1 rfl) ?_
        replace hf := ckE hf
        obtain ⟨h78, hf⟩ := hf
        obtain ⟨e1, e2⟩ := so2 hf
        subst e1
        subst e2
        exact W.zret (v := v1) hx hb hr (zn h78) (fun t ht hWm => ⟨⟨rfl, by unfold QB; rw [ht]; exact ⟨hW, trivial⟩⟩, hS.F ht⟩) hS.2.2 dX11_leaveAll_128 hlk
      · replace hf := ifF c77 hf
        refine lv_iload_n hx hb dX11_leaveAll_19 rfl (lv_at hl 2 rfl) ?_
        refine lv_iconst (v := 0) hx hb dX11_leaveAll_20 (by decide) ?_
        replace hf := obE hf
        obtain ⟨z79, hz79, hf⟩ := hf
        obtain ⟨r81, S80⟩ := z79
        replace hf := ltE (ltE hf r81 rfl) S80 rfl
        refine x_callS (As := [.int v2, .int 0]) (rest := []) (o := (some (.int r81))) (S1 := S80) hC hl.1 hW hS hGs hA (c_X11_refAt l g ad n K H.size F S0 v2 ((0 : Int32)) r81 S80 hz79) (va_cwS 2 hts gX11_leaveAll_X11_refAt rfl rfl rfl (by decide +kernel) ⟨Nat.le_of_ble_eq_true rfl, Nat.le_of_ble_eq_true rfl⟩) rfl rfl (Nat.le_of_ble_eq_true rfl) dX11_leaveAll_21 ⟨Nat.le_of_ble_eq_true rfl, Nat.le_of_ble_eq_true rfl⟩ (fun H locs hPz79 hW hS => ?_)
        refine W.eq (g2 := F0 m 24 ls [.int r81]) rfl ?_
        refine lv_istore_n (lv' := [(3, .int r81), (0, .ref (ad v0)), (1, .int v1), (2, .int v2)]) hx hb dX11_leaveAll_24 rfl hl (by decide) rfl (fun ls hl => ?_)
        refine lv_iconst (v := 0) hx hb dX11_leaveAll_25 (by decide) ?_
        refine lv_istore (lv' := [(4, .int 0), (3, .int r81), (0, .ref (ad v0)), (1, .int v1), (2, .int v2)]) hx hb dX11_leaveAll_26 hl (by decide) rfl (fun ls hl => ?_)
        exact L28 F S80 v0 v1 v2 r81 0 tv0 _ _ _ hf hW hS (lv_sub hl [2, 3, 4, 1, 0] rfl)
  unfold f_X11_leaveAll at hf
  refine lv_iconst (v := 0) hx hb dX11_leaveAll_0 (by decide) ?_
  refine lv_istore_n (lv' := [(1, .int 0), (0, .ref (ad p0))]) hx hb dX11_leaveAll_1 rfl hl (by decide) rfl (fun ls hl => ?_)
  refine lv_aload_n hx hb dX11_leaveAll_2 rfl (lv_at hl 1 rfl) ?_
  replace hf := obE hf
  obtain ⟨S84, hz83, hf⟩ := hf
  refine x_callV (As := []) (rest := []) (o := none) (S1 := S84) hC hl.1 hW hS hGs hA tp0 rfl (show vwCl[10]? = some (RX11, TX11, 30) ∧ 10 < 11 from ⟨rfl, by decide⟩) (c_X11_countLives l g ad n K s.heap.size F S0 p0 tp0 S84 hz83) (cwV 0 hts gX11_leaveAll_X11_countLives rfl rfl rfl (by decide +kernel) ⟨Nat.le_of_ble_eq_true rfl, Nat.le_of_ble_eq_true rfl⟩) rfl rfl (Nat.le_of_ble_eq_true rfl) dX11_leaveAll_3 ⟨Nat.le_of_ble_eq_true rfl, Nat.le_of_ble_eq_true rfl⟩ (fun H locs hPz83 hW hS => ?_)
  refine W.eq (g2 := F0 m 6 ls []) rfl ?_
  refine lv_iconst (v := 0) hx hb dX11_leaveAll_6 (by decide) ?_
  refine lv_istore_n (lv' := [(2, .int 0), (1, .int 0), (0, .ref (ad p0))]) hx hb dX11_leaveAll_7 rfl hl (by decide) rfl (fun ls hl => ?_)
  exact L8 F S84 p0 0 0 tp0 _ _ _ hf hW hS (lv_sub hl [2, 1, 0] rfl)
set_option maxHeartbeats 4000000 in
set_option maxRecDepth 100000 in
theorem c_X11_layAging (l : Launch) (g : GP) (ad : Nat → Nat) (n : Nat) (K : Nat → Nat) (sz F : Nat) (S0 : St) (p0 : Nat) (tp0 : p0 < n ∧ K p0 = 10) (S9 : St) (hf : f_X11_layAging F S0 p0 = some S9) : Met l yX11_layAging wsX11_layAging { frames := 1, cells := 0, slots := 0, locals := 21 } (va_Pc [.ref (ad p0)] (PB g ad n K S0 sz)) (QR none (QB g ad n K S9 (dA ad n sz) (True)) (dA ad n sz)) 0 0 (dA ad n sz) := by
  refine Met.ofW (cc := cX11_layAging) (maxL := 6) (ret := none) (by decide) rfl ?_
  intro p e s m args below meth c s₁ B hml hv
  obtain ⟨rfl, hsz, hW, hK, hGs⟩ := x_start hv
  subst hsz
  have hx := B.exec
  have hb := B.bytes
  have hr := B.returns
  have hts := atoms_spec (ws := wsX11_layAging) B.pre
  have hown : s.vm.findClass RX11 = some m.cls := findClass_of_methodNamed B.named
  have hlk := B.notSynchronized
  have hC : Cx g p s m _ c cX11_layAging RX11 wsX11_layAging 6 := ⟨hx, hb, hml, hown, hts, hK⟩
  have hA : ∀ q : Nat, s.heap.size ≤ q → dA ad n s.heap.size q := fun q h => Or.inr h
  have hS : va_S (dA ad n s.heap.size) s.heap s.heap [] := va_S.rf
  have hl := lv_entry ([.ref (ad p0)]) (n := 6) (Nat.le_of_ble_eq_true rfl)
  rw [lg_entry_eq]
  generalize (lg_sl ([.ref (ad p0)]) ++ List.replicate (6 - (lg_sl ([.ref (ad p0)])).length) Slot.unset).toArray = ls at hl ⊢
  have hl : lv_has ls 6 [(0, .ref (ad p0))] := hl
  have hin11 : ∀ w ∈ wsX110, w ∈ wsX11_layAging := by decide +kernel
  have w_0 := hts (.fieldLink RX11 17 "MailSpoolModel" "net" "[I") (by decide +kernel)
  have w_1 := hts (.fieldLink RX11 439 "MailSpoolModel" "agingDay" "I") (by decide +kernel)
  have w_2 := hts (.constant RX11 438 (2147483647)) (by decide +kernel)
  have hGE := hGs.2.2.2.2.2.2.1
  have hGM := hGs.2.2.2.2.2.2.2.1
  have L9 : ∀ (fu9 : Nat) (S0 : St) (v0 : Nat) (v1 : Int32) (tv0 : v0 < n ∧ K v0 = 10) (H : Heap) (locs : List Loc) (ls : Array Slot), f_X11_layAging_L9 F fu9 S0 v0 v1 = some S9 → Wb g ad n K S0 (dA ad n s.heap.size) H → va_S (dA ad n s.heap.size) s.heap H locs → lv_has ls 6 [(0, .ref (ad v0)), (1, .int v1)] → W p l e (headSpec wsX11_layAging { frames := 1, cells := 0, slots := 0, locals := 21 }).room s m (List.toArray [.ref (ad p0)]) below meth c H locs 0 0 (MQ below (QR none (QB g ad n K S9 (dA ad n s.heap.size) (True)) (dA ad n s.heap.size)) (List.toArray [.ref (ad p0)]) s 0 0 (dA ad n s.heap.size)) (F0 m 9 ls []) := by
    intro fu9
    induction fu9 with
    | zero =>
      intro S0 v0 v1 tv0 H locs ls hf
      cases hf
    | succ fu9 ih9 =>
      have L28 : ∀ (fu28 : Nat) (S0 : St) (v0 : Nat) (v1 : Int32) (v2 : Int32) (v3 : Int32) (tv0 : v0 < n ∧ K v0 = 10) (H : Heap) (locs : List Loc) (ls : Array Slot), f_X11_layAging_L28 F (fun a0 a1 a2 => f_X11_layAging_L9 F fu9 a0 a1 a2) fu28 S0 v0 v1 v2 v3 = some S9 → Wb g ad n K S0 (dA ad n s.heap.size) H → va_S (dA ad n s.heap.size) s.heap H locs → lv_has ls 6 [(0, .ref (ad v0)), (1, .int v1), (2, .int v2), (3, .int v3)] → W p l e (headSpec wsX11_layAging { frames := 1, cells := 0, slots := 0, locals := 21 }).room s m (List.toArray [.ref (ad p0)]) below meth c H locs 0 0 (MQ below (QR none (QB g ad n K S9 (dA ad n s.heap.size) (True)) (dA ad n s.heap.size)) (List.toArray [.ref (ad p0)]) s 0 0 (dA ad n s.heap.size)) (F0 m 28 ls []) := by
        intro fu28
        induction fu28 with
        | zero =>
          intro S0 v0 v1 v2 v3 tv0 H locs ls hf
          cases hf
        | succ fu28 ih28 =>
          have L119 : ∀ (S0 : St) (v0 : Nat) (v1 : Int32) (v2 : Int32) (v3 : Int32) (tv0 : v0 < n ∧ K v0 = 10) (H : Heap) (locs : List Loc) (ls : Array Slot), f_X11_layAging_L119 F (fun a0 a1 a2 => f_X11_layAging_L9 F fu9 a0 a1 a2) (fun a0 a1 a2 a3 a4 => f_X11_layAging_L28 F (fun a0 a1 a2 => f_X11_layAging_L9 F fu9 a0 a1 a2) fu28 a0 a1 a2 a3 a4) S0 v0 v1 v2 v3 = some S9 → Wb g ad n K S0 (dA ad n s.heap.size) H → va_S (dA ad n s.heap.size) s.heap H locs → lv_has ls 6 [(0, .ref (ad v0)), (1, .int v1), (2, .int v2), (3, .int v3)] → W p l e (headSpec wsX11_layAging { frames := 1, cells := 0, slots := 0, locals := 21 }).room s m (List.toArray [.ref (ad p0)]) below meth c H locs 0 0 (MQ below (QR none (QB g ad n K S9 (dA ad n s.heap.size) (True)) (dA ad n s.heap.size)) (List.toArray [.ref (ad p0)]) s 0 0 (dA ad n s.heap.size)) (F0 m 119 ls []) := by
            intro S0 v0 v1 v2 v3 tv0 H locs ls hf hW hS hl
            unfold f_X11_layAging_L119 at hf
            obtain ⟨x3, ex3⟩ : ∃ z : Int32, z = v2 + 3 := ⟨_, rfl⟩
            replace hf := ltE hf x3 ex3
            refine lv_iinc (v := x3) (lv' := [(2, .int x3), (0, .ref (ad v0)), (1, .int v1), (3, .int v3)]) hx hb dX11_layAging_119 hl (k := 2) rfl (by rw [ex3]; rfl) (by decide) rfl (fun ls hl => ?_)
            obtain ⟨x4, ex4⟩ : ∃ z : Int32, z = v3 + 1 := ⟨_, rfl⟩
            replace hf := ltE hf x4 ex4
            refine lv_iinc (v := x4) (lv' := [(3, .int x4), (2, .int x3), (0, .ref (ad v0)), (1, .int v1)]) hx hb dX11_layAging_122 hl (k := 3) rfl (by rw [ex4]; rfl) (by decide) rfl (fun ls hl => ?_)
            refine lv_goto (tgt := 28) hx hb dX11_layAging_125 (by decide) ?_
            exact ih28 S0 v0 v1 x3 x4 tv0 _ _ _ hf hW hS (lv_sub hl [2, 3, 1, 0] rfl)
          have L72 : ∀ (S0 : St) (v0 : Nat) (v1 : Int32) (v2 : Int32) (v3 : Int32) (s0 : Int32) (tv0 : v0 < n ∧ K v0 = 10) (H : Heap) (locs : List Loc) (ls : Array Slot), f_X11_layAging_L72 F (fun a0 a1 a2 => f_X11_layAging_L9 F fu9 a0 a1 a2) (fun a0 a1 a2 a3 a4 => f_X11_layAging_L28 F (fun a0 a1 a2 => f_X11_layAging_L9 F fu9 a0 a1 a2) fu28 a0 a1 a2 a3 a4) S0 v0 v1 v2 v3 s0 = some S9 → Wb g ad n K S0 (dA ad n s.heap.size) H → va_S (dA ad n s.heap.size) s.heap H locs → lv_has ls 6 [(0, .ref (ad v0)), (1, .int v1), (2, .int v2), (3, .int v3)] → W p l e (headSpec wsX11_layAging { frames := 1, cells := 0, slots := 0, locals := 21 }).room s m (List.toArray [.ref (ad p0)]) below meth c H locs 0 0 (MQ below (QR none (QB g ad n K S9 (dA ad n s.heap.size) (True)) (dA ad n s.heap.size)) (List.toArray [.ref (ad p0)]) s 0 0 (dA ad n s.heap.size)) (F0 m 72 ls [.int s0]) := by
            intro S0 v0 v1 v2 v3 s0 tv0 H locs ls hf hW hS hl
            unfold f_X11_layAging_L72 at hf
            refine lv_istore (lv' := [(4, .int s0), (0, .ref (ad v0)), (1, .int v1), (2, .int v2), (3, .int v3)]) hx hb dX11_layAging_72 hl (by decide) rfl (fun ls hl => ?_)
            refine lv_aload_n hx hb dX11_layAging_74 rfl (lv_at hl 1 rfl) ?_
            replace hf := obE hf
            obtain ⟨j14, qj14, hf⟩ := hf
            have tj14 := x_rt hW qj14 12 ⟨by decide, rfl⟩
            refine x_getr 1001 (ci := 10) (C := RX11) (T := TX11) (N := 30) 1 hC hin11 hW tv0 rfl rfl ⟨by decide, by decide, rfl, rfl⟩ rfl w_0 dX11_layAging_75 qj14 ?_
            refine lv_iload_n hx hb dX11_layAging_78 rfl (lv_at hl 3 rfl) ?_
            refine lv_iconst (v := 2) hx hb dX11_layAging_79 (by decide) ?_
            refine lv_iadd hx hb dX11_layAging_80 ?_
            replace hf := ckiE hf
            obtain ⟨h15, hf⟩ := hf
            refine x_iald hC hW tj14 rfl rfl h15 dX11_layAging_81 ?_
            refine lv_iload hx hb dX11_layAging_82 (lv_at hl 0 rfl) ?_
            refine lv_iadd hx hb dX11_layAging_84 ?_
            refine lv_topi (fun x16 ex16 => ?_)
            replace hf := ltE hf x16 ex16
            refine lv_istore (lv' := [(5, .int x16), (4, .int s0), (0, .ref (ad v0)), (1, .int v1), (2, .int v2), (3, .int v3)]) hx hb dX11_layAging_85 hl (by decide) rfl (fun ls hl => ?_)
            refine lv_iload hx hb dX11_layAging_87 (lv_at hl 1 rfl) ?_
            refine lv_iconst (v := -1) hx hb dX11_layAging_89 (by decide) ?_
            refine lv_icmp_eq (tgt := 119) hx hb dX11_layAging_90 (by decide) (fun c17 => ?_) (fun c17 => ?_)
            · replace hf := ifT c17 hf
              exact L119 S0 v0 v1 v2 v3 tv0 _ _ _ hf hW hS (lv_sub hl [2, 3, 4, 5] rfl)
            · replace hf := ifF c17 hf
              refine lv_iload hx hb dX11_layAging_93 (lv_at hl 0 rfl) ?_
              refine lv_aload_n hx hb dX11_layAging_95 rfl (lv_at hl 2 rfl) ?_
              replace hf := obE hf
              obtain ⟨j18, qj18, hf⟩ := hf
              have tj18 := x_rt hW qj18 12 ⟨by decide, rfl⟩
              refine x_getr 1001 (ci := 10) (C := RX11) (T := TX11) (N := 30) 1 hC hin11 hW tv0 rfl rfl ⟨by decide, by decide, rfl, rfl⟩ rfl w_0 dX11_layAging_96 qj18 ?_
              refine lv_iconst (v := 2) hx hb dX11_layAging_99 (by decide) ?_
              replace hf := ckiE hf
              obtain ⟨h19, hf⟩ := hf
              refine x_iald hC hW tj18 rfl rfl h19 dX11_layAging_100 ?_
              refine lv_icmp_le (tgt := 119) hx hb dX11_layAging_101 (by decide) (fun c20 => ?_) (fun c20 => ?_)
              · replace hf := ifT c20 hf
                exact L119 S0 v0 v1 v2 v3 tv0 _ _ _ hf hW hS (lv_sub hl [2, 3, 4, 5] rfl)
              · replace hf := ifF c20 hf
                refine lv_iload hx hb dX11_layAging_104 (lv_at hl 0 rfl) ?_
                refine lv_aload_n hx hb dX11_layAging_106 rfl (lv_at hl 2 rfl) ?_
                refine x_geti 1022 (ci := 10) (C := RX11) (T := TX11) (N := 30) 22 hC hin11 hW tv0 rfl rfl ⟨by decide, by decide, rfl, rfl⟩ rfl w_1 dX11_layAging_107 ?_
                refine lv_icmp_ge (tgt := 119) hx hb dX11_layAging_110 (by decide) (fun c21 => ?_) (fun c21 => ?_)
                · replace hf := ifT c21 hf
                  exact L119 S0 v0 v1 v2 v3 tv0 _ _ _ hf hW hS (lv_sub hl [2, 3, 4, 5] rfl)
                · replace hf := ifF c21 hf
                  refine lv_aload_n hx hb dX11_layAging_113 rfl (lv_at hl 2 rfl) ?_
                  refine lv_iload hx hb dX11_layAging_114 (lv_at hl 0 rfl) ?_
                  refine x_puti 1022 (ci := 10) (C := RX11) (T := TX11) (N := 30) (v := x16) (ty := .int) 22 hC hin11 tyX11_ok nmX11 hW hS tv0 rfl rfl ⟨by decide, by decide, rfl, rfl⟩ rfl w_1 rfl (by decide +kernel) rfl rfl dX11_layAging_116 (fun S22 H locs eS22 hW hS => ?_)
                  replace hf := ltE hf S22 eS22
                  exact L119 S22 v0 v1 v2 v3 tv0 _ _ _ hf hW hS (lv_sub hl [2, 3, 4, 5] rfl)
          intro S0 v0 v1 v2 v3 tv0 H locs ls hf hW hS hl
          unfold f_X11_layAging_L28 at hf
          refine lv_iload_n hx hb dX11_layAging_28 rfl (lv_at hl 3 rfl) ?_
          refine lv_aload_n hx hb dX11_layAging_29 rfl (lv_at hl 0 rfl) ?_
          replace hf := obE hf
          obtain ⟨j34, qj34, hf⟩ := hf
          have tj34 := x_rt hW qj34 12 ⟨by decide, rfl⟩
          refine x_getr 1001 (ci := 10) (C := RX11) (T := TX11) (N := 30) 1 hC hin11 hW tv0 rfl rfl ⟨by decide, by decide, rfl, rfl⟩ rfl w_0 dX11_layAging_30 qj34 ?_
          refine lv_iconst (v := 4) hx hb dX11_layAging_33 (by decide) ?_
          replace hf := ckiE hf
          obtain ⟨h35, hf⟩ := hf
          refine x_iald hC hW tj34 rfl rfl h35 dX11_layAging_34 ?_
          refine lv_icmp_ge (tgt := 128) hx hb dX11_layAging_35 (by decide) (fun c36 => ?_) (fun c36 => ?_)
          · replace hf := ifT c36 hf
            obtain ⟨x37, ex37⟩ : ∃ z : Int32, z = v1 + 1 := ⟨_, rfl⟩
            replace hf := ltE hf x37 ex37
            refine lv_iinc (v := x37) (lv' := [(1, .int x37), (0, .ref (ad v0)), (2, .int v2), (3, .int v3)]) hx hb dX11_layAging_128 hl (k := 1) rfl (by rw [ex37]; rfl) (by decide) rfl (fun ls hl => ?_)
            refine lv_goto (tgt := 9) hx hb dX11_layAging_131 (by decide) ?_
            exact ih9 S0 v0 x37 tv0 _ _ _ hf hW hS (lv_sub hl [1, 0] rfl)
          · replace hf := ifF c36 hf
            refine lv_aload_n hx hb dX11_layAging_38 rfl (lv_at hl 0 rfl) ?_
            replace hf := obE hf
            obtain ⟨j38, qj38, hf⟩ := hf
            have tj38 := x_rt hW qj38 12 ⟨by decide, rfl⟩
            refine x_getr 1001 (ci := 10) (C := RX11) (T := TX11) (N := 30) 1 hC hin11 hW tv0 rfl rfl ⟨by decide, by decide, rfl, rfl⟩ rfl w_0 dX11_layAging_39 qj38 ?_
            refine lv_iload_n hx hb dX11_layAging_42 rfl (lv_at hl 2 rfl) ?_
            replace hf := ckiE hf
            obtain ⟨h39, hf⟩ := hf
            refine x_iald hC hW tj38 rfl rfl h39 dX11_layAging_43 ?_
            refine lv_if_ne (tgt := 71) hx hb dX11_layAging_44 (by decide) (fun c40 => ?_) (fun c40 => ?_)
            · replace hf := ifT c40 hf
              refine lv_iconst (v := -1) hx hb dX11_layAging_71 (by decide) ?_
              exact L72 S0 v0 v1 v2 v3 ((-1)) tv0 _ _ _ hf hW hS (lv_sub hl [0, 1, 2, 3] rfl)
            · replace hf := ifF (fun q => q c40) hf
              refine lv_aload_n hx hb dX11_layAging_47 rfl (lv_at hl 0 rfl) ?_
              replace hf := obE hf
              obtain ⟨j41, qj41, hf⟩ := hf
              have tj41 := x_rt hW qj41 12 ⟨by decide, rfl⟩
              refine x_getr 1001 (ci := 10) (C := RX11) (T := TX11) (N := 30) 1 hC hin11 hW tv0 rfl rfl ⟨by decide, by decide, rfl, rfl⟩ rfl w_0 dX11_layAging_48 qj41 ?_
              refine lv_bipush (v := 11) hx hb dX11_layAging_51 (by decide) ?_
              refine lv_bipush (v := 9) hx hb dX11_layAging_53 (by decide) ?_
              refine lv_aload_n hx hb dX11_layAging_55 rfl (lv_at hl 0 rfl) ?_
              replace hf := obE hf
              obtain ⟨j42, qj42, hf⟩ := hf
              have tj42 := x_rt hW qj42 12 ⟨by decide, rfl⟩
              refine x_getr 1001 (ci := 10) (C := RX11) (T := TX11) (N := 30) 1 hC hin11 hW tv0 rfl rfl ⟨by decide, by decide, rfl, rfl⟩ rfl w_0 dX11_layAging_56 qj42 ?_
              refine lv_iload_n hx hb dX11_layAging_59 rfl (lv_at hl 2 rfl) ?_
              refine lv_iconst (v := 1) hx hb dX11_layAging_60 (by decide) ?_
              refine lv_iadd hx hb dX11_layAging_61 ?_
              replace hf := ckiE hf
              obtain ⟨h43, hf⟩ := hf
              refine x_iald hC hW tj42 rfl rfl h43 dX11_layAging_62 ?_
              refine lv_imul hx hb dX11_layAging_63 ?_
              refine lv_iadd hx hb dX11_layAging_64 ?_
              refine lv_iconst (v := 0) hx hb dX11_layAging_65 (by decide) ?_
              refine lv_iadd hx hb dX11_layAging_66 ?_
              replace hf := ckiE hf
              obtain ⟨h44, hf⟩ := hf
              refine x_iald hC hW tj41 rfl rfl h44 dX11_layAging_67 ?_
              refine lv_goto (tgt := 72) hx hb dX11_layAging_68 (by decide) ?_
              exact L72 S0 v0 v1 v2 v3 (ai S0 j41 (Int32.toNatClampNeg ((11 + (9 * (ai S0 j42 (Int32.toNatClampNeg (v2 + 1))))) + 0))) tv0 _ _ _ hf hW hS (lv_sub hl [0, 1, 2, 3] rfl)
      intro S0 v0 v1 tv0 H locs ls hf hW hS hl
      unfold f_X11_layAging_L9 at hf
      refine lv_iload_n hx hb dX11_layAging_9 rfl (lv_at hl 1 rfl) ?_
      refine lv_aload_n hx hb dX11_layAging_10 rfl (lv_at hl 0 rfl) ?_
      replace hf := obE hf
      obtain ⟨j52, qj52, hf⟩ := hf
      have tj52 := x_rt hW qj52 12 ⟨by decide, rfl⟩
      refine x_getr 1001 (ci := 10) (C := RX11) (T := TX11) (N := 30) 1 hC hin11 hW tv0 rfl rfl ⟨by decide, by decide, rfl, rfl⟩ rfl w_0 dX11_layAging_11 qj52 ?_
      refine lv_bipush (v := 7) hx hb dX11_layAging_14 (by decide) ?_
      replace hf := ckiE hf
      obtain ⟨h53, hf⟩ := hf
      refine x_iald hC hW tj52 rfl rfl h53 dX11_layAging_16 ?_
      refine lv_icmp_ge (tgt := 134) hx hb dX11_layAging_17 (by decide) (fun c54 => ?_) (fun c54 => ?_)
      · replace hf := ifT c54 hf
        have e1 := Option.some.inj hf
        subst e1
        exact W.vret hx hb hr (fun t ht hWm => ⟨⟨rfl, by unfold QB; rw [ht]; exact ⟨hW, trivial⟩⟩, hS.F ht⟩) hS.2.2 dX11_layAging_134 hlk
      · replace hf := ifF c54 hf
        refine lv_iload_n hx hb dX11_layAging_20 rfl (lv_at hl 1 rfl) ?_
        refine lv_iconst (v := 0) hx hb dX11_layAging_21 (by decide) ?_
        replace hf := obE hf
        obtain ⟨z55, hz55, hf⟩ := hf
        obtain ⟨r57, S56⟩ := z55
        replace hf := ltE (ltE hf r57 rfl) S56 rfl
        refine x_callS (As := [.int v1, .int 0]) (rest := []) (o := (some (.int r57))) (S1 := S56) hC hl.1 hW hS hGs hA (c_X11_refAt l g ad n K H.size F S0 v1 ((0 : Int32)) r57 S56 hz55) (va_cwS 2 hts gX11_layAging_X11_refAt rfl rfl rfl (by decide +kernel) ⟨Nat.le_of_ble_eq_true rfl, Nat.le_of_ble_eq_true rfl⟩) rfl rfl (Nat.le_of_ble_eq_true rfl) dX11_layAging_22 ⟨Nat.le_of_ble_eq_true rfl, Nat.le_of_ble_eq_true rfl⟩ (fun H locs hPz55 hW hS => ?_)
        refine W.eq (g2 := F0 m 25 ls [.int r57]) rfl ?_
        refine lv_istore_n (lv' := [(2, .int r57), (0, .ref (ad v0)), (1, .int v1)]) hx hb dX11_layAging_25 rfl hl (by decide) rfl (fun ls hl => ?_)
        refine lv_iconst (v := 0) hx hb dX11_layAging_26 (by decide) ?_
        refine lv_istore_n (lv' := [(3, .int 0), (2, .int r57), (0, .ref (ad v0)), (1, .int v1)]) hx hb dX11_layAging_27 rfl hl (by decide) rfl (fun ls hl => ?_)
        exact L28 F S56 v0 v1 r57 0 tv0 _ _ _ hf hW hS (lv_sub hl [2, 3, 1, 0] rfl)
  unfold f_X11_layAging at hf
  refine lv_aload_n hx hb dX11_layAging_0 rfl (lv_at hl 0 rfl) ?_
  refine lv_ldcw (v := 2147483647) hx hb hown w_2 dX11_layAging_1 ?_
  refine x_puti 1022 (ci := 10) (C := RX11) (T := TX11) (N := 30) (v := 2147483647) (ty := .int) 22 hC hin11 tyX11_ok nmX11 hW hS tp0 rfl rfl ⟨by decide, by decide, rfl, rfl⟩ rfl w_1 rfl (by decide +kernel) rfl rfl dX11_layAging_4 (fun S59 H locs eS59 hW hS => ?_)
  replace hf := ltE hf S59 eS59
  refine lv_iconst (v := 0) hx hb dX11_layAging_7 (by decide) ?_
  refine lv_istore_n (lv' := [(1, .int 0), (0, .ref (ad p0))]) hx hb dX11_layAging_8 rfl hl (by decide) rfl (fun ls hl => ?_)
  exact L9 F S59 p0 0 tp0 _ _ _ hf hW hS (lv_sub hl [1, 0] rfl)
set_option maxHeartbeats 4000000 in
set_option maxRecDepth 100000 in
theorem c_X11_leaveInThought (l : Launch) (g : GP) (ad : Nat → Nat) (n : Nat) (K : Nat → Nat) (sz F : Nat) (S0 : St) (p0 : Nat) (tp0 : p0 < n ∧ K p0 = 10) (S9 : St) (hf : f_X11_leaveInThought F S0 p0 = some S9) : Met l yX11_leaveInThought wsX11_leaveInThought { frames := 9, cells := 0, slots := 0, locals := 214 } (va_Pc [.ref (ad p0)] (PB g ad n K S0 sz)) (QR none (QB g ad n K S9 (dA ad n sz) (True)) (dA ad n sz)) 0 0 (dA ad n sz) := by
  refine Met.ofW (cc := cX11_leaveInThought) (maxL := 1) (ret := none) (by decide) rfl ?_
  intro p e s m args below meth c s₁ B hml hv
  obtain ⟨rfl, hsz, hW, hK, hGs⟩ := x_start hv
  subst hsz
  have hx := B.exec
  have hb := B.bytes
  have hr := B.returns
  have hts := atoms_spec (ws := wsX11_leaveInThought) B.pre
  have hown : s.vm.findClass RX11 = some m.cls := findClass_of_methodNamed B.named
  have hlk := B.notSynchronized
  have hC : Cx g p s m _ c cX11_leaveInThought RX11 wsX11_leaveInThought 1 := ⟨hx, hb, hml, hown, hts, hK⟩
  have hA : ∀ q : Nat, s.heap.size ≤ q → dA ad n s.heap.size q := fun q h => Or.inr h
  have hS : va_S (dA ad n s.heap.size) s.heap s.heap [] := va_S.rf
  have hl := lv_entry ([.ref (ad p0)]) (n := 1) (Nat.le_of_ble_eq_true rfl)
  rw [lg_entry_eq]
  generalize (lg_sl ([.ref (ad p0)]) ++ List.replicate (1 - (lg_sl ([.ref (ad p0)])).length) Slot.unset).toArray = ls at hl ⊢
  have hl : lv_has ls 1 [(0, .ref (ad p0))] := hl
  have hin11 : ∀ w ∈ wsX110, w ∈ wsX11_leaveInThought := by decide +kernel
  have w_0 := hts (.fieldLink RX11 442 "MailSpoolModel" "isQuiet" "Z") (by decide +kernel)
  have w_1 := hts (.fieldLink RX11 17 "MailSpoolModel" "net" "[I") (by decide +kernel)
  have w_2 := hts (.fieldLink RX11 439 "MailSpoolModel" "agingDay" "I") (by decide +kernel)
  have hGE := hGs.2.2.2.2.2.2.1
  have hGM := hGs.2.2.2.2.2.2.2.1
  have L34 : ∀ (S0 : St) (v0 : Nat) (s0 : Int32) (s1 : Nat) (tv0 : v0 < n ∧ K v0 = 10) (ts1 : s1 < n ∧ K s1 = 10) (H : Heap) (locs : List Loc) (ls : Array Slot), f_X11_leaveInThought_L34 F S0 v0 s0 s1 = some S9 → Wb g ad n K S0 (dA ad n s.heap.size) H → va_S (dA ad n s.heap.size) s.heap H locs → lv_has ls 1 [(0, .ref (ad v0))] → W p l e (headSpec wsX11_leaveInThought { frames := 9, cells := 0, slots := 0, locals := 214 }).room s m (List.toArray [.ref (ad p0)]) below meth c H locs 0 0 (MQ below (QR none (QB g ad n K S9 (dA ad n s.heap.size) (True)) (dA ad n s.heap.size)) (List.toArray [.ref (ad p0)]) s 0 0 (dA ad n s.heap.size)) (F0 m 34 ls [.int s0, .ref (ad s1)]) := by
    intro S0 v0 s0 s1 tv0 ts1 H locs ls hf hW hS hl
    unfold f_X11_leaveInThought_L34 at hf
    replace hf := ckE hf
    obtain ⟨h7, hf⟩ := hf
    refine x_puti 1021 (ci := 10) (C := RX11) (T := TX11) (N := 30) (v := s0) (ty := .boolean) 21 hC hin11 tyX11_ok nmX11 hW hS ts1 rfl rfl ⟨by decide, by decide, rfl, rfl⟩ rfl w_0 rfl (by decide +kernel) (zn h7) (zf h7) dX11_leaveInThought_34 (fun S8 H locs eS8 hW hS => ?_)
    replace hf := ltE hf S8 eS8
    refine lv_aload_n hx hb dX11_leaveInThought_37 rfl (lv_at hl 0 rfl) ?_
    replace hf := obE hf
    obtain ⟨S10, hz9, hf⟩ := hf
    refine x_callV (As := []) (rest := []) (o := none) (S1 := S10) hC hl.1 hW hS hGs hA tv0 rfl (show vwCl[10]? = some (RX11, TX11, 30) ∧ 10 < 11 from ⟨rfl, by decide⟩) (c_X11_layAging l g ad n K H.size F S8 v0 tv0 S10 hz9) (cwV 0 hts gX11_leaveInThought_X11_layAging rfl rfl rfl (by decide +kernel) ⟨Nat.le_of_ble_eq_true rfl, Nat.le_of_ble_eq_true rfl⟩) rfl rfl (Nat.le_of_ble_eq_true rfl) dX11_leaveInThought_38 ⟨Nat.le_of_ble_eq_true rfl, Nat.le_of_ble_eq_true rfl⟩ (fun H locs hPz9 hW hS => ?_)
    refine W.eq (g2 := F0 m 41 ls []) rfl ?_
    have e1 := Option.some.inj hf
    subst e1
    exact W.vret hx hb hr (fun t ht hWm => ⟨⟨rfl, by unfold QB; rw [ht]; exact ⟨hW, trivial⟩⟩, hS.F ht⟩) hS.2.2 dX11_leaveInThought_41 hlk
  have L21 : ∀ (S0 : St) (v0 : Nat) (tv0 : v0 < n ∧ K v0 = 10) (H : Heap) (locs : List Loc) (ls : Array Slot), f_X11_leaveInThought_L21 F S0 v0 = some S9 → Wb g ad n K S0 (dA ad n s.heap.size) H → va_S (dA ad n s.heap.size) s.heap H locs → lv_has ls 1 [(0, .ref (ad v0))] → W p l e (headSpec wsX11_leaveInThought { frames := 9, cells := 0, slots := 0, locals := 214 }).room s m (List.toArray [.ref (ad p0)]) below meth c H locs 0 0 (MQ below (QR none (QB g ad n K S9 (dA ad n s.heap.size) (True)) (dA ad n s.heap.size)) (List.toArray [.ref (ad p0)]) s 0 0 (dA ad n s.heap.size)) (F0 m 21 ls []) := by
    intro S0 v0 tv0 H locs ls hf hW hS hl
    unfold f_X11_leaveInThought_L21 at hf
    refine lv_aload_n hx hb dX11_leaveInThought_21 rfl (lv_at hl 0 rfl) ?_
    refine lv_aload_n hx hb dX11_leaveInThought_22 rfl (lv_at hl 0 rfl) ?_
    replace hf := obE hf
    obtain ⟨z18, hz18, hf⟩ := hf
    obtain ⟨r20, S19⟩ := z18
    replace hf := ltE (ltE hf r20 rfl) S19 rfl
    refine x_callV (As := []) (rest := [.ref (ad v0)]) (o := (some (.int r20))) (S1 := S19) hC hl.1 hW hS hGs hA tv0 rfl (show vwCl[10]? = some (RX11, TX11, 30) ∧ 10 < 11 from ⟨rfl, by decide⟩) (c_X11_leaveAll l g ad n K H.size F S0 v0 tv0 r20 S19 hz18) (cwV 0 hts gX11_leaveInThought_X11_leaveAll rfl rfl rfl (by decide +kernel) ⟨Nat.le_of_ble_eq_true rfl, Nat.le_of_ble_eq_true rfl⟩) rfl rfl (Nat.le_of_ble_eq_true rfl) dX11_leaveInThought_23 ⟨Nat.le_of_ble_eq_true rfl, Nat.le_of_ble_eq_true rfl⟩ (fun H locs hPz18 hW hS => ?_)
    refine W.eq (g2 := F0 m 26 ls [.int r20, .ref (ad v0)]) rfl ?_
    refine lv_if_ne (tgt := 33) hx hb dX11_leaveInThought_26 (by decide) (fun c22 => ?_) (fun c22 => ?_)
    · replace hf := ifT c22 hf
      refine lv_iconst (v := 0) hx hb dX11_leaveInThought_33 (by decide) ?_
      exact L34 S19 v0 0 v0 tv0 tv0 _ _ _ hf hW hS (lv_sub hl [0] rfl)
    · replace hf := ifF (fun q => q c22) hf
      refine lv_iconst (v := 1) hx hb dX11_leaveInThought_29 (by decide) ?_
      refine lv_goto (tgt := 34) hx hb dX11_leaveInThought_30 (by decide) ?_
      exact L34 S19 v0 1 v0 tv0 tv0 _ _ _ hf hW hS (lv_sub hl [0] rfl)
  unfold f_X11_leaveInThought at hf
  refine lv_aload_n hx hb dX11_leaveInThought_0 rfl (lv_at hl 0 rfl) ?_
  refine x_geti 1021 (ci := 10) (C := RX11) (T := TX11) (N := 30) 21 hC hin11 hW tp0 rfl rfl ⟨by decide, by decide, rfl, rfl⟩ rfl w_0 dX11_leaveInThought_1 ?_
  refine lv_if_eq (tgt := 21) hx hb dX11_leaveInThought_4 (by decide) (fun c23 => ?_) (fun c23 => ?_)
  · replace hf := ifT c23 hf
    exact L21 S0 p0 tp0 _ _ _ hf hW hS (lv_sub hl [0] rfl)
  · replace hf := ifF c23 hf
    refine lv_aload_n hx hb dX11_leaveInThought_7 rfl (lv_at hl 0 rfl) ?_
    replace hf := obE hf
    obtain ⟨j24, qj24, hf⟩ := hf
    have tj24 := x_rt hW qj24 12 ⟨by decide, rfl⟩
    refine x_getr 1001 (ci := 10) (C := RX11) (T := TX11) (N := 30) 1 hC hin11 hW tp0 rfl rfl ⟨by decide, by decide, rfl, rfl⟩ rfl w_1 dX11_leaveInThought_8 qj24 ?_
    refine lv_iconst (v := 2) hx hb dX11_leaveInThought_11 (by decide) ?_
    replace hf := ckiE hf
    obtain ⟨h25, hf⟩ := hf
    refine x_iald hC hW tj24 rfl rfl h25 dX11_leaveInThought_12 ?_
    refine lv_aload_n hx hb dX11_leaveInThought_13 rfl (lv_at hl 0 rfl) ?_
    refine x_geti 1022 (ci := 10) (C := RX11) (T := TX11) (N := 30) 22 hC hin11 hW tp0 rfl rfl ⟨by decide, by decide, rfl, rfl⟩ rfl w_2 dX11_leaveInThought_14 ?_
    refine lv_icmp_ge (tgt := 21) hx hb dX11_leaveInThought_17 (by decide) (fun c26 => ?_) (fun c26 => ?_)
    · replace hf := ifT c26 hf
      exact L21 S0 p0 tp0 _ _ _ hf hW hS (lv_sub hl [0] rfl)
    · replace hf := ifF c26 hf
      have e1 := Option.some.inj hf
      subst e1
      exact W.vret hx hb hr (fun t ht hWm => ⟨⟨rfl, by unfold QB; rw [ht]; exact ⟨hW, trivial⟩⟩, hS.F ht⟩) hS.2.2 dX11_leaveInThought_20 hlk
set_option maxHeartbeats 4000000 in
set_option maxRecDepth 100000 in
theorem c_X11_round (l : Launch) (g : GP) (ad : Nat → Nat) (n : Nat) (K : Nat → Nat) (sz F : Nat) (S0 : St) (p0 : Nat) (tp0 : p0 < n ∧ K p0 = 10) (r9 : Int32) (S9 : St) (hf : f_X11_round F S0 p0 = some (r9, S9)) : Met l yX11_round wsX11_round { frames := 2, cells := 0, slots := 0, locals := 46 } (va_Pc [.ref (ad p0)] (PB g ad n K S0 sz)) (QR (some (.int r9)) (QB g ad n K S9 (dA ad n sz) (True)) (dA ad n sz)) 0 0 (dA ad n sz) := by
  refine Met.ofW (cc := cX11_round) (maxL := 3) (ret := (some .int)) (by decide) rfl ?_
  intro p e s m args below meth c s₁ B hml hv
  obtain ⟨rfl, hsz, hW, hK, hGs⟩ := x_start hv
  subst hsz
  have hx := B.exec
  have hb := B.bytes
  have hr := B.returns
  have hts := atoms_spec (ws := wsX11_round) B.pre
  have hown : s.vm.findClass RX11 = some m.cls := findClass_of_methodNamed B.named
  have hlk := B.notSynchronized
  have hC : Cx g p s m _ c cX11_round RX11 wsX11_round 3 := ⟨hx, hb, hml, hown, hts, hK⟩
  have hA : ∀ q : Nat, s.heap.size ≤ q → dA ad n s.heap.size q := fun q h => Or.inr h
  have hS : va_S (dA ad n s.heap.size) s.heap s.heap [] := va_S.rf
  have hl := lv_entry ([.ref (ad p0)]) (n := 3) (Nat.le_of_ble_eq_true rfl)
  rw [lg_entry_eq]
  generalize (lg_sl ([.ref (ad p0)]) ++ List.replicate (3 - (lg_sl ([.ref (ad p0)])).length) Slot.unset).toArray = ls at hl ⊢
  have hl : lv_has ls 3 [(0, .ref (ad p0))] := hl
  have hin11 : ∀ w ∈ wsX110, w ∈ wsX11_round := by decide +kernel
  have w_0 := hts (.fieldLink RX11 17 "MailSpoolModel" "net" "[I") (by decide +kernel)
  have hGE := hGs.2.2.2.2.2.2.1
  have hGM := hGs.2.2.2.2.2.2.2.1
  have L4 : ∀ (fu4 : Nat) (S0 : St) (v0 : Nat) (v1 : Int32) (v2 : Int32) (tv0 : v0 < n ∧ K v0 = 10) (H : Heap) (locs : List Loc) (ls : Array Slot), f_X11_round_L4 F fu4 S0 v0 v1 v2 = some (r9, S9) → Wb g ad n K S0 (dA ad n s.heap.size) H → va_S (dA ad n s.heap.size) s.heap H locs → lv_has ls 3 [(0, .ref (ad v0)), (1, .int v1), (2, .int v2)] → W p l e (headSpec wsX11_round { frames := 2, cells := 0, slots := 0, locals := 46 }).room s m (List.toArray [.ref (ad p0)]) below meth c H locs 0 0 (MQ below (QR (some (.int r9)) (QB g ad n K S9 (dA ad n s.heap.size) (True)) (dA ad n s.heap.size)) (List.toArray [.ref (ad p0)]) s 0 0 (dA ad n s.heap.size)) (F0 m 4 ls []) := by
    intro fu4
    induction fu4 with
    | zero =>
      intro S0 v0 v1 v2 tv0 H locs ls hf
      cases hf
    | succ fu4 ih4 =>
      have L81 : ∀ (S0 : St) (v0 : Nat) (v1 : Int32) (v2 : Int32) (tv0 : v0 < n ∧ K v0 = 10) (H : Heap) (locs : List Loc) (ls : Array Slot), f_X11_round_L81 F (fun a0 a1 a2 a3 => f_X11_round_L4 F fu4 a0 a1 a2 a3) S0 v0 v1 v2 = some (r9, S9) → Wb g ad n K S0 (dA ad n s.heap.size) H → va_S (dA ad n s.heap.size) s.heap H locs → lv_has ls 3 [(0, .ref (ad v0)), (1, .int v1), (2, .int v2)] → W p l e (headSpec wsX11_round { frames := 2, cells := 0, slots := 0, locals := 46 }).room s m (List.toArray [.ref (ad p0)]) below meth c H locs 0 0 (MQ below (QR (some (.int r9)) (QB g ad n K S9 (dA ad n s.heap.size) (True)) (dA ad n s.heap.size)) (List.toArray [.ref (ad p0)]) s 0 0 (dA ad n s.heap.size)) (F0 m 81 ls []) := by
        intro S0 v0 v1 v2 tv0 H locs ls hf hW hS hl
        unfold f_X11_round_L81 at hf
        obtain ⟨x2, ex2⟩ : ∃ z : Int32, z = v2 + 1 := ⟨_, rfl⟩
        replace hf := ltE hf x2 ex2
        refine lv_iinc (v := x2) (lv' := [(2, .int x2), (0, .ref (ad v0)), (1, .int v1)]) hx hb dX11_round_81 hl (k := 2) rfl (by rw [ex2]; rfl) (by decide) rfl (fun ls hl => ?_)
        refine lv_goto (tgt := 4) hx hb dX11_round_84 (by decide) ?_
        exact ih4 S0 v0 v1 x2 tv0 _ _ _ hf hW hS (lv_sub hl [1, 2, 0] rfl)
      intro S0 v0 v1 v2 tv0 H locs ls hf hW hS hl
      unfold f_X11_round_L4 at hf
      refine lv_iload_n hx hb dX11_round_4 rfl (lv_at hl 2 rfl) ?_
      refine lv_aload_n hx hb dX11_round_5 rfl (lv_at hl 0 rfl) ?_
      replace hf := obE hf
      obtain ⟨j37, qj37, hf⟩ := hf
      have tj37 := x_rt hW qj37 12 ⟨by decide, rfl⟩
      refine x_getr 1001 (ci := 10) (C := RX11) (T := TX11) (N := 30) 1 hC hin11 hW tv0 rfl rfl ⟨by decide, by decide, rfl, rfl⟩ rfl w_0 dX11_round_6 qj37 ?_
      refine lv_bipush (v := 8) hx hb dX11_round_9 (by decide) ?_
      replace hf := ckiE hf
      obtain ⟨h38, hf⟩ := hf
      refine x_iald hC hW tj37 rfl rfl h38 dX11_round_11 ?_
      refine lv_icmp_ge (tgt := 87) hx hb dX11_round_12 (by decide) (fun c39 => ?_) (fun c39 => ?_)
      · replace hf := ifT c39 hf
        refine lv_aload_n hx hb dX11_round_87 rfl (lv_at hl 0 rfl) ?_
        refine lv_bipush (v := 9) hx hb dX11_round_88 (by decide) ?_
        refine lv_iload_n hx hb dX11_round_90 rfl (lv_at hl 1 rfl) ?_
        replace hf := obE hf
        obtain ⟨S41, hz40, hf⟩ := hf
        refine x_callV (As := [.int 9, .int v1]) (rest := []) (o := none) (S1 := S41) hC hl.1 hW hS hGs hA tv0 rfl (show vwCl[10]? = some (RX11, TX11, 30) ∧ 10 < 11 from ⟨rfl, by decide⟩) (c_X11_log l g ad n K H.size F S0 v0 ((9 : Int32)) v1 tv0 S41 hz40) (cwV 2 hts gX11_round_X11_log rfl rfl rfl (by decide +kernel) ⟨Nat.le_of_ble_eq_true rfl, Nat.le_of_ble_eq_true rfl⟩) rfl rfl (Nat.le_of_ble_eq_true rfl) dX11_round_91 ⟨Nat.le_of_ble_eq_true rfl, Nat.le_of_ble_eq_true rfl⟩ (fun H locs hPz40 hW hS => ?_)
        refine W.eq (g2 := F0 m 94 ls []) rfl ?_
        refine lv_iload_n hx hb dX11_round_94 rfl (lv_at hl 1 rfl) ?_
        obtain ⟨e1, e2⟩ := so2 hf
        subst e1
        subst e2
        exact W.iret (v := v1) hx hb hr (fun t ht hWm => ⟨⟨rfl, by unfold QB; rw [ht]; exact ⟨hW, trivial⟩⟩, hS.F ht⟩) hS.2.2 dX11_round_95 hlk
      · replace hf := ifF c39 hf
        refine lv_aload_n hx hb dX11_round_15 rfl (lv_at hl 0 rfl) ?_
        refine lv_iload_n hx hb dX11_round_16 rfl (lv_at hl 2 rfl) ?_
        replace hf := obE hf
        obtain ⟨z44, hz44, hf⟩ := hf
        obtain ⟨r46, S45⟩ := z44
        replace hf := ltE (ltE hf r46 rfl) S45 rfl
        refine x_callV (As := [.int v2]) (rest := []) (o := (some (.int r46))) (S1 := S45) hC hl.1 hW hS hGs hA tv0 rfl (show vwCl[10]? = some (RX11, TX11, 30) ∧ 10 < 11 from ⟨rfl, by decide⟩) (c_X11_isStored l g ad n K H.size F S0 v0 v2 tv0 r46 S45 hz44) (cwV 1 hts gX11_round_X11_isStored rfl rfl rfl (by decide +kernel) ⟨Nat.le_of_ble_eq_true rfl, Nat.le_of_ble_eq_true rfl⟩) rfl rfl (Nat.le_of_ble_eq_true rfl) dX11_round_17 ⟨Nat.le_of_ble_eq_true rfl, Nat.le_of_ble_eq_true rfl⟩ (fun H locs hPz44 hW hS => ?_)
        refine W.eq (g2 := F0 m 20 ls [.int r46]) rfl ?_
        refine lv_if_eq (tgt := 81) hx hb dX11_round_20 (by decide) (fun c48 => ?_) (fun c48 => ?_)
        · replace hf := ifT c48 hf
          exact L81 S45 v0 v1 v2 tv0 _ _ _ hf hW hS (lv_sub hl [0, 1, 2] rfl)
        · replace hf := ifF c48 hf
          refine lv_aload_n hx hb dX11_round_23 rfl (lv_at hl 0 rfl) ?_
          refine lv_iload_n hx hb dX11_round_24 rfl (lv_at hl 2 rfl) ?_
          replace hf := obE hf
          obtain ⟨z49, hz49, hf⟩ := hf
          obtain ⟨r51, S50⟩ := z49
          replace hf := ltE (ltE hf r51 rfl) S50 rfl
          refine x_callV (As := [.int v2]) (rest := []) (o := (some (.int r51))) (S1 := S50) hC hl.1 hW hS hGs hA tv0 rfl (show vwCl[10]? = some (RX11, TX11, 30) ∧ 10 < 11 from ⟨rfl, by decide⟩) (c_X11_isDead l g ad n K H.size F S45 v0 v2 tv0 r51 S50 hz49) (cwV 1 hts gX11_round_X11_isDead rfl rfl rfl (by decide +kernel) ⟨Nat.le_of_ble_eq_true rfl, Nat.le_of_ble_eq_true rfl⟩) rfl rfl (Nat.le_of_ble_eq_true rfl) dX11_round_25 ⟨Nat.le_of_ble_eq_true rfl, Nat.le_of_ble_eq_true rfl⟩ (fun H locs hPz49 hW hS => ?_)
          refine W.eq (g2 := F0 m 28 ls [.int r51]) rfl ?_
          refine lv_if_eq (tgt := 81) hx hb dX11_round_28 (by decide) (fun c53 => ?_) (fun c53 => ?_)
          · replace hf := ifT c53 hf
            exact L81 S50 v0 v1 v2 tv0 _ _ _ hf hW hS (lv_sub hl [0, 1, 2] rfl)
          · replace hf := ifF c53 hf
            refine lv_aload_n hx hb dX11_round_31 rfl (lv_at hl 0 rfl) ?_
            replace hf := obE hf
            obtain ⟨j54, qj54, hf⟩ := hf
            have tj54 := x_rt hW qj54 12 ⟨by decide, rfl⟩
            refine x_getr 1001 (ci := 10) (C := RX11) (T := TX11) (N := 30) 1 hC hin11 hW tv0 rfl rfl ⟨by decide, by decide, rfl, rfl⟩ rfl w_0 dX11_round_32 qj54 ?_
            refine lv_iconst (v := 2) hx hb dX11_round_35 (by decide) ?_
            replace hf := ckiE hf
            obtain ⟨h55, hf⟩ := hf
            refine x_iald hC hW tj54 rfl rfl h55 dX11_round_36 ?_
            refine lv_aload_n hx hb dX11_round_37 rfl (lv_at hl 0 rfl) ?_
            refine lv_iload_n hx hb dX11_round_38 rfl (lv_at hl 2 rfl) ?_
            refine lv_iconst (v := 2) hx hb dX11_round_39 (by decide) ?_
            replace hf := obE hf
            obtain ⟨z56, hz56, hf⟩ := hf
            obtain ⟨r58, S57⟩ := z56
            replace hf := ltE (ltE hf r58 rfl) S57 rfl
            refine x_callV (As := [.int v2, .int 2]) (rest := [.int (ai S50 j54 (Int32.toNatClampNeg 2))]) (o := (some (.int r58))) (S1 := S57) hC hl.1 hW hS hGs hA tv0 rfl (show vwCl[10]? = some (RX11, TX11, 30) ∧ 10 < 11 from ⟨rfl, by decide⟩) (c_X11_partValue l g ad n K H.size F S50 v0 v2 ((2 : Int32)) tv0 r58 S57 hz56) (cwV 2 hts gX11_round_X11_partValue rfl rfl rfl (by decide +kernel) ⟨Nat.le_of_ble_eq_true rfl, Nat.le_of_ble_eq_true rfl⟩) rfl rfl (Nat.le_of_ble_eq_true rfl) dX11_round_40 ⟨Nat.le_of_ble_eq_true rfl, Nat.le_of_ble_eq_true rfl⟩ (fun H locs hPz56 hW hS => ?_)
            refine W.eq (g2 := F0 m 43 ls [.int r58, .int (ai S50 j54 (Int32.toNatClampNeg 2))]) rfl ?_
            refine lv_isub hx hb dX11_round_43 ?_
            refine lv_aload_n hx hb dX11_round_44 rfl (lv_at hl 0 rfl) ?_
            replace hf := obE hf
            obtain ⟨j60, qj60, hf⟩ := hf
            have tj60 := x_rt hW qj60 12 ⟨by decide, rfl⟩
            refine x_getr 1001 (ci := 10) (C := RX11) (T := TX11) (N := 30) 1 hC hin11 hW tv0 rfl rfl ⟨by decide, by decide, rfl, rfl⟩ rfl w_0 dX11_round_45 qj60 ?_
            refine lv_iconst (v := 0) hx hb dX11_round_48 (by decide) ?_
            replace hf := ckiE hf
            obtain ⟨h61, hf⟩ := hf
            refine x_iald hC hW tj60 rfl rfl h61 dX11_round_49 ?_
            refine lv_icmp_ge (tgt := 56) hx hb dX11_round_50 (by decide) (fun c62 => ?_) (fun c62 => ?_)
            · replace hf := ifT c62 hf
              refine lv_aload_n hx hb dX11_round_56 rfl (lv_at hl 0 rfl) ?_
              replace hf := obE hf
              obtain ⟨j63, qj63, hf⟩ := hf
              have tj63 := x_rt hW qj63 12 ⟨by decide, rfl⟩
              refine x_getr 1001 (ci := 10) (C := RX11) (T := TX11) (N := 30) 1 hC hin11 hW tv0 rfl rfl ⟨by decide, by decide, rfl, rfl⟩ rfl w_0 dX11_round_57 qj63 ?_
              refine lv_sipush (v := 4771) hx hb dX11_round_60 (by decide) ?_
              refine lv_iconst (v := 3) hx hb dX11_round_63 (by decide) ?_
              refine lv_iload_n hx hb dX11_round_64 rfl (lv_at hl 2 rfl) ?_
              refine lv_imul hx hb dX11_round_65 ?_
              refine lv_iadd hx hb dX11_round_66 ?_
              refine lv_iconst (v := 1) hx hb dX11_round_67 (by decide) ?_
              refine lv_iadd hx hb dX11_round_68 ?_
              refine lv_iconst (v := 0) hx hb dX11_round_69 (by decide) ?_
              replace hf := ckiE hf
              obtain ⟨h64, hf⟩ := hf
              refine x_iast hC hW hS tj63 rfl rfl h64 dX11_round_70 (fun S65 H locs eS65 hW hS => ?_)
              replace hf := ltE hf S65 eS65
              refine lv_aload_n hx hb dX11_round_71 rfl (lv_at hl 0 rfl) ?_
              refine lv_bipush (v := 8) hx hb dX11_round_72 (by decide) ?_
              refine lv_iload_n hx hb dX11_round_74 rfl (lv_at hl 2 rfl) ?_
              replace hf := obE hf
              obtain ⟨S67, hz66, hf⟩ := hf
              refine x_callV (As := [.int 8, .int v2]) (rest := []) (o := none) (S1 := S67) hC hl.1 hW hS hGs hA tv0 rfl (show vwCl[10]? = some (RX11, TX11, 30) ∧ 10 < 11 from ⟨rfl, by decide⟩) (c_X11_log l g ad n K H.size F S65 v0 ((8 : Int32)) v2 tv0 S67 hz66) (cwV 2 hts gX11_round_X11_log rfl rfl rfl (by decide +kernel) ⟨Nat.le_of_ble_eq_true rfl, Nat.le_of_ble_eq_true rfl⟩) rfl rfl (Nat.le_of_ble_eq_true rfl) dX11_round_75 ⟨Nat.le_of_ble_eq_true rfl, Nat.le_of_ble_eq_true rfl⟩ (fun H locs hPz66 hW hS => ?_)
              refine W.eq (g2 := F0 m 78 ls []) rfl ?_
              obtain ⟨x70, ex70⟩ : ∃ z : Int32, z = v1 + 1 := ⟨_, rfl⟩
              replace hf := ltE hf x70 ex70
              refine lv_iinc (v := x70) (lv' := [(1, .int x70), (0, .ref (ad v0)), (2, .int v2)]) hx hb dX11_round_78 hl (k := 1) rfl (by rw [ex70]; rfl) (by decide) rfl (fun ls hl => ?_)
              exact L81 S67 v0 x70 v2 tv0 _ _ _ hf hW hS (lv_sub hl [1, 0, 2] rfl)
            · replace hf := ifF c62 hf
              refine lv_goto (tgt := 81) hx hb dX11_round_53 (by decide) ?_
              exact L81 S57 v0 v1 v2 tv0 _ _ _ hf hW hS (lv_sub hl [0, 1, 2] rfl)
  unfold f_X11_round at hf
  refine lv_iconst (v := 0) hx hb dX11_round_0 (by decide) ?_
  refine lv_istore_n (lv' := [(1, .int 0), (0, .ref (ad p0))]) hx hb dX11_round_1 rfl hl (by decide) rfl (fun ls hl => ?_)
  refine lv_iconst (v := 0) hx hb dX11_round_2 (by decide) ?_
  refine lv_istore_n (lv' := [(2, .int 0), (1, .int 0), (0, .ref (ad p0))]) hx hb dX11_round_3 rfl hl (by decide) rfl (fun ls hl => ?_)
  exact L4 F S0 p0 0 0 tp0 _ _ _ hf hW hS (lv_sub hl [2, 1, 0] rfl)
set_option maxHeartbeats 4000000 in
set_option maxRecDepth 100000 in
theorem c_X11_passDay (l : Launch) (g : GP) (ad : Nat → Nat) (n : Nat) (K : Nat → Nat) (sz F : Nat) (S0 : St) (p0 : Nat) (tp0 : p0 < n ∧ K p0 = 10) (r9 : Int32) (S9 : St) (hf : f_X11_passDay F S0 p0 = some (r9, S9)) : Met l yX11_passDay wsX11_passDay { frames := 10, cells := 0, slots := 0, locals := 234 } (va_Pc [.ref (ad p0)] (PB g ad n K S0 sz)) (QR (some (.int r9)) (QB g ad n K S9 (dA ad n sz) (True)) (dA ad n sz)) 0 0 (dA ad n sz) := by
  refine Met.ofW (cc := cX11_passDay) (maxL := 3) (ret := (some .int)) (by decide) rfl ?_
  intro p e s m args below meth c s₁ B hml hv
  obtain ⟨rfl, hsz, hW, hK, hGs⟩ := x_start hv
  subst hsz
  have hx := B.exec
  have hb := B.bytes
  have hr := B.returns
  have hts := atoms_spec (ws := wsX11_passDay) B.pre
  have hown : s.vm.findClass RX11 = some m.cls := findClass_of_methodNamed B.named
  have hlk := B.notSynchronized
  have hC : Cx g p s m _ c cX11_passDay RX11 wsX11_passDay 3 := ⟨hx, hb, hml, hown, hts, hK⟩
  have hA : ∀ q : Nat, s.heap.size ≤ q → dA ad n s.heap.size q := fun q h => Or.inr h
  have hS : va_S (dA ad n s.heap.size) s.heap s.heap [] := va_S.rf
  have hl := lv_entry ([.ref (ad p0)]) (n := 3) (Nat.le_of_ble_eq_true rfl)
  rw [lg_entry_eq]
  generalize (lg_sl ([.ref (ad p0)]) ++ List.replicate (3 - (lg_sl ([.ref (ad p0)])).length) Slot.unset).toArray = ls at hl ⊢
  have hl : lv_has ls 3 [(0, .ref (ad p0))] := hl
  have hin11 : ∀ w ∈ wsX110, w ∈ wsX11_passDay := by decide +kernel
  have w_0 := hts (.fieldLink RX11 17 "MailSpoolModel" "net" "[I") (by decide +kernel)
  have w_1 := hts (.fieldLink RX11 87 "MailSpoolModel" "isThought" "Z") (by decide +kernel)
  have hGE := hGs.2.2.2.2.2.2.1
  have hGM := hGs.2.2.2.2.2.2.2.1
  have L65 : ∀ (S0 : St) (v0 : Nat) (s0 : Int32) (tv0 : v0 < n ∧ K v0 = 10) (H : Heap) (locs : List Loc) (ls : Array Slot), f_X11_passDay_L65 F S0 v0 s0 = some (r9, S9) → Wb g ad n K S0 (dA ad n s.heap.size) H → va_S (dA ad n s.heap.size) s.heap H locs → lv_has ls 3 [(0, .ref (ad v0))] → W p l e (headSpec wsX11_passDay { frames := 10, cells := 0, slots := 0, locals := 234 }).room s m (List.toArray [.ref (ad p0)]) below meth c H locs 0 0 (MQ below (QR (some (.int r9)) (QB g ad n K S9 (dA ad n s.heap.size) (True)) (dA ad n s.heap.size)) (List.toArray [.ref (ad p0)]) s 0 0 (dA ad n s.heap.size)) (F0 m 65 ls [.int s0]) := by
    intro S0 v0 s0 tv0 H locs ls hf hW hS hl
    unfold f_X11_passDay_L65 at hf
    refine lv_istore_n (lv' := [(2, .int s0), (0, .ref (ad v0))]) hx hb dX11_passDay_65 rfl hl (by decide) rfl (fun ls hl => ?_)
    refine lv_aload_n hx hb dX11_passDay_66 rfl (lv_at hl 1 rfl) ?_
    refine lv_bipush (v := 10) hx hb dX11_passDay_67 (by decide) ?_
    refine lv_aload_n hx hb dX11_passDay_69 rfl (lv_at hl 1 rfl) ?_
    replace hf := obE hf
    obtain ⟨j7, qj7, hf⟩ := hf
    have tj7 := x_rt hW qj7 12 ⟨by decide, rfl⟩
    refine x_getr 1001 (ci := 10) (C := RX11) (T := TX11) (N := 30) 1 hC hin11 hW tv0 rfl rfl ⟨by decide, by decide, rfl, rfl⟩ rfl w_0 dX11_passDay_70 qj7 ?_
    refine lv_iconst (v := 2) hx hb dX11_passDay_73 (by decide) ?_
    replace hf := ckiE hf
    obtain ⟨h8, hf⟩ := hf
    refine x_iald hC hW tj7 rfl rfl h8 dX11_passDay_74 ?_
    replace hf := obE hf
    obtain ⟨S10, hz9, hf⟩ := hf
    refine x_callV (As := [.int 10, .int (ai S0 j7 (Int32.toNatClampNeg 2))]) (rest := []) (o := none) (S1 := S10) hC hl.1 hW hS hGs hA tv0 rfl (show vwCl[10]? = some (RX11, TX11, 30) ∧ 10 < 11 from ⟨rfl, by decide⟩) (c_X11_log l g ad n K H.size F S0 v0 ((10 : Int32)) (ai S0 j7 (Int32.toNatClampNeg 2)) tv0 S10 hz9) (cwV 2 hts gX11_passDay_X11_log rfl rfl rfl (by decide +kernel) ⟨Nat.le_of_ble_eq_true rfl, Nat.le_of_ble_eq_true rfl⟩) rfl rfl (Nat.le_of_ble_eq_true rfl) dX11_passDay_75 ⟨Nat.le_of_ble_eq_true rfl, Nat.le_of_ble_eq_true rfl⟩ (fun H locs hPz9 hW hS => ?_)
    refine W.eq (g2 := F0 m 78 ls []) rfl ?_
    refine lv_iload_n hx hb dX11_passDay_78 rfl (lv_at hl 0 rfl) ?_
    obtain ⟨e1, e2⟩ := so2 hf
    subst e1
    subst e2
    exact W.iret (v := s0) hx hb hr (fun t ht hWm => ⟨⟨rfl, by unfold QB; rw [ht]; exact ⟨hW, trivial⟩⟩, hS.F ht⟩) hS.2.2 dX11_passDay_79 hlk
  have L41 : ∀ (S0 : St) (v0 : Nat) (tv0 : v0 < n ∧ K v0 = 10) (H : Heap) (locs : List Loc) (ls : Array Slot), f_X11_passDay_L41 F S0 v0 = some (r9, S9) → Wb g ad n K S0 (dA ad n s.heap.size) H → va_S (dA ad n s.heap.size) s.heap H locs → lv_has ls 3 [(0, .ref (ad v0))] → W p l e (headSpec wsX11_passDay { frames := 10, cells := 0, slots := 0, locals := 234 }).room s m (List.toArray [.ref (ad p0)]) below meth c H locs 0 0 (MQ below (QR (some (.int r9)) (QB g ad n K S9 (dA ad n s.heap.size) (True)) (dA ad n s.heap.size)) (List.toArray [.ref (ad p0)]) s 0 0 (dA ad n s.heap.size)) (F0 m 41 ls []) := by
    intro S0 v0 tv0 H locs ls hf hW hS hl
    unfold f_X11_passDay_L41 at hf
    refine lv_aload_n hx hb dX11_passDay_41 rfl (lv_at hl 0 rfl) ?_
    replace hf := obE hf
    obtain ⟨j23, qj23, hf⟩ := hf
    have tj23 := x_rt hW qj23 12 ⟨by decide, rfl⟩
    refine x_getr 1001 (ci := 10) (C := RX11) (T := TX11) (N := 30) 1 hC hin11 hW tv0 rfl rfl ⟨by decide, by decide, rfl, rfl⟩ rfl w_0 dX11_passDay_42 qj23 ?_
    refine lv_iconst (v := 2) hx hb dX11_passDay_45 (by decide) ?_
    replace hf := ckiE hf
    obtain ⟨h24, hf⟩ := hf
    refine x_iald hC hW tj23 rfl rfl h24 dX11_passDay_46 ?_
    refine lv_aload_n hx hb dX11_passDay_47 rfl (lv_at hl 0 rfl) ?_
    replace hf := obE hf
    obtain ⟨j25, qj25, hf⟩ := hf
    have tj25 := x_rt hW qj25 12 ⟨by decide, rfl⟩
    refine x_getr 1001 (ci := 10) (C := RX11) (T := TX11) (N := 30) 1 hC hin11 hW tv0 rfl rfl ⟨by decide, by decide, rfl, rfl⟩ rfl w_0 dX11_passDay_48 qj25 ?_
    refine lv_iconst (v := 1) hx hb dX11_passDay_51 (by decide) ?_
    replace hf := ckiE hf
    obtain ⟨h26, hf⟩ := hf
    refine x_iald hC hW tj25 rfl rfl h26 dX11_passDay_52 ?_
    replace hf := ckE hf
    obtain ⟨h27, hf⟩ := hf
    refine lv_irem hx hb dX11_passDay_53 h27 ?_
    refine lv_if_ne (tgt := 64) hx hb dX11_passDay_54 (by decide) (fun c28 => ?_) (fun c28 => ?_)
    · replace hf := ifT c28 hf
      refine lv_iconst (v := 0) hx hb dX11_passDay_64 (by decide) ?_
      exact L65 S0 v0 0 tv0 _ _ _ hf hW hS (lv_sub hl [0] rfl)
    · replace hf := ifF (fun q => q c28) hf
      refine lv_aload_n hx hb dX11_passDay_57 rfl (lv_at hl 0 rfl) ?_
      replace hf := obE hf
      obtain ⟨z29, hz29, hf⟩ := hf
      obtain ⟨r31, S30⟩ := z29
      replace hf := ltE (ltE hf r31 rfl) S30 rfl
      refine x_callV (As := []) (rest := []) (o := (some (.int r31))) (S1 := S30) hC hl.1 hW hS hGs hA tv0 rfl (show vwCl[10]? = some (RX11, TX11, 30) ∧ 10 < 11 from ⟨rfl, by decide⟩) (c_X11_round l g ad n K H.size F S0 v0 tv0 r31 S30 hz29) (cwV 0 hts gX11_passDay_X11_round rfl rfl rfl (by decide +kernel) ⟨Nat.le_of_ble_eq_true rfl, Nat.le_of_ble_eq_true rfl⟩) rfl rfl (Nat.le_of_ble_eq_true rfl) dX11_passDay_58 ⟨Nat.le_of_ble_eq_true rfl, Nat.le_of_ble_eq_true rfl⟩ (fun H locs hPz29 hW hS => ?_)
      refine W.eq (g2 := F0 m 61 ls [.int r31]) rfl ?_
      refine lv_goto (tgt := 65) hx hb dX11_passDay_61 (by decide) ?_
      exact L65 S30 v0 r31 tv0 _ _ _ hf hW hS (lv_sub hl [0] rfl)
  have L29 : ∀ (S0 : St) (v0 : Nat) (s0 : Int32) (tv0 : v0 < n ∧ K v0 = 10) (H : Heap) (locs : List Loc) (ls : Array Slot), f_X11_passDay_L29 F S0 v0 s0 = some (r9, S9) → Wb g ad n K S0 (dA ad n s.heap.size) H → va_S (dA ad n s.heap.size) s.heap H locs → lv_has ls 3 [(0, .ref (ad v0))] → W p l e (headSpec wsX11_passDay { frames := 10, cells := 0, slots := 0, locals := 234 }).room s m (List.toArray [.ref (ad p0)]) below meth c H locs 0 0 (MQ below (QR (some (.int r9)) (QB g ad n K S9 (dA ad n s.heap.size) (True)) (dA ad n s.heap.size)) (List.toArray [.ref (ad p0)]) s 0 0 (dA ad n s.heap.size)) (F0 m 29 ls [.int s0]) := by
    intro S0 v0 s0 tv0 H locs ls hf hW hS hl
    unfold f_X11_passDay_L29 at hf
    refine lv_istore_n (lv' := [(1, .int s0), (0, .ref (ad v0))]) hx hb dX11_passDay_29 rfl hl (by decide) rfl (fun ls hl => ?_)
    refine lv_aload_n hx hb dX11_passDay_30 rfl (lv_at hl 1 rfl) ?_
    refine x_geti 1005 (ci := 10) (C := RX11) (T := TX11) (N := 30) 5 hC hin11 hW tv0 rfl rfl ⟨by decide, by decide, rfl, rfl⟩ rfl w_1 dX11_passDay_31 ?_
    refine lv_if_eq (tgt := 41) hx hb dX11_passDay_34 (by decide) (fun c38 => ?_) (fun c38 => ?_)
    · replace hf := ifT c38 hf
      exact L41 S0 v0 tv0 _ _ _ hf hW hS (lv_sub hl [1] rfl)
    · replace hf := ifF c38 hf
      refine lv_aload_n hx hb dX11_passDay_37 rfl (lv_at hl 1 rfl) ?_
      replace hf := obE hf
      obtain ⟨S40, hz39, hf⟩ := hf
      refine x_callV (As := []) (rest := []) (o := none) (S1 := S40) hC hl.1 hW hS hGs hA tv0 rfl (show vwCl[10]? = some (RX11, TX11, 30) ∧ 10 < 11 from ⟨rfl, by decide⟩) (c_X11_leaveInThought l g ad n K H.size F S0 v0 tv0 S40 hz39) (cwV 0 hts gX11_passDay_X11_leaveInThought rfl rfl rfl (by decide +kernel) ⟨Nat.le_of_ble_eq_true rfl, Nat.le_of_ble_eq_true rfl⟩) rfl rfl (Nat.le_of_ble_eq_true rfl) dX11_passDay_38 ⟨Nat.le_of_ble_eq_true rfl, Nat.le_of_ble_eq_true rfl⟩ (fun H locs hPz39 hW hS => ?_)
      refine W.eq (g2 := F0 m 41 ls []) rfl ?_
      exact L41 S40 v0 tv0 _ _ _ hf hW hS (lv_sub hl [1] rfl)
  have L28 : ∀ (S0 : St) (v0 : Nat) (tv0 : v0 < n ∧ K v0 = 10) (H : Heap) (locs : List Loc) (ls : Array Slot), f_X11_passDay_L28 F S0 v0 = some (r9, S9) → Wb g ad n K S0 (dA ad n s.heap.size) H → va_S (dA ad n s.heap.size) s.heap H locs → lv_has ls 3 [(0, .ref (ad v0))] → W p l e (headSpec wsX11_passDay { frames := 10, cells := 0, slots := 0, locals := 234 }).room s m (List.toArray [.ref (ad p0)]) below meth c H locs 0 0 (MQ below (QR (some (.int r9)) (QB g ad n K S9 (dA ad n s.heap.size) (True)) (dA ad n s.heap.size)) (List.toArray [.ref (ad p0)]) s 0 0 (dA ad n s.heap.size)) (F0 m 28 ls []) := by
    intro S0 v0 tv0 H locs ls hf hW hS hl
    unfold f_X11_passDay_L28 at hf
    refine lv_iconst (v := 0) hx hb dX11_passDay_28 (by decide) ?_
    exact L29 S0 v0 0 tv0 _ _ _ hf hW hS (lv_sub hl [0] rfl)
  unfold f_X11_passDay at hf
  refine lv_aload_n hx hb dX11_passDay_0 rfl (lv_at hl 0 rfl) ?_
  replace hf := obE hf
  obtain ⟨j43, qj43, hf⟩ := hf
  have tj43 := x_rt hW qj43 12 ⟨by decide, rfl⟩
  refine x_getr 1001 (ci := 10) (C := RX11) (T := TX11) (N := 30) 1 hC hin11 hW tp0 rfl rfl ⟨by decide, by decide, rfl, rfl⟩ rfl w_0 dX11_passDay_1 qj43 ?_
  refine lv_iconst (v := 2) hx hb dX11_passDay_4 (by decide) ?_
  refine lv_dup2_11 hx hb dX11_passDay_5 rfl rfl ?_
  replace hf := ckiE hf
  obtain ⟨h44, hf⟩ := hf
  refine x_iald hC hW tj43 rfl rfl h44 dX11_passDay_6 ?_
  refine lv_iconst (v := 1) hx hb dX11_passDay_7 (by decide) ?_
  refine lv_iadd hx hb dX11_passDay_8 ?_
  replace hf := ckiE hf
  obtain ⟨h45, hf⟩ := hf
  refine x_iast hC hW hS tj43 rfl rfl h45 dX11_passDay_9 (fun S46 H locs eS46 hW hS => ?_)
  replace hf := ltE hf S46 eS46
  refine lv_aload_n hx hb dX11_passDay_10 rfl (lv_at hl 0 rfl) ?_
  refine x_geti 1005 (ci := 10) (C := RX11) (T := TX11) (N := 30) 5 hC hin11 hW tp0 rfl rfl ⟨by decide, by decide, rfl, rfl⟩ rfl w_1 dX11_passDay_11 ?_
  refine lv_if_ne (tgt := 28) hx hb dX11_passDay_14 (by decide) (fun c47 => ?_) (fun c47 => ?_)
  · replace hf := ifT c47 hf
    exact L28 S46 p0 tp0 _ _ _ hf hW hS (lv_sub hl [0] rfl)
  · replace hf := ifF (fun q => q c47) hf
    refine lv_aload_n hx hb dX11_passDay_17 rfl (lv_at hl 0 rfl) ?_
    replace hf := obE hf
    obtain ⟨z48, hz48, hf⟩ := hf
    obtain ⟨r50, S49⟩ := z48
    replace hf := ltE (ltE hf r50 rfl) S49 rfl
    refine x_callV (As := []) (rest := []) (o := (some (.int r50))) (S1 := S49) hC hl.1 hW hS hGs hA tp0 rfl (show vwCl[10]? = some (RX11, TX11, 30) ∧ 10 < 11 from ⟨rfl, by decide⟩) (c_X11_leaveAll l g ad n K H.size F S46 p0 tp0 r50 S49 hz48) (cwV 0 hts gX11_passDay_X11_leaveAll rfl rfl rfl (by decide +kernel) ⟨Nat.le_of_ble_eq_true rfl, Nat.le_of_ble_eq_true rfl⟩) rfl rfl (Nat.le_of_ble_eq_true rfl) dX11_passDay_18 ⟨Nat.le_of_ble_eq_true rfl, Nat.le_of_ble_eq_true rfl⟩ (fun H locs hPz48 hW hS => ?_)
    refine W.eq (g2 := F0 m 21 ls [.int r50]) rfl ?_
    refine lv_if_eq (tgt := 28) hx hb dX11_passDay_21 (by decide) (fun c52 => ?_) (fun c52 => ?_)
    · replace hf := ifT c52 hf
      exact L28 S49 p0 tp0 _ _ _ hf hW hS (lv_sub hl [0] rfl)
    · replace hf := ifF c52 hf
      refine lv_iconst (v := 1) hx hb dX11_passDay_24 (by decide) ?_
      refine lv_goto (tgt := 29) hx hb dX11_passDay_25 (by decide) ?_
      exact L29 S49 p0 1 tp0 _ _ _ hf hW hS (lv_sub hl [0] rfl)
set_option maxHeartbeats 4000000 in
set_option maxRecDepth 100000 in
theorem c_X11_advance (l : Launch) (g : GP) (ad : Nat → Nat) (n : Nat) (K : Nat → Nat) (sz F : Nat) (S0 : St) (p0 : Nat) (p1 : Int32) (tp0 : p0 < n ∧ K p0 = 10) (r9 : Int32) (S9 : St) (hf : f_X11_advance F S0 p0 p1 = some (r9, S9)) : Met l yX11_advance wsX11_advance { frames := 11, cells := 0, slots := 0, locals := 256 } (va_Pc [.ref (ad p0), .int p1] (PB g ad n K S0 sz)) (QR (some (.int r9)) (QB g ad n K S9 (dA ad n sz) (True)) (dA ad n sz)) 0 0 (dA ad n sz) := by
  refine Met.ofW (cc := cX11_advance) (maxL := 4) (ret := (some .int)) (by decide) rfl ?_
  intro p e s m args below meth c s₁ B hml hv
  obtain ⟨rfl, hsz, hW, hK, hGs⟩ := x_start hv
  subst hsz
  have hx := B.exec
  have hb := B.bytes
  have hr := B.returns
  have hts := atoms_spec (ws := wsX11_advance) B.pre
  have hown : s.vm.findClass RX11 = some m.cls := findClass_of_methodNamed B.named
  have hlk := B.notSynchronized
  have hC : Cx g p s m _ c cX11_advance RX11 wsX11_advance 4 := ⟨hx, hb, hml, hown, hts, hK⟩
  have hA : ∀ q : Nat, s.heap.size ≤ q → dA ad n s.heap.size q := fun q h => Or.inr h
  have hS : va_S (dA ad n s.heap.size) s.heap s.heap [] := va_S.rf
  have hl := lv_entry ([.ref (ad p0), .int p1]) (n := 4) (Nat.le_of_ble_eq_true rfl)
  rw [lg_entry_eq]
  generalize (lg_sl ([.ref (ad p0), .int p1]) ++ List.replicate (4 - (lg_sl ([.ref (ad p0), .int p1])).length) Slot.unset).toArray = ls at hl ⊢
  have hl : lv_has ls 4 [(0, .ref (ad p0)), (1, .int p1)] := hl
  have hin11 : ∀ w ∈ wsX110, w ∈ wsX11_advance := by decide +kernel
  have w_0 := hts (.constantLong RX11 456 (1000)) (by decide +kernel)
  have w_1 := hts (.fieldLink RX11 17 "MailSpoolModel" "net" "[I") (by decide +kernel)
  have w_2 := hts (.constantLong RX11 458 (20000)) (by decide +kernel)
  have hGE := hGs.2.2.2.2.2.2.1
  have hGM := hGs.2.2.2.2.2.2.2.1
  have L48 : ∀ (fu48 : Nat) (S0 : St) (v0 : Nat) (v1 : Int32) (v2 : Int32) (v3 : Int32) (tv0 : v0 < n ∧ K v0 = 10) (H : Heap) (locs : List Loc) (ls : Array Slot), f_X11_advance_L48 F fu48 S0 v0 v1 v2 v3 = some (r9, S9) → Wb g ad n K S0 (dA ad n s.heap.size) H → va_S (dA ad n s.heap.size) s.heap H locs → lv_has ls 4 [(0, .ref (ad v0)), (1, .int v1), (2, .int v2), (3, .int v3)] → W p l e (headSpec wsX11_advance { frames := 11, cells := 0, slots := 0, locals := 256 }).room s m (List.toArray [.ref (ad p0), .int p1]) below meth c H locs 0 0 (MQ below (QR (some (.int r9)) (QB g ad n K S9 (dA ad n s.heap.size) (True)) (dA ad n s.heap.size)) (List.toArray [.ref (ad p0), .int p1]) s 0 0 (dA ad n s.heap.size)) (F0 m 48 ls []) := by
    intro fu48
    induction fu48 with
    | zero =>
      intro S0 v0 v1 v2 v3 tv0 H locs ls hf
      cases hf
    | succ fu48 ih48 =>
      intro S0 v0 v1 v2 v3 tv0 H locs ls hf hW hS hl
      unfold f_X11_advance_L48 at hf
      refine lv_iload_n hx hb dX11_advance_48 rfl (lv_at hl 3 rfl) ?_
      refine lv_iload_n hx hb dX11_advance_49 rfl (lv_at hl 1 rfl) ?_
      refine lv_icmp_ge (tgt := 66) hx hb dX11_advance_50 (by decide) (fun c8 => ?_) (fun c8 => ?_)
      · replace hf := ifT c8 hf
        refine lv_iload_n hx hb dX11_advance_66 rfl (lv_at hl 2 rfl) ?_
        obtain ⟨e1, e2⟩ := so2 hf
        subst e1
        subst e2
        exact W.iret (v := v2) hx hb hr (fun t ht hWm => ⟨⟨rfl, by unfold QB; rw [ht]; exact ⟨hW, trivial⟩⟩, hS.F ht⟩) hS.2.2 dX11_advance_67 hlk
      · replace hf := ifF c8 hf
        refine lv_iload_n hx hb dX11_advance_53 rfl (lv_at hl 2 rfl) ?_
        refine lv_aload_n hx hb dX11_advance_54 rfl (lv_at hl 0 rfl) ?_
        replace hf := obE hf
        obtain ⟨z9, hz9, hf⟩ := hf
        obtain ⟨r11, S10⟩ := z9
        replace hf := ltE (ltE hf r11 rfl) S10 rfl
        refine x_callV (As := []) (rest := [.int v2]) (o := (some (.int r11))) (S1 := S10) hC hl.1 hW hS hGs hA tv0 rfl (show vwCl[10]? = some (RX11, TX11, 30) ∧ 10 < 11 from ⟨rfl, by decide⟩) (c_X11_passDay l g ad n K H.size F S0 v0 tv0 r11 S10 hz9) (cwV 0 hts gX11_advance_X11_passDay rfl rfl rfl (by decide +kernel) ⟨Nat.le_of_ble_eq_true rfl, Nat.le_of_ble_eq_true rfl⟩) rfl rfl (Nat.le_of_ble_eq_true rfl) dX11_advance_55 ⟨Nat.le_of_ble_eq_true rfl, Nat.le_of_ble_eq_true rfl⟩ (fun H locs hPz9 hW hS => ?_)
        refine W.eq (g2 := F0 m 58 ls [.int r11, .int v2]) rfl ?_
        refine lv_iadd hx hb dX11_advance_58 ?_
        refine lv_topi (fun x13 ex13 => ?_)
        replace hf := ltE hf x13 ex13
        refine lv_istore_n (lv' := [(2, .int x13), (0, .ref (ad v0)), (1, .int v1), (3, .int v3)]) hx hb dX11_advance_59 rfl hl (by decide) rfl (fun ls hl => ?_)
        obtain ⟨x14, ex14⟩ : ∃ z : Int32, z = v3 + 1 := ⟨_, rfl⟩
        replace hf := ltE hf x14 ex14
        refine lv_iinc (v := x14) (lv' := [(3, .int x14), (2, .int x13), (0, .ref (ad v0)), (1, .int v1)]) hx hb dX11_advance_60 hl (k := 3) rfl (by rw [ex14]; rfl) (by decide) rfl (fun ls hl => ?_)
        refine lv_goto (tgt := 48) hx hb dX11_advance_63 (by decide) ?_
        exact ih48 S10 v0 v1 x13 x14 tv0 _ _ _ hf hW hS (lv_sub hl [2, 3, 1, 0] rfl)
  have L32 : ∀ (S0 : St) (v0 : Nat) (v1 : Int32) (s0 : Int32) (s1 : Int32) (s2 : Nat) (tv0 : v0 < n ∧ K v0 = 10) (ts2 : s2 < n ∧ K s2 = 10) (H : Heap) (locs : List Loc) (ls : Array Slot), f_X11_advance_L32 F S0 v0 v1 s0 s1 s2 = some (r9, S9) → Wb g ad n K S0 (dA ad n s.heap.size) H → va_S (dA ad n s.heap.size) s.heap H locs → lv_has ls 4 [(0, .ref (ad v0)), (1, .int v1)] → W p l e (headSpec wsX11_advance { frames := 11, cells := 0, slots := 0, locals := 256 }).room s m (List.toArray [.ref (ad p0), .int p1]) below meth c H locs 0 0 (MQ below (QR (some (.int r9)) (QB g ad n K S9 (dA ad n s.heap.size) (True)) (dA ad n s.heap.size)) (List.toArray [.ref (ad p0), .int p1]) s 0 0 (dA ad n s.heap.size)) (F0 m 32 ls [.int s0, .int s1, .ref (ad s2)]) := by
    intro S0 v0 v1 s0 s1 s2 tv0 ts2 H locs ls hf hW hS hl
    unfold f_X11_advance_L32 at hf
    replace hf := obE hf
    obtain ⟨z24, hz24, hf⟩ := hf
    obtain ⟨r26, S25⟩ := z24
    replace hf := ltE (ltE hf r26 rfl) S25 rfl
    refine x_callV (As := [.int s1, .int s0]) (rest := []) (o := (some (.int r26))) (S1 := S25) hC hl.1 hW hS hGs hA ts2 rfl (show vwCl[10]? = some (RX11, TX11, 30) ∧ 10 < 11 from ⟨rfl, by decide⟩) (c_X11_passes2 l g ad n K H.size F S0 s2 s1 s0 ts2 r26 S25 hz24) (cwV 2 hts gX11_advance_X11_passes2 rfl rfl rfl (by decide +kernel) ⟨Nat.le_of_ble_eq_true rfl, Nat.le_of_ble_eq_true rfl⟩) rfl rfl (Nat.le_of_ble_eq_true rfl) dX11_advance_32 ⟨Nat.le_of_ble_eq_true rfl, Nat.le_of_ble_eq_true rfl⟩ (fun H locs hPz24 hW hS => ?_)
    refine W.eq (g2 := F0 m 35 ls [.int r26]) rfl ?_
    refine lv_if_ne (tgt := 40) hx hb dX11_advance_35 (by decide) (fun c28 => ?_) (fun c28 => ?_)
    · replace hf := ifT c28 hf
      refine lv_aload_n hx hb dX11_advance_40 rfl (lv_at hl 0 rfl) ?_
      replace hf := obE hf
      obtain ⟨S30, hz29, hf⟩ := hf
      refine x_callV (As := []) (rest := []) (o := none) (S1 := S30) hC hl.1 hW hS hGs hA tv0 rfl (show vwCl[10]? = some (RX11, TX11, 30) ∧ 10 < 11 from ⟨rfl, by decide⟩) (c_X11_remember l g ad n K H.size F S25 v0 tv0 S30 hz29) (cwV 0 hts gX11_advance_X11_remember rfl rfl rfl (by decide +kernel) ⟨Nat.le_of_ble_eq_true rfl, Nat.le_of_ble_eq_true rfl⟩) rfl rfl (Nat.le_of_ble_eq_true rfl) dX11_advance_41 ⟨Nat.le_of_ble_eq_true rfl, Nat.le_of_ble_eq_true rfl⟩ (fun H locs hPz29 hW hS => ?_)
      refine W.eq (g2 := F0 m 44 ls []) rfl ?_
      refine lv_iconst (v := 0) hx hb dX11_advance_44 (by decide) ?_
      refine lv_istore_n (lv' := [(2, .int 0), (0, .ref (ad v0)), (1, .int v1)]) hx hb dX11_advance_45 rfl hl (by decide) rfl (fun ls hl => ?_)
      refine lv_iconst (v := 0) hx hb dX11_advance_46 (by decide) ?_
      refine lv_istore_n (lv' := [(3, .int 0), (2, .int 0), (0, .ref (ad v0)), (1, .int v1)]) hx hb dX11_advance_47 rfl hl (by decide) rfl (fun ls hl => ?_)
      exact L48 F S30 v0 v1 0 0 tv0 _ _ _ hf hW hS (lv_sub hl [2, 3, 1, 0] rfl)
    · replace hf := ifF (fun q => q c28) hf
      refine lv_iconst (v := 0) hx hb dX11_advance_38 (by decide) ?_
      obtain ⟨e1, e2⟩ := so2 hf
      subst e1
      subst e2
      exact W.iret (v := 0) hx hb hr (fun t ht hWm => ⟨⟨rfl, by unfold QB; rw [ht]; exact ⟨hW, trivial⟩⟩, hS.F ht⟩) hS.2.2 dX11_advance_39 hlk
  unfold f_X11_advance at hf
  refine lv_aload_n hx hb dX11_advance_0 rfl (lv_at hl 0 rfl) ?_
  refine lv_iload_n hx hb dX11_advance_1 rfl (lv_at hl 1 rfl) ?_
  refine lv_i2l (v := p1.toInt64) hx hb dX11_advance_2 rfl ?_
  refine lv_lconst (v := 1) hx hb dX11_advance_3 (by decide) ?_
  refine lv_ldc2 (v := (1000)) hx hb hown w_0 dX11_advance_4 ?_
  replace hf := obE hf
  obtain ⟨z33, hz33, hf⟩ := hf
  obtain ⟨r35, S34⟩ := z33
  replace hf := ltE (ltE hf r35 rfl) S34 rfl
  refine x_callS (As := [.long (p1.toInt64), .long (1), .long ((1000))]) (rest := [.ref (ad p0)]) (o := (some (.int r35))) (S1 := S34) hC hl.1 hW hS hGs hA (c_X11_in l g ad n K s.heap.size F S0 p1.toInt64 ((1 : Int64)) (((1000) : Int64)) r35 S34 hz33) (va_cwS 3 hts gX11_advance_X11_in rfl rfl rfl (by decide +kernel) ⟨Nat.le_of_ble_eq_true rfl, Nat.le_of_ble_eq_true rfl⟩) rfl rfl (Nat.le_of_ble_eq_true rfl) dX11_advance_7 ⟨Nat.le_of_ble_eq_true rfl, Nat.le_of_ble_eq_true rfl⟩ (fun H locs hPz33 hW hS => ?_)
  refine W.eq (g2 := F0 m 10 ls [.int r35, .ref (ad p0)]) rfl ?_
  refine lv_aload_n hx hb dX11_advance_10 rfl (lv_at hl 0 rfl) ?_
  replace hf := obE hf
  obtain ⟨j37, qj37, hf⟩ := hf
  have tj37 := x_rt hW qj37 12 ⟨by decide, rfl⟩
  refine x_getr 1001 (ci := 10) (C := RX11) (T := TX11) (N := 30) 1 hC hin11 hW tp0 rfl rfl ⟨by decide, by decide, rfl, rfl⟩ rfl w_1 dX11_advance_11 qj37 ?_
  refine lv_iconst (v := 2) hx hb dX11_advance_14 (by decide) ?_
  replace hf := ckiE hf
  obtain ⟨h38, hf⟩ := hf
  refine x_iald hC hW tj37 rfl rfl h38 dX11_advance_15 ?_
  refine lv_i2l (v := (ai S34 j37 (Int32.toNatClampNeg 2)).toInt64) hx hb dX11_advance_16 rfl ?_
  refine lv_iload_n hx hb dX11_advance_17 rfl (lv_at hl 1 rfl) ?_
  refine lv_i2l (v := p1.toInt64) hx hb dX11_advance_18 rfl ?_
  refine lv_ladd hx hb dX11_advance_19 ?_
  refine lv_ldc2 (v := (20000)) hx hb hown w_2 dX11_advance_20 ?_
  refine W.lcmp hx hb dX11_advance_23 ?_
  refine lv_if_gt (tgt := 31) hx hb dX11_advance_24 (by decide) (fun c39 => ?_) (fun c39 => ?_)
  · replace hf := ifT c39 hf
    refine lv_iconst (v := 0) hx hb dX11_advance_31 (by decide) ?_
    exact L32 S34 p0 p1 0 r35 p0 tp0 tp0 _ _ _ hf hW hS (lv_sub hl [0, 1] rfl)
  · replace hf := ifF c39 hf
    refine lv_iconst (v := 1) hx hb dX11_advance_27 (by decide) ?_
    refine lv_goto (tgt := 32) hx hb dX11_advance_28 (by decide) ?_
    exact L32 S34 p0 p1 1 r35 p0 tp0 tp0 _ _ _ hf hW hS (lv_sub hl [0, 1] rfl)
set_option maxHeartbeats 4000000 in
set_option maxRecDepth 100000 in
theorem c_X11_nextRound (l : Launch) (g : GP) (ad : Nat → Nat) (n : Nat) (K : Nat → Nat) (sz F : Nat) (S0 : St) (p0 : Nat) (tp0 : p0 < n ∧ K p0 = 10) (r9 : Int32) (S9 : St) (hf : f_X11_nextRound F S0 p0 = some (r9, S9)) : Met l yX11_nextRound wsX11_nextRound { frames := 0, cells := 0, slots := 0, locals := 0 } (va_Pc [.ref (ad p0)] (PB g ad n K S0 sz)) (QR (some (.int r9)) (QB g ad n K S9 (dA ad n sz) (True)) (dA ad n sz)) 0 0 (dA ad n sz) := by
  refine Met.ofW (cc := cX11_nextRound) (maxL := 1) (ret := (some .int)) (by decide) rfl ?_
  intro p e s m args below meth c s₁ B hml hv
  obtain ⟨rfl, hsz, hW, hK, hGs⟩ := x_start hv
  subst hsz
  have hx := B.exec
  have hb := B.bytes
  have hr := B.returns
  have hts := atoms_spec (ws := wsX11_nextRound) B.pre
  have hown : s.vm.findClass RX11 = some m.cls := findClass_of_methodNamed B.named
  have hlk := B.notSynchronized
  have hC : Cx g p s m _ c cX11_nextRound RX11 wsX11_nextRound 1 := ⟨hx, hb, hml, hown, hts, hK⟩
  have hA : ∀ q : Nat, s.heap.size ≤ q → dA ad n s.heap.size q := fun q h => Or.inr h
  have hS : va_S (dA ad n s.heap.size) s.heap s.heap [] := va_S.rf
  have hl := lv_entry ([.ref (ad p0)]) (n := 1) (Nat.le_of_ble_eq_true rfl)
  rw [lg_entry_eq]
  generalize (lg_sl ([.ref (ad p0)]) ++ List.replicate (1 - (lg_sl ([.ref (ad p0)])).length) Slot.unset).toArray = ls at hl ⊢
  have hl : lv_has ls 1 [(0, .ref (ad p0))] := hl
  have hin11 : ∀ w ∈ wsX110, w ∈ wsX11_nextRound := by decide +kernel
  have w_0 := hts (.fieldLink RX11 3 "MailSpoolModel" "thrown" "I") (by decide +kernel)
  have w_1 := hts (.fieldLink RX11 17 "MailSpoolModel" "net" "[I") (by decide +kernel)
  have hGE := hGs.2.2.2.2.2.2.1
  have hGM := hGs.2.2.2.2.2.2.2.1
  unfold f_X11_nextRound at hf
  refine lv_aload_n hx hb dX11_nextRound_0 rfl (lv_at hl 0 rfl) ?_
  refine lv_iconst (v := 0) hx hb dX11_nextRound_1 (by decide) ?_
  refine x_puti 1000 (ci := 10) (C := RX11) (T := TX11) (N := 30) (v := 0) (ty := .int) 0 hC hin11 tyX11_ok nmX11 hW hS tp0 rfl rfl ⟨by decide, by decide, rfl, rfl⟩ rfl w_0 rfl (by decide +kernel) rfl rfl dX11_nextRound_2 (fun S1 H locs eS1 hW hS => ?_)
  replace hf := ltE hf S1 eS1
  refine lv_aload_n hx hb dX11_nextRound_5 rfl (lv_at hl 0 rfl) ?_
  replace hf := obE hf
  obtain ⟨j2, qj2, hf⟩ := hf
  have tj2 := x_rt hW qj2 12 ⟨by decide, rfl⟩
  refine x_getr 1001 (ci := 10) (C := RX11) (T := TX11) (N := 30) 1 hC hin11 hW tp0 rfl rfl ⟨by decide, by decide, rfl, rfl⟩ rfl w_1 dX11_nextRound_6 qj2 ?_
  refine lv_iconst (v := 2) hx hb dX11_nextRound_9 (by decide) ?_
  replace hf := ckiE hf
  obtain ⟨h3, hf⟩ := hf
  refine x_iald hC hW tj2 rfl rfl h3 dX11_nextRound_10 ?_
  refine lv_aload_n hx hb dX11_nextRound_11 rfl (lv_at hl 0 rfl) ?_
  replace hf := obE hf
  obtain ⟨j4, qj4, hf⟩ := hf
  have tj4 := x_rt hW qj4 12 ⟨by decide, rfl⟩
  refine x_getr 1001 (ci := 10) (C := RX11) (T := TX11) (N := 30) 1 hC hin11 hW tp0 rfl rfl ⟨by decide, by decide, rfl, rfl⟩ rfl w_1 dX11_nextRound_12 qj4 ?_
  refine lv_iconst (v := 1) hx hb dX11_nextRound_15 (by decide) ?_
  replace hf := ckiE hf
  obtain ⟨h5, hf⟩ := hf
  refine x_iald hC hW tj4 rfl rfl h5 dX11_nextRound_16 ?_
  replace hf := ckE hf
  obtain ⟨h6, hf⟩ := hf
  refine lv_idiv hx hb dX11_nextRound_17 h6 ?_
  refine lv_iconst (v := 1) hx hb dX11_nextRound_18 (by decide) ?_
  refine lv_iadd hx hb dX11_nextRound_19 ?_
  refine lv_aload_n hx hb dX11_nextRound_20 rfl (lv_at hl 0 rfl) ?_
  replace hf := obE hf
  obtain ⟨j7, qj7, hf⟩ := hf
  have tj7 := x_rt hW qj7 12 ⟨by decide, rfl⟩
  refine x_getr 1001 (ci := 10) (C := RX11) (T := TX11) (N := 30) 1 hC hin11 hW tp0 rfl rfl ⟨by decide, by decide, rfl, rfl⟩ rfl w_1 dX11_nextRound_21 qj7 ?_
  refine lv_iconst (v := 1) hx hb dX11_nextRound_24 (by decide) ?_
  replace hf := ckiE hf
  obtain ⟨h8, hf⟩ := hf
  refine x_iald hC hW tj7 rfl rfl h8 dX11_nextRound_25 ?_
  refine lv_imul hx hb dX11_nextRound_26 ?_
  obtain ⟨e1, e2⟩ := so2 hf
  subst e1
  subst e2
  exact W.iret (v := (((ai S1 j2 (Int32.toNatClampNeg 2)) / (ai S1 j4 (Int32.toNatClampNeg 1))) + 1) * (ai S1 j7 (Int32.toNatClampNeg 1))) hx hb hr (fun t ht hWm => ⟨⟨rfl, by unfold QB; rw [ht]; exact ⟨hW, trivial⟩⟩, hS.F ht⟩) hS.2.2 dX11_nextRound_27 hlk
set_option maxHeartbeats 4000000 in
set_option maxRecDepth 100000 in
theorem c_X11_beginThought (l : Launch) (g : GP) (ad : Nat → Nat) (n : Nat) (K : Nat → Nat) (sz F : Nat) (S0 : St) (p0 : Nat) (tp0 : p0 < n ∧ K p0 = 10) (S9 : St) (hf : f_X11_beginThought F S0 p0 = some S9) : Met l yX11_beginThought wsX11_beginThought { frames := 0, cells := 0, slots := 0, locals := 0 } (va_Pc [.ref (ad p0)] (PB g ad n K S0 sz)) (QR none (QB g ad n K S9 (dA ad n sz) (True)) (dA ad n sz)) 0 0 (dA ad n sz) := by
  refine Met.ofW (cc := cX11_beginThought) (maxL := 2) (ret := none) (by decide) rfl ?_
  intro p e s m args below meth c s₁ B hml hv
  obtain ⟨rfl, hsz, hW, hK, hGs⟩ := x_start hv
  subst hsz
  have hx := B.exec
  have hb := B.bytes
  have hr := B.returns
  have hts := atoms_spec (ws := wsX11_beginThought) B.pre
  have hown : s.vm.findClass RX11 = some m.cls := findClass_of_methodNamed B.named
  have hlk := B.notSynchronized
  have hC : Cx g p s m _ c cX11_beginThought RX11 wsX11_beginThought 2 := ⟨hx, hb, hml, hown, hts, hK⟩
  have hA : ∀ q : Nat, s.heap.size ≤ q → dA ad n s.heap.size q := fun q h => Or.inr h
  have hS : va_S (dA ad n s.heap.size) s.heap s.heap [] := va_S.rf
  have hl := lv_entry ([.ref (ad p0)]) (n := 2) (Nat.le_of_ble_eq_true rfl)
  rw [lg_entry_eq]
  generalize (lg_sl ([.ref (ad p0)]) ++ List.replicate (2 - (lg_sl ([.ref (ad p0)])).length) Slot.unset).toArray = ls at hl ⊢
  have hl : lv_has ls 2 [(0, .ref (ad p0))] := hl
  have hin11 : ∀ w ∈ wsX110, w ∈ wsX11_beginThought := by decide +kernel
  have w_0 := hts (.fieldLink RX11 87 "MailSpoolModel" "isThought" "Z") (by decide +kernel)
  have w_1 := hts (.fieldLink RX11 442 "MailSpoolModel" "isQuiet" "Z") (by decide +kernel)
  have w_2 := hts (.fieldLink RX11 50 "MailSpoolModel" "aside" "[I") (by decide +kernel)
  have w_3 := hts (.fieldLink RX11 17 "MailSpoolModel" "net" "[I") (by decide +kernel)
  have hGE := hGs.2.2.2.2.2.2.1
  have hGM := hGs.2.2.2.2.2.2.2.1
  have L2 : ∀ (fu2 : Nat) (S0 : St) (v0 : Nat) (v1 : Int32) (tv0 : v0 < n ∧ K v0 = 10) (H : Heap) (locs : List Loc) (ls : Array Slot), f_X11_beginThought_L2 F fu2 S0 v0 v1 = some S9 → Wb g ad n K S0 (dA ad n s.heap.size) H → va_S (dA ad n s.heap.size) s.heap H locs → lv_has ls 2 [(0, .ref (ad v0)), (1, .int v1)] → W p l e (headSpec wsX11_beginThought { frames := 0, cells := 0, slots := 0, locals := 0 }).room s m (List.toArray [.ref (ad p0)]) below meth c H locs 0 0 (MQ below (QR none (QB g ad n K S9 (dA ad n s.heap.size) (True)) (dA ad n s.heap.size)) (List.toArray [.ref (ad p0)]) s 0 0 (dA ad n s.heap.size)) (F0 m 2 ls []) := by
    intro fu2
    induction fu2 with
    | zero =>
      intro S0 v0 v1 tv0 H locs ls hf
      cases hf
    | succ fu2 ih2 =>
      intro S0 v0 v1 tv0 H locs ls hf hW hS hl
      unfold f_X11_beginThought_L2 at hf
      refine lv_iload_n hx hb dX11_beginThought_2 rfl (lv_at hl 1 rfl) ?_
      refine lv_sipush (v := 6391) hx hb dX11_beginThought_3 (by decide) ?_
      refine lv_icmp_ge (tgt := 27) hx hb dX11_beginThought_6 (by decide) (fun c10 => ?_) (fun c10 => ?_)
      · replace hf := ifT c10 hf
        refine lv_aload_n hx hb dX11_beginThought_27 rfl (lv_at hl 0 rfl) ?_
        refine lv_iconst (v := 1) hx hb dX11_beginThought_28 (by decide) ?_
        refine x_puti 1005 (ci := 10) (C := RX11) (T := TX11) (N := 30) (v := 1) (ty := .boolean) 5 hC hin11 tyX11_ok nmX11 hW hS tv0 rfl rfl ⟨by decide, by decide, rfl, rfl⟩ rfl w_0 rfl (by decide +kernel) rfl rfl dX11_beginThought_29 (fun S11 H locs eS11 hW hS => ?_)
        replace hf := ltE hf S11 eS11
        refine lv_aload_n hx hb dX11_beginThought_32 rfl (lv_at hl 0 rfl) ?_
        refine lv_iconst (v := 0) hx hb dX11_beginThought_33 (by decide) ?_
        refine x_puti 1021 (ci := 10) (C := RX11) (T := TX11) (N := 30) (v := 0) (ty := .boolean) 21 hC hin11 tyX11_ok nmX11 hW hS tv0 rfl rfl ⟨by decide, by decide, rfl, rfl⟩ rfl w_1 rfl (by decide +kernel) rfl rfl dX11_beginThought_34 (fun S12 H locs eS12 hW hS => ?_)
        replace hf := ltE hf S12 eS12
        have e1 := Option.some.inj hf
        subst e1
        exact W.vret hx hb hr (fun t ht hWm => ⟨⟨rfl, by unfold QB; rw [ht]; exact ⟨hW, trivial⟩⟩, hS.F ht⟩) hS.2.2 dX11_beginThought_37 hlk
      · replace hf := ifF c10 hf
        refine lv_aload_n hx hb dX11_beginThought_9 rfl (lv_at hl 0 rfl) ?_
        replace hf := obE hf
        obtain ⟨j13, qj13, hf⟩ := hf
        have tj13 := x_rt hW qj13 12 ⟨by decide, rfl⟩
        refine x_getr 1023 (ci := 10) (C := RX11) (T := TX11) (N := 30) 23 hC hin11 hW tv0 rfl rfl ⟨by decide, by decide, rfl, rfl⟩ rfl w_2 dX11_beginThought_10 qj13 ?_
        refine lv_iload_n hx hb dX11_beginThought_13 rfl (lv_at hl 1 rfl) ?_
        refine lv_aload_n hx hb dX11_beginThought_14 rfl (lv_at hl 0 rfl) ?_
        replace hf := obE hf
        obtain ⟨j14, qj14, hf⟩ := hf
        have tj14 := x_rt hW qj14 12 ⟨by decide, rfl⟩
        refine x_getr 1001 (ci := 10) (C := RX11) (T := TX11) (N := 30) 1 hC hin11 hW tv0 rfl rfl ⟨by decide, by decide, rfl, rfl⟩ rfl w_3 dX11_beginThought_15 qj14 ?_
        refine lv_iload_n hx hb dX11_beginThought_18 rfl (lv_at hl 1 rfl) ?_
        replace hf := ckiE hf
        obtain ⟨h15, hf⟩ := hf
        refine x_iald hC hW tj14 rfl rfl h15 dX11_beginThought_19 ?_
        replace hf := ckiE hf
        obtain ⟨h16, hf⟩ := hf
        refine x_iast hC hW hS tj13 rfl rfl h16 dX11_beginThought_20 (fun S17 H locs eS17 hW hS => ?_)
        replace hf := ltE hf S17 eS17
        obtain ⟨x18, ex18⟩ : ∃ z : Int32, z = v1 + 1 := ⟨_, rfl⟩
        replace hf := ltE hf x18 ex18
        refine lv_iinc (v := x18) (lv' := [(1, .int x18), (0, .ref (ad v0))]) hx hb dX11_beginThought_21 hl (k := 1) rfl (by rw [ex18]; rfl) (by decide) rfl (fun ls hl => ?_)
        refine lv_goto (tgt := 2) hx hb dX11_beginThought_24 (by decide) ?_
        exact ih2 S17 v0 x18 tv0 _ _ _ hf hW hS (lv_sub hl [1, 0] rfl)
  unfold f_X11_beginThought at hf
  refine lv_iconst (v := 0) hx hb dX11_beginThought_0 (by decide) ?_
  refine lv_istore_n (lv' := [(1, .int 0), (0, .ref (ad p0))]) hx hb dX11_beginThought_1 rfl hl (by decide) rfl (fun ls hl => ?_)
  exact L2 F S0 p0 0 tp0 _ _ _ hf hW hS (lv_sub hl [1, 0] rfl)
set_option maxHeartbeats 4000000 in
set_option maxRecDepth 100000 in
theorem c_X11_endThought (l : Launch) (g : GP) (ad : Nat → Nat) (n : Nat) (K : Nat → Nat) (sz F : Nat) (S0 : St) (p0 : Nat) (tp0 : p0 < n ∧ K p0 = 10) (S9 : St) (hf : f_X11_endThought F S0 p0 = some S9) : Met l yX11_endThought wsX11_endThought { frames := 0, cells := 0, slots := 0, locals := 0 } (va_Pc [.ref (ad p0)] (PB g ad n K S0 sz)) (QR none (QB g ad n K S9 (dA ad n sz) (True)) (dA ad n sz)) 0 0 (dA ad n sz) := by
  refine Met.ofW (cc := cX11_endThought) (maxL := 2) (ret := none) (by decide) rfl ?_
  intro p e s m args below meth c s₁ B hml hv
  obtain ⟨rfl, hsz, hW, hK, hGs⟩ := x_start hv
  subst hsz
  have hx := B.exec
  have hb := B.bytes
  have hr := B.returns
  have hts := atoms_spec (ws := wsX11_endThought) B.pre
  have hown : s.vm.findClass RX11 = some m.cls := findClass_of_methodNamed B.named
  have hlk := B.notSynchronized
  have hC : Cx g p s m _ c cX11_endThought RX11 wsX11_endThought 2 := ⟨hx, hb, hml, hown, hts, hK⟩
  have hA : ∀ q : Nat, s.heap.size ≤ q → dA ad n s.heap.size q := fun q h => Or.inr h
  have hS : va_S (dA ad n s.heap.size) s.heap s.heap [] := va_S.rf
  have hl := lv_entry ([.ref (ad p0)]) (n := 2) (Nat.le_of_ble_eq_true rfl)
  rw [lg_entry_eq]
  generalize (lg_sl ([.ref (ad p0)]) ++ List.replicate (2 - (lg_sl ([.ref (ad p0)])).length) Slot.unset).toArray = ls at hl ⊢
  have hl : lv_has ls 2 [(0, .ref (ad p0))] := hl
  have hin11 : ∀ w ∈ wsX110, w ∈ wsX11_endThought := by decide +kernel
  have w_0 := hts (.fieldLink RX11 87 "MailSpoolModel" "isThought" "Z") (by decide +kernel)
  have w_1 := hts (.fieldLink RX11 17 "MailSpoolModel" "net" "[I") (by decide +kernel)
  have w_2 := hts (.fieldLink RX11 50 "MailSpoolModel" "aside" "[I") (by decide +kernel)
  have hGE := hGs.2.2.2.2.2.2.1
  have hGM := hGs.2.2.2.2.2.2.2.1
  have L2 : ∀ (fu2 : Nat) (S0 : St) (v0 : Nat) (v1 : Int32) (tv0 : v0 < n ∧ K v0 = 10) (H : Heap) (locs : List Loc) (ls : Array Slot), f_X11_endThought_L2 F fu2 S0 v0 v1 = some S9 → Wb g ad n K S0 (dA ad n s.heap.size) H → va_S (dA ad n s.heap.size) s.heap H locs → lv_has ls 2 [(0, .ref (ad v0)), (1, .int v1)] → W p l e (headSpec wsX11_endThought { frames := 0, cells := 0, slots := 0, locals := 0 }).room s m (List.toArray [.ref (ad p0)]) below meth c H locs 0 0 (MQ below (QR none (QB g ad n K S9 (dA ad n s.heap.size) (True)) (dA ad n s.heap.size)) (List.toArray [.ref (ad p0)]) s 0 0 (dA ad n s.heap.size)) (F0 m 2 ls []) := by
    intro fu2
    induction fu2 with
    | zero =>
      intro S0 v0 v1 tv0 H locs ls hf
      cases hf
    | succ fu2 ih2 =>
      intro S0 v0 v1 tv0 H locs ls hf hW hS hl
      unfold f_X11_endThought_L2 at hf
      refine lv_iload_n hx hb dX11_endThought_2 rfl (lv_at hl 1 rfl) ?_
      refine lv_sipush (v := 6391) hx hb dX11_endThought_3 (by decide) ?_
      refine lv_icmp_ge (tgt := 27) hx hb dX11_endThought_6 (by decide) (fun c9 => ?_) (fun c9 => ?_)
      · replace hf := ifT c9 hf
        refine lv_aload_n hx hb dX11_endThought_27 rfl (lv_at hl 0 rfl) ?_
        refine lv_iconst (v := 0) hx hb dX11_endThought_28 (by decide) ?_
        refine x_puti 1005 (ci := 10) (C := RX11) (T := TX11) (N := 30) (v := 0) (ty := .boolean) 5 hC hin11 tyX11_ok nmX11 hW hS tv0 rfl rfl ⟨by decide, by decide, rfl, rfl⟩ rfl w_0 rfl (by decide +kernel) rfl rfl dX11_endThought_29 (fun S10 H locs eS10 hW hS => ?_)
        replace hf := ltE hf S10 eS10
        have e1 := Option.some.inj hf
        subst e1
        exact W.vret hx hb hr (fun t ht hWm => ⟨⟨rfl, by unfold QB; rw [ht]; exact ⟨hW, trivial⟩⟩, hS.F ht⟩) hS.2.2 dX11_endThought_32 hlk
      · replace hf := ifF c9 hf
        refine lv_aload_n hx hb dX11_endThought_9 rfl (lv_at hl 0 rfl) ?_
        replace hf := obE hf
        obtain ⟨j11, qj11, hf⟩ := hf
        have tj11 := x_rt hW qj11 12 ⟨by decide, rfl⟩
        refine x_getr 1001 (ci := 10) (C := RX11) (T := TX11) (N := 30) 1 hC hin11 hW tv0 rfl rfl ⟨by decide, by decide, rfl, rfl⟩ rfl w_1 dX11_endThought_10 qj11 ?_
        refine lv_iload_n hx hb dX11_endThought_13 rfl (lv_at hl 1 rfl) ?_
        refine lv_aload_n hx hb dX11_endThought_14 rfl (lv_at hl 0 rfl) ?_
        replace hf := obE hf
        obtain ⟨j12, qj12, hf⟩ := hf
        have tj12 := x_rt hW qj12 12 ⟨by decide, rfl⟩
        refine x_getr 1023 (ci := 10) (C := RX11) (T := TX11) (N := 30) 23 hC hin11 hW tv0 rfl rfl ⟨by decide, by decide, rfl, rfl⟩ rfl w_2 dX11_endThought_15 qj12 ?_
        refine lv_iload_n hx hb dX11_endThought_18 rfl (lv_at hl 1 rfl) ?_
        replace hf := ckiE hf
        obtain ⟨h13, hf⟩ := hf
        refine x_iald hC hW tj12 rfl rfl h13 dX11_endThought_19 ?_
        replace hf := ckiE hf
        obtain ⟨h14, hf⟩ := hf
        refine x_iast hC hW hS tj11 rfl rfl h14 dX11_endThought_20 (fun S15 H locs eS15 hW hS => ?_)
        replace hf := ltE hf S15 eS15
        obtain ⟨x16, ex16⟩ : ∃ z : Int32, z = v1 + 1 := ⟨_, rfl⟩
        replace hf := ltE hf x16 ex16
        refine lv_iinc (v := x16) (lv' := [(1, .int x16), (0, .ref (ad v0))]) hx hb dX11_endThought_21 hl (k := 1) rfl (by rw [ex16]; rfl) (by decide) rfl (fun ls hl => ?_)
        refine lv_goto (tgt := 2) hx hb dX11_endThought_24 (by decide) ?_
        exact ih2 S15 v0 x16 tv0 _ _ _ hf hW hS (lv_sub hl [1, 0] rfl)
  unfold f_X11_endThought at hf
  refine lv_iconst (v := 0) hx hb dX11_endThought_0 (by decide) ?_
  refine lv_istore_n (lv' := [(1, .int 0), (0, .ref (ad p0))]) hx hb dX11_endThought_1 rfl hl (by decide) rfl (fun ls hl => ?_)
  exact L2 F S0 p0 0 tp0 _ _ _ hf hW hS (lv_sub hl [1, 0] rfl)
set_option maxHeartbeats 4000000 in
set_option maxRecDepth 100000 in
theorem c_X11_removedOn (l : Launch) (g : GP) (ad : Nat → Nat) (n : Nat) (K : Nat → Nat) (sz F : Nat) (S0 : St) (p0 : Nat) (p1 : Int32) (tp0 : p0 < n ∧ K p0 = 10) (r9 : Int32) (S9 : St) (hf : f_X11_removedOn F S0 p0 p1 = some (r9, S9)) : Met l yX11_removedOn wsX11_removedOn { frames := 11, cells := 0, slots := 0, locals := 256 } (va_Pc [.ref (ad p0), .int p1] (PB g ad n K S0 sz)) (QR (some (.int r9)) (QB g ad n K S9 (dA ad n sz) (True)) (dA ad n sz)) 0 0 (dA ad n sz) := by
  refine Met.ofW (cc := cX11_removedOn) (maxL := 3) (ret := (some .int)) (by decide) rfl ?_
  intro p e s m args below meth c s₁ B hml hv
  obtain ⟨rfl, hsz, hW, hK, hGs⟩ := x_start hv
  subst hsz
  have hx := B.exec
  have hb := B.bytes
  have hr := B.returns
  have hts := atoms_spec (ws := wsX11_removedOn) B.pre
  have hown : s.vm.findClass RX11 = some m.cls := findClass_of_methodNamed B.named
  have hlk := B.notSynchronized
  have hC : Cx g p s m _ c cX11_removedOn RX11 wsX11_removedOn 3 := ⟨hx, hb, hml, hown, hts, hK⟩
  have hA : ∀ q : Nat, s.heap.size ≤ q → dA ad n s.heap.size q := fun q h => Or.inr h
  have hS : va_S (dA ad n s.heap.size) s.heap s.heap [] := va_S.rf
  have hl := lv_entry ([.ref (ad p0), .int p1]) (n := 3) (Nat.le_of_ble_eq_true rfl)
  rw [lg_entry_eq]
  generalize (lg_sl ([.ref (ad p0), .int p1]) ++ List.replicate (3 - (lg_sl ([.ref (ad p0), .int p1])).length) Slot.unset).toArray = ls at hl ⊢
  have hl : lv_has ls 3 [(0, .ref (ad p0)), (1, .int p1)] := hl
  have hin11 : ∀ w ∈ wsX110, w ∈ wsX11_removedOn := by decide +kernel
  have w_0 := hts (.fieldLink RX11 17 "MailSpoolModel" "net" "[I") (by decide +kernel)
  have hGE := hGs.2.2.2.2.2.2.1
  have hGM := hGs.2.2.2.2.2.2.2.1
  have L64 : ∀ (S0 : St) (v0 : Nat) (s0 : Int32) (tv0 : v0 < n ∧ K v0 = 10) (H : Heap) (locs : List Loc) (ls : Array Slot), f_X11_removedOn_L64 F S0 v0 s0 = some (r9, S9) → Wb g ad n K S0 (dA ad n s.heap.size) H → va_S (dA ad n s.heap.size) s.heap H locs → lv_has ls 3 [(0, .ref (ad v0))] → W p l e (headSpec wsX11_removedOn { frames := 11, cells := 0, slots := 0, locals := 256 }).room s m (List.toArray [.ref (ad p0), .int p1]) below meth c H locs 0 0 (MQ below (QR (some (.int r9)) (QB g ad n K S9 (dA ad n s.heap.size) (True)) (dA ad n s.heap.size)) (List.toArray [.ref (ad p0), .int p1]) s 0 0 (dA ad n s.heap.size)) (F0 m 64 ls [.int s0]) := by
    intro S0 v0 s0 tv0 H locs ls hf hW hS hl
    unfold f_X11_removedOn_L64 at hf
    refine lv_istore_n (lv' := [(2, .int s0), (0, .ref (ad v0))]) hx hb dX11_removedOn_64 rfl hl (by decide) rfl (fun ls hl => ?_)
    refine lv_aload_n hx hb dX11_removedOn_65 rfl (lv_at hl 1 rfl) ?_
    replace hf := obE hf
    obtain ⟨S6, hz5, hf⟩ := hf
    refine x_callV (As := []) (rest := []) (o := none) (S1 := S6) hC hl.1 hW hS hGs hA tv0 rfl (show vwCl[10]? = some (RX11, TX11, 30) ∧ 10 < 11 from ⟨rfl, by decide⟩) (c_X11_endThought l g ad n K H.size F S0 v0 tv0 S6 hz5) (cwV 0 hts gX11_removedOn_X11_endThought rfl rfl rfl (by decide +kernel) ⟨Nat.le_of_ble_eq_true rfl, Nat.le_of_ble_eq_true rfl⟩) rfl rfl (Nat.le_of_ble_eq_true rfl) dX11_removedOn_66 ⟨Nat.le_of_ble_eq_true rfl, Nat.le_of_ble_eq_true rfl⟩ (fun H locs hPz5 hW hS => ?_)
    refine W.eq (g2 := F0 m 69 ls []) rfl ?_
    refine lv_iload_n hx hb dX11_removedOn_69 rfl (lv_at hl 0 rfl) ?_
    obtain ⟨e1, e2⟩ := so2 hf
    subst e1
    subst e2
    exact W.iret (v := s0) hx hb hr (fun t ht hWm => ⟨⟨rfl, by unfold QB; rw [ht]; exact ⟨hW, trivial⟩⟩, hS.F ht⟩) hS.2.2 dX11_removedOn_70 hlk
  have L46 : ∀ (S0 : St) (v0 : Nat) (v1 : Int32) (tv0 : v0 < n ∧ K v0 = 10) (H : Heap) (locs : List Loc) (ls : Array Slot), f_X11_removedOn_L46 F S0 v0 v1 = some (r9, S9) → Wb g ad n K S0 (dA ad n s.heap.size) H → va_S (dA ad n s.heap.size) s.heap H locs → lv_has ls 3 [(0, .ref (ad v0)), (1, .int v1)] → W p l e (headSpec wsX11_removedOn { frames := 11, cells := 0, slots := 0, locals := 256 }).room s m (List.toArray [.ref (ad p0), .int p1]) below meth c H locs 0 0 (MQ below (QR (some (.int r9)) (QB g ad n K S9 (dA ad n s.heap.size) (True)) (dA ad n s.heap.size)) (List.toArray [.ref (ad p0), .int p1]) s 0 0 (dA ad n s.heap.size)) (F0 m 46 ls []) := by
    intro S0 v0 v1 tv0 H locs ls hf hW hS hl
    unfold f_X11_removedOn_L46 at hf
    refine lv_aload_n hx hb dX11_removedOn_46 rfl (lv_at hl 0 rfl) ?_
    refine lv_iload_n hx hb dX11_removedOn_47 rfl (lv_at hl 1 rfl) ?_
    replace hf := obE hf
    obtain ⟨z16, hz16, hf⟩ := hf
    obtain ⟨r18, S17⟩ := z16
    replace hf := ltE (ltE hf r18 rfl) S17 rfl
    refine x_callV (As := [.int v1]) (rest := []) (o := (some (.int r18))) (S1 := S17) hC hl.1 hW hS hGs hA tv0 rfl (show vwCl[10]? = some (RX11, TX11, 30) ∧ 10 < 11 from ⟨rfl, by decide⟩) (c_X11_isStored l g ad n K H.size F S0 v0 v1 tv0 r18 S17 hz16) (cwV 1 hts gX11_removedOn_X11_isStored rfl rfl rfl (by decide +kernel) ⟨Nat.le_of_ble_eq_true rfl, Nat.le_of_ble_eq_true rfl⟩) rfl rfl (Nat.le_of_ble_eq_true rfl) dX11_removedOn_48 ⟨Nat.le_of_ble_eq_true rfl, Nat.le_of_ble_eq_true rfl⟩ (fun H locs hPz16 hW hS => ?_)
    refine W.eq (g2 := F0 m 51 ls [.int r18]) rfl ?_
    refine lv_if_eq (tgt := 58) hx hb dX11_removedOn_51 (by decide) (fun c20 => ?_) (fun c20 => ?_)
    · replace hf := ifT c20 hf
      refine lv_aload_n hx hb dX11_removedOn_58 rfl (lv_at hl 0 rfl) ?_
      replace hf := obE hf
      obtain ⟨j21, qj21, hf⟩ := hf
      have tj21 := x_rt hW qj21 12 ⟨by decide, rfl⟩
      refine x_getr 1001 (ci := 10) (C := RX11) (T := TX11) (N := 30) 1 hC hin11 hW tv0 rfl rfl ⟨by decide, by decide, rfl, rfl⟩ rfl w_0 dX11_removedOn_59 qj21 ?_
      refine lv_iconst (v := 2) hx hb dX11_removedOn_62 (by decide) ?_
      replace hf := ckiE hf
      obtain ⟨h22, hf⟩ := hf
      refine x_iald hC hW tj21 rfl rfl h22 dX11_removedOn_63 ?_
      exact L64 S17 v0 (ai S17 j21 (Int32.toNatClampNeg 2)) tv0 _ _ _ hf hW hS (lv_sub hl [0] rfl)
    · replace hf := ifF c20 hf
      refine lv_iconst (v := -1) hx hb dX11_removedOn_54 (by decide) ?_
      refine lv_goto (tgt := 64) hx hb dX11_removedOn_55 (by decide) ?_
      exact L64 S17 v0 ((-1)) tv0 _ _ _ hf hW hS (lv_sub hl [0] rfl)
  have L20 : ∀ (fu20 : Nat) (S0 : St) (v0 : Nat) (v1 : Int32) (v2 : Int32) (tv0 : v0 < n ∧ K v0 = 10) (H : Heap) (locs : List Loc) (ls : Array Slot), f_X11_removedOn_L20 F fu20 S0 v0 v1 v2 = some (r9, S9) → Wb g ad n K S0 (dA ad n s.heap.size) H → va_S (dA ad n s.heap.size) s.heap H locs → lv_has ls 3 [(0, .ref (ad v0)), (1, .int v1), (2, .int v2)] → W p l e (headSpec wsX11_removedOn { frames := 11, cells := 0, slots := 0, locals := 256 }).room s m (List.toArray [.ref (ad p0), .int p1]) below meth c H locs 0 0 (MQ below (QR (some (.int r9)) (QB g ad n K S9 (dA ad n s.heap.size) (True)) (dA ad n s.heap.size)) (List.toArray [.ref (ad p0), .int p1]) s 0 0 (dA ad n s.heap.size)) (F0 m 20 ls []) := by
    intro fu20
    induction fu20 with
    | zero =>
      intro S0 v0 v1 v2 tv0 H locs ls hf
      cases hf
    | succ fu20 ih20 =>
      intro S0 v0 v1 v2 tv0 H locs ls hf hW hS hl
      unfold f_X11_removedOn_L20 at hf
      refine lv_iload_n hx hb dX11_removedOn_20 rfl (lv_at hl 2 rfl) ?_
      refine lv_sipush (v := 2000) hx hb dX11_removedOn_21 (by decide) ?_
      refine lv_icmp_ge (tgt := 46) hx hb dX11_removedOn_24 (by decide) (fun c34 => ?_) (fun c34 => ?_)
      · replace hf := ifT c34 hf
        exact L46 S0 v0 v1 tv0 _ _ _ hf hW hS (lv_sub hl [0, 1] rfl)
      · replace hf := ifF c34 hf
        refine lv_aload_n hx hb dX11_removedOn_27 rfl (lv_at hl 0 rfl) ?_
        refine lv_iload_n hx hb dX11_removedOn_28 rfl (lv_at hl 1 rfl) ?_
        replace hf := obE hf
        obtain ⟨z35, hz35, hf⟩ := hf
        obtain ⟨r37, S36⟩ := z35
        replace hf := ltE (ltE hf r37 rfl) S36 rfl
        refine x_callV (As := [.int v1]) (rest := []) (o := (some (.int r37))) (S1 := S36) hC hl.1 hW hS hGs hA tv0 rfl (show vwCl[10]? = some (RX11, TX11, 30) ∧ 10 < 11 from ⟨rfl, by decide⟩) (c_X11_isStored l g ad n K H.size F S0 v0 v1 tv0 r37 S36 hz35) (cwV 1 hts gX11_removedOn_X11_isStored rfl rfl rfl (by decide +kernel) ⟨Nat.le_of_ble_eq_true rfl, Nat.le_of_ble_eq_true rfl⟩) rfl rfl (Nat.le_of_ble_eq_true rfl) dX11_removedOn_29 ⟨Nat.le_of_ble_eq_true rfl, Nat.le_of_ble_eq_true rfl⟩ (fun H locs hPz35 hW hS => ?_)
        refine W.eq (g2 := F0 m 32 ls [.int r37]) rfl ?_
        refine lv_if_eq (tgt := 46) hx hb dX11_removedOn_32 (by decide) (fun c39 => ?_) (fun c39 => ?_)
        · replace hf := ifT c39 hf
          exact L46 S36 v0 v1 tv0 _ _ _ hf hW hS (lv_sub hl [0, 1] rfl)
        · replace hf := ifF c39 hf
          refine lv_aload_n hx hb dX11_removedOn_35 rfl (lv_at hl 0 rfl) ?_
          replace hf := obE hf
          obtain ⟨z40, hz40, hf⟩ := hf
          obtain ⟨r42, S41⟩ := z40
          replace hf := ltE (ltE hf r42 rfl) S41 rfl
          refine x_callV (As := []) (rest := []) (o := (some (.int r42))) (S1 := S41) hC hl.1 hW hS hGs hA tv0 rfl (show vwCl[10]? = some (RX11, TX11, 30) ∧ 10 < 11 from ⟨rfl, by decide⟩) (c_X11_passDay l g ad n K H.size F S36 v0 tv0 r42 S41 hz40) (cwV 0 hts gX11_removedOn_X11_passDay rfl rfl rfl (by decide +kernel) ⟨Nat.le_of_ble_eq_true rfl, Nat.le_of_ble_eq_true rfl⟩) rfl rfl (Nat.le_of_ble_eq_true rfl) dX11_removedOn_36 ⟨Nat.le_of_ble_eq_true rfl, Nat.le_of_ble_eq_true rfl⟩ (fun H locs hPz40 hW hS => ?_)
          refine W.eq (g2 := F0 m 39 ls [.int r42]) rfl ?_
          refine lv_pop hx hb dX11_removedOn_39 rfl ?_
          obtain ⟨x44, ex44⟩ : ∃ z : Int32, z = v2 + 1 := ⟨_, rfl⟩
          replace hf := ltE hf x44 ex44
          refine lv_iinc (v := x44) (lv' := [(2, .int x44), (0, .ref (ad v0)), (1, .int v1)]) hx hb dX11_removedOn_40 hl (k := 2) rfl (by rw [ex44]; rfl) (by decide) rfl (fun ls hl => ?_)
          refine lv_goto (tgt := 20) hx hb dX11_removedOn_43 (by decide) ?_
          exact ih20 S41 v0 v1 x44 tv0 _ _ _ hf hW hS (lv_sub hl [1, 2, 0] rfl)
  unfold f_X11_removedOn at hf
  refine lv_aload_n hx hb dX11_removedOn_0 rfl (lv_at hl 0 rfl) ?_
  refine lv_aload_n hx hb dX11_removedOn_1 rfl (lv_at hl 0 rfl) ?_
  refine lv_iload_n hx hb dX11_removedOn_2 rfl (lv_at hl 1 rfl) ?_
  replace hf := obE hf
  obtain ⟨z45, hz45, hf⟩ := hf
  obtain ⟨r47, S46⟩ := z45
  replace hf := ltE (ltE hf r47 rfl) S46 rfl
  refine x_callV (As := [.int p1]) (rest := [.ref (ad p0)]) (o := (some (.int r47))) (S1 := S46) hC hl.1 hW hS hGs hA tp0 rfl (show vwCl[10]? = some (RX11, TX11, 30) ∧ 10 < 11 from ⟨rfl, by decide⟩) (c_X11_isStored l g ad n K s.heap.size F S0 p0 p1 tp0 r47 S46 hz45) (cwV 1 hts gX11_removedOn_X11_isStored rfl rfl rfl (by decide +kernel) ⟨Nat.le_of_ble_eq_true rfl, Nat.le_of_ble_eq_true rfl⟩) rfl rfl (Nat.le_of_ble_eq_true rfl) dX11_removedOn_3 ⟨Nat.le_of_ble_eq_true rfl, Nat.le_of_ble_eq_true rfl⟩ (fun H locs hPz45 hW hS => ?_)
  refine W.eq (g2 := F0 m 6 ls [.int r47, .ref (ad p0)]) rfl ?_
  replace hf := obE hf
  obtain ⟨z49, hz49, hf⟩ := hf
  obtain ⟨r51, S50⟩ := z49
  replace hf := ltE (ltE hf r51 rfl) S50 rfl
  refine x_callV (As := [.int r47]) (rest := []) (o := (some (.int r51))) (S1 := S50) hC hl.1 hW hS hGs hA tp0 rfl (show vwCl[10]? = some (RX11, TX11, 30) ∧ 10 < 11 from ⟨rfl, by decide⟩) (c_X11_passes l g ad n K H.size F S46 p0 r47 tp0 r51 S50 hz49) (cwV 1 hts gX11_removedOn_X11_passes rfl rfl rfl (by decide +kernel) ⟨Nat.le_of_ble_eq_true rfl, Nat.le_of_ble_eq_true rfl⟩) rfl rfl (Nat.le_of_ble_eq_true rfl) dX11_removedOn_6 ⟨Nat.le_of_ble_eq_true rfl, Nat.le_of_ble_eq_true rfl⟩ (fun H locs hPz49 hW hS => ?_)
  refine W.eq (g2 := F0 m 9 ls [.int r51]) rfl ?_
  refine lv_if_ne (tgt := 14) hx hb dX11_removedOn_9 (by decide) (fun c53 => ?_) (fun c53 => ?_)
  · replace hf := ifT c53 hf
    refine lv_aload_n hx hb dX11_removedOn_14 rfl (lv_at hl 0 rfl) ?_
    replace hf := obE hf
    obtain ⟨S55, hz54, hf⟩ := hf
    refine x_callV (As := []) (rest := []) (o := none) (S1 := S55) hC hl.1 hW hS hGs hA tp0 rfl (show vwCl[10]? = some (RX11, TX11, 30) ∧ 10 < 11 from ⟨rfl, by decide⟩) (c_X11_beginThought l g ad n K H.size F S50 p0 tp0 S55 hz54) (cwV 0 hts gX11_removedOn_X11_beginThought rfl rfl rfl (by decide +kernel) ⟨Nat.le_of_ble_eq_true rfl, Nat.le_of_ble_eq_true rfl⟩) rfl rfl (Nat.le_of_ble_eq_true rfl) dX11_removedOn_15 ⟨Nat.le_of_ble_eq_true rfl, Nat.le_of_ble_eq_true rfl⟩ (fun H locs hPz54 hW hS => ?_)
    refine W.eq (g2 := F0 m 18 ls []) rfl ?_
    refine lv_iconst (v := 0) hx hb dX11_removedOn_18 (by decide) ?_
    refine lv_istore_n (lv' := [(2, .int 0), (0, .ref (ad p0)), (1, .int p1)]) hx hb dX11_removedOn_19 rfl hl (by decide) rfl (fun ls hl => ?_)
    exact L20 F S55 p0 p1 0 tp0 _ _ _ hf hW hS (lv_sub hl [1, 2, 0] rfl)
  · replace hf := ifF (fun q => q c53) hf
    refine lv_iconst (v := 0) hx hb dX11_removedOn_12 (by decide) ?_
    obtain ⟨e1, e2⟩ := so2 hf
    subst e1
    subst e2
    exact W.iret (v := 0) hx hb hr (fun t ht hWm => ⟨⟨rfl, by unfold QB; rw [ht]; exact ⟨hW, trivial⟩⟩, hS.F ht⟩) hS.2.2 dX11_removedOn_13 hlk
set_option maxHeartbeats 4000000 in
set_option maxRecDepth 100000 in
theorem c_X11_emptyOn (l : Launch) (g : GP) (ad : Nat → Nat) (n : Nat) (K : Nat → Nat) (sz F : Nat) (S0 : St) (p0 : Nat) (tp0 : p0 < n ∧ K p0 = 10) (r9 : Int32) (S9 : St) (hf : f_X11_emptyOn F S0 p0 = some (r9, S9)) : Met l yX11_emptyOn wsX11_emptyOn { frames := 11, cells := 0, slots := 0, locals := 256 } (va_Pc [.ref (ad p0)] (PB g ad n K S0 sz)) (QR (some (.int r9)) (QB g ad n K S9 (dA ad n sz) (True)) (dA ad n sz)) 0 0 (dA ad n sz) := by
  refine Met.ofW (cc := cX11_emptyOn) (maxL := 2) (ret := (some .int)) (by decide) rfl ?_
  intro p e s m args below meth c s₁ B hml hv
  obtain ⟨rfl, hsz, hW, hK, hGs⟩ := x_start hv
  subst hsz
  have hx := B.exec
  have hb := B.bytes
  have hr := B.returns
  have hts := atoms_spec (ws := wsX11_emptyOn) B.pre
  have hown : s.vm.findClass RX11 = some m.cls := findClass_of_methodNamed B.named
  have hlk := B.notSynchronized
  have hC : Cx g p s m _ c cX11_emptyOn RX11 wsX11_emptyOn 2 := ⟨hx, hb, hml, hown, hts, hK⟩
  have hA : ∀ q : Nat, s.heap.size ≤ q → dA ad n s.heap.size q := fun q h => Or.inr h
  have hS : va_S (dA ad n s.heap.size) s.heap s.heap [] := va_S.rf
  have hl := lv_entry ([.ref (ad p0)]) (n := 2) (Nat.le_of_ble_eq_true rfl)
  rw [lg_entry_eq]
  generalize (lg_sl ([.ref (ad p0)]) ++ List.replicate (2 - (lg_sl ([.ref (ad p0)])).length) Slot.unset).toArray = ls at hl ⊢
  have hl : lv_has ls 2 [(0, .ref (ad p0))] := hl
  have hin11 : ∀ w ∈ wsX110, w ∈ wsX11_emptyOn := by decide +kernel
  have w_0 := hts (.fieldLink RX11 17 "MailSpoolModel" "net" "[I") (by decide +kernel)
  have w_1 := hts (.fieldLink RX11 3 "MailSpoolModel" "thrown" "I") (by decide +kernel)
  have hGE := hGs.2.2.2.2.2.2.1
  have hGM := hGs.2.2.2.2.2.2.2.1
  have L53 : ∀ (S0 : St) (v0 : Nat) (s0 : Int32) (tv0 : v0 < n ∧ K v0 = 10) (H : Heap) (locs : List Loc) (ls : Array Slot), f_X11_emptyOn_L53 F S0 v0 s0 = some (r9, S9) → Wb g ad n K S0 (dA ad n s.heap.size) H → va_S (dA ad n s.heap.size) s.heap H locs → lv_has ls 2 [(0, .ref (ad v0))] → W p l e (headSpec wsX11_emptyOn { frames := 11, cells := 0, slots := 0, locals := 256 }).room s m (List.toArray [.ref (ad p0)]) below meth c H locs 0 0 (MQ below (QR (some (.int r9)) (QB g ad n K S9 (dA ad n s.heap.size) (True)) (dA ad n s.heap.size)) (List.toArray [.ref (ad p0)]) s 0 0 (dA ad n s.heap.size)) (F0 m 53 ls [.int s0]) := by
    intro S0 v0 s0 tv0 H locs ls hf hW hS hl
    unfold f_X11_emptyOn_L53 at hf
    refine lv_istore_n (lv' := [(1, .int s0), (0, .ref (ad v0))]) hx hb dX11_emptyOn_53 rfl hl (by decide) rfl (fun ls hl => ?_)
    refine lv_aload_n hx hb dX11_emptyOn_54 rfl (lv_at hl 1 rfl) ?_
    replace hf := obE hf
    obtain ⟨S6, hz5, hf⟩ := hf
    refine x_callV (As := []) (rest := []) (o := none) (S1 := S6) hC hl.1 hW hS hGs hA tv0 rfl (show vwCl[10]? = some (RX11, TX11, 30) ∧ 10 < 11 from ⟨rfl, by decide⟩) (c_X11_endThought l g ad n K H.size F S0 v0 tv0 S6 hz5) (cwV 0 hts gX11_emptyOn_X11_endThought rfl rfl rfl (by decide +kernel) ⟨Nat.le_of_ble_eq_true rfl, Nat.le_of_ble_eq_true rfl⟩) rfl rfl (Nat.le_of_ble_eq_true rfl) dX11_emptyOn_55 ⟨Nat.le_of_ble_eq_true rfl, Nat.le_of_ble_eq_true rfl⟩ (fun H locs hPz5 hW hS => ?_)
    refine W.eq (g2 := F0 m 58 ls []) rfl ?_
    refine lv_iload_n hx hb dX11_emptyOn_58 rfl (lv_at hl 0 rfl) ?_
    obtain ⟨e1, e2⟩ := so2 hf
    subst e1
    subst e2
    exact W.iret (v := s0) hx hb hr (fun t ht hWm => ⟨⟨rfl, by unfold QB; rw [ht]; exact ⟨hW, trivial⟩⟩, hS.F ht⟩) hS.2.2 dX11_emptyOn_59 hlk
  have L36 : ∀ (S0 : St) (v0 : Nat) (tv0 : v0 < n ∧ K v0 = 10) (H : Heap) (locs : List Loc) (ls : Array Slot), f_X11_emptyOn_L36 F S0 v0 = some (r9, S9) → Wb g ad n K S0 (dA ad n s.heap.size) H → va_S (dA ad n s.heap.size) s.heap H locs → lv_has ls 2 [(0, .ref (ad v0))] → W p l e (headSpec wsX11_emptyOn { frames := 11, cells := 0, slots := 0, locals := 256 }).room s m (List.toArray [.ref (ad p0)]) below meth c H locs 0 0 (MQ below (QR (some (.int r9)) (QB g ad n K S9 (dA ad n s.heap.size) (True)) (dA ad n s.heap.size)) (List.toArray [.ref (ad p0)]) s 0 0 (dA ad n s.heap.size)) (F0 m 36 ls []) := by
    intro S0 v0 tv0 H locs ls hf hW hS hl
    unfold f_X11_emptyOn_L36 at hf
    refine lv_aload_n hx hb dX11_emptyOn_36 rfl (lv_at hl 0 rfl) ?_
    replace hf := obE hf
    obtain ⟨z16, hz16, hf⟩ := hf
    obtain ⟨r18, S17⟩ := z16
    replace hf := ltE (ltE hf r18 rfl) S17 rfl
    refine x_callV (As := []) (rest := []) (o := (some (.int r18))) (S1 := S17) hC hl.1 hW hS hGs hA tv0 rfl (show vwCl[10]? = some (RX11, TX11, 30) ∧ 10 < 11 from ⟨rfl, by decide⟩) (c_X11_stored l g ad n K H.size F S0 v0 tv0 r18 S17 hz16) (cwV 0 hts gX11_emptyOn_X11_stored rfl rfl rfl (by decide +kernel) ⟨Nat.le_of_ble_eq_true rfl, Nat.le_of_ble_eq_true rfl⟩) rfl rfl (Nat.le_of_ble_eq_true rfl) dX11_emptyOn_37 ⟨Nat.le_of_ble_eq_true rfl, Nat.le_of_ble_eq_true rfl⟩ (fun H locs hPz16 hW hS => ?_)
    refine W.eq (g2 := F0 m 40 ls [.int r18]) rfl ?_
    refine lv_if_le (tgt := 47) hx hb dX11_emptyOn_40 (by decide) (fun c20 => ?_) (fun c20 => ?_)
    · replace hf := ifT c20 hf
      refine lv_aload_n hx hb dX11_emptyOn_47 rfl (lv_at hl 0 rfl) ?_
      replace hf := obE hf
      obtain ⟨j21, qj21, hf⟩ := hf
      have tj21 := x_rt hW qj21 12 ⟨by decide, rfl⟩
      refine x_getr 1001 (ci := 10) (C := RX11) (T := TX11) (N := 30) 1 hC hin11 hW tv0 rfl rfl ⟨by decide, by decide, rfl, rfl⟩ rfl w_0 dX11_emptyOn_48 qj21 ?_
      refine lv_iconst (v := 2) hx hb dX11_emptyOn_51 (by decide) ?_
      replace hf := ckiE hf
      obtain ⟨h22, hf⟩ := hf
      refine x_iald hC hW tj21 rfl rfl h22 dX11_emptyOn_52 ?_
      exact L53 S17 v0 (ai S17 j21 (Int32.toNatClampNeg 2)) tv0 _ _ _ hf hW hS (lv_sub hl [0] rfl)
    · replace hf := ifF c20 hf
      refine lv_iconst (v := -1) hx hb dX11_emptyOn_43 (by decide) ?_
      refine lv_goto (tgt := 53) hx hb dX11_emptyOn_44 (by decide) ?_
      exact L53 S17 v0 ((-1)) tv0 _ _ _ hf hW hS (lv_sub hl [0] rfl)
  have L11 : ∀ (fu11 : Nat) (S0 : St) (v0 : Nat) (v1 : Int32) (tv0 : v0 < n ∧ K v0 = 10) (H : Heap) (locs : List Loc) (ls : Array Slot), f_X11_emptyOn_L11 F fu11 S0 v0 v1 = some (r9, S9) → Wb g ad n K S0 (dA ad n s.heap.size) H → va_S (dA ad n s.heap.size) s.heap H locs → lv_has ls 2 [(0, .ref (ad v0)), (1, .int v1)] → W p l e (headSpec wsX11_emptyOn { frames := 11, cells := 0, slots := 0, locals := 256 }).room s m (List.toArray [.ref (ad p0)]) below meth c H locs 0 0 (MQ below (QR (some (.int r9)) (QB g ad n K S9 (dA ad n s.heap.size) (True)) (dA ad n s.heap.size)) (List.toArray [.ref (ad p0)]) s 0 0 (dA ad n s.heap.size)) (F0 m 11 ls []) := by
    intro fu11
    induction fu11 with
    | zero =>
      intro S0 v0 v1 tv0 H locs ls hf
      cases hf
    | succ fu11 ih11 =>
      intro S0 v0 v1 tv0 H locs ls hf hW hS hl
      unfold f_X11_emptyOn_L11 at hf
      refine lv_iload_n hx hb dX11_emptyOn_11 rfl (lv_at hl 1 rfl) ?_
      refine lv_sipush (v := 2000) hx hb dX11_emptyOn_12 (by decide) ?_
      refine lv_icmp_ge (tgt := 36) hx hb dX11_emptyOn_15 (by decide) (fun c34 => ?_) (fun c34 => ?_)
      · replace hf := ifT c34 hf
        exact L36 S0 v0 tv0 _ _ _ hf hW hS (lv_sub hl [0] rfl)
      · replace hf := ifF c34 hf
        refine lv_aload_n hx hb dX11_emptyOn_18 rfl (lv_at hl 0 rfl) ?_
        replace hf := obE hf
        obtain ⟨z35, hz35, hf⟩ := hf
        obtain ⟨r37, S36⟩ := z35
        replace hf := ltE (ltE hf r37 rfl) S36 rfl
        refine x_callV (As := []) (rest := []) (o := (some (.int r37))) (S1 := S36) hC hl.1 hW hS hGs hA tv0 rfl (show vwCl[10]? = some (RX11, TX11, 30) ∧ 10 < 11 from ⟨rfl, by decide⟩) (c_X11_stored l g ad n K H.size F S0 v0 tv0 r37 S36 hz35) (cwV 0 hts gX11_emptyOn_X11_stored rfl rfl rfl (by decide +kernel) ⟨Nat.le_of_ble_eq_true rfl, Nat.le_of_ble_eq_true rfl⟩) rfl rfl (Nat.le_of_ble_eq_true rfl) dX11_emptyOn_19 ⟨Nat.le_of_ble_eq_true rfl, Nat.le_of_ble_eq_true rfl⟩ (fun H locs hPz35 hW hS => ?_)
        refine W.eq (g2 := F0 m 22 ls [.int r37]) rfl ?_
        refine lv_if_le (tgt := 36) hx hb dX11_emptyOn_22 (by decide) (fun c39 => ?_) (fun c39 => ?_)
        · replace hf := ifT c39 hf
          exact L36 S36 v0 tv0 _ _ _ hf hW hS (lv_sub hl [0] rfl)
        · replace hf := ifF c39 hf
          refine lv_aload_n hx hb dX11_emptyOn_25 rfl (lv_at hl 0 rfl) ?_
          replace hf := obE hf
          obtain ⟨z40, hz40, hf⟩ := hf
          obtain ⟨r42, S41⟩ := z40
          replace hf := ltE (ltE hf r42 rfl) S41 rfl
          refine x_callV (As := []) (rest := []) (o := (some (.int r42))) (S1 := S41) hC hl.1 hW hS hGs hA tv0 rfl (show vwCl[10]? = some (RX11, TX11, 30) ∧ 10 < 11 from ⟨rfl, by decide⟩) (c_X11_passDay l g ad n K H.size F S36 v0 tv0 r42 S41 hz40) (cwV 0 hts gX11_emptyOn_X11_passDay rfl rfl rfl (by decide +kernel) ⟨Nat.le_of_ble_eq_true rfl, Nat.le_of_ble_eq_true rfl⟩) rfl rfl (Nat.le_of_ble_eq_true rfl) dX11_emptyOn_26 ⟨Nat.le_of_ble_eq_true rfl, Nat.le_of_ble_eq_true rfl⟩ (fun H locs hPz40 hW hS => ?_)
          refine W.eq (g2 := F0 m 29 ls [.int r42]) rfl ?_
          refine lv_pop hx hb dX11_emptyOn_29 rfl ?_
          obtain ⟨x44, ex44⟩ : ∃ z : Int32, z = v1 + 1 := ⟨_, rfl⟩
          replace hf := ltE hf x44 ex44
          refine lv_iinc (v := x44) (lv' := [(1, .int x44), (0, .ref (ad v0))]) hx hb dX11_emptyOn_30 hl (k := 1) rfl (by rw [ex44]; rfl) (by decide) rfl (fun ls hl => ?_)
          refine lv_goto (tgt := 11) hx hb dX11_emptyOn_33 (by decide) ?_
          exact ih11 S41 v0 x44 tv0 _ _ _ hf hW hS (lv_sub hl [1, 0] rfl)
  unfold f_X11_emptyOn at hf
  refine lv_aload_n hx hb dX11_emptyOn_0 rfl (lv_at hl 0 rfl) ?_
  refine lv_iconst (v := 0) hx hb dX11_emptyOn_1 (by decide) ?_
  refine x_puti 1000 (ci := 10) (C := RX11) (T := TX11) (N := 30) (v := 0) (ty := .int) 0 hC hin11 tyX11_ok nmX11 hW hS tp0 rfl rfl ⟨by decide, by decide, rfl, rfl⟩ rfl w_1 rfl (by decide +kernel) rfl rfl dX11_emptyOn_2 (fun S45 H locs eS45 hW hS => ?_)
  replace hf := ltE hf S45 eS45
  refine lv_aload_n hx hb dX11_emptyOn_5 rfl (lv_at hl 0 rfl) ?_
  replace hf := obE hf
  obtain ⟨S47, hz46, hf⟩ := hf
  refine x_callV (As := []) (rest := []) (o := none) (S1 := S47) hC hl.1 hW hS hGs hA tp0 rfl (show vwCl[10]? = some (RX11, TX11, 30) ∧ 10 < 11 from ⟨rfl, by decide⟩) (c_X11_beginThought l g ad n K H.size F S45 p0 tp0 S47 hz46) (cwV 0 hts gX11_emptyOn_X11_beginThought rfl rfl rfl (by decide +kernel) ⟨Nat.le_of_ble_eq_true rfl, Nat.le_of_ble_eq_true rfl⟩) rfl rfl (Nat.le_of_ble_eq_true rfl) dX11_emptyOn_6 ⟨Nat.le_of_ble_eq_true rfl, Nat.le_of_ble_eq_true rfl⟩ (fun H locs hPz46 hW hS => ?_)
  refine W.eq (g2 := F0 m 9 ls []) rfl ?_
  refine lv_iconst (v := 0) hx hb dX11_emptyOn_9 (by decide) ?_
  refine lv_istore_n (lv' := [(1, .int 0), (0, .ref (ad p0))]) hx hb dX11_emptyOn_10 rfl hl (by decide) rfl (fun ls hl => ?_)
  exact L11 F S47 p0 0 tp0 _ _ _ hf hW hS (lv_sub hl [1, 0] rfl)
set_option maxHeartbeats 4000000 in
set_option maxRecDepth 100000 in
theorem c_X11_areDays (l : Launch) (g : GP) (ad : Nat → Nat) (n : Nat) (K : Nat → Nat) (sz F : Nat) (S0 : St) (p0 : Int32) (r9 : Int32) (S9 : St) (hf : f_X11_areDays F S0 p0 = some (r9, S9)) : Met l yX11_areDays wsX11_areDays { frames := 1, cells := 0, slots := 0, locals := 25 } (va_Pc [.int p0] (PB g ad n K S0 sz)) (QR (some (.int r9)) (QB g ad n K S9 (dA ad n sz) (True)) (dA ad n sz)) 0 0 (dA ad n sz) := by
  refine Met.ofW (cc := cX11_areDays) (maxL := 1) (ret := (some .boolean)) (by decide) rfl ?_
  intro p e s m args below meth c s₁ B hml hv
  obtain ⟨rfl, hsz, hW, hK, hGs⟩ := x_start hv
  subst hsz
  have hx := B.exec
  have hb := B.bytes
  have hr := B.returns
  have hts := atoms_spec (ws := wsX11_areDays) B.pre
  have hown : s.vm.findClass RX11 = some m.cls := findClass_of_methodNamed B.named
  have hlk := B.notSynchronized
  have hC : Cx g p s m _ c cX11_areDays RX11 wsX11_areDays 1 := ⟨hx, hb, hml, hown, hts, hK⟩
  have hA : ∀ q : Nat, s.heap.size ≤ q → dA ad n s.heap.size q := fun q h => Or.inr h
  have hS : va_S (dA ad n s.heap.size) s.heap s.heap [] := va_S.rf
  have hl := lv_entry ([.int p0]) (n := 1) (Nat.le_of_ble_eq_true rfl)
  rw [lg_entry_eq]
  generalize (lg_sl ([.int p0]) ++ List.replicate (1 - (lg_sl ([.int p0])).length) Slot.unset).toArray = ls at hl ⊢
  have hl : lv_has ls 1 [(0, .int p0)] := hl
  have w_0 := hts (.constantLong RX11 469 (2000)) (by decide +kernel)
  have hGE := hGs.2.2.2.2.2.2.1
  have hGM := hGs.2.2.2.2.2.2.2.1
  unfold f_X11_areDays at hf
  refine lv_iload_n hx hb dX11_areDays_0 rfl (lv_at hl 0 rfl) ?_
  refine lv_i2l (v := p0.toInt64) hx hb dX11_areDays_1 rfl ?_
  refine lv_lconst (v := 0) hx hb dX11_areDays_2 (by decide) ?_
  refine lv_ldc2 (v := (2000)) hx hb hown w_0 dX11_areDays_3 ?_
  replace hf := obE hf
  obtain ⟨z1, hz1, hf⟩ := hf
  obtain ⟨r3, S2⟩ := z1
  replace hf := ltE (ltE hf r3 rfl) S2 rfl
  refine x_callS (As := [.long (p0.toInt64), .long (0), .long ((2000))]) (rest := []) (o := (some (.int r3))) (S1 := S2) hC hl.1 hW hS hGs hA (c_X11_in l g ad n K s.heap.size F S0 p0.toInt64 ((0 : Int64)) (((2000) : Int64)) r3 S2 hz1) (va_cwS 3 hts gX11_areDays_X11_in rfl rfl rfl (by decide +kernel) ⟨Nat.le_of_ble_eq_true rfl, Nat.le_of_ble_eq_true rfl⟩) rfl rfl (Nat.le_of_ble_eq_true rfl) dX11_areDays_6 ⟨Nat.le_of_ble_eq_true rfl, Nat.le_of_ble_eq_true rfl⟩ (fun H locs hPz1 hW hS => ?_)
  refine W.eq (g2 := F0 m 9 ls [.int r3]) rfl ?_
  replace hf := ckE hf
  obtain ⟨h5, hf⟩ := hf
  obtain ⟨e1, e2⟩ := so2 hf
  subst e1
  subst e2
  exact W.zret (v := r3) hx hb hr (zn h5) (fun t ht hWm => ⟨⟨rfl, by unfold QB; rw [ht]; exact ⟨hW, trivial⟩⟩, hS.F ht⟩) hS.2.2 dX11_areDays_9 hlk
set_option maxHeartbeats 4000000 in
set_option maxRecDepth 100000 in
theorem c_X11_bytesAfter (l : Launch) (g : GP) (ad : Nat → Nat) (n : Nat) (K : Nat → Nat) (sz F : Nat) (S0 : St) (p0 : Nat) (p1 : Int32) (tp0 : p0 < n ∧ K p0 = 10) (r9 : Int32) (S9 : St) (hf : f_X11_bytesAfter F S0 p0 p1 = some (r9, S9)) : Met l yX11_bytesAfter wsX11_bytesAfter { frames := 11, cells := 0, slots := 0, locals := 256 } (va_Pc [.ref (ad p0), .int p1] (PB g ad n K S0 sz)) (QR (some (.int r9)) (QB g ad n K S9 (dA ad n sz) (True)) (dA ad n sz)) 0 0 (dA ad n sz) := by
  refine Met.ofW (cc := cX11_bytesAfter) (maxL := 3) (ret := (some .int)) (by decide) rfl ?_
  intro p e s m args below meth c s₁ B hml hv
  obtain ⟨rfl, hsz, hW, hK, hGs⟩ := x_start hv
  subst hsz
  have hx := B.exec
  have hb := B.bytes
  have hr := B.returns
  have hts := atoms_spec (ws := wsX11_bytesAfter) B.pre
  have hown : s.vm.findClass RX11 = some m.cls := findClass_of_methodNamed B.named
  have hlk := B.notSynchronized
  have hC : Cx g p s m _ c cX11_bytesAfter RX11 wsX11_bytesAfter 3 := ⟨hx, hb, hml, hown, hts, hK⟩
  have hA : ∀ q : Nat, s.heap.size ≤ q → dA ad n s.heap.size q := fun q h => Or.inr h
  have hS : va_S (dA ad n s.heap.size) s.heap s.heap [] := va_S.rf
  have hl := lv_entry ([.ref (ad p0), .int p1]) (n := 3) (Nat.le_of_ble_eq_true rfl)
  rw [lg_entry_eq]
  generalize (lg_sl ([.ref (ad p0), .int p1]) ++ List.replicate (3 - (lg_sl ([.ref (ad p0), .int p1])).length) Slot.unset).toArray = ls at hl ⊢
  have hl : lv_has ls 3 [(0, .ref (ad p0)), (1, .int p1)] := hl
  have hGE := hGs.2.2.2.2.2.2.1
  have hGM := hGs.2.2.2.2.2.2.2.1
  have L19 : ∀ (fu19 : Nat) (S0 : St) (v0 : Nat) (v1 : Int32) (v2 : Int32) (tv0 : v0 < n ∧ K v0 = 10) (H : Heap) (locs : List Loc) (ls : Array Slot), f_X11_bytesAfter_L19 F fu19 S0 v0 v1 v2 = some (r9, S9) → Wb g ad n K S0 (dA ad n s.heap.size) H → va_S (dA ad n s.heap.size) s.heap H locs → lv_has ls 3 [(0, .ref (ad v0)), (1, .int v1), (2, .int v2)] → W p l e (headSpec wsX11_bytesAfter { frames := 11, cells := 0, slots := 0, locals := 256 }).room s m (List.toArray [.ref (ad p0), .int p1]) below meth c H locs 0 0 (MQ below (QR (some (.int r9)) (QB g ad n K S9 (dA ad n s.heap.size) (True)) (dA ad n s.heap.size)) (List.toArray [.ref (ad p0), .int p1]) s 0 0 (dA ad n s.heap.size)) (F0 m 19 ls []) := by
    intro fu19
    induction fu19 with
    | zero =>
      intro S0 v0 v1 v2 tv0 H locs ls hf
      cases hf
    | succ fu19 ih19 =>
      intro S0 v0 v1 v2 tv0 H locs ls hf hW hS hl
      unfold f_X11_bytesAfter_L19 at hf
      refine lv_iload_n hx hb dX11_bytesAfter_19 rfl (lv_at hl 2 rfl) ?_
      refine lv_iload_n hx hb dX11_bytesAfter_20 rfl (lv_at hl 1 rfl) ?_
      refine lv_icmp_ge (tgt := 35) hx hb dX11_bytesAfter_21 (by decide) (fun c15 => ?_) (fun c15 => ?_)
      · replace hf := ifT c15 hf
        refine lv_aload_n hx hb dX11_bytesAfter_35 rfl (lv_at hl 0 rfl) ?_
        replace hf := obE hf
        obtain ⟨z16, hz16, hf⟩ := hf
        obtain ⟨r18, S17⟩ := z16
        replace hf := ltE (ltE hf r18 rfl) S17 rfl
        refine x_callV (As := []) (rest := []) (o := (some (.int r18))) (S1 := S17) hC hl.1 hW hS hGs hA tv0 rfl (show vwCl[10]? = some (RX11, TX11, 30) ∧ 10 < 11 from ⟨rfl, by decide⟩) (c_X11_stored l g ad n K H.size F S0 v0 tv0 r18 S17 hz16) (cwV 0 hts gX11_bytesAfter_X11_stored rfl rfl rfl (by decide +kernel) ⟨Nat.le_of_ble_eq_true rfl, Nat.le_of_ble_eq_true rfl⟩) rfl rfl (Nat.le_of_ble_eq_true rfl) dX11_bytesAfter_36 ⟨Nat.le_of_ble_eq_true rfl, Nat.le_of_ble_eq_true rfl⟩ (fun H locs hPz16 hW hS => ?_)
        refine W.eq (g2 := F0 m 39 ls [.int r18]) rfl ?_
        refine lv_istore_n (lv' := [(2, .int r18), (0, .ref (ad v0)), (1, .int v1)]) hx hb dX11_bytesAfter_39 rfl hl (by decide) rfl (fun ls hl => ?_)
        refine lv_aload_n hx hb dX11_bytesAfter_40 rfl (lv_at hl 1 rfl) ?_
        replace hf := obE hf
        obtain ⟨S21, hz20, hf⟩ := hf
        refine x_callV (As := []) (rest := []) (o := none) (S1 := S21) hC hl.1 hW hS hGs hA tv0 rfl (show vwCl[10]? = some (RX11, TX11, 30) ∧ 10 < 11 from ⟨rfl, by decide⟩) (c_X11_endThought l g ad n K H.size F S17 v0 tv0 S21 hz20) (cwV 0 hts gX11_bytesAfter_X11_endThought rfl rfl rfl (by decide +kernel) ⟨Nat.le_of_ble_eq_true rfl, Nat.le_of_ble_eq_true rfl⟩) rfl rfl (Nat.le_of_ble_eq_true rfl) dX11_bytesAfter_41 ⟨Nat.le_of_ble_eq_true rfl, Nat.le_of_ble_eq_true rfl⟩ (fun H locs hPz20 hW hS => ?_)
        refine W.eq (g2 := F0 m 44 ls []) rfl ?_
        refine lv_iload_n hx hb dX11_bytesAfter_44 rfl (lv_at hl 0 rfl) ?_
        obtain ⟨e1, e2⟩ := so2 hf
        subst e1
        subst e2
        exact W.iret (v := r18) hx hb hr (fun t ht hWm => ⟨⟨rfl, by unfold QB; rw [ht]; exact ⟨hW, trivial⟩⟩, hS.F ht⟩) hS.2.2 dX11_bytesAfter_45 hlk
      · replace hf := ifF c15 hf
        refine lv_aload_n hx hb dX11_bytesAfter_24 rfl (lv_at hl 0 rfl) ?_
        replace hf := obE hf
        obtain ⟨z24, hz24, hf⟩ := hf
        obtain ⟨r26, S25⟩ := z24
        replace hf := ltE (ltE hf r26 rfl) S25 rfl
        refine x_callV (As := []) (rest := []) (o := (some (.int r26))) (S1 := S25) hC hl.1 hW hS hGs hA tv0 rfl (show vwCl[10]? = some (RX11, TX11, 30) ∧ 10 < 11 from ⟨rfl, by decide⟩) (c_X11_passDay l g ad n K H.size F S0 v0 tv0 r26 S25 hz24) (cwV 0 hts gX11_bytesAfter_X11_passDay rfl rfl rfl (by decide +kernel) ⟨Nat.le_of_ble_eq_true rfl, Nat.le_of_ble_eq_true rfl⟩) rfl rfl (Nat.le_of_ble_eq_true rfl) dX11_bytesAfter_25 ⟨Nat.le_of_ble_eq_true rfl, Nat.le_of_ble_eq_true rfl⟩ (fun H locs hPz24 hW hS => ?_)
        refine W.eq (g2 := F0 m 28 ls [.int r26]) rfl ?_
        refine lv_pop hx hb dX11_bytesAfter_28 rfl ?_
        obtain ⟨x28, ex28⟩ : ∃ z : Int32, z = v2 + 1 := ⟨_, rfl⟩
        replace hf := ltE hf x28 ex28
        refine lv_iinc (v := x28) (lv' := [(2, .int x28), (0, .ref (ad v0)), (1, .int v1)]) hx hb dX11_bytesAfter_29 hl (k := 2) rfl (by rw [ex28]; rfl) (by decide) rfl (fun ls hl => ?_)
        refine lv_goto (tgt := 19) hx hb dX11_bytesAfter_32 (by decide) ?_
        exact ih19 S25 v0 v1 x28 tv0 _ _ _ hf hW hS (lv_sub hl [1, 2, 0] rfl)
  unfold f_X11_bytesAfter at hf
  refine lv_aload_n hx hb dX11_bytesAfter_0 rfl (lv_at hl 0 rfl) ?_
  refine lv_iload_n hx hb dX11_bytesAfter_1 rfl (lv_at hl 1 rfl) ?_
  replace hf := obE hf
  obtain ⟨z29, hz29, hf⟩ := hf
  obtain ⟨r31, S30⟩ := z29
  replace hf := ltE (ltE hf r31 rfl) S30 rfl
  refine x_callS (As := [.int p1]) (rest := [.ref (ad p0)]) (o := (some (.int r31))) (S1 := S30) hC hl.1 hW hS hGs hA (c_X11_areDays l g ad n K s.heap.size F S0 p1 r31 S30 hz29) (va_cwS 1 hts gX11_bytesAfter_X11_areDays rfl rfl rfl (by decide +kernel) ⟨Nat.le_of_ble_eq_true rfl, Nat.le_of_ble_eq_true rfl⟩) rfl rfl (Nat.le_of_ble_eq_true rfl) dX11_bytesAfter_2 ⟨Nat.le_of_ble_eq_true rfl, Nat.le_of_ble_eq_true rfl⟩ (fun H locs hPz29 hW hS => ?_)
  refine W.eq (g2 := F0 m 5 ls [.int r31, .ref (ad p0)]) rfl ?_
  replace hf := obE hf
  obtain ⟨z33, hz33, hf⟩ := hf
  obtain ⟨r35, S34⟩ := z33
  replace hf := ltE (ltE hf r35 rfl) S34 rfl
  refine x_callV (As := [.int r31]) (rest := []) (o := (some (.int r35))) (S1 := S34) hC hl.1 hW hS hGs hA tp0 rfl (show vwCl[10]? = some (RX11, TX11, 30) ∧ 10 < 11 from ⟨rfl, by decide⟩) (c_X11_passes l g ad n K H.size F S30 p0 r31 tp0 r35 S34 hz33) (cwV 1 hts gX11_bytesAfter_X11_passes rfl rfl rfl (by decide +kernel) ⟨Nat.le_of_ble_eq_true rfl, Nat.le_of_ble_eq_true rfl⟩) rfl rfl (Nat.le_of_ble_eq_true rfl) dX11_bytesAfter_5 ⟨Nat.le_of_ble_eq_true rfl, Nat.le_of_ble_eq_true rfl⟩ (fun H locs hPz33 hW hS => ?_)
  refine W.eq (g2 := F0 m 8 ls [.int r35]) rfl ?_
  refine lv_if_ne (tgt := 13) hx hb dX11_bytesAfter_8 (by decide) (fun c37 => ?_) (fun c37 => ?_)
  · replace hf := ifT c37 hf
    refine lv_aload_n hx hb dX11_bytesAfter_13 rfl (lv_at hl 0 rfl) ?_
    replace hf := obE hf
    obtain ⟨S39, hz38, hf⟩ := hf
    refine x_callV (As := []) (rest := []) (o := none) (S1 := S39) hC hl.1 hW hS hGs hA tp0 rfl (show vwCl[10]? = some (RX11, TX11, 30) ∧ 10 < 11 from ⟨rfl, by decide⟩) (c_X11_beginThought l g ad n K H.size F S34 p0 tp0 S39 hz38) (cwV 0 hts gX11_bytesAfter_X11_beginThought rfl rfl rfl (by decide +kernel) ⟨Nat.le_of_ble_eq_true rfl, Nat.le_of_ble_eq_true rfl⟩) rfl rfl (Nat.le_of_ble_eq_true rfl) dX11_bytesAfter_14 ⟨Nat.le_of_ble_eq_true rfl, Nat.le_of_ble_eq_true rfl⟩ (fun H locs hPz38 hW hS => ?_)
    refine W.eq (g2 := F0 m 17 ls []) rfl ?_
    refine lv_iconst (v := 0) hx hb dX11_bytesAfter_17 (by decide) ?_
    refine lv_istore_n (lv' := [(2, .int 0), (0, .ref (ad p0)), (1, .int p1)]) hx hb dX11_bytesAfter_18 rfl hl (by decide) rfl (fun ls hl => ?_)
    exact L19 F S39 p0 p1 0 tp0 _ _ _ hf hW hS (lv_sub hl [1, 2, 0] rfl)
  · replace hf := ifF (fun q => q c37) hf
    refine lv_iconst (v := 0) hx hb dX11_bytesAfter_11 (by decide) ?_
    obtain ⟨e1, e2⟩ := so2 hf
    subst e1
    subst e2
    exact W.iret (v := 0) hx hb hr (fun t ht hWm => ⟨⟨rfl, by unfold QB; rw [ht]; exact ⟨hW, trivial⟩⟩, hS.F ht⟩) hS.2.2 dX11_bytesAfter_12 hlk
set_option maxHeartbeats 4000000 in
set_option maxRecDepth 100000 in
theorem c_X11_livesOf (l : Launch) (g : GP) (ad : Nat → Nat) (n : Nat) (K : Nat → Nat) (sz F : Nat) (S0 : St) (p0 : Nat) (p1 : Int32) (tp0 : p0 < n ∧ K p0 = 10) (r9 : Int32) (S9 : St) (hf : f_X11_livesOf F S0 p0 p1 = some (r9, S9)) : Met l yX11_livesOf wsX11_livesOf { frames := 3, cells := 0, slots := 0, locals := 65 } (va_Pc [.ref (ad p0), .int p1] (PB g ad n K S0 sz)) (QR (some (.int r9)) (QB g ad n K S9 (dA ad n sz) (True)) (dA ad n sz)) 0 0 (dA ad n sz) := by
  refine Met.ofW (cc := cX11_livesOf) (maxL := 4) (ret := (some .int)) (by decide) rfl ?_
  intro p e s m args below meth c s₁ B hml hv
  obtain ⟨rfl, hsz, hW, hK, hGs⟩ := x_start hv
  subst hsz
  have hx := B.exec
  have hb := B.bytes
  have hr := B.returns
  have hts := atoms_spec (ws := wsX11_livesOf) B.pre
  have hown : s.vm.findClass RX11 = some m.cls := findClass_of_methodNamed B.named
  have hlk := B.notSynchronized
  have hC : Cx g p s m _ c cX11_livesOf RX11 wsX11_livesOf 4 := ⟨hx, hb, hml, hown, hts, hK⟩
  have hA : ∀ q : Nat, s.heap.size ≤ q → dA ad n s.heap.size q := fun q h => Or.inr h
  have hS : va_S (dA ad n s.heap.size) s.heap s.heap [] := va_S.rf
  have hl := lv_entry ([.ref (ad p0), .int p1]) (n := 4) (Nat.le_of_ble_eq_true rfl)
  rw [lg_entry_eq]
  generalize (lg_sl ([.ref (ad p0), .int p1]) ++ List.replicate (4 - (lg_sl ([.ref (ad p0), .int p1])).length) Slot.unset).toArray = ls at hl ⊢
  have hl : lv_has ls 4 [(0, .ref (ad p0)), (1, .int p1)] := hl
  have hin11 : ∀ w ∈ wsX110, w ∈ wsX11_livesOf := by decide +kernel
  have w_0 := hts (.fieldLink RX11 17 "MailSpoolModel" "net" "[I") (by decide +kernel)
  have hGE := hGs.2.2.2.2.2.2.1
  have hGM := hGs.2.2.2.2.2.2.2.1
  have L4 : ∀ (fu4 : Nat) (S0 : St) (v0 : Nat) (v1 : Int32) (v2 : Int32) (v3 : Int32) (tv0 : v0 < n ∧ K v0 = 10) (H : Heap) (locs : List Loc) (ls : Array Slot), f_X11_livesOf_L4 F fu4 S0 v0 v1 v2 v3 = some (r9, S9) → Wb g ad n K S0 (dA ad n s.heap.size) H → va_S (dA ad n s.heap.size) s.heap H locs → lv_has ls 4 [(0, .ref (ad v0)), (1, .int v1), (2, .int v2), (3, .int v3)] → W p l e (headSpec wsX11_livesOf { frames := 3, cells := 0, slots := 0, locals := 65 }).room s m (List.toArray [.ref (ad p0), .int p1]) below meth c H locs 0 0 (MQ below (QR (some (.int r9)) (QB g ad n K S9 (dA ad n s.heap.size) (True)) (dA ad n s.heap.size)) (List.toArray [.ref (ad p0), .int p1]) s 0 0 (dA ad n s.heap.size)) (F0 m 4 ls []) := by
    intro fu4
    induction fu4 with
    | zero =>
      intro S0 v0 v1 v2 v3 tv0 H locs ls hf
      cases hf
    | succ fu4 ih4 =>
      have L30 : ∀ (S0 : St) (v0 : Nat) (v1 : Int32) (v3 : Int32) (s0 : Int32) (s1 : Int32) (tv0 : v0 < n ∧ K v0 = 10) (H : Heap) (locs : List Loc) (ls : Array Slot), f_X11_livesOf_L30 F (fun a0 a1 a2 a3 a4 => f_X11_livesOf_L4 F fu4 a0 a1 a2 a3 a4) S0 v0 v1 v3 s0 s1 = some (r9, S9) → Wb g ad n K S0 (dA ad n s.heap.size) H → va_S (dA ad n s.heap.size) s.heap H locs → lv_has ls 4 [(0, .ref (ad v0)), (1, .int v1), (3, .int v3)] → W p l e (headSpec wsX11_livesOf { frames := 3, cells := 0, slots := 0, locals := 65 }).room s m (List.toArray [.ref (ad p0), .int p1]) below meth c H locs 0 0 (MQ below (QR (some (.int r9)) (QB g ad n K S9 (dA ad n s.heap.size) (True)) (dA ad n s.heap.size)) (List.toArray [.ref (ad p0), .int p1]) s 0 0 (dA ad n s.heap.size)) (F0 m 30 ls [.int s0, .int s1]) := by
        intro S0 v0 v1 v3 s0 s1 tv0 H locs ls hf hW hS hl
        unfold f_X11_livesOf_L30 at hf
        refine lv_iadd hx hb dX11_livesOf_30 ?_
        refine lv_topi (fun x3 ex3 => ?_)
        replace hf := ltE hf x3 ex3
        refine lv_istore_n (lv' := [(2, .int x3), (0, .ref (ad v0)), (1, .int v1), (3, .int v3)]) hx hb dX11_livesOf_31 rfl hl (by decide) rfl (fun ls hl => ?_)
        obtain ⟨x4, ex4⟩ : ∃ z : Int32, z = v3 + 1 := ⟨_, rfl⟩
        replace hf := ltE hf x4 ex4
        refine lv_iinc (v := x4) (lv' := [(3, .int x4), (2, .int x3), (0, .ref (ad v0)), (1, .int v1)]) hx hb dX11_livesOf_32 hl (k := 3) rfl (by rw [ex4]; rfl) (by decide) rfl (fun ls hl => ?_)
        refine lv_goto (tgt := 4) hx hb dX11_livesOf_35 (by decide) ?_
        exact ih4 S0 v0 v1 x3 x4 tv0 _ _ _ hf hW hS (lv_sub hl [2, 3, 1, 0] rfl)
      intro S0 v0 v1 v2 v3 tv0 H locs ls hf hW hS hl
      unfold f_X11_livesOf_L4 at hf
      refine lv_iload_n hx hb dX11_livesOf_4 rfl (lv_at hl 3 rfl) ?_
      refine lv_aload_n hx hb dX11_livesOf_5 rfl (lv_at hl 0 rfl) ?_
      replace hf := obE hf
      obtain ⟨j13, qj13, hf⟩ := hf
      have tj13 := x_rt hW qj13 12 ⟨by decide, rfl⟩
      refine x_getr 1001 (ci := 10) (C := RX11) (T := TX11) (N := 30) 1 hC hin11 hW tv0 rfl rfl ⟨by decide, by decide, rfl, rfl⟩ rfl w_0 dX11_livesOf_6 qj13 ?_
      refine lv_bipush (v := 7) hx hb dX11_livesOf_9 (by decide) ?_
      replace hf := ckiE hf
      obtain ⟨h14, hf⟩ := hf
      refine x_iald hC hW tj13 rfl rfl h14 dX11_livesOf_11 ?_
      refine lv_icmp_ge (tgt := 38) hx hb dX11_livesOf_12 (by decide) (fun c15 => ?_) (fun c15 => ?_)
      · replace hf := ifT c15 hf
        refine lv_iload_n hx hb dX11_livesOf_38 rfl (lv_at hl 2 rfl) ?_
        obtain ⟨e1, e2⟩ := so2 hf
        subst e1
        subst e2
        exact W.iret (v := v2) hx hb hr (fun t ht hWm => ⟨⟨rfl, by unfold QB; rw [ht]; exact ⟨hW, trivial⟩⟩, hS.F ht⟩) hS.2.2 dX11_livesOf_39 hlk
      · replace hf := ifF c15 hf
        refine lv_iload_n hx hb dX11_livesOf_15 rfl (lv_at hl 2 rfl) ?_
        refine lv_aload_n hx hb dX11_livesOf_16 rfl (lv_at hl 0 rfl) ?_
        refine lv_iload_n hx hb dX11_livesOf_17 rfl (lv_at hl 3 rfl) ?_
        refine lv_iload_n hx hb dX11_livesOf_18 rfl (lv_at hl 1 rfl) ?_
        replace hf := obE hf
        obtain ⟨z16, hz16, hf⟩ := hf
        obtain ⟨r18, S17⟩ := z16
        replace hf := ltE (ltE hf r18 rfl) S17 rfl
        refine x_callV (As := [.int v3, .int v1]) (rest := [.int v2]) (o := (some (.int r18))) (S1 := S17) hC hl.1 hW hS hGs hA tv0 rfl (show vwCl[10]? = some (RX11, TX11, 30) ∧ 10 < 11 from ⟨rfl, by decide⟩) (c_X11_isLive l g ad n K H.size F S0 v0 v3 v1 tv0 r18 S17 hz16) (cwV 2 hts gX11_livesOf_X11_isLive rfl rfl rfl (by decide +kernel) ⟨Nat.le_of_ble_eq_true rfl, Nat.le_of_ble_eq_true rfl⟩) rfl rfl (Nat.le_of_ble_eq_true rfl) dX11_livesOf_19 ⟨Nat.le_of_ble_eq_true rfl, Nat.le_of_ble_eq_true rfl⟩ (fun H locs hPz16 hW hS => ?_)
        refine W.eq (g2 := F0 m 22 ls [.int r18, .int v2]) rfl ?_
        refine lv_if_eq (tgt := 29) hx hb dX11_livesOf_22 (by decide) (fun c20 => ?_) (fun c20 => ?_)
        · replace hf := ifT c20 hf
          refine lv_iconst (v := 0) hx hb dX11_livesOf_29 (by decide) ?_
          exact L30 S17 v0 v1 v3 0 v2 tv0 _ _ _ hf hW hS (lv_sub hl [0, 1, 3] rfl)
        · replace hf := ifF c20 hf
          refine lv_iconst (v := 1) hx hb dX11_livesOf_25 (by decide) ?_
          refine lv_goto (tgt := 30) hx hb dX11_livesOf_26 (by decide) ?_
          exact L30 S17 v0 v1 v3 1 v2 tv0 _ _ _ hf hW hS (lv_sub hl [0, 1, 3] rfl)
  unfold f_X11_livesOf at hf
  refine lv_iconst (v := 0) hx hb dX11_livesOf_0 (by decide) ?_
  refine lv_istore_n (lv' := [(2, .int 0), (0, .ref (ad p0)), (1, .int p1)]) hx hb dX11_livesOf_1 rfl hl (by decide) rfl (fun ls hl => ?_)
  refine lv_iconst (v := 0) hx hb dX11_livesOf_2 (by decide) ?_
  refine lv_istore_n (lv' := [(3, .int 0), (2, .int 0), (0, .ref (ad p0)), (1, .int p1)]) hx hb dX11_livesOf_3 rfl hl (by decide) rfl (fun ls hl => ?_)
  exact L4 F S0 p0 p1 0 0 tp0 _ _ _ hf hW hS (lv_sub hl [2, 3, 1, 0] rfl)
set_option maxHeartbeats 4000000 in
set_option maxRecDepth 100000 in
theorem c_X11_goneAfter (l : Launch) (g : GP) (ad : Nat → Nat) (n : Nat) (K : Nat → Nat) (sz F : Nat) (S0 : St) (p0 : Nat) (p1 : Int32) (p2 : Int32) (tp0 : p0 < n ∧ K p0 = 10) (r9 : Int32) (S9 : St) (hf : f_X11_goneAfter F S0 p0 p1 p2 = some (r9, S9)) : Met l yX11_goneAfter wsX11_goneAfter { frames := 11, cells := 0, slots := 0, locals := 256 } (va_Pc [.ref (ad p0), .int p1, .int p2] (PB g ad n K S0 sz)) (QR (some (.int r9)) (QB g ad n K S9 (dA ad n sz) (True)) (dA ad n sz)) 0 0 (dA ad n sz) := by
  refine Met.ofW (cc := cX11_goneAfter) (maxL := 5) (ret := (some .int)) (by decide) rfl ?_
  intro p e s m args below meth c s₁ B hml hv
  obtain ⟨rfl, hsz, hW, hK, hGs⟩ := x_start hv
  subst hsz
  have hx := B.exec
  have hb := B.bytes
  have hr := B.returns
  have hts := atoms_spec (ws := wsX11_goneAfter) B.pre
  have hown : s.vm.findClass RX11 = some m.cls := findClass_of_methodNamed B.named
  have hlk := B.notSynchronized
  have hC : Cx g p s m _ c cX11_goneAfter RX11 wsX11_goneAfter 5 := ⟨hx, hb, hml, hown, hts, hK⟩
  have hA : ∀ q : Nat, s.heap.size ≤ q → dA ad n s.heap.size q := fun q h => Or.inr h
  have hS : va_S (dA ad n s.heap.size) s.heap s.heap [] := va_S.rf
  have hl := lv_entry ([.ref (ad p0), .int p1, .int p2]) (n := 5) (Nat.le_of_ble_eq_true rfl)
  rw [lg_entry_eq]
  generalize (lg_sl ([.ref (ad p0), .int p1, .int p2]) ++ List.replicate (5 - (lg_sl ([.ref (ad p0), .int p1, .int p2])).length) Slot.unset).toArray = ls at hl ⊢
  have hl : lv_has ls 5 [(0, .ref (ad p0)), (1, .int p1), (2, .int p2)] := hl
  have hGE := hGs.2.2.2.2.2.2.1
  have hGM := hGs.2.2.2.2.2.2.2.1
  have L31 : ∀ (fu31 : Nat) (S0 : St) (v0 : Nat) (v1 : Int32) (v2 : Int32) (v3 : Int32) (v4 : Int32) (tv0 : v0 < n ∧ K v0 = 10) (H : Heap) (locs : List Loc) (ls : Array Slot), f_X11_goneAfter_L31 F fu31 S0 v0 v1 v2 v3 v4 = some (r9, S9) → Wb g ad n K S0 (dA ad n s.heap.size) H → va_S (dA ad n s.heap.size) s.heap H locs → lv_has ls 5 [(0, .ref (ad v0)), (1, .int v1), (2, .int v2), (3, .int v3), (4, .int v4)] → W p l e (headSpec wsX11_goneAfter { frames := 11, cells := 0, slots := 0, locals := 256 }).room s m (List.toArray [.ref (ad p0), .int p1, .int p2]) below meth c H locs 0 0 (MQ below (QR (some (.int r9)) (QB g ad n K S9 (dA ad n s.heap.size) (True)) (dA ad n s.heap.size)) (List.toArray [.ref (ad p0), .int p1, .int p2]) s 0 0 (dA ad n s.heap.size)) (F0 m 31 ls []) := by
    intro fu31
    induction fu31 with
    | zero =>
      intro S0 v0 v1 v2 v3 v4 tv0 H locs ls hf
      cases hf
    | succ fu31 ih31 =>
      intro S0 v0 v1 v2 v3 v4 tv0 H locs ls hf hW hS hl
      unfold f_X11_goneAfter_L31 at hf
      refine lv_iload hx hb dX11_goneAfter_31 (lv_at hl 4 rfl) ?_
      refine lv_iload_n hx hb dX11_goneAfter_33 rfl (lv_at hl 2 rfl) ?_
      refine lv_icmp_ge (tgt := 48) hx hb dX11_goneAfter_34 (by decide) (fun c15 => ?_) (fun c15 => ?_)
      · replace hf := ifT c15 hf
        refine lv_aload_n hx hb dX11_goneAfter_48 rfl (lv_at hl 0 rfl) ?_
        refine lv_iload_n hx hb dX11_goneAfter_49 rfl (lv_at hl 1 rfl) ?_
        replace hf := obE hf
        obtain ⟨z16, hz16, hf⟩ := hf
        obtain ⟨r18, S17⟩ := z16
        replace hf := ltE (ltE hf r18 rfl) S17 rfl
        refine x_callV (As := [.int v1]) (rest := []) (o := (some (.int r18))) (S1 := S17) hC hl.1 hW hS hGs hA tv0 rfl (show vwCl[10]? = some (RX11, TX11, 30) ∧ 10 < 11 from ⟨rfl, by decide⟩) (c_X11_livesOf l g ad n K H.size F S0 v0 v1 tv0 r18 S17 hz16) (cwV 1 hts gX11_goneAfter_X11_livesOf rfl rfl rfl (by decide +kernel) ⟨Nat.le_of_ble_eq_true rfl, Nat.le_of_ble_eq_true rfl⟩) rfl rfl (Nat.le_of_ble_eq_true rfl) dX11_goneAfter_50 ⟨Nat.le_of_ble_eq_true rfl, Nat.le_of_ble_eq_true rfl⟩ (fun H locs hPz16 hW hS => ?_)
        refine W.eq (g2 := F0 m 53 ls [.int r18]) rfl ?_
        refine lv_istore (lv' := [(4, .int r18), (0, .ref (ad v0)), (1, .int v1), (2, .int v2), (3, .int v3)]) hx hb dX11_goneAfter_53 hl (by decide) rfl (fun ls hl => ?_)
        refine lv_aload_n hx hb dX11_goneAfter_55 rfl (lv_at hl 1 rfl) ?_
        replace hf := obE hf
        obtain ⟨S21, hz20, hf⟩ := hf
        refine x_callV (As := []) (rest := []) (o := none) (S1 := S21) hC hl.1 hW hS hGs hA tv0 rfl (show vwCl[10]? = some (RX11, TX11, 30) ∧ 10 < 11 from ⟨rfl, by decide⟩) (c_X11_endThought l g ad n K H.size F S17 v0 tv0 S21 hz20) (cwV 0 hts gX11_goneAfter_X11_endThought rfl rfl rfl (by decide +kernel) ⟨Nat.le_of_ble_eq_true rfl, Nat.le_of_ble_eq_true rfl⟩) rfl rfl (Nat.le_of_ble_eq_true rfl) dX11_goneAfter_56 ⟨Nat.le_of_ble_eq_true rfl, Nat.le_of_ble_eq_true rfl⟩ (fun H locs hPz20 hW hS => ?_)
        refine W.eq (g2 := F0 m 59 ls []) rfl ?_
        refine lv_iload_n hx hb dX11_goneAfter_59 rfl (lv_at hl 4 rfl) ?_
        refine lv_iload hx hb dX11_goneAfter_60 (lv_at hl 0 rfl) ?_
        refine lv_isub hx hb dX11_goneAfter_62 ?_
        obtain ⟨e1, e2⟩ := so2 hf
        subst e1
        subst e2
        exact W.iret (v := v3 - r18) hx hb hr (fun t ht hWm => ⟨⟨rfl, by unfold QB; rw [ht]; exact ⟨hW, trivial⟩⟩, hS.F ht⟩) hS.2.2 dX11_goneAfter_63 hlk
      · replace hf := ifF c15 hf
        refine lv_aload_n hx hb dX11_goneAfter_37 rfl (lv_at hl 0 rfl) ?_
        replace hf := obE hf
        obtain ⟨z24, hz24, hf⟩ := hf
        obtain ⟨r26, S25⟩ := z24
        replace hf := ltE (ltE hf r26 rfl) S25 rfl
        refine x_callV (As := []) (rest := []) (o := (some (.int r26))) (S1 := S25) hC hl.1 hW hS hGs hA tv0 rfl (show vwCl[10]? = some (RX11, TX11, 30) ∧ 10 < 11 from ⟨rfl, by decide⟩) (c_X11_passDay l g ad n K H.size F S0 v0 tv0 r26 S25 hz24) (cwV 0 hts gX11_goneAfter_X11_passDay rfl rfl rfl (by decide +kernel) ⟨Nat.le_of_ble_eq_true rfl, Nat.le_of_ble_eq_true rfl⟩) rfl rfl (Nat.le_of_ble_eq_true rfl) dX11_goneAfter_38 ⟨Nat.le_of_ble_eq_true rfl, Nat.le_of_ble_eq_true rfl⟩ (fun H locs hPz24 hW hS => ?_)
        refine W.eq (g2 := F0 m 41 ls [.int r26]) rfl ?_
        refine lv_pop hx hb dX11_goneAfter_41 rfl ?_
        obtain ⟨x28, ex28⟩ : ∃ z : Int32, z = v4 + 1 := ⟨_, rfl⟩
        replace hf := ltE hf x28 ex28
        refine lv_iinc (v := x28) (lv' := [(4, .int x28), (0, .ref (ad v0)), (1, .int v1), (2, .int v2), (3, .int v3)]) hx hb dX11_goneAfter_42 hl (k := 4) rfl (by rw [ex28]; rfl) (by decide) rfl (fun ls hl => ?_)
        refine lv_goto (tgt := 31) hx hb dX11_goneAfter_45 (by decide) ?_
        exact ih31 S25 v0 v1 v2 v3 x28 tv0 _ _ _ hf hW hS (lv_sub hl [1, 2, 3, 4, 0] rfl)
  unfold f_X11_goneAfter at hf
  refine lv_aload_n hx hb dX11_goneAfter_0 rfl (lv_at hl 0 rfl) ?_
  refine lv_aload_n hx hb dX11_goneAfter_1 rfl (lv_at hl 0 rfl) ?_
  refine lv_iload_n hx hb dX11_goneAfter_2 rfl (lv_at hl 1 rfl) ?_
  replace hf := obE hf
  obtain ⟨z29, hz29, hf⟩ := hf
  obtain ⟨r31, S30⟩ := z29
  replace hf := ltE (ltE hf r31 rfl) S30 rfl
  refine x_callV (As := [.int p1]) (rest := [.ref (ad p0)]) (o := (some (.int r31))) (S1 := S30) hC hl.1 hW hS hGs hA tp0 rfl (show vwCl[10]? = some (RX11, TX11, 30) ∧ 10 < 11 from ⟨rfl, by decide⟩) (c_X11_isUser l g ad n K s.heap.size F S0 p0 p1 tp0 r31 S30 hz29) (cwV 1 hts gX11_goneAfter_X11_isUser rfl rfl rfl (by decide +kernel) ⟨Nat.le_of_ble_eq_true rfl, Nat.le_of_ble_eq_true rfl⟩) rfl rfl (Nat.le_of_ble_eq_true rfl) dX11_goneAfter_3 ⟨Nat.le_of_ble_eq_true rfl, Nat.le_of_ble_eq_true rfl⟩ (fun H locs hPz29 hW hS => ?_)
  refine W.eq (g2 := F0 m 6 ls [.int r31, .ref (ad p0)]) rfl ?_
  refine lv_iload_n hx hb dX11_goneAfter_6 rfl (lv_at hl 2 rfl) ?_
  replace hf := obE hf
  obtain ⟨z33, hz33, hf⟩ := hf
  obtain ⟨r35, S34⟩ := z33
  replace hf := ltE (ltE hf r35 rfl) S34 rfl
  refine x_callS (As := [.int p2]) (rest := [.int r31, .ref (ad p0)]) (o := (some (.int r35))) (S1 := S34) hC hl.1 hW hS hGs hA (c_X11_areDays l g ad n K H.size F S30 p2 r35 S34 hz33) (va_cwS 1 hts gX11_goneAfter_X11_areDays rfl rfl rfl (by decide +kernel) ⟨Nat.le_of_ble_eq_true rfl, Nat.le_of_ble_eq_true rfl⟩) rfl rfl (Nat.le_of_ble_eq_true rfl) dX11_goneAfter_7 ⟨Nat.le_of_ble_eq_true rfl, Nat.le_of_ble_eq_true rfl⟩ (fun H locs hPz33 hW hS => ?_)
  refine W.eq (g2 := F0 m 10 ls [.int r35, .int r31, .ref (ad p0)]) rfl ?_
  replace hf := obE hf
  obtain ⟨z37, hz37, hf⟩ := hf
  obtain ⟨r39, S38⟩ := z37
  replace hf := ltE (ltE hf r39 rfl) S38 rfl
  refine x_callV (As := [.int r31, .int r35]) (rest := []) (o := (some (.int r39))) (S1 := S38) hC hl.1 hW hS hGs hA tp0 rfl (show vwCl[10]? = some (RX11, TX11, 30) ∧ 10 < 11 from ⟨rfl, by decide⟩) (c_X11_passes2 l g ad n K H.size F S34 p0 r31 r35 tp0 r39 S38 hz37) (cwV 2 hts gX11_goneAfter_X11_passes2 rfl rfl rfl (by decide +kernel) ⟨Nat.le_of_ble_eq_true rfl, Nat.le_of_ble_eq_true rfl⟩) rfl rfl (Nat.le_of_ble_eq_true rfl) dX11_goneAfter_10 ⟨Nat.le_of_ble_eq_true rfl, Nat.le_of_ble_eq_true rfl⟩ (fun H locs hPz37 hW hS => ?_)
  refine W.eq (g2 := F0 m 13 ls [.int r39]) rfl ?_
  refine lv_if_ne (tgt := 18) hx hb dX11_goneAfter_13 (by decide) (fun c41 => ?_) (fun c41 => ?_)
  · replace hf := ifT c41 hf
    refine lv_aload_n hx hb dX11_goneAfter_18 rfl (lv_at hl 0 rfl) ?_
    refine lv_iload_n hx hb dX11_goneAfter_19 rfl (lv_at hl 1 rfl) ?_
    replace hf := obE hf
    obtain ⟨z42, hz42, hf⟩ := hf
    obtain ⟨r44, S43⟩ := z42
    replace hf := ltE (ltE hf r44 rfl) S43 rfl
    refine x_callV (As := [.int p1]) (rest := []) (o := (some (.int r44))) (S1 := S43) hC hl.1 hW hS hGs hA tp0 rfl (show vwCl[10]? = some (RX11, TX11, 30) ∧ 10 < 11 from ⟨rfl, by decide⟩) (c_X11_livesOf l g ad n K H.size F S38 p0 p1 tp0 r44 S43 hz42) (cwV 1 hts gX11_goneAfter_X11_livesOf rfl rfl rfl (by decide +kernel) ⟨Nat.le_of_ble_eq_true rfl, Nat.le_of_ble_eq_true rfl⟩) rfl rfl (Nat.le_of_ble_eq_true rfl) dX11_goneAfter_20 ⟨Nat.le_of_ble_eq_true rfl, Nat.le_of_ble_eq_true rfl⟩ (fun H locs hPz42 hW hS => ?_)
    refine W.eq (g2 := F0 m 23 ls [.int r44]) rfl ?_
    refine lv_istore_n (lv' := [(3, .int r44), (0, .ref (ad p0)), (1, .int p1), (2, .int p2)]) hx hb dX11_goneAfter_23 rfl hl (by decide) rfl (fun ls hl => ?_)
    refine lv_aload_n hx hb dX11_goneAfter_24 rfl (lv_at hl 1 rfl) ?_
    replace hf := obE hf
    obtain ⟨S47, hz46, hf⟩ := hf
    refine x_callV (As := []) (rest := []) (o := none) (S1 := S47) hC hl.1 hW hS hGs hA tp0 rfl (show vwCl[10]? = some (RX11, TX11, 30) ∧ 10 < 11 from ⟨rfl, by decide⟩) (c_X11_beginThought l g ad n K H.size F S43 p0 tp0 S47 hz46) (cwV 0 hts gX11_goneAfter_X11_beginThought rfl rfl rfl (by decide +kernel) ⟨Nat.le_of_ble_eq_true rfl, Nat.le_of_ble_eq_true rfl⟩) rfl rfl (Nat.le_of_ble_eq_true rfl) dX11_goneAfter_25 ⟨Nat.le_of_ble_eq_true rfl, Nat.le_of_ble_eq_true rfl⟩ (fun H locs hPz46 hW hS => ?_)
    refine W.eq (g2 := F0 m 28 ls []) rfl ?_
    refine lv_iconst (v := 0) hx hb dX11_goneAfter_28 (by decide) ?_
    refine lv_istore (lv' := [(4, .int 0), (3, .int r44), (0, .ref (ad p0)), (1, .int p1), (2, .int p2)]) hx hb dX11_goneAfter_29 hl (by decide) rfl (fun ls hl => ?_)
    exact L31 F S47 p0 p1 p2 r44 0 tp0 _ _ _ hf hW hS (lv_sub hl [2, 3, 4, 1, 0] rfl)
  · replace hf := ifF (fun q => q c41) hf
    refine lv_iconst (v := 0) hx hb dX11_goneAfter_16 (by decide) ?_
    obtain ⟨e1, e2⟩ := so2 hf
    subst e1
    subst e2
    exact W.iret (v := 0) hx hb hr (fun t ht hWm => ⟨⟨rfl, by unfold QB; rw [ht]; exact ⟨hW, trivial⟩⟩, hS.F ht⟩) hS.2.2 dX11_goneAfter_17 hlk
set_option maxHeartbeats 4000000 in
set_option maxRecDepth 100000 in
theorem c_X11_eventCount (l : Launch) (g : GP) (ad : Nat → Nat) (n : Nat) (K : Nat → Nat) (sz F : Nat) (S0 : St) (p0 : Nat) (tp0 : p0 < n ∧ K p0 = 10) (r9 : Int32) (S9 : St) (hf : f_X11_eventCount F S0 p0 = some (r9, S9)) : Met l yX11_eventCount wsX11_eventCount { frames := 0, cells := 0, slots := 0, locals := 0 } (va_Pc [.ref (ad p0)] (PB g ad n K S0 sz)) (QR (some (.int r9)) (QB g ad n K S9 (dA ad n sz) (True)) (dA ad n sz)) 0 0 (dA ad n sz) := by
  refine Met.ofW (cc := cX11_eventCount) (maxL := 1) (ret := (some .int)) (by decide) rfl ?_
  intro p e s m args below meth c s₁ B hml hv
  obtain ⟨rfl, hsz, hW, hK, hGs⟩ := x_start hv
  subst hsz
  have hx := B.exec
  have hb := B.bytes
  have hr := B.returns
  have hts := atoms_spec (ws := wsX11_eventCount) B.pre
  have hown : s.vm.findClass RX11 = some m.cls := findClass_of_methodNamed B.named
  have hlk := B.notSynchronized
  have hC : Cx g p s m _ c cX11_eventCount RX11 wsX11_eventCount 1 := ⟨hx, hb, hml, hown, hts, hK⟩
  have hA : ∀ q : Nat, s.heap.size ≤ q → dA ad n s.heap.size q := fun q h => Or.inr h
  have hS : va_S (dA ad n s.heap.size) s.heap s.heap [] := va_S.rf
  have hl := lv_entry ([.ref (ad p0)]) (n := 1) (Nat.le_of_ble_eq_true rfl)
  rw [lg_entry_eq]
  generalize (lg_sl ([.ref (ad p0)]) ++ List.replicate (1 - (lg_sl ([.ref (ad p0)])).length) Slot.unset).toArray = ls at hl ⊢
  have hl : lv_has ls 1 [(0, .ref (ad p0))] := hl
  have hin11 : ∀ w ∈ wsX110, w ∈ wsX11_eventCount := by decide +kernel
  have w_0 := hts (.fieldLink RX11 3 "MailSpoolModel" "thrown" "I") (by decide +kernel)
  have w_1 := hts (.fieldLink RX11 17 "MailSpoolModel" "net" "[I") (by decide +kernel)
  have hGE := hGs.2.2.2.2.2.2.1
  have hGM := hGs.2.2.2.2.2.2.2.1
  unfold f_X11_eventCount at hf
  refine lv_aload_n hx hb dX11_eventCount_0 rfl (lv_at hl 0 rfl) ?_
  refine lv_iconst (v := 0) hx hb dX11_eventCount_1 (by decide) ?_
  refine x_puti 1000 (ci := 10) (C := RX11) (T := TX11) (N := 30) (v := 0) (ty := .int) 0 hC hin11 tyX11_ok nmX11 hW hS tp0 rfl rfl ⟨by decide, by decide, rfl, rfl⟩ rfl w_0 rfl (by decide +kernel) rfl rfl dX11_eventCount_2 (fun S1 H locs eS1 hW hS => ?_)
  replace hf := ltE hf S1 eS1
  refine lv_aload_n hx hb dX11_eventCount_5 rfl (lv_at hl 0 rfl) ?_
  replace hf := obE hf
  obtain ⟨j2, qj2, hf⟩ := hf
  have tj2 := x_rt hW qj2 12 ⟨by decide, rfl⟩
  refine x_getr 1001 (ci := 10) (C := RX11) (T := TX11) (N := 30) 1 hC hin11 hW tp0 rfl rfl ⟨by decide, by decide, rfl, rfl⟩ rfl w_1 dX11_eventCount_6 qj2 ?_
  refine lv_bipush (v := 9) hx hb dX11_eventCount_9 (by decide) ?_
  replace hf := ckiE hf
  obtain ⟨h3, hf⟩ := hf
  refine x_iald hC hW tj2 rfl rfl h3 dX11_eventCount_11 ?_
  obtain ⟨e1, e2⟩ := so2 hf
  subst e1
  subst e2
  exact W.iret (v := ai S1 j2 (Int32.toNatClampNeg 9)) hx hb hr (fun t ht hWm => ⟨⟨rfl, by unfold QB; rw [ht]; exact ⟨hW, trivial⟩⟩, hS.F ht⟩) hS.2.2 dX11_eventCount_12 hlk
set_option maxHeartbeats 4000000 in
set_option maxRecDepth 100000 in
theorem c_X11_event (l : Launch) (g : GP) (ad : Nat → Nat) (n : Nat) (K : Nat → Nat) (sz F : Nat) (S0 : St) (p0 : Nat) (p1 : Int32) (p2 : Int32) (tp0 : p0 < n ∧ K p0 = 10) (r9 : Int32) (S9 : St) (hf : f_X11_event F S0 p0 p1 p2 = some (r9, S9)) : Met l yX11_event wsX11_event { frames := 2, cells := 0, slots := 0, locals := 45 } (va_Pc [.ref (ad p0), .int p1, .int p2] (PB g ad n K S0 sz)) (QR (some (.int r9)) (QB g ad n K S9 (dA ad n sz) (True)) (dA ad n sz)) 0 0 (dA ad n sz) := by
  refine Met.ofW (cc := cX11_event) (maxL := 3) (ret := (some .int)) (by decide) rfl ?_
  intro p e s m args below meth c s₁ B hml hv
  obtain ⟨rfl, hsz, hW, hK, hGs⟩ := x_start hv
  subst hsz
  have hx := B.exec
  have hb := B.bytes
  have hr := B.returns
  have hts := atoms_spec (ws := wsX11_event) B.pre
  have hown : s.vm.findClass RX11 = some m.cls := findClass_of_methodNamed B.named
  have hlk := B.notSynchronized
  have hC : Cx g p s m _ c cX11_event RX11 wsX11_event 3 := ⟨hx, hb, hml, hown, hts, hK⟩
  have hA : ∀ q : Nat, s.heap.size ≤ q → dA ad n s.heap.size q := fun q h => Or.inr h
  have hS : va_S (dA ad n s.heap.size) s.heap s.heap [] := va_S.rf
  have hl := lv_entry ([.ref (ad p0), .int p1, .int p2]) (n := 3) (Nat.le_of_ble_eq_true rfl)
  rw [lg_entry_eq]
  generalize (lg_sl ([.ref (ad p0), .int p1, .int p2]) ++ List.replicate (3 - (lg_sl ([.ref (ad p0), .int p1, .int p2])).length) Slot.unset).toArray = ls at hl ⊢
  have hl : lv_has ls 3 [(0, .ref (ad p0)), (1, .int p1), (2, .int p2)] := hl
  have hin11 : ∀ w ∈ wsX110, w ∈ wsX11_event := by decide +kernel
  have w_0 := hts (.fieldLink RX11 17 "MailSpoolModel" "net" "[I") (by decide +kernel)
  have w_1 := hts (.constantLong RX11 82 (2)) (by decide +kernel)
  have hGE := hGs.2.2.2.2.2.2.1
  have hGM := hGs.2.2.2.2.2.2.2.1
  unfold f_X11_event at hf
  refine lv_aload_n hx hb dX11_event_0 rfl (lv_at hl 0 rfl) ?_
  refine lv_iload_n hx hb dX11_event_1 rfl (lv_at hl 1 rfl) ?_
  refine lv_i2l (v := p1.toInt64) hx hb dX11_event_2 rfl ?_
  refine lv_lconst (v := 0) hx hb dX11_event_3 (by decide) ?_
  refine lv_aload_n hx hb dX11_event_4 rfl (lv_at hl 0 rfl) ?_
  replace hf := obE hf
  obtain ⟨j1, qj1, hf⟩ := hf
  have tj1 := x_rt hW qj1 12 ⟨by decide, rfl⟩
  refine x_getr 1001 (ci := 10) (C := RX11) (T := TX11) (N := 30) 1 hC hin11 hW tp0 rfl rfl ⟨by decide, by decide, rfl, rfl⟩ rfl w_0 dX11_event_5 qj1 ?_
  refine lv_bipush (v := 9) hx hb dX11_event_8 (by decide) ?_
  replace hf := ckiE hf
  obtain ⟨h2, hf⟩ := hf
  refine x_iald hC hW tj1 rfl rfl h2 dX11_event_10 ?_
  refine lv_iconst (v := 1) hx hb dX11_event_11 (by decide) ?_
  refine lv_isub hx hb dX11_event_12 ?_
  refine lv_i2l (v := ((ai S0 j1 (Int32.toNatClampNeg 9)) - 1).toInt64) hx hb dX11_event_13 rfl ?_
  replace hf := obE hf
  obtain ⟨z3, hz3, hf⟩ := hf
  obtain ⟨r5, S4⟩ := z3
  replace hf := ltE (ltE hf r5 rfl) S4 rfl
  refine x_callS (As := [.long (p1.toInt64), .long (0), .long (((ai S0 j1 (Int32.toNatClampNeg 9)) - 1).toInt64)]) (rest := [.ref (ad p0)]) (o := (some (.int r5))) (S1 := S4) hC hl.1 hW hS hGs hA (c_X11_in l g ad n K s.heap.size F S0 p1.toInt64 ((0 : Int64)) (((ai S0 j1 (Int32.toNatClampNeg 9)) - 1).toInt64) r5 S4 hz3) (va_cwS 3 hts gX11_event_X11_in rfl rfl rfl (by decide +kernel) ⟨Nat.le_of_ble_eq_true rfl, Nat.le_of_ble_eq_true rfl⟩) rfl rfl (Nat.le_of_ble_eq_true rfl) dX11_event_14 ⟨Nat.le_of_ble_eq_true rfl, Nat.le_of_ble_eq_true rfl⟩ (fun H locs hPz3 hW hS => ?_)
  refine W.eq (g2 := F0 m 17 ls [.int r5, .ref (ad p0)]) rfl ?_
  refine lv_iload_n hx hb dX11_event_17 rfl (lv_at hl 2 rfl) ?_
  refine lv_i2l (v := p2.toInt64) hx hb dX11_event_18 rfl ?_
  refine lv_lconst (v := 0) hx hb dX11_event_19 (by decide) ?_
  refine lv_ldc2 (v := (2)) hx hb hown w_1 dX11_event_20 ?_
  replace hf := obE hf
  obtain ⟨z7, hz7, hf⟩ := hf
  obtain ⟨r9, S8⟩ := z7
  replace hf := ltE (ltE hf r9 rfl) S8 rfl
  refine x_callS (As := [.long (p2.toInt64), .long (0), .long ((2))]) (rest := [.int r5, .ref (ad p0)]) (o := (some (.int r9))) (S1 := S8) hC hl.1 hW hS hGs hA (c_X11_in l g ad n K H.size F S4 p2.toInt64 ((0 : Int64)) (((2) : Int64)) r9 S8 hz7) (va_cwS 3 hts gX11_event_X11_in rfl rfl rfl (by decide +kernel) ⟨Nat.le_of_ble_eq_true rfl, Nat.le_of_ble_eq_true rfl⟩) rfl rfl (Nat.le_of_ble_eq_true rfl) dX11_event_23 ⟨Nat.le_of_ble_eq_true rfl, Nat.le_of_ble_eq_true rfl⟩ (fun H locs hPz7 hW hS => ?_)
  refine W.eq (g2 := F0 m 26 ls [.int r9, .int r5, .ref (ad p0)]) rfl ?_
  replace hf := obE hf
  obtain ⟨z11, hz11, hf⟩ := hf
  obtain ⟨r13, S12⟩ := z11
  replace hf := ltE (ltE hf r13 rfl) S12 rfl
  refine x_callV (As := [.int r5, .int r9]) (rest := []) (o := (some (.int r13))) (S1 := S12) hC hl.1 hW hS hGs hA tp0 rfl (show vwCl[10]? = some (RX11, TX11, 30) ∧ 10 < 11 from ⟨rfl, by decide⟩) (c_X11_passes2 l g ad n K H.size F S8 p0 r5 r9 tp0 r13 S12 hz11) (cwV 2 hts gX11_event_X11_passes2 rfl rfl rfl (by decide +kernel) ⟨Nat.le_of_ble_eq_true rfl, Nat.le_of_ble_eq_true rfl⟩) rfl rfl (Nat.le_of_ble_eq_true rfl) dX11_event_26 ⟨Nat.le_of_ble_eq_true rfl, Nat.le_of_ble_eq_true rfl⟩ (fun H locs hPz11 hW hS => ?_)
  refine W.eq (g2 := F0 m 29 ls [.int r13]) rfl ?_
  refine lv_if_eq (tgt := 49) hx hb dX11_event_29 (by decide) (fun c15 => ?_) (fun c15 => ?_)
  · replace hf := ifT c15 hf
    refine lv_iconst (v := 0) hx hb dX11_event_49 (by decide) ?_
    obtain ⟨e1, e2⟩ := so2 hf
    subst e1
    subst e2
    exact W.iret (v := 0) hx hb hr (fun t ht hWm => ⟨⟨rfl, by unfold QB; rw [ht]; exact ⟨hW, trivial⟩⟩, hS.F ht⟩) hS.2.2 dX11_event_50 hlk
  · replace hf := ifF c15 hf
    refine lv_aload_n hx hb dX11_event_32 rfl (lv_at hl 0 rfl) ?_
    replace hf := obE hf
    obtain ⟨j16, qj16, hf⟩ := hf
    have tj16 := x_rt hW qj16 12 ⟨by decide, rfl⟩
    refine x_getr 1001 (ci := 10) (C := RX11) (T := TX11) (N := 30) 1 hC hin11 hW tp0 rfl rfl ⟨by decide, by decide, rfl, rfl⟩ rfl w_0 dX11_event_33 qj16 ?_
    refine lv_sipush (v := 6211) hx hb dX11_event_36 (by decide) ?_
    refine lv_iconst (v := 3) hx hb dX11_event_39 (by decide) ?_
    refine lv_iload_n hx hb dX11_event_40 rfl (lv_at hl 1 rfl) ?_
    refine lv_imul hx hb dX11_event_41 ?_
    refine lv_iadd hx hb dX11_event_42 ?_
    refine lv_iload_n hx hb dX11_event_43 rfl (lv_at hl 2 rfl) ?_
    refine lv_iadd hx hb dX11_event_44 ?_
    replace hf := ckiE hf
    obtain ⟨h17, hf⟩ := hf
    refine x_iald hC hW tj16 rfl rfl h17 dX11_event_45 ?_
    refine lv_goto (tgt := 50) hx hb dX11_event_46 (by decide) ?_
    obtain ⟨e1, e2⟩ := so2 hf
    subst e1
    subst e2
    exact W.iret (v := ai S12 j16 (Int32.toNatClampNeg ((6211 + (3 * p1)) + p2))) hx hb hr (fun t ht hWm => ⟨⟨rfl, by unfold QB; rw [ht]; exact ⟨hW, trivial⟩⟩, hS.F ht⟩) hS.2.2 dX11_event_50 hlk
set_option maxHeartbeats 4000000 in
set_option maxRecDepth 100000 in
theorem c_X11_eventsOf (l : Launch) (g : GP) (ad : Nat → Nat) (n : Nat) (K : Nat → Nat) (sz F : Nat) (S0 : St) (p0 : Nat) (p1 : Int32) (tp0 : p0 < n ∧ K p0 = 10) (r9 : Int32) (S9 : St) (hf : f_X11_eventsOf F S0 p0 p1 = some (r9, S9)) : Met l yX11_eventsOf wsX11_eventsOf { frames := 2, cells := 0, slots := 0, locals := 44 } (va_Pc [.ref (ad p0), .int p1] (PB g ad n K S0 sz)) (QR (some (.int r9)) (QB g ad n K S9 (dA ad n sz) (True)) (dA ad n sz)) 0 0 (dA ad n sz) := by
  refine Met.ofW (cc := cX11_eventsOf) (maxL := 4) (ret := (some .int)) (by decide) rfl ?_
  intro p e s m args below meth c s₁ B hml hv
  obtain ⟨rfl, hsz, hW, hK, hGs⟩ := x_start hv
  subst hsz
  have hx := B.exec
  have hb := B.bytes
  have hr := B.returns
  have hts := atoms_spec (ws := wsX11_eventsOf) B.pre
  have hown : s.vm.findClass RX11 = some m.cls := findClass_of_methodNamed B.named
  have hlk := B.notSynchronized
  have hC : Cx g p s m _ c cX11_eventsOf RX11 wsX11_eventsOf 4 := ⟨hx, hb, hml, hown, hts, hK⟩
  have hA : ∀ q : Nat, s.heap.size ≤ q → dA ad n s.heap.size q := fun q h => Or.inr h
  have hS : va_S (dA ad n s.heap.size) s.heap s.heap [] := va_S.rf
  have hl := lv_entry ([.ref (ad p0), .int p1]) (n := 4) (Nat.le_of_ble_eq_true rfl)
  rw [lg_entry_eq]
  generalize (lg_sl ([.ref (ad p0), .int p1]) ++ List.replicate (4 - (lg_sl ([.ref (ad p0), .int p1])).length) Slot.unset).toArray = ls at hl ⊢
  have hl : lv_has ls 4 [(0, .ref (ad p0)), (1, .int p1)] := hl
  have hin11 : ∀ w ∈ wsX110, w ∈ wsX11_eventsOf := by decide +kernel
  have w_0 := hts (.fieldLink RX11 17 "MailSpoolModel" "net" "[I") (by decide +kernel)
  have w_1 := hts (.constantLong RX11 477 (10)) (by decide +kernel)
  have hGE := hGs.2.2.2.2.2.2.1
  have hGM := hGs.2.2.2.2.2.2.2.1
  have L22 : ∀ (fu22 : Nat) (S0 : St) (v0 : Nat) (v1 : Int32) (v2 : Int32) (v3 : Int32) (tv0 : v0 < n ∧ K v0 = 10) (H : Heap) (locs : List Loc) (ls : Array Slot), f_X11_eventsOf_L22 F fu22 S0 v0 v1 v2 v3 = some (r9, S9) → Wb g ad n K S0 (dA ad n s.heap.size) H → va_S (dA ad n s.heap.size) s.heap H locs → lv_has ls 4 [(0, .ref (ad v0)), (1, .int v1), (2, .int v2), (3, .int v3)] → W p l e (headSpec wsX11_eventsOf { frames := 2, cells := 0, slots := 0, locals := 44 }).room s m (List.toArray [.ref (ad p0), .int p1]) below meth c H locs 0 0 (MQ below (QR (some (.int r9)) (QB g ad n K S9 (dA ad n s.heap.size) (True)) (dA ad n s.heap.size)) (List.toArray [.ref (ad p0), .int p1]) s 0 0 (dA ad n s.heap.size)) (F0 m 22 ls []) := by
    intro fu22
    induction fu22 with
    | zero =>
      intro S0 v0 v1 v2 v3 tv0 H locs ls hf
      cases hf
    | succ fu22 ih22 =>
      have L57 : ∀ (S0 : St) (v0 : Nat) (v1 : Int32) (v3 : Int32) (s0 : Int32) (s1 : Int32) (tv0 : v0 < n ∧ K v0 = 10) (H : Heap) (locs : List Loc) (ls : Array Slot), f_X11_eventsOf_L57 F (fun a0 a1 a2 a3 a4 => f_X11_eventsOf_L22 F fu22 a0 a1 a2 a3 a4) S0 v0 v1 v3 s0 s1 = some (r9, S9) → Wb g ad n K S0 (dA ad n s.heap.size) H → va_S (dA ad n s.heap.size) s.heap H locs → lv_has ls 4 [(0, .ref (ad v0)), (1, .int v1), (3, .int v3)] → W p l e (headSpec wsX11_eventsOf { frames := 2, cells := 0, slots := 0, locals := 44 }).room s m (List.toArray [.ref (ad p0), .int p1]) below meth c H locs 0 0 (MQ below (QR (some (.int r9)) (QB g ad n K S9 (dA ad n s.heap.size) (True)) (dA ad n s.heap.size)) (List.toArray [.ref (ad p0), .int p1]) s 0 0 (dA ad n s.heap.size)) (F0 m 57 ls [.int s0, .int s1]) := by
        intro S0 v0 v1 v3 s0 s1 tv0 H locs ls hf hW hS hl
        unfold f_X11_eventsOf_L57 at hf
        refine lv_iadd hx hb dX11_eventsOf_57 ?_
        refine lv_topi (fun x3 ex3 => ?_)
        replace hf := ltE hf x3 ex3
        refine lv_istore_n (lv' := [(2, .int x3), (0, .ref (ad v0)), (1, .int v1), (3, .int v3)]) hx hb dX11_eventsOf_58 rfl hl (by decide) rfl (fun ls hl => ?_)
        obtain ⟨x4, ex4⟩ : ∃ z : Int32, z = v3 + 1 := ⟨_, rfl⟩
        replace hf := ltE hf x4 ex4
        refine lv_iinc (v := x4) (lv' := [(3, .int x4), (2, .int x3), (0, .ref (ad v0)), (1, .int v1)]) hx hb dX11_eventsOf_59 hl (k := 3) rfl (by rw [ex4]; rfl) (by decide) rfl (fun ls hl => ?_)
        refine lv_goto (tgt := 22) hx hb dX11_eventsOf_62 (by decide) ?_
        exact ih22 S0 v0 v1 x3 x4 tv0 _ _ _ hf hW hS (lv_sub hl [2, 3, 1, 0] rfl)
      intro S0 v0 v1 v2 v3 tv0 H locs ls hf hW hS hl
      unfold f_X11_eventsOf_L22 at hf
      refine lv_iload_n hx hb dX11_eventsOf_22 rfl (lv_at hl 3 rfl) ?_
      refine lv_aload_n hx hb dX11_eventsOf_23 rfl (lv_at hl 0 rfl) ?_
      replace hf := obE hf
      obtain ⟨j11, qj11, hf⟩ := hf
      have tj11 := x_rt hW qj11 12 ⟨by decide, rfl⟩
      refine x_getr 1001 (ci := 10) (C := RX11) (T := TX11) (N := 30) 1 hC hin11 hW tv0 rfl rfl ⟨by decide, by decide, rfl, rfl⟩ rfl w_0 dX11_eventsOf_24 qj11 ?_
      refine lv_bipush (v := 9) hx hb dX11_eventsOf_27 (by decide) ?_
      replace hf := ckiE hf
      obtain ⟨h12, hf⟩ := hf
      refine x_iald hC hW tj11 rfl rfl h12 dX11_eventsOf_29 ?_
      refine lv_icmp_ge (tgt := 65) hx hb dX11_eventsOf_30 (by decide) (fun c13 => ?_) (fun c13 => ?_)
      · replace hf := ifT c13 hf
        refine lv_iload_n hx hb dX11_eventsOf_65 rfl (lv_at hl 2 rfl) ?_
        obtain ⟨e1, e2⟩ := so2 hf
        subst e1
        subst e2
        exact W.iret (v := v2) hx hb hr (fun t ht hWm => ⟨⟨rfl, by unfold QB; rw [ht]; exact ⟨hW, trivial⟩⟩, hS.F ht⟩) hS.2.2 dX11_eventsOf_66 hlk
      · replace hf := ifF c13 hf
        refine lv_iload_n hx hb dX11_eventsOf_33 rfl (lv_at hl 2 rfl) ?_
        refine lv_aload_n hx hb dX11_eventsOf_34 rfl (lv_at hl 0 rfl) ?_
        replace hf := obE hf
        obtain ⟨j14, qj14, hf⟩ := hf
        have tj14 := x_rt hW qj14 12 ⟨by decide, rfl⟩
        refine x_getr 1001 (ci := 10) (C := RX11) (T := TX11) (N := 30) 1 hC hin11 hW tv0 rfl rfl ⟨by decide, by decide, rfl, rfl⟩ rfl w_0 dX11_eventsOf_35 qj14 ?_
        refine lv_sipush (v := 6211) hx hb dX11_eventsOf_38 (by decide) ?_
        refine lv_iconst (v := 3) hx hb dX11_eventsOf_41 (by decide) ?_
        refine lv_iload_n hx hb dX11_eventsOf_42 rfl (lv_at hl 3 rfl) ?_
        refine lv_imul hx hb dX11_eventsOf_43 ?_
        refine lv_iadd hx hb dX11_eventsOf_44 ?_
        refine lv_iconst (v := 1) hx hb dX11_eventsOf_45 (by decide) ?_
        refine lv_iadd hx hb dX11_eventsOf_46 ?_
        replace hf := ckiE hf
        obtain ⟨h15, hf⟩ := hf
        refine x_iald hC hW tj14 rfl rfl h15 dX11_eventsOf_47 ?_
        refine lv_iload_n hx hb dX11_eventsOf_48 rfl (lv_at hl 1 rfl) ?_
        refine lv_icmp_ne (tgt := 56) hx hb dX11_eventsOf_49 (by decide) (fun c16 => ?_) (fun c16 => ?_)
        · replace hf := ifT c16 hf
          refine lv_iconst (v := 0) hx hb dX11_eventsOf_56 (by decide) ?_
          exact L57 S0 v0 v1 v3 0 v2 tv0 _ _ _ hf hW hS (lv_sub hl [0, 1, 3] rfl)
        · replace hf := ifF (fun q => q c16) hf
          refine lv_iconst (v := 1) hx hb dX11_eventsOf_52 (by decide) ?_
          refine lv_goto (tgt := 57) hx hb dX11_eventsOf_53 (by decide) ?_
          exact L57 S0 v0 v1 v3 1 v2 tv0 _ _ _ hf hW hS (lv_sub hl [0, 1, 3] rfl)
  unfold f_X11_eventsOf at hf
  refine lv_aload_n hx hb dX11_eventsOf_0 rfl (lv_at hl 0 rfl) ?_
  refine lv_iload_n hx hb dX11_eventsOf_1 rfl (lv_at hl 1 rfl) ?_
  refine lv_i2l (v := p1.toInt64) hx hb dX11_eventsOf_2 rfl ?_
  refine lv_lconst (v := 1) hx hb dX11_eventsOf_3 (by decide) ?_
  refine lv_ldc2 (v := (10)) hx hb hown w_1 dX11_eventsOf_4 ?_
  replace hf := obE hf
  obtain ⟨z17, hz17, hf⟩ := hf
  obtain ⟨r19, S18⟩ := z17
  replace hf := ltE (ltE hf r19 rfl) S18 rfl
  refine x_callS (As := [.long (p1.toInt64), .long (1), .long ((10))]) (rest := [.ref (ad p0)]) (o := (some (.int r19))) (S1 := S18) hC hl.1 hW hS hGs hA (c_X11_in l g ad n K s.heap.size F S0 p1.toInt64 ((1 : Int64)) (((10) : Int64)) r19 S18 hz17) (va_cwS 3 hts gX11_eventsOf_X11_in rfl rfl rfl (by decide +kernel) ⟨Nat.le_of_ble_eq_true rfl, Nat.le_of_ble_eq_true rfl⟩) rfl rfl (Nat.le_of_ble_eq_true rfl) dX11_eventsOf_7 ⟨Nat.le_of_ble_eq_true rfl, Nat.le_of_ble_eq_true rfl⟩ (fun H locs hPz17 hW hS => ?_)
  refine W.eq (g2 := F0 m 10 ls [.int r19, .ref (ad p0)]) rfl ?_
  replace hf := obE hf
  obtain ⟨z21, hz21, hf⟩ := hf
  obtain ⟨r23, S22⟩ := z21
  replace hf := ltE (ltE hf r23 rfl) S22 rfl
  refine x_callV (As := [.int r19]) (rest := []) (o := (some (.int r23))) (S1 := S22) hC hl.1 hW hS hGs hA tp0 rfl (show vwCl[10]? = some (RX11, TX11, 30) ∧ 10 < 11 from ⟨rfl, by decide⟩) (c_X11_passes l g ad n K H.size F S18 p0 r19 tp0 r23 S22 hz21) (cwV 1 hts gX11_eventsOf_X11_passes rfl rfl rfl (by decide +kernel) ⟨Nat.le_of_ble_eq_true rfl, Nat.le_of_ble_eq_true rfl⟩) rfl rfl (Nat.le_of_ble_eq_true rfl) dX11_eventsOf_10 ⟨Nat.le_of_ble_eq_true rfl, Nat.le_of_ble_eq_true rfl⟩ (fun H locs hPz21 hW hS => ?_)
  refine W.eq (g2 := F0 m 13 ls [.int r23]) rfl ?_
  refine lv_if_ne (tgt := 18) hx hb dX11_eventsOf_13 (by decide) (fun c25 => ?_) (fun c25 => ?_)
  · replace hf := ifT c25 hf
    refine lv_iconst (v := 0) hx hb dX11_eventsOf_18 (by decide) ?_
    refine lv_istore_n (lv' := [(2, .int 0), (0, .ref (ad p0)), (1, .int p1)]) hx hb dX11_eventsOf_19 rfl hl (by decide) rfl (fun ls hl => ?_)
    refine lv_iconst (v := 0) hx hb dX11_eventsOf_20 (by decide) ?_
    refine lv_istore_n (lv' := [(3, .int 0), (2, .int 0), (0, .ref (ad p0)), (1, .int p1)]) hx hb dX11_eventsOf_21 rfl hl (by decide) rfl (fun ls hl => ?_)
    exact L22 F S22 p0 p1 0 0 tp0 _ _ _ hf hW hS (lv_sub hl [2, 3, 1, 0] rfl)
  · replace hf := ifF (fun q => q c25) hf
    refine lv_iconst (v := 0) hx hb dX11_eventsOf_16 (by decide) ?_
    obtain ⟨e1, e2⟩ := so2 hf
    subst e1
    subst e2
    exact W.iret (v := 0) hx hb hr (fun t ht hWm => ⟨⟨rfl, by unfold QB; rw [ht]; exact ⟨hW, trivial⟩⟩, hS.F ht⟩) hS.2.2 dX11_eventsOf_17 hlk
set_option maxHeartbeats 4000000 in
set_option maxRecDepth 100000 in
theorem c_X11_undo (l : Launch) (g : GP) (ad : Nat → Nat) (n : Nat) (K : Nat → Nat) (sz F : Nat) (S0 : St) (p0 : Nat) (tp0 : p0 < n ∧ K p0 = 10) (r9 : Int32) (S9 : St) (hf : f_X11_undo F S0 p0 = some (r9, S9)) : Met l yX11_undo wsX11_undo { frames := 2, cells := 0, slots := 0, locals := 44 } (va_Pc [.ref (ad p0)] (PB g ad n K S0 sz)) (QR (some (.int r9)) (QB g ad n K S9 (dA ad n sz) (True)) (dA ad n sz)) 0 0 (dA ad n sz) := by
  refine Met.ofW (cc := cX11_undo) (maxL := 3) (ret := (some .int)) (by decide) rfl ?_
  intro p e s m args below meth c s₁ B hml hv
  obtain ⟨rfl, hsz, hW, hK, hGs⟩ := x_start hv
  subst hsz
  have hx := B.exec
  have hb := B.bytes
  have hr := B.returns
  have hts := atoms_spec (ws := wsX11_undo) B.pre
  have hown : s.vm.findClass RX11 = some m.cls := findClass_of_methodNamed B.named
  have hlk := B.notSynchronized
  have hC : Cx g p s m _ c cX11_undo RX11 wsX11_undo 3 := ⟨hx, hb, hml, hown, hts, hK⟩
  have hA : ∀ q : Nat, s.heap.size ≤ q → dA ad n s.heap.size q := fun q h => Or.inr h
  have hS : va_S (dA ad n s.heap.size) s.heap s.heap [] := va_S.rf
  have hl := lv_entry ([.ref (ad p0)]) (n := 3) (Nat.le_of_ble_eq_true rfl)
  rw [lg_entry_eq]
  generalize (lg_sl ([.ref (ad p0)]) ++ List.replicate (3 - (lg_sl ([.ref (ad p0)])).length) Slot.unset).toArray = ls at hl ⊢
  have hl : lv_has ls 3 [(0, .ref (ad p0))] := hl
  have hin11 : ∀ w ∈ wsX110, w ∈ wsX11_undo := by decide +kernel
  have w_0 := hts (.fieldLink RX11 17 "MailSpoolModel" "net" "[I") (by decide +kernel)
  have w_1 := hts (.fieldLink RX11 479 "MailSpoolModel" "remembered" "I") (by decide +kernel)
  have w_2 := hts (.fieldLink RX11 25 "MailSpoolModel" "bytes" "[B") (by decide +kernel)
  have w_3 := hts (.fieldLink RX11 58 "MailSpoolModel" "historyBytes" "[B") (by decide +kernel)
  have w_4 := hts (.constant RX11 24 (96000)) (by decide +kernel)
  have w_5 := hts (.fieldLink RX11 54 "MailSpoolModel" "history" "[I") (by decide +kernel)
  have w_6 := hts (.fieldLink RX11 482 "MailSpoolModel" "oldest" "I") (by decide +kernel)
  have hGE := hGs.2.2.2.2.2.2.1
  have hGM := hGs.2.2.2.2.2.2.2.1
  have L79 : ∀ (fu79 : Nat) (S0 : St) (v0 : Nat) (v1 : Int32) (v2 : Int32) (tv0 : v0 < n ∧ K v0 = 10) (H : Heap) (locs : List Loc) (ls : Array Slot), f_X11_undo_L79 F fu79 S0 v0 v1 v2 = some (r9, S9) → Wb g ad n K S0 (dA ad n s.heap.size) H → va_S (dA ad n s.heap.size) s.heap H locs → lv_has ls 3 [(0, .ref (ad v0)), (1, .int v1), (2, .int v2)] → W p l e (headSpec wsX11_undo { frames := 2, cells := 0, slots := 0, locals := 44 }).room s m (List.toArray [.ref (ad p0)]) below meth c H locs 0 0 (MQ below (QR (some (.int r9)) (QB g ad n K S9 (dA ad n s.heap.size) (True)) (dA ad n s.heap.size)) (List.toArray [.ref (ad p0)]) s 0 0 (dA ad n s.heap.size)) (F0 m 79 ls []) := by
    intro fu79
    induction fu79 with
    | zero =>
      intro S0 v0 v1 v2 tv0 H locs ls hf
      cases hf
    | succ fu79 ih79 =>
      intro S0 v0 v1 v2 tv0 H locs ls hf hW hS hl
      unfold f_X11_undo_L79 at hf
      refine lv_iload_n hx hb dX11_undo_79 rfl (lv_at hl 2 rfl) ?_
      refine lv_sipush (v := 200) hx hb dX11_undo_80 (by decide) ?_
      refine lv_aload_n hx hb dX11_undo_83 rfl (lv_at hl 0 rfl) ?_
      replace hf := obE hf
      obtain ⟨j10, qj10, hf⟩ := hf
      have tj10 := x_rt hW qj10 12 ⟨by decide, rfl⟩
      refine x_getr 1001 (ci := 10) (C := RX11) (T := TX11) (N := 30) 1 hC hin11 hW tv0 rfl rfl ⟨by decide, by decide, rfl, rfl⟩ rfl w_0 dX11_undo_84 qj10 ?_
      refine lv_bipush (v := 8) hx hb dX11_undo_87 (by decide) ?_
      replace hf := ckiE hf
      obtain ⟨h11, hf⟩ := hf
      refine x_iald hC hW tj10 rfl rfl h11 dX11_undo_89 ?_
      refine lv_imul hx hb dX11_undo_90 ?_
      refine lv_icmp_ge (tgt := 117) hx hb dX11_undo_91 (by decide) (fun c12 => ?_) (fun c12 => ?_)
      · replace hf := ifT c12 hf
        refine lv_aload_n hx hb dX11_undo_117 rfl (lv_at hl 0 rfl) ?_
        refine x_geti 1026 (ci := 10) (C := RX11) (T := TX11) (N := 30) 26 hC hin11 hW tv0 rfl rfl ⟨by decide, by decide, rfl, rfl⟩ rfl w_1 dX11_undo_118 ?_
        obtain ⟨e1, e2⟩ := so2 hf
        subst e1
        subst e2
        exact W.iret (v := si S0 1026 v0) hx hb hr (fun t ht hWm => ⟨⟨rfl, by unfold QB; rw [ht]; exact ⟨hW, trivial⟩⟩, hS.F ht⟩) hS.2.2 dX11_undo_121 hlk
      · replace hf := ifF c12 hf
        refine lv_aload_n hx hb dX11_undo_94 rfl (lv_at hl 0 rfl) ?_
        replace hf := obE hf
        obtain ⟨j13, qj13, hf⟩ := hf
        have tj13 := x_rt hW qj13 11 ⟨by decide, rfl⟩
        refine x_getr 1003 (ci := 10) (C := RX11) (T := TX11) (N := 30) 3 hC hin11 hW tv0 rfl rfl ⟨by decide, by decide, rfl, rfl⟩ rfl w_2 dX11_undo_95 qj13 ?_
        refine lv_iload_n hx hb dX11_undo_98 rfl (lv_at hl 2 rfl) ?_
        refine lv_aload_n hx hb dX11_undo_99 rfl (lv_at hl 0 rfl) ?_
        replace hf := obE hf
        obtain ⟨j14, qj14, hf⟩ := hf
        have tj14 := x_rt hW qj14 11 ⟨by decide, rfl⟩
        refine x_getr 1025 (ci := 10) (C := RX11) (T := TX11) (N := 30) 25 hC hin11 hW tv0 rfl rfl ⟨by decide, by decide, rfl, rfl⟩ rfl w_3 dX11_undo_100 qj14 ?_
        refine lv_ldc (v := 96000) hx hb hown w_4 dX11_undo_103 ?_
        refine lv_iload_n hx hb dX11_undo_105 rfl (lv_at hl 1 rfl) ?_
        refine lv_imul hx hb dX11_undo_106 ?_
        refine lv_iload_n hx hb dX11_undo_107 rfl (lv_at hl 2 rfl) ?_
        refine lv_iadd hx hb dX11_undo_108 ?_
        replace hf := ckiE hf
        obtain ⟨h15, hf⟩ := hf
        refine x_bald hC hW tj14 rfl rfl h15 dX11_undo_109 ?_
        replace hf := ckiE hf
        obtain ⟨h16, hf⟩ := hf
        refine x_bast hC hW hS tj13 rfl rfl h16 dX11_undo_110 (fun S17 H locs eS17 hW hS => ?_)
        replace hf := ltE hf S17 eS17
        obtain ⟨x18, ex18⟩ : ∃ z : Int32, z = v2 + 1 := ⟨_, rfl⟩
        replace hf := ltE hf x18 ex18
        refine lv_iinc (v := x18) (lv' := [(2, .int x18), (0, .ref (ad v0)), (1, .int v1)]) hx hb dX11_undo_111 hl (k := 2) rfl (by rw [ex18]; rfl) (by decide) rfl (fun ls hl => ?_)
        refine lv_goto (tgt := 79) hx hb dX11_undo_114 (by decide) ?_
        exact ih79 S17 v0 v1 x18 tv0 _ _ _ hf hW hS (lv_sub hl [1, 2, 0] rfl)
  have L46 : ∀ (fu46 : Nat) (S0 : St) (v0 : Nat) (v1 : Int32) (v2 : Int32) (tv0 : v0 < n ∧ K v0 = 10) (H : Heap) (locs : List Loc) (ls : Array Slot), f_X11_undo_L46 F fu46 S0 v0 v1 v2 = some (r9, S9) → Wb g ad n K S0 (dA ad n s.heap.size) H → va_S (dA ad n s.heap.size) s.heap H locs → lv_has ls 3 [(0, .ref (ad v0)), (1, .int v1), (2, .int v2)] → W p l e (headSpec wsX11_undo { frames := 2, cells := 0, slots := 0, locals := 44 }).room s m (List.toArray [.ref (ad p0)]) below meth c H locs 0 0 (MQ below (QR (some (.int r9)) (QB g ad n K S9 (dA ad n s.heap.size) (True)) (dA ad n s.heap.size)) (List.toArray [.ref (ad p0)]) s 0 0 (dA ad n s.heap.size)) (F0 m 46 ls []) := by
    intro fu46
    induction fu46 with
    | zero =>
      intro S0 v0 v1 v2 tv0 H locs ls hf
      cases hf
    | succ fu46 ih46 =>
      intro S0 v0 v1 v2 tv0 H locs ls hf hW hS hl
      unfold f_X11_undo_L46 at hf
      refine lv_iload_n hx hb dX11_undo_46 rfl (lv_at hl 2 rfl) ?_
      refine lv_sipush (v := 6391) hx hb dX11_undo_47 (by decide) ?_
      refine lv_icmp_ge (tgt := 77) hx hb dX11_undo_50 (by decide) (fun c26 => ?_) (fun c26 => ?_)
      · replace hf := ifT c26 hf
        refine lv_iconst (v := 0) hx hb dX11_undo_77 (by decide) ?_
        refine lv_istore_n (lv' := [(2, .int 0), (0, .ref (ad v0)), (1, .int v1)]) hx hb dX11_undo_78 rfl hl (by decide) rfl (fun ls hl => ?_)
        exact L79 F S0 v0 v1 0 tv0 _ _ _ hf hW hS (lv_sub hl [1, 2, 0] rfl)
      · replace hf := ifF c26 hf
        refine lv_aload_n hx hb dX11_undo_53 rfl (lv_at hl 0 rfl) ?_
        replace hf := obE hf
        obtain ⟨j27, qj27, hf⟩ := hf
        have tj27 := x_rt hW qj27 12 ⟨by decide, rfl⟩
        refine x_getr 1001 (ci := 10) (C := RX11) (T := TX11) (N := 30) 1 hC hin11 hW tv0 rfl rfl ⟨by decide, by decide, rfl, rfl⟩ rfl w_0 dX11_undo_54 qj27 ?_
        refine lv_iload_n hx hb dX11_undo_57 rfl (lv_at hl 2 rfl) ?_
        refine lv_aload_n hx hb dX11_undo_58 rfl (lv_at hl 0 rfl) ?_
        replace hf := obE hf
        obtain ⟨j28, qj28, hf⟩ := hf
        have tj28 := x_rt hW qj28 12 ⟨by decide, rfl⟩
        refine x_getr 1024 (ci := 10) (C := RX11) (T := TX11) (N := 30) 24 hC hin11 hW tv0 rfl rfl ⟨by decide, by decide, rfl, rfl⟩ rfl w_5 dX11_undo_59 qj28 ?_
        refine lv_sipush (v := 6391) hx hb dX11_undo_62 (by decide) ?_
        refine lv_iload_n hx hb dX11_undo_65 rfl (lv_at hl 1 rfl) ?_
        refine lv_imul hx hb dX11_undo_66 ?_
        refine lv_iload_n hx hb dX11_undo_67 rfl (lv_at hl 2 rfl) ?_
        refine lv_iadd hx hb dX11_undo_68 ?_
        replace hf := ckiE hf
        obtain ⟨h29, hf⟩ := hf
        refine x_iald hC hW tj28 rfl rfl h29 dX11_undo_69 ?_
        replace hf := ckiE hf
        obtain ⟨h30, hf⟩ := hf
        refine x_iast hC hW hS tj27 rfl rfl h30 dX11_undo_70 (fun S31 H locs eS31 hW hS => ?_)
        replace hf := ltE hf S31 eS31
        obtain ⟨x32, ex32⟩ : ∃ z : Int32, z = v2 + 1 := ⟨_, rfl⟩
        replace hf := ltE hf x32 ex32
        refine lv_iinc (v := x32) (lv' := [(2, .int x32), (0, .ref (ad v0)), (1, .int v1)]) hx hb dX11_undo_71 hl (k := 2) rfl (by rw [ex32]; rfl) (by decide) rfl (fun ls hl => ?_)
        refine lv_goto (tgt := 46) hx hb dX11_undo_74 (by decide) ?_
        exact ih46 S31 v0 v1 x32 tv0 _ _ _ hf hW hS (lv_sub hl [1, 2, 0] rfl)
  have L13 : ∀ (S0 : St) (v0 : Nat) (s0 : Int32) (s1 : Nat) (tv0 : v0 < n ∧ K v0 = 10) (ts1 : s1 < n ∧ K s1 = 10) (H : Heap) (locs : List Loc) (ls : Array Slot), f_X11_undo_L13 F S0 v0 s0 s1 = some (r9, S9) → Wb g ad n K S0 (dA ad n s.heap.size) H → va_S (dA ad n s.heap.size) s.heap H locs → lv_has ls 3 [(0, .ref (ad v0))] → W p l e (headSpec wsX11_undo { frames := 2, cells := 0, slots := 0, locals := 44 }).room s m (List.toArray [.ref (ad p0)]) below meth c H locs 0 0 (MQ below (QR (some (.int r9)) (QB g ad n K S9 (dA ad n s.heap.size) (True)) (dA ad n s.heap.size)) (List.toArray [.ref (ad p0)]) s 0 0 (dA ad n s.heap.size)) (F0 m 13 ls [.int s0, .ref (ad s1)]) := by
    intro S0 v0 s0 s1 tv0 ts1 H locs ls hf hW hS hl
    unfold f_X11_undo_L13 at hf
    replace hf := obE hf
    obtain ⟨z40, hz40, hf⟩ := hf
    obtain ⟨r42, S41⟩ := z40
    replace hf := ltE (ltE hf r42 rfl) S41 rfl
    refine x_callV (As := [.int s0]) (rest := []) (o := (some (.int r42))) (S1 := S41) hC hl.1 hW hS hGs hA ts1 rfl (show vwCl[10]? = some (RX11, TX11, 30) ∧ 10 < 11 from ⟨rfl, by decide⟩) (c_X11_passes l g ad n K H.size F S0 s1 s0 ts1 r42 S41 hz40) (cwV 1 hts gX11_undo_X11_passes rfl rfl rfl (by decide +kernel) ⟨Nat.le_of_ble_eq_true rfl, Nat.le_of_ble_eq_true rfl⟩) rfl rfl (Nat.le_of_ble_eq_true rfl) dX11_undo_13 ⟨Nat.le_of_ble_eq_true rfl, Nat.le_of_ble_eq_true rfl⟩ (fun H locs hPz40 hW hS => ?_)
    refine W.eq (g2 := F0 m 16 ls [.int r42]) rfl ?_
    refine lv_if_ne (tgt := 21) hx hb dX11_undo_16 (by decide) (fun c44 => ?_) (fun c44 => ?_)
    · replace hf := ifT c44 hf
      refine lv_aload_n hx hb dX11_undo_21 rfl (lv_at hl 0 rfl) ?_
      refine lv_dup hx hb dX11_undo_22 rfl ?_
      refine x_geti 1026 (ci := 10) (C := RX11) (T := TX11) (N := 30) 26 hC hin11 hW tv0 rfl rfl ⟨by decide, by decide, rfl, rfl⟩ rfl w_1 dX11_undo_23 ?_
      refine lv_iconst (v := 1) hx hb dX11_undo_26 (by decide) ?_
      refine lv_isub hx hb dX11_undo_27 ?_
      refine x_puti 1026 (ci := 10) (C := RX11) (T := TX11) (N := 30) (v := (si S41 1026 v0) - 1) (ty := .int) 26 hC hin11 tyX11_ok nmX11 hW hS tv0 rfl rfl ⟨by decide, by decide, rfl, rfl⟩ rfl w_1 rfl (by decide +kernel) rfl rfl dX11_undo_28 (fun S45 H locs eS45 hW hS => ?_)
      replace hf := ltE hf S45 eS45
      refine lv_aload_n hx hb dX11_undo_31 rfl (lv_at hl 0 rfl) ?_
      refine x_geti 1027 (ci := 10) (C := RX11) (T := TX11) (N := 30) 27 hC hin11 hW tv0 rfl rfl ⟨by decide, by decide, rfl, rfl⟩ rfl w_6 dX11_undo_32 ?_
      refine lv_aload_n hx hb dX11_undo_35 rfl (lv_at hl 0 rfl) ?_
      refine x_geti 1026 (ci := 10) (C := RX11) (T := TX11) (N := 30) 26 hC hin11 hW tv0 rfl rfl ⟨by decide, by decide, rfl, rfl⟩ rfl w_1 dX11_undo_36 ?_
      refine lv_iadd hx hb dX11_undo_39 ?_
      refine lv_bipush (v := 6) hx hb dX11_undo_40 (by decide) ?_
      refine lv_irem hx hb dX11_undo_42 (by decide) ?_
      refine lv_topi (fun x46 ex46 => ?_)
      replace hf := ltE hf x46 ex46
      refine lv_istore_n (lv' := [(1, .int x46), (0, .ref (ad v0))]) hx hb dX11_undo_43 rfl hl (by decide) rfl (fun ls hl => ?_)
      refine lv_iconst (v := 0) hx hb dX11_undo_44 (by decide) ?_
      refine lv_istore_n (lv' := [(2, .int 0), (1, .int x46), (0, .ref (ad v0))]) hx hb dX11_undo_45 rfl hl (by decide) rfl (fun ls hl => ?_)
      exact L46 F S45 v0 x46 0 tv0 _ _ _ hf hW hS (lv_sub hl [2, 1, 0] rfl)
    · replace hf := ifF (fun q => q c44) hf
      refine lv_iconst (v := 0) hx hb dX11_undo_19 (by decide) ?_
      obtain ⟨e1, e2⟩ := so2 hf
      subst e1
      subst e2
      exact W.iret (v := 0) hx hb hr (fun t ht hWm => ⟨⟨rfl, by unfold QB; rw [ht]; exact ⟨hW, trivial⟩⟩, hS.F ht⟩) hS.2.2 dX11_undo_20 hlk
  unfold f_X11_undo at hf
  refine lv_aload_n hx hb dX11_undo_0 rfl (lv_at hl 0 rfl) ?_
  refine lv_aload_n hx hb dX11_undo_1 rfl (lv_at hl 0 rfl) ?_
  refine x_geti 1026 (ci := 10) (C := RX11) (T := TX11) (N := 30) 26 hC hin11 hW tp0 rfl rfl ⟨by decide, by decide, rfl, rfl⟩ rfl w_1 dX11_undo_2 ?_
  refine lv_if_le (tgt := 12) hx hb dX11_undo_5 (by decide) (fun c47 => ?_) (fun c47 => ?_)
  · replace hf := ifT c47 hf
    refine lv_iconst (v := 0) hx hb dX11_undo_12 (by decide) ?_
    exact L13 S0 p0 0 p0 tp0 tp0 _ _ _ hf hW hS (lv_sub hl [0] rfl)
  · replace hf := ifF c47 hf
    refine lv_iconst (v := 1) hx hb dX11_undo_8 (by decide) ?_
    refine lv_goto (tgt := 13) hx hb dX11_undo_9 (by decide) ?_
    exact L13 S0 p0 1 p0 tp0 tp0 _ _ _ hf hW hS (lv_sub hl [0] rfl)
