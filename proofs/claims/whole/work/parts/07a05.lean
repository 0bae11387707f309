set_option maxHeartbeats 4000000 in
set_option maxRecDepth 100000 in
theorem c_X11_inClass (l : Launch) (g : GP) (ad : Nat → Nat) (n : Nat) (K : Nat → Nat) (sz F : Nat) (S0 : St) (p0 : Nat) (p1 : Int32) (p2 : Int32) (tp0 : p0 < n ∧ K p0 = 10) (r9 : Int32) (S9 : St) (hf : f_X11_inClass F S0 p0 p1 p2 = some (r9, S9)) : Met l yX11_inClass wsX11_inClass { frames := 3, cells := 0, slots := 0, locals := 65 } (va_Pc [.ref (ad p0), .int p1, .int p2] (PB g ad n K S0 sz)) (QR (some (.int r9)) (QB g ad n K S9 (dA ad n sz) (True)) (dA ad n sz)) 0 0 (dA ad n sz) := by
  refine Met.ofW (cc := cX11_inClass) (maxL := 5) (ret := (some .int)) (by decide) rfl ?_
  intro p e s m args below meth c s₁ B hml hv
  obtain ⟨rfl, hsz, hW, hK, hGs⟩ := x_start hv
  subst hsz
  have hx := B.exec
  have hb := B.bytes
  have hr := B.returns
  have hts := atoms_spec (ws := wsX11_inClass) B.pre
  have hown : s.vm.findClass RX11 = some m.cls := findClass_of_methodNamed B.named
  have hlk := B.notSynchronized
  have hC : Cx g p s m _ c cX11_inClass RX11 wsX11_inClass 5 := ⟨hx, hb, hml, hown, hts, hK⟩
  have hA : ∀ q : Nat, s.heap.size ≤ q → dA ad n s.heap.size q := fun q h => Or.inr h
  have hS : va_S (dA ad n s.heap.size) s.heap s.heap [] := va_S.rf
  have hl := lv_entry ([.ref (ad p0), .int p1, .int p2]) (n := 5) (Nat.le_of_ble_eq_true rfl)
  rw [lg_entry_eq]
  generalize (lg_sl ([.ref (ad p0), .int p1, .int p2]) ++ List.replicate (5 - (lg_sl ([.ref (ad p0), .int p1, .int p2])).length) Slot.unset).toArray = ls at hl ⊢
  have hl : lv_has ls 5 [(0, .ref (ad p0)), (1, .int p1), (2, .int p2)] := hl
  have hin11 : ∀ w ∈ wsX110, w ∈ wsX11_inClass := by decide +kernel
  have w_0 := hts (.fieldLink RX11 17 "MailSpoolModel" "net" "[I") (by decide +kernel)
  have hGE := hGs.2.2.2.2.2.2.1
  have hGM := hGs.2.2.2.2.2.2.2.1
  have L35 : ∀ (fu35 : Nat) (S0 : St) (v0 : Nat) (v1 : Int32) (v2 : Int32) (v3 : Int32) (v4 : Int32) (tv0 : v0 < n ∧ K v0 = 10) (H : Heap) (locs : List Loc) (ls : Array Slot), f_X11_inClass_L35 F fu35 S0 v0 v1 v2 v3 v4 = some (r9, S9) → Wb g ad n K S0 (dA ad n s.heap.size) H → va_S (dA ad n s.heap.size) s.heap H locs → lv_has ls 5 [(0, .ref (ad v0)), (1, .int v1), (2, .int v2), (3, .int v3), (4, .int v4)] → W p l e (headSpec wsX11_inClass { frames := 3, cells := 0, slots := 0, locals := 65 }).room s m (List.toArray [.ref (ad p0), .int p1, .int p2]) below meth c H locs 0 0 (MQ below (QR (some (.int r9)) (QB g ad n K S9 (dA ad n s.heap.size) (True)) (dA ad n s.heap.size)) (List.toArray [.ref (ad p0), .int p1, .int p2]) s 0 0 (dA ad n s.heap.size)) (F0 m 35 ls []) := by
    intro fu35
    induction fu35 with
    | zero =>
      intro S0 v0 v1 v2 v3 v4 tv0 H locs ls hf
      cases hf
    | succ fu35 ih35 =>
      have L80 : ∀ (S0 : St) (v0 : Nat) (v1 : Int32) (v2 : Int32) (v4 : Int32) (s0 : Int32) (s1 : Int32) (tv0 : v0 < n ∧ K v0 = 10) (H : Heap) (locs : List Loc) (ls : Array Slot), f_X11_inClass_L80 F (fun a0 a1 a2 a3 a4 a5 => f_X11_inClass_L35 F fu35 a0 a1 a2 a3 a4 a5) S0 v0 v1 v2 v4 s0 s1 = some (r9, S9) → Wb g ad n K S0 (dA ad n s.heap.size) H → va_S (dA ad n s.heap.size) s.heap H locs → lv_has ls 5 [(0, .ref (ad v0)), (1, .int v1), (2, .int v2), (4, .int v4)] → W p l e (headSpec wsX11_inClass { frames := 3, cells := 0, slots := 0, locals := 65 }).room s m (List.toArray [.ref (ad p0), .int p1, .int p2]) below meth c H locs 0 0 (MQ below (QR (some (.int r9)) (QB g ad n K S9 (dA ad n s.heap.size) (True)) (dA ad n s.heap.size)) (List.toArray [.ref (ad p0), .int p1, .int p2]) s 0 0 (dA ad n s.heap.size)) (F0 m 80 ls [.int s0, .int s1]) := by
        intro S0 v0 v1 v2 v4 s0 s1 tv0 H locs ls hf hW hS hl
        unfold f_X11_inClass_L80 at hf
        refine lv_iadd hx hb dX11_inClass_80 ?_
        refine lv_topi (fun x3 ex3 => ?_)
        replace hf := ltE hf x3 ex3
        refine lv_istore_n (lv' := [(3, .int x3), (0, .ref (ad v0)), (1, .int v1), (2, .int v2), (4, .int v4)]) hx hb dX11_inClass_81 rfl hl (by decide) rfl (fun ls hl => ?_)
        obtain ⟨x4, ex4⟩ : ∃ z : Int32, z = v4 + 1 := ⟨_, rfl⟩
        replace hf := ltE hf x4 ex4
        refine lv_iinc (v := x4) (lv' := [(4, .int x4), (3, .int x3), (0, .ref (ad v0)), (1, .int v1), (2, .int v2)]) hx hb dX11_inClass_82 hl (k := 4) rfl (by rw [ex4]; rfl) (by decide) rfl (fun ls hl => ?_)
        refine lv_goto (tgt := 35) hx hb dX11_inClass_85 (by decide) ?_
        exact ih35 S0 v0 v1 v2 x3 x4 tv0 _ _ _ hf hW hS (lv_sub hl [2, 3, 4, 1, 0] rfl)
      have L79 : ∀ (S0 : St) (v0 : Nat) (v1 : Int32) (v2 : Int32) (v4 : Int32) (s0 : Int32) (tv0 : v0 < n ∧ K v0 = 10) (H : Heap) (locs : List Loc) (ls : Array Slot), f_X11_inClass_L79 F (fun a0 a1 a2 a3 a4 a5 => f_X11_inClass_L35 F fu35 a0 a1 a2 a3 a4 a5) S0 v0 v1 v2 v4 s0 = some (r9, S9) → Wb g ad n K S0 (dA ad n s.heap.size) H → va_S (dA ad n s.heap.size) s.heap H locs → lv_has ls 5 [(0, .ref (ad v0)), (1, .int v1), (2, .int v2), (4, .int v4)] → W p l e (headSpec wsX11_inClass { frames := 3, cells := 0, slots := 0, locals := 65 }).room s m (List.toArray [.ref (ad p0), .int p1, .int p2]) below meth c H locs 0 0 (MQ below (QR (some (.int r9)) (QB g ad n K S9 (dA ad n s.heap.size) (True)) (dA ad n s.heap.size)) (List.toArray [.ref (ad p0), .int p1, .int p2]) s 0 0 (dA ad n s.heap.size)) (F0 m 79 ls [.int s0]) := by
        intro S0 v0 v1 v2 v4 s0 tv0 H locs ls hf hW hS hl
        unfold f_X11_inClass_L79 at hf
        refine lv_iconst (v := 0) hx hb dX11_inClass_79 (by decide) ?_
        exact L80 S0 v0 v1 v2 v4 0 s0 tv0 _ _ _ hf hW hS (lv_sub hl [0, 1, 2, 3] rfl)
      intro S0 v0 v1 v2 v3 v4 tv0 H locs ls hf hW hS hl
      unfold f_X11_inClass_L35 at hf
      refine lv_iload hx hb dX11_inClass_35 (lv_at hl 4 rfl) ?_
      refine lv_aload_n hx hb dX11_inClass_37 rfl (lv_at hl 0 rfl) ?_
      replace hf := obE hf
      obtain ⟨j20, qj20, hf⟩ := hf
      have tj20 := x_rt hW qj20 12 ⟨by decide, rfl⟩
      refine x_getr 1001 (ci := 10) (C := RX11) (T := TX11) (N := 30) 1 hC hin11 hW tv0 rfl rfl ⟨by decide, by decide, rfl, rfl⟩ rfl w_0 dX11_inClass_38 qj20 ?_
      refine lv_bipush (v := 7) hx hb dX11_inClass_41 (by decide) ?_
      replace hf := ckiE hf
      obtain ⟨h21, hf⟩ := hf
      refine x_iald hC hW tj20 rfl rfl h21 dX11_inClass_43 ?_
      refine lv_icmp_ge (tgt := 88) hx hb dX11_inClass_44 (by decide) (fun c22 => ?_) (fun c22 => ?_)
      · replace hf := ifT c22 hf
        refine lv_iload_n hx hb dX11_inClass_88 rfl (lv_at hl 3 rfl) ?_
        obtain ⟨e1, e2⟩ := so2 hf
        subst e1
        subst e2
        exact W.iret (v := v3) hx hb hr (fun t ht hWm => ⟨⟨rfl, by unfold QB; rw [ht]; exact ⟨hW, trivial⟩⟩, hS.F ht⟩) hS.2.2 dX11_inClass_89 hlk
      · replace hf := ifF c22 hf
        refine lv_iload_n hx hb dX11_inClass_47 rfl (lv_at hl 3 rfl) ?_
        refine lv_aload_n hx hb dX11_inClass_48 rfl (lv_at hl 0 rfl) ?_
        refine lv_iload hx hb dX11_inClass_49 (lv_at hl 4 rfl) ?_
        refine lv_iload_n hx hb dX11_inClass_51 rfl (lv_at hl 1 rfl) ?_
        replace hf := obE hf
        obtain ⟨z23, hz23, hf⟩ := hf
        obtain ⟨r25, S24⟩ := z23
        replace hf := ltE (ltE hf r25 rfl) S24 rfl
        refine x_callV (As := [.int v4, .int v1]) (rest := [.int v3]) (o := (some (.int r25))) (S1 := S24) hC hl.1 hW hS hGs hA tv0 rfl (show vwCl[10]? = some (RX11, TX11, 30) ∧ 10 < 11 from ⟨rfl, by decide⟩) (c_X11_isLive l g ad n K H.size F S0 v0 v4 v1 tv0 r25 S24 hz23) (cwV 2 hts gX11_inClass_X11_isLive rfl rfl rfl (by decide +kernel) ⟨Nat.le_of_ble_eq_true rfl, Nat.le_of_ble_eq_true rfl⟩) rfl rfl (Nat.le_of_ble_eq_true rfl) dX11_inClass_52 ⟨Nat.le_of_ble_eq_true rfl, Nat.le_of_ble_eq_true rfl⟩ (fun H locs hPz23 hW hS => ?_)
        refine W.eq (g2 := F0 m 55 ls [.int r25, .int v3]) rfl ?_
        refine lv_if_eq (tgt := 79) hx hb dX11_inClass_55 (by decide) (fun c27 => ?_) (fun c27 => ?_)
        · replace hf := ifT c27 hf
          exact L79 S24 v0 v1 v2 v4 v3 tv0 _ _ _ hf hW hS (lv_sub hl [0, 1, 2, 4] rfl)
        · replace hf := ifF c27 hf
          refine lv_aload_n hx hb dX11_inClass_58 rfl (lv_at hl 0 rfl) ?_
          replace hf := obE hf
          obtain ⟨j28, qj28, hf⟩ := hf
          have tj28 := x_rt hW qj28 12 ⟨by decide, rfl⟩
          refine x_getr 1001 (ci := 10) (C := RX11) (T := TX11) (N := 30) 1 hC hin11 hW tv0 rfl rfl ⟨by decide, by decide, rfl, rfl⟩ rfl w_0 dX11_inClass_59 qj28 ?_
          refine lv_iload hx hb dX11_inClass_62 (lv_at hl 4 rfl) ?_
          refine lv_iload_n hx hb dX11_inClass_64 rfl (lv_at hl 1 rfl) ?_
          replace hf := obE hf
          obtain ⟨z29, hz29, hf⟩ := hf
          obtain ⟨r31, S30⟩ := z29
          replace hf := ltE (ltE hf r31 rfl) S30 rfl
          refine x_callS (As := [.int v4, .int v1]) (rest := [.ref (ad j28), .int v3]) (o := (some (.int r31))) (S1 := S30) hC hl.1 hW hS hGs hA (c_X11_refAt l g ad n K H.size F S24 v4 v1 r31 S30 hz29) (va_cwS 2 hts gX11_inClass_X11_refAt rfl rfl rfl (by decide +kernel) ⟨Nat.le_of_ble_eq_true rfl, Nat.le_of_ble_eq_true rfl⟩) rfl rfl (Nat.le_of_ble_eq_true rfl) dX11_inClass_65 ⟨Nat.le_of_ble_eq_true rfl, Nat.le_of_ble_eq_true rfl⟩ (fun H locs hPz29 hW hS => ?_)
          refine W.eq (g2 := F0 m 68 ls [.int r31, .ref (ad j28), .int v3]) rfl ?_
          refine lv_iconst (v := 1) hx hb dX11_inClass_68 (by decide) ?_
          refine lv_iadd hx hb dX11_inClass_69 ?_
          replace hf := ckiE hf
          obtain ⟨h33, hf⟩ := hf
          refine x_iald hC hW tj28 rfl rfl h33 dX11_inClass_70 ?_
          refine lv_iload_n hx hb dX11_inClass_71 rfl (lv_at hl 2 rfl) ?_
          refine lv_icmp_ne (tgt := 79) hx hb dX11_inClass_72 (by decide) (fun c34 => ?_) (fun c34 => ?_)
          · replace hf := ifT c34 hf
            exact L79 S30 v0 v1 v2 v4 v3 tv0 _ _ _ hf hW hS (lv_sub hl [0, 1, 2, 4] rfl)
          · replace hf := ifF (fun q => q c34) hf
            refine lv_iconst (v := 1) hx hb dX11_inClass_75 (by decide) ?_
            refine lv_goto (tgt := 80) hx hb dX11_inClass_76 (by decide) ?_
            exact L80 S30 v0 v1 v2 v4 1 v3 tv0 _ _ _ hf hW hS (lv_sub hl [0, 1, 2, 4] rfl)
  have L22 : ∀ (S0 : St) (v0 : Nat) (v1 : Int32) (v2 : Int32) (s0 : Int32) (s1 : Nat) (tv0 : v0 < n ∧ K v0 = 10) (ts1 : s1 < n ∧ K s1 = 10) (H : Heap) (locs : List Loc) (ls : Array Slot), f_X11_inClass_L22 F S0 v0 v1 v2 s0 s1 = some (r9, S9) → Wb g ad n K S0 (dA ad n s.heap.size) H → va_S (dA ad n s.heap.size) s.heap H locs → lv_has ls 5 [(0, .ref (ad v0)), (1, .int v1), (2, .int v2)] → W p l e (headSpec wsX11_inClass { frames := 3, cells := 0, slots := 0, locals := 65 }).room s m (List.toArray [.ref (ad p0), .int p1, .int p2]) below meth c H locs 0 0 (MQ below (QR (some (.int r9)) (QB g ad n K S9 (dA ad n s.heap.size) (True)) (dA ad n s.heap.size)) (List.toArray [.ref (ad p0), .int p1, .int p2]) s 0 0 (dA ad n s.heap.size)) (F0 m 22 ls [.int s0, .ref (ad s1)]) := by
    intro S0 v0 v1 v2 s0 s1 tv0 ts1 H locs ls hf hW hS hl
    unfold f_X11_inClass_L22 at hf
    replace hf := obE hf
    obtain ⟨z40, hz40, hf⟩ := hf
    obtain ⟨r42, S41⟩ := z40
    replace hf := ltE (ltE hf r42 rfl) S41 rfl
    refine x_callV (As := [.int s0]) (rest := []) (o := (some (.int r42))) (S1 := S41) hC hl.1 hW hS hGs hA ts1 rfl (show vwCl[10]? = some (RX11, TX11, 30) ∧ 10 < 11 from ⟨rfl, by decide⟩) (c_X11_passes l g ad n K H.size F S0 s1 s0 ts1 r42 S41 hz40) (cwV 1 hts gX11_inClass_X11_passes rfl rfl rfl (by decide +kernel) ⟨Nat.le_of_ble_eq_true rfl, Nat.le_of_ble_eq_true rfl⟩) rfl rfl (Nat.le_of_ble_eq_true rfl) dX11_inClass_22 ⟨Nat.le_of_ble_eq_true rfl, Nat.le_of_ble_eq_true rfl⟩ (fun H locs hPz40 hW hS => ?_)
    refine W.eq (g2 := F0 m 25 ls [.int r42]) rfl ?_
    refine lv_if_ne (tgt := 30) hx hb dX11_inClass_25 (by decide) (fun c44 => ?_) (fun c44 => ?_)
    · replace hf := ifT c44 hf
      refine lv_iconst (v := 0) hx hb dX11_inClass_30 (by decide) ?_
      refine lv_istore_n (lv' := [(3, .int 0), (0, .ref (ad v0)), (1, .int v1), (2, .int v2)]) hx hb dX11_inClass_31 rfl hl (by decide) rfl (fun ls hl => ?_)
      refine lv_iconst (v := 0) hx hb dX11_inClass_32 (by decide) ?_
      refine lv_istore (lv' := [(4, .int 0), (3, .int 0), (0, .ref (ad v0)), (1, .int v1), (2, .int v2)]) hx hb dX11_inClass_33 hl (by decide) rfl (fun ls hl => ?_)
      exact L35 F S41 v0 v1 v2 0 0 tv0 _ _ _ hf hW hS (lv_sub hl [2, 3, 4, 1, 0] rfl)
    · replace hf := ifF (fun q => q c44) hf
      refine lv_iconst (v := 0) hx hb dX11_inClass_28 (by decide) ?_
      obtain ⟨e1, e2⟩ := so2 hf
      subst e1
      subst e2
      exact W.iret (v := 0) hx hb hr (fun t ht hWm => ⟨⟨rfl, by unfold QB; rw [ht]; exact ⟨hW, trivial⟩⟩, hS.F ht⟩) hS.2.2 dX11_inClass_29 hlk
  have L21 : ∀ (S0 : St) (v0 : Nat) (v1 : Int32) (v2 : Int32) (s0 : Nat) (tv0 : v0 < n ∧ K v0 = 10) (ts0 : s0 < n ∧ K s0 = 10) (H : Heap) (locs : List Loc) (ls : Array Slot), f_X11_inClass_L21 F S0 v0 v1 v2 s0 = some (r9, S9) → Wb g ad n K S0 (dA ad n s.heap.size) H → va_S (dA ad n s.heap.size) s.heap H locs → lv_has ls 5 [(0, .ref (ad v0)), (1, .int v1), (2, .int v2)] → W p l e (headSpec wsX11_inClass { frames := 3, cells := 0, slots := 0, locals := 65 }).room s m (List.toArray [.ref (ad p0), .int p1, .int p2]) below meth c H locs 0 0 (MQ below (QR (some (.int r9)) (QB g ad n K S9 (dA ad n s.heap.size) (True)) (dA ad n s.heap.size)) (List.toArray [.ref (ad p0), .int p1, .int p2]) s 0 0 (dA ad n s.heap.size)) (F0 m 21 ls [.ref (ad s0)]) := by
    intro S0 v0 v1 v2 s0 tv0 ts0 H locs ls hf hW hS hl
    unfold f_X11_inClass_L21 at hf
    refine lv_iconst (v := 0) hx hb dX11_inClass_21 (by decide) ?_
    exact L22 S0 v0 v1 v2 0 s0 tv0 ts0 _ _ _ hf hW hS (lv_sub hl [0, 1, 2] rfl)
  unfold f_X11_inClass at hf
  refine lv_aload_n hx hb dX11_inClass_0 rfl (lv_at hl 0 rfl) ?_
  refine lv_aload_n hx hb dX11_inClass_1 rfl (lv_at hl 0 rfl) ?_
  refine lv_iload_n hx hb dX11_inClass_2 rfl (lv_at hl 1 rfl) ?_
  replace hf := obE hf
  obtain ⟨z45, hz45, hf⟩ := hf
  obtain ⟨r47, S46⟩ := z45
  replace hf := ltE (ltE hf r47 rfl) S46 rfl
  refine x_callV (As := [.int p1]) (rest := [.ref (ad p0)]) (o := (some (.int r47))) (S1 := S46) hC hl.1 hW hS hGs hA tp0 rfl (show vwCl[10]? = some (RX11, TX11, 30) ∧ 10 < 11 from ⟨rfl, by decide⟩) (c_X11_isUser l g ad n K s.heap.size F S0 p0 p1 tp0 r47 S46 hz45) (cwV 1 hts gX11_inClass_X11_isUser rfl rfl rfl (by decide +kernel) ⟨Nat.le_of_ble_eq_true rfl, Nat.le_of_ble_eq_true rfl⟩) rfl rfl (Nat.le_of_ble_eq_true rfl) dX11_inClass_3 ⟨Nat.le_of_ble_eq_true rfl, Nat.le_of_ble_eq_true rfl⟩ (fun H locs hPz45 hW hS => ?_)
  refine W.eq (g2 := F0 m 6 ls [.int r47, .ref (ad p0)]) rfl ?_
  refine lv_if_eq (tgt := 21) hx hb dX11_inClass_6 (by decide) (fun c49 => ?_) (fun c49 => ?_)
  · replace hf := ifT c49 hf
    exact L21 S46 p0 p1 p2 p0 tp0 tp0 _ _ _ hf hW hS (lv_sub hl [0, 1, 2] rfl)
  · replace hf := ifF c49 hf
    refine lv_aload_n hx hb dX11_inClass_9 rfl (lv_at hl 0 rfl) ?_
    refine lv_iload_n hx hb dX11_inClass_10 rfl (lv_at hl 2 rfl) ?_
    replace hf := obE hf
    obtain ⟨z50, hz50, hf⟩ := hf
    obtain ⟨r52, S51⟩ := z50
    replace hf := ltE (ltE hf r52 rfl) S51 rfl
    refine x_callV (As := [.int p2]) (rest := [.ref (ad p0)]) (o := (some (.int r52))) (S1 := S51) hC hl.1 hW hS hGs hA tp0 rfl (show vwCl[10]? = some (RX11, TX11, 30) ∧ 10 < 11 from ⟨rfl, by decide⟩) (c_X11_isClass l g ad n K H.size F S46 p0 p2 tp0 r52 S51 hz50) (cwV 1 hts gX11_inClass_X11_isClass rfl rfl rfl (by decide +kernel) ⟨Nat.le_of_ble_eq_true rfl, Nat.le_of_ble_eq_true rfl⟩) rfl rfl (Nat.le_of_ble_eq_true rfl) dX11_inClass_11 ⟨Nat.le_of_ble_eq_true rfl, Nat.le_of_ble_eq_true rfl⟩ (fun H locs hPz50 hW hS => ?_)
    refine W.eq (g2 := F0 m 14 ls [.int r52, .ref (ad p0)]) rfl ?_
    refine lv_if_eq (tgt := 21) hx hb dX11_inClass_14 (by decide) (fun c54 => ?_) (fun c54 => ?_)
    · replace hf := ifT c54 hf
      exact L21 S51 p0 p1 p2 p0 tp0 tp0 _ _ _ hf hW hS (lv_sub hl [0, 1, 2] rfl)
    · replace hf := ifF c54 hf
      refine lv_iconst (v := 1) hx hb dX11_inClass_17 (by decide) ?_
      refine lv_goto (tgt := 22) hx hb dX11_inClass_18 (by decide) ?_
      exact L22 S51 p0 p1 p2 1 p0 tp0 tp0 _ _ _ hf hW hS (lv_sub hl [0, 1, 2] rfl)
set_option maxHeartbeats 4000000 in
set_option maxRecDepth 100000 in
theorem c_X11_matches (l : Launch) (g : GP) (ad : Nat → Nat) (n : Nat) (K : Nat → Nat) (sz F : Nat) (S0 : St) (p0 : Nat) (p1 : Int32) (tp0 : p0 < n ∧ K p0 = 10) (r9 : Int32) (S9 : St) (hf : f_X11_matches F S0 p0 p1 = some (r9, S9)) : Met l yX11_matches wsX11_matches { frames := 4, cells := 0, slots := 0, locals := 95 } (va_Pc [.ref (ad p0), .int p1] (PB g ad n K S0 sz)) (QR (some (.int r9)) (QB g ad n K S9 (dA ad n sz) (True)) (dA ad n sz)) 0 0 (dA ad n sz) := by
  refine Met.ofW (cc := cX11_matches) (maxL := 4) (ret := (some .int)) (by decide) rfl ?_
  intro p e s m args below meth c s₁ B hml hv
  obtain ⟨rfl, hsz, hW, hK, hGs⟩ := x_start hv
  subst hsz
  have hx := B.exec
  have hb := B.bytes
  have hr := B.returns
  have hts := atoms_spec (ws := wsX11_matches) B.pre
  have hown : s.vm.findClass RX11 = some m.cls := findClass_of_methodNamed B.named
  have hlk := B.notSynchronized
  have hC : Cx g p s m _ c cX11_matches RX11 wsX11_matches 4 := ⟨hx, hb, hml, hown, hts, hK⟩
  have hA : ∀ q : Nat, s.heap.size ≤ q → dA ad n s.heap.size q := fun q h => Or.inr h
  have hS : va_S (dA ad n s.heap.size) s.heap s.heap [] := va_S.rf
  have hl := lv_entry ([.ref (ad p0), .int p1]) (n := 4) (Nat.le_of_ble_eq_true rfl)
  rw [lg_entry_eq]
  generalize (lg_sl ([.ref (ad p0), .int p1]) ++ List.replicate (4 - (lg_sl ([.ref (ad p0), .int p1])).length) Slot.unset).toArray = ls at hl ⊢
  have hl : lv_has ls 4 [(0, .ref (ad p0)), (1, .int p1)] := hl
  have hin11 : ∀ w ∈ wsX110, w ∈ wsX11_matches := by decide +kernel
  have w_0 := hts (.fieldLink RX11 17 "MailSpoolModel" "net" "[I") (by decide +kernel)
  have w_1 := hts (.fieldLink RX11 284 "MailSpoolModel" "wantedMany" "I") (by decide +kernel)
  have w_2 := hts (.fieldLink RX11 91 "MailSpoolModel" "inputSize" "I") (by decide +kernel)
  have w_3 := hts (.fieldLink RX11 38 "MailSpoolModel" "wanted" "[I") (by decide +kernel)
  have w_4 := hts (.fieldLink RX11 32 "MailSpoolModel" "input" "[B") (by decide +kernel)
  have hGE := hGs.2.2.2.2.2.2.1
  have hGM := hGs.2.2.2.2.2.2.2.1
  have L80 : ∀ (fu80 : Nat) (S0 : St) (v0 : Nat) (v1 : Int32) (v2 : Int32) (v3 : Int32) (tv0 : v0 < n ∧ K v0 = 10) (H : Heap) (locs : List Loc) (ls : Array Slot), f_X11_matches_L80 F fu80 S0 v0 v1 v2 v3 = some (r9, S9) → Wb g ad n K S0 (dA ad n s.heap.size) H → va_S (dA ad n s.heap.size) s.heap H locs → lv_has ls 4 [(0, .ref (ad v0)), (1, .int v1), (2, .int v2), (3, .int v3)] → W p l e (headSpec wsX11_matches { frames := 4, cells := 0, slots := 0, locals := 95 }).room s m (List.toArray [.ref (ad p0), .int p1]) below meth c H locs 0 0 (MQ below (QR (some (.int r9)) (QB g ad n K S9 (dA ad n s.heap.size) (True)) (dA ad n s.heap.size)) (List.toArray [.ref (ad p0), .int p1]) s 0 0 (dA ad n s.heap.size)) (F0 m 80 ls []) := by
    intro fu80
    induction fu80 with
    | zero =>
      intro S0 v0 v1 v2 v3 tv0 H locs ls hf
      cases hf
    | succ fu80 ih80 =>
      have L114 : ∀ (S0 : St) (v0 : Nat) (v1 : Int32) (v3 : Int32) (s0 : Int32) (s1 : Int32) (tv0 : v0 < n ∧ K v0 = 10) (H : Heap) (locs : List Loc) (ls : Array Slot), f_X11_matches_L114 F (fun a0 a1 a2 a3 a4 => f_X11_matches_L80 F fu80 a0 a1 a2 a3 a4) S0 v0 v1 v3 s0 s1 = some (r9, S9) → Wb g ad n K S0 (dA ad n s.heap.size) H → va_S (dA ad n s.heap.size) s.heap H locs → lv_has ls 4 [(0, .ref (ad v0)), (1, .int v1), (3, .int v3)] → W p l e (headSpec wsX11_matches { frames := 4, cells := 0, slots := 0, locals := 95 }).room s m (List.toArray [.ref (ad p0), .int p1]) below meth c H locs 0 0 (MQ below (QR (some (.int r9)) (QB g ad n K S9 (dA ad n s.heap.size) (True)) (dA ad n s.heap.size)) (List.toArray [.ref (ad p0), .int p1]) s 0 0 (dA ad n s.heap.size)) (F0 m 114 ls [.int s0, .int s1]) := by
        intro S0 v0 v1 v3 s0 s1 tv0 H locs ls hf hW hS hl
        unfold f_X11_matches_L114 at hf
        refine lv_iadd hx hb dX11_matches_114 ?_
        refine lv_topi (fun x3 ex3 => ?_)
        replace hf := ltE hf x3 ex3
        refine lv_istore_n (lv' := [(2, .int x3), (0, .ref (ad v0)), (1, .int v1), (3, .int v3)]) hx hb dX11_matches_115 rfl hl (by decide) rfl (fun ls hl => ?_)
        obtain ⟨x4, ex4⟩ : ∃ z : Int32, z = v3 + 1 := ⟨_, rfl⟩
        replace hf := ltE hf x4 ex4
        refine lv_iinc (v := x4) (lv' := [(3, .int x4), (2, .int x3), (0, .ref (ad v0)), (1, .int v1)]) hx hb dX11_matches_116 hl (k := 3) rfl (by rw [ex4]; rfl) (by decide) rfl (fun ls hl => ?_)
        refine lv_goto (tgt := 80) hx hb dX11_matches_119 (by decide) ?_
        exact ih80 S0 v0 v1 x3 x4 tv0 _ _ _ hf hW hS (lv_sub hl [2, 3, 1, 0] rfl)
      have L113 : ∀ (S0 : St) (v0 : Nat) (v1 : Int32) (v3 : Int32) (s0 : Int32) (tv0 : v0 < n ∧ K v0 = 10) (H : Heap) (locs : List Loc) (ls : Array Slot), f_X11_matches_L113 F (fun a0 a1 a2 a3 a4 => f_X11_matches_L80 F fu80 a0 a1 a2 a3 a4) S0 v0 v1 v3 s0 = some (r9, S9) → Wb g ad n K S0 (dA ad n s.heap.size) H → va_S (dA ad n s.heap.size) s.heap H locs → lv_has ls 4 [(0, .ref (ad v0)), (1, .int v1), (3, .int v3)] → W p l e (headSpec wsX11_matches { frames := 4, cells := 0, slots := 0, locals := 95 }).room s m (List.toArray [.ref (ad p0), .int p1]) below meth c H locs 0 0 (MQ below (QR (some (.int r9)) (QB g ad n K S9 (dA ad n s.heap.size) (True)) (dA ad n s.heap.size)) (List.toArray [.ref (ad p0), .int p1]) s 0 0 (dA ad n s.heap.size)) (F0 m 113 ls [.int s0]) := by
        intro S0 v0 v1 v3 s0 tv0 H locs ls hf hW hS hl
        unfold f_X11_matches_L113 at hf
        refine lv_iconst (v := 0) hx hb dX11_matches_113 (by decide) ?_
        exact L114 S0 v0 v1 v3 0 s0 tv0 _ _ _ hf hW hS (lv_sub hl [0, 1, 2] rfl)
      intro S0 v0 v1 v2 v3 tv0 H locs ls hf hW hS hl
      unfold f_X11_matches_L80 at hf
      refine lv_iload_n hx hb dX11_matches_80 rfl (lv_at hl 3 rfl) ?_
      refine lv_aload_n hx hb dX11_matches_81 rfl (lv_at hl 0 rfl) ?_
      replace hf := obE hf
      obtain ⟨j18, qj18, hf⟩ := hf
      have tj18 := x_rt hW qj18 12 ⟨by decide, rfl⟩
      refine x_getr 1001 (ci := 10) (C := RX11) (T := TX11) (N := 30) 1 hC hin11 hW tv0 rfl rfl ⟨by decide, by decide, rfl, rfl⟩ rfl w_0 dX11_matches_82 qj18 ?_
      refine lv_bipush (v := 7) hx hb dX11_matches_85 (by decide) ?_
      replace hf := ckiE hf
      obtain ⟨h19, hf⟩ := hf
      refine x_iald hC hW tj18 rfl rfl h19 dX11_matches_87 ?_
      refine lv_icmp_ge (tgt := 122) hx hb dX11_matches_88 (by decide) (fun c20 => ?_) (fun c20 => ?_)
      · replace hf := ifT c20 hf
        refine lv_iload_n hx hb dX11_matches_122 rfl (lv_at hl 2 rfl) ?_
        obtain ⟨e1, e2⟩ := so2 hf
        subst e1
        subst e2
        exact W.iret (v := v2) hx hb hr (fun t ht hWm => ⟨⟨rfl, by unfold QB; rw [ht]; exact ⟨hW, trivial⟩⟩, hS.F ht⟩) hS.2.2 dX11_matches_123 hlk
      · replace hf := ifF c20 hf
        refine lv_iload_n hx hb dX11_matches_91 rfl (lv_at hl 2 rfl) ?_
        refine lv_aload_n hx hb dX11_matches_92 rfl (lv_at hl 0 rfl) ?_
        refine lv_iload_n hx hb dX11_matches_93 rfl (lv_at hl 3 rfl) ?_
        refine lv_iload_n hx hb dX11_matches_94 rfl (lv_at hl 1 rfl) ?_
        replace hf := obE hf
        obtain ⟨z21, hz21, hf⟩ := hf
        obtain ⟨r23, S22⟩ := z21
        replace hf := ltE (ltE hf r23 rfl) S22 rfl
        refine x_callV (As := [.int v3, .int v1]) (rest := [.int v2]) (o := (some (.int r23))) (S1 := S22) hC hl.1 hW hS hGs hA tv0 rfl (show vwCl[10]? = some (RX11, TX11, 30) ∧ 10 < 11 from ⟨rfl, by decide⟩) (c_X11_isLive l g ad n K H.size F S0 v0 v3 v1 tv0 r23 S22 hz21) (cwV 2 hts gX11_matches_X11_isLive rfl rfl rfl (by decide +kernel) ⟨Nat.le_of_ble_eq_true rfl, Nat.le_of_ble_eq_true rfl⟩) rfl rfl (Nat.le_of_ble_eq_true rfl) dX11_matches_95 ⟨Nat.le_of_ble_eq_true rfl, Nat.le_of_ble_eq_true rfl⟩ (fun H locs hPz21 hW hS => ?_)
        refine W.eq (g2 := F0 m 98 ls [.int r23, .int v2]) rfl ?_
        refine lv_if_eq (tgt := 113) hx hb dX11_matches_98 (by decide) (fun c25 => ?_) (fun c25 => ?_)
        · replace hf := ifT c25 hf
          exact L113 S22 v0 v1 v3 v2 tv0 _ _ _ hf hW hS (lv_sub hl [0, 1, 3] rfl)
        · replace hf := ifF c25 hf
          refine lv_aload_n hx hb dX11_matches_101 rfl (lv_at hl 0 rfl) ?_
          refine lv_iload_n hx hb dX11_matches_102 rfl (lv_at hl 3 rfl) ?_
          replace hf := obE hf
          obtain ⟨z26, hz26, hf⟩ := hf
          obtain ⟨r28, S27⟩ := z26
          replace hf := ltE (ltE hf r28 rfl) S27 rfl
          refine x_callV (As := [.int v3]) (rest := [.int v2]) (o := (some (.int r28))) (S1 := S27) hC hl.1 hW hS hGs hA tv0 rfl (show vwCl[10]? = some (RX11, TX11, 30) ∧ 10 < 11 from ⟨rfl, by decide⟩) (c_X11_contains l g ad n K H.size F S22 v0 v3 tv0 r28 S27 hz26) (cwV 1 hts gX11_matches_X11_contains rfl rfl rfl (by decide +kernel) ⟨Nat.le_of_ble_eq_true rfl, Nat.le_of_ble_eq_true rfl⟩) rfl rfl (Nat.le_of_ble_eq_true rfl) dX11_matches_103 ⟨Nat.le_of_ble_eq_true rfl, Nat.le_of_ble_eq_true rfl⟩ (fun H locs hPz26 hW hS => ?_)
          refine W.eq (g2 := F0 m 106 ls [.int r28, .int v2]) rfl ?_
          refine lv_if_eq (tgt := 113) hx hb dX11_matches_106 (by decide) (fun c30 => ?_) (fun c30 => ?_)
          · replace hf := ifT c30 hf
            exact L113 S27 v0 v1 v3 v2 tv0 _ _ _ hf hW hS (lv_sub hl [0, 1, 3] rfl)
          · replace hf := ifF c30 hf
            refine lv_iconst (v := 1) hx hb dX11_matches_109 (by decide) ?_
            refine lv_goto (tgt := 114) hx hb dX11_matches_110 (by decide) ?_
            exact L114 S27 v0 v1 v3 1 v2 tv0 _ _ _ hf hW hS (lv_sub hl [0, 1, 3] rfl)
  have L45 : ∀ (fu45 : Nat) (S0 : St) (v0 : Nat) (v1 : Int32) (v2 : Int32) (tv0 : v0 < n ∧ K v0 = 10) (H : Heap) (locs : List Loc) (ls : Array Slot), f_X11_matches_L45 F fu45 S0 v0 v1 v2 = some (r9, S9) → Wb g ad n K S0 (dA ad n s.heap.size) H → va_S (dA ad n s.heap.size) s.heap H locs → lv_has ls 4 [(0, .ref (ad v0)), (1, .int v1), (2, .int v2)] → W p l e (headSpec wsX11_matches { frames := 4, cells := 0, slots := 0, locals := 95 }).room s m (List.toArray [.ref (ad p0), .int p1]) below meth c H locs 0 0 (MQ below (QR (some (.int r9)) (QB g ad n K S9 (dA ad n s.heap.size) (True)) (dA ad n s.heap.size)) (List.toArray [.ref (ad p0), .int p1]) s 0 0 (dA ad n s.heap.size)) (F0 m 45 ls []) := by
    intro fu45
    induction fu45 with
    | zero =>
      intro S0 v0 v1 v2 tv0 H locs ls hf
      cases hf
    | succ fu45 ih45 =>
      intro S0 v0 v1 v2 tv0 H locs ls hf hW hS hl
      unfold f_X11_matches_L45 at hf
      refine lv_iload_n hx hb dX11_matches_45 rfl (lv_at hl 2 rfl) ?_
      refine lv_aload_n hx hb dX11_matches_46 rfl (lv_at hl 0 rfl) ?_
      refine x_geti 1016 (ci := 10) (C := RX11) (T := TX11) (N := 30) 16 hC hin11 hW tv0 rfl rfl ⟨by decide, by decide, rfl, rfl⟩ rfl w_1 dX11_matches_47 ?_
      refine lv_icmp_ge (tgt := 71) hx hb dX11_matches_50 (by decide) (fun c39 => ?_) (fun c39 => ?_)
      · replace hf := ifT c39 hf
        refine lv_aload_n hx hb dX11_matches_71 rfl (lv_at hl 0 rfl) ?_
        refine lv_iconst (v := 0) hx hb dX11_matches_72 (by decide) ?_
        refine x_puti 1007 (ci := 10) (C := RX11) (T := TX11) (N := 30) (v := 0) (ty := .int) 7 hC hin11 tyX11_ok nmX11 hW hS tv0 rfl rfl ⟨by decide, by decide, rfl, rfl⟩ rfl w_2 rfl (by decide +kernel) rfl rfl dX11_matches_73 (fun S40 H locs eS40 hW hS => ?_)
        replace hf := ltE hf S40 eS40
        refine lv_iconst (v := 0) hx hb dX11_matches_76 (by decide) ?_
        refine lv_istore_n (lv' := [(2, .int 0), (0, .ref (ad v0)), (1, .int v1)]) hx hb dX11_matches_77 rfl hl (by decide) rfl (fun ls hl => ?_)
        refine lv_iconst (v := 0) hx hb dX11_matches_78 (by decide) ?_
        refine lv_istore_n (lv' := [(3, .int 0), (2, .int 0), (0, .ref (ad v0)), (1, .int v1)]) hx hb dX11_matches_79 rfl hl (by decide) rfl (fun ls hl => ?_)
        exact L80 F S40 v0 v1 0 0 tv0 _ _ _ hf hW hS (lv_sub hl [2, 3, 1, 0] rfl)
      · replace hf := ifF c39 hf
        refine lv_aload_n hx hb dX11_matches_53 rfl (lv_at hl 0 rfl) ?_
        replace hf := obE hf
        obtain ⟨j41, qj41, hf⟩ := hf
        have tj41 := x_rt hW qj41 12 ⟨by decide, rfl⟩
        refine x_getr 1015 (ci := 10) (C := RX11) (T := TX11) (N := 30) 15 hC hin11 hW tv0 rfl rfl ⟨by decide, by decide, rfl, rfl⟩ rfl w_3 dX11_matches_54 qj41 ?_
        refine lv_iload_n hx hb dX11_matches_57 rfl (lv_at hl 2 rfl) ?_
        refine lv_aload_n hx hb dX11_matches_58 rfl (lv_at hl 0 rfl) ?_
        replace hf := obE hf
        obtain ⟨j42, qj42, hf⟩ := hf
        have tj42 := x_rt hW qj42 11 ⟨by decide, rfl⟩
        refine x_getr 1006 (ci := 10) (C := RX11) (T := TX11) (N := 30) 6 hC hin11 hW tv0 rfl rfl ⟨by decide, by decide, rfl, rfl⟩ rfl w_4 dX11_matches_59 qj42 ?_
        refine lv_iload_n hx hb dX11_matches_62 rfl (lv_at hl 2 rfl) ?_
        replace hf := ckiE hf
        obtain ⟨h43, hf⟩ := hf
        refine x_bald hC hW tj42 rfl rfl h43 dX11_matches_63 ?_
        replace hf := ckiE hf
        obtain ⟨h44, hf⟩ := hf
        refine x_iast hC hW hS tj41 rfl rfl h44 dX11_matches_64 (fun S45 H locs eS45 hW hS => ?_)
        replace hf := ltE hf S45 eS45
        obtain ⟨x46, ex46⟩ : ∃ z : Int32, z = v2 + 1 := ⟨_, rfl⟩
        replace hf := ltE hf x46 ex46
        refine lv_iinc (v := x46) (lv' := [(2, .int x46), (0, .ref (ad v0)), (1, .int v1)]) hx hb dX11_matches_65 hl (k := 2) rfl (by rw [ex46]; rfl) (by decide) rfl (fun ls hl => ?_)
        refine lv_goto (tgt := 45) hx hb dX11_matches_68 (by decide) ?_
        exact ih45 S45 v0 v1 x46 tv0 _ _ _ hf hW hS (lv_sub hl [1, 2, 0] rfl)
  have L27 : ∀ (S0 : St) (v0 : Nat) (v1 : Int32) (s0 : Int32) (s1 : Int32) (s2 : Nat) (tv0 : v0 < n ∧ K v0 = 10) (ts2 : s2 < n ∧ K s2 = 10) (H : Heap) (locs : List Loc) (ls : Array Slot), f_X11_matches_L27 F S0 v0 v1 s0 s1 s2 = some (r9, S9) → Wb g ad n K S0 (dA ad n s.heap.size) H → va_S (dA ad n s.heap.size) s.heap H locs → lv_has ls 4 [(0, .ref (ad v0)), (1, .int v1)] → W p l e (headSpec wsX11_matches { frames := 4, cells := 0, slots := 0, locals := 95 }).room s m (List.toArray [.ref (ad p0), .int p1]) below meth c H locs 0 0 (MQ below (QR (some (.int r9)) (QB g ad n K S9 (dA ad n s.heap.size) (True)) (dA ad n s.heap.size)) (List.toArray [.ref (ad p0), .int p1]) s 0 0 (dA ad n s.heap.size)) (F0 m 27 ls [.int s0, .int s1, .ref (ad s2)]) := by
    intro S0 v0 v1 s0 s1 s2 tv0 ts2 H locs ls hf hW hS hl
    unfold f_X11_matches_L27 at hf
    replace hf := obE hf
    obtain ⟨z53, hz53, hf⟩ := hf
    obtain ⟨r55, S54⟩ := z53
    replace hf := ltE (ltE hf r55 rfl) S54 rfl
    refine x_callV (As := [.int s1, .int s0]) (rest := []) (o := (some (.int r55))) (S1 := S54) hC hl.1 hW hS hGs hA ts2 rfl (show vwCl[10]? = some (RX11, TX11, 30) ∧ 10 < 11 from ⟨rfl, by decide⟩) (c_X11_passes2 l g ad n K H.size F S0 s2 s1 s0 ts2 r55 S54 hz53) (cwV 2 hts gX11_matches_X11_passes2 rfl rfl rfl (by decide +kernel) ⟨Nat.le_of_ble_eq_true rfl, Nat.le_of_ble_eq_true rfl⟩) rfl rfl (Nat.le_of_ble_eq_true rfl) dX11_matches_27 ⟨Nat.le_of_ble_eq_true rfl, Nat.le_of_ble_eq_true rfl⟩ (fun H locs hPz53 hW hS => ?_)
    refine W.eq (g2 := F0 m 30 ls [.int r55]) rfl ?_
    refine lv_if_ne (tgt := 35) hx hb dX11_matches_30 (by decide) (fun c57 => ?_) (fun c57 => ?_)
    · replace hf := ifT c57 hf
      refine lv_aload_n hx hb dX11_matches_35 rfl (lv_at hl 0 rfl) ?_
      refine lv_aload_n hx hb dX11_matches_36 rfl (lv_at hl 0 rfl) ?_
      refine x_geti 1007 (ci := 10) (C := RX11) (T := TX11) (N := 30) 7 hC hin11 hW tv0 rfl rfl ⟨by decide, by decide, rfl, rfl⟩ rfl w_2 dX11_matches_37 ?_
      refine x_puti 1016 (ci := 10) (C := RX11) (T := TX11) (N := 30) (v := si S54 1007 v0) (ty := .int) 16 hC hin11 tyX11_ok nmX11 hW hS tv0 rfl rfl ⟨by decide, by decide, rfl, rfl⟩ rfl w_1 rfl (by decide +kernel) rfl rfl dX11_matches_40 (fun S58 H locs eS58 hW hS => ?_)
      replace hf := ltE hf S58 eS58
      refine lv_iconst (v := 0) hx hb dX11_matches_43 (by decide) ?_
      refine lv_istore_n (lv' := [(2, .int 0), (0, .ref (ad v0)), (1, .int v1)]) hx hb dX11_matches_44 rfl hl (by decide) rfl (fun ls hl => ?_)
      exact L45 F S58 v0 v1 0 tv0 _ _ _ hf hW hS (lv_sub hl [1, 2, 0] rfl)
    · replace hf := ifF (fun q => q c57) hf
      refine lv_iconst (v := 0) hx hb dX11_matches_33 (by decide) ?_
      obtain ⟨e1, e2⟩ := so2 hf
      subst e1
      subst e2
      exact W.iret (v := 0) hx hb hr (fun t ht hWm => ⟨⟨rfl, by unfold QB; rw [ht]; exact ⟨hW, trivial⟩⟩, hS.F ht⟩) hS.2.2 dX11_matches_34 hlk
  have L26 : ∀ (S0 : St) (v0 : Nat) (v1 : Int32) (s0 : Int32) (s1 : Nat) (tv0 : v0 < n ∧ K v0 = 10) (ts1 : s1 < n ∧ K s1 = 10) (H : Heap) (locs : List Loc) (ls : Array Slot), f_X11_matches_L26 F S0 v0 v1 s0 s1 = some (r9, S9) → Wb g ad n K S0 (dA ad n s.heap.size) H → va_S (dA ad n s.heap.size) s.heap H locs → lv_has ls 4 [(0, .ref (ad v0)), (1, .int v1)] → W p l e (headSpec wsX11_matches { frames := 4, cells := 0, slots := 0, locals := 95 }).room s m (List.toArray [.ref (ad p0), .int p1]) below meth c H locs 0 0 (MQ below (QR (some (.int r9)) (QB g ad n K S9 (dA ad n s.heap.size) (True)) (dA ad n s.heap.size)) (List.toArray [.ref (ad p0), .int p1]) s 0 0 (dA ad n s.heap.size)) (F0 m 26 ls [.int s0, .ref (ad s1)]) := by
    intro S0 v0 v1 s0 s1 tv0 ts1 H locs ls hf hW hS hl
    unfold f_X11_matches_L26 at hf
    refine lv_iconst (v := 0) hx hb dX11_matches_26 (by decide) ?_
    exact L27 S0 v0 v1 0 s0 s1 tv0 ts1 _ _ _ hf hW hS (lv_sub hl [0, 1] rfl)
  unfold f_X11_matches at hf
  refine lv_aload_n hx hb dX11_matches_0 rfl (lv_at hl 0 rfl) ?_
  refine lv_aload_n hx hb dX11_matches_1 rfl (lv_at hl 0 rfl) ?_
  refine lv_iload_n hx hb dX11_matches_2 rfl (lv_at hl 1 rfl) ?_
  replace hf := obE hf
  obtain ⟨z59, hz59, hf⟩ := hf
  obtain ⟨r61, S60⟩ := z59
  replace hf := ltE (ltE hf r61 rfl) S60 rfl
  refine x_callV (As := [.int p1]) (rest := [.ref (ad p0)]) (o := (some (.int r61))) (S1 := S60) hC hl.1 hW hS hGs hA tp0 rfl (show vwCl[10]? = some (RX11, TX11, 30) ∧ 10 < 11 from ⟨rfl, by decide⟩) (c_X11_isUser l g ad n K s.heap.size F S0 p0 p1 tp0 r61 S60 hz59) (cwV 1 hts gX11_matches_X11_isUser rfl rfl rfl (by decide +kernel) ⟨Nat.le_of_ble_eq_true rfl, Nat.le_of_ble_eq_true rfl⟩) rfl rfl (Nat.le_of_ble_eq_true rfl) dX11_matches_3 ⟨Nat.le_of_ble_eq_true rfl, Nat.le_of_ble_eq_true rfl⟩ (fun H locs hPz59 hW hS => ?_)
  refine W.eq (g2 := F0 m 6 ls [.int r61, .ref (ad p0)]) rfl ?_
  refine lv_aload_n hx hb dX11_matches_6 rfl (lv_at hl 0 rfl) ?_
  replace hf := obE hf
  obtain ⟨z63, hz63, hf⟩ := hf
  obtain ⟨r65, S64⟩ := z63
  replace hf := ltE (ltE hf r65 rfl) S64 rfl
  refine x_callV (As := []) (rest := [.int r61, .ref (ad p0)]) (o := (some (.int r65))) (S1 := S64) hC hl.1 hW hS hGs hA tp0 rfl (show vwCl[10]? = some (RX11, TX11, 30) ∧ 10 < 11 from ⟨rfl, by decide⟩) (c_X11_isInputWord l g ad n K H.size F S60 p0 tp0 r65 S64 hz63) (cwV 0 hts gX11_matches_X11_isInputWord rfl rfl rfl (by decide +kernel) ⟨Nat.le_of_ble_eq_true rfl, Nat.le_of_ble_eq_true rfl⟩) rfl rfl (Nat.le_of_ble_eq_true rfl) dX11_matches_7 ⟨Nat.le_of_ble_eq_true rfl, Nat.le_of_ble_eq_true rfl⟩ (fun H locs hPz63 hW hS => ?_)
  refine W.eq (g2 := F0 m 10 ls [.int r65, .int r61, .ref (ad p0)]) rfl ?_
  refine lv_if_eq (tgt := 26) hx hb dX11_matches_10 (by decide) (fun c67 => ?_) (fun c67 => ?_)
  · replace hf := ifT c67 hf
    exact L26 S64 p0 p1 r61 p0 tp0 tp0 _ _ _ hf hW hS (lv_sub hl [0, 1] rfl)
  · replace hf := ifF c67 hf
    refine lv_aload_n hx hb dX11_matches_13 rfl (lv_at hl 0 rfl) ?_
    refine x_geti 1007 (ci := 10) (C := RX11) (T := TX11) (N := 30) 7 hC hin11 hW tp0 rfl rfl ⟨by decide, by decide, rfl, rfl⟩ rfl w_2 dX11_matches_14 ?_
    refine lv_bipush (v := 10) hx hb dX11_matches_17 (by decide) ?_
    refine lv_icmp_gt (tgt := 26) hx hb dX11_matches_19 (by decide) (fun c68 => ?_) (fun c68 => ?_)
    · replace hf := ifT c68 hf
      exact L26 S64 p0 p1 r61 p0 tp0 tp0 _ _ _ hf hW hS (lv_sub hl [0, 1] rfl)
    · replace hf := ifF c68 hf
      refine lv_iconst (v := 1) hx hb dX11_matches_22 (by decide) ?_
      refine lv_goto (tgt := 27) hx hb dX11_matches_23 (by decide) ?_
      exact L27 S64 p0 p1 1 r61 p0 tp0 tp0 _ _ _ hf hW hS (lv_sub hl [0, 1] rfl)
set_option maxHeartbeats 4000000 in
set_option maxRecDepth 100000 in
theorem c_X11_commonBytes (l : Launch) (g : GP) (ad : Nat → Nat) (n : Nat) (K : Nat → Nat) (sz F : Nat) (S0 : St) (p0 : Nat) (p1 : Int32) (p2 : Int32) (tp0 : p0 < n ∧ K p0 = 10) (r9 : Int32) (S9 : St) (hf : f_X11_commonBytes F S0 p0 p1 p2 = some (r9, S9)) : Met l yX11_commonBytes wsX11_commonBytes { frames := 4, cells := 0, slots := 0, locals := 88 } (va_Pc [.ref (ad p0), .int p1, .int p2] (PB g ad n K S0 sz)) (QR (some (.int r9)) (QB g ad n K S9 (dA ad n sz) (True)) (dA ad n sz)) 0 0 (dA ad n sz) := by
  refine Met.ofW (cc := cX11_commonBytes) (maxL := 5) (ret := (some .int)) (by decide) rfl ?_
  intro p e s m args below meth c s₁ B hml hv
  obtain ⟨rfl, hsz, hW, hK, hGs⟩ := x_start hv
  subst hsz
  have hx := B.exec
  have hb := B.bytes
  have hr := B.returns
  have hts := atoms_spec (ws := wsX11_commonBytes) B.pre
  have hown : s.vm.findClass RX11 = some m.cls := findClass_of_methodNamed B.named
  have hlk := B.notSynchronized
  have hC : Cx g p s m _ c cX11_commonBytes RX11 wsX11_commonBytes 5 := ⟨hx, hb, hml, hown, hts, hK⟩
  have hA : ∀ q : Nat, s.heap.size ≤ q → dA ad n s.heap.size q := fun q h => Or.inr h
  have hS : va_S (dA ad n s.heap.size) s.heap s.heap [] := va_S.rf
  have hl := lv_entry ([.ref (ad p0), .int p1, .int p2]) (n := 5) (Nat.le_of_ble_eq_true rfl)
  rw [lg_entry_eq]
  generalize (lg_sl ([.ref (ad p0), .int p1, .int p2]) ++ List.replicate (5 - (lg_sl ([.ref (ad p0), .int p1, .int p2])).length) Slot.unset).toArray = ls at hl ⊢
  have hl : lv_has ls 5 [(0, .ref (ad p0)), (1, .int p1), (2, .int p2)] := hl
  have hin11 : ∀ w ∈ wsX110, w ∈ wsX11_commonBytes := by decide +kernel
  have w_0 := hts (.fieldLink RX11 17 "MailSpoolModel" "net" "[I") (by decide +kernel)
  have hGE := hGs.2.2.2.2.2.2.1
  have hGM := hGs.2.2.2.2.2.2.2.1
  have L35 : ∀ (fu35 : Nat) (S0 : St) (v0 : Nat) (v1 : Int32) (v2 : Int32) (v3 : Int32) (v4 : Int32) (tv0 : v0 < n ∧ K v0 = 10) (H : Heap) (locs : List Loc) (ls : Array Slot), f_X11_commonBytes_L35 F fu35 S0 v0 v1 v2 v3 v4 = some (r9, S9) → Wb g ad n K S0 (dA ad n s.heap.size) H → va_S (dA ad n s.heap.size) s.heap H locs → lv_has ls 5 [(0, .ref (ad v0)), (1, .int v1), (2, .int v2), (3, .int v3), (4, .int v4)] → W p l e (headSpec wsX11_commonBytes { frames := 4, cells := 0, slots := 0, locals := 88 }).room s m (List.toArray [.ref (ad p0), .int p1, .int p2]) below meth c H locs 0 0 (MQ below (QR (some (.int r9)) (QB g ad n K S9 (dA ad n s.heap.size) (True)) (dA ad n s.heap.size)) (List.toArray [.ref (ad p0), .int p1, .int p2]) s 0 0 (dA ad n s.heap.size)) (F0 m 35 ls []) := by
    intro fu35
    induction fu35 with
    | zero =>
      intro S0 v0 v1 v2 v3 v4 tv0 H locs ls hf
      cases hf
    | succ fu35 ih35 =>
      have L79 : ∀ (S0 : St) (v0 : Nat) (v1 : Int32) (v2 : Int32) (v4 : Int32) (s0 : Int32) (s1 : Int32) (tv0 : v0 < n ∧ K v0 = 10) (H : Heap) (locs : List Loc) (ls : Array Slot), f_X11_commonBytes_L79 F (fun a0 a1 a2 a3 a4 a5 => f_X11_commonBytes_L35 F fu35 a0 a1 a2 a3 a4 a5) S0 v0 v1 v2 v4 s0 s1 = some (r9, S9) → Wb g ad n K S0 (dA ad n s.heap.size) H → va_S (dA ad n s.heap.size) s.heap H locs → lv_has ls 5 [(0, .ref (ad v0)), (1, .int v1), (2, .int v2), (4, .int v4)] → W p l e (headSpec wsX11_commonBytes { frames := 4, cells := 0, slots := 0, locals := 88 }).room s m (List.toArray [.ref (ad p0), .int p1, .int p2]) below meth c H locs 0 0 (MQ below (QR (some (.int r9)) (QB g ad n K S9 (dA ad n s.heap.size) (True)) (dA ad n s.heap.size)) (List.toArray [.ref (ad p0), .int p1, .int p2]) s 0 0 (dA ad n s.heap.size)) (F0 m 79 ls [.int s0, .int s1]) := by
        intro S0 v0 v1 v2 v4 s0 s1 tv0 H locs ls hf hW hS hl
        unfold f_X11_commonBytes_L79 at hf
        refine lv_iadd hx hb dX11_commonBytes_79 ?_
        refine lv_topi (fun x3 ex3 => ?_)
        replace hf := ltE hf x3 ex3
        refine lv_istore_n (lv' := [(3, .int x3), (0, .ref (ad v0)), (1, .int v1), (2, .int v2), (4, .int v4)]) hx hb dX11_commonBytes_80 rfl hl (by decide) rfl (fun ls hl => ?_)
        obtain ⟨x4, ex4⟩ : ∃ z : Int32, z = v4 + 1 := ⟨_, rfl⟩
        replace hf := ltE hf x4 ex4
        refine lv_iinc (v := x4) (lv' := [(4, .int x4), (3, .int x3), (0, .ref (ad v0)), (1, .int v1), (2, .int v2)]) hx hb dX11_commonBytes_81 hl (k := 4) rfl (by rw [ex4]; rfl) (by decide) rfl (fun ls hl => ?_)
        refine lv_goto (tgt := 35) hx hb dX11_commonBytes_84 (by decide) ?_
        exact ih35 S0 v0 v1 v2 x3 x4 tv0 _ _ _ hf hW hS (lv_sub hl [2, 3, 4, 1, 0] rfl)
      have L78 : ∀ (S0 : St) (v0 : Nat) (v1 : Int32) (v2 : Int32) (v4 : Int32) (s0 : Int32) (tv0 : v0 < n ∧ K v0 = 10) (H : Heap) (locs : List Loc) (ls : Array Slot), f_X11_commonBytes_L78 F (fun a0 a1 a2 a3 a4 a5 => f_X11_commonBytes_L35 F fu35 a0 a1 a2 a3 a4 a5) S0 v0 v1 v2 v4 s0 = some (r9, S9) → Wb g ad n K S0 (dA ad n s.heap.size) H → va_S (dA ad n s.heap.size) s.heap H locs → lv_has ls 5 [(0, .ref (ad v0)), (1, .int v1), (2, .int v2), (4, .int v4)] → W p l e (headSpec wsX11_commonBytes { frames := 4, cells := 0, slots := 0, locals := 88 }).room s m (List.toArray [.ref (ad p0), .int p1, .int p2]) below meth c H locs 0 0 (MQ below (QR (some (.int r9)) (QB g ad n K S9 (dA ad n s.heap.size) (True)) (dA ad n s.heap.size)) (List.toArray [.ref (ad p0), .int p1, .int p2]) s 0 0 (dA ad n s.heap.size)) (F0 m 78 ls [.int s0]) := by
        intro S0 v0 v1 v2 v4 s0 tv0 H locs ls hf hW hS hl
        unfold f_X11_commonBytes_L78 at hf
        refine lv_iconst (v := 0) hx hb dX11_commonBytes_78 (by decide) ?_
        exact L79 S0 v0 v1 v2 v4 0 s0 tv0 _ _ _ hf hW hS (lv_sub hl [0, 1, 2, 3] rfl)
      intro S0 v0 v1 v2 v3 v4 tv0 H locs ls hf hW hS hl
      unfold f_X11_commonBytes_L35 at hf
      refine lv_iload hx hb dX11_commonBytes_35 (lv_at hl 4 rfl) ?_
      refine lv_aload_n hx hb dX11_commonBytes_37 rfl (lv_at hl 0 rfl) ?_
      replace hf := obE hf
      obtain ⟨j22, qj22, hf⟩ := hf
      have tj22 := x_rt hW qj22 12 ⟨by decide, rfl⟩
      refine x_getr 1001 (ci := 10) (C := RX11) (T := TX11) (N := 30) 1 hC hin11 hW tv0 rfl rfl ⟨by decide, by decide, rfl, rfl⟩ rfl w_0 dX11_commonBytes_38 qj22 ?_
      refine lv_bipush (v := 8) hx hb dX11_commonBytes_41 (by decide) ?_
      replace hf := ckiE hf
      obtain ⟨h23, hf⟩ := hf
      refine x_iald hC hW tj22 rfl rfl h23 dX11_commonBytes_43 ?_
      refine lv_icmp_ge (tgt := 87) hx hb dX11_commonBytes_44 (by decide) (fun c24 => ?_) (fun c24 => ?_)
      · replace hf := ifT c24 hf
        refine lv_iload_n hx hb dX11_commonBytes_87 rfl (lv_at hl 3 rfl) ?_
        obtain ⟨e1, e2⟩ := so2 hf
        subst e1
        subst e2
        exact W.iret (v := v3) hx hb hr (fun t ht hWm => ⟨⟨rfl, by unfold QB; rw [ht]; exact ⟨hW, trivial⟩⟩, hS.F ht⟩) hS.2.2 dX11_commonBytes_88 hlk
      · replace hf := ifF c24 hf
        refine lv_iload_n hx hb dX11_commonBytes_47 rfl (lv_at hl 3 rfl) ?_
        refine lv_aload_n hx hb dX11_commonBytes_48 rfl (lv_at hl 0 rfl) ?_
        refine lv_iload_n hx hb dX11_commonBytes_49 rfl (lv_at hl 1 rfl) ?_
        refine lv_iload hx hb dX11_commonBytes_50 (lv_at hl 4 rfl) ?_
        replace hf := obE hf
        obtain ⟨z25, hz25, hf⟩ := hf
        obtain ⟨r27, S26⟩ := z25
        replace hf := ltE (ltE hf r27 rfl) S26 rfl
        refine x_callV (As := [.int v1, .int v4]) (rest := [.int v3]) (o := (some (.int r27))) (S1 := S26) hC hl.1 hW hS hGs hA tv0 rfl (show vwCl[10]? = some (RX11, TX11, 30) ∧ 10 < 11 from ⟨rfl, by decide⟩) (c_X11_reads l g ad n K H.size F S0 v0 v1 v4 tv0 r27 S26 hz25) (cwV 2 hts gX11_commonBytes_X11_reads rfl rfl rfl (by decide +kernel) ⟨Nat.le_of_ble_eq_true rfl, Nat.le_of_ble_eq_true rfl⟩) rfl rfl (Nat.le_of_ble_eq_true rfl) dX11_commonBytes_52 ⟨Nat.le_of_ble_eq_true rfl, Nat.le_of_ble_eq_true rfl⟩ (fun H locs hPz25 hW hS => ?_)
        refine W.eq (g2 := F0 m 55 ls [.int r27, .int v3]) rfl ?_
        refine lv_if_eq (tgt := 78) hx hb dX11_commonBytes_55 (by decide) (fun c29 => ?_) (fun c29 => ?_)
        · replace hf := ifT c29 hf
          exact L78 S26 v0 v1 v2 v4 v3 tv0 _ _ _ hf hW hS (lv_sub hl [0, 1, 2, 4] rfl)
        · replace hf := ifF c29 hf
          refine lv_aload_n hx hb dX11_commonBytes_58 rfl (lv_at hl 0 rfl) ?_
          refine lv_iload_n hx hb dX11_commonBytes_59 rfl (lv_at hl 2 rfl) ?_
          refine lv_iload hx hb dX11_commonBytes_60 (lv_at hl 4 rfl) ?_
          replace hf := obE hf
          obtain ⟨z30, hz30, hf⟩ := hf
          obtain ⟨r32, S31⟩ := z30
          replace hf := ltE (ltE hf r32 rfl) S31 rfl
          refine x_callV (As := [.int v2, .int v4]) (rest := [.int v3]) (o := (some (.int r32))) (S1 := S31) hC hl.1 hW hS hGs hA tv0 rfl (show vwCl[10]? = some (RX11, TX11, 30) ∧ 10 < 11 from ⟨rfl, by decide⟩) (c_X11_reads l g ad n K H.size F S26 v0 v2 v4 tv0 r32 S31 hz30) (cwV 2 hts gX11_commonBytes_X11_reads rfl rfl rfl (by decide +kernel) ⟨Nat.le_of_ble_eq_true rfl, Nat.le_of_ble_eq_true rfl⟩) rfl rfl (Nat.le_of_ble_eq_true rfl) dX11_commonBytes_62 ⟨Nat.le_of_ble_eq_true rfl, Nat.le_of_ble_eq_true rfl⟩ (fun H locs hPz30 hW hS => ?_)
          refine W.eq (g2 := F0 m 65 ls [.int r32, .int v3]) rfl ?_
          refine lv_if_eq (tgt := 78) hx hb dX11_commonBytes_65 (by decide) (fun c34 => ?_) (fun c34 => ?_)
          · replace hf := ifT c34 hf
            exact L78 S31 v0 v1 v2 v4 v3 tv0 _ _ _ hf hW hS (lv_sub hl [0, 1, 2, 4] rfl)
          · replace hf := ifF c34 hf
            refine lv_aload_n hx hb dX11_commonBytes_68 rfl (lv_at hl 0 rfl) ?_
            refine lv_iload hx hb dX11_commonBytes_69 (lv_at hl 4 rfl) ?_
            refine lv_iconst (v := 0) hx hb dX11_commonBytes_71 (by decide) ?_
            replace hf := obE hf
            obtain ⟨z35, hz35, hf⟩ := hf
            obtain ⟨r37, S36⟩ := z35
            replace hf := ltE (ltE hf r37 rfl) S36 rfl
            refine x_callV (As := [.int v4, .int 0]) (rest := [.int v3]) (o := (some (.int r37))) (S1 := S36) hC hl.1 hW hS hGs hA tv0 rfl (show vwCl[10]? = some (RX11, TX11, 30) ∧ 10 < 11 from ⟨rfl, by decide⟩) (c_X11_partValue l g ad n K H.size F S31 v0 v4 ((0 : Int32)) tv0 r37 S36 hz35) (cwV 2 hts gX11_commonBytes_X11_partValue rfl rfl rfl (by decide +kernel) ⟨Nat.le_of_ble_eq_true rfl, Nat.le_of_ble_eq_true rfl⟩) rfl rfl (Nat.le_of_ble_eq_true rfl) dX11_commonBytes_72 ⟨Nat.le_of_ble_eq_true rfl, Nat.le_of_ble_eq_true rfl⟩ (fun H locs hPz35 hW hS => ?_)
            refine W.eq (g2 := F0 m 75 ls [.int r37, .int v3]) rfl ?_
            refine lv_goto (tgt := 79) hx hb dX11_commonBytes_75 (by decide) ?_
            exact L79 S36 v0 v1 v2 v4 r37 v3 tv0 _ _ _ hf hW hS (lv_sub hl [0, 1, 2, 4] rfl)
  have L22 : ∀ (S0 : St) (v0 : Nat) (v1 : Int32) (v2 : Int32) (s0 : Int32) (s1 : Nat) (tv0 : v0 < n ∧ K v0 = 10) (ts1 : s1 < n ∧ K s1 = 10) (H : Heap) (locs : List Loc) (ls : Array Slot), f_X11_commonBytes_L22 F S0 v0 v1 v2 s0 s1 = some (r9, S9) → Wb g ad n K S0 (dA ad n s.heap.size) H → va_S (dA ad n s.heap.size) s.heap H locs → lv_has ls 5 [(0, .ref (ad v0)), (1, .int v1), (2, .int v2)] → W p l e (headSpec wsX11_commonBytes { frames := 4, cells := 0, slots := 0, locals := 88 }).room s m (List.toArray [.ref (ad p0), .int p1, .int p2]) below meth c H locs 0 0 (MQ below (QR (some (.int r9)) (QB g ad n K S9 (dA ad n s.heap.size) (True)) (dA ad n s.heap.size)) (List.toArray [.ref (ad p0), .int p1, .int p2]) s 0 0 (dA ad n s.heap.size)) (F0 m 22 ls [.int s0, .ref (ad s1)]) := by
    intro S0 v0 v1 v2 s0 s1 tv0 ts1 H locs ls hf hW hS hl
    unfold f_X11_commonBytes_L22 at hf
    replace hf := obE hf
    obtain ⟨z44, hz44, hf⟩ := hf
    obtain ⟨r46, S45⟩ := z44
    replace hf := ltE (ltE hf r46 rfl) S45 rfl
    refine x_callV (As := [.int s0]) (rest := []) (o := (some (.int r46))) (S1 := S45) hC hl.1 hW hS hGs hA ts1 rfl (show vwCl[10]? = some (RX11, TX11, 30) ∧ 10 < 11 from ⟨rfl, by decide⟩) (c_X11_passes l g ad n K H.size F S0 s1 s0 ts1 r46 S45 hz44) (cwV 1 hts gX11_commonBytes_X11_passes rfl rfl rfl (by decide +kernel) ⟨Nat.le_of_ble_eq_true rfl, Nat.le_of_ble_eq_true rfl⟩) rfl rfl (Nat.le_of_ble_eq_true rfl) dX11_commonBytes_22 ⟨Nat.le_of_ble_eq_true rfl, Nat.le_of_ble_eq_true rfl⟩ (fun H locs hPz44 hW hS => ?_)
    refine W.eq (g2 := F0 m 25 ls [.int r46]) rfl ?_
    refine lv_if_ne (tgt := 30) hx hb dX11_commonBytes_25 (by decide) (fun c48 => ?_) (fun c48 => ?_)
    · replace hf := ifT c48 hf
      refine lv_iconst (v := 0) hx hb dX11_commonBytes_30 (by decide) ?_
      refine lv_istore_n (lv' := [(3, .int 0), (0, .ref (ad v0)), (1, .int v1), (2, .int v2)]) hx hb dX11_commonBytes_31 rfl hl (by decide) rfl (fun ls hl => ?_)
      refine lv_iconst (v := 0) hx hb dX11_commonBytes_32 (by decide) ?_
      refine lv_istore (lv' := [(4, .int 0), (3, .int 0), (0, .ref (ad v0)), (1, .int v1), (2, .int v2)]) hx hb dX11_commonBytes_33 hl (by decide) rfl (fun ls hl => ?_)
      exact L35 F S45 v0 v1 v2 0 0 tv0 _ _ _ hf hW hS (lv_sub hl [2, 3, 4, 1, 0] rfl)
    · replace hf := ifF (fun q => q c48) hf
      refine lv_iconst (v := 0) hx hb dX11_commonBytes_28 (by decide) ?_
      obtain ⟨e1, e2⟩ := so2 hf
      subst e1
      subst e2
      exact W.iret (v := 0) hx hb hr (fun t ht hWm => ⟨⟨rfl, by unfold QB; rw [ht]; exact ⟨hW, trivial⟩⟩, hS.F ht⟩) hS.2.2 dX11_commonBytes_29 hlk
  have L21 : ∀ (S0 : St) (v0 : Nat) (v1 : Int32) (v2 : Int32) (s0 : Nat) (tv0 : v0 < n ∧ K v0 = 10) (ts0 : s0 < n ∧ K s0 = 10) (H : Heap) (locs : List Loc) (ls : Array Slot), f_X11_commonBytes_L21 F S0 v0 v1 v2 s0 = some (r9, S9) → Wb g ad n K S0 (dA ad n s.heap.size) H → va_S (dA ad n s.heap.size) s.heap H locs → lv_has ls 5 [(0, .ref (ad v0)), (1, .int v1), (2, .int v2)] → W p l e (headSpec wsX11_commonBytes { frames := 4, cells := 0, slots := 0, locals := 88 }).room s m (List.toArray [.ref (ad p0), .int p1, .int p2]) below meth c H locs 0 0 (MQ below (QR (some (.int r9)) (QB g ad n K S9 (dA ad n s.heap.size) (True)) (dA ad n s.heap.size)) (List.toArray [.ref (ad p0), .int p1, .int p2]) s 0 0 (dA ad n s.heap.size)) (F0 m 21 ls [.ref (ad s0)]) := by
    intro S0 v0 v1 v2 s0 tv0 ts0 H locs ls hf hW hS hl
    unfold f_X11_commonBytes_L21 at hf
    refine lv_iconst (v := 0) hx hb dX11_commonBytes_21 (by decide) ?_
    exact L22 S0 v0 v1 v2 0 s0 tv0 ts0 _ _ _ hf hW hS (lv_sub hl [0, 1, 2] rfl)
  unfold f_X11_commonBytes at hf
  refine lv_aload_n hx hb dX11_commonBytes_0 rfl (lv_at hl 0 rfl) ?_
  refine lv_aload_n hx hb dX11_commonBytes_1 rfl (lv_at hl 0 rfl) ?_
  refine lv_iload_n hx hb dX11_commonBytes_2 rfl (lv_at hl 1 rfl) ?_
  replace hf := obE hf
  obtain ⟨z49, hz49, hf⟩ := hf
  obtain ⟨r51, S50⟩ := z49
  replace hf := ltE (ltE hf r51 rfl) S50 rfl
  refine x_callV (As := [.int p1]) (rest := [.ref (ad p0)]) (o := (some (.int r51))) (S1 := S50) hC hl.1 hW hS hGs hA tp0 rfl (show vwCl[10]? = some (RX11, TX11, 30) ∧ 10 < 11 from ⟨rfl, by decide⟩) (c_X11_isUser l g ad n K s.heap.size F S0 p0 p1 tp0 r51 S50 hz49) (cwV 1 hts gX11_commonBytes_X11_isUser rfl rfl rfl (by decide +kernel) ⟨Nat.le_of_ble_eq_true rfl, Nat.le_of_ble_eq_true rfl⟩) rfl rfl (Nat.le_of_ble_eq_true rfl) dX11_commonBytes_3 ⟨Nat.le_of_ble_eq_true rfl, Nat.le_of_ble_eq_true rfl⟩ (fun H locs hPz49 hW hS => ?_)
  refine W.eq (g2 := F0 m 6 ls [.int r51, .ref (ad p0)]) rfl ?_
  refine lv_if_eq (tgt := 21) hx hb dX11_commonBytes_6 (by decide) (fun c53 => ?_) (fun c53 => ?_)
  · replace hf := ifT c53 hf
    exact L21 S50 p0 p1 p2 p0 tp0 tp0 _ _ _ hf hW hS (lv_sub hl [0, 1, 2] rfl)
  · replace hf := ifF c53 hf
    refine lv_aload_n hx hb dX11_commonBytes_9 rfl (lv_at hl 0 rfl) ?_
    refine lv_iload_n hx hb dX11_commonBytes_10 rfl (lv_at hl 2 rfl) ?_
    replace hf := obE hf
    obtain ⟨z54, hz54, hf⟩ := hf
    obtain ⟨r56, S55⟩ := z54
    replace hf := ltE (ltE hf r56 rfl) S55 rfl
    refine x_callV (As := [.int p2]) (rest := [.ref (ad p0)]) (o := (some (.int r56))) (S1 := S55) hC hl.1 hW hS hGs hA tp0 rfl (show vwCl[10]? = some (RX11, TX11, 30) ∧ 10 < 11 from ⟨rfl, by decide⟩) (c_X11_isUser l g ad n K H.size F S50 p0 p2 tp0 r56 S55 hz54) (cwV 1 hts gX11_commonBytes_X11_isUser rfl rfl rfl (by decide +kernel) ⟨Nat.le_of_ble_eq_true rfl, Nat.le_of_ble_eq_true rfl⟩) rfl rfl (Nat.le_of_ble_eq_true rfl) dX11_commonBytes_11 ⟨Nat.le_of_ble_eq_true rfl, Nat.le_of_ble_eq_true rfl⟩ (fun H locs hPz54 hW hS => ?_)
    refine W.eq (g2 := F0 m 14 ls [.int r56, .ref (ad p0)]) rfl ?_
    refine lv_if_eq (tgt := 21) hx hb dX11_commonBytes_14 (by decide) (fun c58 => ?_) (fun c58 => ?_)
    · replace hf := ifT c58 hf
      exact L21 S55 p0 p1 p2 p0 tp0 tp0 _ _ _ hf hW hS (lv_sub hl [0, 1, 2] rfl)
    · replace hf := ifF c58 hf
      refine lv_iconst (v := 1) hx hb dX11_commonBytes_17 (by decide) ?_
      refine lv_goto (tgt := 22) hx hb dX11_commonBytes_18 (by decide) ?_
      exact L22 S55 p0 p1 p2 1 p0 tp0 tp0 _ _ _ hf hW hS (lv_sub hl [0, 1, 2] rfl)
set_option maxHeartbeats 4000000 in
set_option maxRecDepth 100000 in
theorem c_X11_enter (l : Launch) (g : GP) (ad : Nat → Nat) (n : Nat) (K : Nat → Nat) (sz F : Nat) (S0 : St) (p0 : Nat) (p1 : Int32) (p2 : Int32) (p3 : Int32) (tp0 : p0 < n ∧ K p0 = 10) (S9 : St) (hf : f_X11_enter F S0 p0 p1 p2 p3 = some S9) : Met l yX11_enter wsX11_enter { frames := 1, cells := 0, slots := 0, locals := 21 } (va_Pc [.ref (ad p0), .int p1, .int p2, .int p3] (PB g ad n K S0 sz)) (QR none (QB g ad n K S9 (dA ad n sz) (True)) (dA ad n sz)) 0 0 (dA ad n sz) := by
  refine Met.ofW (cc := cX11_enter) (maxL := 4) (ret := none) (by decide) rfl ?_
  intro p e s m args below meth c s₁ B hml hv
  obtain ⟨rfl, hsz, hW, hK, hGs⟩ := x_start hv
  subst hsz
  have hx := B.exec
  have hb := B.bytes
  have hr := B.returns
  have hts := atoms_spec (ws := wsX11_enter) B.pre
  have hown : s.vm.findClass RX11 = some m.cls := findClass_of_methodNamed B.named
  have hlk := B.notSynchronized
  have hC : Cx g p s m _ c cX11_enter RX11 wsX11_enter 4 := ⟨hx, hb, hml, hown, hts, hK⟩
  have hA : ∀ q : Nat, s.heap.size ≤ q → dA ad n s.heap.size q := fun q h => Or.inr h
  have hS : va_S (dA ad n s.heap.size) s.heap s.heap [] := va_S.rf
  have hl := lv_entry ([.ref (ad p0), .int p1, .int p2, .int p3]) (n := 4) (Nat.le_of_ble_eq_true rfl)
  rw [lg_entry_eq]
  generalize (lg_sl ([.ref (ad p0), .int p1, .int p2, .int p3]) ++ List.replicate (4 - (lg_sl ([.ref (ad p0), .int p1, .int p2, .int p3])).length) Slot.unset).toArray = ls at hl ⊢
  have hl : lv_has ls 4 [(0, .ref (ad p0)), (1, .int p1), (2, .int p2), (3, .int p3)] := hl
  have hin11 : ∀ w ∈ wsX110, w ∈ wsX11_enter := by decide +kernel
  have w_0 := hts (.fieldLink RX11 17 "MailSpoolModel" "net" "[I") (by decide +kernel)
  have hGE := hGs.2.2.2.2.2.2.1
  have hGM := hGs.2.2.2.2.2.2.2.1
  unfold f_X11_enter at hf
  refine lv_aload_n hx hb dX11_enter_0 rfl (lv_at hl 0 rfl) ?_
  replace hf := obE hf
  obtain ⟨j1, qj1, hf⟩ := hf
  have tj1 := x_rt hW qj1 12 ⟨by decide, rfl⟩
  refine x_getr 1001 (ci := 10) (C := RX11) (T := TX11) (N := 30) 1 hC hin11 hW tp0 rfl rfl ⟨by decide, by decide, rfl, rfl⟩ rfl w_0 dX11_enter_1 qj1 ?_
  refine lv_iload_n hx hb dX11_enter_4 rfl (lv_at hl 1 rfl) ?_
  refine lv_iload_n hx hb dX11_enter_5 rfl (lv_at hl 2 rfl) ?_
  replace hf := obE hf
  obtain ⟨z2, hz2, hf⟩ := hf
  obtain ⟨r4, S3⟩ := z2
  replace hf := ltE (ltE hf r4 rfl) S3 rfl
  refine x_callS (As := [.int p1, .int p2]) (rest := [.ref (ad j1)]) (o := (some (.int r4))) (S1 := S3) hC hl.1 hW hS hGs hA (c_X11_refAt l g ad n K s.heap.size F S0 p1 p2 r4 S3 hz2) (va_cwS 2 hts gX11_enter_X11_refAt rfl rfl rfl (by decide +kernel) ⟨Nat.le_of_ble_eq_true rfl, Nat.le_of_ble_eq_true rfl⟩) rfl rfl (Nat.le_of_ble_eq_true rfl) dX11_enter_6 ⟨Nat.le_of_ble_eq_true rfl, Nat.le_of_ble_eq_true rfl⟩ (fun H locs hPz2 hW hS => ?_)
  refine W.eq (g2 := F0 m 9 ls [.int r4, .ref (ad j1)]) rfl ?_
  refine lv_iconst (v := 1) hx hb dX11_enter_9 (by decide) ?_
  refine lv_iadd hx hb dX11_enter_10 ?_
  refine lv_iload_n hx hb dX11_enter_11 rfl (lv_at hl 3 rfl) ?_
  replace hf := ckiE hf
  obtain ⟨h6, hf⟩ := hf
  refine x_iast hC hW hS tj1 rfl rfl h6 dX11_enter_12 (fun S7 H locs eS7 hW hS => ?_)
  replace hf := ltE hf S7 eS7
  refine lv_aload_n hx hb dX11_enter_13 rfl (lv_at hl 0 rfl) ?_
  replace hf := obE hf
  obtain ⟨j8, qj8, hf⟩ := hf
  have tj8 := x_rt hW qj8 12 ⟨by decide, rfl⟩
  refine x_getr 1001 (ci := 10) (C := RX11) (T := TX11) (N := 30) 1 hC hin11 hW tp0 rfl rfl ⟨by decide, by decide, rfl, rfl⟩ rfl w_0 dX11_enter_14 qj8 ?_
  refine lv_iload_n hx hb dX11_enter_17 rfl (lv_at hl 1 rfl) ?_
  refine lv_iload_n hx hb dX11_enter_18 rfl (lv_at hl 2 rfl) ?_
  replace hf := obE hf
  obtain ⟨z9, hz9, hf⟩ := hf
  obtain ⟨r11, S10⟩ := z9
  replace hf := ltE (ltE hf r11 rfl) S10 rfl
  refine x_callS (As := [.int p1, .int p2]) (rest := [.ref (ad j8)]) (o := (some (.int r11))) (S1 := S10) hC hl.1 hW hS hGs hA (c_X11_refAt l g ad n K H.size F S7 p1 p2 r11 S10 hz9) (va_cwS 2 hts gX11_enter_X11_refAt rfl rfl rfl (by decide +kernel) ⟨Nat.le_of_ble_eq_true rfl, Nat.le_of_ble_eq_true rfl⟩) rfl rfl (Nat.le_of_ble_eq_true rfl) dX11_enter_19 ⟨Nat.le_of_ble_eq_true rfl, Nat.le_of_ble_eq_true rfl⟩ (fun H locs hPz9 hW hS => ?_)
  refine W.eq (g2 := F0 m 22 ls [.int r11, .ref (ad j8)]) rfl ?_
  refine lv_iconst (v := 2) hx hb dX11_enter_22 (by decide) ?_
  refine lv_iadd hx hb dX11_enter_23 ?_
  refine lv_aload_n hx hb dX11_enter_24 rfl (lv_at hl 0 rfl) ?_
  replace hf := obE hf
  obtain ⟨j13, qj13, hf⟩ := hf
  have tj13 := x_rt hW qj13 12 ⟨by decide, rfl⟩
  refine x_getr 1001 (ci := 10) (C := RX11) (T := TX11) (N := 30) 1 hC hin11 hW tp0 rfl rfl ⟨by decide, by decide, rfl, rfl⟩ rfl w_0 dX11_enter_25 qj13 ?_
  refine lv_iconst (v := 2) hx hb dX11_enter_28 (by decide) ?_
  replace hf := ckiE hf
  obtain ⟨h14, hf⟩ := hf
  refine x_iald hC hW tj13 rfl rfl h14 dX11_enter_29 ?_
  replace hf := ckiE hf
  obtain ⟨h15, hf⟩ := hf
  refine x_iast hC hW hS tj8 rfl rfl h15 dX11_enter_30 (fun S16 H locs eS16 hW hS => ?_)
  replace hf := ltE hf S16 eS16
  have e1 := Option.some.inj hf
  subst e1
  exact W.vret hx hb hr (fun t ht hWm => ⟨⟨rfl, by unfold QB; rw [ht]; exact ⟨hW, trivial⟩⟩, hS.F ht⟩) hS.2.2 dX11_enter_31 hlk
set_option maxHeartbeats 4000000 in
set_option maxRecDepth 100000 in
theorem c_X11_file (l : Launch) (g : GP) (ad : Nat → Nat) (n : Nat) (K : Nat → Nat) (sz F : Nat) (S0 : St) (p0 : Nat) (p1 : Int32) (p2 : Int32) (p3 : Int32) (tp0 : p0 < n ∧ K p0 = 10) (r9 : Int32) (S9 : St) (hf : f_X11_file F S0 p0 p1 p2 p3 = some (r9, S9)) : Met l yX11_file wsX11_file { frames := 3, cells := 0, slots := 0, locals := 68 } (va_Pc [.ref (ad p0), .int p1, .int p2, .int p3] (PB g ad n K S0 sz)) (QR (some (.int r9)) (QB g ad n K S9 (dA ad n sz) (True)) (dA ad n sz)) 0 0 (dA ad n sz) := by
  refine Met.ofW (cc := cX11_file) (maxL := 5) (ret := (some .int)) (by decide) rfl ?_
  intro p e s m args below meth c s₁ B hml hv
  obtain ⟨rfl, hsz, hW, hK, hGs⟩ := x_start hv
  subst hsz
  have hx := B.exec
  have hb := B.bytes
  have hr := B.returns
  have hts := atoms_spec (ws := wsX11_file) B.pre
  have hown : s.vm.findClass RX11 = some m.cls := findClass_of_methodNamed B.named
  have hlk := B.notSynchronized
  have hC : Cx g p s m _ c cX11_file RX11 wsX11_file 5 := ⟨hx, hb, hml, hown, hts, hK⟩
  have hA : ∀ q : Nat, s.heap.size ≤ q → dA ad n s.heap.size q := fun q h => Or.inr h
  have hS : va_S (dA ad n s.heap.size) s.heap s.heap [] := va_S.rf
  have hl := lv_entry ([.ref (ad p0), .int p1, .int p2, .int p3]) (n := 5) (Nat.le_of_ble_eq_true rfl)
  rw [lg_entry_eq]
  generalize (lg_sl ([.ref (ad p0), .int p1, .int p2, .int p3]) ++ List.replicate (5 - (lg_sl ([.ref (ad p0), .int p1, .int p2, .int p3])).length) Slot.unset).toArray = ls at hl ⊢
  have hl : lv_has ls 5 [(0, .ref (ad p0)), (1, .int p1), (2, .int p2), (3, .int p3)] := hl
  have hin11 : ∀ w ∈ wsX110, w ∈ wsX11_file := by decide +kernel
  have w_0 := hts (.fieldLink RX11 17 "MailSpoolModel" "net" "[I") (by decide +kernel)
  have hGE := hGs.2.2.2.2.2.2.1
  have hGM := hGs.2.2.2.2.2.2.2.1
  have L98 : ∀ (S0 : St) (v0 : Nat) (v1 : Int32) (v2 : Int32) (v3 : Int32) (v4 : Int32) (tv0 : v0 < n ∧ K v0 = 10) (H : Heap) (locs : List Loc) (ls : Array Slot), f_X11_file_L98 F S0 v0 v1 v2 v3 v4 = some (r9, S9) → Wb g ad n K S0 (dA ad n s.heap.size) H → va_S (dA ad n s.heap.size) s.heap H locs → lv_has ls 5 [(0, .ref (ad v0)), (1, .int v1), (2, .int v2), (3, .int v3), (4, .int v4)] → W p l e (headSpec wsX11_file { frames := 3, cells := 0, slots := 0, locals := 68 }).room s m (List.toArray [.ref (ad p0), .int p1, .int p2, .int p3]) below meth c H locs 0 0 (MQ below (QR (some (.int r9)) (QB g ad n K S9 (dA ad n s.heap.size) (True)) (dA ad n s.heap.size)) (List.toArray [.ref (ad p0), .int p1, .int p2, .int p3]) s 0 0 (dA ad n s.heap.size)) (F0 m 98 ls []) := by
    intro S0 v0 v1 v2 v3 v4 tv0 H locs ls hf hW hS hl
    unfold f_X11_file_L98 at hf
    refine lv_aload_n hx hb dX11_file_98 rfl (lv_at hl 0 rfl) ?_
    replace hf := obE hf
    obtain ⟨S10, hz9, hf⟩ := hf
    refine x_callV (As := []) (rest := []) (o := none) (S1 := S10) hC hl.1 hW hS hGs hA tv0 rfl (show vwCl[10]? = some (RX11, TX11, 30) ∧ 10 < 11 from ⟨rfl, by decide⟩) (c_X11_remember l g ad n K H.size F S0 v0 tv0 S10 hz9) (cwV 0 hts gX11_file_X11_remember rfl rfl rfl (by decide +kernel) ⟨Nat.le_of_ble_eq_true rfl, Nat.le_of_ble_eq_true rfl⟩) rfl rfl (Nat.le_of_ble_eq_true rfl) dX11_file_99 ⟨Nat.le_of_ble_eq_true rfl, Nat.le_of_ble_eq_true rfl⟩ (fun H locs hPz9 hW hS => ?_)
    refine W.eq (g2 := F0 m 102 ls []) rfl ?_
    refine lv_aload_n hx hb dX11_file_102 rfl (lv_at hl 0 rfl) ?_
    refine lv_iload_n hx hb dX11_file_103 rfl (lv_at hl 1 rfl) ?_
    refine lv_iload_n hx hb dX11_file_104 rfl (lv_at hl 2 rfl) ?_
    refine lv_iload_n hx hb dX11_file_105 rfl (lv_at hl 3 rfl) ?_
    replace hf := obE hf
    obtain ⟨S14, hz13, hf⟩ := hf
    refine x_callV (As := [.int v1, .int v2, .int v3]) (rest := []) (o := none) (S1 := S14) hC hl.1 hW hS hGs hA tv0 rfl (show vwCl[10]? = some (RX11, TX11, 30) ∧ 10 < 11 from ⟨rfl, by decide⟩) (c_X11_enter l g ad n K H.size F S10 v0 v1 v2 v3 tv0 S14 hz13) (cwV 3 hts gX11_file_X11_enter rfl rfl rfl (by decide +kernel) ⟨Nat.le_of_ble_eq_true rfl, Nat.le_of_ble_eq_true rfl⟩) rfl rfl (Nat.le_of_ble_eq_true rfl) dX11_file_106 ⟨Nat.le_of_ble_eq_true rfl, Nat.le_of_ble_eq_true rfl⟩ (fun H locs hPz13 hW hS => ?_)
    refine W.eq (g2 := F0 m 109 ls []) rfl ?_
    refine lv_iload hx hb dX11_file_109 (lv_at hl 4 rfl) ?_
    obtain ⟨e1, e2⟩ := so2 hf
    subst e1
    subst e2
    exact W.iret (v := v4) hx hb hr (fun t ht hWm => ⟨⟨rfl, by unfold QB; rw [ht]; exact ⟨hW, trivial⟩⟩, hS.F ht⟩) hS.2.2 dX11_file_111 hlk
  have L46 : ∀ (S0 : St) (v0 : Nat) (v1 : Int32) (v2 : Int32) (v3 : Int32) (s0 : Int32) (s1 : Int32) (s2 : Nat) (tv0 : v0 < n ∧ K v0 = 10) (ts2 : s2 < n ∧ K s2 = 10) (H : Heap) (locs : List Loc) (ls : Array Slot), f_X11_file_L46 F S0 v0 v1 v2 v3 s0 s1 s2 = some (r9, S9) → Wb g ad n K S0 (dA ad n s.heap.size) H → va_S (dA ad n s.heap.size) s.heap H locs → lv_has ls 5 [(0, .ref (ad v0)), (1, .int v1), (2, .int v2), (3, .int v3)] → W p l e (headSpec wsX11_file { frames := 3, cells := 0, slots := 0, locals := 68 }).room s m (List.toArray [.ref (ad p0), .int p1, .int p2, .int p3]) below meth c H locs 0 0 (MQ below (QR (some (.int r9)) (QB g ad n K S9 (dA ad n s.heap.size) (True)) (dA ad n s.heap.size)) (List.toArray [.ref (ad p0), .int p1, .int p2, .int p3]) s 0 0 (dA ad n s.heap.size)) (F0 m 46 ls [.int s0, .int s1, .ref (ad s2)]) := by
    intro S0 v0 v1 v2 v3 s0 s1 s2 tv0 ts2 H locs ls hf hW hS hl
    unfold f_X11_file_L46 at hf
    replace hf := obE hf
    obtain ⟨z39, hz39, hf⟩ := hf
    obtain ⟨r41, S40⟩ := z39
    replace hf := ltE (ltE hf r41 rfl) S40 rfl
    refine x_callV (As := [.int s1, .int s0]) (rest := []) (o := (some (.int r41))) (S1 := S40) hC hl.1 hW hS hGs hA ts2 rfl (show vwCl[10]? = some (RX11, TX11, 30) ∧ 10 < 11 from ⟨rfl, by decide⟩) (c_X11_passes2 l g ad n K H.size F S0 s2 s1 s0 ts2 r41 S40 hz39) (cwV 2 hts gX11_file_X11_passes2 rfl rfl rfl (by decide +kernel) ⟨Nat.le_of_ble_eq_true rfl, Nat.le_of_ble_eq_true rfl⟩) rfl rfl (Nat.le_of_ble_eq_true rfl) dX11_file_46 ⟨Nat.le_of_ble_eq_true rfl, Nat.le_of_ble_eq_true rfl⟩ (fun H locs hPz39 hW hS => ?_)
    refine W.eq (g2 := F0 m 49 ls [.int r41]) rfl ?_
    refine lv_if_ne (tgt := 54) hx hb dX11_file_49 (by decide) (fun c43 => ?_) (fun c43 => ?_)
    · replace hf := ifT c43 hf
      refine lv_aload_n hx hb dX11_file_54 rfl (lv_at hl 0 rfl) ?_
      replace hf := obE hf
      obtain ⟨j44, qj44, hf⟩ := hf
      have tj44 := x_rt hW qj44 12 ⟨by decide, rfl⟩
      refine x_getr 1001 (ci := 10) (C := RX11) (T := TX11) (N := 30) 1 hC hin11 hW tv0 rfl rfl ⟨by decide, by decide, rfl, rfl⟩ rfl w_0 dX11_file_55 qj44 ?_
      refine lv_iload_n hx hb dX11_file_58 rfl (lv_at hl 1 rfl) ?_
      refine lv_iload_n hx hb dX11_file_59 rfl (lv_at hl 2 rfl) ?_
      replace hf := obE hf
      obtain ⟨z45, hz45, hf⟩ := hf
      obtain ⟨r47, S46⟩ := z45
      replace hf := ltE (ltE hf r47 rfl) S46 rfl
      refine x_callS (As := [.int v1, .int v2]) (rest := [.ref (ad j44)]) (o := (some (.int r47))) (S1 := S46) hC hl.1 hW hS hGs hA (c_X11_refAt l g ad n K H.size F S40 v1 v2 r47 S46 hz45) (va_cwS 2 hts gX11_file_X11_refAt rfl rfl rfl (by decide +kernel) ⟨Nat.le_of_ble_eq_true rfl, Nat.le_of_ble_eq_true rfl⟩) rfl rfl (Nat.le_of_ble_eq_true rfl) dX11_file_60 ⟨Nat.le_of_ble_eq_true rfl, Nat.le_of_ble_eq_true rfl⟩ (fun H locs hPz45 hW hS => ?_)
      refine W.eq (g2 := F0 m 63 ls [.int r47, .ref (ad j44)]) rfl ?_
      refine lv_iconst (v := 1) hx hb dX11_file_63 (by decide) ?_
      refine lv_iadd hx hb dX11_file_64 ?_
      replace hf := ckiE hf
      obtain ⟨h49, hf⟩ := hf
      refine x_iald hC hW tj44 rfl rfl h49 dX11_file_65 ?_
      refine lv_topi (fun x50 ex50 => ?_)
      replace hf := ltE hf x50 ex50
      refine lv_istore (lv' := [(4, .int x50), (0, .ref (ad v0)), (1, .int v1), (2, .int v2), (3, .int v3)]) hx hb dX11_file_66 hl (by decide) rfl (fun ls hl => ?_)
      refine lv_iload hx hb dX11_file_68 (lv_at hl 0 rfl) ?_
      refine lv_iload_n hx hb dX11_file_70 rfl (lv_at hl 4 rfl) ?_
      refine lv_icmp_ne (tgt := 98) hx hb dX11_file_71 (by decide) (fun c51 => ?_) (fun c51 => ?_)
      · replace hf := ifT c51 hf
        exact L98 S46 v0 v1 v2 v3 x50 tv0 _ _ _ hf hW hS (lv_sub hl [1, 2, 3, 4, 0] rfl)
      · replace hf := ifF (fun q => q c51) hf
        refine lv_aload_n hx hb dX11_file_74 rfl (lv_at hl 1 rfl) ?_
        replace hf := obE hf
        obtain ⟨j52, qj52, hf⟩ := hf
        have tj52 := x_rt hW qj52 12 ⟨by decide, rfl⟩
        refine x_getr 1001 (ci := 10) (C := RX11) (T := TX11) (N := 30) 1 hC hin11 hW tv0 rfl rfl ⟨by decide, by decide, rfl, rfl⟩ rfl w_0 dX11_file_75 qj52 ?_
        refine lv_iload_n hx hb dX11_file_78 rfl (lv_at hl 2 rfl) ?_
        refine lv_iload_n hx hb dX11_file_79 rfl (lv_at hl 3 rfl) ?_
        replace hf := obE hf
        obtain ⟨z53, hz53, hf⟩ := hf
        obtain ⟨r55, S54⟩ := z53
        replace hf := ltE (ltE hf r55 rfl) S54 rfl
        refine x_callS (As := [.int v1, .int v2]) (rest := [.ref (ad j52)]) (o := (some (.int r55))) (S1 := S54) hC hl.1 hW hS hGs hA (c_X11_refAt l g ad n K H.size F S46 v1 v2 r55 S54 hz53) (va_cwS 2 hts gX11_file_X11_refAt rfl rfl rfl (by decide +kernel) ⟨Nat.le_of_ble_eq_true rfl, Nat.le_of_ble_eq_true rfl⟩) rfl rfl (Nat.le_of_ble_eq_true rfl) dX11_file_80 ⟨Nat.le_of_ble_eq_true rfl, Nat.le_of_ble_eq_true rfl⟩ (fun H locs hPz53 hW hS => ?_)
        refine W.eq (g2 := F0 m 83 ls [.int r55, .ref (ad j52)]) rfl ?_
        refine lv_iconst (v := 2) hx hb dX11_file_83 (by decide) ?_
        refine lv_iadd hx hb dX11_file_84 ?_
        replace hf := ckiE hf
        obtain ⟨h57, hf⟩ := hf
        refine x_iald hC hW tj52 rfl rfl h57 dX11_file_85 ?_
        refine lv_aload_n hx hb dX11_file_86 rfl (lv_at hl 1 rfl) ?_
        replace hf := obE hf
        obtain ⟨j58, qj58, hf⟩ := hf
        have tj58 := x_rt hW qj58 12 ⟨by decide, rfl⟩
        refine x_getr 1001 (ci := 10) (C := RX11) (T := TX11) (N := 30) 1 hC hin11 hW tv0 rfl rfl ⟨by decide, by decide, rfl, rfl⟩ rfl w_0 dX11_file_87 qj58 ?_
        refine lv_iconst (v := 2) hx hb dX11_file_90 (by decide) ?_
        replace hf := ckiE hf
        obtain ⟨h59, hf⟩ := hf
        refine x_iald hC hW tj58 rfl rfl h59 dX11_file_91 ?_
        refine lv_icmp_ne (tgt := 98) hx hb dX11_file_92 (by decide) (fun c60 => ?_) (fun c60 => ?_)
        · replace hf := ifT c60 hf
          exact L98 S54 v0 v1 v2 v3 x50 tv0 _ _ _ hf hW hS (lv_sub hl [1, 2, 3, 4, 0] rfl)
        · replace hf := ifF (fun q => q c60) hf
          refine lv_iload hx hb dX11_file_95 (lv_at hl 0 rfl) ?_
          obtain ⟨e1, e2⟩ := so2 hf
          subst e1
          subst e2
          exact W.iret (v := x50) hx hb hr (fun t ht hWm => ⟨⟨rfl, by unfold QB; rw [ht]; exact ⟨hW, trivial⟩⟩, hS.F ht⟩) hS.2.2 dX11_file_97 hlk
    · replace hf := ifF (fun q => q c43) hf
      refine lv_iconst (v := 0) hx hb dX11_file_52 (by decide) ?_
      obtain ⟨e1, e2⟩ := so2 hf
      subst e1
      subst e2
      exact W.iret (v := 0) hx hb hr (fun t ht hWm => ⟨⟨rfl, by unfold QB; rw [ht]; exact ⟨hW, trivial⟩⟩, hS.F ht⟩) hS.2.2 dX11_file_53 hlk
  have L41 : ∀ (S0 : St) (v0 : Nat) (v1 : Int32) (v2 : Int32) (v3 : Int32) (s0 : Int32) (s1 : Nat) (tv0 : v0 < n ∧ K v0 = 10) (ts1 : s1 < n ∧ K s1 = 10) (H : Heap) (locs : List Loc) (ls : Array Slot), f_X11_file_L41 F S0 v0 v1 v2 v3 s0 s1 = some (r9, S9) → Wb g ad n K S0 (dA ad n s.heap.size) H → va_S (dA ad n s.heap.size) s.heap H locs → lv_has ls 5 [(0, .ref (ad v0)), (1, .int v1), (2, .int v2), (3, .int v3)] → W p l e (headSpec wsX11_file { frames := 3, cells := 0, slots := 0, locals := 68 }).room s m (List.toArray [.ref (ad p0), .int p1, .int p2, .int p3]) below meth c H locs 0 0 (MQ below (QR (some (.int r9)) (QB g ad n K S9 (dA ad n s.heap.size) (True)) (dA ad n s.heap.size)) (List.toArray [.ref (ad p0), .int p1, .int p2, .int p3]) s 0 0 (dA ad n s.heap.size)) (F0 m 41 ls [.int s0, .ref (ad s1)]) := by
    intro S0 v0 v1 v2 v3 s0 s1 tv0 ts1 H locs ls hf hW hS hl
    unfold f_X11_file_L41 at hf
    refine lv_iconst (v := 1) hx hb dX11_file_41 (by decide) ?_
    refine lv_goto (tgt := 46) hx hb dX11_file_42 (by decide) ?_
    exact L46 S0 v0 v1 v2 v3 1 s0 s1 tv0 ts1 _ _ _ hf hW hS (lv_sub hl [0, 1, 2, 3] rfl)
  have L23 : ∀ (S0 : St) (v0 : Nat) (v1 : Int32) (v2 : Int32) (v3 : Int32) (s0 : Int32) (s1 : Nat) (tv0 : v0 < n ∧ K v0 = 10) (ts1 : s1 < n ∧ K s1 = 10) (H : Heap) (locs : List Loc) (ls : Array Slot), f_X11_file_L23 F S0 v0 v1 v2 v3 s0 s1 = some (r9, S9) → Wb g ad n K S0 (dA ad n s.heap.size) H → va_S (dA ad n s.heap.size) s.heap H locs → lv_has ls 5 [(0, .ref (ad v0)), (1, .int v1), (2, .int v2), (3, .int v3)] → W p l e (headSpec wsX11_file { frames := 3, cells := 0, slots := 0, locals := 68 }).room s m (List.toArray [.ref (ad p0), .int p1, .int p2, .int p3]) below meth c H locs 0 0 (MQ below (QR (some (.int r9)) (QB g ad n K S9 (dA ad n s.heap.size) (True)) (dA ad n s.heap.size)) (List.toArray [.ref (ad p0), .int p1, .int p2, .int p3]) s 0 0 (dA ad n s.heap.size)) (F0 m 23 ls [.int s0, .ref (ad s1)]) := by
    intro S0 v0 v1 v2 v3 s0 s1 tv0 ts1 H locs ls hf hW hS hl
    unfold f_X11_file_L23 at hf
    refine lv_aload_n hx hb dX11_file_23 rfl (lv_at hl 0 rfl) ?_
    refine lv_iload_n hx hb dX11_file_24 rfl (lv_at hl 1 rfl) ?_
    refine lv_iload_n hx hb dX11_file_25 rfl (lv_at hl 2 rfl) ?_
    replace hf := obE hf
    obtain ⟨z71, hz71, hf⟩ := hf
    obtain ⟨r73, S72⟩ := z71
    replace hf := ltE (ltE hf r73 rfl) S72 rfl
    refine x_callV (As := [.int v1, .int v2]) (rest := [.int s0, .ref (ad s1)]) (o := (some (.int r73))) (S1 := S72) hC hl.1 hW hS hGs hA tv0 rfl (show vwCl[10]? = some (RX11, TX11, 30) ∧ 10 < 11 from ⟨rfl, by decide⟩) (c_X11_isRef l g ad n K H.size F S0 v0 v1 v2 tv0 r73 S72 hz71) (cwV 2 hts gX11_file_X11_isRef rfl rfl rfl (by decide +kernel) ⟨Nat.le_of_ble_eq_true rfl, Nat.le_of_ble_eq_true rfl⟩) rfl rfl (Nat.le_of_ble_eq_true rfl) dX11_file_26 ⟨Nat.le_of_ble_eq_true rfl, Nat.le_of_ble_eq_true rfl⟩ (fun H locs hPz71 hW hS => ?_)
    refine W.eq (g2 := F0 m 29 ls [.int r73, .int s0, .ref (ad s1)]) rfl ?_
    refine lv_if_eq (tgt := 41) hx hb dX11_file_29 (by decide) (fun c75 => ?_) (fun c75 => ?_)
    · replace hf := ifT c75 hf
      exact L41 S72 v0 v1 v2 v3 s0 s1 tv0 ts1 _ _ _ hf hW hS (lv_sub hl [0, 1, 2, 3] rfl)
    · replace hf := ifF c75 hf
      refine lv_aload_n hx hb dX11_file_32 rfl (lv_at hl 0 rfl) ?_
      refine lv_iload_n hx hb dX11_file_33 rfl (lv_at hl 1 rfl) ?_
      refine lv_iload_n hx hb dX11_file_34 rfl (lv_at hl 2 rfl) ?_
      replace hf := obE hf
      obtain ⟨z76, hz76, hf⟩ := hf
      obtain ⟨r78, S77⟩ := z76
      replace hf := ltE (ltE hf r78 rfl) S77 rfl
      refine x_callV (As := [.int v1, .int v2]) (rest := [.int s0, .ref (ad s1)]) (o := (some (.int r78))) (S1 := S77) hC hl.1 hW hS hGs hA tv0 rfl (show vwCl[10]? = some (RX11, TX11, 30) ∧ 10 < 11 from ⟨rfl, by decide⟩) (c_X11_isLive l g ad n K H.size F S72 v0 v1 v2 tv0 r78 S77 hz76) (cwV 2 hts gX11_file_X11_isLive rfl rfl rfl (by decide +kernel) ⟨Nat.le_of_ble_eq_true rfl, Nat.le_of_ble_eq_true rfl⟩) rfl rfl (Nat.le_of_ble_eq_true rfl) dX11_file_35 ⟨Nat.le_of_ble_eq_true rfl, Nat.le_of_ble_eq_true rfl⟩ (fun H locs hPz76 hW hS => ?_)
      refine W.eq (g2 := F0 m 38 ls [.int r78, .int s0, .ref (ad s1)]) rfl ?_
      refine lv_if_eq (tgt := 45) hx hb dX11_file_38 (by decide) (fun c80 => ?_) (fun c80 => ?_)
      · replace hf := ifT c80 hf
        refine lv_iconst (v := 0) hx hb dX11_file_45 (by decide) ?_
        exact L46 S77 v0 v1 v2 v3 0 s0 s1 tv0 ts1 _ _ _ hf hW hS (lv_sub hl [0, 1, 2, 3] rfl)
      · replace hf := ifF c80 hf
        exact L41 S77 v0 v1 v2 v3 s0 s1 tv0 ts1 _ _ _ hf hW hS (lv_sub hl [0, 1, 2, 3] rfl)
  have L22 : ∀ (S0 : St) (v0 : Nat) (v1 : Int32) (v2 : Int32) (v3 : Int32) (s0 : Nat) (tv0 : v0 < n ∧ K v0 = 10) (ts0 : s0 < n ∧ K s0 = 10) (H : Heap) (locs : List Loc) (ls : Array Slot), f_X11_file_L22 F S0 v0 v1 v2 v3 s0 = some (r9, S9) → Wb g ad n K S0 (dA ad n s.heap.size) H → va_S (dA ad n s.heap.size) s.heap H locs → lv_has ls 5 [(0, .ref (ad v0)), (1, .int v1), (2, .int v2), (3, .int v3)] → W p l e (headSpec wsX11_file { frames := 3, cells := 0, slots := 0, locals := 68 }).room s m (List.toArray [.ref (ad p0), .int p1, .int p2, .int p3]) below meth c H locs 0 0 (MQ below (QR (some (.int r9)) (QB g ad n K S9 (dA ad n s.heap.size) (True)) (dA ad n s.heap.size)) (List.toArray [.ref (ad p0), .int p1, .int p2, .int p3]) s 0 0 (dA ad n s.heap.size)) (F0 m 22 ls [.ref (ad s0)]) := by
    intro S0 v0 v1 v2 v3 s0 tv0 ts0 H locs ls hf hW hS hl
    unfold f_X11_file_L22 at hf
    refine lv_iconst (v := 0) hx hb dX11_file_22 (by decide) ?_
    exact L23 S0 v0 v1 v2 v3 0 s0 tv0 ts0 _ _ _ hf hW hS (lv_sub hl [0, 1, 2, 3] rfl)
  unfold f_X11_file at hf
  refine lv_aload_n hx hb dX11_file_0 rfl (lv_at hl 0 rfl) ?_
  refine lv_aload_n hx hb dX11_file_1 rfl (lv_at hl 0 rfl) ?_
  refine lv_iload_n hx hb dX11_file_2 rfl (lv_at hl 3 rfl) ?_
  replace hf := obE hf
  obtain ⟨z81, hz81, hf⟩ := hf
  obtain ⟨r83, S82⟩ := z81
  replace hf := ltE (ltE hf r83 rfl) S82 rfl
  refine x_callV (As := [.int p3]) (rest := [.ref (ad p0)]) (o := (some (.int r83))) (S1 := S82) hC hl.1 hW hS hGs hA tp0 rfl (show vwCl[10]? = some (RX11, TX11, 30) ∧ 10 < 11 from ⟨rfl, by decide⟩) (c_X11_isClass l g ad n K s.heap.size F S0 p0 p3 tp0 r83 S82 hz81) (cwV 1 hts gX11_file_X11_isClass rfl rfl rfl (by decide +kernel) ⟨Nat.le_of_ble_eq_true rfl, Nat.le_of_ble_eq_true rfl⟩) rfl rfl (Nat.le_of_ble_eq_true rfl) dX11_file_3 ⟨Nat.le_of_ble_eq_true rfl, Nat.le_of_ble_eq_true rfl⟩ (fun H locs hPz81 hW hS => ?_)
  refine W.eq (g2 := F0 m 6 ls [.int r83, .ref (ad p0)]) rfl ?_
  refine lv_if_eq (tgt := 22) hx hb dX11_file_6 (by decide) (fun c85 => ?_) (fun c85 => ?_)
  · replace hf := ifT c85 hf
    exact L22 S82 p0 p1 p2 p3 p0 tp0 tp0 _ _ _ hf hW hS (lv_sub hl [0, 1, 2, 3] rfl)
  · replace hf := ifF c85 hf
    refine lv_aload_n hx hb dX11_file_9 rfl (lv_at hl 0 rfl) ?_
    refine lv_iload_n hx hb dX11_file_10 rfl (lv_at hl 1 rfl) ?_
    refine lv_iload_n hx hb dX11_file_11 rfl (lv_at hl 2 rfl) ?_
    replace hf := obE hf
    obtain ⟨z86, hz86, hf⟩ := hf
    obtain ⟨r88, S87⟩ := z86
    replace hf := ltE (ltE hf r88 rfl) S87 rfl
    refine x_callV (As := [.int p1, .int p2]) (rest := [.ref (ad p0)]) (o := (some (.int r88))) (S1 := S87) hC hl.1 hW hS hGs hA tp0 rfl (show vwCl[10]? = some (RX11, TX11, 30) ∧ 10 < 11 from ⟨rfl, by decide⟩) (c_X11_isRef l g ad n K H.size F S82 p0 p1 p2 tp0 r88 S87 hz86) (cwV 2 hts gX11_file_X11_isRef rfl rfl rfl (by decide +kernel) ⟨Nat.le_of_ble_eq_true rfl, Nat.le_of_ble_eq_true rfl⟩) rfl rfl (Nat.le_of_ble_eq_true rfl) dX11_file_12 ⟨Nat.le_of_ble_eq_true rfl, Nat.le_of_ble_eq_true rfl⟩ (fun H locs hPz86 hW hS => ?_)
    refine W.eq (g2 := F0 m 15 ls [.int r88, .ref (ad p0)]) rfl ?_
    refine lv_if_eq (tgt := 22) hx hb dX11_file_15 (by decide) (fun c90 => ?_) (fun c90 => ?_)
    · replace hf := ifT c90 hf
      exact L22 S87 p0 p1 p2 p3 p0 tp0 tp0 _ _ _ hf hW hS (lv_sub hl [0, 1, 2, 3] rfl)
    · replace hf := ifF c90 hf
      refine lv_iconst (v := 1) hx hb dX11_file_18 (by decide) ?_
      refine lv_goto (tgt := 23) hx hb dX11_file_19 (by decide) ?_
      exact L23 S87 p0 p1 p2 p3 1 p0 tp0 tp0 _ _ _ hf hW hS (lv_sub hl [0, 1, 2, 3] rfl)
set_option maxHeartbeats 4000000 in
set_option maxRecDepth 100000 in
theorem c_X11_delete (l : Launch) (g : GP) (ad : Nat → Nat) (n : Nat) (K : Nat → Nat) (sz F : Nat) (S0 : St) (p0 : Nat) (p1 : Int32) (p2 : Int32) (tp0 : p0 < n ∧ K p0 = 10) (r9 : Int32) (S9 : St) (hf : f_X11_delete F S0 p0 p1 p2 = some (r9, S9)) : Met l yX11_delete wsX11_delete { frames := 7, cells := 0, slots := 0, locals := 167 } (va_Pc [.ref (ad p0), .int p1, .int p2] (PB g ad n K S0 sz)) (QR (some (.int r9)) (QB g ad n K S9 (dA ad n sz) (True)) (dA ad n sz)) 0 0 (dA ad n sz) := by
  refine Met.ofW (cc := cX11_delete) (maxL := 3) (ret := (some .int)) (by decide) rfl ?_
  intro p e s m args below meth c s₁ B hml hv
  obtain ⟨rfl, hsz, hW, hK, hGs⟩ := x_start hv
  subst hsz
  have hx := B.exec
  have hb := B.bytes
  have hr := B.returns
  have hts := atoms_spec (ws := wsX11_delete) B.pre
  have hown : s.vm.findClass RX11 = some m.cls := findClass_of_methodNamed B.named
  have hlk := B.notSynchronized
  have hC : Cx g p s m _ c cX11_delete RX11 wsX11_delete 3 := ⟨hx, hb, hml, hown, hts, hK⟩
  have hA : ∀ q : Nat, s.heap.size ≤ q → dA ad n s.heap.size q := fun q h => Or.inr h
  have hS : va_S (dA ad n s.heap.size) s.heap s.heap [] := va_S.rf
  have hl := lv_entry ([.ref (ad p0), .int p1, .int p2]) (n := 3) (Nat.le_of_ble_eq_true rfl)
  rw [lg_entry_eq]
  generalize (lg_sl ([.ref (ad p0), .int p1, .int p2]) ++ List.replicate (3 - (lg_sl ([.ref (ad p0), .int p1, .int p2])).length) Slot.unset).toArray = ls at hl ⊢
  have hl : lv_has ls 3 [(0, .ref (ad p0)), (1, .int p1), (2, .int p2)] := hl
  have hGE := hGs.2.2.2.2.2.2.1
  have hGM := hGs.2.2.2.2.2.2.2.1
  have L30 : ∀ (S0 : St) (v0 : Nat) (v1 : Int32) (v2 : Int32) (s0 : Int32) (s1 : Int32) (s2 : Nat) (tv0 : v0 < n ∧ K v0 = 10) (ts2 : s2 < n ∧ K s2 = 10) (H : Heap) (locs : List Loc) (ls : Array Slot), f_X11_delete_L30 F S0 v0 v1 v2 s0 s1 s2 = some (r9, S9) → Wb g ad n K S0 (dA ad n s.heap.size) H → va_S (dA ad n s.heap.size) s.heap H locs → lv_has ls 3 [(0, .ref (ad v0)), (1, .int v1), (2, .int v2)] → W p l e (headSpec wsX11_delete { frames := 7, cells := 0, slots := 0, locals := 167 }).room s m (List.toArray [.ref (ad p0), .int p1, .int p2]) below meth c H locs 0 0 (MQ below (QR (some (.int r9)) (QB g ad n K S9 (dA ad n s.heap.size) (True)) (dA ad n s.heap.size)) (List.toArray [.ref (ad p0), .int p1, .int p2]) s 0 0 (dA ad n s.heap.size)) (F0 m 30 ls [.int s0, .int s1, .ref (ad s2)]) := by
    intro S0 v0 v1 v2 s0 s1 s2 tv0 ts2 H locs ls hf hW hS hl
    unfold f_X11_delete_L30 at hf
    replace hf := obE hf
    obtain ⟨z14, hz14, hf⟩ := hf
    obtain ⟨r16, S15⟩ := z14
    replace hf := ltE (ltE hf r16 rfl) S15 rfl
    refine x_callV (As := [.int s1, .int s0]) (rest := []) (o := (some (.int r16))) (S1 := S15) hC hl.1 hW hS hGs hA ts2 rfl (show vwCl[10]? = some (RX11, TX11, 30) ∧ 10 < 11 from ⟨rfl, by decide⟩) (c_X11_passes2 l g ad n K H.size F S0 s2 s1 s0 ts2 r16 S15 hz14) (cwV 2 hts gX11_delete_X11_passes2 rfl rfl rfl (by decide +kernel) ⟨Nat.le_of_ble_eq_true rfl, Nat.le_of_ble_eq_true rfl⟩) rfl rfl (Nat.le_of_ble_eq_true rfl) dX11_delete_30 ⟨Nat.le_of_ble_eq_true rfl, Nat.le_of_ble_eq_true rfl⟩ (fun H locs hPz14 hW hS => ?_)
    refine W.eq (g2 := F0 m 33 ls [.int r16]) rfl ?_
    refine lv_if_ne (tgt := 38) hx hb dX11_delete_33 (by decide) (fun c18 => ?_) (fun c18 => ?_)
    · replace hf := ifT c18 hf
      refine lv_aload_n hx hb dX11_delete_38 rfl (lv_at hl 0 rfl) ?_
      replace hf := obE hf
      obtain ⟨S20, hz19, hf⟩ := hf
      refine x_callV (As := []) (rest := []) (o := none) (S1 := S20) hC hl.1 hW hS hGs hA tv0 rfl (show vwCl[10]? = some (RX11, TX11, 30) ∧ 10 < 11 from ⟨rfl, by decide⟩) (c_X11_remember l g ad n K H.size F S15 v0 tv0 S20 hz19) (cwV 0 hts gX11_delete_X11_remember rfl rfl rfl (by decide +kernel) ⟨Nat.le_of_ble_eq_true rfl, Nat.le_of_ble_eq_true rfl⟩) rfl rfl (Nat.le_of_ble_eq_true rfl) dX11_delete_39 ⟨Nat.le_of_ble_eq_true rfl, Nat.le_of_ble_eq_true rfl⟩ (fun H locs hPz19 hW hS => ?_)
      refine W.eq (g2 := F0 m 42 ls []) rfl ?_
      refine lv_aload_n hx hb dX11_delete_42 rfl (lv_at hl 0 rfl) ?_
      refine lv_iload_n hx hb dX11_delete_43 rfl (lv_at hl 1 rfl) ?_
      refine lv_iload_n hx hb dX11_delete_44 rfl (lv_at hl 2 rfl) ?_
      refine lv_iconst (v := 1) hx hb dX11_delete_45 (by decide) ?_
      replace hf := obE hf
      obtain ⟨z23, hz23, hf⟩ := hf
      obtain ⟨r25, S24⟩ := z23
      replace hf := ltE (ltE hf r25 rfl) S24 rfl
      refine x_callV (As := [.int v1, .int v2, .int 1]) (rest := []) (o := (some (.int r25))) (S1 := S24) hC hl.1 hW hS hGs hA tv0 rfl (show vwCl[10]? = some (RX11, TX11, 30) ∧ 10 < 11 from ⟨rfl, by decide⟩) (c_X11_ceases l g ad n K H.size F S20 v0 v1 v2 ((1 : Int32)) tv0 r25 S24 hz23) (cwV 3 hts gX11_delete_X11_ceases rfl rfl rfl (by decide +kernel) ⟨Nat.le_of_ble_eq_true rfl, Nat.le_of_ble_eq_true rfl⟩) rfl rfl (Nat.le_of_ble_eq_true rfl) dX11_delete_46 ⟨Nat.le_of_ble_eq_true rfl, Nat.le_of_ble_eq_true rfl⟩ (fun H locs hPz23 hW hS => ?_)
      refine W.eq (g2 := F0 m 49 ls [.int r25]) rfl ?_
      obtain ⟨e1, e2⟩ := so2 hf
      subst e1
      subst e2
      exact W.iret (v := r25) hx hb hr (fun t ht hWm => ⟨⟨rfl, by unfold QB; rw [ht]; exact ⟨hW, trivial⟩⟩, hS.F ht⟩) hS.2.2 dX11_delete_49 hlk
    · replace hf := ifF (fun q => q c18) hf
      refine lv_iconst (v := 0) hx hb dX11_delete_36 (by decide) ?_
      obtain ⟨e1, e2⟩ := so2 hf
      subst e1
      subst e2
      exact W.iret (v := 0) hx hb hr (fun t ht hWm => ⟨⟨rfl, by unfold QB; rw [ht]; exact ⟨hW, trivial⟩⟩, hS.F ht⟩) hS.2.2 dX11_delete_37 hlk
  have L25 : ∀ (S0 : St) (v0 : Nat) (v1 : Int32) (v2 : Int32) (s0 : Int32) (s1 : Nat) (tv0 : v0 < n ∧ K v0 = 10) (ts1 : s1 < n ∧ K s1 = 10) (H : Heap) (locs : List Loc) (ls : Array Slot), f_X11_delete_L25 F S0 v0 v1 v2 s0 s1 = some (r9, S9) → Wb g ad n K S0 (dA ad n s.heap.size) H → va_S (dA ad n s.heap.size) s.heap H locs → lv_has ls 3 [(0, .ref (ad v0)), (1, .int v1), (2, .int v2)] → W p l e (headSpec wsX11_delete { frames := 7, cells := 0, slots := 0, locals := 167 }).room s m (List.toArray [.ref (ad p0), .int p1, .int p2]) below meth c H locs 0 0 (MQ below (QR (some (.int r9)) (QB g ad n K S9 (dA ad n s.heap.size) (True)) (dA ad n s.heap.size)) (List.toArray [.ref (ad p0), .int p1, .int p2]) s 0 0 (dA ad n s.heap.size)) (F0 m 25 ls [.int s0, .ref (ad s1)]) := by
    intro S0 v0 v1 v2 s0 s1 tv0 ts1 H locs ls hf hW hS hl
    unfold f_X11_delete_L25 at hf
    refine lv_iconst (v := 1) hx hb dX11_delete_25 (by decide) ?_
    refine lv_goto (tgt := 30) hx hb dX11_delete_26 (by decide) ?_
    exact L30 S0 v0 v1 v2 1 s0 s1 tv0 ts1 _ _ _ hf hW hS (lv_sub hl [0, 1, 2] rfl)
  unfold f_X11_delete at hf
  refine lv_aload_n hx hb dX11_delete_0 rfl (lv_at hl 0 rfl) ?_
  refine lv_aload_n hx hb dX11_delete_1 rfl (lv_at hl 0 rfl) ?_
  refine lv_iload_n hx hb dX11_delete_2 rfl (lv_at hl 1 rfl) ?_
  refine lv_iload_n hx hb dX11_delete_3 rfl (lv_at hl 2 rfl) ?_
  replace hf := obE hf
  obtain ⟨z27, hz27, hf⟩ := hf
  obtain ⟨r29, S28⟩ := z27
  replace hf := ltE (ltE hf r29 rfl) S28 rfl
  refine x_callV (As := [.int p1, .int p2]) (rest := [.ref (ad p0)]) (o := (some (.int r29))) (S1 := S28) hC hl.1 hW hS hGs hA tp0 rfl (show vwCl[10]? = some (RX11, TX11, 30) ∧ 10 < 11 from ⟨rfl, by decide⟩) (c_X11_isRef l g ad n K s.heap.size F S0 p0 p1 p2 tp0 r29 S28 hz27) (cwV 2 hts gX11_delete_X11_isRef rfl rfl rfl (by decide +kernel) ⟨Nat.le_of_ble_eq_true rfl, Nat.le_of_ble_eq_true rfl⟩) rfl rfl (Nat.le_of_ble_eq_true rfl) dX11_delete_4 ⟨Nat.le_of_ble_eq_true rfl, Nat.le_of_ble_eq_true rfl⟩ (fun H locs hPz27 hW hS => ?_)
  refine W.eq (g2 := F0 m 7 ls [.int r29, .ref (ad p0)]) rfl ?_
  refine lv_aload_n hx hb dX11_delete_7 rfl (lv_at hl 0 rfl) ?_
  refine lv_iload_n hx hb dX11_delete_8 rfl (lv_at hl 1 rfl) ?_
  refine lv_iload_n hx hb dX11_delete_9 rfl (lv_at hl 2 rfl) ?_
  replace hf := obE hf
  obtain ⟨z31, hz31, hf⟩ := hf
  obtain ⟨r33, S32⟩ := z31
  replace hf := ltE (ltE hf r33 rfl) S32 rfl
  refine x_callV (As := [.int p1, .int p2]) (rest := [.int r29, .ref (ad p0)]) (o := (some (.int r33))) (S1 := S32) hC hl.1 hW hS hGs hA tp0 rfl (show vwCl[10]? = some (RX11, TX11, 30) ∧ 10 < 11 from ⟨rfl, by decide⟩) (c_X11_isRef l g ad n K H.size F S28 p0 p1 p2 tp0 r33 S32 hz31) (cwV 2 hts gX11_delete_X11_isRef rfl rfl rfl (by decide +kernel) ⟨Nat.le_of_ble_eq_true rfl, Nat.le_of_ble_eq_true rfl⟩) rfl rfl (Nat.le_of_ble_eq_true rfl) dX11_delete_10 ⟨Nat.le_of_ble_eq_true rfl, Nat.le_of_ble_eq_true rfl⟩ (fun H locs hPz31 hW hS => ?_)
  refine W.eq (g2 := F0 m 13 ls [.int r33, .int r29, .ref (ad p0)]) rfl ?_
  refine lv_if_eq (tgt := 25) hx hb dX11_delete_13 (by decide) (fun c35 => ?_) (fun c35 => ?_)
  · replace hf := ifT c35 hf
    exact L25 S32 p0 p1 p2 r29 p0 tp0 tp0 _ _ _ hf hW hS (lv_sub hl [0, 1, 2] rfl)
  · replace hf := ifF c35 hf
    refine lv_aload_n hx hb dX11_delete_16 rfl (lv_at hl 0 rfl) ?_
    refine lv_iload_n hx hb dX11_delete_17 rfl (lv_at hl 1 rfl) ?_
    refine lv_iload_n hx hb dX11_delete_18 rfl (lv_at hl 2 rfl) ?_
    replace hf := obE hf
    obtain ⟨z36, hz36, hf⟩ := hf
    obtain ⟨r38, S37⟩ := z36
    replace hf := ltE (ltE hf r38 rfl) S37 rfl
    refine x_callV (As := [.int p1, .int p2]) (rest := [.int r29, .ref (ad p0)]) (o := (some (.int r38))) (S1 := S37) hC hl.1 hW hS hGs hA tp0 rfl (show vwCl[10]? = some (RX11, TX11, 30) ∧ 10 < 11 from ⟨rfl, by decide⟩) (c_X11_isLive l g ad n K H.size F S32 p0 p1 p2 tp0 r38 S37 hz36) (cwV 2 hts gX11_delete_X11_isLive rfl rfl rfl (by decide +kernel) ⟨Nat.le_of_ble_eq_true rfl, Nat.le_of_ble_eq_true rfl⟩) rfl rfl (Nat.le_of_ble_eq_true rfl) dX11_delete_19 ⟨Nat.le_of_ble_eq_true rfl, Nat.le_of_ble_eq_true rfl⟩ (fun H locs hPz36 hW hS => ?_)
    refine W.eq (g2 := F0 m 22 ls [.int r38, .int r29, .ref (ad p0)]) rfl ?_
    refine lv_if_eq (tgt := 29) hx hb dX11_delete_22 (by decide) (fun c40 => ?_) (fun c40 => ?_)
    · replace hf := ifT c40 hf
      refine lv_iconst (v := 0) hx hb dX11_delete_29 (by decide) ?_
      exact L30 S37 p0 p1 p2 0 r29 p0 tp0 tp0 _ _ _ hf hW hS (lv_sub hl [0, 1, 2] rfl)
    · replace hf := ifF c40 hf
      exact L25 S37 p0 p1 p2 r29 p0 tp0 tp0 _ _ _ hf hW hS (lv_sub hl [0, 1, 2] rfl)
set_option maxHeartbeats 4000000 in
set_option maxRecDepth 100000 in
theorem c_X11_recover (l : Launch) (g : GP) (ad : Nat → Nat) (n : Nat) (K : Nat → Nat) (sz F : Nat) (S0 : St) (p0 : Nat) (p1 : Int32) (p2 : Int32) (tp0 : p0 < n ∧ K p0 = 10) (r9 : Int32) (S9 : St) (hf : f_X11_recover F S0 p0 p1 p2 = some (r9, S9)) : Met l yX11_recover wsX11_recover { frames := 3, cells := 0, slots := 0, locals := 68 } (va_Pc [.ref (ad p0), .int p1, .int p2] (PB g ad n K S0 sz)) (QR (some (.int r9)) (QB g ad n K S9 (dA ad n sz) (True)) (dA ad n sz)) 0 0 (dA ad n sz) := by
  refine Met.ofW (cc := cX11_recover) (maxL := 4) (ret := (some .int)) (by decide) rfl ?_
  intro p e s m args below meth c s₁ B hml hv
  obtain ⟨rfl, hsz, hW, hK, hGs⟩ := x_start hv
  subst hsz
  have hx := B.exec
  have hb := B.bytes
  have hr := B.returns
  have hts := atoms_spec (ws := wsX11_recover) B.pre
  have hown : s.vm.findClass RX11 = some m.cls := findClass_of_methodNamed B.named
  have hlk := B.notSynchronized
  have hC : Cx g p s m _ c cX11_recover RX11 wsX11_recover 4 := ⟨hx, hb, hml, hown, hts, hK⟩
  have hA : ∀ q : Nat, s.heap.size ≤ q → dA ad n s.heap.size q := fun q h => Or.inr h
  have hS : va_S (dA ad n s.heap.size) s.heap s.heap [] := va_S.rf
  have hl := lv_entry ([.ref (ad p0), .int p1, .int p2]) (n := 4) (Nat.le_of_ble_eq_true rfl)
  rw [lg_entry_eq]
  generalize (lg_sl ([.ref (ad p0), .int p1, .int p2]) ++ List.replicate (4 - (lg_sl ([.ref (ad p0), .int p1, .int p2])).length) Slot.unset).toArray = ls at hl ⊢
  have hl : lv_has ls 4 [(0, .ref (ad p0)), (1, .int p1), (2, .int p2)] := hl
  have hin11 : ∀ w ∈ wsX110, w ∈ wsX11_recover := by decide +kernel
  have w_0 := hts (.fieldLink RX11 17 "MailSpoolModel" "net" "[I") (by decide +kernel)
  have hGE := hGs.2.2.2.2.2.2.1
  have hGM := hGs.2.2.2.2.2.2.2.1
  have L30 : ∀ (S0 : St) (v0 : Nat) (v1 : Int32) (v2 : Int32) (s0 : Int32) (s1 : Int32) (s2 : Nat) (tv0 : v0 < n ∧ K v0 = 10) (ts2 : s2 < n ∧ K s2 = 10) (H : Heap) (locs : List Loc) (ls : Array Slot), f_X11_recover_L30 F S0 v0 v1 v2 s0 s1 s2 = some (r9, S9) → Wb g ad n K S0 (dA ad n s.heap.size) H → va_S (dA ad n s.heap.size) s.heap H locs → lv_has ls 4 [(0, .ref (ad v0)), (1, .int v1), (2, .int v2)] → W p l e (headSpec wsX11_recover { frames := 3, cells := 0, slots := 0, locals := 68 }).room s m (List.toArray [.ref (ad p0), .int p1, .int p2]) below meth c H locs 0 0 (MQ below (QR (some (.int r9)) (QB g ad n K S9 (dA ad n s.heap.size) (True)) (dA ad n s.heap.size)) (List.toArray [.ref (ad p0), .int p1, .int p2]) s 0 0 (dA ad n s.heap.size)) (F0 m 30 ls [.int s0, .int s1, .ref (ad s2)]) := by
    intro S0 v0 v1 v2 s0 s1 s2 tv0 ts2 H locs ls hf hW hS hl
    unfold f_X11_recover_L30 at hf
    replace hf := obE hf
    obtain ⟨z30, hz30, hf⟩ := hf
    obtain ⟨r32, S31⟩ := z30
    replace hf := ltE (ltE hf r32 rfl) S31 rfl
    refine x_callV (As := [.int s1, .int s0]) (rest := []) (o := (some (.int r32))) (S1 := S31) hC hl.1 hW hS hGs hA ts2 rfl (show vwCl[10]? = some (RX11, TX11, 30) ∧ 10 < 11 from ⟨rfl, by decide⟩) (c_X11_passes2 l g ad n K H.size F S0 s2 s1 s0 ts2 r32 S31 hz30) (cwV 2 hts gX11_recover_X11_passes2 rfl rfl rfl (by decide +kernel) ⟨Nat.le_of_ble_eq_true rfl, Nat.le_of_ble_eq_true rfl⟩) rfl rfl (Nat.le_of_ble_eq_true rfl) dX11_recover_30 ⟨Nat.le_of_ble_eq_true rfl, Nat.le_of_ble_eq_true rfl⟩ (fun H locs hPz30 hW hS => ?_)
    refine W.eq (g2 := F0 m 33 ls [.int r32]) rfl ?_
    refine lv_if_ne (tgt := 38) hx hb dX11_recover_33 (by decide) (fun c34 => ?_) (fun c34 => ?_)
    · replace hf := ifT c34 hf
      refine lv_aload_n hx hb dX11_recover_38 rfl (lv_at hl 0 rfl) ?_
      replace hf := obE hf
      obtain ⟨S36, hz35, hf⟩ := hf
      refine x_callV (As := []) (rest := []) (o := none) (S1 := S36) hC hl.1 hW hS hGs hA tv0 rfl (show vwCl[10]? = some (RX11, TX11, 30) ∧ 10 < 11 from ⟨rfl, by decide⟩) (c_X11_remember l g ad n K H.size F S31 v0 tv0 S36 hz35) (cwV 0 hts gX11_recover_X11_remember rfl rfl rfl (by decide +kernel) ⟨Nat.le_of_ble_eq_true rfl, Nat.le_of_ble_eq_true rfl⟩) rfl rfl (Nat.le_of_ble_eq_true rfl) dX11_recover_39 ⟨Nat.le_of_ble_eq_true rfl, Nat.le_of_ble_eq_true rfl⟩ (fun H locs hPz35 hW hS => ?_)
      refine W.eq (g2 := F0 m 42 ls []) rfl ?_
      refine lv_aload_n hx hb dX11_recover_42 rfl (lv_at hl 0 rfl) ?_
      refine lv_iload_n hx hb dX11_recover_43 rfl (lv_at hl 1 rfl) ?_
      refine lv_iload_n hx hb dX11_recover_44 rfl (lv_at hl 2 rfl) ?_
      replace hf := obE hf
      obtain ⟨z39, hz39, hf⟩ := hf
      obtain ⟨r41, S40⟩ := z39
      replace hf := ltE (ltE hf r41 rfl) S40 rfl
      refine x_callV (As := [.int v1, .int v2]) (rest := []) (o := (some (.int r41))) (S1 := S40) hC hl.1 hW hS hGs hA tv0 rfl (show vwCl[10]? = some (RX11, TX11, 30) ∧ 10 < 11 from ⟨rfl, by decide⟩) (c_X11_stateOf l g ad n K H.size F S36 v0 v1 v2 tv0 r41 S40 hz39) (cwV 2 hts gX11_recover_X11_stateOf rfl rfl rfl (by decide +kernel) ⟨Nat.le_of_ble_eq_true rfl, Nat.le_of_ble_eq_true rfl⟩) rfl rfl (Nat.le_of_ble_eq_true rfl) dX11_recover_45 ⟨Nat.le_of_ble_eq_true rfl, Nat.le_of_ble_eq_true rfl⟩ (fun H locs hPz39 hW hS => ?_)
      refine W.eq (g2 := F0 m 48 ls [.int r41]) rfl ?_
      refine lv_istore_n (lv' := [(3, .int r41), (0, .ref (ad v0)), (1, .int v1), (2, .int v2)]) hx hb dX11_recover_48 rfl hl (by decide) rfl (fun ls hl => ?_)
      refine lv_aload_n hx hb dX11_recover_49 rfl (lv_at hl 1 rfl) ?_
      replace hf := obE hf
      obtain ⟨j43, qj43, hf⟩ := hf
      have tj43 := x_rt hW qj43 12 ⟨by decide, rfl⟩
      refine x_getr 1001 (ci := 10) (C := RX11) (T := TX11) (N := 30) 1 hC hin11 hW tv0 rfl rfl ⟨by decide, by decide, rfl, rfl⟩ rfl w_0 dX11_recover_50 qj43 ?_
      refine lv_iload_n hx hb dX11_recover_53 rfl (lv_at hl 2 rfl) ?_
      refine lv_iload_n hx hb dX11_recover_54 rfl (lv_at hl 3 rfl) ?_
      replace hf := obE hf
      obtain ⟨z44, hz44, hf⟩ := hf
      obtain ⟨r46, S45⟩ := z44
      replace hf := ltE (ltE hf r46 rfl) S45 rfl
      refine x_callS (As := [.int v1, .int v2]) (rest := [.ref (ad j43)]) (o := (some (.int r46))) (S1 := S45) hC hl.1 hW hS hGs hA (c_X11_refAt l g ad n K H.size F S40 v1 v2 r46 S45 hz44) (va_cwS 2 hts gX11_recover_X11_refAt rfl rfl rfl (by decide +kernel) ⟨Nat.le_of_ble_eq_true rfl, Nat.le_of_ble_eq_true rfl⟩) rfl rfl (Nat.le_of_ble_eq_true rfl) dX11_recover_55 ⟨Nat.le_of_ble_eq_true rfl, Nat.le_of_ble_eq_true rfl⟩ (fun H locs hPz44 hW hS => ?_)
      refine W.eq (g2 := F0 m 58 ls [.int r46, .ref (ad j43)]) rfl ?_
      refine lv_iconst (v := 0) hx hb dX11_recover_58 (by decide) ?_
      refine lv_iadd hx hb dX11_recover_59 ?_
      refine lv_iconst (v := 0) hx hb dX11_recover_60 (by decide) ?_
      replace hf := ckiE hf
      obtain ⟨h48, hf⟩ := hf
      refine x_iast hC hW hS tj43 rfl rfl h48 dX11_recover_61 (fun S49 H locs eS49 hW hS => ?_)
      replace hf := ltE hf S49 eS49
      refine lv_aload_n hx hb dX11_recover_62 rfl (lv_at hl 1 rfl) ?_
      replace hf := obE hf
      obtain ⟨j50, qj50, hf⟩ := hf
      have tj50 := x_rt hW qj50 12 ⟨by decide, rfl⟩
      refine x_getr 1001 (ci := 10) (C := RX11) (T := TX11) (N := 30) 1 hC hin11 hW tv0 rfl rfl ⟨by decide, by decide, rfl, rfl⟩ rfl w_0 dX11_recover_63 qj50 ?_
      refine lv_iload_n hx hb dX11_recover_66 rfl (lv_at hl 2 rfl) ?_
      refine lv_iload_n hx hb dX11_recover_67 rfl (lv_at hl 3 rfl) ?_
      replace hf := obE hf
      obtain ⟨z51, hz51, hf⟩ := hf
      obtain ⟨r53, S52⟩ := z51
      replace hf := ltE (ltE hf r53 rfl) S52 rfl
      refine x_callS (As := [.int v1, .int v2]) (rest := [.ref (ad j50)]) (o := (some (.int r53))) (S1 := S52) hC hl.1 hW hS hGs hA (c_X11_refAt l g ad n K H.size F S49 v1 v2 r53 S52 hz51) (va_cwS 2 hts gX11_recover_X11_refAt rfl rfl rfl (by decide +kernel) ⟨Nat.le_of_ble_eq_true rfl, Nat.le_of_ble_eq_true rfl⟩) rfl rfl (Nat.le_of_ble_eq_true rfl) dX11_recover_68 ⟨Nat.le_of_ble_eq_true rfl, Nat.le_of_ble_eq_true rfl⟩ (fun H locs hPz51 hW hS => ?_)
      refine W.eq (g2 := F0 m 71 ls [.int r53, .ref (ad j50)]) rfl ?_
      refine lv_iconst (v := 2) hx hb dX11_recover_71 (by decide) ?_
      refine lv_iadd hx hb dX11_recover_72 ?_
      refine lv_aload_n hx hb dX11_recover_73 rfl (lv_at hl 1 rfl) ?_
      replace hf := obE hf
      obtain ⟨j55, qj55, hf⟩ := hf
      have tj55 := x_rt hW qj55 12 ⟨by decide, rfl⟩
      refine x_getr 1001 (ci := 10) (C := RX11) (T := TX11) (N := 30) 1 hC hin11 hW tv0 rfl rfl ⟨by decide, by decide, rfl, rfl⟩ rfl w_0 dX11_recover_74 qj55 ?_
      refine lv_iconst (v := 2) hx hb dX11_recover_77 (by decide) ?_
      replace hf := ckiE hf
      obtain ⟨h56, hf⟩ := hf
      refine x_iald hC hW tj55 rfl rfl h56 dX11_recover_78 ?_
      replace hf := ckiE hf
      obtain ⟨h57, hf⟩ := hf
      refine x_iast hC hW hS tj50 rfl rfl h57 dX11_recover_79 (fun S58 H locs eS58 hW hS => ?_)
      replace hf := ltE hf S58 eS58
      refine lv_iload_n hx hb dX11_recover_80 rfl (lv_at hl 0 rfl) ?_
      obtain ⟨e1, e2⟩ := so2 hf
      subst e1
      subst e2
      exact W.iret (v := r41) hx hb hr (fun t ht hWm => ⟨⟨rfl, by unfold QB; rw [ht]; exact ⟨hW, trivial⟩⟩, hS.F ht⟩) hS.2.2 dX11_recover_81 hlk
    · replace hf := ifF (fun q => q c34) hf
      refine lv_iconst (v := 0) hx hb dX11_recover_36 (by decide) ?_
      obtain ⟨e1, e2⟩ := so2 hf
      subst e1
      subst e2
      exact W.iret (v := 0) hx hb hr (fun t ht hWm => ⟨⟨rfl, by unfold QB; rw [ht]; exact ⟨hW, trivial⟩⟩, hS.F ht⟩) hS.2.2 dX11_recover_37 hlk
  have L25 : ∀ (S0 : St) (v0 : Nat) (v1 : Int32) (v2 : Int32) (s0 : Int32) (s1 : Nat) (tv0 : v0 < n ∧ K v0 = 10) (ts1 : s1 < n ∧ K s1 = 10) (H : Heap) (locs : List Loc) (ls : Array Slot), f_X11_recover_L25 F S0 v0 v1 v2 s0 s1 = some (r9, S9) → Wb g ad n K S0 (dA ad n s.heap.size) H → va_S (dA ad n s.heap.size) s.heap H locs → lv_has ls 4 [(0, .ref (ad v0)), (1, .int v1), (2, .int v2)] → W p l e (headSpec wsX11_recover { frames := 3, cells := 0, slots := 0, locals := 68 }).room s m (List.toArray [.ref (ad p0), .int p1, .int p2]) below meth c H locs 0 0 (MQ below (QR (some (.int r9)) (QB g ad n K S9 (dA ad n s.heap.size) (True)) (dA ad n s.heap.size)) (List.toArray [.ref (ad p0), .int p1, .int p2]) s 0 0 (dA ad n s.heap.size)) (F0 m 25 ls [.int s0, .ref (ad s1)]) := by
    intro S0 v0 v1 v2 s0 s1 tv0 ts1 H locs ls hf hW hS hl
    unfold f_X11_recover_L25 at hf
    refine lv_iconst (v := 1) hx hb dX11_recover_25 (by decide) ?_
    refine lv_goto (tgt := 30) hx hb dX11_recover_26 (by decide) ?_
    exact L30 S0 v0 v1 v2 1 s0 s1 tv0 ts1 _ _ _ hf hW hS (lv_sub hl [0, 1, 2] rfl)
  unfold f_X11_recover at hf
  refine lv_aload_n hx hb dX11_recover_0 rfl (lv_at hl 0 rfl) ?_
  refine lv_aload_n hx hb dX11_recover_1 rfl (lv_at hl 0 rfl) ?_
  refine lv_iload_n hx hb dX11_recover_2 rfl (lv_at hl 1 rfl) ?_
  refine lv_iload_n hx hb dX11_recover_3 rfl (lv_at hl 2 rfl) ?_
  replace hf := obE hf
  obtain ⟨z59, hz59, hf⟩ := hf
  obtain ⟨r61, S60⟩ := z59
  replace hf := ltE (ltE hf r61 rfl) S60 rfl
  refine x_callV (As := [.int p1, .int p2]) (rest := [.ref (ad p0)]) (o := (some (.int r61))) (S1 := S60) hC hl.1 hW hS hGs hA tp0 rfl (show vwCl[10]? = some (RX11, TX11, 30) ∧ 10 < 11 from ⟨rfl, by decide⟩) (c_X11_isRef l g ad n K s.heap.size F S0 p0 p1 p2 tp0 r61 S60 hz59) (cwV 2 hts gX11_recover_X11_isRef rfl rfl rfl (by decide +kernel) ⟨Nat.le_of_ble_eq_true rfl, Nat.le_of_ble_eq_true rfl⟩) rfl rfl (Nat.le_of_ble_eq_true rfl) dX11_recover_4 ⟨Nat.le_of_ble_eq_true rfl, Nat.le_of_ble_eq_true rfl⟩ (fun H locs hPz59 hW hS => ?_)
  refine W.eq (g2 := F0 m 7 ls [.int r61, .ref (ad p0)]) rfl ?_
  refine lv_aload_n hx hb dX11_recover_7 rfl (lv_at hl 0 rfl) ?_
  refine lv_iload_n hx hb dX11_recover_8 rfl (lv_at hl 1 rfl) ?_
  refine lv_iload_n hx hb dX11_recover_9 rfl (lv_at hl 2 rfl) ?_
  replace hf := obE hf
  obtain ⟨z63, hz63, hf⟩ := hf
  obtain ⟨r65, S64⟩ := z63
  replace hf := ltE (ltE hf r65 rfl) S64 rfl
  refine x_callV (As := [.int p1, .int p2]) (rest := [.int r61, .ref (ad p0)]) (o := (some (.int r65))) (S1 := S64) hC hl.1 hW hS hGs hA tp0 rfl (show vwCl[10]? = some (RX11, TX11, 30) ∧ 10 < 11 from ⟨rfl, by decide⟩) (c_X11_isRef l g ad n K H.size F S60 p0 p1 p2 tp0 r65 S64 hz63) (cwV 2 hts gX11_recover_X11_isRef rfl rfl rfl (by decide +kernel) ⟨Nat.le_of_ble_eq_true rfl, Nat.le_of_ble_eq_true rfl⟩) rfl rfl (Nat.le_of_ble_eq_true rfl) dX11_recover_10 ⟨Nat.le_of_ble_eq_true rfl, Nat.le_of_ble_eq_true rfl⟩ (fun H locs hPz63 hW hS => ?_)
  refine W.eq (g2 := F0 m 13 ls [.int r65, .int r61, .ref (ad p0)]) rfl ?_
  refine lv_if_eq (tgt := 25) hx hb dX11_recover_13 (by decide) (fun c67 => ?_) (fun c67 => ?_)
  · replace hf := ifT c67 hf
    exact L25 S64 p0 p1 p2 r61 p0 tp0 tp0 _ _ _ hf hW hS (lv_sub hl [0, 1, 2] rfl)
  · replace hf := ifF c67 hf
    refine lv_aload_n hx hb dX11_recover_16 rfl (lv_at hl 0 rfl) ?_
    refine lv_iload_n hx hb dX11_recover_17 rfl (lv_at hl 1 rfl) ?_
    refine lv_iload_n hx hb dX11_recover_18 rfl (lv_at hl 2 rfl) ?_
    replace hf := obE hf
    obtain ⟨z68, hz68, hf⟩ := hf
    obtain ⟨r70, S69⟩ := z68
    replace hf := ltE (ltE hf r70 rfl) S69 rfl
    refine x_callV (As := [.int p1, .int p2]) (rest := [.int r61, .ref (ad p0)]) (o := (some (.int r70))) (S1 := S69) hC hl.1 hW hS hGs hA tp0 rfl (show vwCl[10]? = some (RX11, TX11, 30) ∧ 10 < 11 from ⟨rfl, by decide⟩) (c_X11_isHidden l g ad n K H.size F S64 p0 p1 p2 tp0 r70 S69 hz68) (cwV 2 hts gX11_recover_X11_isHidden rfl rfl rfl (by decide +kernel) ⟨Nat.le_of_ble_eq_true rfl, Nat.le_of_ble_eq_true rfl⟩) rfl rfl (Nat.le_of_ble_eq_true rfl) dX11_recover_19 ⟨Nat.le_of_ble_eq_true rfl, Nat.le_of_ble_eq_true rfl⟩ (fun H locs hPz68 hW hS => ?_)
    refine W.eq (g2 := F0 m 22 ls [.int r70, .int r61, .ref (ad p0)]) rfl ?_
    refine lv_if_eq (tgt := 29) hx hb dX11_recover_22 (by decide) (fun c72 => ?_) (fun c72 => ?_)
    · replace hf := ifT c72 hf
      refine lv_iconst (v := 0) hx hb dX11_recover_29 (by decide) ?_
      exact L30 S69 p0 p1 p2 0 r61 p0 tp0 tp0 _ _ _ hf hW hS (lv_sub hl [0, 1, 2] rfl)
    · replace hf := ifF c72 hf
      exact L25 S69 p0 p1 p2 r61 p0 tp0 tp0 _ _ _ hf hW hS (lv_sub hl [0, 1, 2] rfl)
set_option maxHeartbeats 4000000 in
set_option maxRecDepth 100000 in
theorem c_X11_isActive (l : Launch) (g : GP) (ad : Nat → Nat) (n : Nat) (K : Nat → Nat) (sz F : Nat) (S0 : St) (p0 : Nat) (p1 : Int32) (tp0 : p0 < n ∧ K p0 = 10) (r9 : Int32) (S9 : St) (hf : f_X11_isActive F S0 p0 p1 = some (r9, S9)) : Met l yX11_isActive wsX11_isActive { frames := 2, cells := 0, slots := 0, locals := 46 } (va_Pc [.ref (ad p0), .int p1] (PB g ad n K S0 sz)) (QR (some (.int r9)) (QB g ad n K S9 (dA ad n sz) (True)) (dA ad n sz)) 0 0 (dA ad n sz) := by
  refine Met.ofW (cc := cX11_isActive) (maxL := 2) (ret := (some .boolean)) (by decide) rfl ?_
  intro p e s m args below meth c s₁ B hml hv
  obtain ⟨rfl, hsz, hW, hK, hGs⟩ := x_start hv
  subst hsz
  have hx := B.exec
  have hb := B.bytes
  have hr := B.returns
  have hts := atoms_spec (ws := wsX11_isActive) B.pre
  have hown : s.vm.findClass RX11 = some m.cls := findClass_of_methodNamed B.named
  have hlk := B.notSynchronized
  have hC : Cx g p s m _ c cX11_isActive RX11 wsX11_isActive 2 := ⟨hx, hb, hml, hown, hts, hK⟩
  have hA : ∀ q : Nat, s.heap.size ≤ q → dA ad n s.heap.size q := fun q h => Or.inr h
  have hS : va_S (dA ad n s.heap.size) s.heap s.heap [] := va_S.rf
  have hl := lv_entry ([.ref (ad p0), .int p1]) (n := 2) (Nat.le_of_ble_eq_true rfl)
  rw [lg_entry_eq]
  generalize (lg_sl ([.ref (ad p0), .int p1]) ++ List.replicate (2 - (lg_sl ([.ref (ad p0), .int p1])).length) Slot.unset).toArray = ls at hl ⊢
  have hl : lv_has ls 2 [(0, .ref (ad p0)), (1, .int p1)] := hl
  have hGE := hGs.2.2.2.2.2.2.1
  have hGM := hGs.2.2.2.2.2.2.2.1
  unfold f_X11_isActive at hf
  refine lv_aload_n hx hb dX11_isActive_0 rfl (lv_at hl 0 rfl) ?_
  refine lv_aload_n hx hb dX11_isActive_1 rfl (lv_at hl 0 rfl) ?_
  refine lv_iload_n hx hb dX11_isActive_2 rfl (lv_at hl 1 rfl) ?_
  replace hf := obE hf
  obtain ⟨z1, hz1, hf⟩ := hf
  obtain ⟨r3, S2⟩ := z1
  replace hf := ltE (ltE hf r3 rfl) S2 rfl
  refine x_callV (As := [.int p1]) (rest := [.ref (ad p0)]) (o := (some (.int r3))) (S1 := S2) hC hl.1 hW hS hGs hA tp0 rfl (show vwCl[10]? = some (RX11, TX11, 30) ∧ 10 < 11 from ⟨rfl, by decide⟩) (c_X11_isHold l g ad n K s.heap.size F S0 p0 p1 tp0 r3 S2 hz1) (cwV 1 hts gX11_isActive_X11_isHold rfl rfl rfl (by decide +kernel) ⟨Nat.le_of_ble_eq_true rfl, Nat.le_of_ble_eq_true rfl⟩) rfl rfl (Nat.le_of_ble_eq_true rfl) dX11_isActive_3 ⟨Nat.le_of_ble_eq_true rfl, Nat.le_of_ble_eq_true rfl⟩ (fun H locs hPz1 hW hS => ?_)
  refine W.eq (g2 := F0 m 6 ls [.int r3, .ref (ad p0)]) rfl ?_
  replace hf := obE hf
  obtain ⟨z5, hz5, hf⟩ := hf
  obtain ⟨r7, S6⟩ := z5
  replace hf := ltE (ltE hf r7 rfl) S6 rfl
  refine x_callV (As := [.int r3]) (rest := []) (o := (some (.int r7))) (S1 := S6) hC hl.1 hW hS hGs hA tp0 rfl (show vwCl[10]? = some (RX11, TX11, 30) ∧ 10 < 11 from ⟨rfl, by decide⟩) (c_X11_passes l g ad n K H.size F S2 p0 r3 tp0 r7 S6 hz5) (cwV 1 hts gX11_isActive_X11_passes rfl rfl rfl (by decide +kernel) ⟨Nat.le_of_ble_eq_true rfl, Nat.le_of_ble_eq_true rfl⟩) rfl rfl (Nat.le_of_ble_eq_true rfl) dX11_isActive_6 ⟨Nat.le_of_ble_eq_true rfl, Nat.le_of_ble_eq_true rfl⟩ (fun H locs hPz5 hW hS => ?_)
  refine W.eq (g2 := F0 m 9 ls [.int r7]) rfl ?_
  refine lv_if_eq (tgt := 26) hx hb dX11_isActive_9 (by decide) (fun c9 => ?_) (fun c9 => ?_)
  · replace hf := ifT c9 hf
    refine lv_iconst (v := 0) hx hb dX11_isActive_26 (by decide) ?_
    obtain ⟨e1, e2⟩ := so2 hf
    subst e1
    subst e2
    exact W.zret (v := 0) hx hb hr rfl (fun t ht hWm => ⟨⟨rfl, by unfold QB; rw [ht]; exact ⟨hW, trivial⟩⟩, hS.F ht⟩) hS.2.2 dX11_isActive_27 hlk
  · replace hf := ifF c9 hf
    refine lv_aload_n hx hb dX11_isActive_12 rfl (lv_at hl 0 rfl) ?_
    refine lv_iload_n hx hb dX11_isActive_13 rfl (lv_at hl 1 rfl) ?_
    refine lv_iconst (v := 3) hx hb dX11_isActive_14 (by decide) ?_
    replace hf := obE hf
    obtain ⟨z10, hz10, hf⟩ := hf
    obtain ⟨r12, S11⟩ := z10
    replace hf := ltE (ltE hf r12 rfl) S11 rfl
    refine x_callV (As := [.int p1, .int 3]) (rest := []) (o := (some (.int r12))) (S1 := S11) hC hl.1 hW hS hGs hA tp0 rfl (show vwCl[10]? = some (RX11, TX11, 30) ∧ 10 < 11 from ⟨rfl, by decide⟩) (c_X11_holdValue l g ad n K H.size F S6 p0 p1 ((3 : Int32)) tp0 r12 S11 hz10) (cwV 2 hts gX11_isActive_X11_holdValue rfl rfl rfl (by decide +kernel) ⟨Nat.le_of_ble_eq_true rfl, Nat.le_of_ble_eq_true rfl⟩) rfl rfl (Nat.le_of_ble_eq_true rfl) dX11_isActive_15 ⟨Nat.le_of_ble_eq_true rfl, Nat.le_of_ble_eq_true rfl⟩ (fun H locs hPz10 hW hS => ?_)
    refine W.eq (g2 := F0 m 18 ls [.int r12]) rfl ?_
    refine lv_iconst (v := 1) hx hb dX11_isActive_18 (by decide) ?_
    refine lv_icmp_ne (tgt := 26) hx hb dX11_isActive_19 (by decide) (fun c14 => ?_) (fun c14 => ?_)
    · replace hf := ifT c14 hf
      refine lv_iconst (v := 0) hx hb dX11_isActive_26 (by decide) ?_
      obtain ⟨e1, e2⟩ := so2 hf
      subst e1
      subst e2
      exact W.zret (v := 0) hx hb hr rfl (fun t ht hWm => ⟨⟨rfl, by unfold QB; rw [ht]; exact ⟨hW, trivial⟩⟩, hS.F ht⟩) hS.2.2 dX11_isActive_27 hlk
    · replace hf := ifF (fun q => q c14) hf
      refine lv_iconst (v := 1) hx hb dX11_isActive_22 (by decide) ?_
      refine lv_goto (tgt := 27) hx hb dX11_isActive_23 (by decide) ?_
      obtain ⟨e1, e2⟩ := so2 hf
      subst e1
      subst e2
      exact W.zret (v := 1) hx hb hr rfl (fun t ht hWm => ⟨⟨rfl, by unfold QB; rw [ht]; exact ⟨hW, trivial⟩⟩, hS.F ht⟩) hS.2.2 dX11_isActive_27 hlk
set_option maxHeartbeats 4000000 in
set_option maxRecDepth 100000 in
theorem c_X11_release (l : Launch) (g : GP) (ad : Nat → Nat) (n : Nat) (K : Nat → Nat) (sz F : Nat) (S0 : St) (p0 : Nat) (p1 : Int32) (tp0 : p0 < n ∧ K p0 = 10) (r9 : Int32) (S9 : St) (hf : f_X11_release F S0 p0 p1 = some (r9, S9)) : Met l yX11_release wsX11_release { frames := 6, cells := 0, slots := 0, locals := 143 } (va_Pc [.ref (ad p0), .int p1] (PB g ad n K S0 sz)) (QR (some (.int r9)) (QB g ad n K S9 (dA ad n sz) (True)) (dA ad n sz)) 0 0 (dA ad n sz) := by
  refine Met.ofW (cc := cX11_release) (maxL := 4) (ret := (some .int)) (by decide) rfl ?_
  intro p e s m args below meth c s₁ B hml hv
  obtain ⟨rfl, hsz, hW, hK, hGs⟩ := x_start hv
  subst hsz
  have hx := B.exec
  have hb := B.bytes
  have hr := B.returns
  have hts := atoms_spec (ws := wsX11_release) B.pre
  have hown : s.vm.findClass RX11 = some m.cls := findClass_of_methodNamed B.named
  have hlk := B.notSynchronized
  have hC : Cx g p s m _ c cX11_release RX11 wsX11_release 4 := ⟨hx, hb, hml, hown, hts, hK⟩
  have hA : ∀ q : Nat, s.heap.size ≤ q → dA ad n s.heap.size q := fun q h => Or.inr h
  have hS : va_S (dA ad n s.heap.size) s.heap s.heap [] := va_S.rf
  have hl := lv_entry ([.ref (ad p0), .int p1]) (n := 4) (Nat.le_of_ble_eq_true rfl)
  rw [lg_entry_eq]
  generalize (lg_sl ([.ref (ad p0), .int p1]) ++ List.replicate (4 - (lg_sl ([.ref (ad p0), .int p1])).length) Slot.unset).toArray = ls at hl ⊢
  have hl : lv_has ls 4 [(0, .ref (ad p0)), (1, .int p1)] := hl
  have hin11 : ∀ w ∈ wsX110, w ∈ wsX11_release := by decide +kernel
  have w_0 := hts (.fieldLink RX11 17 "MailSpoolModel" "net" "[I") (by decide +kernel)
  have hGE := hGs.2.2.2.2.2.2.1
  have hGM := hGs.2.2.2.2.2.2.2.1
  have L4 : ∀ (fu4 : Nat) (S0 : St) (v0 : Nat) (v1 : Int32) (v2 : Int32) (v3 : Int32) (tv0 : v0 < n ∧ K v0 = 10) (H : Heap) (locs : List Loc) (ls : Array Slot), f_X11_release_L4 F fu4 S0 v0 v1 v2 v3 = some (r9, S9) → Wb g ad n K S0 (dA ad n s.heap.size) H → va_S (dA ad n s.heap.size) s.heap H locs → lv_has ls 4 [(0, .ref (ad v0)), (1, .int v1), (2, .int v2), (3, .int v3)] → W p l e (headSpec wsX11_release { frames := 6, cells := 0, slots := 0, locals := 143 }).room s m (List.toArray [.ref (ad p0), .int p1]) below meth c H locs 0 0 (MQ below (QR (some (.int r9)) (QB g ad n K S9 (dA ad n s.heap.size) (True)) (dA ad n s.heap.size)) (List.toArray [.ref (ad p0), .int p1]) s 0 0 (dA ad n s.heap.size)) (F0 m 4 ls []) := by
    intro fu4
    induction fu4 with
    | zero =>
      intro S0 v0 v1 v2 v3 tv0 H locs ls hf
      cases hf
    | succ fu4 ih4 =>
      have L63 : ∀ (S0 : St) (v0 : Nat) (v1 : Int32) (v2 : Int32) (v3 : Int32) (tv0 : v0 < n ∧ K v0 = 10) (H : Heap) (locs : List Loc) (ls : Array Slot), f_X11_release_L63 F (fun a0 a1 a2 a3 a4 => f_X11_release_L4 F fu4 a0 a1 a2 a3 a4) S0 v0 v1 v2 v3 = some (r9, S9) → Wb g ad n K S0 (dA ad n s.heap.size) H → va_S (dA ad n s.heap.size) s.heap H locs → lv_has ls 4 [(0, .ref (ad v0)), (1, .int v1), (2, .int v2), (3, .int v3)] → W p l e (headSpec wsX11_release { frames := 6, cells := 0, slots := 0, locals := 143 }).room s m (List.toArray [.ref (ad p0), .int p1]) below meth c H locs 0 0 (MQ below (QR (some (.int r9)) (QB g ad n K S9 (dA ad n s.heap.size) (True)) (dA ad n s.heap.size)) (List.toArray [.ref (ad p0), .int p1]) s 0 0 (dA ad n s.heap.size)) (F0 m 63 ls []) := by
        intro S0 v0 v1 v2 v3 tv0 H locs ls hf hW hS hl
        unfold f_X11_release_L63 at hf
        obtain ⟨x2, ex2⟩ : ∃ z : Int32, z = v3 + 1 := ⟨_, rfl⟩
        replace hf := ltE hf x2 ex2
        refine lv_iinc (v := x2) (lv' := [(3, .int x2), (0, .ref (ad v0)), (1, .int v1), (2, .int v2)]) hx hb dX11_release_63 hl (k := 3) rfl (by rw [ex2]; rfl) (by decide) rfl (fun ls hl => ?_)
        refine lv_goto (tgt := 4) hx hb dX11_release_66 (by decide) ?_
        exact ih4 S0 v0 v1 v2 x2 tv0 _ _ _ hf hW hS (lv_sub hl [1, 2, 3, 0] rfl)
      intro S0 v0 v1 v2 v3 tv0 H locs ls hf hW hS hl
      unfold f_X11_release_L4 at hf
      refine lv_iload_n hx hb dX11_release_4 rfl (lv_at hl 3 rfl) ?_
      refine lv_aload_n hx hb dX11_release_5 rfl (lv_at hl 0 rfl) ?_
      replace hf := obE hf
      obtain ⟨j32, qj32, hf⟩ := hf
      have tj32 := x_rt hW qj32 12 ⟨by decide, rfl⟩
      refine x_getr 1001 (ci := 10) (C := RX11) (T := TX11) (N := 30) 1 hC hin11 hW tv0 rfl rfl ⟨by decide, by decide, rfl, rfl⟩ rfl w_0 dX11_release_6 qj32 ?_
      refine lv_bipush (v := 7) hx hb dX11_release_9 (by decide) ?_
      replace hf := ckiE hf
      obtain ⟨h33, hf⟩ := hf
      refine x_iald hC hW tj32 rfl rfl h33 dX11_release_11 ?_
      refine lv_icmp_ge (tgt := 69) hx hb dX11_release_12 (by decide) (fun c34 => ?_) (fun c34 => ?_)
      · replace hf := ifT c34 hf
        refine lv_iload_n hx hb dX11_release_69 rfl (lv_at hl 2 rfl) ?_
        obtain ⟨e1, e2⟩ := so2 hf
        subst e1
        subst e2
        exact W.iret (v := v2) hx hb hr (fun t ht hWm => ⟨⟨rfl, by unfold QB; rw [ht]; exact ⟨hW, trivial⟩⟩, hS.F ht⟩) hS.2.2 dX11_release_70 hlk
      · replace hf := ifF c34 hf
        refine lv_aload_n hx hb dX11_release_15 rfl (lv_at hl 0 rfl) ?_
        refine lv_iload_n hx hb dX11_release_16 rfl (lv_at hl 3 rfl) ?_
        refine lv_iload_n hx hb dX11_release_17 rfl (lv_at hl 1 rfl) ?_
        replace hf := obE hf
        obtain ⟨z35, hz35, hf⟩ := hf
        obtain ⟨r37, S36⟩ := z35
        replace hf := ltE (ltE hf r37 rfl) S36 rfl
        refine x_callV (As := [.int v3, .int v1]) (rest := []) (o := (some (.int r37))) (S1 := S36) hC hl.1 hW hS hGs hA tv0 rfl (show vwCl[10]? = some (RX11, TX11, 30) ∧ 10 < 11 from ⟨rfl, by decide⟩) (c_X11_isHidden l g ad n K H.size F S0 v0 v3 v1 tv0 r37 S36 hz35) (cwV 2 hts gX11_release_X11_isHidden rfl rfl rfl (by decide +kernel) ⟨Nat.le_of_ble_eq_true rfl, Nat.le_of_ble_eq_true rfl⟩) rfl rfl (Nat.le_of_ble_eq_true rfl) dX11_release_18 ⟨Nat.le_of_ble_eq_true rfl, Nat.le_of_ble_eq_true rfl⟩ (fun H locs hPz35 hW hS => ?_)
        refine W.eq (g2 := F0 m 21 ls [.int r37]) rfl ?_
        refine lv_if_eq (tgt := 63) hx hb dX11_release_21 (by decide) (fun c39 => ?_) (fun c39 => ?_)
        · replace hf := ifT c39 hf
          exact L63 S36 v0 v1 v2 v3 tv0 _ _ _ hf hW hS (lv_sub hl [0, 1, 2, 3] rfl)
        · replace hf := ifF c39 hf
          refine lv_aload_n hx hb dX11_release_24 rfl (lv_at hl 0 rfl) ?_
          refine lv_iload_n hx hb dX11_release_25 rfl (lv_at hl 3 rfl) ?_
          refine lv_iload_n hx hb dX11_release_26 rfl (lv_at hl 1 rfl) ?_
          replace hf := obE hf
          obtain ⟨z40, hz40, hf⟩ := hf
          obtain ⟨r42, S41⟩ := z40
          replace hf := ltE (ltE hf r42 rfl) S41 rfl
          refine x_callV (As := [.int v3, .int v1]) (rest := []) (o := (some (.int r42))) (S1 := S41) hC hl.1 hW hS hGs hA tv0 rfl (show vwCl[10]? = some (RX11, TX11, 30) ∧ 10 < 11 from ⟨rfl, by decide⟩) (c_X11_covers l g ad n K H.size F S36 v0 v3 v1 tv0 r42 S41 hz40) (cwV 2 hts gX11_release_X11_covers rfl rfl rfl (by decide +kernel) ⟨Nat.le_of_ble_eq_true rfl, Nat.le_of_ble_eq_true rfl⟩) rfl rfl (Nat.le_of_ble_eq_true rfl) dX11_release_27 ⟨Nat.le_of_ble_eq_true rfl, Nat.le_of_ble_eq_true rfl⟩ (fun H locs hPz40 hW hS => ?_)
          refine W.eq (g2 := F0 m 30 ls [.int r42]) rfl ?_
          refine lv_if_eq (tgt := 36) hx hb dX11_release_30 (by decide) (fun c44 => ?_) (fun c44 => ?_)
          · replace hf := ifT c44 hf
            refine lv_aload_n hx hb dX11_release_36 rfl (lv_at hl 0 rfl) ?_
            replace hf := obE hf
            obtain ⟨j45, qj45, hf⟩ := hf
            have tj45 := x_rt hW qj45 12 ⟨by decide, rfl⟩
            refine x_getr 1001 (ci := 10) (C := RX11) (T := TX11) (N := 30) 1 hC hin11 hW tv0 rfl rfl ⟨by decide, by decide, rfl, rfl⟩ rfl w_0 dX11_release_37 qj45 ?_
            refine lv_iload_n hx hb dX11_release_40 rfl (lv_at hl 3 rfl) ?_
            refine lv_iload_n hx hb dX11_release_41 rfl (lv_at hl 1 rfl) ?_
            replace hf := obE hf
            obtain ⟨z46, hz46, hf⟩ := hf
            obtain ⟨r48, S47⟩ := z46
            replace hf := ltE (ltE hf r48 rfl) S47 rfl
            refine x_callS (As := [.int v3, .int v1]) (rest := [.ref (ad j45)]) (o := (some (.int r48))) (S1 := S47) hC hl.1 hW hS hGs hA (c_X11_refAt l g ad n K H.size F S41 v3 v1 r48 S47 hz46) (va_cwS 2 hts gX11_release_X11_refAt rfl rfl rfl (by decide +kernel) ⟨Nat.le_of_ble_eq_true rfl, Nat.le_of_ble_eq_true rfl⟩) rfl rfl (Nat.le_of_ble_eq_true rfl) dX11_release_42 ⟨Nat.le_of_ble_eq_true rfl, Nat.le_of_ble_eq_true rfl⟩ (fun H locs hPz46 hW hS => ?_)
            refine W.eq (g2 := F0 m 45 ls [.int r48, .ref (ad j45)]) rfl ?_
            refine lv_iconst (v := 0) hx hb dX11_release_45 (by decide) ?_
            refine lv_iadd hx hb dX11_release_46 ?_
            refine lv_iconst (v := 3) hx hb dX11_release_47 (by decide) ?_
            replace hf := ckiE hf
            obtain ⟨h50, hf⟩ := hf
            refine x_iast hC hW hS tj45 rfl rfl h50 dX11_release_48 (fun S51 H locs eS51 hW hS => ?_)
            replace hf := ltE hf S51 eS51
            refine lv_aload_n hx hb dX11_release_49 rfl (lv_at hl 0 rfl) ?_
            refine lv_iconst (v := 4) hx hb dX11_release_50 (by decide) ?_
            refine lv_iload_n hx hb dX11_release_51 rfl (lv_at hl 3 rfl) ?_
            replace hf := obE hf
            obtain ⟨S53, hz52, hf⟩ := hf
            refine x_callV (As := [.int 4, .int v3]) (rest := []) (o := none) (S1 := S53) hC hl.1 hW hS hGs hA tv0 rfl (show vwCl[10]? = some (RX11, TX11, 30) ∧ 10 < 11 from ⟨rfl, by decide⟩) (c_X11_log l g ad n K H.size F S51 v0 ((4 : Int32)) v3 tv0 S53 hz52) (cwV 2 hts gX11_release_X11_log rfl rfl rfl (by decide +kernel) ⟨Nat.le_of_ble_eq_true rfl, Nat.le_of_ble_eq_true rfl⟩) rfl rfl (Nat.le_of_ble_eq_true rfl) dX11_release_52 ⟨Nat.le_of_ble_eq_true rfl, Nat.le_of_ble_eq_true rfl⟩ (fun H locs hPz52 hW hS => ?_)
            refine W.eq (g2 := F0 m 55 ls []) rfl ?_
            refine lv_aload_n hx hb dX11_release_55 rfl (lv_at hl 0 rfl) ?_
            refine lv_iload_n hx hb dX11_release_56 rfl (lv_at hl 3 rfl) ?_
            replace hf := obE hf
            obtain ⟨S57, hz56, hf⟩ := hf
            refine x_callV (As := [.int v3]) (rest := []) (o := none) (S1 := S57) hC hl.1 hW hS hGs hA tv0 rfl (show vwCl[10]? = some (RX11, TX11, 30) ∧ 10 < 11 from ⟨rfl, by decide⟩) (c_X11_buryParts l g ad n K H.size F S53 v0 v3 tv0 S57 hz56) (cwV 1 hts gX11_release_X11_buryParts rfl rfl rfl (by decide +kernel) ⟨Nat.le_of_ble_eq_true rfl, Nat.le_of_ble_eq_true rfl⟩) rfl rfl (Nat.le_of_ble_eq_true rfl) dX11_release_57 ⟨Nat.le_of_ble_eq_true rfl, Nat.le_of_ble_eq_true rfl⟩ (fun H locs hPz56 hW hS => ?_)
            refine W.eq (g2 := F0 m 60 ls []) rfl ?_
            obtain ⟨x60, ex60⟩ : ∃ z : Int32, z = v2 + 1 := ⟨_, rfl⟩
            replace hf := ltE hf x60 ex60
            refine lv_iinc (v := x60) (lv' := [(2, .int x60), (0, .ref (ad v0)), (1, .int v1), (3, .int v3)]) hx hb dX11_release_60 hl (k := 2) rfl (by rw [ex60]; rfl) (by decide) rfl (fun ls hl => ?_)
            exact L63 S57 v0 v1 x60 v3 tv0 _ _ _ hf hW hS (lv_sub hl [1, 2, 0, 3] rfl)
          · replace hf := ifF c44 hf
            refine lv_goto (tgt := 63) hx hb dX11_release_33 (by decide) ?_
            exact L63 S41 v0 v1 v2 v3 tv0 _ _ _ hf hW hS (lv_sub hl [0, 1, 2, 3] rfl)
  unfold f_X11_release at hf
  refine lv_iconst (v := 0) hx hb dX11_release_0 (by decide) ?_
  refine lv_istore_n (lv' := [(2, .int 0), (0, .ref (ad p0)), (1, .int p1)]) hx hb dX11_release_1 rfl hl (by decide) rfl (fun ls hl => ?_)
  refine lv_iconst (v := 0) hx hb dX11_release_2 (by decide) ?_
  refine lv_istore_n (lv' := [(3, .int 0), (2, .int 0), (0, .ref (ad p0)), (1, .int p1)]) hx hb dX11_release_3 rfl hl (by decide) rfl (fun ls hl => ?_)
  exact L4 F S0 p0 p1 0 0 tp0 _ _ _ hf hW hS (lv_sub hl [2, 3, 1, 0] rfl)
set_option maxHeartbeats 4000000 in
set_option maxRecDepth 100000 in
theorem c_X11_setHold (l : Launch) (g : GP) (ad : Nat → Nat) (n : Nat) (K : Nat → Nat) (sz F : Nat) (S0 : St) (p0 : Nat) (p1 : Int32) (p2 : Int32) (tp0 : p0 < n ∧ K p0 = 10) (r9 : Int32) (S9 : St) (hf : f_X11_setHold F S0 p0 p1 p2 = some (r9, S9)) : Met l yX11_setHold wsX11_setHold { frames := 7, cells := 0, slots := 0, locals := 166 } (va_Pc [.ref (ad p0), .int p1, .int p2] (PB g ad n K S0 sz)) (QR (some (.int r9)) (QB g ad n K S9 (dA ad n sz) (True)) (dA ad n sz)) 0 0 (dA ad n sz) := by
  refine Met.ofW (cc := cX11_setHold) (maxL := 3) (ret := (some .int)) (by decide) rfl ?_
  intro p e s m args below meth c s₁ B hml hv
  obtain ⟨rfl, hsz, hW, hK, hGs⟩ := x_start hv
  subst hsz
  have hx := B.exec
  have hb := B.bytes
  have hr := B.returns
  have hts := atoms_spec (ws := wsX11_setHold) B.pre
  have hown : s.vm.findClass RX11 = some m.cls := findClass_of_methodNamed B.named
  have hlk := B.notSynchronized
  have hC : Cx g p s m _ c cX11_setHold RX11 wsX11_setHold 3 := ⟨hx, hb, hml, hown, hts, hK⟩
  have hA : ∀ q : Nat, s.heap.size ≤ q → dA ad n s.heap.size q := fun q h => Or.inr h
  have hS : va_S (dA ad n s.heap.size) s.heap s.heap [] := va_S.rf
  have hl := lv_entry ([.ref (ad p0), .int p1, .int p2]) (n := 3) (Nat.le_of_ble_eq_true rfl)
  rw [lg_entry_eq]
  generalize (lg_sl ([.ref (ad p0), .int p1, .int p2]) ++ List.replicate (3 - (lg_sl ([.ref (ad p0), .int p1, .int p2])).length) Slot.unset).toArray = ls at hl ⊢
  have hl : lv_has ls 3 [(0, .ref (ad p0)), (1, .int p1), (2, .int p2)] := hl
  have hin11 : ∀ w ∈ wsX110, w ∈ wsX11_setHold := by decide +kernel
  have w_0 := hts (.fieldLink RX11 17 "MailSpoolModel" "net" "[I") (by decide +kernel)
  have hGE := hGs.2.2.2.2.2.2.1
  have hGM := hGs.2.2.2.2.2.2.2.1
  have L60 : ∀ (S0 : St) (v0 : Nat) (v1 : Int32) (v2 : Int32) (s0 : Int32) (s1 : Int32) (s2 : Nat) (tv0 : v0 < n ∧ K v0 = 10) (ts2 : s2 < n ∧ K s2 = 12) (H : Heap) (locs : List Loc) (ls : Array Slot), f_X11_setHold_L60 F S0 v0 v1 v2 s0 s1 s2 = some (r9, S9) → Wb g ad n K S0 (dA ad n s.heap.size) H → va_S (dA ad n s.heap.size) s.heap H locs → lv_has ls 3 [(0, .ref (ad v0)), (1, .int v1), (2, .int v2)] → W p l e (headSpec wsX11_setHold { frames := 7, cells := 0, slots := 0, locals := 166 }).room s m (List.toArray [.ref (ad p0), .int p1, .int p2]) below meth c H locs 0 0 (MQ below (QR (some (.int r9)) (QB g ad n K S9 (dA ad n s.heap.size) (True)) (dA ad n s.heap.size)) (List.toArray [.ref (ad p0), .int p1, .int p2]) s 0 0 (dA ad n s.heap.size)) (F0 m 60 ls [.int s0, .int s1, .ref (ad s2)]) := by
    intro S0 v0 v1 v2 s0 s1 s2 tv0 ts2 H locs ls hf hW hS hl
    unfold f_X11_setHold_L60 at hf
    replace hf := ckiE hf
    obtain ⟨h12, hf⟩ := hf
    refine x_iast hC hW hS ts2 rfl rfl h12 dX11_setHold_60 (fun S13 H locs eS13 hW hS => ?_)
    replace hf := ltE hf S13 eS13
    refine lv_iload_n hx hb dX11_setHold_61 rfl (lv_at hl 2 rfl) ?_
    refine lv_if_eq (tgt := 69) hx hb dX11_setHold_62 (by decide) (fun c14 => ?_) (fun c14 => ?_)
    · replace hf := ifT c14 hf
      refine lv_aload_n hx hb dX11_setHold_69 rfl (lv_at hl 0 rfl) ?_
      refine lv_aload_n hx hb dX11_setHold_70 rfl (lv_at hl 0 rfl) ?_
      refine lv_iload_n hx hb dX11_setHold_71 rfl (lv_at hl 1 rfl) ?_
      refine lv_iconst (v := 0) hx hb dX11_setHold_72 (by decide) ?_
      replace hf := obE hf
      obtain ⟨z15, hz15, hf⟩ := hf
      obtain ⟨r17, S16⟩ := z15
      replace hf := ltE (ltE hf r17 rfl) S16 rfl
      refine x_callV (As := [.int v1, .int 0]) (rest := [.ref (ad v0)]) (o := (some (.int r17))) (S1 := S16) hC hl.1 hW hS hGs hA tv0 rfl (show vwCl[10]? = some (RX11, TX11, 30) ∧ 10 < 11 from ⟨rfl, by decide⟩) (c_X11_holdValue l g ad n K H.size F S13 v0 v1 ((0 : Int32)) tv0 r17 S16 hz15) (cwV 2 hts gX11_setHold_X11_holdValue rfl rfl rfl (by decide +kernel) ⟨Nat.le_of_ble_eq_true rfl, Nat.le_of_ble_eq_true rfl⟩) rfl rfl (Nat.le_of_ble_eq_true rfl) dX11_setHold_73 ⟨Nat.le_of_ble_eq_true rfl, Nat.le_of_ble_eq_true rfl⟩ (fun H locs hPz15 hW hS => ?_)
      refine W.eq (g2 := F0 m 76 ls [.int r17, .ref (ad v0)]) rfl ?_
      replace hf := obE hf
      obtain ⟨z19, hz19, hf⟩ := hf
      obtain ⟨r21, S20⟩ := z19
      replace hf := ltE (ltE hf r21 rfl) S20 rfl
      refine x_callV (As := [.int r17]) (rest := []) (o := (some (.int r21))) (S1 := S20) hC hl.1 hW hS hGs hA tv0 rfl (show vwCl[10]? = some (RX11, TX11, 30) ∧ 10 < 11 from ⟨rfl, by decide⟩) (c_X11_release l g ad n K H.size F S16 v0 r17 tv0 r21 S20 hz19) (cwV 1 hts gX11_setHold_X11_release rfl rfl rfl (by decide +kernel) ⟨Nat.le_of_ble_eq_true rfl, Nat.le_of_ble_eq_true rfl⟩) rfl rfl (Nat.le_of_ble_eq_true rfl) dX11_setHold_76 ⟨Nat.le_of_ble_eq_true rfl, Nat.le_of_ble_eq_true rfl⟩ (fun H locs hPz19 hW hS => ?_)
      refine W.eq (g2 := F0 m 79 ls [.int r21]) rfl ?_
      obtain ⟨e1, e2⟩ := so2 hf
      subst e1
      subst e2
      exact W.iret (v := r21) hx hb hr (fun t ht hWm => ⟨⟨rfl, by unfold QB; rw [ht]; exact ⟨hW, trivial⟩⟩, hS.F ht⟩) hS.2.2 dX11_setHold_79 hlk
    · replace hf := ifF c14 hf
      refine lv_iconst (v := 0) hx hb dX11_setHold_65 (by decide) ?_
      refine lv_goto (tgt := 79) hx hb dX11_setHold_66 (by decide) ?_
      obtain ⟨e1, e2⟩ := so2 hf
      subst e1
      subst e2
      exact W.iret (v := 0) hx hb hr (fun t ht hWm => ⟨⟨rfl, by unfold QB; rw [ht]; exact ⟨hW, trivial⟩⟩, hS.F ht⟩) hS.2.2 dX11_setHold_79 hlk
  have L27 : ∀ (S0 : St) (v0 : Nat) (v1 : Int32) (v2 : Int32) (s0 : Int32) (tv0 : v0 < n ∧ K v0 = 10) (H : Heap) (locs : List Loc) (ls : Array Slot), f_X11_setHold_L27 F S0 v0 v1 v2 s0 = some (r9, S9) → Wb g ad n K S0 (dA ad n s.heap.size) H → va_S (dA ad n s.heap.size) s.heap H locs → lv_has ls 3 [(0, .ref (ad v0)), (1, .int v1), (2, .int v2)] → W p l e (headSpec wsX11_setHold { frames := 7, cells := 0, slots := 0, locals := 166 }).room s m (List.toArray [.ref (ad p0), .int p1, .int p2]) below meth c H locs 0 0 (MQ below (QR (some (.int r9)) (QB g ad n K S9 (dA ad n s.heap.size) (True)) (dA ad n s.heap.size)) (List.toArray [.ref (ad p0), .int p1, .int p2]) s 0 0 (dA ad n s.heap.size)) (F0 m 27 ls [.int s0]) := by
    intro S0 v0 v1 v2 s0 tv0 H locs ls hf hW hS hl
    unfold f_X11_setHold_L27 at hf
    refine lv_iload_n hx hb dX11_setHold_27 rfl (lv_at hl 2 rfl) ?_
    refine lv_icmp_ne (tgt := 33) hx hb dX11_setHold_28 (by decide) (fun c30 => ?_) (fun c30 => ?_)
    · replace hf := ifT c30 hf
      refine lv_aload_n hx hb dX11_setHold_33 rfl (lv_at hl 0 rfl) ?_
      replace hf := obE hf
      obtain ⟨S32, hz31, hf⟩ := hf
      refine x_callV (As := []) (rest := []) (o := none) (S1 := S32) hC hl.1 hW hS hGs hA tv0 rfl (show vwCl[10]? = some (RX11, TX11, 30) ∧ 10 < 11 from ⟨rfl, by decide⟩) (c_X11_remember l g ad n K H.size F S0 v0 tv0 S32 hz31) (cwV 0 hts gX11_setHold_X11_remember rfl rfl rfl (by decide +kernel) ⟨Nat.le_of_ble_eq_true rfl, Nat.le_of_ble_eq_true rfl⟩) rfl rfl (Nat.le_of_ble_eq_true rfl) dX11_setHold_34 ⟨Nat.le_of_ble_eq_true rfl, Nat.le_of_ble_eq_true rfl⟩ (fun H locs hPz31 hW hS => ?_)
      refine W.eq (g2 := F0 m 37 ls []) rfl ?_
      refine lv_aload_n hx hb dX11_setHold_37 rfl (lv_at hl 0 rfl) ?_
      replace hf := obE hf
      obtain ⟨j35, qj35, hf⟩ := hf
      have tj35 := x_rt hW qj35 12 ⟨by decide, rfl⟩
      refine x_getr 1001 (ci := 10) (C := RX11) (T := TX11) (N := 30) 1 hC hin11 hW tv0 rfl rfl ⟨by decide, by decide, rfl, rfl⟩ rfl w_0 dX11_setHold_38 qj35 ?_
      refine lv_sipush (v := 205) hx hb dX11_setHold_41 (by decide) ?_
      refine lv_bipush (v := 21) hx hb dX11_setHold_44 (by decide) ?_
      refine lv_iload_n hx hb dX11_setHold_46 rfl (lv_at hl 1 rfl) ?_
      refine lv_imul hx hb dX11_setHold_47 ?_
      refine lv_iadd hx hb dX11_setHold_48 ?_
      refine lv_iconst (v := 3) hx hb dX11_setHold_49 (by decide) ?_
      refine lv_iadd hx hb dX11_setHold_50 ?_
      refine lv_iload_n hx hb dX11_setHold_51 rfl (lv_at hl 2 rfl) ?_
      refine lv_if_eq (tgt := 59) hx hb dX11_setHold_52 (by decide) (fun c36 => ?_) (fun c36 => ?_)
      · replace hf := ifT c36 hf
        refine lv_iconst (v := 0) hx hb dX11_setHold_59 (by decide) ?_
        exact L60 S32 v0 v1 v2 0 ((205 + (21 * v1)) + 3) j35 tv0 tj35 _ _ _ hf hW hS (lv_sub hl [0, 1, 2] rfl)
      · replace hf := ifF c36 hf
        refine lv_iconst (v := 1) hx hb dX11_setHold_55 (by decide) ?_
        refine lv_goto (tgt := 60) hx hb dX11_setHold_56 (by decide) ?_
        exact L60 S32 v0 v1 v2 1 ((205 + (21 * v1)) + 3) j35 tv0 tj35 _ _ _ hf hW hS (lv_sub hl [0, 1, 2] rfl)
    · replace hf := ifF (fun q => q c30) hf
      refine lv_iconst (v := 0) hx hb dX11_setHold_31 (by decide) ?_
      obtain ⟨e1, e2⟩ := so2 hf
      subst e1
      subst e2
      exact W.iret (v := 0) hx hb hr (fun t ht hWm => ⟨⟨rfl, by unfold QB; rw [ht]; exact ⟨hW, trivial⟩⟩, hS.F ht⟩) hS.2.2 dX11_setHold_32 hlk
  unfold f_X11_setHold at hf
  refine lv_aload_n hx hb dX11_setHold_0 rfl (lv_at hl 0 rfl) ?_
  refine lv_aload_n hx hb dX11_setHold_1 rfl (lv_at hl 0 rfl) ?_
  refine lv_iload_n hx hb dX11_setHold_2 rfl (lv_at hl 1 rfl) ?_
  replace hf := obE hf
  obtain ⟨z37, hz37, hf⟩ := hf
  obtain ⟨r39, S38⟩ := z37
  replace hf := ltE (ltE hf r39 rfl) S38 rfl
  refine x_callV (As := [.int p1]) (rest := [.ref (ad p0)]) (o := (some (.int r39))) (S1 := S38) hC hl.1 hW hS hGs hA tp0 rfl (show vwCl[10]? = some (RX11, TX11, 30) ∧ 10 < 11 from ⟨rfl, by decide⟩) (c_X11_isHold l g ad n K s.heap.size F S0 p0 p1 tp0 r39 S38 hz37) (cwV 1 hts gX11_setHold_X11_isHold rfl rfl rfl (by decide +kernel) ⟨Nat.le_of_ble_eq_true rfl, Nat.le_of_ble_eq_true rfl⟩) rfl rfl (Nat.le_of_ble_eq_true rfl) dX11_setHold_3 ⟨Nat.le_of_ble_eq_true rfl, Nat.le_of_ble_eq_true rfl⟩ (fun H locs hPz37 hW hS => ?_)
  refine W.eq (g2 := F0 m 6 ls [.int r39, .ref (ad p0)]) rfl ?_
  replace hf := obE hf
  obtain ⟨z41, hz41, hf⟩ := hf
  obtain ⟨r43, S42⟩ := z41
  replace hf := ltE (ltE hf r43 rfl) S42 rfl
  refine x_callV (As := [.int r39]) (rest := []) (o := (some (.int r43))) (S1 := S42) hC hl.1 hW hS hGs hA tp0 rfl (show vwCl[10]? = some (RX11, TX11, 30) ∧ 10 < 11 from ⟨rfl, by decide⟩) (c_X11_passes l g ad n K H.size F S38 p0 r39 tp0 r43 S42 hz41) (cwV 1 hts gX11_setHold_X11_passes rfl rfl rfl (by decide +kernel) ⟨Nat.le_of_ble_eq_true rfl, Nat.le_of_ble_eq_true rfl⟩) rfl rfl (Nat.le_of_ble_eq_true rfl) dX11_setHold_6 ⟨Nat.le_of_ble_eq_true rfl, Nat.le_of_ble_eq_true rfl⟩ (fun H locs hPz41 hW hS => ?_)
  refine W.eq (g2 := F0 m 9 ls [.int r43]) rfl ?_
  refine lv_if_eq (tgt := 31) hx hb dX11_setHold_9 (by decide) (fun c45 => ?_) (fun c45 => ?_)
  · replace hf := ifT c45 hf
    refine lv_iconst (v := 0) hx hb dX11_setHold_31 (by decide) ?_
    obtain ⟨e1, e2⟩ := so2 hf
    subst e1
    subst e2
    exact W.iret (v := 0) hx hb hr (fun t ht hWm => ⟨⟨rfl, by unfold QB; rw [ht]; exact ⟨hW, trivial⟩⟩, hS.F ht⟩) hS.2.2 dX11_setHold_32 hlk
  · replace hf := ifF c45 hf
    refine lv_aload_n hx hb dX11_setHold_12 rfl (lv_at hl 0 rfl) ?_
    refine lv_iload_n hx hb dX11_setHold_13 rfl (lv_at hl 1 rfl) ?_
    refine lv_iconst (v := 3) hx hb dX11_setHold_14 (by decide) ?_
    replace hf := obE hf
    obtain ⟨z46, hz46, hf⟩ := hf
    obtain ⟨r48, S47⟩ := z46
    replace hf := ltE (ltE hf r48 rfl) S47 rfl
    refine x_callV (As := [.int p1, .int 3]) (rest := []) (o := (some (.int r48))) (S1 := S47) hC hl.1 hW hS hGs hA tp0 rfl (show vwCl[10]? = some (RX11, TX11, 30) ∧ 10 < 11 from ⟨rfl, by decide⟩) (c_X11_holdValue l g ad n K H.size F S42 p0 p1 ((3 : Int32)) tp0 r48 S47 hz46) (cwV 2 hts gX11_setHold_X11_holdValue rfl rfl rfl (by decide +kernel) ⟨Nat.le_of_ble_eq_true rfl, Nat.le_of_ble_eq_true rfl⟩) rfl rfl (Nat.le_of_ble_eq_true rfl) dX11_setHold_15 ⟨Nat.le_of_ble_eq_true rfl, Nat.le_of_ble_eq_true rfl⟩ (fun H locs hPz46 hW hS => ?_)
    refine W.eq (g2 := F0 m 18 ls [.int r48]) rfl ?_
    refine lv_iconst (v := 1) hx hb dX11_setHold_18 (by decide) ?_
    refine lv_icmp_ne (tgt := 26) hx hb dX11_setHold_19 (by decide) (fun c50 => ?_) (fun c50 => ?_)
    · replace hf := ifT c50 hf
      refine lv_iconst (v := 0) hx hb dX11_setHold_26 (by decide) ?_
      exact L27 S47 p0 p1 p2 0 tp0 _ _ _ hf hW hS (lv_sub hl [0, 1, 2] rfl)
    · replace hf := ifF (fun q => q c50) hf
      refine lv_iconst (v := 1) hx hb dX11_setHold_22 (by decide) ?_
      refine lv_goto (tgt := 27) hx hb dX11_setHold_23 (by decide) ?_
      exact L27 S47 p0 p1 p2 1 tp0 _ _ _ hf hW hS (lv_sub hl [0, 1, 2] rfl)
set_option maxHeartbeats 4000000 in
set_option maxRecDepth 100000 in
theorem c_X11_heldOnlyBy (l : Launch) (g : GP) (ad : Nat → Nat) (n : Nat) (K : Nat → Nat) (sz F : Nat) (S0 : St) (p0 : Nat) (p1 : Int32) (tp0 : p0 < n ∧ K p0 = 10) (r9 : Int32) (S9 : St) (hf : f_X11_heldOnlyBy F S0 p0 p1 = some (r9, S9)) : Met l yX11_heldOnlyBy wsX11_heldOnlyBy { frames := 6, cells := 0, slots := 0, locals := 143 } (va_Pc [.ref (ad p0), .int p1] (PB g ad n K S0 sz)) (QR (some (.int r9)) (QB g ad n K S9 (dA ad n sz) (True)) (dA ad n sz)) 0 0 (dA ad n sz) := by
  refine Met.ofW (cc := cX11_heldOnlyBy) (maxL := 5) (ret := (some .int)) (by decide) rfl ?_
  intro p e s m args below meth c s₁ B hml hv
  obtain ⟨rfl, hsz, hW, hK, hGs⟩ := x_start hv
  subst hsz
  have hx := B.exec
  have hb := B.bytes
  have hr := B.returns
  have hts := atoms_spec (ws := wsX11_heldOnlyBy) B.pre
  have hown : s.vm.findClass RX11 = some m.cls := findClass_of_methodNamed B.named
  have hlk := B.notSynchronized
  have hC : Cx g p s m _ c cX11_heldOnlyBy RX11 wsX11_heldOnlyBy 5 := ⟨hx, hb, hml, hown, hts, hK⟩
  have hA : ∀ q : Nat, s.heap.size ≤ q → dA ad n s.heap.size q := fun q h => Or.inr h
  have hS : va_S (dA ad n s.heap.size) s.heap s.heap [] := va_S.rf
  have hl := lv_entry ([.ref (ad p0), .int p1]) (n := 5) (Nat.le_of_ble_eq_true rfl)
  rw [lg_entry_eq]
  generalize (lg_sl ([.ref (ad p0), .int p1]) ++ List.replicate (5 - (lg_sl ([.ref (ad p0), .int p1])).length) Slot.unset).toArray = ls at hl ⊢
  have hl : lv_has ls 5 [(0, .ref (ad p0)), (1, .int p1)] := hl
  have hin11 : ∀ w ∈ wsX110, w ∈ wsX11_heldOnlyBy := by decide +kernel
  have w_0 := hts (.fieldLink RX11 17 "MailSpoolModel" "net" "[I") (by decide +kernel)
  have hGE := hGs.2.2.2.2.2.2.1
  have hGM := hGs.2.2.2.2.2.2.2.1
  have L26 : ∀ (fu26 : Nat) (S0 : St) (v0 : Nat) (v1 : Int32) (v2 : Int32) (v3 : Int32) (v4 : Int32) (tv0 : v0 < n ∧ K v0 = 10) (H : Heap) (locs : List Loc) (ls : Array Slot), f_X11_heldOnlyBy_L26 F fu26 S0 v0 v1 v2 v3 v4 = some (r9, S9) → Wb g ad n K S0 (dA ad n s.heap.size) H → va_S (dA ad n s.heap.size) s.heap H locs → lv_has ls 5 [(0, .ref (ad v0)), (1, .int v1), (2, .int v2), (3, .int v3), (4, .int v4)] → W p l e (headSpec wsX11_heldOnlyBy { frames := 6, cells := 0, slots := 0, locals := 143 }).room s m (List.toArray [.ref (ad p0), .int p1]) below meth c H locs 0 0 (MQ below (QR (some (.int r9)) (QB g ad n K S9 (dA ad n s.heap.size) (True)) (dA ad n s.heap.size)) (List.toArray [.ref (ad p0), .int p1]) s 0 0 (dA ad n s.heap.size)) (F0 m 26 ls []) := by
    intro fu26
    induction fu26 with
    | zero =>
      intro S0 v0 v1 v2 v3 v4 tv0 H locs ls hf
      cases hf
    | succ fu26 ih26 =>
      have L67 : ∀ (S0 : St) (v0 : Nat) (v1 : Int32) (v2 : Int32) (v4 : Int32) (s0 : Int32) (s1 : Int32) (tv0 : v0 < n ∧ K v0 = 10) (H : Heap) (locs : List Loc) (ls : Array Slot), f_X11_heldOnlyBy_L67 F (fun a0 a1 a2 a3 a4 a5 => f_X11_heldOnlyBy_L26 F fu26 a0 a1 a2 a3 a4 a5) S0 v0 v1 v2 v4 s0 s1 = some (r9, S9) → Wb g ad n K S0 (dA ad n s.heap.size) H → va_S (dA ad n s.heap.size) s.heap H locs → lv_has ls 5 [(0, .ref (ad v0)), (1, .int v1), (2, .int v2), (4, .int v4)] → W p l e (headSpec wsX11_heldOnlyBy { frames := 6, cells := 0, slots := 0, locals := 143 }).room s m (List.toArray [.ref (ad p0), .int p1]) below meth c H locs 0 0 (MQ below (QR (some (.int r9)) (QB g ad n K S9 (dA ad n s.heap.size) (True)) (dA ad n s.heap.size)) (List.toArray [.ref (ad p0), .int p1]) s 0 0 (dA ad n s.heap.size)) (F0 m 67 ls [.int s0, .int s1]) := by
        intro S0 v0 v1 v2 v4 s0 s1 tv0 H locs ls hf hW hS hl
        unfold f_X11_heldOnlyBy_L67 at hf
        refine lv_iadd hx hb dX11_heldOnlyBy_67 ?_
        refine lv_topi (fun x3 ex3 => ?_)
        replace hf := ltE hf x3 ex3
        refine lv_istore_n (lv' := [(3, .int x3), (0, .ref (ad v0)), (1, .int v1), (2, .int v2), (4, .int v4)]) hx hb dX11_heldOnlyBy_68 rfl hl (by decide) rfl (fun ls hl => ?_)
        obtain ⟨x4, ex4⟩ : ∃ z : Int32, z = v4 + 1 := ⟨_, rfl⟩
        replace hf := ltE hf x4 ex4
        refine lv_iinc (v := x4) (lv' := [(4, .int x4), (3, .int x3), (0, .ref (ad v0)), (1, .int v1), (2, .int v2)]) hx hb dX11_heldOnlyBy_69 hl (k := 4) rfl (by rw [ex4]; rfl) (by decide) rfl (fun ls hl => ?_)
        refine lv_goto (tgt := 26) hx hb dX11_heldOnlyBy_72 (by decide) ?_
        exact ih26 S0 v0 v1 v2 x3 x4 tv0 _ _ _ hf hW hS (lv_sub hl [2, 3, 4, 1, 0] rfl)
      have L66 : ∀ (S0 : St) (v0 : Nat) (v1 : Int32) (v2 : Int32) (v4 : Int32) (s0 : Int32) (tv0 : v0 < n ∧ K v0 = 10) (H : Heap) (locs : List Loc) (ls : Array Slot), f_X11_heldOnlyBy_L66 F (fun a0 a1 a2 a3 a4 a5 => f_X11_heldOnlyBy_L26 F fu26 a0 a1 a2 a3 a4 a5) S0 v0 v1 v2 v4 s0 = some (r9, S9) → Wb g ad n K S0 (dA ad n s.heap.size) H → va_S (dA ad n s.heap.size) s.heap H locs → lv_has ls 5 [(0, .ref (ad v0)), (1, .int v1), (2, .int v2), (4, .int v4)] → W p l e (headSpec wsX11_heldOnlyBy { frames := 6, cells := 0, slots := 0, locals := 143 }).room s m (List.toArray [.ref (ad p0), .int p1]) below meth c H locs 0 0 (MQ below (QR (some (.int r9)) (QB g ad n K S9 (dA ad n s.heap.size) (True)) (dA ad n s.heap.size)) (List.toArray [.ref (ad p0), .int p1]) s 0 0 (dA ad n s.heap.size)) (F0 m 66 ls [.int s0]) := by
        intro S0 v0 v1 v2 v4 s0 tv0 H locs ls hf hW hS hl
        unfold f_X11_heldOnlyBy_L66 at hf
        refine lv_iconst (v := 0) hx hb dX11_heldOnlyBy_66 (by decide) ?_
        exact L67 S0 v0 v1 v2 v4 0 s0 tv0 _ _ _ hf hW hS (lv_sub hl [0, 1, 2, 3] rfl)
      intro S0 v0 v1 v2 v3 v4 tv0 H locs ls hf hW hS hl
      unfold f_X11_heldOnlyBy_L26 at hf
      refine lv_iload hx hb dX11_heldOnlyBy_26 (lv_at hl 4 rfl) ?_
      refine lv_aload_n hx hb dX11_heldOnlyBy_28 rfl (lv_at hl 0 rfl) ?_
      replace hf := obE hf
      obtain ⟨j18, qj18, hf⟩ := hf
      have tj18 := x_rt hW qj18 12 ⟨by decide, rfl⟩
      refine x_getr 1001 (ci := 10) (C := RX11) (T := TX11) (N := 30) 1 hC hin11 hW tv0 rfl rfl ⟨by decide, by decide, rfl, rfl⟩ rfl w_0 dX11_heldOnlyBy_29 qj18 ?_
      refine lv_bipush (v := 7) hx hb dX11_heldOnlyBy_32 (by decide) ?_
      replace hf := ckiE hf
      obtain ⟨h19, hf⟩ := hf
      refine x_iald hC hW tj18 rfl rfl h19 dX11_heldOnlyBy_34 ?_
      refine lv_icmp_ge (tgt := 75) hx hb dX11_heldOnlyBy_35 (by decide) (fun c20 => ?_) (fun c20 => ?_)
      · replace hf := ifT c20 hf
        refine lv_iload_n hx hb dX11_heldOnlyBy_75 rfl (lv_at hl 3 rfl) ?_
        obtain ⟨e1, e2⟩ := so2 hf
        subst e1
        subst e2
        exact W.iret (v := v3) hx hb hr (fun t ht hWm => ⟨⟨rfl, by unfold QB; rw [ht]; exact ⟨hW, trivial⟩⟩, hS.F ht⟩) hS.2.2 dX11_heldOnlyBy_76 hlk
      · replace hf := ifF c20 hf
        refine lv_iload_n hx hb dX11_heldOnlyBy_38 rfl (lv_at hl 3 rfl) ?_
        refine lv_aload_n hx hb dX11_heldOnlyBy_39 rfl (lv_at hl 0 rfl) ?_
        refine lv_iload hx hb dX11_heldOnlyBy_40 (lv_at hl 4 rfl) ?_
        refine lv_iload_n hx hb dX11_heldOnlyBy_42 rfl (lv_at hl 2 rfl) ?_
        replace hf := obE hf
        obtain ⟨z21, hz21, hf⟩ := hf
        obtain ⟨r23, S22⟩ := z21
        replace hf := ltE (ltE hf r23 rfl) S22 rfl
        refine x_callV (As := [.int v4, .int v2]) (rest := [.int v3]) (o := (some (.int r23))) (S1 := S22) hC hl.1 hW hS hGs hA tv0 rfl (show vwCl[10]? = some (RX11, TX11, 30) ∧ 10 < 11 from ⟨rfl, by decide⟩) (c_X11_isHidden l g ad n K H.size F S0 v0 v4 v2 tv0 r23 S22 hz21) (cwV 2 hts gX11_heldOnlyBy_X11_isHidden rfl rfl rfl (by decide +kernel) ⟨Nat.le_of_ble_eq_true rfl, Nat.le_of_ble_eq_true rfl⟩) rfl rfl (Nat.le_of_ble_eq_true rfl) dX11_heldOnlyBy_43 ⟨Nat.le_of_ble_eq_true rfl, Nat.le_of_ble_eq_true rfl⟩ (fun H locs hPz21 hW hS => ?_)
        refine W.eq (g2 := F0 m 46 ls [.int r23, .int v3]) rfl ?_
        refine lv_if_eq (tgt := 66) hx hb dX11_heldOnlyBy_46 (by decide) (fun c25 => ?_) (fun c25 => ?_)
        · replace hf := ifT c25 hf
          exact L66 S22 v0 v1 v2 v4 v3 tv0 _ _ _ hf hW hS (lv_sub hl [0, 1, 2, 4] rfl)
        · replace hf := ifF c25 hf
          refine lv_aload_n hx hb dX11_heldOnlyBy_49 rfl (lv_at hl 0 rfl) ?_
          refine lv_iload hx hb dX11_heldOnlyBy_50 (lv_at hl 4 rfl) ?_
          refine lv_iload_n hx hb dX11_heldOnlyBy_52 rfl (lv_at hl 2 rfl) ?_
          replace hf := obE hf
          obtain ⟨z26, hz26, hf⟩ := hf
          obtain ⟨r28, S27⟩ := z26
          replace hf := ltE (ltE hf r28 rfl) S27 rfl
          refine x_callV (As := [.int v4, .int v2]) (rest := [.int v3]) (o := (some (.int r28))) (S1 := S27) hC hl.1 hW hS hGs hA tv0 rfl (show vwCl[10]? = some (RX11, TX11, 30) ∧ 10 < 11 from ⟨rfl, by decide⟩) (c_X11_covers l g ad n K H.size F S22 v0 v4 v2 tv0 r28 S27 hz26) (cwV 2 hts gX11_heldOnlyBy_X11_covers rfl rfl rfl (by decide +kernel) ⟨Nat.le_of_ble_eq_true rfl, Nat.le_of_ble_eq_true rfl⟩) rfl rfl (Nat.le_of_ble_eq_true rfl) dX11_heldOnlyBy_53 ⟨Nat.le_of_ble_eq_true rfl, Nat.le_of_ble_eq_true rfl⟩ (fun H locs hPz26 hW hS => ?_)
          refine W.eq (g2 := F0 m 56 ls [.int r28, .int v3]) rfl ?_
          refine lv_iconst (v := 1) hx hb dX11_heldOnlyBy_56 (by decide) ?_
          refine lv_iload_n hx hb dX11_heldOnlyBy_57 rfl (lv_at hl 1 rfl) ?_
          refine lv_ishl hx hb dX11_heldOnlyBy_58 ?_
          refine lv_icmp_ne (tgt := 66) hx hb dX11_heldOnlyBy_59 (by decide) (fun c30 => ?_) (fun c30 => ?_)
          · replace hf := ifT c30 hf
            exact L66 S27 v0 v1 v2 v4 v3 tv0 _ _ _ hf hW hS (lv_sub hl [0, 1, 2, 4] rfl)
          · replace hf := ifF (fun q => q c30) hf
            refine lv_iconst (v := 1) hx hb dX11_heldOnlyBy_62 (by decide) ?_
            refine lv_goto (tgt := 67) hx hb dX11_heldOnlyBy_63 (by decide) ?_
            exact L67 S27 v0 v1 v2 v4 1 v3 tv0 _ _ _ hf hW hS (lv_sub hl [0, 1, 2, 4] rfl)
  unfold f_X11_heldOnlyBy at hf
  refine lv_aload_n hx hb dX11_heldOnlyBy_0 rfl (lv_at hl 0 rfl) ?_
  refine lv_aload_n hx hb dX11_heldOnlyBy_1 rfl (lv_at hl 0 rfl) ?_
  refine lv_iload_n hx hb dX11_heldOnlyBy_2 rfl (lv_at hl 1 rfl) ?_
  replace hf := obE hf
  obtain ⟨z31, hz31, hf⟩ := hf
  obtain ⟨r33, S32⟩ := z31
  replace hf := ltE (ltE hf r33 rfl) S32 rfl
  refine x_callV (As := [.int p1]) (rest := [.ref (ad p0)]) (o := (some (.int r33))) (S1 := S32) hC hl.1 hW hS hGs hA tp0 rfl (show vwCl[10]? = some (RX11, TX11, 30) ∧ 10 < 11 from ⟨rfl, by decide⟩) (c_X11_isHold l g ad n K s.heap.size F S0 p0 p1 tp0 r33 S32 hz31) (cwV 1 hts gX11_heldOnlyBy_X11_isHold rfl rfl rfl (by decide +kernel) ⟨Nat.le_of_ble_eq_true rfl, Nat.le_of_ble_eq_true rfl⟩) rfl rfl (Nat.le_of_ble_eq_true rfl) dX11_heldOnlyBy_3 ⟨Nat.le_of_ble_eq_true rfl, Nat.le_of_ble_eq_true rfl⟩ (fun H locs hPz31 hW hS => ?_)
  refine W.eq (g2 := F0 m 6 ls [.int r33, .ref (ad p0)]) rfl ?_
  replace hf := obE hf
  obtain ⟨z35, hz35, hf⟩ := hf
  obtain ⟨r37, S36⟩ := z35
  replace hf := ltE (ltE hf r37 rfl) S36 rfl
  refine x_callV (As := [.int r33]) (rest := []) (o := (some (.int r37))) (S1 := S36) hC hl.1 hW hS hGs hA tp0 rfl (show vwCl[10]? = some (RX11, TX11, 30) ∧ 10 < 11 from ⟨rfl, by decide⟩) (c_X11_passes l g ad n K H.size F S32 p0 r33 tp0 r37 S36 hz35) (cwV 1 hts gX11_heldOnlyBy_X11_passes rfl rfl rfl (by decide +kernel) ⟨Nat.le_of_ble_eq_true rfl, Nat.le_of_ble_eq_true rfl⟩) rfl rfl (Nat.le_of_ble_eq_true rfl) dX11_heldOnlyBy_6 ⟨Nat.le_of_ble_eq_true rfl, Nat.le_of_ble_eq_true rfl⟩ (fun H locs hPz35 hW hS => ?_)
  refine W.eq (g2 := F0 m 9 ls [.int r37]) rfl ?_
  refine lv_if_ne (tgt := 14) hx hb dX11_heldOnlyBy_9 (by decide) (fun c39 => ?_) (fun c39 => ?_)
  · replace hf := ifT c39 hf
    refine lv_aload_n hx hb dX11_heldOnlyBy_14 rfl (lv_at hl 0 rfl) ?_
    refine lv_iload_n hx hb dX11_heldOnlyBy_15 rfl (lv_at hl 1 rfl) ?_
    refine lv_iconst (v := 0) hx hb dX11_heldOnlyBy_16 (by decide) ?_
    replace hf := obE hf
    obtain ⟨z40, hz40, hf⟩ := hf
    obtain ⟨r42, S41⟩ := z40
    replace hf := ltE (ltE hf r42 rfl) S41 rfl
    refine x_callV (As := [.int p1, .int 0]) (rest := []) (o := (some (.int r42))) (S1 := S41) hC hl.1 hW hS hGs hA tp0 rfl (show vwCl[10]? = some (RX11, TX11, 30) ∧ 10 < 11 from ⟨rfl, by decide⟩) (c_X11_holdValue l g ad n K H.size F S36 p0 p1 ((0 : Int32)) tp0 r42 S41 hz40) (cwV 2 hts gX11_heldOnlyBy_X11_holdValue rfl rfl rfl (by decide +kernel) ⟨Nat.le_of_ble_eq_true rfl, Nat.le_of_ble_eq_true rfl⟩) rfl rfl (Nat.le_of_ble_eq_true rfl) dX11_heldOnlyBy_17 ⟨Nat.le_of_ble_eq_true rfl, Nat.le_of_ble_eq_true rfl⟩ (fun H locs hPz40 hW hS => ?_)
    refine W.eq (g2 := F0 m 20 ls [.int r42]) rfl ?_
    refine lv_istore_n (lv' := [(2, .int r42), (0, .ref (ad p0)), (1, .int p1)]) hx hb dX11_heldOnlyBy_20 rfl hl (by decide) rfl (fun ls hl => ?_)
    refine lv_iconst (v := 0) hx hb dX11_heldOnlyBy_21 (by decide) ?_
    refine lv_istore_n (lv' := [(3, .int 0), (2, .int r42), (0, .ref (ad p0)), (1, .int p1)]) hx hb dX11_heldOnlyBy_22 rfl hl (by decide) rfl (fun ls hl => ?_)
    refine lv_iconst (v := 0) hx hb dX11_heldOnlyBy_23 (by decide) ?_
    refine lv_istore (lv' := [(4, .int 0), (3, .int 0), (2, .int r42), (0, .ref (ad p0)), (1, .int p1)]) hx hb dX11_heldOnlyBy_24 hl (by decide) rfl (fun ls hl => ?_)
    exact L26 F S41 p0 p1 r42 0 0 tp0 _ _ _ hf hW hS (lv_sub hl [3, 4, 2, 1, 0] rfl)
  · replace hf := ifF (fun q => q c39) hf
    refine lv_iconst (v := 0) hx hb dX11_heldOnlyBy_12 (by decide) ?_
    obtain ⟨e1, e2⟩ := so2 hf
    subst e1
    subst e2
    exact W.iret (v := 0) hx hb hr (fun t ht hWm => ⟨⟨rfl, by unfold QB; rw [ht]; exact ⟨hW, trivial⟩⟩, hS.F ht⟩) hS.2.2 dX11_heldOnlyBy_13 hlk
set_option maxHeartbeats 4000000 in
set_option maxRecDepth 100000 in
theorem c_X11_setQuota (l : Launch) (g : GP) (ad : Nat → Nat) (n : Nat) (K : Nat → Nat) (sz F : Nat) (S0 : St) (p0 : Nat) (p1 : Int32) (p2 : Int32) (tp0 : p0 < n ∧ K p0 = 10) (r9 : Int32) (S9 : St) (hf : f_X11_setQuota F S0 p0 p1 p2 = some (r9, S9)) : Met l yX11_setQuota wsX11_setQuota { frames := 2, cells := 0, slots := 0, locals := 46 } (va_Pc [.ref (ad p0), .int p1, .int p2] (PB g ad n K S0 sz)) (QR (some (.int r9)) (QB g ad n K S9 (dA ad n sz) (True)) (dA ad n sz)) 0 0 (dA ad n sz) := by
  refine Met.ofW (cc := cX11_setQuota) (maxL := 4) (ret := (some .int)) (by decide) rfl ?_
  intro p e s m args below meth c s₁ B hml hv
  obtain ⟨rfl, hsz, hW, hK, hGs⟩ := x_start hv
  subst hsz
  have hx := B.exec
  have hb := B.bytes
  have hr := B.returns
  have hts := atoms_spec (ws := wsX11_setQuota) B.pre
  have hown : s.vm.findClass RX11 = some m.cls := findClass_of_methodNamed B.named
  have hlk := B.notSynchronized
  have hC : Cx g p s m _ c cX11_setQuota RX11 wsX11_setQuota 4 := ⟨hx, hb, hml, hown, hts, hK⟩
  have hA : ∀ q : Nat, s.heap.size ≤ q → dA ad n s.heap.size q := fun q h => Or.inr h
  have hS : va_S (dA ad n s.heap.size) s.heap s.heap [] := va_S.rf
  have hl := lv_entry ([.ref (ad p0), .int p1, .int p2]) (n := 4) (Nat.le_of_ble_eq_true rfl)
  rw [lg_entry_eq]
  generalize (lg_sl ([.ref (ad p0), .int p1, .int p2]) ++ List.replicate (4 - (lg_sl ([.ref (ad p0), .int p1, .int p2])).length) Slot.unset).toArray = ls at hl ⊢
  have hl : lv_has ls 4 [(0, .ref (ad p0)), (1, .int p1), (2, .int p2)] := hl
  have hin11 : ∀ w ∈ wsX110, w ∈ wsX11_setQuota := by decide +kernel
  have w_0 := hts (.constantLong RX11 425 (99999)) (by decide +kernel)
  have w_1 := hts (.fieldLink RX11 17 "MailSpoolModel" "net" "[I") (by decide +kernel)
  have hGE := hGs.2.2.2.2.2.2.1
  have hGM := hGs.2.2.2.2.2.2.2.1
  unfold f_X11_setQuota at hf
  refine lv_aload_n hx hb dX11_setQuota_0 rfl (lv_at hl 0 rfl) ?_
  refine lv_aload_n hx hb dX11_setQuota_1 rfl (lv_at hl 0 rfl) ?_
  refine lv_iload_n hx hb dX11_setQuota_2 rfl (lv_at hl 1 rfl) ?_
  replace hf := obE hf
  obtain ⟨z1, hz1, hf⟩ := hf
  obtain ⟨r3, S2⟩ := z1
  replace hf := ltE (ltE hf r3 rfl) S2 rfl
  refine x_callV (As := [.int p1]) (rest := [.ref (ad p0)]) (o := (some (.int r3))) (S1 := S2) hC hl.1 hW hS hGs hA tp0 rfl (show vwCl[10]? = some (RX11, TX11, 30) ∧ 10 < 11 from ⟨rfl, by decide⟩) (c_X11_isUser l g ad n K s.heap.size F S0 p0 p1 tp0 r3 S2 hz1) (cwV 1 hts gX11_setQuota_X11_isUser rfl rfl rfl (by decide +kernel) ⟨Nat.le_of_ble_eq_true rfl, Nat.le_of_ble_eq_true rfl⟩) rfl rfl (Nat.le_of_ble_eq_true rfl) dX11_setQuota_3 ⟨Nat.le_of_ble_eq_true rfl, Nat.le_of_ble_eq_true rfl⟩ (fun H locs hPz1 hW hS => ?_)
  refine W.eq (g2 := F0 m 6 ls [.int r3, .ref (ad p0)]) rfl ?_
  refine lv_iload_n hx hb dX11_setQuota_6 rfl (lv_at hl 2 rfl) ?_
  refine lv_i2l (v := p2.toInt64) hx hb dX11_setQuota_7 rfl ?_
  refine lv_lconst (v := 1) hx hb dX11_setQuota_8 (by decide) ?_
  refine lv_ldc2 (v := (99999)) hx hb hown w_0 dX11_setQuota_9 ?_
  replace hf := obE hf
  obtain ⟨z5, hz5, hf⟩ := hf
  obtain ⟨r7, S6⟩ := z5
  replace hf := ltE (ltE hf r7 rfl) S6 rfl
  refine x_callS (As := [.long (p2.toInt64), .long (1), .long ((99999))]) (rest := [.int r3, .ref (ad p0)]) (o := (some (.int r7))) (S1 := S6) hC hl.1 hW hS hGs hA (c_X11_in l g ad n K H.size F S2 p2.toInt64 ((1 : Int64)) (((99999) : Int64)) r7 S6 hz5) (va_cwS 3 hts gX11_setQuota_X11_in rfl rfl rfl (by decide +kernel) ⟨Nat.le_of_ble_eq_true rfl, Nat.le_of_ble_eq_true rfl⟩) rfl rfl (Nat.le_of_ble_eq_true rfl) dX11_setQuota_12 ⟨Nat.le_of_ble_eq_true rfl, Nat.le_of_ble_eq_true rfl⟩ (fun H locs hPz5 hW hS => ?_)
  refine W.eq (g2 := F0 m 15 ls [.int r7, .int r3, .ref (ad p0)]) rfl ?_
  replace hf := obE hf
  obtain ⟨z9, hz9, hf⟩ := hf
  obtain ⟨r11, S10⟩ := z9
  replace hf := ltE (ltE hf r11 rfl) S10 rfl
  refine x_callV (As := [.int r3, .int r7]) (rest := []) (o := (some (.int r11))) (S1 := S10) hC hl.1 hW hS hGs hA tp0 rfl (show vwCl[10]? = some (RX11, TX11, 30) ∧ 10 < 11 from ⟨rfl, by decide⟩) (c_X11_passes2 l g ad n K H.size F S6 p0 r3 r7 tp0 r11 S10 hz9) (cwV 2 hts gX11_setQuota_X11_passes2 rfl rfl rfl (by decide +kernel) ⟨Nat.le_of_ble_eq_true rfl, Nat.le_of_ble_eq_true rfl⟩) rfl rfl (Nat.le_of_ble_eq_true rfl) dX11_setQuota_15 ⟨Nat.le_of_ble_eq_true rfl, Nat.le_of_ble_eq_true rfl⟩ (fun H locs hPz9 hW hS => ?_)
  refine W.eq (g2 := F0 m 18 ls [.int r11]) rfl ?_
  refine lv_if_ne (tgt := 23) hx hb dX11_setQuota_18 (by decide) (fun c13 => ?_) (fun c13 => ?_)
  · replace hf := ifT c13 hf
    refine lv_aload_n hx hb dX11_setQuota_23 rfl (lv_at hl 0 rfl) ?_
    replace hf := obE hf
    obtain ⟨j14, qj14, hf⟩ := hf
    have tj14 := x_rt hW qj14 12 ⟨by decide, rfl⟩
    refine x_getr 1001 (ci := 10) (C := RX11) (T := TX11) (N := 30) 1 hC hin11 hW tp0 rfl rfl ⟨by decide, by decide, rfl, rfl⟩ rfl w_1 dX11_setQuota_24 qj14 ?_
    refine lv_bipush (v := 83) hx hb dX11_setQuota_27 (by decide) ?_
    refine lv_bipush (v := 8) hx hb dX11_setQuota_29 (by decide) ?_
    refine lv_iload_n hx hb dX11_setQuota_31 rfl (lv_at hl 1 rfl) ?_
    refine lv_imul hx hb dX11_setQuota_32 ?_
    refine lv_iadd hx hb dX11_setQuota_33 ?_
    refine lv_iconst (v := 1) hx hb dX11_setQuota_34 (by decide) ?_
    refine lv_iadd hx hb dX11_setQuota_35 ?_
    replace hf := ckiE hf
    obtain ⟨h15, hf⟩ := hf
    refine x_iald hC hW tj14 rfl rfl h15 dX11_setQuota_36 ?_
    refine lv_topi (fun x16 ex16 => ?_)
    replace hf := ltE hf x16 ex16
    refine lv_istore_n (lv' := [(3, .int x16), (0, .ref (ad p0)), (1, .int p1), (2, .int p2)]) hx hb dX11_setQuota_37 rfl hl (by decide) rfl (fun ls hl => ?_)
    refine lv_iload_n hx hb dX11_setQuota_38 rfl (lv_at hl 0 rfl) ?_
    refine lv_iload_n hx hb dX11_setQuota_39 rfl (lv_at hl 3 rfl) ?_
    refine lv_icmp_ne (tgt := 45) hx hb dX11_setQuota_40 (by decide) (fun c17 => ?_) (fun c17 => ?_)
    · replace hf := ifT c17 hf
      refine lv_aload_n hx hb dX11_setQuota_45 rfl (lv_at hl 1 rfl) ?_
      replace hf := obE hf
      obtain ⟨S19, hz18, hf⟩ := hf
      refine x_callV (As := []) (rest := []) (o := none) (S1 := S19) hC hl.1 hW hS hGs hA tp0 rfl (show vwCl[10]? = some (RX11, TX11, 30) ∧ 10 < 11 from ⟨rfl, by decide⟩) (c_X11_remember l g ad n K H.size F S10 p0 tp0 S19 hz18) (cwV 0 hts gX11_setQuota_X11_remember rfl rfl rfl (by decide +kernel) ⟨Nat.le_of_ble_eq_true rfl, Nat.le_of_ble_eq_true rfl⟩) rfl rfl (Nat.le_of_ble_eq_true rfl) dX11_setQuota_46 ⟨Nat.le_of_ble_eq_true rfl, Nat.le_of_ble_eq_true rfl⟩ (fun H locs hPz18 hW hS => ?_)
      refine W.eq (g2 := F0 m 49 ls []) rfl ?_
      refine lv_aload_n hx hb dX11_setQuota_49 rfl (lv_at hl 1 rfl) ?_
      replace hf := obE hf
      obtain ⟨j22, qj22, hf⟩ := hf
      have tj22 := x_rt hW qj22 12 ⟨by decide, rfl⟩
      refine x_getr 1001 (ci := 10) (C := RX11) (T := TX11) (N := 30) 1 hC hin11 hW tp0 rfl rfl ⟨by decide, by decide, rfl, rfl⟩ rfl w_1 dX11_setQuota_50 qj22 ?_
      refine lv_bipush (v := 83) hx hb dX11_setQuota_53 (by decide) ?_
      refine lv_bipush (v := 8) hx hb dX11_setQuota_55 (by decide) ?_
      refine lv_iload_n hx hb dX11_setQuota_57 rfl (lv_at hl 2 rfl) ?_
      refine lv_imul hx hb dX11_setQuota_58 ?_
      refine lv_iadd hx hb dX11_setQuota_59 ?_
      refine lv_iconst (v := 1) hx hb dX11_setQuota_60 (by decide) ?_
      refine lv_iadd hx hb dX11_setQuota_61 ?_
      refine lv_iload_n hx hb dX11_setQuota_62 rfl (lv_at hl 3 rfl) ?_
      replace hf := ckiE hf
      obtain ⟨h23, hf⟩ := hf
      refine x_iast hC hW hS tj22 rfl rfl h23 dX11_setQuota_63 (fun S24 H locs eS24 hW hS => ?_)
      replace hf := ltE hf S24 eS24
      refine lv_iload_n hx hb dX11_setQuota_64 rfl (lv_at hl 0 rfl) ?_
      obtain ⟨e1, e2⟩ := so2 hf
      subst e1
      subst e2
      exact W.iret (v := x16) hx hb hr (fun t ht hWm => ⟨⟨rfl, by unfold QB; rw [ht]; exact ⟨hW, trivial⟩⟩, hS.F ht⟩) hS.2.2 dX11_setQuota_65 hlk
    · replace hf := ifF (fun q => q c17) hf
      refine lv_iload_n hx hb dX11_setQuota_43 rfl (lv_at hl 0 rfl) ?_
      obtain ⟨e1, e2⟩ := so2 hf
      subst e1
      subst e2
      exact W.iret (v := x16) hx hb hr (fun t ht hWm => ⟨⟨rfl, by unfold QB; rw [ht]; exact ⟨hW, trivial⟩⟩, hS.F ht⟩) hS.2.2 dX11_setQuota_44 hlk
  · replace hf := ifF (fun q => q c13) hf
    refine lv_iconst (v := 0) hx hb dX11_setQuota_21 (by decide) ?_
    obtain ⟨e1, e2⟩ := so2 hf
    subst e1
    subst e2
    exact W.iret (v := 0) hx hb hr (fun t ht hWm => ⟨⟨rfl, by unfold QB; rw [ht]; exact ⟨hW, trivial⟩⟩, hS.F ht⟩) hS.2.2 dX11_setQuota_22 hlk
set_option maxHeartbeats 4000000 in
set_option maxRecDepth 100000 in
theorem c_X11_countLives (l : Launch) (g : GP) (ad : Nat → Nat) (n : Nat) (K : Nat → Nat) (sz F : Nat) (S0 : St) (p0 : Nat) (tp0 : p0 < n ∧ K p0 = 10) (S9 : St) (hf : f_X11_countLives F S0 p0 = some S9) : Met l yX11_countLives wsX11_countLives { frames := 1, cells := 0, slots := 0, locals := 21 } (va_Pc [.ref (ad p0)] (PB g ad n K S0 sz)) (QR none (QB g ad n K S9 (dA ad n sz) (True)) (dA ad n sz)) 0 0 (dA ad n sz) := by
  refine Met.ofW (cc := cX11_countLives) (maxL := 4) (ret := none) (by decide) rfl ?_
  intro p e s m args below meth c s₁ B hml hv
  obtain ⟨rfl, hsz, hW, hK, hGs⟩ := x_start hv
  subst hsz
  have hx := B.exec
  have hb := B.bytes
  have hr := B.returns
  have hts := atoms_spec (ws := wsX11_countLives) B.pre
  have hown : s.vm.findClass RX11 = some m.cls := findClass_of_methodNamed B.named
  have hlk := B.notSynchronized
  have hC : Cx g p s m _ c cX11_countLives RX11 wsX11_countLives 4 := ⟨hx, hb, hml, hown, hts, hK⟩
  have hA : ∀ q : Nat, s.heap.size ≤ q → dA ad n s.heap.size q := fun q h => Or.inr h
  have hS : va_S (dA ad n s.heap.size) s.heap s.heap [] := va_S.rf
  have hl := lv_entry ([.ref (ad p0)]) (n := 4) (Nat.le_of_ble_eq_true rfl)
  rw [lg_entry_eq]
  generalize (lg_sl ([.ref (ad p0)]) ++ List.replicate (4 - (lg_sl ([.ref (ad p0)])).length) Slot.unset).toArray = ls at hl ⊢
  have hl : lv_has ls 4 [(0, .ref (ad p0))] := hl
  have hin11 : ∀ w ∈ wsX110, w ∈ wsX11_countLives := by decide +kernel
  have w_0 := hts (.fieldLink RX11 17 "MailSpoolModel" "net" "[I") (by decide +kernel)
  have w_1 := hts (.fieldLink RX11 44 "MailSpoolModel" "livesIn" "[I") (by decide +kernel)
  have w_2 := hts (.fieldLink RX11 47 "MailSpoolModel" "seenIn" "[I") (by decide +kernel)
  have hGE := hGs.2.2.2.2.2.2.1
  have hGM := hGs.2.2.2.2.2.2.2.1
  have L30 : ∀ (fu30 : Nat) (S0 : St) (v0 : Nat) (v1 : Int32) (tv0 : v0 < n ∧ K v0 = 10) (H : Heap) (locs : List Loc) (ls : Array Slot), f_X11_countLives_L30 F fu30 S0 v0 v1 = some S9 → Wb g ad n K S0 (dA ad n s.heap.size) H → va_S (dA ad n s.heap.size) s.heap H locs → lv_has ls 4 [(0, .ref (ad v0)), (1, .int v1)] → W p l e (headSpec wsX11_countLives { frames := 1, cells := 0, slots := 0, locals := 21 }).room s m (List.toArray [.ref (ad p0)]) below meth c H locs 0 0 (MQ below (QR none (QB g ad n K S9 (dA ad n s.heap.size) (True)) (dA ad n s.heap.size)) (List.toArray [.ref (ad p0)]) s 0 0 (dA ad n s.heap.size)) (F0 m 30 ls []) := by
    intro fu30
    induction fu30 with
    | zero =>
      intro S0 v0 v1 tv0 H locs ls hf
      cases hf
    | succ fu30 ih30 =>
      have L49 : ∀ (fu49 : Nat) (S0 : St) (v0 : Nat) (v1 : Int32) (v2 : Int32) (v3 : Int32) (tv0 : v0 < n ∧ K v0 = 10) (H : Heap) (locs : List Loc) (ls : Array Slot), f_X11_countLives_L49 F (fun a0 a1 a2 => f_X11_countLives_L30 F fu30 a0 a1 a2) fu49 S0 v0 v1 v2 v3 = some S9 → Wb g ad n K S0 (dA ad n s.heap.size) H → va_S (dA ad n s.heap.size) s.heap H locs → lv_has ls 4 [(0, .ref (ad v0)), (1, .int v1), (2, .int v2), (3, .int v3)] → W p l e (headSpec wsX11_countLives { frames := 1, cells := 0, slots := 0, locals := 21 }).room s m (List.toArray [.ref (ad p0)]) below meth c H locs 0 0 (MQ below (QR none (QB g ad n K S9 (dA ad n s.heap.size) (True)) (dA ad n s.heap.size)) (List.toArray [.ref (ad p0)]) s 0 0 (dA ad n s.heap.size)) (F0 m 49 ls []) := by
        intro fu49
        induction fu49 with
        | zero =>
          intro S0 v0 v1 v2 v3 tv0 H locs ls hf
          cases hf
        | succ fu49 ih49 =>
          have L90 : ∀ (S0 : St) (v0 : Nat) (v1 : Int32) (v2 : Int32) (v3 : Int32) (tv0 : v0 < n ∧ K v0 = 10) (H : Heap) (locs : List Loc) (ls : Array Slot), f_X11_countLives_L90 F (fun a0 a1 a2 => f_X11_countLives_L30 F fu30 a0 a1 a2) (fun a0 a1 a2 a3 a4 => f_X11_countLives_L49 F (fun a0 a1 a2 => f_X11_countLives_L30 F fu30 a0 a1 a2) fu49 a0 a1 a2 a3 a4) S0 v0 v1 v2 v3 = some S9 → Wb g ad n K S0 (dA ad n s.heap.size) H → va_S (dA ad n s.heap.size) s.heap H locs → lv_has ls 4 [(0, .ref (ad v0)), (1, .int v1), (2, .int v2), (3, .int v3)] → W p l e (headSpec wsX11_countLives { frames := 1, cells := 0, slots := 0, locals := 21 }).room s m (List.toArray [.ref (ad p0)]) below meth c H locs 0 0 (MQ below (QR none (QB g ad n K S9 (dA ad n s.heap.size) (True)) (dA ad n s.heap.size)) (List.toArray [.ref (ad p0)]) s 0 0 (dA ad n s.heap.size)) (F0 m 90 ls []) := by
            intro S0 v0 v1 v2 v3 tv0 H locs ls hf hW hS hl
            unfold f_X11_countLives_L90 at hf
            obtain ⟨x3, ex3⟩ : ∃ z : Int32, z = v2 + 3 := ⟨_, rfl⟩
            replace hf := ltE hf x3 ex3
            refine lv_iinc (v := x3) (lv' := [(2, .int x3), (0, .ref (ad v0)), (1, .int v1), (3, .int v3)]) hx hb dX11_countLives_90 hl (k := 2) rfl (by rw [ex3]; rfl) (by decide) rfl (fun ls hl => ?_)
            obtain ⟨x4, ex4⟩ : ∃ z : Int32, z = v3 + 1 := ⟨_, rfl⟩
            replace hf := ltE hf x4 ex4
            refine lv_iinc (v := x4) (lv' := [(3, .int x4), (2, .int x3), (0, .ref (ad v0)), (1, .int v1)]) hx hb dX11_countLives_93 hl (k := 3) rfl (by rw [ex4]; rfl) (by decide) rfl (fun ls hl => ?_)
            refine lv_goto (tgt := 49) hx hb dX11_countLives_96 (by decide) ?_
            exact ih49 S0 v0 v1 x3 x4 tv0 _ _ _ hf hW hS (lv_sub hl [2, 3, 1, 0] rfl)
          intro S0 v0 v1 v2 v3 tv0 H locs ls hf hW hS hl
          unfold f_X11_countLives_L49 at hf
          refine lv_iload_n hx hb dX11_countLives_49 rfl (lv_at hl 3 rfl) ?_
          refine lv_aload_n hx hb dX11_countLives_50 rfl (lv_at hl 0 rfl) ?_
          replace hf := obE hf
          obtain ⟨j18, qj18, hf⟩ := hf
          have tj18 := x_rt hW qj18 12 ⟨by decide, rfl⟩
          refine x_getr 1001 (ci := 10) (C := RX11) (T := TX11) (N := 30) 1 hC hin11 hW tv0 rfl rfl ⟨by decide, by decide, rfl, rfl⟩ rfl w_0 dX11_countLives_51 qj18 ?_
          refine lv_iconst (v := 4) hx hb dX11_countLives_54 (by decide) ?_
          replace hf := ckiE hf
          obtain ⟨h19, hf⟩ := hf
          refine x_iald hC hW tj18 rfl rfl h19 dX11_countLives_55 ?_
          refine lv_icmp_ge (tgt := 99) hx hb dX11_countLives_56 (by decide) (fun c20 => ?_) (fun c20 => ?_)
          · replace hf := ifT c20 hf
            obtain ⟨x21, ex21⟩ : ∃ z : Int32, z = v1 + 1 := ⟨_, rfl⟩
            replace hf := ltE hf x21 ex21
            refine lv_iinc (v := x21) (lv' := [(1, .int x21), (0, .ref (ad v0)), (2, .int v2), (3, .int v3)]) hx hb dX11_countLives_99 hl (k := 1) rfl (by rw [ex21]; rfl) (by decide) rfl (fun ls hl => ?_)
            refine lv_goto (tgt := 30) hx hb dX11_countLives_102 (by decide) ?_
            exact ih30 S0 v0 x21 tv0 _ _ _ hf hW hS (lv_sub hl [1, 0] rfl)
          · replace hf := ifF c20 hf
            refine lv_aload_n hx hb dX11_countLives_59 rfl (lv_at hl 0 rfl) ?_
            replace hf := obE hf
            obtain ⟨j22, qj22, hf⟩ := hf
            have tj22 := x_rt hW qj22 12 ⟨by decide, rfl⟩
            refine x_getr 1001 (ci := 10) (C := RX11) (T := TX11) (N := 30) 1 hC hin11 hW tv0 rfl rfl ⟨by decide, by decide, rfl, rfl⟩ rfl w_0 dX11_countLives_60 qj22 ?_
            refine lv_iload_n hx hb dX11_countLives_63 rfl (lv_at hl 2 rfl) ?_
            replace hf := ckiE hf
            obtain ⟨h23, hf⟩ := hf
            refine x_iald hC hW tj22 rfl rfl h23 dX11_countLives_64 ?_
            refine lv_if_ne (tgt := 90) hx hb dX11_countLives_65 (by decide) (fun c24 => ?_) (fun c24 => ?_)
            · replace hf := ifT c24 hf
              exact L90 S0 v0 v1 v2 v3 tv0 _ _ _ hf hW hS (lv_sub hl [0, 1, 2, 3] rfl)
            · replace hf := ifF (fun q => q c24) hf
              refine lv_aload_n hx hb dX11_countLives_68 rfl (lv_at hl 0 rfl) ?_
              replace hf := obE hf
              obtain ⟨j25, qj25, hf⟩ := hf
              have tj25 := x_rt hW qj25 12 ⟨by decide, rfl⟩
              refine x_getr 1019 (ci := 10) (C := RX11) (T := TX11) (N := 30) 19 hC hin11 hW tv0 rfl rfl ⟨by decide, by decide, rfl, rfl⟩ rfl w_1 dX11_countLives_69 qj25 ?_
              refine lv_bipush (v := 8) hx hb dX11_countLives_72 (by decide) ?_
              refine lv_iload_n hx hb dX11_countLives_74 rfl (lv_at hl 3 rfl) ?_
              refine lv_imul hx hb dX11_countLives_75 ?_
              refine lv_aload_n hx hb dX11_countLives_76 rfl (lv_at hl 0 rfl) ?_
              replace hf := obE hf
              obtain ⟨j26, qj26, hf⟩ := hf
              have tj26 := x_rt hW qj26 12 ⟨by decide, rfl⟩
              refine x_getr 1001 (ci := 10) (C := RX11) (T := TX11) (N := 30) 1 hC hin11 hW tv0 rfl rfl ⟨by decide, by decide, rfl, rfl⟩ rfl w_0 dX11_countLives_77 qj26 ?_
              refine lv_iload_n hx hb dX11_countLives_80 rfl (lv_at hl 2 rfl) ?_
              refine lv_iconst (v := 1) hx hb dX11_countLives_81 (by decide) ?_
              refine lv_iadd hx hb dX11_countLives_82 ?_
              replace hf := ckiE hf
              obtain ⟨h27, hf⟩ := hf
              refine x_iald hC hW tj26 rfl rfl h27 dX11_countLives_83 ?_
              refine lv_iadd hx hb dX11_countLives_84 ?_
              refine lv_dup2_11 hx hb dX11_countLives_85 rfl rfl ?_
              replace hf := ckiE hf
              obtain ⟨h28, hf⟩ := hf
              refine x_iald hC hW tj25 rfl rfl h28 dX11_countLives_86 ?_
              refine lv_iconst (v := 1) hx hb dX11_countLives_87 (by decide) ?_
              refine lv_iadd hx hb dX11_countLives_88 ?_
              replace hf := ckiE hf
              obtain ⟨h29, hf⟩ := hf
              refine x_iast hC hW hS tj25 rfl rfl h29 dX11_countLives_89 (fun S30 H locs eS30 hW hS => ?_)
              replace hf := ltE hf S30 eS30
              exact L90 S30 v0 v1 v2 v3 tv0 _ _ _ hf hW hS (lv_sub hl [0, 1, 2, 3] rfl)
      intro S0 v0 v1 tv0 H locs ls hf hW hS hl
      unfold f_X11_countLives_L30 at hf
      refine lv_iload_n hx hb dX11_countLives_30 rfl (lv_at hl 1 rfl) ?_
      refine lv_aload_n hx hb dX11_countLives_31 rfl (lv_at hl 0 rfl) ?_
      replace hf := obE hf
      obtain ⟨j38, qj38, hf⟩ := hf
      have tj38 := x_rt hW qj38 12 ⟨by decide, rfl⟩
      refine x_getr 1001 (ci := 10) (C := RX11) (T := TX11) (N := 30) 1 hC hin11 hW tv0 rfl rfl ⟨by decide, by decide, rfl, rfl⟩ rfl w_0 dX11_countLives_32 qj38 ?_
      refine lv_bipush (v := 7) hx hb dX11_countLives_35 (by decide) ?_
      replace hf := ckiE hf
      obtain ⟨h39, hf⟩ := hf
      refine x_iald hC hW tj38 rfl rfl h39 dX11_countLives_37 ?_
      refine lv_icmp_ge (tgt := 105) hx hb dX11_countLives_38 (by decide) (fun c40 => ?_) (fun c40 => ?_)
      · replace hf := ifT c40 hf
        have e1 := Option.some.inj hf
        subst e1
        exact W.vret hx hb hr (fun t ht hWm => ⟨⟨rfl, by unfold QB; rw [ht]; exact ⟨hW, trivial⟩⟩, hS.F ht⟩) hS.2.2 dX11_countLives_105 hlk
      · replace hf := ifF c40 hf
        refine lv_iload_n hx hb dX11_countLives_41 rfl (lv_at hl 1 rfl) ?_
        refine lv_iconst (v := 0) hx hb dX11_countLives_42 (by decide) ?_
        replace hf := obE hf
        obtain ⟨z41, hz41, hf⟩ := hf
        obtain ⟨r43, S42⟩ := z41
        replace hf := ltE (ltE hf r43 rfl) S42 rfl
        refine x_callS (As := [.int v1, .int 0]) (rest := []) (o := (some (.int r43))) (S1 := S42) hC hl.1 hW hS hGs hA (c_X11_refAt l g ad n K H.size F S0 v1 ((0 : Int32)) r43 S42 hz41) (va_cwS 2 hts gX11_countLives_X11_refAt rfl rfl rfl (by decide +kernel) ⟨Nat.le_of_ble_eq_true rfl, Nat.le_of_ble_eq_true rfl⟩) rfl rfl (Nat.le_of_ble_eq_true rfl) dX11_countLives_43 ⟨Nat.le_of_ble_eq_true rfl, Nat.le_of_ble_eq_true rfl⟩ (fun H locs hPz41 hW hS => ?_)
        refine W.eq (g2 := F0 m 46 ls [.int r43]) rfl ?_
        refine lv_istore_n (lv' := [(2, .int r43), (0, .ref (ad v0)), (1, .int v1)]) hx hb dX11_countLives_46 rfl hl (by decide) rfl (fun ls hl => ?_)
        refine lv_iconst (v := 0) hx hb dX11_countLives_47 (by decide) ?_
        refine lv_istore_n (lv' := [(3, .int 0), (2, .int r43), (0, .ref (ad v0)), (1, .int v1)]) hx hb dX11_countLives_48 rfl hl (by decide) rfl (fun ls hl => ?_)
        exact L49 F S42 v0 v1 r43 0 tv0 _ _ _ hf hW hS (lv_sub hl [2, 3, 1, 0] rfl)
  have L2 : ∀ (fu2 : Nat) (S0 : St) (v0 : Nat) (v1 : Int32) (tv0 : v0 < n ∧ K v0 = 10) (H : Heap) (locs : List Loc) (ls : Array Slot), f_X11_countLives_L2 F fu2 S0 v0 v1 = some S9 → Wb g ad n K S0 (dA ad n s.heap.size) H → va_S (dA ad n s.heap.size) s.heap H locs → lv_has ls 4 [(0, .ref (ad v0)), (1, .int v1)] → W p l e (headSpec wsX11_countLives { frames := 1, cells := 0, slots := 0, locals := 21 }).room s m (List.toArray [.ref (ad p0)]) below meth c H locs 0 0 (MQ below (QR none (QB g ad n K S9 (dA ad n s.heap.size) (True)) (dA ad n s.heap.size)) (List.toArray [.ref (ad p0)]) s 0 0 (dA ad n s.heap.size)) (F0 m 2 ls []) := by
    intro fu2
    induction fu2 with
    | zero =>
      intro S0 v0 v1 tv0 H locs ls hf
      cases hf
    | succ fu2 ih2 =>
      intro S0 v0 v1 tv0 H locs ls hf hW hS hl
      unfold f_X11_countLives_L2 at hf
      refine lv_iload_n hx hb dX11_countLives_2 rfl (lv_at hl 1 rfl) ?_
      refine lv_bipush (v := 80) hx hb dX11_countLives_3 (by decide) ?_
      refine lv_icmp_ge (tgt := 28) hx hb dX11_countLives_5 (by decide) (fun c53 => ?_) (fun c53 => ?_)
      · replace hf := ifT c53 hf
        refine lv_iconst (v := 0) hx hb dX11_countLives_28 (by decide) ?_
        refine lv_istore_n (lv' := [(1, .int 0), (0, .ref (ad v0))]) hx hb dX11_countLives_29 rfl hl (by decide) rfl (fun ls hl => ?_)
        exact L30 F S0 v0 0 tv0 _ _ _ hf hW hS (lv_sub hl [1, 0] rfl)
      · replace hf := ifF c53 hf
        refine lv_aload_n hx hb dX11_countLives_8 rfl (lv_at hl 0 rfl) ?_
        replace hf := obE hf
        obtain ⟨j54, qj54, hf⟩ := hf
        have tj54 := x_rt hW qj54 12 ⟨by decide, rfl⟩
        refine x_getr 1019 (ci := 10) (C := RX11) (T := TX11) (N := 30) 19 hC hin11 hW tv0 rfl rfl ⟨by decide, by decide, rfl, rfl⟩ rfl w_1 dX11_countLives_9 qj54 ?_
        refine lv_iload_n hx hb dX11_countLives_12 rfl (lv_at hl 1 rfl) ?_
        refine lv_iconst (v := 0) hx hb dX11_countLives_13 (by decide) ?_
        replace hf := ckiE hf
        obtain ⟨h55, hf⟩ := hf
        refine x_iast hC hW hS tj54 rfl rfl h55 dX11_countLives_14 (fun S56 H locs eS56 hW hS => ?_)
        replace hf := ltE hf S56 eS56
        refine lv_aload_n hx hb dX11_countLives_15 rfl (lv_at hl 0 rfl) ?_
        replace hf := obE hf
        obtain ⟨j57, qj57, hf⟩ := hf
        have tj57 := x_rt hW qj57 12 ⟨by decide, rfl⟩
        refine x_getr 1020 (ci := 10) (C := RX11) (T := TX11) (N := 30) 20 hC hin11 hW tv0 rfl rfl ⟨by decide, by decide, rfl, rfl⟩ rfl w_2 dX11_countLives_16 qj57 ?_
        refine lv_iload_n hx hb dX11_countLives_19 rfl (lv_at hl 1 rfl) ?_
        refine lv_iconst (v := 0) hx hb dX11_countLives_20 (by decide) ?_
        replace hf := ckiE hf
        obtain ⟨h58, hf⟩ := hf
        refine x_iast hC hW hS tj57 rfl rfl h58 dX11_countLives_21 (fun S59 H locs eS59 hW hS => ?_)
        replace hf := ltE hf S59 eS59
        obtain ⟨x60, ex60⟩ : ∃ z : Int32, z = v1 + 1 := ⟨_, rfl⟩
        replace hf := ltE hf x60 ex60
        refine lv_iinc (v := x60) (lv' := [(1, .int x60), (0, .ref (ad v0))]) hx hb dX11_countLives_22 hl (k := 1) rfl (by rw [ex60]; rfl) (by decide) rfl (fun ls hl => ?_)
        refine lv_goto (tgt := 2) hx hb dX11_countLives_25 (by decide) ?_
        exact ih2 S59 v0 x60 tv0 _ _ _ hf hW hS (lv_sub hl [1, 0] rfl)
  unfold f_X11_countLives at hf
  refine lv_iconst (v := 0) hx hb dX11_countLives_0 (by decide) ?_
  refine lv_istore_n (lv' := [(1, .int 0), (0, .ref (ad p0))]) hx hb dX11_countLives_1 rfl hl (by decide) rfl (fun ls hl => ?_)
  exact L2 F S0 p0 0 tp0 _ _ _ hf hW hS (lv_sub hl [1, 0] rfl)
set_option maxHeartbeats 4000000 in
set_option maxRecDepth 100000 in
theorem c_X11_isDue (l : Launch) (g : GP) (ad : Nat → Nat) (n : Nat) (K : Nat → Nat) (sz F : Nat) (S0 : St) (p0 : Nat) (p1 : Int32) (p2 : Int32) (tp0 : p0 < n ∧ K p0 = 10) (r9 : Int32) (S9 : St) (hf : f_X11_isDue F S0 p0 p1 p2 = some (r9, S9)) : Met l yX11_isDue wsX11_isDue { frames := 0, cells := 0, slots := 0, locals := 0 } (va_Pc [.ref (ad p0), .int p1, .int p2] (PB g ad n K S0 sz)) (QR (some (.int r9)) (QB g ad n K S9 (dA ad n sz) (True)) (dA ad n sz)) 0 0 (dA ad n sz) := by
  refine Met.ofW (cc := cX11_isDue) (maxL := 6) (ret := (some .boolean)) (by decide) rfl ?_
  intro p e s m args below meth c s₁ B hml hv
  obtain ⟨rfl, hsz, hW, hK, hGs⟩ := x_start hv
  subst hsz
  have hx := B.exec
  have hb := B.bytes
  have hr := B.returns
  have hts := atoms_spec (ws := wsX11_isDue) B.pre
  have hown : s.vm.findClass RX11 = some m.cls := findClass_of_methodNamed B.named
  have hlk := B.notSynchronized
  have hC : Cx g p s m _ c cX11_isDue RX11 wsX11_isDue 6 := ⟨hx, hb, hml, hown, hts, hK⟩
  have hA : ∀ q : Nat, s.heap.size ≤ q → dA ad n s.heap.size q := fun q h => Or.inr h
  have hS : va_S (dA ad n s.heap.size) s.heap s.heap [] := va_S.rf
  have hl := lv_entry ([.ref (ad p0), .int p1, .int p2]) (n := 6) (Nat.le_of_ble_eq_true rfl)
  rw [lg_entry_eq]
  generalize (lg_sl ([.ref (ad p0), .int p1, .int p2]) ++ List.replicate (6 - (lg_sl ([.ref (ad p0), .int p1, .int p2])).length) Slot.unset).toArray = ls at hl ⊢
  have hl : lv_has ls 6 [(0, .ref (ad p0)), (1, .int p1), (2, .int p2)] := hl
  have hin11 : ∀ w ∈ wsX110, w ∈ wsX11_isDue := by decide +kernel
  have w_0 := hts (.fieldLink RX11 17 "MailSpoolModel" "net" "[I") (by decide +kernel)
  have w_1 := hts (.fieldLink RX11 44 "MailSpoolModel" "livesIn" "[I") (by decide +kernel)
  have w_2 := hts (.fieldLink RX11 47 "MailSpoolModel" "seenIn" "[I") (by decide +kernel)
  have hGE := hGs.2.2.2.2.2.2.1
  have hGM := hGs.2.2.2.2.2.2.2.1
  unfold f_X11_isDue at hf
  refine lv_aload_n hx hb dX11_isDue_0 rfl (lv_at hl 0 rfl) ?_
  replace hf := obE hf
  obtain ⟨j1, qj1, hf⟩ := hf
  have tj1 := x_rt hW qj1 12 ⟨by decide, rfl⟩
  refine x_getr 1001 (ci := 10) (C := RX11) (T := TX11) (N := 30) 1 hC hin11 hW tp0 rfl rfl ⟨by decide, by decide, rfl, rfl⟩ rfl w_0 dX11_isDue_1 qj1 ?_
  refine lv_iload_n hx hb dX11_isDue_4 rfl (lv_at hl 1 rfl) ?_
  refine lv_iconst (v := 1) hx hb dX11_isDue_5 (by decide) ?_
  refine lv_iadd hx hb dX11_isDue_6 ?_
  replace hf := ckiE hf
  obtain ⟨h2, hf⟩ := hf
  refine x_iald hC hW tj1 rfl rfl h2 dX11_isDue_7 ?_
  refine lv_topi (fun x3 ex3 => ?_)
  replace hf := ltE hf x3 ex3
  refine lv_istore_n (lv' := [(3, .int x3), (0, .ref (ad p0)), (1, .int p1), (2, .int p2)]) hx hb dX11_isDue_8 rfl hl (by decide) rfl (fun ls hl => ?_)
  refine lv_aload_n hx hb dX11_isDue_9 rfl (lv_at hl 1 rfl) ?_
  replace hf := obE hf
  obtain ⟨j4, qj4, hf⟩ := hf
  have tj4 := x_rt hW qj4 12 ⟨by decide, rfl⟩
  refine x_getr 1001 (ci := 10) (C := RX11) (T := TX11) (N := 30) 1 hC hin11 hW tp0 rfl rfl ⟨by decide, by decide, rfl, rfl⟩ rfl w_0 dX11_isDue_10 qj4 ?_
  refine lv_bipush (v := 11) hx hb dX11_isDue_13 (by decide) ?_
  refine lv_bipush (v := 9) hx hb dX11_isDue_15 (by decide) ?_
  refine lv_iload_n hx hb dX11_isDue_17 rfl (lv_at hl 0 rfl) ?_
  refine lv_imul hx hb dX11_isDue_18 ?_
  refine lv_iadd hx hb dX11_isDue_19 ?_
  refine lv_iconst (v := 0) hx hb dX11_isDue_20 (by decide) ?_
  refine lv_iadd hx hb dX11_isDue_21 ?_
  replace hf := ckiE hf
  obtain ⟨h5, hf⟩ := hf
  refine x_iald hC hW tj4 rfl rfl h5 dX11_isDue_22 ?_
  refine lv_topi (fun x6 ex6 => ?_)
  replace hf := ltE hf x6 ex6
  refine lv_istore (lv' := [(4, .int x6), (3, .int x3), (0, .ref (ad p0)), (1, .int p1), (2, .int p2)]) hx hb dX11_isDue_23 hl (by decide) rfl (fun ls hl => ?_)
  refine lv_iload hx hb dX11_isDue_25 (lv_at hl 0 rfl) ?_
  refine lv_iconst (v := -1) hx hb dX11_isDue_27 (by decide) ?_
  refine lv_icmp_eq (tgt := 51) hx hb dX11_isDue_28 (by decide) (fun c7 => ?_) (fun c7 => ?_)
  · replace hf := ifT c7 hf
    refine lv_iconst (v := 0) hx hb dX11_isDue_51 (by decide) ?_
    obtain ⟨e1, e2⟩ := so2 hf
    subst e1
    subst e2
    exact W.zret (v := 0) hx hb hr rfl (fun t ht hWm => ⟨⟨rfl, by unfold QB; rw [ht]; exact ⟨hW, trivial⟩⟩, hS.F ht⟩) hS.2.2 dX11_isDue_52 hlk
  · replace hf := ifF c7 hf
    refine lv_aload_n hx hb dX11_isDue_31 rfl (lv_at hl 2 rfl) ?_
    replace hf := obE hf
    obtain ⟨j8, qj8, hf⟩ := hf
    have tj8 := x_rt hW qj8 12 ⟨by decide, rfl⟩
    refine x_getr 1001 (ci := 10) (C := RX11) (T := TX11) (N := 30) 1 hC hin11 hW tp0 rfl rfl ⟨by decide, by decide, rfl, rfl⟩ rfl w_0 dX11_isDue_32 qj8 ?_
    refine lv_iconst (v := 2) hx hb dX11_isDue_35 (by decide) ?_
    replace hf := ckiE hf
    obtain ⟨h9, hf⟩ := hf
    refine x_iald hC hW tj8 rfl rfl h9 dX11_isDue_36 ?_
    refine lv_aload_n hx hb dX11_isDue_37 rfl (lv_at hl 2 rfl) ?_
    replace hf := obE hf
    obtain ⟨j10, qj10, hf⟩ := hf
    have tj10 := x_rt hW qj10 12 ⟨by decide, rfl⟩
    refine x_getr 1001 (ci := 10) (C := RX11) (T := TX11) (N := 30) 1 hC hin11 hW tp0 rfl rfl ⟨by decide, by decide, rfl, rfl⟩ rfl w_0 dX11_isDue_38 qj10 ?_
    refine lv_iload_n hx hb dX11_isDue_41 rfl (lv_at hl 3 rfl) ?_
    refine lv_iconst (v := 2) hx hb dX11_isDue_42 (by decide) ?_
    refine lv_iadd hx hb dX11_isDue_43 ?_
    replace hf := ckiE hf
    obtain ⟨h11, hf⟩ := hf
    refine x_iald hC hW tj10 rfl rfl h11 dX11_isDue_44 ?_
    refine lv_isub hx hb dX11_isDue_45 ?_
    refine lv_iload hx hb dX11_isDue_46 (lv_at hl 0 rfl) ?_
    refine lv_icmp_ge (tgt := 53) hx hb dX11_isDue_48 (by decide) (fun c12 => ?_) (fun c12 => ?_)
    · replace hf := ifT c12 hf
      refine lv_bipush (v := 8) hx hb dX11_isDue_53 (by decide) ?_
      refine lv_iload_n hx hb dX11_isDue_55 rfl (lv_at hl 4 rfl) ?_
      refine lv_imul hx hb dX11_isDue_56 ?_
      refine lv_iload_n hx hb dX11_isDue_57 rfl (lv_at hl 1 rfl) ?_
      refine lv_iadd hx hb dX11_isDue_58 ?_
      refine lv_topi (fun x13 ex13 => ?_)
      replace hf := ltE hf x13 ex13
      refine lv_istore (lv' := [(5, .int x13), (4, .int x6), (3, .int x3), (0, .ref (ad p0)), (1, .int p1), (2, .int p2)]) hx hb dX11_isDue_59 hl (by decide) rfl (fun ls hl => ?_)
      refine lv_aload_n hx hb dX11_isDue_61 rfl (lv_at hl 3 rfl) ?_
      replace hf := obE hf
      obtain ⟨j14, qj14, hf⟩ := hf
      have tj14 := x_rt hW qj14 12 ⟨by decide, rfl⟩
      refine x_getr 1019 (ci := 10) (C := RX11) (T := TX11) (N := 30) 19 hC hin11 hW tp0 rfl rfl ⟨by decide, by decide, rfl, rfl⟩ rfl w_1 dX11_isDue_62 qj14 ?_
      refine lv_iload hx hb dX11_isDue_65 (lv_at hl 0 rfl) ?_
      replace hf := ckiE hf
      obtain ⟨h15, hf⟩ := hf
      refine x_iald hC hW tj14 rfl rfl h15 dX11_isDue_67 ?_
      refine lv_aload_n hx hb dX11_isDue_68 rfl (lv_at hl 3 rfl) ?_
      replace hf := obE hf
      obtain ⟨j16, qj16, hf⟩ := hf
      have tj16 := x_rt hW qj16 12 ⟨by decide, rfl⟩
      refine x_getr 1020 (ci := 10) (C := RX11) (T := TX11) (N := 30) 20 hC hin11 hW tp0 rfl rfl ⟨by decide, by decide, rfl, rfl⟩ rfl w_2 dX11_isDue_69 qj16 ?_
      refine lv_iload hx hb dX11_isDue_72 (lv_at hl 0 rfl) ?_
      replace hf := ckiE hf
      obtain ⟨h17, hf⟩ := hf
      refine x_iald hC hW tj16 rfl rfl h17 dX11_isDue_74 ?_
      refine lv_isub hx hb dX11_isDue_75 ?_
      refine lv_iconst (v := 1) hx hb dX11_isDue_76 (by decide) ?_
      refine lv_isub hx hb dX11_isDue_77 ?_
      refine lv_aload_n hx hb dX11_isDue_78 rfl (lv_at hl 3 rfl) ?_
      replace hf := obE hf
      obtain ⟨j18, qj18, hf⟩ := hf
      have tj18 := x_rt hW qj18 12 ⟨by decide, rfl⟩
      refine x_getr 1001 (ci := 10) (C := RX11) (T := TX11) (N := 30) 1 hC hin11 hW tp0 rfl rfl ⟨by decide, by decide, rfl, rfl⟩ rfl w_0 dX11_isDue_79 qj18 ?_
      refine lv_bipush (v := 11) hx hb dX11_isDue_82 (by decide) ?_
      refine lv_bipush (v := 9) hx hb dX11_isDue_84 (by decide) ?_
      refine lv_iload_n hx hb dX11_isDue_86 rfl (lv_at hl 2 rfl) ?_
      refine lv_imul hx hb dX11_isDue_87 ?_
      refine lv_iadd hx hb dX11_isDue_88 ?_
      refine lv_iconst (v := 1) hx hb dX11_isDue_89 (by decide) ?_
      refine lv_iadd hx hb dX11_isDue_90 ?_
      replace hf := ckiE hf
      obtain ⟨h19, hf⟩ := hf
      refine x_iald hC hW tj18 rfl rfl h19 dX11_isDue_91 ?_
      refine lv_icmp_lt (tgt := 99) hx hb dX11_isDue_92 (by decide) (fun c20 => ?_) (fun c20 => ?_)
      · replace hf := ifT c20 hf
        refine lv_iconst (v := 0) hx hb dX11_isDue_99 (by decide) ?_
        obtain ⟨e1, e2⟩ := so2 hf
        subst e1
        subst e2
        exact W.zret (v := 0) hx hb hr rfl (fun t ht hWm => ⟨⟨rfl, by unfold QB; rw [ht]; exact ⟨hW, trivial⟩⟩, hS.F ht⟩) hS.2.2 dX11_isDue_100 hlk
      · replace hf := ifF c20 hf
        refine lv_iconst (v := 1) hx hb dX11_isDue_95 (by decide) ?_
        refine lv_goto (tgt := 100) hx hb dX11_isDue_96 (by decide) ?_
        obtain ⟨e1, e2⟩ := so2 hf
        subst e1
        subst e2
        exact W.zret (v := 1) hx hb hr rfl (fun t ht hWm => ⟨⟨rfl, by unfold QB; rw [ht]; exact ⟨hW, trivial⟩⟩, hS.F ht⟩) hS.2.2 dX11_isDue_100 hlk
    · replace hf := ifF c12 hf
      refine lv_iconst (v := 0) hx hb dX11_isDue_51 (by decide) ?_
      obtain ⟨e1, e2⟩ := so2 hf
      subst e1
      subst e2
      exact W.zret (v := 0) hx hb hr rfl (fun t ht hWm => ⟨⟨rfl, by unfold QB; rw [ht]; exact ⟨hW, trivial⟩⟩, hS.F ht⟩) hS.2.2 dX11_isDue_52 hlk
set_option maxHeartbeats 4000000 in
set_option maxRecDepth 100000 in
theorem c_X11_leave (l : Launch) (g : GP) (ad : Nat → Nat) (n : Nat) (K : Nat → Nat) (sz F : Nat) (S0 : St) (p0 : Nat) (p1 : Int32) (p2 : Int32) (p3 : Int32) (tp0 : p0 < n ∧ K p0 = 10) (S9 : St) (hf : f_X11_leave F S0 p0 p1 p2 p3 = some S9) : Met l yX11_leave wsX11_leave { frames := 7, cells := 0, slots := 0, locals := 167 } (va_Pc [.ref (ad p0), .int p1, .int p2, .int p3] (PB g ad n K S0 sz)) (QR none (QB g ad n K S9 (dA ad n sz) (True)) (dA ad n sz)) 0 0 (dA ad n sz) := by
  refine Met.ofW (cc := cX11_leave) (maxL := 4) (ret := none) (by decide) rfl ?_
  intro p e s m args below meth c s₁ B hml hv
  obtain ⟨rfl, hsz, hW, hK, hGs⟩ := x_start hv
  subst hsz
  have hx := B.exec
  have hb := B.bytes
  have hr := B.returns
  have hts := atoms_spec (ws := wsX11_leave) B.pre
  have hown : s.vm.findClass RX11 = some m.cls := findClass_of_methodNamed B.named
  have hlk := B.notSynchronized
  have hC : Cx g p s m _ c cX11_leave RX11 wsX11_leave 4 := ⟨hx, hb, hml, hown, hts, hK⟩
  have hA : ∀ q : Nat, s.heap.size ≤ q → dA ad n s.heap.size q := fun q h => Or.inr h
  have hS : va_S (dA ad n s.heap.size) s.heap s.heap [] := va_S.rf
  have hl := lv_entry ([.ref (ad p0), .int p1, .int p2, .int p3]) (n := 4) (Nat.le_of_ble_eq_true rfl)
  rw [lg_entry_eq]
  generalize (lg_sl ([.ref (ad p0), .int p1, .int p2, .int p3]) ++ List.replicate (4 - (lg_sl ([.ref (ad p0), .int p1, .int p2, .int p3])).length) Slot.unset).toArray = ls at hl ⊢
  have hl : lv_has ls 4 [(0, .ref (ad p0)), (1, .int p1), (2, .int p2), (3, .int p3)] := hl
  have hin11 : ∀ w ∈ wsX110, w ∈ wsX11_leave := by decide +kernel
  have w_0 := hts (.fieldLink RX11 44 "MailSpoolModel" "livesIn" "[I") (by decide +kernel)
  have w_1 := hts (.fieldLink RX11 17 "MailSpoolModel" "net" "[I") (by decide +kernel)
  have hGE := hGs.2.2.2.2.2.2.1
  have hGM := hGs.2.2.2.2.2.2.2.1
  unfold f_X11_leave at hf
  refine lv_aload_n hx hb dX11_leave_0 rfl (lv_at hl 0 rfl) ?_
  replace hf := obE hf
  obtain ⟨j1, qj1, hf⟩ := hf
  have tj1 := x_rt hW qj1 12 ⟨by decide, rfl⟩
  refine x_getr 1019 (ci := 10) (C := RX11) (T := TX11) (N := 30) 19 hC hin11 hW tp0 rfl rfl ⟨by decide, by decide, rfl, rfl⟩ rfl w_0 dX11_leave_1 qj1 ?_
  refine lv_bipush (v := 8) hx hb dX11_leave_4 (by decide) ?_
  refine lv_iload_n hx hb dX11_leave_6 rfl (lv_at hl 2 rfl) ?_
  refine lv_imul hx hb dX11_leave_7 ?_
  refine lv_aload_n hx hb dX11_leave_8 rfl (lv_at hl 0 rfl) ?_
  replace hf := obE hf
  obtain ⟨j2, qj2, hf⟩ := hf
  have tj2 := x_rt hW qj2 12 ⟨by decide, rfl⟩
  refine x_getr 1001 (ci := 10) (C := RX11) (T := TX11) (N := 30) 1 hC hin11 hW tp0 rfl rfl ⟨by decide, by decide, rfl, rfl⟩ rfl w_1 dX11_leave_9 qj2 ?_
  refine lv_iload_n hx hb dX11_leave_12 rfl (lv_at hl 1 rfl) ?_
  refine lv_iload_n hx hb dX11_leave_13 rfl (lv_at hl 2 rfl) ?_
  replace hf := obE hf
  obtain ⟨z3, hz3, hf⟩ := hf
  obtain ⟨r5, S4⟩ := z3
  replace hf := ltE (ltE hf r5 rfl) S4 rfl
  refine x_callS (As := [.int p1, .int p2]) (rest := [.ref (ad j2), .int (8 * p2), .ref (ad j1)]) (o := (some (.int r5))) (S1 := S4) hC hl.1 hW hS hGs hA (c_X11_refAt l g ad n K s.heap.size F S0 p1 p2 r5 S4 hz3) (va_cwS 2 hts gX11_leave_X11_refAt rfl rfl rfl (by decide +kernel) ⟨Nat.le_of_ble_eq_true rfl, Nat.le_of_ble_eq_true rfl⟩) rfl rfl (Nat.le_of_ble_eq_true rfl) dX11_leave_14 ⟨Nat.le_of_ble_eq_true rfl, Nat.le_of_ble_eq_true rfl⟩ (fun H locs hPz3 hW hS => ?_)
  refine W.eq (g2 := F0 m 17 ls [.int r5, .ref (ad j2), .int (8 * p2), .ref (ad j1)]) rfl ?_
  refine lv_iconst (v := 1) hx hb dX11_leave_17 (by decide) ?_
  refine lv_iadd hx hb dX11_leave_18 ?_
  replace hf := ckiE hf
  obtain ⟨h7, hf⟩ := hf
  refine x_iald hC hW tj2 rfl rfl h7 dX11_leave_19 ?_
  refine lv_iadd hx hb dX11_leave_20 ?_
  refine lv_dup2_11 hx hb dX11_leave_21 rfl rfl ?_
  replace hf := ckiE hf
  obtain ⟨h8, hf⟩ := hf
  refine x_iald hC hW tj1 rfl rfl h8 dX11_leave_22 ?_
  refine lv_iconst (v := 1) hx hb dX11_leave_23 (by decide) ?_
  refine lv_isub hx hb dX11_leave_24 ?_
  replace hf := ckiE hf
  obtain ⟨h9, hf⟩ := hf
  refine x_iast hC hW hS tj1 rfl rfl h9 dX11_leave_25 (fun S10 H locs eS10 hW hS => ?_)
  replace hf := ltE hf S10 eS10
  refine lv_iload_n hx hb dX11_leave_26 rfl (lv_at hl 3 rfl) ?_
  refine lv_iconst (v := -1) hx hb dX11_leave_27 (by decide) ?_
  refine lv_icmp_ne (tgt := 42) hx hb dX11_leave_28 (by decide) (fun c11 => ?_) (fun c11 => ?_)
  · replace hf := ifT c11 hf
    refine lv_aload_n hx hb dX11_leave_42 rfl (lv_at hl 0 rfl) ?_
    refine lv_iload_n hx hb dX11_leave_43 rfl (lv_at hl 1 rfl) ?_
    refine lv_iload_n hx hb dX11_leave_44 rfl (lv_at hl 2 rfl) ?_
    refine lv_iload_n hx hb dX11_leave_45 rfl (lv_at hl 3 rfl) ?_
    replace hf := obE hf
    obtain ⟨S13, hz12, hf⟩ := hf
    refine x_callV (As := [.int p1, .int p2, .int p3]) (rest := []) (o := none) (S1 := S13) hC hl.1 hW hS hGs hA tp0 rfl (show vwCl[10]? = some (RX11, TX11, 30) ∧ 10 < 11 from ⟨rfl, by decide⟩) (c_X11_enter l g ad n K H.size F S10 p0 p1 p2 p3 tp0 S13 hz12) (cwV 3 hts gX11_leave_X11_enter rfl rfl rfl (by decide +kernel) ⟨Nat.le_of_ble_eq_true rfl, Nat.le_of_ble_eq_true rfl⟩) rfl rfl (Nat.le_of_ble_eq_true rfl) dX11_leave_46 ⟨Nat.le_of_ble_eq_true rfl, Nat.le_of_ble_eq_true rfl⟩ (fun H locs hPz12 hW hS => ?_)
    refine W.eq (g2 := F0 m 49 ls []) rfl ?_
    refine lv_aload_n hx hb dX11_leave_49 rfl (lv_at hl 0 rfl) ?_
    replace hf := obE hf
    obtain ⟨j16, qj16, hf⟩ := hf
    have tj16 := x_rt hW qj16 12 ⟨by decide, rfl⟩
    refine x_getr 1019 (ci := 10) (C := RX11) (T := TX11) (N := 30) 19 hC hin11 hW tp0 rfl rfl ⟨by decide, by decide, rfl, rfl⟩ rfl w_0 dX11_leave_50 qj16 ?_
    refine lv_bipush (v := 8) hx hb dX11_leave_53 (by decide) ?_
    refine lv_iload_n hx hb dX11_leave_55 rfl (lv_at hl 2 rfl) ?_
    refine lv_imul hx hb dX11_leave_56 ?_
    refine lv_iload_n hx hb dX11_leave_57 rfl (lv_at hl 3 rfl) ?_
    refine lv_iadd hx hb dX11_leave_58 ?_
    refine lv_dup2_11 hx hb dX11_leave_59 rfl rfl ?_
    replace hf := ckiE hf
    obtain ⟨h17, hf⟩ := hf
    refine x_iald hC hW tj16 rfl rfl h17 dX11_leave_60 ?_
    refine lv_iconst (v := 1) hx hb dX11_leave_61 (by decide) ?_
    refine lv_iadd hx hb dX11_leave_62 ?_
    replace hf := ckiE hf
    obtain ⟨h18, hf⟩ := hf
    refine x_iast hC hW hS tj16 rfl rfl h18 dX11_leave_63 (fun S19 H locs eS19 hW hS => ?_)
    replace hf := ltE hf S19 eS19
    refine lv_aload_n hx hb dX11_leave_64 rfl (lv_at hl 0 rfl) ?_
    refine lv_iconst (v := 3) hx hb dX11_leave_65 (by decide) ?_
    refine lv_iload_n hx hb dX11_leave_66 rfl (lv_at hl 1 rfl) ?_
    replace hf := obE hf
    obtain ⟨S21, hz20, hf⟩ := hf
    refine x_callV (As := [.int 3, .int p1]) (rest := []) (o := none) (S1 := S21) hC hl.1 hW hS hGs hA tp0 rfl (show vwCl[10]? = some (RX11, TX11, 30) ∧ 10 < 11 from ⟨rfl, by decide⟩) (c_X11_log l g ad n K H.size F S19 p0 ((3 : Int32)) p1 tp0 S21 hz20) (cwV 2 hts gX11_leave_X11_log rfl rfl rfl (by decide +kernel) ⟨Nat.le_of_ble_eq_true rfl, Nat.le_of_ble_eq_true rfl⟩) rfl rfl (Nat.le_of_ble_eq_true rfl) dX11_leave_67 ⟨Nat.le_of_ble_eq_true rfl, Nat.le_of_ble_eq_true rfl⟩ (fun H locs hPz20 hW hS => ?_)
    refine W.eq (g2 := F0 m 70 ls []) rfl ?_
    have e1 := Option.some.inj hf
    subst e1
    exact W.vret hx hb hr (fun t ht hWm => ⟨⟨rfl, by unfold QB; rw [ht]; exact ⟨hW, trivial⟩⟩, hS.F ht⟩) hS.2.2 dX11_leave_70 hlk
  · replace hf := ifF (fun q => q c11) hf
    refine lv_aload_n hx hb dX11_leave_31 rfl (lv_at hl 0 rfl) ?_
    refine lv_iload_n hx hb dX11_leave_32 rfl (lv_at hl 1 rfl) ?_
    refine lv_iload_n hx hb dX11_leave_33 rfl (lv_at hl 2 rfl) ?_
    refine lv_iconst (v := 2) hx hb dX11_leave_34 (by decide) ?_
    replace hf := obE hf
    obtain ⟨z24, hz24, hf⟩ := hf
    obtain ⟨r26, S25⟩ := z24
    replace hf := ltE (ltE hf r26 rfl) S25 rfl
    refine x_callV (As := [.int p1, .int p2, .int 2]) (rest := []) (o := (some (.int r26))) (S1 := S25) hC hl.1 hW hS hGs hA tp0 rfl (show vwCl[10]? = some (RX11, TX11, 30) ∧ 10 < 11 from ⟨rfl, by decide⟩) (c_X11_ceases l g ad n K H.size F S10 p0 p1 p2 ((2 : Int32)) tp0 r26 S25 hz24) (cwV 3 hts gX11_leave_X11_ceases rfl rfl rfl (by decide +kernel) ⟨Nat.le_of_ble_eq_true rfl, Nat.le_of_ble_eq_true rfl⟩) rfl rfl (Nat.le_of_ble_eq_true rfl) dX11_leave_35 ⟨Nat.le_of_ble_eq_true rfl, Nat.le_of_ble_eq_true rfl⟩ (fun H locs hPz24 hW hS => ?_)
    refine W.eq (g2 := F0 m 38 ls [.int r26]) rfl ?_
    refine lv_pop hx hb dX11_leave_38 rfl ?_
    refine lv_goto (tgt := 70) hx hb dX11_leave_39 (by decide) ?_
    have e1 := Option.some.inj hf
    subst e1
    exact W.vret hx hb hr (fun t ht hWm => ⟨⟨rfl, by unfold QB; rw [ht]; exact ⟨hW, trivial⟩⟩, hS.F ht⟩) hS.2.2 dX11_leave_70 hlk
