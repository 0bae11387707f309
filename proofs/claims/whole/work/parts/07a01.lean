set_option maxHeartbeats 4000000 in
set_option maxRecDepth 100000 in
theorem c_X11_word (l : Launch) (g : GP) (ad : Nat → Nat) (n : Nat) (K : Nat → Nat) (sz F : Nat) (S0 : St) (p0 : Nat) (p1 : Nat) (tp0 : p0 < n ∧ K p0 = 10) (tp1 : p1 < 15) (S9 : St) (hf : f_X11_word F S0 p0 p1 = some S9) : Met l yX11_word wsX11_word { frames := 6, cells := 0, slots := 0, locals := 129 } (va_Pc [.ref (ad p0), .ref (gen g (100 + p1))] (PB g ad n K S0 sz)) (QR none (QB g ad n K S9 (dA ad n sz) (True)) (dA ad n sz)) 0 0 (dA ad n sz) := by
  refine Met.ofW (cc := cX11_word) (maxL := 2) (ret := none) (by decide) rfl ?_
  intro p e s m args below meth c s₁ B hml hv
  obtain ⟨rfl, hsz, hW, hK, hGs⟩ := x_start hv
  subst hsz
  have hx := B.exec
  have hb := B.bytes
  have hr := B.returns
  have hts := atoms_spec (ws := wsX11_word) B.pre
  have hown : s.vm.findClass RX11 = some m.cls := findClass_of_methodNamed B.named
  have hlk := B.notSynchronized
  have hC : Cx g p s m _ c cX11_word RX11 wsX11_word 2 := ⟨hx, hb, hml, hown, hts, hK⟩
  have hA : ∀ q : Nat, s.heap.size ≤ q → dA ad n s.heap.size q := fun q h => Or.inr h
  have hS : va_S (dA ad n s.heap.size) s.heap s.heap [] := va_S.rf
  have hl := lv_entry ([.ref (ad p0), .ref (gen g (100 + p1))]) (n := 2) (Nat.le_of_ble_eq_true rfl)
  rw [lg_entry_eq]
  generalize (lg_sl ([.ref (ad p0), .ref (gen g (100 + p1))]) ++ List.replicate (2 - (lg_sl ([.ref (ad p0), .ref (gen g (100 + p1))])).length) Slot.unset).toArray = ls at hl ⊢
  have hl : lv_has ls 2 [(0, .ref (ad p0)), (1, .ref (gen g (100 + p1)))] := hl
  have hGE := hGs.2.2.2.2.2.2.1
  have hGM := hGs.2.2.2.2.2.2.2.1
  have L13 : ∀ (S0 : St) (v0 : Nat) (tv0 : v0 < n ∧ K v0 = 10) (H : Heap) (locs : List Loc) (ls : Array Slot), f_X11_word_L13 F S0 v0 = some S9 → Wb g ad n K S0 (dA ad n s.heap.size) H → va_S (dA ad n s.heap.size) s.heap H locs → lv_has ls 2 [(0, .ref (ad v0))] → W p l e (headSpec wsX11_word { frames := 6, cells := 0, slots := 0, locals := 129 }).room s m (List.toArray [.ref (ad p0), .ref (gen g (100 + p1))]) below meth c H locs 0 0 (MQ below (QR none (QB g ad n K S9 (dA ad n s.heap.size) (True)) (dA ad n s.heap.size)) (List.toArray [.ref (ad p0), .ref (gen g (100 + p1))]) s 0 0 (dA ad n s.heap.size)) (F0 m 13 ls []) := by
    intro S0 v0 tv0 H locs ls hf hW hS hl
    unfold f_X11_word_L13 at hf
    refine lv_aload_n hx hb dX11_word_13 rfl (lv_at hl 0 rfl) ?_
    replace hf := obE hf
    obtain ⟨S6, hz5, hf⟩ := hf
    refine x_callV (As := []) (rest := []) (o := none) (S1 := S6) hC hl.1 hW hS hGs hA tv0 rfl (show vwCl[10]? = some (RX11, TX11, 30) ∧ 10 < 11 from ⟨rfl, by decide⟩) (c_X11_goOn l g ad n K H.size F S0 v0 tv0 S6 hz5) (cwV 0 hts gX11_word_X11_goOn rfl rfl rfl (by decide +kernel) ⟨Nat.le_of_ble_eq_true rfl, Nat.le_of_ble_eq_true rfl⟩) rfl rfl (Nat.le_of_ble_eq_true rfl) dX11_word_14 ⟨Nat.le_of_ble_eq_true rfl, Nat.le_of_ble_eq_true rfl⟩ (fun H locs hPz5 hW hS => ?_)
    refine W.eq (g2 := F0 m 17 ls []) rfl ?_
    have e1 := Option.some.inj hf
    subst e1
    exact W.vret hx hb hr (fun t ht hWm => ⟨⟨rfl, by unfold QB; rw [ht]; exact ⟨hW, trivial⟩⟩, hS.F ht⟩) hS.2.2 dX11_word_17 hlk
  unfold f_X11_word at hf
  refine lv_aload_n hx hb dX11_word_0 rfl (lv_at hl 0 rfl) ?_
  refine lv_aload_n hx hb dX11_word_1 rfl (lv_at hl 1 rfl) ?_
  replace hf := obE hf
  obtain ⟨z9, hz9, hf⟩ := hf
  obtain ⟨r11, S10⟩ := z9
  replace hf := ltE (ltE hf r11 rfl) S10 rfl
  refine x_callV (As := [.ref (gen g (100 + p1))]) (rest := []) (o := (some (.int r11))) (S1 := S10) hC hl.1 hW hS hGs hA tp0 rfl (show vwCl[10]? = some (RX11, TX11, 30) ∧ 10 < 11 from ⟨rfl, by decide⟩) (c_X11_isText l g ad n K s.heap.size F S0 p0 p1 tp0 tp1 r11 S10 hz9) (cwV 1 hts gX11_word_X11_isText rfl rfl rfl (by decide +kernel) ⟨Nat.le_of_ble_eq_true rfl, Nat.le_of_ble_eq_true rfl⟩) rfl rfl (Nat.le_of_ble_eq_true rfl) dX11_word_2 ⟨Nat.le_of_ble_eq_true rfl, Nat.le_of_ble_eq_true rfl⟩ (fun H locs hPz9 hW hS => ?_)
  refine W.eq (g2 := F0 m 5 ls [.int r11]) rfl ?_
  refine lv_if_ne (tgt := 13) hx hb dX11_word_5 (by decide) (fun c13 => ?_) (fun c13 => ?_)
  · replace hf := ifT c13 hf
    exact L13 S10 p0 tp0 _ _ _ hf hW hS (lv_sub hl [0] rfl)
  · replace hf := ifF (fun q => q c13) hf
    refine lv_aload_n hx hb dX11_word_8 rfl (lv_at hl 0 rfl) ?_
    refine lv_iconst (v := 1) hx hb dX11_word_9 (by decide) ?_
    replace hf := obE hf
    obtain ⟨S15, hz14, hf⟩ := hf
    refine x_callV (As := [.int 1]) (rest := []) (o := none) (S1 := S15) hC hl.1 hW hS hGs hA tp0 rfl (show vwCl[10]? = some (RX11, TX11, 30) ∧ 10 < 11 from ⟨rfl, by decide⟩) (c_X11_errs l g ad n K H.size F S10 p0 ((1 : Int32)) tp0 S15 hz14) (cwV 1 hts gX11_word_X11_errs rfl rfl rfl (by decide +kernel) ⟨Nat.le_of_ble_eq_true rfl, Nat.le_of_ble_eq_true rfl⟩) rfl rfl (Nat.le_of_ble_eq_true rfl) dX11_word_10 ⟨Nat.le_of_ble_eq_true rfl, Nat.le_of_ble_eq_true rfl⟩ (fun H locs hPz14 hW hS => ?_)
    refine W.eq (g2 := F0 m 13 ls []) rfl ?_
    exact L13 S15 p0 tp0 _ _ _ hf hW hS (lv_sub hl [0] rfl)
set_option maxHeartbeats 4000000 in
set_option maxRecDepth 100000 in
theorem c_X11_number (l : Launch) (g : GP) (ad : Nat → Nat) (n : Nat) (K : Nat → Nat) (sz F : Nat) (S0 : St) (p0 : Nat) (p1 : Int32) (p2 : Int32) (tp0 : p0 < n ∧ K p0 = 10) (r9 : Int32) (S9 : St) (hf : f_X11_number F S0 p0 p1 p2 = some (r9, S9)) : Met l yX11_number wsX11_number { frames := 3, cells := 0, slots := 0, locals := 66 } (va_Pc [.ref (ad p0), .int p1, .int p2] (PB g ad n K S0 sz)) (QR (some (.int r9)) (QB g ad n K S9 (dA ad n sz) (True)) (dA ad n sz)) 0 0 (dA ad n sz) := by
  refine Met.ofW (cc := cX11_number) (maxL := 4) (ret := (some .int)) (by decide) rfl ?_
  intro p e s m args below meth c s₁ B hml hv
  obtain ⟨rfl, hsz, hW, hK, hGs⟩ := x_start hv
  subst hsz
  have hx := B.exec
  have hb := B.bytes
  have hr := B.returns
  have hts := atoms_spec (ws := wsX11_number) B.pre
  have hown : s.vm.findClass RX11 = some m.cls := findClass_of_methodNamed B.named
  have hlk := B.notSynchronized
  have hC : Cx g p s m _ c cX11_number RX11 wsX11_number 4 := ⟨hx, hb, hml, hown, hts, hK⟩
  have hA : ∀ q : Nat, s.heap.size ≤ q → dA ad n s.heap.size q := fun q h => Or.inr h
  have hS : va_S (dA ad n s.heap.size) s.heap s.heap [] := va_S.rf
  have hl := lv_entry ([.ref (ad p0), .int p1, .int p2]) (n := 4) (Nat.le_of_ble_eq_true rfl)
  rw [lg_entry_eq]
  generalize (lg_sl ([.ref (ad p0), .int p1, .int p2]) ++ List.replicate (4 - (lg_sl ([.ref (ad p0), .int p1, .int p2])).length) Slot.unset).toArray = ls at hl ⊢
  have hl : lv_has ls 4 [(0, .ref (ad p0)), (1, .int p1), (2, .int p2)] := hl
  have hin11 : ∀ w ∈ wsX110, w ∈ wsX11_number := by decide +kernel
  have w_0 := hts (.fieldLink RX11 133 "MailSpoolModel" "value" "I") (by decide +kernel)
  have w_1 := hts (.fieldLink RX11 122 "MailSpoolModel" "token" "I") (by decide +kernel)
  have hGE := hGs.2.2.2.2.2.2.1
  have hGM := hGs.2.2.2.2.2.2.2.1
  have L62 : ∀ (S0 : St) (v0 : Nat) (s0 : Int32) (tv0 : v0 < n ∧ K v0 = 10) (H : Heap) (locs : List Loc) (ls : Array Slot), f_X11_number_L62 F S0 v0 s0 = some (r9, S9) → Wb g ad n K S0 (dA ad n s.heap.size) H → va_S (dA ad n s.heap.size) s.heap H locs → lv_has ls 4 [(0, .ref (ad v0))] → W p l e (headSpec wsX11_number { frames := 3, cells := 0, slots := 0, locals := 66 }).room s m (List.toArray [.ref (ad p0), .int p1, .int p2]) below meth c H locs 0 0 (MQ below (QR (some (.int r9)) (QB g ad n K S9 (dA ad n s.heap.size) (True)) (dA ad n s.heap.size)) (List.toArray [.ref (ad p0), .int p1, .int p2]) s 0 0 (dA ad n s.heap.size)) (F0 m 62 ls [.int s0]) := by
    intro S0 v0 s0 tv0 H locs ls hf hW hS hl
    unfold f_X11_number_L62 at hf
    refine lv_istore_n (lv' := [(3, .int s0), (0, .ref (ad v0))]) hx hb dX11_number_62 rfl hl (by decide) rfl (fun ls hl => ?_)
    refine lv_aload_n hx hb dX11_number_63 rfl (lv_at hl 1 rfl) ?_
    replace hf := obE hf
    obtain ⟨S6, hz5, hf⟩ := hf
    refine x_callV (As := []) (rest := []) (o := none) (S1 := S6) hC hl.1 hW hS hGs hA tv0 rfl (show vwCl[10]? = some (RX11, TX11, 30) ∧ 10 < 11 from ⟨rfl, by decide⟩) (c_X11_goOn l g ad n K H.size F S0 v0 tv0 S6 hz5) (cwV 0 hts gX11_number_X11_goOn rfl rfl rfl (by decide +kernel) ⟨Nat.le_of_ble_eq_true rfl, Nat.le_of_ble_eq_true rfl⟩) rfl rfl (Nat.le_of_ble_eq_true rfl) dX11_number_64 ⟨Nat.le_of_ble_eq_true rfl, Nat.le_of_ble_eq_true rfl⟩ (fun H locs hPz5 hW hS => ?_)
    refine W.eq (g2 := F0 m 67 ls []) rfl ?_
    refine lv_iload_n hx hb dX11_number_67 rfl (lv_at hl 0 rfl) ?_
    obtain ⟨e1, e2⟩ := so2 hf
    subst e1
    subst e2
    exact W.iret (v := s0) hx hb hr (fun t ht hWm => ⟨⟨rfl, by unfold QB; rw [ht]; exact ⟨hW, trivial⟩⟩, hS.F ht⟩) hS.2.2 dX11_number_68 hlk
  have L47 : ∀ (S0 : St) (v0 : Nat) (v1 : Int32) (tv0 : v0 < n ∧ K v0 = 10) (H : Heap) (locs : List Loc) (ls : Array Slot), f_X11_number_L47 F S0 v0 v1 = some (r9, S9) → Wb g ad n K S0 (dA ad n s.heap.size) H → va_S (dA ad n s.heap.size) s.heap H locs → lv_has ls 4 [(0, .ref (ad v0)), (1, .int v1)] → W p l e (headSpec wsX11_number { frames := 3, cells := 0, slots := 0, locals := 66 }).room s m (List.toArray [.ref (ad p0), .int p1, .int p2]) below meth c H locs 0 0 (MQ below (QR (some (.int r9)) (QB g ad n K S9 (dA ad n s.heap.size) (True)) (dA ad n s.heap.size)) (List.toArray [.ref (ad p0), .int p1, .int p2]) s 0 0 (dA ad n s.heap.size)) (F0 m 47 ls []) := by
    intro S0 v0 v1 tv0 H locs ls hf hW hS hl
    unfold f_X11_number_L47 at hf
    refine lv_aload_n hx hb dX11_number_47 rfl (lv_at hl 0 rfl) ?_
    replace hf := obE hf
    obtain ⟨z14, hz14, hf⟩ := hf
    obtain ⟨r16, S15⟩ := z14
    replace hf := ltE (ltE hf r16 rfl) S15 rfl
    refine x_callV (As := []) (rest := []) (o := (some (.int r16))) (S1 := S15) hC hl.1 hW hS hGs hA tv0 rfl (show vwCl[10]? = some (RX11, TX11, 30) ∧ 10 < 11 from ⟨rfl, by decide⟩) (c_X11_good l g ad n K H.size F S0 v0 tv0 r16 S15 hz14) (cwV 0 hts gX11_number_X11_good rfl rfl rfl (by decide +kernel) ⟨Nat.le_of_ble_eq_true rfl, Nat.le_of_ble_eq_true rfl⟩) rfl rfl (Nat.le_of_ble_eq_true rfl) dX11_number_48 ⟨Nat.le_of_ble_eq_true rfl, Nat.le_of_ble_eq_true rfl⟩ (fun H locs hPz14 hW hS => ?_)
    refine W.eq (g2 := F0 m 51 ls [.int r16]) rfl ?_
    refine lv_if_eq (tgt := 61) hx hb dX11_number_51 (by decide) (fun c18 => ?_) (fun c18 => ?_)
    · replace hf := ifT c18 hf
      refine lv_iload_n hx hb dX11_number_61 rfl (lv_at hl 1 rfl) ?_
      exact L62 S15 v0 v1 tv0 _ _ _ hf hW hS (lv_sub hl [0] rfl)
    · replace hf := ifF c18 hf
      refine lv_aload_n hx hb dX11_number_54 rfl (lv_at hl 0 rfl) ?_
      refine x_geti 1012 (ci := 10) (C := RX11) (T := TX11) (N := 30) 12 hC hin11 hW tv0 rfl rfl ⟨by decide, by decide, rfl, rfl⟩ rfl w_0 dX11_number_55 ?_
      refine lv_goto (tgt := 62) hx hb dX11_number_58 (by decide) ?_
      exact L62 S15 v0 (si S15 1012 v0) tv0 _ _ _ hf hW hS (lv_sub hl [0] rfl)
  have L20 : ∀ (S0 : St) (v0 : Nat) (v1 : Int32) (v2 : Int32) (tv0 : v0 < n ∧ K v0 = 10) (H : Heap) (locs : List Loc) (ls : Array Slot), f_X11_number_L20 F S0 v0 v1 v2 = some (r9, S9) → Wb g ad n K S0 (dA ad n s.heap.size) H → va_S (dA ad n s.heap.size) s.heap H locs → lv_has ls 4 [(0, .ref (ad v0)), (1, .int v1), (2, .int v2)] → W p l e (headSpec wsX11_number { frames := 3, cells := 0, slots := 0, locals := 66 }).room s m (List.toArray [.ref (ad p0), .int p1, .int p2]) below meth c H locs 0 0 (MQ below (QR (some (.int r9)) (QB g ad n K S9 (dA ad n s.heap.size) (True)) (dA ad n s.heap.size)) (List.toArray [.ref (ad p0), .int p1, .int p2]) s 0 0 (dA ad n s.heap.size)) (F0 m 20 ls []) := by
    intro S0 v0 v1 v2 tv0 H locs ls hf hW hS hl
    unfold f_X11_number_L20 at hf
    refine lv_aload_n hx hb dX11_number_20 rfl (lv_at hl 0 rfl) ?_
    replace hf := obE hf
    obtain ⟨z33, hz33, hf⟩ := hf
    obtain ⟨r35, S34⟩ := z33
    replace hf := ltE (ltE hf r35 rfl) S34 rfl
    refine x_callV (As := []) (rest := []) (o := (some (.int r35))) (S1 := S34) hC hl.1 hW hS hGs hA tv0 rfl (show vwCl[10]? = some (RX11, TX11, 30) ∧ 10 < 11 from ⟨rfl, by decide⟩) (c_X11_good l g ad n K H.size F S0 v0 tv0 r35 S34 hz33) (cwV 0 hts gX11_number_X11_good rfl rfl rfl (by decide +kernel) ⟨Nat.le_of_ble_eq_true rfl, Nat.le_of_ble_eq_true rfl⟩) rfl rfl (Nat.le_of_ble_eq_true rfl) dX11_number_21 ⟨Nat.le_of_ble_eq_true rfl, Nat.le_of_ble_eq_true rfl⟩ (fun H locs hPz33 hW hS => ?_)
    refine W.eq (g2 := F0 m 24 ls [.int r35]) rfl ?_
    refine lv_if_eq (tgt := 47) hx hb dX11_number_24 (by decide) (fun c37 => ?_) (fun c37 => ?_)
    · replace hf := ifT c37 hf
      exact L47 S34 v0 v1 tv0 _ _ _ hf hW hS (lv_sub hl [0, 1] rfl)
    · replace hf := ifF c37 hf
      refine lv_aload_n hx hb dX11_number_27 rfl (lv_at hl 0 rfl) ?_
      refine x_geti 1012 (ci := 10) (C := RX11) (T := TX11) (N := 30) 12 hC hin11 hW tv0 rfl rfl ⟨by decide, by decide, rfl, rfl⟩ rfl w_0 dX11_number_28 ?_
      refine lv_i2l (v := (si S34 1012 v0).toInt64) hx hb dX11_number_31 rfl ?_
      refine lv_iload_n hx hb dX11_number_32 rfl (lv_at hl 1 rfl) ?_
      refine lv_i2l (v := v1.toInt64) hx hb dX11_number_33 rfl ?_
      refine lv_iload_n hx hb dX11_number_34 rfl (lv_at hl 2 rfl) ?_
      refine lv_i2l (v := v2.toInt64) hx hb dX11_number_35 rfl ?_
      replace hf := obE hf
      obtain ⟨z38, hz38, hf⟩ := hf
      obtain ⟨r40, S39⟩ := z38
      replace hf := ltE (ltE hf r40 rfl) S39 rfl
      refine x_callS (As := [.long ((si S34 1012 v0).toInt64), .long (v1.toInt64), .long (v2.toInt64)]) (rest := []) (o := (some (.int r40))) (S1 := S39) hC hl.1 hW hS hGs hA (c_X11_in l g ad n K H.size F S34 ((si S34 1012 v0).toInt64) v1.toInt64 v2.toInt64 r40 S39 hz38) (va_cwS 3 hts gX11_number_X11_in rfl rfl rfl (by decide +kernel) ⟨Nat.le_of_ble_eq_true rfl, Nat.le_of_ble_eq_true rfl⟩) rfl rfl (Nat.le_of_ble_eq_true rfl) dX11_number_36 ⟨Nat.le_of_ble_eq_true rfl, Nat.le_of_ble_eq_true rfl⟩ (fun H locs hPz38 hW hS => ?_)
      refine W.eq (g2 := F0 m 39 ls [.int r40]) rfl ?_
      refine lv_if_ne (tgt := 47) hx hb dX11_number_39 (by decide) (fun c42 => ?_) (fun c42 => ?_)
      · replace hf := ifT c42 hf
        exact L47 S39 v0 v1 tv0 _ _ _ hf hW hS (lv_sub hl [0, 1] rfl)
      · replace hf := ifF (fun q => q c42) hf
        refine lv_aload_n hx hb dX11_number_42 rfl (lv_at hl 0 rfl) ?_
        refine lv_iconst (v := 2) hx hb dX11_number_43 (by decide) ?_
        replace hf := obE hf
        obtain ⟨S44, hz43, hf⟩ := hf
        refine x_callV (As := [.int 2]) (rest := []) (o := none) (S1 := S44) hC hl.1 hW hS hGs hA tv0 rfl (show vwCl[10]? = some (RX11, TX11, 30) ∧ 10 < 11 from ⟨rfl, by decide⟩) (c_X11_errs l g ad n K H.size F S39 v0 ((2 : Int32)) tv0 S44 hz43) (cwV 1 hts gX11_number_X11_errs rfl rfl rfl (by decide +kernel) ⟨Nat.le_of_ble_eq_true rfl, Nat.le_of_ble_eq_true rfl⟩) rfl rfl (Nat.le_of_ble_eq_true rfl) dX11_number_44 ⟨Nat.le_of_ble_eq_true rfl, Nat.le_of_ble_eq_true rfl⟩ (fun H locs hPz43 hW hS => ?_)
        refine W.eq (g2 := F0 m 47 ls []) rfl ?_
        exact L47 S44 v0 v1 tv0 _ _ _ hf hW hS (lv_sub hl [0, 1] rfl)
  unfold f_X11_number at hf
  refine lv_aload_n hx hb dX11_number_0 rfl (lv_at hl 0 rfl) ?_
  replace hf := obE hf
  obtain ⟨z47, hz47, hf⟩ := hf
  obtain ⟨r49, S48⟩ := z47
  replace hf := ltE (ltE hf r49 rfl) S48 rfl
  refine x_callV (As := []) (rest := []) (o := (some (.int r49))) (S1 := S48) hC hl.1 hW hS hGs hA tp0 rfl (show vwCl[10]? = some (RX11, TX11, 30) ∧ 10 < 11 from ⟨rfl, by decide⟩) (c_X11_good l g ad n K s.heap.size F S0 p0 tp0 r49 S48 hz47) (cwV 0 hts gX11_number_X11_good rfl rfl rfl (by decide +kernel) ⟨Nat.le_of_ble_eq_true rfl, Nat.le_of_ble_eq_true rfl⟩) rfl rfl (Nat.le_of_ble_eq_true rfl) dX11_number_1 ⟨Nat.le_of_ble_eq_true rfl, Nat.le_of_ble_eq_true rfl⟩ (fun H locs hPz47 hW hS => ?_)
  refine W.eq (g2 := F0 m 4 ls [.int r49]) rfl ?_
  refine lv_if_eq (tgt := 20) hx hb dX11_number_4 (by decide) (fun c51 => ?_) (fun c51 => ?_)
  · replace hf := ifT c51 hf
    exact L20 S48 p0 p1 p2 tp0 _ _ _ hf hW hS (lv_sub hl [0, 1, 2] rfl)
  · replace hf := ifF c51 hf
    refine lv_aload_n hx hb dX11_number_7 rfl (lv_at hl 0 rfl) ?_
    refine x_geti 1011 (ci := 10) (C := RX11) (T := TX11) (N := 30) 11 hC hin11 hW tp0 rfl rfl ⟨by decide, by decide, rfl, rfl⟩ rfl w_1 dX11_number_8 ?_
    refine lv_iconst (v := 2) hx hb dX11_number_11 (by decide) ?_
    refine lv_icmp_eq (tgt := 20) hx hb dX11_number_12 (by decide) (fun c52 => ?_) (fun c52 => ?_)
    · replace hf := ifT c52 hf
      exact L20 S48 p0 p1 p2 tp0 _ _ _ hf hW hS (lv_sub hl [0, 1, 2] rfl)
    · replace hf := ifF c52 hf
      refine lv_aload_n hx hb dX11_number_15 rfl (lv_at hl 0 rfl) ?_
      refine lv_iconst (v := 1) hx hb dX11_number_16 (by decide) ?_
      replace hf := obE hf
      obtain ⟨S54, hz53, hf⟩ := hf
      refine x_callV (As := [.int 1]) (rest := []) (o := none) (S1 := S54) hC hl.1 hW hS hGs hA tp0 rfl (show vwCl[10]? = some (RX11, TX11, 30) ∧ 10 < 11 from ⟨rfl, by decide⟩) (c_X11_errs l g ad n K H.size F S48 p0 ((1 : Int32)) tp0 S54 hz53) (cwV 1 hts gX11_number_X11_errs rfl rfl rfl (by decide +kernel) ⟨Nat.le_of_ble_eq_true rfl, Nat.le_of_ble_eq_true rfl⟩) rfl rfl (Nat.le_of_ble_eq_true rfl) dX11_number_17 ⟨Nat.le_of_ble_eq_true rfl, Nat.le_of_ble_eq_true rfl⟩ (fun H locs hPz53 hW hS => ?_)
      refine W.eq (g2 := F0 m 20 ls []) rfl ?_
      exact L20 S54 p0 p1 p2 tp0 _ _ _ hf hW hS (lv_sub hl [0, 1, 2] rfl)
set_option maxHeartbeats 4000000 in
set_option maxRecDepth 100000 in
theorem c_X11_numberAfter (l : Launch) (g : GP) (ad : Nat → Nat) (n : Nat) (K : Nat → Nat) (sz F : Nat) (S0 : St) (p0 : Nat) (p1 : Nat) (p2 : Int32) (p3 : Int32) (tp0 : p0 < n ∧ K p0 = 10) (tp1 : p1 < 15) (r9 : Int32) (S9 : St) (hf : f_X11_numberAfter F S0 p0 p1 p2 p3 = some (r9, S9)) : Met l yX11_numberAfter wsX11_numberAfter { frames := 7, cells := 0, slots := 0, locals := 150 } (va_Pc [.ref (ad p0), .ref (gen g (100 + p1)), .int p2, .int p3] (PB g ad n K S0 sz)) (QR (some (.int r9)) (QB g ad n K S9 (dA ad n sz) (True)) (dA ad n sz)) 0 0 (dA ad n sz) := by
  refine Met.ofW (cc := cX11_numberAfter) (maxL := 4) (ret := (some .int)) (by decide) rfl ?_
  intro p e s m args below meth c s₁ B hml hv
  obtain ⟨rfl, hsz, hW, hK, hGs⟩ := x_start hv
  subst hsz
  have hx := B.exec
  have hb := B.bytes
  have hr := B.returns
  have hts := atoms_spec (ws := wsX11_numberAfter) B.pre
  have hown : s.vm.findClass RX11 = some m.cls := findClass_of_methodNamed B.named
  have hlk := B.notSynchronized
  have hC : Cx g p s m _ c cX11_numberAfter RX11 wsX11_numberAfter 4 := ⟨hx, hb, hml, hown, hts, hK⟩
  have hA : ∀ q : Nat, s.heap.size ≤ q → dA ad n s.heap.size q := fun q h => Or.inr h
  have hS : va_S (dA ad n s.heap.size) s.heap s.heap [] := va_S.rf
  have hl := lv_entry ([.ref (ad p0), .ref (gen g (100 + p1)), .int p2, .int p3]) (n := 4) (Nat.le_of_ble_eq_true rfl)
  rw [lg_entry_eq]
  generalize (lg_sl ([.ref (ad p0), .ref (gen g (100 + p1)), .int p2, .int p3]) ++ List.replicate (4 - (lg_sl ([.ref (ad p0), .ref (gen g (100 + p1)), .int p2, .int p3])).length) Slot.unset).toArray = ls at hl ⊢
  have hl : lv_has ls 4 [(0, .ref (ad p0)), (1, .ref (gen g (100 + p1))), (2, .int p2), (3, .int p3)] := hl
  have hGE := hGs.2.2.2.2.2.2.1
  have hGM := hGs.2.2.2.2.2.2.2.1
  unfold f_X11_numberAfter at hf
  refine lv_aload_n hx hb dX11_numberAfter_0 rfl (lv_at hl 0 rfl) ?_
  refine lv_aload_n hx hb dX11_numberAfter_1 rfl (lv_at hl 1 rfl) ?_
  replace hf := obE hf
  obtain ⟨S2, hz1, hf⟩ := hf
  refine x_callV (As := [.ref (gen g (100 + p1))]) (rest := []) (o := none) (S1 := S2) hC hl.1 hW hS hGs hA tp0 rfl (show vwCl[10]? = some (RX11, TX11, 30) ∧ 10 < 11 from ⟨rfl, by decide⟩) (c_X11_word l g ad n K s.heap.size F S0 p0 p1 tp0 tp1 S2 hz1) (cwV 1 hts gX11_numberAfter_X11_word rfl rfl rfl (by decide +kernel) ⟨Nat.le_of_ble_eq_true rfl, Nat.le_of_ble_eq_true rfl⟩) rfl rfl (Nat.le_of_ble_eq_true rfl) dX11_numberAfter_2 ⟨Nat.le_of_ble_eq_true rfl, Nat.le_of_ble_eq_true rfl⟩ (fun H locs hPz1 hW hS => ?_)
  refine W.eq (g2 := F0 m 5 ls []) rfl ?_
  refine lv_aload_n hx hb dX11_numberAfter_5 rfl (lv_at hl 0 rfl) ?_
  refine lv_iload_n hx hb dX11_numberAfter_6 rfl (lv_at hl 2 rfl) ?_
  refine lv_iload_n hx hb dX11_numberAfter_7 rfl (lv_at hl 3 rfl) ?_
  replace hf := obE hf
  obtain ⟨z5, hz5, hf⟩ := hf
  obtain ⟨r7, S6⟩ := z5
  replace hf := ltE (ltE hf r7 rfl) S6 rfl
  refine x_callV (As := [.int p2, .int p3]) (rest := []) (o := (some (.int r7))) (S1 := S6) hC hl.1 hW hS hGs hA tp0 rfl (show vwCl[10]? = some (RX11, TX11, 30) ∧ 10 < 11 from ⟨rfl, by decide⟩) (c_X11_number l g ad n K H.size F S2 p0 p2 p3 tp0 r7 S6 hz5) (cwV 2 hts gX11_numberAfter_X11_number rfl rfl rfl (by decide +kernel) ⟨Nat.le_of_ble_eq_true rfl, Nat.le_of_ble_eq_true rfl⟩) rfl rfl (Nat.le_of_ble_eq_true rfl) dX11_numberAfter_8 ⟨Nat.le_of_ble_eq_true rfl, Nat.le_of_ble_eq_true rfl⟩ (fun H locs hPz5 hW hS => ?_)
  refine W.eq (g2 := F0 m 11 ls [.int r7]) rfl ?_
  obtain ⟨e1, e2⟩ := so2 hf
  subst e1
  subst e2
  exact W.iret (v := r7) hx hb hr (fun t ht hWm => ⟨⟨rfl, by unfold QB; rw [ht]; exact ⟨hW, trivial⟩⟩, hS.F ht⟩) hS.2.2 dX11_numberAfter_11 hlk
set_option maxHeartbeats 4000000 in
set_option maxRecDepth 100000 in
theorem c_X11_letter (l : Launch) (g : GP) (ad : Nat → Nat) (n : Nat) (K : Nat → Nat) (sz F : Nat) (S0 : St) (p0 : Nat) (p1 : Int32) (tp0 : p0 < n ∧ K p0 = 10) (r9 : Int32) (S9 : St) (hf : f_X11_letter F S0 p0 p1 = some (r9, S9)) : Met l yX11_letter wsX11_letter { frames := 0, cells := 0, slots := 0, locals := 0 } (va_Pc [.ref (ad p0), .int p1] (PB g ad n K S0 sz)) (QR (some (.int r9)) (QB g ad n K S9 (dA ad n sz) (True)) (dA ad n sz)) 0 0 (dA ad n sz) := by
  refine Met.ofW (cc := cX11_letter) (maxL := 2) (ret := (some .int)) (by decide) rfl ?_
  intro p e s m args below meth c s₁ B hml hv
  obtain ⟨rfl, hsz, hW, hK, hGs⟩ := x_start hv
  subst hsz
  have hx := B.exec
  have hb := B.bytes
  have hr := B.returns
  have hts := atoms_spec (ws := wsX11_letter) B.pre
  have hown : s.vm.findClass RX11 = some m.cls := findClass_of_methodNamed B.named
  have hlk := B.notSynchronized
  have hC : Cx g p s m _ c cX11_letter RX11 wsX11_letter 2 := ⟨hx, hb, hml, hown, hts, hK⟩
  have hA : ∀ q : Nat, s.heap.size ≤ q → dA ad n s.heap.size q := fun q h => Or.inr h
  have hS : va_S (dA ad n s.heap.size) s.heap s.heap [] := va_S.rf
  have hl := lv_entry ([.ref (ad p0), .int p1]) (n := 2) (Nat.le_of_ble_eq_true rfl)
  rw [lg_entry_eq]
  generalize (lg_sl ([.ref (ad p0), .int p1]) ++ List.replicate (2 - (lg_sl ([.ref (ad p0), .int p1])).length) Slot.unset).toArray = ls at hl ⊢
  have hl : lv_has ls 2 [(0, .ref (ad p0)), (1, .int p1)] := hl
  have hin11 : ∀ w ∈ wsX110, w ∈ wsX11_letter := by decide +kernel
  have w_0 := hts (.fieldLink RX11 115 "MailSpoolModel" "next" "I") (by decide +kernel)
  have w_1 := hts (.fieldLink RX11 109 "MailSpoolModel" "start" "I") (by decide +kernel)
  have w_2 := hts (.fieldLink RX11 32 "MailSpoolModel" "input" "[B") (by decide +kernel)
  have hGE := hGs.2.2.2.2.2.2.1
  have hGM := hGs.2.2.2.2.2.2.2.1
  unfold f_X11_letter at hf
  refine lv_iload_n hx hb dX11_letter_0 rfl (lv_at hl 1 rfl) ?_
  refine lv_aload_n hx hb dX11_letter_1 rfl (lv_at hl 0 rfl) ?_
  refine x_geti 1009 (ci := 10) (C := RX11) (T := TX11) (N := 30) 9 hC hin11 hW tp0 rfl rfl ⟨by decide, by decide, rfl, rfl⟩ rfl w_0 dX11_letter_2 ?_
  refine lv_aload_n hx hb dX11_letter_5 rfl (lv_at hl 0 rfl) ?_
  refine x_geti 1010 (ci := 10) (C := RX11) (T := TX11) (N := 30) 10 hC hin11 hW tp0 rfl rfl ⟨by decide, by decide, rfl, rfl⟩ rfl w_1 dX11_letter_6 ?_
  refine lv_isub hx hb dX11_letter_9 ?_
  refine lv_icmp_ge (tgt := 27) hx hb dX11_letter_10 (by decide) (fun c1 => ?_) (fun c1 => ?_)
  · replace hf := ifT c1 hf
    refine lv_iconst (v := 0) hx hb dX11_letter_27 (by decide) ?_
    obtain ⟨e1, e2⟩ := so2 hf
    subst e1
    subst e2
    exact W.iret (v := 0) hx hb hr (fun t ht hWm => ⟨⟨rfl, by unfold QB; rw [ht]; exact ⟨hW, trivial⟩⟩, hS.F ht⟩) hS.2.2 dX11_letter_28 hlk
  · replace hf := ifF c1 hf
    refine lv_aload_n hx hb dX11_letter_13 rfl (lv_at hl 0 rfl) ?_
    replace hf := obE hf
    obtain ⟨j2, qj2, hf⟩ := hf
    have tj2 := x_rt hW qj2 11 ⟨by decide, rfl⟩
    refine x_getr 1006 (ci := 10) (C := RX11) (T := TX11) (N := 30) 6 hC hin11 hW tp0 rfl rfl ⟨by decide, by decide, rfl, rfl⟩ rfl w_2 dX11_letter_14 qj2 ?_
    refine lv_aload_n hx hb dX11_letter_17 rfl (lv_at hl 0 rfl) ?_
    refine x_geti 1010 (ci := 10) (C := RX11) (T := TX11) (N := 30) 10 hC hin11 hW tp0 rfl rfl ⟨by decide, by decide, rfl, rfl⟩ rfl w_1 dX11_letter_18 ?_
    refine lv_iload_n hx hb dX11_letter_21 rfl (lv_at hl 1 rfl) ?_
    refine lv_iadd hx hb dX11_letter_22 ?_
    replace hf := ckiE hf
    obtain ⟨h3, hf⟩ := hf
    refine x_bald hC hW tj2 rfl rfl h3 dX11_letter_23 ?_
    refine lv_goto (tgt := 28) hx hb dX11_letter_24 (by decide) ?_
    obtain ⟨e1, e2⟩ := so2 hf
    subst e1
    subst e2
    exact W.iret (v := ai S0 j2 (Int32.toNatClampNeg ((si S0 1010 p0) + p1))) hx hb hr (fun t ht hWm => ⟨⟨rfl, by unfold QB; rw [ht]; exact ⟨hW, trivial⟩⟩, hS.F ht⟩) hS.2.2 dX11_letter_28 hlk
set_option maxHeartbeats 4000000 in
set_option maxRecDepth 100000 in
theorem c_X11_named (l : Launch) (g : GP) (ad : Nat → Nat) (n : Nat) (K : Nat → Nat) (sz F : Nat) (S0 : St) (p0 : Nat) (p1 : Int32) (p2 : Int32) (p3 : Int32) (p4 : Int32) (tp0 : p0 < n ∧ K p0 = 10) (r9 : Int32) (S9 : St) (hf : f_X11_named F S0 p0 p1 p2 p3 p4 = some (r9, S9)) : Met l yX11_named wsX11_named { frames := 1, cells := 0, slots := 0, locals := 21 } (va_Pc [.ref (ad p0), .int p1, .int p2, .int p3, .int p4] (PB g ad n K S0 sz)) (QR (some (.int r9)) (QB g ad n K S9 (dA ad n sz) (True)) (dA ad n sz)) 0 0 (dA ad n sz) := by
  refine Met.ofW (cc := cX11_named) (maxL := 8) (ret := (some .int)) (by decide) rfl ?_
  intro p e s m args below meth c s₁ B hml hv
  obtain ⟨rfl, hsz, hW, hK, hGs⟩ := x_start hv
  subst hsz
  have hx := B.exec
  have hb := B.bytes
  have hr := B.returns
  have hts := atoms_spec (ws := wsX11_named) B.pre
  have hown : s.vm.findClass RX11 = some m.cls := findClass_of_methodNamed B.named
  have hlk := B.notSynchronized
  have hC : Cx g p s m _ c cX11_named RX11 wsX11_named 8 := ⟨hx, hb, hml, hown, hts, hK⟩
  have hA : ∀ q : Nat, s.heap.size ≤ q → dA ad n s.heap.size q := fun q h => Or.inr h
  have hS : va_S (dA ad n s.heap.size) s.heap s.heap [] := va_S.rf
  have hl := lv_entry ([.ref (ad p0), .int p1, .int p2, .int p3, .int p4]) (n := 8) (Nat.le_of_ble_eq_true rfl)
  rw [lg_entry_eq]
  generalize (lg_sl ([.ref (ad p0), .int p1, .int p2, .int p3, .int p4]) ++ List.replicate (8 - (lg_sl ([.ref (ad p0), .int p1, .int p2, .int p3, .int p4])).length) Slot.unset).toArray = ls at hl ⊢
  have hl : lv_has ls 8 [(0, .ref (ad p0)), (1, .int p1), (2, .int p2), (3, .int p3), (4, .int p4)] := hl
  have hin11 : ∀ w ∈ wsX110, w ∈ wsX11_named := by decide +kernel
  have w_0 := hts (.fieldLink RX11 29 "MailSpoolModel" "now" "[I") (by decide +kernel)
  have w_1 := hts (.fieldLink RX11 115 "MailSpoolModel" "next" "I") (by decide +kernel)
  have w_2 := hts (.fieldLink RX11 109 "MailSpoolModel" "start" "I") (by decide +kernel)
  have hGE := hGs.2.2.2.2.2.2.1
  have hGM := hGs.2.2.2.2.2.2.2.1
  have L3 : ∀ (fu3 : Nat) (S0 : St) (v0 : Nat) (v1 : Int32) (v2 : Int32) (v3 : Int32) (v4 : Int32) (v5 : Int32) (tv0 : v0 < n ∧ K v0 = 10) (H : Heap) (locs : List Loc) (ls : Array Slot), f_X11_named_L3 F fu3 S0 v0 v1 v2 v3 v4 v5 = some (r9, S9) → Wb g ad n K S0 (dA ad n s.heap.size) H → va_S (dA ad n s.heap.size) s.heap H locs → lv_has ls 8 [(0, .ref (ad v0)), (1, .int v1), (2, .int v2), (3, .int v3), (4, .int v4), (5, .int v5)] → W p l e (headSpec wsX11_named { frames := 1, cells := 0, slots := 0, locals := 21 }).room s m (List.toArray [.ref (ad p0), .int p1, .int p2, .int p3, .int p4]) below meth c H locs 0 0 (MQ below (QR (some (.int r9)) (QB g ad n K S9 (dA ad n s.heap.size) (True)) (dA ad n s.heap.size)) (List.toArray [.ref (ad p0), .int p1, .int p2, .int p3, .int p4]) s 0 0 (dA ad n s.heap.size)) (F0 m 3 ls []) := by
    intro fu3
    induction fu3 with
    | zero =>
      intro S0 v0 v1 v2 v3 v4 v5 tv0 H locs ls hf
      cases hf
    | succ fu3 ih3 =>
      have L84 : ∀ (S0 : St) (v0 : Nat) (v1 : Int32) (v2 : Int32) (v3 : Int32) (v4 : Int32) (v5 : Int32) (v6 : Int32) (tv0 : v0 < n ∧ K v0 = 10) (H : Heap) (locs : List Loc) (ls : Array Slot), f_X11_named_L84 F (fun a0 a1 a2 a3 a4 a5 a6 => f_X11_named_L3 F fu3 a0 a1 a2 a3 a4 a5 a6) S0 v0 v1 v2 v3 v4 v5 v6 = some (r9, S9) → Wb g ad n K S0 (dA ad n s.heap.size) H → va_S (dA ad n s.heap.size) s.heap H locs → lv_has ls 8 [(0, .ref (ad v0)), (1, .int v1), (2, .int v2), (3, .int v3), (4, .int v4), (5, .int v5), (6, .int v6)] → W p l e (headSpec wsX11_named { frames := 1, cells := 0, slots := 0, locals := 21 }).room s m (List.toArray [.ref (ad p0), .int p1, .int p2, .int p3, .int p4]) below meth c H locs 0 0 (MQ below (QR (some (.int r9)) (QB g ad n K S9 (dA ad n s.heap.size) (True)) (dA ad n s.heap.size)) (List.toArray [.ref (ad p0), .int p1, .int p2, .int p3, .int p4]) s 0 0 (dA ad n s.heap.size)) (F0 m 84 ls []) := by
        intro S0 v0 v1 v2 v3 v4 v5 v6 tv0 H locs ls hf hW hS hl
        unfold f_X11_named_L84 at hf
        refine lv_iload hx hb dX11_named_84 (lv_at hl 6 rfl) ?_
        refine lv_if_eq (tgt := 92) hx hb dX11_named_86 (by decide) (fun c3 => ?_) (fun c3 => ?_)
        · replace hf := ifT c3 hf
          obtain ⟨x4, ex4⟩ : ∃ z : Int32, z = v5 + 1 := ⟨_, rfl⟩
          replace hf := ltE hf x4 ex4
          refine lv_iinc (v := x4) (lv' := [(5, .int x4), (0, .ref (ad v0)), (1, .int v1), (2, .int v2), (3, .int v3), (4, .int v4), (6, .int v6)]) hx hb dX11_named_92 hl (k := 5) rfl (by rw [ex4]; rfl) (by decide) rfl (fun ls hl => ?_)
          refine lv_goto (tgt := 3) hx hb dX11_named_95 (by decide) ?_
          exact ih3 S0 v0 v1 v2 v3 v4 x4 tv0 _ _ _ hf hW hS (lv_sub hl [1, 2, 3, 4, 5, 0] rfl)
        · replace hf := ifF c3 hf
          refine lv_iload hx hb dX11_named_89 (lv_at hl 5 rfl) ?_
          obtain ⟨e1, e2⟩ := so2 hf
          subst e1
          subst e2
          exact W.iret (v := v5) hx hb hr (fun t ht hWm => ⟨⟨rfl, by unfold QB; rw [ht]; exact ⟨hW, trivial⟩⟩, hS.F ht⟩) hS.2.2 dX11_named_91 hlk
      have L34 : ∀ (fu34 : Nat) (S0 : St) (v0 : Nat) (v1 : Int32) (v2 : Int32) (v3 : Int32) (v4 : Int32) (v5 : Int32) (v6 : Int32) (v7 : Int32) (tv0 : v0 < n ∧ K v0 = 10) (H : Heap) (locs : List Loc) (ls : Array Slot), f_X11_named_L34 F (fun a0 a1 a2 a3 a4 a5 a6 => f_X11_named_L3 F fu3 a0 a1 a2 a3 a4 a5 a6) fu34 S0 v0 v1 v2 v3 v4 v5 v6 v7 = some (r9, S9) → Wb g ad n K S0 (dA ad n s.heap.size) H → va_S (dA ad n s.heap.size) s.heap H locs → lv_has ls 8 [(0, .ref (ad v0)), (1, .int v1), (2, .int v2), (3, .int v3), (4, .int v4), (5, .int v5), (6, .int v6), (7, .int v7)] → W p l e (headSpec wsX11_named { frames := 1, cells := 0, slots := 0, locals := 21 }).room s m (List.toArray [.ref (ad p0), .int p1, .int p2, .int p3, .int p4]) below meth c H locs 0 0 (MQ below (QR (some (.int r9)) (QB g ad n K S9 (dA ad n s.heap.size) (True)) (dA ad n s.heap.size)) (List.toArray [.ref (ad p0), .int p1, .int p2, .int p3, .int p4]) s 0 0 (dA ad n s.heap.size)) (F0 m 34 ls []) := by
        intro fu34
        induction fu34 with
        | zero =>
          intro S0 v0 v1 v2 v3 v4 v5 v6 v7 tv0 H locs ls hf
          cases hf
        | succ fu34 ih34 =>
          have L76 : ∀ (S0 : St) (v0 : Nat) (v1 : Int32) (v2 : Int32) (v3 : Int32) (v4 : Int32) (v5 : Int32) (v7 : Int32) (s0 : Int32) (tv0 : v0 < n ∧ K v0 = 10) (H : Heap) (locs : List Loc) (ls : Array Slot), f_X11_named_L76 F (fun a0 a1 a2 a3 a4 a5 a6 => f_X11_named_L3 F fu3 a0 a1 a2 a3 a4 a5 a6) (fun a0 a1 a2 a3 a4 a5 a6 a7 a8 => f_X11_named_L34 F (fun a0 a1 a2 a3 a4 a5 a6 => f_X11_named_L3 F fu3 a0 a1 a2 a3 a4 a5 a6) fu34 a0 a1 a2 a3 a4 a5 a6 a7 a8) S0 v0 v1 v2 v3 v4 v5 v7 s0 = some (r9, S9) → Wb g ad n K S0 (dA ad n s.heap.size) H → va_S (dA ad n s.heap.size) s.heap H locs → lv_has ls 8 [(0, .ref (ad v0)), (1, .int v1), (2, .int v2), (3, .int v3), (4, .int v4), (5, .int v5), (7, .int v7)] → W p l e (headSpec wsX11_named { frames := 1, cells := 0, slots := 0, locals := 21 }).room s m (List.toArray [.ref (ad p0), .int p1, .int p2, .int p3, .int p4]) below meth c H locs 0 0 (MQ below (QR (some (.int r9)) (QB g ad n K S9 (dA ad n s.heap.size) (True)) (dA ad n s.heap.size)) (List.toArray [.ref (ad p0), .int p1, .int p2, .int p3, .int p4]) s 0 0 (dA ad n s.heap.size)) (F0 m 76 ls [.int s0]) := by
            intro S0 v0 v1 v2 v3 v4 v5 v7 s0 tv0 H locs ls hf hW hS hl
            unfold f_X11_named_L76 at hf
            refine lv_istore (lv' := [(6, .int s0), (0, .ref (ad v0)), (1, .int v1), (2, .int v2), (3, .int v3), (4, .int v4), (5, .int v5), (7, .int v7)]) hx hb dX11_named_76 hl (by decide) rfl (fun ls hl => ?_)
            obtain ⟨x6, ex6⟩ : ∃ z : Int32, z = v7 + 1 := ⟨_, rfl⟩
            replace hf := ltE hf x6 ex6
            refine lv_iinc (v := x6) (lv' := [(7, .int x6), (6, .int s0), (0, .ref (ad v0)), (1, .int v1), (2, .int v2), (3, .int v3), (4, .int v4), (5, .int v5)]) hx hb dX11_named_78 hl (k := 7) rfl (by rw [ex6]; rfl) (by decide) rfl (fun ls hl => ?_)
            refine lv_goto (tgt := 34) hx hb dX11_named_81 (by decide) ?_
            exact ih34 S0 v0 v1 v2 v3 v4 v5 s0 x6 tv0 _ _ _ hf hW hS (lv_sub hl [2, 3, 4, 5, 6, 7, 1, 0] rfl)
          intro S0 v0 v1 v2 v3 v4 v5 v6 v7 tv0 H locs ls hf hW hS hl
          unfold f_X11_named_L34 at hf
          refine lv_iload hx hb dX11_named_34 (lv_at hl 7 rfl) ?_
          refine lv_bipush (v := 6) hx hb dX11_named_36 (by decide) ?_
          refine lv_icmp_ge (tgt := 84) hx hb dX11_named_38 (by decide) (fun c16 => ?_) (fun c16 => ?_)
          · replace hf := ifT c16 hf
            exact L84 S0 v0 v1 v2 v3 v4 v5 v6 tv0 _ _ _ hf hW hS (lv_sub hl [0, 1, 2, 3, 4, 5, 6] rfl)
          · replace hf := ifF c16 hf
            refine lv_iload hx hb dX11_named_41 (lv_at hl 6 rfl) ?_
            refine lv_if_eq (tgt := 84) hx hb dX11_named_43 (by decide) (fun c17 => ?_) (fun c17 => ?_)
            · replace hf := ifT c17 hf
              exact L84 S0 v0 v1 v2 v3 v4 v5 v6 tv0 _ _ _ hf hW hS (lv_sub hl [0, 1, 2, 3, 4, 5, 6] rfl)
            · replace hf := ifF c17 hf
              refine lv_aload_n hx hb dX11_named_46 rfl (lv_at hl 0 rfl) ?_
              replace hf := obE hf
              obtain ⟨j18, qj18, hf⟩ := hf
              have tj18 := x_rt hW qj18 12 ⟨by decide, rfl⟩
              refine x_getr 1004 (ci := 10) (C := RX11) (T := TX11) (N := 30) 4 hC hin11 hW tv0 rfl rfl ⟨by decide, by decide, rfl, rfl⟩ rfl w_0 dX11_named_47 qj18 ?_
              refine lv_iload_n hx hb dX11_named_50 rfl (lv_at hl 1 rfl) ?_
              refine lv_iload_n hx hb dX11_named_51 rfl (lv_at hl 2 rfl) ?_
              refine lv_iload hx hb dX11_named_52 (lv_at hl 5 rfl) ?_
              refine lv_imul hx hb dX11_named_54 ?_
              refine lv_iadd hx hb dX11_named_55 ?_
              refine lv_iload_n hx hb dX11_named_56 rfl (lv_at hl 3 rfl) ?_
              refine lv_iadd hx hb dX11_named_57 ?_
              refine lv_iload hx hb dX11_named_58 (lv_at hl 7 rfl) ?_
              refine lv_iadd hx hb dX11_named_60 ?_
              replace hf := ckiE hf
              obtain ⟨h19, hf⟩ := hf
              refine x_iald hC hW tj18 rfl rfl h19 dX11_named_61 ?_
              refine lv_aload_n hx hb dX11_named_62 rfl (lv_at hl 0 rfl) ?_
              refine lv_iload hx hb dX11_named_63 (lv_at hl 7 rfl) ?_
              replace hf := obE hf
              obtain ⟨z20, hz20, hf⟩ := hf
              obtain ⟨r22, S21⟩ := z20
              replace hf := ltE (ltE hf r22 rfl) S21 rfl
              refine x_callV (As := [.int v7]) (rest := [.int (ai S0 j18 (Int32.toNatClampNeg (((v1 + (v2 * v5)) + v3) + v7)))]) (o := (some (.int r22))) (S1 := S21) hC hl.1 hW hS hGs hA tv0 rfl (show vwCl[10]? = some (RX11, TX11, 30) ∧ 10 < 11 from ⟨rfl, by decide⟩) (c_X11_letter l g ad n K H.size F S0 v0 v7 tv0 r22 S21 hz20) (cwV 1 hts gX11_named_X11_letter rfl rfl rfl (by decide +kernel) ⟨Nat.le_of_ble_eq_true rfl, Nat.le_of_ble_eq_true rfl⟩) rfl rfl (Nat.le_of_ble_eq_true rfl) dX11_named_65 ⟨Nat.le_of_ble_eq_true rfl, Nat.le_of_ble_eq_true rfl⟩ (fun H locs hPz20 hW hS => ?_)
              refine W.eq (g2 := F0 m 68 ls [.int r22, .int (ai S0 j18 (Int32.toNatClampNeg (((v1 + (v2 * v5)) + v3) + v7)))]) rfl ?_
              refine lv_icmp_ne (tgt := 75) hx hb dX11_named_68 (by decide) (fun c24 => ?_) (fun c24 => ?_)
              · replace hf := ifT c24 hf
                refine lv_iconst (v := 0) hx hb dX11_named_75 (by decide) ?_
                exact L76 S21 v0 v1 v2 v3 v4 v5 v7 0 tv0 _ _ _ hf hW hS (lv_sub hl [0, 1, 2, 3, 4, 5, 7] rfl)
              · replace hf := ifF (fun q => q c24) hf
                refine lv_iconst (v := 1) hx hb dX11_named_71 (by decide) ?_
                refine lv_goto (tgt := 76) hx hb dX11_named_72 (by decide) ?_
                exact L76 S21 v0 v1 v2 v3 v4 v5 v7 1 tv0 _ _ _ hf hW hS (lv_sub hl [0, 1, 2, 3, 4, 5, 7] rfl)
      have L29 : ∀ (S0 : St) (v0 : Nat) (v1 : Int32) (v2 : Int32) (v3 : Int32) (v4 : Int32) (v5 : Int32) (s0 : Int32) (tv0 : v0 < n ∧ K v0 = 10) (H : Heap) (locs : List Loc) (ls : Array Slot), f_X11_named_L29 F (fun a0 a1 a2 a3 a4 a5 a6 => f_X11_named_L3 F fu3 a0 a1 a2 a3 a4 a5 a6) S0 v0 v1 v2 v3 v4 v5 s0 = some (r9, S9) → Wb g ad n K S0 (dA ad n s.heap.size) H → va_S (dA ad n s.heap.size) s.heap H locs → lv_has ls 8 [(0, .ref (ad v0)), (1, .int v1), (2, .int v2), (3, .int v3), (4, .int v4), (5, .int v5)] → W p l e (headSpec wsX11_named { frames := 1, cells := 0, slots := 0, locals := 21 }).room s m (List.toArray [.ref (ad p0), .int p1, .int p2, .int p3, .int p4]) below meth c H locs 0 0 (MQ below (QR (some (.int r9)) (QB g ad n K S9 (dA ad n s.heap.size) (True)) (dA ad n s.heap.size)) (List.toArray [.ref (ad p0), .int p1, .int p2, .int p3, .int p4]) s 0 0 (dA ad n s.heap.size)) (F0 m 29 ls [.int s0]) := by
        intro S0 v0 v1 v2 v3 v4 v5 s0 tv0 H locs ls hf hW hS hl
        unfold f_X11_named_L29 at hf
        refine lv_istore (lv' := [(6, .int s0), (0, .ref (ad v0)), (1, .int v1), (2, .int v2), (3, .int v3), (4, .int v4), (5, .int v5)]) hx hb dX11_named_29 hl (by decide) rfl (fun ls hl => ?_)
        refine lv_iconst (v := 0) hx hb dX11_named_31 (by decide) ?_
        refine lv_istore (lv' := [(7, .int 0), (6, .int s0), (0, .ref (ad v0)), (1, .int v1), (2, .int v2), (3, .int v3), (4, .int v4), (5, .int v5)]) hx hb dX11_named_32 hl (by decide) rfl (fun ls hl => ?_)
        exact L34 F S0 v0 v1 v2 v3 v4 v5 s0 0 tv0 _ _ _ hf hW hS (lv_sub hl [2, 3, 4, 5, 6, 7, 1, 0] rfl)
      intro S0 v0 v1 v2 v3 v4 v5 tv0 H locs ls hf hW hS hl
      unfold f_X11_named_L3 at hf
      refine lv_iload hx hb dX11_named_3 (lv_at hl 5 rfl) ?_
      refine lv_iload hx hb dX11_named_5 (lv_at hl 4 rfl) ?_
      refine lv_icmp_ge (tgt := 98) hx hb dX11_named_7 (by decide) (fun c27 => ?_) (fun c27 => ?_)
      · replace hf := ifT c27 hf
        refine lv_iconst (v := -1) hx hb dX11_named_98 (by decide) ?_
        obtain ⟨e1, e2⟩ := so2 hf
        subst e1
        subst e2
        exact W.iret (v := (-1)) hx hb hr (fun t ht hWm => ⟨⟨rfl, by unfold QB; rw [ht]; exact ⟨hW, trivial⟩⟩, hS.F ht⟩) hS.2.2 dX11_named_99 hlk
      · replace hf := ifF c27 hf
        refine lv_aload_n hx hb dX11_named_10 rfl (lv_at hl 0 rfl) ?_
        refine x_geti 1009 (ci := 10) (C := RX11) (T := TX11) (N := 30) 9 hC hin11 hW tv0 rfl rfl ⟨by decide, by decide, rfl, rfl⟩ rfl w_1 dX11_named_11 ?_
        refine lv_aload_n hx hb dX11_named_14 rfl (lv_at hl 0 rfl) ?_
        refine x_geti 1010 (ci := 10) (C := RX11) (T := TX11) (N := 30) 10 hC hin11 hW tv0 rfl rfl ⟨by decide, by decide, rfl, rfl⟩ rfl w_2 dX11_named_15 ?_
        refine lv_isub hx hb dX11_named_18 ?_
        refine lv_bipush (v := 6) hx hb dX11_named_19 (by decide) ?_
        refine lv_icmp_gt (tgt := 28) hx hb dX11_named_21 (by decide) (fun c28 => ?_) (fun c28 => ?_)
        · replace hf := ifT c28 hf
          refine lv_iconst (v := 0) hx hb dX11_named_28 (by decide) ?_
          exact L29 S0 v0 v1 v2 v3 v4 v5 0 tv0 _ _ _ hf hW hS (lv_sub hl [0, 1, 2, 3, 4, 5] rfl)
        · replace hf := ifF c28 hf
          refine lv_iconst (v := 1) hx hb dX11_named_24 (by decide) ?_
          refine lv_goto (tgt := 29) hx hb dX11_named_25 (by decide) ?_
          exact L29 S0 v0 v1 v2 v3 v4 v5 1 tv0 _ _ _ hf hW hS (lv_sub hl [0, 1, 2, 3, 4, 5] rfl)
  unfold f_X11_named at hf
  refine lv_iconst (v := 0) hx hb dX11_named_0 (by decide) ?_
  refine lv_istore (lv' := [(5, .int 0), (0, .ref (ad p0)), (1, .int p1), (2, .int p2), (3, .int p3), (4, .int p4)]) hx hb dX11_named_1 hl (by decide) rfl (fun ls hl => ?_)
  exact L3 F S0 p0 p1 p2 p3 p4 0 tp0 _ _ _ hf hW hS (lv_sub hl [1, 2, 3, 4, 5, 0] rfl)
set_option maxHeartbeats 4000000 in
set_option maxRecDepth 100000 in
theorem c_X11_kindNamed (l : Launch) (g : GP) (ad : Nat → Nat) (n : Nat) (K : Nat → Nat) (sz F : Nat) (S0 : St) (p0 : Nat) (p1 : Int32) (tp0 : p0 < n ∧ K p0 = 10) (r9 : Int32) (S9 : St) (hf : f_X11_kindNamed F S0 p0 p1 = some (r9, S9)) : Met l yX11_kindNamed wsX11_kindNamed { frames := 2, cells := 0, slots := 0, locals := 48 } (va_Pc [.ref (ad p0), .int p1] (PB g ad n K S0 sz)) (QR (some (.int r9)) (QB g ad n K S9 (dA ad n sz) (True)) (dA ad n sz)) 0 0 (dA ad n sz) := by
  refine Met.ofW (cc := cX11_kindNamed) (maxL := 2) (ret := (some .int)) (by decide) rfl ?_
  intro p e s m args below meth c s₁ B hml hv
  obtain ⟨rfl, hsz, hW, hK, hGs⟩ := x_start hv
  subst hsz
  have hx := B.exec
  have hb := B.bytes
  have hr := B.returns
  have hts := atoms_spec (ws := wsX11_kindNamed) B.pre
  have hown : s.vm.findClass RX11 = some m.cls := findClass_of_methodNamed B.named
  have hlk := B.notSynchronized
  have hC : Cx g p s m _ c cX11_kindNamed RX11 wsX11_kindNamed 2 := ⟨hx, hb, hml, hown, hts, hK⟩
  have hA : ∀ q : Nat, s.heap.size ≤ q → dA ad n s.heap.size q := fun q h => Or.inr h
  have hS : va_S (dA ad n s.heap.size) s.heap s.heap [] := va_S.rf
  have hl := lv_entry ([.ref (ad p0), .int p1]) (n := 2) (Nat.le_of_ble_eq_true rfl)
  rw [lg_entry_eq]
  generalize (lg_sl ([.ref (ad p0), .int p1]) ++ List.replicate (2 - (lg_sl ([.ref (ad p0), .int p1])).length) Slot.unset).toArray = ls at hl ⊢
  have hl : lv_has ls 2 [(0, .ref (ad p0)), (1, .int p1)] := hl
  have hin11 : ∀ w ∈ wsX110, w ∈ wsX11_kindNamed := by decide +kernel
  have w_0 := hts (.fieldLink RX11 29 "MailSpoolModel" "now" "[I") (by decide +kernel)
  have hGE := hGs.2.2.2.2.2.2.1
  have hGM := hGs.2.2.2.2.2.2.2.1
  unfold f_X11_kindNamed at hf
  refine lv_iload_n hx hb dX11_kindNamed_0 rfl (lv_at hl 1 rfl) ?_
  refine lv_if_ne (tgt := 20) hx hb dX11_kindNamed_1 (by decide) (fun c1 => ?_) (fun c1 => ?_)
  · replace hf := ifT c1 hf
    refine lv_iload_n hx hb dX11_kindNamed_20 rfl (lv_at hl 1 rfl) ?_
    refine lv_iconst (v := 1) hx hb dX11_kindNamed_21 (by decide) ?_
    refine lv_icmp_ne (tgt := 41) hx hb dX11_kindNamed_22 (by decide) (fun c2 => ?_) (fun c2 => ?_)
    · replace hf := ifT c2 hf
      refine lv_iload_n hx hb dX11_kindNamed_41 rfl (lv_at hl 1 rfl) ?_
      refine lv_iconst (v := 2) hx hb dX11_kindNamed_42 (by decide) ?_
      refine lv_icmp_ne (tgt := 65) hx hb dX11_kindNamed_43 (by decide) (fun c3 => ?_) (fun c3 => ?_)
      · replace hf := ifT c3 hf
        refine lv_aload_n hx hb dX11_kindNamed_65 rfl (lv_at hl 0 rfl) ?_
        refine lv_sipush (v := 205) hx hb dX11_kindNamed_66 (by decide) ?_
        refine lv_bipush (v := 21) hx hb dX11_kindNamed_69 (by decide) ?_
        refine lv_bipush (v := 15) hx hb dX11_kindNamed_71 (by decide) ?_
        refine lv_aload_n hx hb dX11_kindNamed_73 rfl (lv_at hl 0 rfl) ?_
        replace hf := obE hf
        obtain ⟨j4, qj4, hf⟩ := hf
        have tj4 := x_rt hW qj4 12 ⟨by decide, rfl⟩
        refine x_getr 1004 (ci := 10) (C := RX11) (T := TX11) (N := 30) 4 hC hin11 hW tp0 rfl rfl ⟨by decide, by decide, rfl, rfl⟩ rfl w_0 dX11_kindNamed_74 qj4 ?_
        refine lv_bipush (v := 6) hx hb dX11_kindNamed_77 (by decide) ?_
        replace hf := ckiE hf
        obtain ⟨h5, hf⟩ := hf
        refine x_iald hC hW tj4 rfl rfl h5 dX11_kindNamed_79 ?_
        replace hf := obE hf
        obtain ⟨z6, hz6, hf⟩ := hf
        obtain ⟨r8, S7⟩ := z6
        replace hf := ltE (ltE hf r8 rfl) S7 rfl
        refine x_callV (As := [.int 205, .int 21, .int 15, .int (ai S0 j4 (Int32.toNatClampNeg 6))]) (rest := []) (o := (some (.int r8))) (S1 := S7) hC hl.1 hW hS hGs hA tp0 rfl (show vwCl[10]? = some (RX11, TX11, 30) ∧ 10 < 11 from ⟨rfl, by decide⟩) (c_X11_named l g ad n K s.heap.size F S0 p0 ((205 : Int32)) ((21 : Int32)) ((15 : Int32)) (ai S0 j4 (Int32.toNatClampNeg 6)) tp0 r8 S7 hz6) (cwV 4 hts gX11_kindNamed_X11_named rfl rfl rfl (by decide +kernel) ⟨Nat.le_of_ble_eq_true rfl, Nat.le_of_ble_eq_true rfl⟩) rfl rfl (Nat.le_of_ble_eq_true rfl) dX11_kindNamed_80 ⟨Nat.le_of_ble_eq_true rfl, Nat.le_of_ble_eq_true rfl⟩ (fun H locs hPz6 hW hS => ?_)
        refine W.eq (g2 := F0 m 83 ls [.int r8]) rfl ?_
        obtain ⟨e1, e2⟩ := so2 hf
        subst e1
        subst e2
        exact W.iret (v := r8) hx hb hr (fun t ht hWm => ⟨⟨rfl, by unfold QB; rw [ht]; exact ⟨hW, trivial⟩⟩, hS.F ht⟩) hS.2.2 dX11_kindNamed_83 hlk
      · replace hf := ifF (fun q => q c3) hf
        refine lv_aload_n hx hb dX11_kindNamed_46 rfl (lv_at hl 0 rfl) ?_
        refine lv_sipush (v := 163) hx hb dX11_kindNamed_47 (by decide) ?_
        refine lv_bipush (v := 7) hx hb dX11_kindNamed_50 (by decide) ?_
        refine lv_iconst (v := 1) hx hb dX11_kindNamed_52 (by decide) ?_
        refine lv_aload_n hx hb dX11_kindNamed_53 rfl (lv_at hl 0 rfl) ?_
        replace hf := obE hf
        obtain ⟨j10, qj10, hf⟩ := hf
        have tj10 := x_rt hW qj10 12 ⟨by decide, rfl⟩
        refine x_getr 1004 (ci := 10) (C := RX11) (T := TX11) (N := 30) 4 hC hin11 hW tp0 rfl rfl ⟨by decide, by decide, rfl, rfl⟩ rfl w_0 dX11_kindNamed_54 qj10 ?_
        refine lv_iconst (v := 5) hx hb dX11_kindNamed_57 (by decide) ?_
        replace hf := ckiE hf
        obtain ⟨h11, hf⟩ := hf
        refine x_iald hC hW tj10 rfl rfl h11 dX11_kindNamed_58 ?_
        replace hf := obE hf
        obtain ⟨z12, hz12, hf⟩ := hf
        obtain ⟨r14, S13⟩ := z12
        replace hf := ltE (ltE hf r14 rfl) S13 rfl
        refine x_callV (As := [.int 163, .int 7, .int 1, .int (ai S0 j10 (Int32.toNatClampNeg 5))]) (rest := []) (o := (some (.int r14))) (S1 := S13) hC hl.1 hW hS hGs hA tp0 rfl (show vwCl[10]? = some (RX11, TX11, 30) ∧ 10 < 11 from ⟨rfl, by decide⟩) (c_X11_named l g ad n K s.heap.size F S0 p0 ((163 : Int32)) ((7 : Int32)) ((1 : Int32)) (ai S0 j10 (Int32.toNatClampNeg 5)) tp0 r14 S13 hz12) (cwV 4 hts gX11_kindNamed_X11_named rfl rfl rfl (by decide +kernel) ⟨Nat.le_of_ble_eq_true rfl, Nat.le_of_ble_eq_true rfl⟩) rfl rfl (Nat.le_of_ble_eq_true rfl) dX11_kindNamed_59 ⟨Nat.le_of_ble_eq_true rfl, Nat.le_of_ble_eq_true rfl⟩ (fun H locs hPz12 hW hS => ?_)
        refine W.eq (g2 := F0 m 62 ls [.int r14]) rfl ?_
        refine lv_goto (tgt := 83) hx hb dX11_kindNamed_62 (by decide) ?_
        obtain ⟨e1, e2⟩ := so2 hf
        subst e1
        subst e2
        exact W.iret (v := r14) hx hb hr (fun t ht hWm => ⟨⟨rfl, by unfold QB; rw [ht]; exact ⟨hW, trivial⟩⟩, hS.F ht⟩) hS.2.2 dX11_kindNamed_83 hlk
    · replace hf := ifF (fun q => q c2) hf
      refine lv_aload_n hx hb dX11_kindNamed_25 rfl (lv_at hl 0 rfl) ?_
      refine lv_bipush (v := 83) hx hb dX11_kindNamed_26 (by decide) ?_
      refine lv_bipush (v := 8) hx hb dX11_kindNamed_28 (by decide) ?_
      refine lv_iconst (v := 2) hx hb dX11_kindNamed_30 (by decide) ?_
      refine lv_aload_n hx hb dX11_kindNamed_31 rfl (lv_at hl 0 rfl) ?_
      replace hf := obE hf
      obtain ⟨j16, qj16, hf⟩ := hf
      have tj16 := x_rt hW qj16 12 ⟨by decide, rfl⟩
      refine x_getr 1004 (ci := 10) (C := RX11) (T := TX11) (N := 30) 4 hC hin11 hW tp0 rfl rfl ⟨by decide, by decide, rfl, rfl⟩ rfl w_0 dX11_kindNamed_32 qj16 ?_
      refine lv_iconst (v := 4) hx hb dX11_kindNamed_35 (by decide) ?_
      replace hf := ckiE hf
      obtain ⟨h17, hf⟩ := hf
      refine x_iald hC hW tj16 rfl rfl h17 dX11_kindNamed_36 ?_
      replace hf := obE hf
      obtain ⟨z18, hz18, hf⟩ := hf
      obtain ⟨r20, S19⟩ := z18
      replace hf := ltE (ltE hf r20 rfl) S19 rfl
      refine x_callV (As := [.int 83, .int 8, .int 2, .int (ai S0 j16 (Int32.toNatClampNeg 4))]) (rest := []) (o := (some (.int r20))) (S1 := S19) hC hl.1 hW hS hGs hA tp0 rfl (show vwCl[10]? = some (RX11, TX11, 30) ∧ 10 < 11 from ⟨rfl, by decide⟩) (c_X11_named l g ad n K s.heap.size F S0 p0 ((83 : Int32)) ((8 : Int32)) ((2 : Int32)) (ai S0 j16 (Int32.toNatClampNeg 4)) tp0 r20 S19 hz18) (cwV 4 hts gX11_kindNamed_X11_named rfl rfl rfl (by decide +kernel) ⟨Nat.le_of_ble_eq_true rfl, Nat.le_of_ble_eq_true rfl⟩) rfl rfl (Nat.le_of_ble_eq_true rfl) dX11_kindNamed_37 ⟨Nat.le_of_ble_eq_true rfl, Nat.le_of_ble_eq_true rfl⟩ (fun H locs hPz18 hW hS => ?_)
      refine W.eq (g2 := F0 m 40 ls [.int r20]) rfl ?_
      obtain ⟨e1, e2⟩ := so2 hf
      subst e1
      subst e2
      exact W.iret (v := r20) hx hb hr (fun t ht hWm => ⟨⟨rfl, by unfold QB; rw [ht]; exact ⟨hW, trivial⟩⟩, hS.F ht⟩) hS.2.2 dX11_kindNamed_40 hlk
  · replace hf := ifF (fun q => q c1) hf
    refine lv_aload_n hx hb dX11_kindNamed_4 rfl (lv_at hl 0 rfl) ?_
    refine lv_bipush (v := 11) hx hb dX11_kindNamed_5 (by decide) ?_
    refine lv_bipush (v := 9) hx hb dX11_kindNamed_7 (by decide) ?_
    refine lv_iconst (v := 3) hx hb dX11_kindNamed_9 (by decide) ?_
    refine lv_aload_n hx hb dX11_kindNamed_10 rfl (lv_at hl 0 rfl) ?_
    replace hf := obE hf
    obtain ⟨j22, qj22, hf⟩ := hf
    have tj22 := x_rt hW qj22 12 ⟨by decide, rfl⟩
    refine x_getr 1004 (ci := 10) (C := RX11) (T := TX11) (N := 30) 4 hC hin11 hW tp0 rfl rfl ⟨by decide, by decide, rfl, rfl⟩ rfl w_0 dX11_kindNamed_11 qj22 ?_
    refine lv_iconst (v := 3) hx hb dX11_kindNamed_14 (by decide) ?_
    replace hf := ckiE hf
    obtain ⟨h23, hf⟩ := hf
    refine x_iald hC hW tj22 rfl rfl h23 dX11_kindNamed_15 ?_
    replace hf := obE hf
    obtain ⟨z24, hz24, hf⟩ := hf
    obtain ⟨r26, S25⟩ := z24
    replace hf := ltE (ltE hf r26 rfl) S25 rfl
    refine x_callV (As := [.int 11, .int 9, .int 3, .int (ai S0 j22 (Int32.toNatClampNeg 3))]) (rest := []) (o := (some (.int r26))) (S1 := S25) hC hl.1 hW hS hGs hA tp0 rfl (show vwCl[10]? = some (RX11, TX11, 30) ∧ 10 < 11 from ⟨rfl, by decide⟩) (c_X11_named l g ad n K s.heap.size F S0 p0 ((11 : Int32)) ((9 : Int32)) ((3 : Int32)) (ai S0 j22 (Int32.toNatClampNeg 3)) tp0 r26 S25 hz24) (cwV 4 hts gX11_kindNamed_X11_named rfl rfl rfl (by decide +kernel) ⟨Nat.le_of_ble_eq_true rfl, Nat.le_of_ble_eq_true rfl⟩) rfl rfl (Nat.le_of_ble_eq_true rfl) dX11_kindNamed_16 ⟨Nat.le_of_ble_eq_true rfl, Nat.le_of_ble_eq_true rfl⟩ (fun H locs hPz24 hW hS => ?_)
    refine W.eq (g2 := F0 m 19 ls [.int r26]) rfl ?_
    obtain ⟨e1, e2⟩ := so2 hf
    subst e1
    subst e2
    exact W.iret (v := r26) hx hb hr (fun t ht hWm => ⟨⟨rfl, by unfold QB; rw [ht]; exact ⟨hW, trivial⟩⟩, hS.F ht⟩) hS.2.2 dX11_kindNamed_19 hlk
set_option maxHeartbeats 4000000 in
set_option maxRecDepth 100000 in
theorem c_X11_checkName (l : Launch) (g : GP) (ad : Nat → Nat) (n : Nat) (K : Nat → Nat) (sz F : Nat) (S0 : St) (p0 : Nat) (tp0 : p0 < n ∧ K p0 = 10) (S9 : St) (hf : f_X11_checkName F S0 p0 = some S9) : Met l yX11_checkName wsX11_checkName { frames := 7, cells := 0, slots := 0, locals := 150 } (va_Pc [.ref (ad p0)] (PB g ad n K S0 sz)) (QR none (QB g ad n K S9 (dA ad n sz) (True)) (dA ad n sz)) 0 0 (dA ad n sz) := by
  refine Met.ofW (cc := cX11_checkName) (maxL := 1) (ret := none) (by decide) rfl ?_
  intro p e s m args below meth c s₁ B hml hv
  obtain ⟨rfl, hsz, hW, hK, hGs⟩ := x_start hv
  subst hsz
  have hx := B.exec
  have hb := B.bytes
  have hr := B.returns
  have hts := atoms_spec (ws := wsX11_checkName) B.pre
  have hown : s.vm.findClass RX11 = some m.cls := findClass_of_methodNamed B.named
  have hlk := B.notSynchronized
  have hC : Cx g p s m _ c cX11_checkName RX11 wsX11_checkName 1 := ⟨hx, hb, hml, hown, hts, hK⟩
  have hA : ∀ q : Nat, s.heap.size ≤ q → dA ad n s.heap.size q := fun q h => Or.inr h
  have hS : va_S (dA ad n s.heap.size) s.heap s.heap [] := va_S.rf
  have hl := lv_entry ([.ref (ad p0)]) (n := 1) (Nat.le_of_ble_eq_true rfl)
  rw [lg_entry_eq]
  generalize (lg_sl ([.ref (ad p0)]) ++ List.replicate (1 - (lg_sl ([.ref (ad p0)])).length) Slot.unset).toArray = ls at hl ⊢
  have hl : lv_has ls 1 [(0, .ref (ad p0))] := hl
  have hin11 : ∀ w ∈ wsX110, w ∈ wsX11_checkName := by decide +kernel
  have w_0 := hts (.fieldLink RX11 122 "MailSpoolModel" "token" "I") (by decide +kernel)
  have w_1 := hts (.fieldLink RX11 115 "MailSpoolModel" "next" "I") (by decide +kernel)
  have w_2 := hts (.fieldLink RX11 109 "MailSpoolModel" "start" "I") (by decide +kernel)
  have hGE := hGs.2.2.2.2.2.2.1
  have hGM := hGs.2.2.2.2.2.2.2.1
  have L36 : ∀ (S0 : St) (v0 : Nat) (tv0 : v0 < n ∧ K v0 = 10) (H : Heap) (locs : List Loc) (ls : Array Slot), f_X11_checkName_L36 F S0 v0 = some S9 → Wb g ad n K S0 (dA ad n s.heap.size) H → va_S (dA ad n s.heap.size) s.heap H locs → lv_has ls 1 [(0, .ref (ad v0))] → W p l e (headSpec wsX11_checkName { frames := 7, cells := 0, slots := 0, locals := 150 }).room s m (List.toArray [.ref (ad p0)]) below meth c H locs 0 0 (MQ below (QR none (QB g ad n K S9 (dA ad n s.heap.size) (True)) (dA ad n s.heap.size)) (List.toArray [.ref (ad p0)]) s 0 0 (dA ad n s.heap.size)) (F0 m 36 ls []) := by
    intro S0 v0 tv0 H locs ls hf hW hS hl
    unfold f_X11_checkName_L36 at hf
    refine lv_aload_n hx hb dX11_checkName_36 rfl (lv_at hl 0 rfl) ?_
    refine lv_iconst (v := 1) hx hb dX11_checkName_37 (by decide) ?_
    replace hf := obE hf
    obtain ⟨S6, hz5, hf⟩ := hf
    refine x_callV (As := [.int 1]) (rest := []) (o := none) (S1 := S6) hC hl.1 hW hS hGs hA tv0 rfl (show vwCl[10]? = some (RX11, TX11, 30) ∧ 10 < 11 from ⟨rfl, by decide⟩) (c_X11_errs l g ad n K H.size F S0 v0 ((1 : Int32)) tv0 S6 hz5) (cwV 1 hts gX11_checkName_X11_errs rfl rfl rfl (by decide +kernel) ⟨Nat.le_of_ble_eq_true rfl, Nat.le_of_ble_eq_true rfl⟩) rfl rfl (Nat.le_of_ble_eq_true rfl) dX11_checkName_38 ⟨Nat.le_of_ble_eq_true rfl, Nat.le_of_ble_eq_true rfl⟩ (fun H locs hPz5 hW hS => ?_)
    refine W.eq (g2 := F0 m 41 ls []) rfl ?_
    have e1 := Option.some.inj hf
    subst e1
    exact W.vret hx hb hr (fun t ht hWm => ⟨⟨rfl, by unfold QB; rw [ht]; exact ⟨hW, trivial⟩⟩, hS.F ht⟩) hS.2.2 dX11_checkName_41 hlk
  unfold f_X11_checkName at hf
  refine lv_aload_n hx hb dX11_checkName_0 rfl (lv_at hl 0 rfl) ?_
  replace hf := obE hf
  obtain ⟨z9, hz9, hf⟩ := hf
  obtain ⟨r11, S10⟩ := z9
  replace hf := ltE (ltE hf r11 rfl) S10 rfl
  refine x_callV (As := []) (rest := []) (o := (some (.int r11))) (S1 := S10) hC hl.1 hW hS hGs hA tp0 rfl (show vwCl[10]? = some (RX11, TX11, 30) ∧ 10 < 11 from ⟨rfl, by decide⟩) (c_X11_good l g ad n K s.heap.size F S0 p0 tp0 r11 S10 hz9) (cwV 0 hts gX11_checkName_X11_good rfl rfl rfl (by decide +kernel) ⟨Nat.le_of_ble_eq_true rfl, Nat.le_of_ble_eq_true rfl⟩) rfl rfl (Nat.le_of_ble_eq_true rfl) dX11_checkName_1 ⟨Nat.le_of_ble_eq_true rfl, Nat.le_of_ble_eq_true rfl⟩ (fun H locs hPz9 hW hS => ?_)
  refine W.eq (g2 := F0 m 4 ls [.int r11]) rfl ?_
  refine lv_if_eq (tgt := 41) hx hb dX11_checkName_4 (by decide) (fun c13 => ?_) (fun c13 => ?_)
  · replace hf := ifT c13 hf
    have e1 := Option.some.inj hf
    subst e1
    exact W.vret hx hb hr (fun t ht hWm => ⟨⟨rfl, by unfold QB; rw [ht]; exact ⟨hW, trivial⟩⟩, hS.F ht⟩) hS.2.2 dX11_checkName_41 hlk
  · replace hf := ifF c13 hf
    refine lv_aload_n hx hb dX11_checkName_7 rfl (lv_at hl 0 rfl) ?_
    refine x_geti 1011 (ci := 10) (C := RX11) (T := TX11) (N := 30) 11 hC hin11 hW tp0 rfl rfl ⟨by decide, by decide, rfl, rfl⟩ rfl w_0 dX11_checkName_8 ?_
    refine lv_iconst (v := 1) hx hb dX11_checkName_11 (by decide) ?_
    refine lv_icmp_ne (tgt := 36) hx hb dX11_checkName_12 (by decide) (fun c14 => ?_) (fun c14 => ?_)
    · replace hf := ifT c14 hf
      exact L36 S10 p0 tp0 _ _ _ hf hW hS (lv_sub hl [0] rfl)
    · replace hf := ifF (fun q => q c14) hf
      refine lv_aload_n hx hb dX11_checkName_15 rfl (lv_at hl 0 rfl) ?_
      refine x_geti 1009 (ci := 10) (C := RX11) (T := TX11) (N := 30) 9 hC hin11 hW tp0 rfl rfl ⟨by decide, by decide, rfl, rfl⟩ rfl w_1 dX11_checkName_16 ?_
      refine lv_aload_n hx hb dX11_checkName_19 rfl (lv_at hl 0 rfl) ?_
      refine x_geti 1010 (ci := 10) (C := RX11) (T := TX11) (N := 30) 10 hC hin11 hW tp0 rfl rfl ⟨by decide, by decide, rfl, rfl⟩ rfl w_2 dX11_checkName_20 ?_
      refine lv_isub hx hb dX11_checkName_23 ?_
      refine lv_bipush (v := 6) hx hb dX11_checkName_24 (by decide) ?_
      refine lv_icmp_gt (tgt := 36) hx hb dX11_checkName_26 (by decide) (fun c15 => ?_) (fun c15 => ?_)
      · replace hf := ifT c15 hf
        exact L36 S10 p0 tp0 _ _ _ hf hW hS (lv_sub hl [0] rfl)
      · replace hf := ifF c15 hf
        refine lv_aload_n hx hb dX11_checkName_29 rfl (lv_at hl 0 rfl) ?_
        replace hf := obE hf
        obtain ⟨z16, hz16, hf⟩ := hf
        obtain ⟨r18, S17⟩ := z16
        replace hf := ltE (ltE hf r18 rfl) S17 rfl
        refine x_callV (As := []) (rest := []) (o := (some (.int r18))) (S1 := S17) hC hl.1 hW hS hGs hA tp0 rfl (show vwCl[10]? = some (RX11, TX11, 30) ∧ 10 < 11 from ⟨rfl, by decide⟩) (c_X11_isKeyword l g ad n K H.size F S10 p0 tp0 r18 S17 hz16) (cwV 0 hts gX11_checkName_X11_isKeyword rfl rfl rfl (by decide +kernel) ⟨Nat.le_of_ble_eq_true rfl, Nat.le_of_ble_eq_true rfl⟩) rfl rfl (Nat.le_of_ble_eq_true rfl) dX11_checkName_30 ⟨Nat.le_of_ble_eq_true rfl, Nat.le_of_ble_eq_true rfl⟩ (fun H locs hPz16 hW hS => ?_)
        refine W.eq (g2 := F0 m 33 ls [.int r18]) rfl ?_
        refine lv_if_eq (tgt := 41) hx hb dX11_checkName_33 (by decide) (fun c20 => ?_) (fun c20 => ?_)
        · replace hf := ifT c20 hf
          have e1 := Option.some.inj hf
          subst e1
          exact W.vret hx hb hr (fun t ht hWm => ⟨⟨rfl, by unfold QB; rw [ht]; exact ⟨hW, trivial⟩⟩, hS.F ht⟩) hS.2.2 dX11_checkName_41 hlk
        · replace hf := ifF c20 hf
          exact L36 S17 p0 tp0 _ _ _ hf hW hS (lv_sub hl [0] rfl)
set_option maxHeartbeats 4000000 in
set_option maxRecDepth 100000 in
theorem c_X11_newName (l : Launch) (g : GP) (ad : Nat → Nat) (n : Nat) (K : Nat → Nat) (sz F : Nat) (S0 : St) (p0 : Nat) (p1 : Int32) (p2 : Int32) (p3 : Int32) (tp0 : p0 < n ∧ K p0 = 10) (S9 : St) (hf : f_X11_newName F S0 p0 p1 p2 p3 = some S9) : Met l yX11_newName wsX11_newName { frames := 8, cells := 0, slots := 0, locals := 170 } (va_Pc [.ref (ad p0), .int p1, .int p2, .int p3] (PB g ad n K S0 sz)) (QR none (QB g ad n K S9 (dA ad n sz) (True)) (dA ad n sz)) 0 0 (dA ad n sz) := by
  refine Met.ofW (cc := cX11_newName) (maxL := 5) (ret := none) (by decide) rfl ?_
  intro p e s m args below meth c s₁ B hml hv
  obtain ⟨rfl, hsz, hW, hK, hGs⟩ := x_start hv
  subst hsz
  have hx := B.exec
  have hb := B.bytes
  have hr := B.returns
  have hts := atoms_spec (ws := wsX11_newName) B.pre
  have hown : s.vm.findClass RX11 = some m.cls := findClass_of_methodNamed B.named
  have hlk := B.notSynchronized
  have hC : Cx g p s m _ c cX11_newName RX11 wsX11_newName 5 := ⟨hx, hb, hml, hown, hts, hK⟩
  have hA : ∀ q : Nat, s.heap.size ≤ q → dA ad n s.heap.size q := fun q h => Or.inr h
  have hS : va_S (dA ad n s.heap.size) s.heap s.heap [] := va_S.rf
  have hl := lv_entry ([.ref (ad p0), .int p1, .int p2, .int p3]) (n := 5) (Nat.le_of_ble_eq_true rfl)
  rw [lg_entry_eq]
  generalize (lg_sl ([.ref (ad p0), .int p1, .int p2, .int p3]) ++ List.replicate (5 - (lg_sl ([.ref (ad p0), .int p1, .int p2, .int p3])).length) Slot.unset).toArray = ls at hl ⊢
  have hl : lv_has ls 5 [(0, .ref (ad p0)), (1, .int p1), (2, .int p2), (3, .int p3)] := hl
  have hin11 : ∀ w ∈ wsX110, w ∈ wsX11_newName := by decide +kernel
  have w_0 := hts (.fieldLink RX11 29 "MailSpoolModel" "now" "[I") (by decide +kernel)
  have hGE := hGs.2.2.2.2.2.2.1
  have hGM := hGs.2.2.2.2.2.2.2.1
  have L37 : ∀ (fu37 : Nat) (S0 : St) (v0 : Nat) (v3 : Int32) (v4 : Int32) (tv0 : v0 < n ∧ K v0 = 10) (H : Heap) (locs : List Loc) (ls : Array Slot), f_X11_newName_L37 F fu37 S0 v0 v3 v4 = some S9 → Wb g ad n K S0 (dA ad n s.heap.size) H → va_S (dA ad n s.heap.size) s.heap H locs → lv_has ls 5 [(0, .ref (ad v0)), (3, .int v3), (4, .int v4)] → W p l e (headSpec wsX11_newName { frames := 8, cells := 0, slots := 0, locals := 170 }).room s m (List.toArray [.ref (ad p0), .int p1, .int p2, .int p3]) below meth c H locs 0 0 (MQ below (QR none (QB g ad n K S9 (dA ad n s.heap.size) (True)) (dA ad n s.heap.size)) (List.toArray [.ref (ad p0), .int p1, .int p2, .int p3]) s 0 0 (dA ad n s.heap.size)) (F0 m 37 ls []) := by
    intro fu37
    induction fu37 with
    | zero =>
      intro S0 v0 v3 v4 tv0 H locs ls hf
      cases hf
    | succ fu37 ih37 =>
      intro S0 v0 v3 v4 tv0 H locs ls hf hW hS hl
      unfold f_X11_newName_L37 at hf
      refine lv_iload hx hb dX11_newName_37 (lv_at hl 2 rfl) ?_
      refine lv_bipush (v := 6) hx hb dX11_newName_39 (by decide) ?_
      refine lv_icmp_ge (tgt := 65) hx hb dX11_newName_41 (by decide) (fun c14 => ?_) (fun c14 => ?_)
      · replace hf := ifT c14 hf
        refine lv_aload_n hx hb dX11_newName_65 rfl (lv_at hl 0 rfl) ?_
        replace hf := obE hf
        obtain ⟨S16, hz15, hf⟩ := hf
        refine x_callV (As := []) (rest := []) (o := none) (S1 := S16) hC hl.1 hW hS hGs hA tv0 rfl (show vwCl[10]? = some (RX11, TX11, 30) ∧ 10 < 11 from ⟨rfl, by decide⟩) (c_X11_goOn l g ad n K H.size F S0 v0 tv0 S16 hz15) (cwV 0 hts gX11_newName_X11_goOn rfl rfl rfl (by decide +kernel) ⟨Nat.le_of_ble_eq_true rfl, Nat.le_of_ble_eq_true rfl⟩) rfl rfl (Nat.le_of_ble_eq_true rfl) dX11_newName_66 ⟨Nat.le_of_ble_eq_true rfl, Nat.le_of_ble_eq_true rfl⟩ (fun H locs hPz15 hW hS => ?_)
        refine W.eq (g2 := F0 m 69 ls []) rfl ?_
        have e1 := Option.some.inj hf
        subst e1
        exact W.vret hx hb hr (fun t ht hWm => ⟨⟨rfl, by unfold QB; rw [ht]; exact ⟨hW, trivial⟩⟩, hS.F ht⟩) hS.2.2 dX11_newName_69 hlk
      · replace hf := ifF c14 hf
        refine lv_aload_n hx hb dX11_newName_44 rfl (lv_at hl 0 rfl) ?_
        replace hf := obE hf
        obtain ⟨j19, qj19, hf⟩ := hf
        have tj19 := x_rt hW qj19 12 ⟨by decide, rfl⟩
        refine x_getr 1004 (ci := 10) (C := RX11) (T := TX11) (N := 30) 4 hC hin11 hW tv0 rfl rfl ⟨by decide, by decide, rfl, rfl⟩ rfl w_0 dX11_newName_45 qj19 ?_
        refine lv_iload_n hx hb dX11_newName_48 rfl (lv_at hl 1 rfl) ?_
        refine lv_iload hx hb dX11_newName_49 (lv_at hl 2 rfl) ?_
        refine lv_iadd hx hb dX11_newName_51 ?_
        refine lv_aload_n hx hb dX11_newName_52 rfl (lv_at hl 0 rfl) ?_
        refine lv_iload hx hb dX11_newName_53 (lv_at hl 2 rfl) ?_
        replace hf := obE hf
        obtain ⟨z20, hz20, hf⟩ := hf
        obtain ⟨r22, S21⟩ := z20
        replace hf := ltE (ltE hf r22 rfl) S21 rfl
        refine x_callV (As := [.int v4]) (rest := [.int (v3 + v4), .ref (ad j19)]) (o := (some (.int r22))) (S1 := S21) hC hl.1 hW hS hGs hA tv0 rfl (show vwCl[10]? = some (RX11, TX11, 30) ∧ 10 < 11 from ⟨rfl, by decide⟩) (c_X11_letter l g ad n K H.size F S0 v0 v4 tv0 r22 S21 hz20) (cwV 1 hts gX11_newName_X11_letter rfl rfl rfl (by decide +kernel) ⟨Nat.le_of_ble_eq_true rfl, Nat.le_of_ble_eq_true rfl⟩) rfl rfl (Nat.le_of_ble_eq_true rfl) dX11_newName_55 ⟨Nat.le_of_ble_eq_true rfl, Nat.le_of_ble_eq_true rfl⟩ (fun H locs hPz20 hW hS => ?_)
        refine W.eq (g2 := F0 m 58 ls [.int r22, .int (v3 + v4), .ref (ad j19)]) rfl ?_
        replace hf := ckiE hf
        obtain ⟨h24, hf⟩ := hf
        refine x_iast hC hW hS tj19 rfl rfl h24 dX11_newName_58 (fun S25 H locs eS25 hW hS => ?_)
        replace hf := ltE hf S25 eS25
        obtain ⟨x26, ex26⟩ : ∃ z : Int32, z = v4 + 1 := ⟨_, rfl⟩
        replace hf := ltE hf x26 ex26
        refine lv_iinc (v := x26) (lv' := [(4, .int x26), (0, .ref (ad v0)), (3, .int v3)]) hx hb dX11_newName_59 hl (k := 2) rfl (by rw [ex26]; rfl) (by decide) rfl (fun ls hl => ?_)
        refine lv_goto (tgt := 37) hx hb dX11_newName_62 (by decide) ?_
        exact ih37 S25 v0 v3 x26 tv0 _ _ _ hf hW hS (lv_sub hl [1, 2, 0] rfl)
  have L34 : ∀ (S0 : St) (v0 : Nat) (v3 : Int32) (tv0 : v0 < n ∧ K v0 = 10) (H : Heap) (locs : List Loc) (ls : Array Slot), f_X11_newName_L34 F S0 v0 v3 = some S9 → Wb g ad n K S0 (dA ad n s.heap.size) H → va_S (dA ad n s.heap.size) s.heap H locs → lv_has ls 5 [(0, .ref (ad v0)), (3, .int v3)] → W p l e (headSpec wsX11_newName { frames := 8, cells := 0, slots := 0, locals := 170 }).room s m (List.toArray [.ref (ad p0), .int p1, .int p2, .int p3]) below meth c H locs 0 0 (MQ below (QR none (QB g ad n K S9 (dA ad n s.heap.size) (True)) (dA ad n s.heap.size)) (List.toArray [.ref (ad p0), .int p1, .int p2, .int p3]) s 0 0 (dA ad n s.heap.size)) (F0 m 34 ls []) := by
    intro S0 v0 v3 tv0 H locs ls hf hW hS hl
    unfold f_X11_newName_L34 at hf
    refine lv_iconst (v := 0) hx hb dX11_newName_34 (by decide) ?_
    refine lv_istore (lv' := [(4, .int 0), (0, .ref (ad v0)), (3, .int v3)]) hx hb dX11_newName_35 hl (by decide) rfl (fun ls hl => ?_)
    exact L37 F S0 v0 v3 0 tv0 _ _ _ hf hW hS (lv_sub hl [1, 2, 0] rfl)
  have L29 : ∀ (S0 : St) (v0 : Nat) (v3 : Int32) (tv0 : v0 < n ∧ K v0 = 10) (H : Heap) (locs : List Loc) (ls : Array Slot), f_X11_newName_L29 F S0 v0 v3 = some S9 → Wb g ad n K S0 (dA ad n s.heap.size) H → va_S (dA ad n s.heap.size) s.heap H locs → lv_has ls 5 [(0, .ref (ad v0)), (3, .int v3)] → W p l e (headSpec wsX11_newName { frames := 8, cells := 0, slots := 0, locals := 170 }).room s m (List.toArray [.ref (ad p0), .int p1, .int p2, .int p3]) below meth c H locs 0 0 (MQ below (QR none (QB g ad n K S9 (dA ad n s.heap.size) (True)) (dA ad n s.heap.size)) (List.toArray [.ref (ad p0), .int p1, .int p2, .int p3]) s 0 0 (dA ad n s.heap.size)) (F0 m 29 ls []) := by
    intro S0 v0 v3 tv0 H locs ls hf hW hS hl
    unfold f_X11_newName_L29 at hf
    refine lv_aload_n hx hb dX11_newName_29 rfl (lv_at hl 0 rfl) ?_
    refine lv_iconst (v := 3) hx hb dX11_newName_30 (by decide) ?_
    replace hf := obE hf
    obtain ⟨S32, hz31, hf⟩ := hf
    refine x_callV (As := [.int 3]) (rest := []) (o := none) (S1 := S32) hC hl.1 hW hS hGs hA tv0 rfl (show vwCl[10]? = some (RX11, TX11, 30) ∧ 10 < 11 from ⟨rfl, by decide⟩) (c_X11_errs l g ad n K H.size F S0 v0 ((3 : Int32)) tv0 S32 hz31) (cwV 1 hts gX11_newName_X11_errs rfl rfl rfl (by decide +kernel) ⟨Nat.le_of_ble_eq_true rfl, Nat.le_of_ble_eq_true rfl⟩) rfl rfl (Nat.le_of_ble_eq_true rfl) dX11_newName_31 ⟨Nat.le_of_ble_eq_true rfl, Nat.le_of_ble_eq_true rfl⟩ (fun H locs hPz31 hW hS => ?_)
    refine W.eq (g2 := F0 m 34 ls []) rfl ?_
    exact L34 S32 v0 v3 tv0 _ _ _ hf hW hS (lv_sub hl [0, 1] rfl)
  unfold f_X11_newName at hf
  refine lv_aload_n hx hb dX11_newName_0 rfl (lv_at hl 0 rfl) ?_
  replace hf := obE hf
  obtain ⟨S36, hz35, hf⟩ := hf
  refine x_callV (As := []) (rest := []) (o := none) (S1 := S36) hC hl.1 hW hS hGs hA tp0 rfl (show vwCl[10]? = some (RX11, TX11, 30) ∧ 10 < 11 from ⟨rfl, by decide⟩) (c_X11_checkName l g ad n K s.heap.size F S0 p0 tp0 S36 hz35) (cwV 0 hts gX11_newName_X11_checkName rfl rfl rfl (by decide +kernel) ⟨Nat.le_of_ble_eq_true rfl, Nat.le_of_ble_eq_true rfl⟩) rfl rfl (Nat.le_of_ble_eq_true rfl) dX11_newName_1 ⟨Nat.le_of_ble_eq_true rfl, Nat.le_of_ble_eq_true rfl⟩ (fun H locs hPz35 hW hS => ?_)
  refine W.eq (g2 := F0 m 4 ls []) rfl ?_
  refine lv_aload_n hx hb dX11_newName_4 rfl (lv_at hl 0 rfl) ?_
  replace hf := obE hf
  obtain ⟨z39, hz39, hf⟩ := hf
  obtain ⟨r41, S40⟩ := z39
  replace hf := ltE (ltE hf r41 rfl) S40 rfl
  refine x_callV (As := []) (rest := []) (o := (some (.int r41))) (S1 := S40) hC hl.1 hW hS hGs hA tp0 rfl (show vwCl[10]? = some (RX11, TX11, 30) ∧ 10 < 11 from ⟨rfl, by decide⟩) (c_X11_good l g ad n K H.size F S36 p0 tp0 r41 S40 hz39) (cwV 0 hts gX11_newName_X11_good rfl rfl rfl (by decide +kernel) ⟨Nat.le_of_ble_eq_true rfl, Nat.le_of_ble_eq_true rfl⟩) rfl rfl (Nat.le_of_ble_eq_true rfl) dX11_newName_5 ⟨Nat.le_of_ble_eq_true rfl, Nat.le_of_ble_eq_true rfl⟩ (fun H locs hPz39 hW hS => ?_)
  refine W.eq (g2 := F0 m 8 ls [.int r41]) rfl ?_
  refine lv_if_eq (tgt := 34) hx hb dX11_newName_8 (by decide) (fun c43 => ?_) (fun c43 => ?_)
  · replace hf := ifT c43 hf
    exact L34 S40 p0 p3 tp0 _ _ _ hf hW hS (lv_sub hl [0, 3] rfl)
  · replace hf := ifF c43 hf
    refine lv_aload_n hx hb dX11_newName_11 rfl (lv_at hl 0 rfl) ?_
    refine lv_iload_n hx hb dX11_newName_12 rfl (lv_at hl 1 rfl) ?_
    replace hf := obE hf
    obtain ⟨z44, hz44, hf⟩ := hf
    obtain ⟨r46, S45⟩ := z44
    replace hf := ltE (ltE hf r46 rfl) S45 rfl
    refine x_callV (As := [.int p1]) (rest := []) (o := (some (.int r46))) (S1 := S45) hC hl.1 hW hS hGs hA tp0 rfl (show vwCl[10]? = some (RX11, TX11, 30) ∧ 10 < 11 from ⟨rfl, by decide⟩) (c_X11_kindNamed l g ad n K H.size F S40 p0 p1 tp0 r46 S45 hz44) (cwV 1 hts gX11_newName_X11_kindNamed rfl rfl rfl (by decide +kernel) ⟨Nat.le_of_ble_eq_true rfl, Nat.le_of_ble_eq_true rfl⟩) rfl rfl (Nat.le_of_ble_eq_true rfl) dX11_newName_13 ⟨Nat.le_of_ble_eq_true rfl, Nat.le_of_ble_eq_true rfl⟩ (fun H locs hPz44 hW hS => ?_)
    refine W.eq (g2 := F0 m 16 ls [.int r46]) rfl ?_
    refine lv_iconst (v := -1) hx hb dX11_newName_16 (by decide) ?_
    refine lv_icmp_ne (tgt := 29) hx hb dX11_newName_17 (by decide) (fun c48 => ?_) (fun c48 => ?_)
    · replace hf := ifT c48 hf
      exact L29 S45 p0 p3 tp0 _ _ _ hf hW hS (lv_sub hl [0, 3] rfl)
    · replace hf := ifF (fun q => q c48) hf
      refine lv_aload_n hx hb dX11_newName_20 rfl (lv_at hl 0 rfl) ?_
      refine lv_iload_n hx hb dX11_newName_21 rfl (lv_at hl 2 rfl) ?_
      replace hf := obE hf
      obtain ⟨z49, hz49, hf⟩ := hf
      obtain ⟨r51, S50⟩ := z49
      replace hf := ltE (ltE hf r51 rfl) S50 rfl
      refine x_callV (As := [.int p2]) (rest := []) (o := (some (.int r51))) (S1 := S50) hC hl.1 hW hS hGs hA tp0 rfl (show vwCl[10]? = some (RX11, TX11, 30) ∧ 10 < 11 from ⟨rfl, by decide⟩) (c_X11_kindNamed l g ad n K H.size F S45 p0 p2 tp0 r51 S50 hz49) (cwV 1 hts gX11_newName_X11_kindNamed rfl rfl rfl (by decide +kernel) ⟨Nat.le_of_ble_eq_true rfl, Nat.le_of_ble_eq_true rfl⟩) rfl rfl (Nat.le_of_ble_eq_true rfl) dX11_newName_22 ⟨Nat.le_of_ble_eq_true rfl, Nat.le_of_ble_eq_true rfl⟩ (fun H locs hPz49 hW hS => ?_)
      refine W.eq (g2 := F0 m 25 ls [.int r51]) rfl ?_
      refine lv_iconst (v := -1) hx hb dX11_newName_25 (by decide) ?_
      refine lv_icmp_eq (tgt := 34) hx hb dX11_newName_26 (by decide) (fun c53 => ?_) (fun c53 => ?_)
      · replace hf := ifT c53 hf
        exact L34 S50 p0 p3 tp0 _ _ _ hf hW hS (lv_sub hl [0, 3] rfl)
      · replace hf := ifF c53 hf
        exact L29 S50 p0 p3 tp0 _ _ _ hf hW hS (lv_sub hl [0, 3] rfl)
set_option maxHeartbeats 4000000 in
set_option maxRecDepth 100000 in
theorem c_X11_oldName (l : Launch) (g : GP) (ad : Nat → Nat) (n : Nat) (K : Nat → Nat) (sz F : Nat) (S0 : St) (p0 : Nat) (p1 : Int32) (tp0 : p0 < n ∧ K p0 = 10) (r9 : Int32) (S9 : St) (hf : f_X11_oldName F S0 p0 p1 = some (r9, S9)) : Met l yX11_oldName wsX11_oldName { frames := 8, cells := 0, slots := 0, locals := 170 } (va_Pc [.ref (ad p0), .int p1] (PB g ad n K S0 sz)) (QR (some (.int r9)) (QB g ad n K S9 (dA ad n sz) (True)) (dA ad n sz)) 0 0 (dA ad n sz) := by
  refine Met.ofW (cc := cX11_oldName) (maxL := 3) (ret := (some .int)) (by decide) rfl ?_
  intro p e s m args below meth c s₁ B hml hv
  obtain ⟨rfl, hsz, hW, hK, hGs⟩ := x_start hv
  subst hsz
  have hx := B.exec
  have hb := B.bytes
  have hr := B.returns
  have hts := atoms_spec (ws := wsX11_oldName) B.pre
  have hown : s.vm.findClass RX11 = some m.cls := findClass_of_methodNamed B.named
  have hlk := B.notSynchronized
  have hC : Cx g p s m _ c cX11_oldName RX11 wsX11_oldName 3 := ⟨hx, hb, hml, hown, hts, hK⟩
  have hA : ∀ q : Nat, s.heap.size ≤ q → dA ad n s.heap.size q := fun q h => Or.inr h
  have hS : va_S (dA ad n s.heap.size) s.heap s.heap [] := va_S.rf
  have hl := lv_entry ([.ref (ad p0), .int p1]) (n := 3) (Nat.le_of_ble_eq_true rfl)
  rw [lg_entry_eq]
  generalize (lg_sl ([.ref (ad p0), .int p1]) ++ List.replicate (3 - (lg_sl ([.ref (ad p0), .int p1])).length) Slot.unset).toArray = ls at hl ⊢
  have hl : lv_has ls 3 [(0, .ref (ad p0)), (1, .int p1)] := hl
  have hGE := hGs.2.2.2.2.2.2.1
  have hGM := hGs.2.2.2.2.2.2.2.1
  have L31 : ∀ (S0 : St) (v0 : Nat) (v2 : Int32) (tv0 : v0 < n ∧ K v0 = 10) (H : Heap) (locs : List Loc) (ls : Array Slot), f_X11_oldName_L31 F S0 v0 v2 = some (r9, S9) → Wb g ad n K S0 (dA ad n s.heap.size) H → va_S (dA ad n s.heap.size) s.heap H locs → lv_has ls 3 [(0, .ref (ad v0)), (2, .int v2)] → W p l e (headSpec wsX11_oldName { frames := 8, cells := 0, slots := 0, locals := 170 }).room s m (List.toArray [.ref (ad p0), .int p1]) below meth c H locs 0 0 (MQ below (QR (some (.int r9)) (QB g ad n K S9 (dA ad n s.heap.size) (True)) (dA ad n s.heap.size)) (List.toArray [.ref (ad p0), .int p1]) s 0 0 (dA ad n s.heap.size)) (F0 m 31 ls []) := by
    intro S0 v0 v2 tv0 H locs ls hf hW hS hl
    unfold f_X11_oldName_L31 at hf
    refine lv_aload_n hx hb dX11_oldName_31 rfl (lv_at hl 0 rfl) ?_
    replace hf := obE hf
    obtain ⟨S6, hz5, hf⟩ := hf
    refine x_callV (As := []) (rest := []) (o := none) (S1 := S6) hC hl.1 hW hS hGs hA tv0 rfl (show vwCl[10]? = some (RX11, TX11, 30) ∧ 10 < 11 from ⟨rfl, by decide⟩) (c_X11_goOn l g ad n K H.size F S0 v0 tv0 S6 hz5) (cwV 0 hts gX11_oldName_X11_goOn rfl rfl rfl (by decide +kernel) ⟨Nat.le_of_ble_eq_true rfl, Nat.le_of_ble_eq_true rfl⟩) rfl rfl (Nat.le_of_ble_eq_true rfl) dX11_oldName_32 ⟨Nat.le_of_ble_eq_true rfl, Nat.le_of_ble_eq_true rfl⟩ (fun H locs hPz5 hW hS => ?_)
    refine W.eq (g2 := F0 m 35 ls []) rfl ?_
    refine lv_iload_n hx hb dX11_oldName_35 rfl (lv_at hl 1 rfl) ?_
    obtain ⟨e1, e2⟩ := so2 hf
    subst e1
    subst e2
    exact W.iret (v := v2) hx hb hr (fun t ht hWm => ⟨⟨rfl, by unfold QB; rw [ht]; exact ⟨hW, trivial⟩⟩, hS.F ht⟩) hS.2.2 dX11_oldName_36 hlk
  have L20 : ∀ (S0 : St) (v0 : Nat) (s0 : Int32) (tv0 : v0 < n ∧ K v0 = 10) (H : Heap) (locs : List Loc) (ls : Array Slot), f_X11_oldName_L20 F S0 v0 s0 = some (r9, S9) → Wb g ad n K S0 (dA ad n s.heap.size) H → va_S (dA ad n s.heap.size) s.heap H locs → lv_has ls 3 [(0, .ref (ad v0))] → W p l e (headSpec wsX11_oldName { frames := 8, cells := 0, slots := 0, locals := 170 }).room s m (List.toArray [.ref (ad p0), .int p1]) below meth c H locs 0 0 (MQ below (QR (some (.int r9)) (QB g ad n K S9 (dA ad n s.heap.size) (True)) (dA ad n s.heap.size)) (List.toArray [.ref (ad p0), .int p1]) s 0 0 (dA ad n s.heap.size)) (F0 m 20 ls [.int s0]) := by
    intro S0 v0 s0 tv0 H locs ls hf hW hS hl
    unfold f_X11_oldName_L20 at hf
    refine lv_istore_n (lv' := [(2, .int s0), (0, .ref (ad v0))]) hx hb dX11_oldName_20 rfl hl (by decide) rfl (fun ls hl => ?_)
    refine lv_iload_n hx hb dX11_oldName_21 rfl (lv_at hl 0 rfl) ?_
    refine lv_iconst (v := -1) hx hb dX11_oldName_22 (by decide) ?_
    refine lv_icmp_ne (tgt := 31) hx hb dX11_oldName_23 (by decide) (fun c14 => ?_) (fun c14 => ?_)
    · replace hf := ifT c14 hf
      exact L31 S0 v0 s0 tv0 _ _ _ hf hW hS (lv_sub hl [1, 0] rfl)
    · replace hf := ifF (fun q => q c14) hf
      refine lv_aload_n hx hb dX11_oldName_26 rfl (lv_at hl 1 rfl) ?_
      refine lv_iconst (v := 3) hx hb dX11_oldName_27 (by decide) ?_
      replace hf := obE hf
      obtain ⟨S16, hz15, hf⟩ := hf
      refine x_callV (As := [.int 3]) (rest := []) (o := none) (S1 := S16) hC hl.1 hW hS hGs hA tv0 rfl (show vwCl[10]? = some (RX11, TX11, 30) ∧ 10 < 11 from ⟨rfl, by decide⟩) (c_X11_errs l g ad n K H.size F S0 v0 ((3 : Int32)) tv0 S16 hz15) (cwV 1 hts gX11_oldName_X11_errs rfl rfl rfl (by decide +kernel) ⟨Nat.le_of_ble_eq_true rfl, Nat.le_of_ble_eq_true rfl⟩) rfl rfl (Nat.le_of_ble_eq_true rfl) dX11_oldName_28 ⟨Nat.le_of_ble_eq_true rfl, Nat.le_of_ble_eq_true rfl⟩ (fun H locs hPz15 hW hS => ?_)
      refine W.eq (g2 := F0 m 31 ls []) rfl ?_
      exact L31 S16 v0 s0 tv0 _ _ _ hf hW hS (lv_sub hl [1, 0] rfl)
  unfold f_X11_oldName at hf
  refine lv_aload_n hx hb dX11_oldName_0 rfl (lv_at hl 0 rfl) ?_
  replace hf := obE hf
  obtain ⟨S20, hz19, hf⟩ := hf
  refine x_callV (As := []) (rest := []) (o := none) (S1 := S20) hC hl.1 hW hS hGs hA tp0 rfl (show vwCl[10]? = some (RX11, TX11, 30) ∧ 10 < 11 from ⟨rfl, by decide⟩) (c_X11_checkName l g ad n K s.heap.size F S0 p0 tp0 S20 hz19) (cwV 0 hts gX11_oldName_X11_checkName rfl rfl rfl (by decide +kernel) ⟨Nat.le_of_ble_eq_true rfl, Nat.le_of_ble_eq_true rfl⟩) rfl rfl (Nat.le_of_ble_eq_true rfl) dX11_oldName_1 ⟨Nat.le_of_ble_eq_true rfl, Nat.le_of_ble_eq_true rfl⟩ (fun H locs hPz19 hW hS => ?_)
  refine W.eq (g2 := F0 m 4 ls []) rfl ?_
  refine lv_aload_n hx hb dX11_oldName_4 rfl (lv_at hl 0 rfl) ?_
  replace hf := obE hf
  obtain ⟨z23, hz23, hf⟩ := hf
  obtain ⟨r25, S24⟩ := z23
  replace hf := ltE (ltE hf r25 rfl) S24 rfl
  refine x_callV (As := []) (rest := []) (o := (some (.int r25))) (S1 := S24) hC hl.1 hW hS hGs hA tp0 rfl (show vwCl[10]? = some (RX11, TX11, 30) ∧ 10 < 11 from ⟨rfl, by decide⟩) (c_X11_good l g ad n K H.size F S20 p0 tp0 r25 S24 hz23) (cwV 0 hts gX11_oldName_X11_good rfl rfl rfl (by decide +kernel) ⟨Nat.le_of_ble_eq_true rfl, Nat.le_of_ble_eq_true rfl⟩) rfl rfl (Nat.le_of_ble_eq_true rfl) dX11_oldName_5 ⟨Nat.le_of_ble_eq_true rfl, Nat.le_of_ble_eq_true rfl⟩ (fun H locs hPz23 hW hS => ?_)
  refine W.eq (g2 := F0 m 8 ls [.int r25]) rfl ?_
  refine lv_if_eq (tgt := 19) hx hb dX11_oldName_8 (by decide) (fun c27 => ?_) (fun c27 => ?_)
  · replace hf := ifT c27 hf
    refine lv_iconst (v := 0) hx hb dX11_oldName_19 (by decide) ?_
    exact L20 S24 p0 0 tp0 _ _ _ hf hW hS (lv_sub hl [0] rfl)
  · replace hf := ifF c27 hf
    refine lv_aload_n hx hb dX11_oldName_11 rfl (lv_at hl 0 rfl) ?_
    refine lv_iload_n hx hb dX11_oldName_12 rfl (lv_at hl 1 rfl) ?_
    replace hf := obE hf
    obtain ⟨z28, hz28, hf⟩ := hf
    obtain ⟨r30, S29⟩ := z28
    replace hf := ltE (ltE hf r30 rfl) S29 rfl
    refine x_callV (As := [.int p1]) (rest := []) (o := (some (.int r30))) (S1 := S29) hC hl.1 hW hS hGs hA tp0 rfl (show vwCl[10]? = some (RX11, TX11, 30) ∧ 10 < 11 from ⟨rfl, by decide⟩) (c_X11_kindNamed l g ad n K H.size F S24 p0 p1 tp0 r30 S29 hz28) (cwV 1 hts gX11_oldName_X11_kindNamed rfl rfl rfl (by decide +kernel) ⟨Nat.le_of_ble_eq_true rfl, Nat.le_of_ble_eq_true rfl⟩) rfl rfl (Nat.le_of_ble_eq_true rfl) dX11_oldName_13 ⟨Nat.le_of_ble_eq_true rfl, Nat.le_of_ble_eq_true rfl⟩ (fun H locs hPz28 hW hS => ?_)
    refine W.eq (g2 := F0 m 16 ls [.int r30]) rfl ?_
    refine lv_goto (tgt := 20) hx hb dX11_oldName_16 (by decide) ?_
    exact L20 S29 p0 r30 tp0 _ _ _ hf hW hS (lv_sub hl [0] rfl)
set_option maxHeartbeats 4000000 in
set_option maxRecDepth 100000 in
theorem c_X11_begins (l : Launch) (g : GP) (ad : Nat → Nat) (n : Nat) (K : Nat → Nat) (sz F : Nat) (S0 : St) (p0 : Nat) (p1 : Int32) (tp0 : p0 < n ∧ K p0 = 10) (r9 : Int32) (S9 : St) (hf : f_X11_begins F S0 p0 p1 = some (r9, S9)) : Met l yX11_begins wsX11_begins { frames := 3, cells := 0, slots := 0, locals := 66 } (va_Pc [.ref (ad p0), .int p1] (PB g ad n K S0 sz)) (QR (some (.int r9)) (QB g ad n K S9 (dA ad n sz) (True)) (dA ad n sz)) 0 0 (dA ad n sz) := by
  refine Met.ofW (cc := cX11_begins) (maxL := 2) (ret := (some .boolean)) (by decide) rfl ?_
  intro p e s m args below meth c s₁ B hml hv
  obtain ⟨rfl, hsz, hW, hK, hGs⟩ := x_start hv
  subst hsz
  have hx := B.exec
  have hb := B.bytes
  have hr := B.returns
  have hts := atoms_spec (ws := wsX11_begins) B.pre
  have hown : s.vm.findClass RX11 = some m.cls := findClass_of_methodNamed B.named
  have hlk := B.notSynchronized
  have hC : Cx g p s m _ c cX11_begins RX11 wsX11_begins 2 := ⟨hx, hb, hml, hown, hts, hK⟩
  have hA : ∀ q : Nat, s.heap.size ≤ q → dA ad n s.heap.size q := fun q h => Or.inr h
  have hS : va_S (dA ad n s.heap.size) s.heap s.heap [] := va_S.rf
  have hl := lv_entry ([.ref (ad p0), .int p1]) (n := 2) (Nat.le_of_ble_eq_true rfl)
  rw [lg_entry_eq]
  generalize (lg_sl ([.ref (ad p0), .int p1]) ++ List.replicate (2 - (lg_sl ([.ref (ad p0), .int p1])).length) Slot.unset).toArray = ls at hl ⊢
  have hl : lv_has ls 2 [(0, .ref (ad p0)), (1, .int p1)] := hl
  have hGE := hGs.2.2.2.2.2.2.1
  have hGM := hGs.2.2.2.2.2.2.2.1
  have L9 : ∀ (S0 : St) (v0 : Nat) (tv0 : v0 < n ∧ K v0 = 10) (H : Heap) (locs : List Loc) (ls : Array Slot), f_X11_begins_L9 F S0 v0 = some (r9, S9) → Wb g ad n K S0 (dA ad n s.heap.size) H → va_S (dA ad n s.heap.size) s.heap H locs → lv_has ls 2 [(0, .ref (ad v0))] → W p l e (headSpec wsX11_begins { frames := 3, cells := 0, slots := 0, locals := 66 }).room s m (List.toArray [.ref (ad p0), .int p1]) below meth c H locs 0 0 (MQ below (QR (some (.int r9)) (QB g ad n K S9 (dA ad n s.heap.size) (True)) (dA ad n s.heap.size)) (List.toArray [.ref (ad p0), .int p1]) s 0 0 (dA ad n s.heap.size)) (F0 m 9 ls []) := by
    intro S0 v0 tv0 H locs ls hf hW hS hl
    unfold f_X11_begins_L9 at hf
    refine lv_aload_n hx hb dX11_begins_9 rfl (lv_at hl 0 rfl) ?_
    replace hf := obE hf
    obtain ⟨S11, hz10, hf⟩ := hf
    refine x_callV (As := []) (rest := []) (o := none) (S1 := S11) hC hl.1 hW hS hGs hA tv0 rfl (show vwCl[10]? = some (RX11, TX11, 30) ∧ 10 < 11 from ⟨rfl, by decide⟩) (c_X11_goOn l g ad n K H.size F S0 v0 tv0 S11 hz10) (cwV 0 hts gX11_begins_X11_goOn rfl rfl rfl (by decide +kernel) ⟨Nat.le_of_ble_eq_true rfl, Nat.le_of_ble_eq_true rfl⟩) rfl rfl (Nat.le_of_ble_eq_true rfl) dX11_begins_10 ⟨Nat.le_of_ble_eq_true rfl, Nat.le_of_ble_eq_true rfl⟩ (fun H locs hPz10 hW hS => ?_)
    refine W.eq (g2 := F0 m 13 ls []) rfl ?_
    refine lv_aload_n hx hb dX11_begins_13 rfl (lv_at hl 0 rfl) ?_
    replace hf := obE hf
    obtain ⟨z14, hz14, hf⟩ := hf
    obtain ⟨r16, S15⟩ := z14
    replace hf := ltE (ltE hf r16 rfl) S15 rfl
    refine x_callV (As := []) (rest := []) (o := (some (.int r16))) (S1 := S15) hC hl.1 hW hS hGs hA tv0 rfl (show vwCl[10]? = some (RX11, TX11, 30) ∧ 10 < 11 from ⟨rfl, by decide⟩) (c_X11_good l g ad n K H.size F S11 v0 tv0 r16 S15 hz14) (cwV 0 hts gX11_begins_X11_good rfl rfl rfl (by decide +kernel) ⟨Nat.le_of_ble_eq_true rfl, Nat.le_of_ble_eq_true rfl⟩) rfl rfl (Nat.le_of_ble_eq_true rfl) dX11_begins_14 ⟨Nat.le_of_ble_eq_true rfl, Nat.le_of_ble_eq_true rfl⟩ (fun H locs hPz14 hW hS => ?_)
    refine W.eq (g2 := F0 m 17 ls [.int r16]) rfl ?_
    replace hf := ckE hf
    obtain ⟨h18, hf⟩ := hf
    obtain ⟨e1, e2⟩ := so2 hf
    subst e1
    subst e2
    exact W.zret (v := r16) hx hb hr (zn h18) (fun t ht hWm => ⟨⟨rfl, by unfold QB; rw [ht]; exact ⟨hW, trivial⟩⟩, hS.F ht⟩) hS.2.2 dX11_begins_17 hlk
  unfold f_X11_begins at hf
  refine lv_iload_n hx hb dX11_begins_0 rfl (lv_at hl 1 rfl) ?_
  refine lv_if_ne (tgt := 9) hx hb dX11_begins_1 (by decide) (fun c19 => ?_) (fun c19 => ?_)
  · replace hf := ifT c19 hf
    exact L9 S0 p0 tp0 _ _ _ hf hW hS (lv_sub hl [0] rfl)
  · replace hf := ifF (fun q => q c19) hf
    refine lv_aload_n hx hb dX11_begins_4 rfl (lv_at hl 0 rfl) ?_
    refine lv_iconst (v := 4) hx hb dX11_begins_5 (by decide) ?_
    replace hf := obE hf
    obtain ⟨S21, hz20, hf⟩ := hf
    refine x_callV (As := [.int 4]) (rest := []) (o := none) (S1 := S21) hC hl.1 hW hS hGs hA tp0 rfl (show vwCl[10]? = some (RX11, TX11, 30) ∧ 10 < 11 from ⟨rfl, by decide⟩) (c_X11_errs l g ad n K s.heap.size F S0 p0 ((4 : Int32)) tp0 S21 hz20) (cwV 1 hts gX11_begins_X11_errs rfl rfl rfl (by decide +kernel) ⟨Nat.le_of_ble_eq_true rfl, Nat.le_of_ble_eq_true rfl⟩) rfl rfl (Nat.le_of_ble_eq_true rfl) dX11_begins_6 ⟨Nat.le_of_ble_eq_true rfl, Nat.le_of_ble_eq_true rfl⟩ (fun H locs hPz20 hW hS => ?_)
    refine W.eq (g2 := F0 m 9 ls []) rfl ?_
    exact L9 S21 p0 tp0 _ _ _ hf hW hS (lv_sub hl [0] rfl)
set_option maxHeartbeats 4000000 in
set_option maxRecDepth 100000 in
theorem c_X11_parseClass (l : Launch) (g : GP) (ad : Nat → Nat) (n : Nat) (K : Nat → Nat) (sz F : Nat) (S0 : St) (p0 : Nat) (tp0 : p0 < n ∧ K p0 = 10) (S9 : St) (hf : f_X11_parseClass F S0 p0 = some S9) : Met l yX11_parseClass wsX11_parseClass { frames := 9, cells := 0, slots := 0, locals := 194 } (va_Pc [.ref (ad p0)] (PB g ad n K S0 sz)) (QR none (QB g ad n K S9 (dA ad n sz) (True)) (dA ad n sz)) 0 0 (dA ad n sz) := by
  refine Met.ofW (cc := cX11_parseClass) (maxL := 3) (ret := none) (by decide) rfl ?_
  intro p e s m args below meth c s₁ B hml hv
  obtain ⟨rfl, hsz, hW, hK, hGs⟩ := x_start hv
  subst hsz
  have hx := B.exec
  have hb := B.bytes
  have hr := B.returns
  have hts := atoms_spec (ws := wsX11_parseClass) B.pre
  have hown : s.vm.findClass RX11 = some m.cls := findClass_of_methodNamed B.named
  have hlk := B.notSynchronized
  have hC : Cx g p s m _ c cX11_parseClass RX11 wsX11_parseClass 3 := ⟨hx, hb, hml, hown, hts, hK⟩
  have hA : ∀ q : Nat, s.heap.size ≤ q → dA ad n s.heap.size q := fun q h => Or.inr h
  have hS : va_S (dA ad n s.heap.size) s.heap s.heap [] := va_S.rf
  have hl := lv_entry ([.ref (ad p0)]) (n := 3) (Nat.le_of_ble_eq_true rfl)
  rw [lg_entry_eq]
  generalize (lg_sl ([.ref (ad p0)]) ++ List.replicate (3 - (lg_sl ([.ref (ad p0)])).length) Slot.unset).toArray = ls at hl ⊢
  have hl : lv_has ls 3 [(0, .ref (ad p0))] := hl
  have hin11 : ∀ w ∈ wsX110, w ∈ wsX11_parseClass := by decide +kernel
  have w_0 := hts (.fieldLink RX11 29 "MailSpoolModel" "now" "[I") (by decide +kernel)
  have hGE := hGs.2.2.2.2.2.2.1
  have hGM := hGs.2.2.2.2.2.2.2.1
  have L161 : ∀ (S0 : St) (v0 : Nat) (tv0 : v0 < n ∧ K v0 = 10) (H : Heap) (locs : List Loc) (ls : Array Slot), f_X11_parseClass_L161 F S0 v0 = some S9 → Wb g ad n K S0 (dA ad n s.heap.size) H → va_S (dA ad n s.heap.size) s.heap H locs → lv_has ls 3 [(0, .ref (ad v0))] → W p l e (headSpec wsX11_parseClass { frames := 9, cells := 0, slots := 0, locals := 194 }).room s m (List.toArray [.ref (ad p0)]) below meth c H locs 0 0 (MQ below (QR none (QB g ad n K S9 (dA ad n s.heap.size) (True)) (dA ad n s.heap.size)) (List.toArray [.ref (ad p0)]) s 0 0 (dA ad n s.heap.size)) (F0 m 161 ls []) := by
    intro S0 v0 tv0 H locs ls hf hW hS hl
    unfold f_X11_parseClass_L161 at hf
    refine lv_aload_n hx hb dX11_parseClass_161 rfl (lv_at hl 0 rfl) ?_
    replace hf := obE hf
    obtain ⟨j5, qj5, hf⟩ := hf
    have tj5 := x_rt hW qj5 12 ⟨by decide, rfl⟩
    refine x_getr 1004 (ci := 10) (C := RX11) (T := TX11) (N := 30) 4 hC hin11 hW tv0 rfl rfl ⟨by decide, by decide, rfl, rfl⟩ rfl w_0 dX11_parseClass_162 qj5 ?_
    refine lv_iconst (v := 3) hx hb dX11_parseClass_165 (by decide) ?_
    refine lv_dup2_11 hx hb dX11_parseClass_166 rfl rfl ?_
    replace hf := ckiE hf
    obtain ⟨h6, hf⟩ := hf
    refine x_iald hC hW tj5 rfl rfl h6 dX11_parseClass_167 ?_
    refine lv_iconst (v := 1) hx hb dX11_parseClass_168 (by decide) ?_
    refine lv_iadd hx hb dX11_parseClass_169 ?_
    replace hf := ckiE hf
    obtain ⟨h7, hf⟩ := hf
    refine x_iast hC hW hS tj5 rfl rfl h7 dX11_parseClass_170 (fun S8 H locs eS8 hW hS => ?_)
    replace hf := ltE hf S8 eS8
    have e1 := Option.some.inj hf
    subst e1
    exact W.vret hx hb hr (fun t ht hWm => ⟨⟨rfl, by unfold QB; rw [ht]; exact ⟨hW, trivial⟩⟩, hS.F ht⟩) hS.2.2 dX11_parseClass_171 hlk
  have L126 : ∀ (S0 : St) (v0 : Nat) (v1 : Int32) (tv0 : v0 < n ∧ K v0 = 10) (H : Heap) (locs : List Loc) (ls : Array Slot), f_X11_parseClass_L126 F S0 v0 v1 = some S9 → Wb g ad n K S0 (dA ad n s.heap.size) H → va_S (dA ad n s.heap.size) s.heap H locs → lv_has ls 3 [(0, .ref (ad v0)), (1, .int v1)] → W p l e (headSpec wsX11_parseClass { frames := 9, cells := 0, slots := 0, locals := 194 }).room s m (List.toArray [.ref (ad p0)]) below meth c H locs 0 0 (MQ below (QR none (QB g ad n K S9 (dA ad n s.heap.size) (True)) (dA ad n s.heap.size)) (List.toArray [.ref (ad p0)]) s 0 0 (dA ad n s.heap.size)) (F0 m 126 ls []) := by
    intro S0 v0 v1 tv0 H locs ls hf hW hS hl
    unfold f_X11_parseClass_L126 at hf
    refine lv_aload_n hx hb dX11_parseClass_126 rfl (lv_at hl 0 rfl) ?_
    replace hf := obE hf
    obtain ⟨j28, qj28, hf⟩ := hf
    have tj28 := x_rt hW qj28 12 ⟨by decide, rfl⟩
    refine x_getr 1004 (ci := 10) (C := RX11) (T := TX11) (N := 30) 4 hC hin11 hW tv0 rfl rfl ⟨by decide, by decide, rfl, rfl⟩ rfl w_0 dX11_parseClass_127 qj28 ?_
    refine lv_iload_n hx hb dX11_parseClass_130 rfl (lv_at hl 1 rfl) ?_
    refine lv_iconst (v := 2) hx hb dX11_parseClass_131 (by decide) ?_
    refine lv_iadd hx hb dX11_parseClass_132 ?_
    refine lv_iconst (v := -1) hx hb dX11_parseClass_133 (by decide) ?_
    replace hf := ckiE hf
    obtain ⟨h29, hf⟩ := hf
    refine x_iast hC hW hS tj28 rfl rfl h29 dX11_parseClass_134 (fun S30 H locs eS30 hW hS => ?_)
    replace hf := ltE hf S30 eS30
    refine lv_aload_n hx hb dX11_parseClass_135 rfl (lv_at hl 0 rfl) ?_
    refine x_ldcM 7 (tx := "then") hC hGM ⟨rfl, by decide⟩ dX11_parseClass_136 ?_
    replace hf := obE hf
    obtain ⟨z31, hz31, hf⟩ := hf
    obtain ⟨r33, S32⟩ := z31
    replace hf := ltE (ltE hf r33 rfl) S32 rfl
    refine x_callV (As := [.ref (gen g (100 + 7))]) (rest := []) (o := (some (.int r33))) (S1 := S32) hC hl.1 hW hS hGs hA tv0 rfl (show vwCl[10]? = some (RX11, TX11, 30) ∧ 10 < 11 from ⟨rfl, by decide⟩) (c_X11_isText l g ad n K H.size F S30 v0 7 tv0 (by decide) r33 S32 hz31) (cwV 1 hts gX11_parseClass_X11_isText rfl rfl rfl (by decide +kernel) ⟨Nat.le_of_ble_eq_true rfl, Nat.le_of_ble_eq_true rfl⟩) rfl rfl (Nat.le_of_ble_eq_true rfl) dX11_parseClass_138 ⟨Nat.le_of_ble_eq_true rfl, Nat.le_of_ble_eq_true rfl⟩ (fun H locs hPz31 hW hS => ?_)
    refine W.eq (g2 := F0 m 141 ls [.int r33]) rfl ?_
    refine lv_if_eq (tgt := 161) hx hb dX11_parseClass_141 (by decide) (fun c35 => ?_) (fun c35 => ?_)
    · replace hf := ifT c35 hf
      exact L161 S32 v0 tv0 _ _ _ hf hW hS (lv_sub hl [0] rfl)
    · replace hf := ifF c35 hf
      refine lv_aload_n hx hb dX11_parseClass_144 rfl (lv_at hl 0 rfl) ?_
      replace hf := obE hf
      obtain ⟨S37, hz36, hf⟩ := hf
      refine x_callV (As := []) (rest := []) (o := none) (S1 := S37) hC hl.1 hW hS hGs hA tv0 rfl (show vwCl[10]? = some (RX11, TX11, 30) ∧ 10 < 11 from ⟨rfl, by decide⟩) (c_X11_goOn l g ad n K H.size F S32 v0 tv0 S37 hz36) (cwV 0 hts gX11_parseClass_X11_goOn rfl rfl rfl (by decide +kernel) ⟨Nat.le_of_ble_eq_true rfl, Nat.le_of_ble_eq_true rfl⟩) rfl rfl (Nat.le_of_ble_eq_true rfl) dX11_parseClass_145 ⟨Nat.le_of_ble_eq_true rfl, Nat.le_of_ble_eq_true rfl⟩ (fun H locs hPz36 hW hS => ?_)
      refine W.eq (g2 := F0 m 148 ls []) rfl ?_
      refine lv_aload_n hx hb dX11_parseClass_148 rfl (lv_at hl 0 rfl) ?_
      replace hf := obE hf
      obtain ⟨j40, qj40, hf⟩ := hf
      have tj40 := x_rt hW qj40 12 ⟨by decide, rfl⟩
      refine x_getr 1004 (ci := 10) (C := RX11) (T := TX11) (N := 30) 4 hC hin11 hW tv0 rfl rfl ⟨by decide, by decide, rfl, rfl⟩ rfl w_0 dX11_parseClass_149 qj40 ?_
      refine lv_iload_n hx hb dX11_parseClass_152 rfl (lv_at hl 1 rfl) ?_
      refine lv_iconst (v := 2) hx hb dX11_parseClass_153 (by decide) ?_
      refine lv_iadd hx hb dX11_parseClass_154 ?_
      refine lv_aload_n hx hb dX11_parseClass_155 rfl (lv_at hl 0 rfl) ?_
      refine lv_iconst (v := 0) hx hb dX11_parseClass_156 (by decide) ?_
      replace hf := obE hf
      obtain ⟨z41, hz41, hf⟩ := hf
      obtain ⟨r43, S42⟩ := z41
      replace hf := ltE (ltE hf r43 rfl) S42 rfl
      refine x_callV (As := [.int 0]) (rest := [.int (v1 + 2), .ref (ad j40)]) (o := (some (.int r43))) (S1 := S42) hC hl.1 hW hS hGs hA tv0 rfl (show vwCl[10]? = some (RX11, TX11, 30) ∧ 10 < 11 from ⟨rfl, by decide⟩) (c_X11_oldName l g ad n K H.size F S37 v0 ((0 : Int32)) tv0 r43 S42 hz41) (cwV 1 hts gX11_parseClass_X11_oldName rfl rfl rfl (by decide +kernel) ⟨Nat.le_of_ble_eq_true rfl, Nat.le_of_ble_eq_true rfl⟩) rfl rfl (Nat.le_of_ble_eq_true rfl) dX11_parseClass_157 ⟨Nat.le_of_ble_eq_true rfl, Nat.le_of_ble_eq_true rfl⟩ (fun H locs hPz41 hW hS => ?_)
      refine W.eq (g2 := F0 m 160 ls [.int r43, .int (v1 + 2), .ref (ad j40)]) rfl ?_
      replace hf := ckiE hf
      obtain ⟨h45, hf⟩ := hf
      refine x_iast hC hW hS tj40 rfl rfl h45 dX11_parseClass_160 (fun S46 H locs eS46 hW hS => ?_)
      replace hf := ltE hf S46 eS46
      exact L161 S46 v0 tv0 _ _ _ hf hW hS (lv_sub hl [0] rfl)
  have L90 : ∀ (S0 : St) (v0 : Nat) (v1 : Int32) (s0 : Int32) (s1 : Int32) (s2 : Nat) (tv0 : v0 < n ∧ K v0 = 10) (ts2 : s2 < n ∧ K s2 = 12) (H : Heap) (locs : List Loc) (ls : Array Slot), f_X11_parseClass_L90 F S0 v0 v1 s0 s1 s2 = some S9 → Wb g ad n K S0 (dA ad n s.heap.size) H → va_S (dA ad n s.heap.size) s.heap H locs → lv_has ls 3 [(0, .ref (ad v0)), (1, .int v1)] → W p l e (headSpec wsX11_parseClass { frames := 9, cells := 0, slots := 0, locals := 194 }).room s m (List.toArray [.ref (ad p0)]) below meth c H locs 0 0 (MQ below (QR none (QB g ad n K S9 (dA ad n s.heap.size) (True)) (dA ad n s.heap.size)) (List.toArray [.ref (ad p0)]) s 0 0 (dA ad n s.heap.size)) (F0 m 90 ls [.int s0, .int s1, .ref (ad s2)]) := by
    intro S0 v0 v1 s0 s1 s2 tv0 ts2 H locs ls hf hW hS hl
    unfold f_X11_parseClass_L90 at hf
    replace hf := ckiE hf
    obtain ⟨h64, hf⟩ := hf
    refine x_iast hC hW hS ts2 rfl rfl h64 dX11_parseClass_90 (fun S65 H locs eS65 hW hS => ?_)
    replace hf := ltE hf S65 eS65
    refine lv_aload_n hx hb dX11_parseClass_91 rfl (lv_at hl 0 rfl) ?_
    replace hf := obE hf
    obtain ⟨j66, qj66, hf⟩ := hf
    have tj66 := x_rt hW qj66 12 ⟨by decide, rfl⟩
    refine x_getr 1004 (ci := 10) (C := RX11) (T := TX11) (N := 30) 4 hC hin11 hW tv0 rfl rfl ⟨by decide, by decide, rfl, rfl⟩ rfl w_0 dX11_parseClass_92 qj66 ?_
    refine lv_iload_n hx hb dX11_parseClass_95 rfl (lv_at hl 1 rfl) ?_
    refine lv_iconst (v := 1) hx hb dX11_parseClass_96 (by decide) ?_
    refine lv_iadd hx hb dX11_parseClass_97 ?_
    refine lv_iconst (v := 0) hx hb dX11_parseClass_98 (by decide) ?_
    replace hf := ckiE hf
    obtain ⟨h67, hf⟩ := hf
    refine x_iast hC hW hS tj66 rfl rfl h67 dX11_parseClass_99 (fun S68 H locs eS68 hW hS => ?_)
    replace hf := ltE hf S68 eS68
    refine lv_aload_n hx hb dX11_parseClass_100 rfl (lv_at hl 0 rfl) ?_
    refine x_ldcM 6 (tx := "keep") hC hGM ⟨rfl, by decide⟩ dX11_parseClass_101 ?_
    replace hf := obE hf
    obtain ⟨z69, hz69, hf⟩ := hf
    obtain ⟨r71, S70⟩ := z69
    replace hf := ltE (ltE hf r71 rfl) S70 rfl
    refine x_callV (As := [.ref (gen g (100 + 6))]) (rest := []) (o := (some (.int r71))) (S1 := S70) hC hl.1 hW hS hGs hA tv0 rfl (show vwCl[10]? = some (RX11, TX11, 30) ∧ 10 < 11 from ⟨rfl, by decide⟩) (c_X11_isText l g ad n K H.size F S68 v0 6 tv0 (by decide) r71 S70 hz69) (cwV 1 hts gX11_parseClass_X11_isText rfl rfl rfl (by decide +kernel) ⟨Nat.le_of_ble_eq_true rfl, Nat.le_of_ble_eq_true rfl⟩) rfl rfl (Nat.le_of_ble_eq_true rfl) dX11_parseClass_103 ⟨Nat.le_of_ble_eq_true rfl, Nat.le_of_ble_eq_true rfl⟩ (fun H locs hPz69 hW hS => ?_)
    refine W.eq (g2 := F0 m 106 ls [.int r71]) rfl ?_
    refine lv_if_eq (tgt := 126) hx hb dX11_parseClass_106 (by decide) (fun c73 => ?_) (fun c73 => ?_)
    · replace hf := ifT c73 hf
      exact L126 S70 v0 v1 tv0 _ _ _ hf hW hS (lv_sub hl [0, 1] rfl)
    · replace hf := ifF c73 hf
      refine lv_aload_n hx hb dX11_parseClass_109 rfl (lv_at hl 0 rfl) ?_
      replace hf := obE hf
      obtain ⟨j74, qj74, hf⟩ := hf
      have tj74 := x_rt hW qj74 12 ⟨by decide, rfl⟩
      refine x_getr 1004 (ci := 10) (C := RX11) (T := TX11) (N := 30) 4 hC hin11 hW tv0 rfl rfl ⟨by decide, by decide, rfl, rfl⟩ rfl w_0 dX11_parseClass_110 qj74 ?_
      refine lv_iload_n hx hb dX11_parseClass_113 rfl (lv_at hl 1 rfl) ?_
      refine lv_iconst (v := 1) hx hb dX11_parseClass_114 (by decide) ?_
      refine lv_iadd hx hb dX11_parseClass_115 ?_
      refine lv_aload_n hx hb dX11_parseClass_116 rfl (lv_at hl 0 rfl) ?_
      refine x_ldcM 6 (tx := "keep") hC hGM ⟨rfl, by decide⟩ dX11_parseClass_117 ?_
      refine lv_iconst (v := 1) hx hb dX11_parseClass_119 (by decide) ?_
      refine lv_bipush (v := 99) hx hb dX11_parseClass_120 (by decide) ?_
      replace hf := obE hf
      obtain ⟨z75, hz75, hf⟩ := hf
      obtain ⟨r77, S76⟩ := z75
      replace hf := ltE (ltE hf r77 rfl) S76 rfl
      refine x_callV (As := [.ref (gen g (100 + 6)), .int 1, .int 99]) (rest := [.int (v1 + 1), .ref (ad j74)]) (o := (some (.int r77))) (S1 := S76) hC hl.1 hW hS hGs hA tv0 rfl (show vwCl[10]? = some (RX11, TX11, 30) ∧ 10 < 11 from ⟨rfl, by decide⟩) (c_X11_numberAfter l g ad n K H.size F S70 v0 6 ((1 : Int32)) ((99 : Int32)) tv0 (by decide) r77 S76 hz75) (cwV 3 hts gX11_parseClass_X11_numberAfter rfl rfl rfl (by decide +kernel) ⟨Nat.le_of_ble_eq_true rfl, Nat.le_of_ble_eq_true rfl⟩) rfl rfl (Nat.le_of_ble_eq_true rfl) dX11_parseClass_122 ⟨Nat.le_of_ble_eq_true rfl, Nat.le_of_ble_eq_true rfl⟩ (fun H locs hPz75 hW hS => ?_)
      refine W.eq (g2 := F0 m 125 ls [.int r77, .int (v1 + 1), .ref (ad j74)]) rfl ?_
      replace hf := ckiE hf
      obtain ⟨h79, hf⟩ := hf
      refine x_iast hC hW hS tj74 rfl rfl h79 dX11_parseClass_125 (fun S80 H locs eS80 hW hS => ?_)
      replace hf := ltE hf S80 eS80
      exact L126 S80 v0 v1 tv0 _ _ _ hf hW hS (lv_sub hl [0, 1] rfl)
  have L67 : ∀ (S0 : St) (v0 : Nat) (v1 : Int32) (v2 : Int32) (tv0 : v0 < n ∧ K v0 = 10) (H : Heap) (locs : List Loc) (ls : Array Slot), f_X11_parseClass_L67 F S0 v0 v1 v2 = some S9 → Wb g ad n K S0 (dA ad n s.heap.size) H → va_S (dA ad n s.heap.size) s.heap H locs → lv_has ls 3 [(0, .ref (ad v0)), (1, .int v1), (2, .int v2)] → W p l e (headSpec wsX11_parseClass { frames := 9, cells := 0, slots := 0, locals := 194 }).room s m (List.toArray [.ref (ad p0)]) below meth c H locs 0 0 (MQ below (QR none (QB g ad n K S9 (dA ad n s.heap.size) (True)) (dA ad n s.heap.size)) (List.toArray [.ref (ad p0)]) s 0 0 (dA ad n s.heap.size)) (F0 m 67 ls []) := by
    intro S0 v0 v1 v2 tv0 H locs ls hf hW hS hl
    unfold f_X11_parseClass_L67 at hf
    refine lv_aload_n hx hb dX11_parseClass_67 rfl (lv_at hl 0 rfl) ?_
    replace hf := obE hf
    obtain ⟨j87, qj87, hf⟩ := hf
    have tj87 := x_rt hW qj87 12 ⟨by decide, rfl⟩
    refine x_getr 1004 (ci := 10) (C := RX11) (T := TX11) (N := 30) 4 hC hin11 hW tv0 rfl rfl ⟨by decide, by decide, rfl, rfl⟩ rfl w_0 dX11_parseClass_68 qj87 ?_
    refine lv_iload_n hx hb dX11_parseClass_71 rfl (lv_at hl 1 rfl) ?_
    refine lv_iconst (v := 0) hx hb dX11_parseClass_72 (by decide) ?_
    refine lv_iadd hx hb dX11_parseClass_73 ?_
    refine lv_iload_n hx hb dX11_parseClass_74 rfl (lv_at hl 2 rfl) ?_
    refine lv_if_eq (tgt := 82) hx hb dX11_parseClass_75 (by decide) (fun c88 => ?_) (fun c88 => ?_)
    · replace hf := ifT c88 hf
      refine lv_aload_n hx hb dX11_parseClass_82 rfl (lv_at hl 0 rfl) ?_
      refine lv_iconst (v := 1) hx hb dX11_parseClass_83 (by decide) ?_
      refine lv_sipush (v := 999) hx hb dX11_parseClass_84 (by decide) ?_
      replace hf := obE hf
      obtain ⟨z89, hz89, hf⟩ := hf
      obtain ⟨r91, S90⟩ := z89
      replace hf := ltE (ltE hf r91 rfl) S90 rfl
      refine x_callV (As := [.int 1, .int 999]) (rest := [.int (v1 + 0), .ref (ad j87)]) (o := (some (.int r91))) (S1 := S90) hC hl.1 hW hS hGs hA tv0 rfl (show vwCl[10]? = some (RX11, TX11, 30) ∧ 10 < 11 from ⟨rfl, by decide⟩) (c_X11_number l g ad n K H.size F S0 v0 ((1 : Int32)) ((999 : Int32)) tv0 r91 S90 hz89) (cwV 2 hts gX11_parseClass_X11_number rfl rfl rfl (by decide +kernel) ⟨Nat.le_of_ble_eq_true rfl, Nat.le_of_ble_eq_true rfl⟩) rfl rfl (Nat.le_of_ble_eq_true rfl) dX11_parseClass_87 ⟨Nat.le_of_ble_eq_true rfl, Nat.le_of_ble_eq_true rfl⟩ (fun H locs hPz89 hW hS => ?_)
      refine W.eq (g2 := F0 m 90 ls [.int r91, .int (v1 + 0), .ref (ad j87)]) rfl ?_
      exact L90 S90 v0 v1 r91 (v1 + 0) j87 tv0 tj87 _ _ _ hf hW hS (lv_sub hl [0, 1] rfl)
    · replace hf := ifF c88 hf
      refine lv_iconst (v := -1) hx hb dX11_parseClass_78 (by decide) ?_
      refine lv_goto (tgt := 90) hx hb dX11_parseClass_79 (by decide) ?_
      exact L90 S0 v0 v1 ((-1)) (v1 + 0) j87 tv0 tj87 _ _ _ hf hW hS (lv_sub hl [0, 1] rfl)
  have L17 : ∀ (S0 : St) (v0 : Nat) (s0 : Int32) (s1 : Nat) (tv0 : v0 < n ∧ K v0 = 10) (ts1 : s1 < n ∧ K s1 = 10) (H : Heap) (locs : List Loc) (ls : Array Slot), f_X11_parseClass_L17 F S0 v0 s0 s1 = some S9 → Wb g ad n K S0 (dA ad n s.heap.size) H → va_S (dA ad n s.heap.size) s.heap H locs → lv_has ls 3 [(0, .ref (ad v0))] → W p l e (headSpec wsX11_parseClass { frames := 9, cells := 0, slots := 0, locals := 194 }).room s m (List.toArray [.ref (ad p0)]) below meth c H locs 0 0 (MQ below (QR none (QB g ad n K S9 (dA ad n s.heap.size) (True)) (dA ad n s.heap.size)) (List.toArray [.ref (ad p0)]) s 0 0 (dA ad n s.heap.size)) (F0 m 17 ls [.int s0, .ref (ad s1)]) := by
    intro S0 v0 s0 s1 tv0 ts1 H locs ls hf hW hS hl
    unfold f_X11_parseClass_L17 at hf
    replace hf := obE hf
    obtain ⟨z118, hz118, hf⟩ := hf
    obtain ⟨r120, S119⟩ := z118
    replace hf := ltE (ltE hf r120 rfl) S119 rfl
    refine x_callV (As := [.int s0]) (rest := []) (o := (some (.int r120))) (S1 := S119) hC hl.1 hW hS hGs hA ts1 rfl (show vwCl[10]? = some (RX11, TX11, 30) ∧ 10 < 11 from ⟨rfl, by decide⟩) (c_X11_begins l g ad n K H.size F S0 s1 s0 ts1 r120 S119 hz118) (cwV 1 hts gX11_parseClass_X11_begins rfl rfl rfl (by decide +kernel) ⟨Nat.le_of_ble_eq_true rfl, Nat.le_of_ble_eq_true rfl⟩) rfl rfl (Nat.le_of_ble_eq_true rfl) dX11_parseClass_17 ⟨Nat.le_of_ble_eq_true rfl, Nat.le_of_ble_eq_true rfl⟩ (fun H locs hPz118 hW hS => ?_)
    refine W.eq (g2 := F0 m 20 ls [.int r120]) rfl ?_
    refine lv_if_ne (tgt := 24) hx hb dX11_parseClass_20 (by decide) (fun c122 => ?_) (fun c122 => ?_)
    · replace hf := ifT c122 hf
      refine lv_bipush (v := 11) hx hb dX11_parseClass_24 (by decide) ?_
      refine lv_bipush (v := 9) hx hb dX11_parseClass_26 (by decide) ?_
      refine lv_aload_n hx hb dX11_parseClass_28 rfl (lv_at hl 0 rfl) ?_
      replace hf := obE hf
      obtain ⟨j123, qj123, hf⟩ := hf
      have tj123 := x_rt hW qj123 12 ⟨by decide, rfl⟩
      refine x_getr 1004 (ci := 10) (C := RX11) (T := TX11) (N := 30) 4 hC hin11 hW tv0 rfl rfl ⟨by decide, by decide, rfl, rfl⟩ rfl w_0 dX11_parseClass_29 qj123 ?_
      refine lv_iconst (v := 3) hx hb dX11_parseClass_32 (by decide) ?_
      replace hf := ckiE hf
      obtain ⟨h124, hf⟩ := hf
      refine x_iald hC hW tj123 rfl rfl h124 dX11_parseClass_33 ?_
      refine lv_imul hx hb dX11_parseClass_34 ?_
      refine lv_iadd hx hb dX11_parseClass_35 ?_
      refine lv_topi (fun x125 ex125 => ?_)
      replace hf := ltE hf x125 ex125
      refine lv_istore_n (lv' := [(1, .int x125), (0, .ref (ad v0))]) hx hb dX11_parseClass_36 rfl hl (by decide) rfl (fun ls hl => ?_)
      refine lv_aload_n hx hb dX11_parseClass_37 rfl (lv_at hl 1 rfl) ?_
      refine lv_iconst (v := 0) hx hb dX11_parseClass_38 (by decide) ?_
      refine lv_iconst (v := 0) hx hb dX11_parseClass_39 (by decide) ?_
      refine lv_iload_n hx hb dX11_parseClass_40 rfl (lv_at hl 0 rfl) ?_
      refine lv_iconst (v := 3) hx hb dX11_parseClass_41 (by decide) ?_
      refine lv_iadd hx hb dX11_parseClass_42 ?_
      replace hf := obE hf
      obtain ⟨S127, hz126, hf⟩ := hf
      refine x_callV (As := [.int 0, .int 0, .int (x125 + 3)]) (rest := []) (o := none) (S1 := S127) hC hl.1 hW hS hGs hA tv0 rfl (show vwCl[10]? = some (RX11, TX11, 30) ∧ 10 < 11 from ⟨rfl, by decide⟩) (c_X11_newName l g ad n K H.size F S119 v0 ((0 : Int32)) ((0 : Int32)) (x125 + 3) tv0 S127 hz126) (cwV 3 hts gX11_parseClass_X11_newName rfl rfl rfl (by decide +kernel) ⟨Nat.le_of_ble_eq_true rfl, Nat.le_of_ble_eq_true rfl⟩) rfl rfl (Nat.le_of_ble_eq_true rfl) dX11_parseClass_43 ⟨Nat.le_of_ble_eq_true rfl, Nat.le_of_ble_eq_true rfl⟩ (fun H locs hPz126 hW hS => ?_)
      refine W.eq (g2 := F0 m 46 ls []) rfl ?_
      refine lv_aload_n hx hb dX11_parseClass_46 rfl (lv_at hl 1 rfl) ?_
      refine x_ldcM 4 (tx := "days") hC hGM ⟨rfl, by decide⟩ dX11_parseClass_47 ?_
      replace hf := obE hf
      obtain ⟨S131, hz130, hf⟩ := hf
      refine x_callV (As := [.ref (gen g (100 + 4))]) (rest := []) (o := none) (S1 := S131) hC hl.1 hW hS hGs hA tv0 rfl (show vwCl[10]? = some (RX11, TX11, 30) ∧ 10 < 11 from ⟨rfl, by decide⟩) (c_X11_word l g ad n K H.size F S127 v0 4 tv0 (by decide) S131 hz130) (cwV 1 hts gX11_parseClass_X11_word rfl rfl rfl (by decide +kernel) ⟨Nat.le_of_ble_eq_true rfl, Nat.le_of_ble_eq_true rfl⟩) rfl rfl (Nat.le_of_ble_eq_true rfl) dX11_parseClass_49 ⟨Nat.le_of_ble_eq_true rfl, Nat.le_of_ble_eq_true rfl⟩ (fun H locs hPz130 hW hS => ?_)
      refine W.eq (g2 := F0 m 52 ls []) rfl ?_
      refine lv_aload_n hx hb dX11_parseClass_52 rfl (lv_at hl 1 rfl) ?_
      refine x_ldcM 5 (tx := "forever") hC hGM ⟨rfl, by decide⟩ dX11_parseClass_53 ?_
      replace hf := obE hf
      obtain ⟨z134, hz134, hf⟩ := hf
      obtain ⟨r136, S135⟩ := z134
      replace hf := ltE (ltE hf r136 rfl) S135 rfl
      refine x_callV (As := [.ref (gen g (100 + 5))]) (rest := []) (o := (some (.int r136))) (S1 := S135) hC hl.1 hW hS hGs hA tv0 rfl (show vwCl[10]? = some (RX11, TX11, 30) ∧ 10 < 11 from ⟨rfl, by decide⟩) (c_X11_isText l g ad n K H.size F S131 v0 5 tv0 (by decide) r136 S135 hz134) (cwV 1 hts gX11_parseClass_X11_isText rfl rfl rfl (by decide +kernel) ⟨Nat.le_of_ble_eq_true rfl, Nat.le_of_ble_eq_true rfl⟩) rfl rfl (Nat.le_of_ble_eq_true rfl) dX11_parseClass_55 ⟨Nat.le_of_ble_eq_true rfl, Nat.le_of_ble_eq_true rfl⟩ (fun H locs hPz134 hW hS => ?_)
      refine W.eq (g2 := F0 m 58 ls [.int r136]) rfl ?_
      refine lv_istore_n (lv' := [(2, .int r136), (1, .int x125), (0, .ref (ad v0))]) hx hb dX11_parseClass_58 rfl hl (by decide) rfl (fun ls hl => ?_)
      refine lv_iload_n hx hb dX11_parseClass_59 rfl (lv_at hl 0 rfl) ?_
      refine lv_if_eq (tgt := 67) hx hb dX11_parseClass_60 (by decide) (fun c138 => ?_) (fun c138 => ?_)
      · replace hf := ifT c138 hf
        exact L67 S135 v0 x125 r136 tv0 _ _ _ hf hW hS (lv_sub hl [2, 1, 0] rfl)
      · replace hf := ifF c138 hf
        refine lv_aload_n hx hb dX11_parseClass_63 rfl (lv_at hl 2 rfl) ?_
        replace hf := obE hf
        obtain ⟨S140, hz139, hf⟩ := hf
        refine x_callV (As := []) (rest := []) (o := none) (S1 := S140) hC hl.1 hW hS hGs hA tv0 rfl (show vwCl[10]? = some (RX11, TX11, 30) ∧ 10 < 11 from ⟨rfl, by decide⟩) (c_X11_goOn l g ad n K H.size F S135 v0 tv0 S140 hz139) (cwV 0 hts gX11_parseClass_X11_goOn rfl rfl rfl (by decide +kernel) ⟨Nat.le_of_ble_eq_true rfl, Nat.le_of_ble_eq_true rfl⟩) rfl rfl (Nat.le_of_ble_eq_true rfl) dX11_parseClass_64 ⟨Nat.le_of_ble_eq_true rfl, Nat.le_of_ble_eq_true rfl⟩ (fun H locs hPz139 hW hS => ?_)
        refine W.eq (g2 := F0 m 67 ls []) rfl ?_
        exact L67 S140 v0 x125 r136 tv0 _ _ _ hf hW hS (lv_sub hl [2, 1, 0] rfl)
    · replace hf := ifF (fun q => q c122) hf
      have e1 := Option.some.inj hf
      subst e1
      exact W.vret hx hb hr (fun t ht hWm => ⟨⟨rfl, by unfold QB; rw [ht]; exact ⟨hW, trivial⟩⟩, hS.F ht⟩) hS.2.2 dX11_parseClass_23 hlk
  unfold f_X11_parseClass at hf
  refine lv_aload_n hx hb dX11_parseClass_0 rfl (lv_at hl 0 rfl) ?_
  refine lv_aload_n hx hb dX11_parseClass_1 rfl (lv_at hl 0 rfl) ?_
  replace hf := obE hf
  obtain ⟨j143, qj143, hf⟩ := hf
  have tj143 := x_rt hW qj143 12 ⟨by decide, rfl⟩
  refine x_getr 1004 (ci := 10) (C := RX11) (T := TX11) (N := 30) 4 hC hin11 hW tp0 rfl rfl ⟨by decide, by decide, rfl, rfl⟩ rfl w_0 dX11_parseClass_2 qj143 ?_
  refine lv_iconst (v := 3) hx hb dX11_parseClass_5 (by decide) ?_
  replace hf := ckiE hf
  obtain ⟨h144, hf⟩ := hf
  refine x_iald hC hW tj143 rfl rfl h144 dX11_parseClass_6 ?_
  refine lv_bipush (v := 8) hx hb dX11_parseClass_7 (by decide) ?_
  refine lv_icmp_ge (tgt := 16) hx hb dX11_parseClass_9 (by decide) (fun c145 => ?_) (fun c145 => ?_)
  · replace hf := ifT c145 hf
    refine lv_iconst (v := 0) hx hb dX11_parseClass_16 (by decide) ?_
    exact L17 S0 p0 0 p0 tp0 tp0 _ _ _ hf hW hS (lv_sub hl [0] rfl)
  · replace hf := ifF c145 hf
    refine lv_iconst (v := 1) hx hb dX11_parseClass_12 (by decide) ?_
    refine lv_goto (tgt := 17) hx hb dX11_parseClass_13 (by decide) ?_
    exact L17 S0 p0 1 p0 tp0 tp0 _ _ _ hf hW hS (lv_sub hl [0] rfl)
set_option maxHeartbeats 4000000 in
set_option maxRecDepth 100000 in
theorem c_X11_parseUser (l : Launch) (g : GP) (ad : Nat → Nat) (n : Nat) (K : Nat → Nat) (sz F : Nat) (S0 : St) (p0 : Nat) (tp0 : p0 < n ∧ K p0 = 10) (S9 : St) (hf : f_X11_parseUser F S0 p0 = some S9) : Met l yX11_parseUser wsX11_parseUser { frames := 9, cells := 0, slots := 0, locals := 194 } (va_Pc [.ref (ad p0)] (PB g ad n K S0 sz)) (QR none (QB g ad n K S9 (dA ad n sz) (True)) (dA ad n sz)) 0 0 (dA ad n sz) := by
  refine Met.ofW (cc := cX11_parseUser) (maxL := 2) (ret := none) (by decide) rfl ?_
  intro p e s m args below meth c s₁ B hml hv
  obtain ⟨rfl, hsz, hW, hK, hGs⟩ := x_start hv
  subst hsz
  have hx := B.exec
  have hb := B.bytes
  have hr := B.returns
  have hts := atoms_spec (ws := wsX11_parseUser) B.pre
  have hown : s.vm.findClass RX11 = some m.cls := findClass_of_methodNamed B.named
  have hlk := B.notSynchronized
  have hC : Cx g p s m _ c cX11_parseUser RX11 wsX11_parseUser 2 := ⟨hx, hb, hml, hown, hts, hK⟩
  have hA : ∀ q : Nat, s.heap.size ≤ q → dA ad n s.heap.size q := fun q h => Or.inr h
  have hS : va_S (dA ad n s.heap.size) s.heap s.heap [] := va_S.rf
  have hl := lv_entry ([.ref (ad p0)]) (n := 2) (Nat.le_of_ble_eq_true rfl)
  rw [lg_entry_eq]
  generalize (lg_sl ([.ref (ad p0)]) ++ List.replicate (2 - (lg_sl ([.ref (ad p0)])).length) Slot.unset).toArray = ls at hl ⊢
  have hl : lv_has ls 2 [(0, .ref (ad p0))] := hl
  have hin11 : ∀ w ∈ wsX110, w ∈ wsX11_parseUser := by decide +kernel
  have w_0 := hts (.fieldLink RX11 29 "MailSpoolModel" "now" "[I") (by decide +kernel)
  have w_1 := hts (.constant RX11 231 (99999)) (by decide +kernel)
  have hGE := hGs.2.2.2.2.2.2.1
  have hGM := hGs.2.2.2.2.2.2.2.1
  have L26 : ∀ (S0 : St) (v0 : Nat) (s0 : Int32) (s1 : Nat) (tv0 : v0 < n ∧ K v0 = 10) (ts1 : s1 < n ∧ K s1 = 10) (H : Heap) (locs : List Loc) (ls : Array Slot), f_X11_parseUser_L26 F S0 v0 s0 s1 = some S9 → Wb g ad n K S0 (dA ad n s.heap.size) H → va_S (dA ad n s.heap.size) s.heap H locs → lv_has ls 2 [(0, .ref (ad v0))] → W p l e (headSpec wsX11_parseUser { frames := 9, cells := 0, slots := 0, locals := 194 }).room s m (List.toArray [.ref (ad p0)]) below meth c H locs 0 0 (MQ below (QR none (QB g ad n K S9 (dA ad n s.heap.size) (True)) (dA ad n s.heap.size)) (List.toArray [.ref (ad p0)]) s 0 0 (dA ad n s.heap.size)) (F0 m 26 ls [.int s0, .ref (ad s1)]) := by
    intro S0 v0 s0 s1 tv0 ts1 H locs ls hf hW hS hl
    unfold f_X11_parseUser_L26 at hf
    replace hf := obE hf
    obtain ⟨z35, hz35, hf⟩ := hf
    obtain ⟨r37, S36⟩ := z35
    replace hf := ltE (ltE hf r37 rfl) S36 rfl
    refine x_callV (As := [.int s0]) (rest := []) (o := (some (.int r37))) (S1 := S36) hC hl.1 hW hS hGs hA ts1 rfl (show vwCl[10]? = some (RX11, TX11, 30) ∧ 10 < 11 from ⟨rfl, by decide⟩) (c_X11_begins l g ad n K H.size F S0 s1 s0 ts1 r37 S36 hz35) (cwV 1 hts gX11_parseUser_X11_begins rfl rfl rfl (by decide +kernel) ⟨Nat.le_of_ble_eq_true rfl, Nat.le_of_ble_eq_true rfl⟩) rfl rfl (Nat.le_of_ble_eq_true rfl) dX11_parseUser_26 ⟨Nat.le_of_ble_eq_true rfl, Nat.le_of_ble_eq_true rfl⟩ (fun H locs hPz35 hW hS => ?_)
    refine W.eq (g2 := F0 m 29 ls [.int r37]) rfl ?_
    refine lv_if_ne (tgt := 33) hx hb dX11_parseUser_29 (by decide) (fun c39 => ?_) (fun c39 => ?_)
    · replace hf := ifT c39 hf
      refine lv_bipush (v := 83) hx hb dX11_parseUser_33 (by decide) ?_
      refine lv_bipush (v := 8) hx hb dX11_parseUser_35 (by decide) ?_
      refine lv_aload_n hx hb dX11_parseUser_37 rfl (lv_at hl 0 rfl) ?_
      replace hf := obE hf
      obtain ⟨j40, qj40, hf⟩ := hf
      have tj40 := x_rt hW qj40 12 ⟨by decide, rfl⟩
      refine x_getr 1004 (ci := 10) (C := RX11) (T := TX11) (N := 30) 4 hC hin11 hW tv0 rfl rfl ⟨by decide, by decide, rfl, rfl⟩ rfl w_0 dX11_parseUser_38 qj40 ?_
      refine lv_iconst (v := 4) hx hb dX11_parseUser_41 (by decide) ?_
      replace hf := ckiE hf
      obtain ⟨h41, hf⟩ := hf
      refine x_iald hC hW tj40 rfl rfl h41 dX11_parseUser_42 ?_
      refine lv_imul hx hb dX11_parseUser_43 ?_
      refine lv_iadd hx hb dX11_parseUser_44 ?_
      refine lv_topi (fun x42 ex42 => ?_)
      replace hf := ltE hf x42 ex42
      refine lv_istore_n (lv' := [(1, .int x42), (0, .ref (ad v0))]) hx hb dX11_parseUser_45 rfl hl (by decide) rfl (fun ls hl => ?_)
      refine lv_aload_n hx hb dX11_parseUser_46 rfl (lv_at hl 1 rfl) ?_
      refine lv_iconst (v := 1) hx hb dX11_parseUser_47 (by decide) ?_
      refine lv_iconst (v := 2) hx hb dX11_parseUser_48 (by decide) ?_
      refine lv_iload_n hx hb dX11_parseUser_49 rfl (lv_at hl 0 rfl) ?_
      refine lv_iconst (v := 2) hx hb dX11_parseUser_50 (by decide) ?_
      refine lv_iadd hx hb dX11_parseUser_51 ?_
      replace hf := obE hf
      obtain ⟨S44, hz43, hf⟩ := hf
      refine x_callV (As := [.int 1, .int 2, .int (x42 + 2)]) (rest := []) (o := none) (S1 := S44) hC hl.1 hW hS hGs hA tv0 rfl (show vwCl[10]? = some (RX11, TX11, 30) ∧ 10 < 11 from ⟨rfl, by decide⟩) (c_X11_newName l g ad n K H.size F S36 v0 ((1 : Int32)) ((2 : Int32)) (x42 + 2) tv0 S44 hz43) (cwV 3 hts gX11_parseUser_X11_newName rfl rfl rfl (by decide +kernel) ⟨Nat.le_of_ble_eq_true rfl, Nat.le_of_ble_eq_true rfl⟩) rfl rfl (Nat.le_of_ble_eq_true rfl) dX11_parseUser_52 ⟨Nat.le_of_ble_eq_true rfl, Nat.le_of_ble_eq_true rfl⟩ (fun H locs hPz43 hW hS => ?_)
      refine W.eq (g2 := F0 m 55 ls []) rfl ?_
      refine lv_aload_n hx hb dX11_parseUser_55 rfl (lv_at hl 1 rfl) ?_
      refine x_ldcM 3 (tx := "class") hC hGM ⟨rfl, by decide⟩ dX11_parseUser_56 ?_
      replace hf := obE hf
      obtain ⟨S48, hz47, hf⟩ := hf
      refine x_callV (As := [.ref (gen g (100 + 3))]) (rest := []) (o := none) (S1 := S48) hC hl.1 hW hS hGs hA tv0 rfl (show vwCl[10]? = some (RX11, TX11, 30) ∧ 10 < 11 from ⟨rfl, by decide⟩) (c_X11_word l g ad n K H.size F S44 v0 3 tv0 (by decide) S48 hz47) (cwV 1 hts gX11_parseUser_X11_word rfl rfl rfl (by decide +kernel) ⟨Nat.le_of_ble_eq_true rfl, Nat.le_of_ble_eq_true rfl⟩) rfl rfl (Nat.le_of_ble_eq_true rfl) dX11_parseUser_58 ⟨Nat.le_of_ble_eq_true rfl, Nat.le_of_ble_eq_true rfl⟩ (fun H locs hPz47 hW hS => ?_)
      refine W.eq (g2 := F0 m 61 ls []) rfl ?_
      refine lv_aload_n hx hb dX11_parseUser_61 rfl (lv_at hl 1 rfl) ?_
      replace hf := obE hf
      obtain ⟨j51, qj51, hf⟩ := hf
      have tj51 := x_rt hW qj51 12 ⟨by decide, rfl⟩
      refine x_getr 1004 (ci := 10) (C := RX11) (T := TX11) (N := 30) 4 hC hin11 hW tv0 rfl rfl ⟨by decide, by decide, rfl, rfl⟩ rfl w_0 dX11_parseUser_62 qj51 ?_
      refine lv_iload_n hx hb dX11_parseUser_65 rfl (lv_at hl 0 rfl) ?_
      refine lv_iconst (v := 0) hx hb dX11_parseUser_66 (by decide) ?_
      refine lv_iadd hx hb dX11_parseUser_67 ?_
      refine lv_aload_n hx hb dX11_parseUser_68 rfl (lv_at hl 1 rfl) ?_
      refine lv_iconst (v := 0) hx hb dX11_parseUser_69 (by decide) ?_
      replace hf := obE hf
      obtain ⟨z52, hz52, hf⟩ := hf
      obtain ⟨r54, S53⟩ := z52
      replace hf := ltE (ltE hf r54 rfl) S53 rfl
      refine x_callV (As := [.int 0]) (rest := [.int (x42 + 0), .ref (ad j51)]) (o := (some (.int r54))) (S1 := S53) hC hl.1 hW hS hGs hA tv0 rfl (show vwCl[10]? = some (RX11, TX11, 30) ∧ 10 < 11 from ⟨rfl, by decide⟩) (c_X11_oldName l g ad n K H.size F S48 v0 ((0 : Int32)) tv0 r54 S53 hz52) (cwV 1 hts gX11_parseUser_X11_oldName rfl rfl rfl (by decide +kernel) ⟨Nat.le_of_ble_eq_true rfl, Nat.le_of_ble_eq_true rfl⟩) rfl rfl (Nat.le_of_ble_eq_true rfl) dX11_parseUser_70 ⟨Nat.le_of_ble_eq_true rfl, Nat.le_of_ble_eq_true rfl⟩ (fun H locs hPz52 hW hS => ?_)
      refine W.eq (g2 := F0 m 73 ls [.int r54, .int (x42 + 0), .ref (ad j51)]) rfl ?_
      replace hf := ckiE hf
      obtain ⟨h56, hf⟩ := hf
      refine x_iast hC hW hS tj51 rfl rfl h56 dX11_parseUser_73 (fun S57 H locs eS57 hW hS => ?_)
      replace hf := ltE hf S57 eS57
      refine lv_aload_n hx hb dX11_parseUser_74 rfl (lv_at hl 1 rfl) ?_
      replace hf := obE hf
      obtain ⟨j58, qj58, hf⟩ := hf
      have tj58 := x_rt hW qj58 12 ⟨by decide, rfl⟩
      refine x_getr 1004 (ci := 10) (C := RX11) (T := TX11) (N := 30) 4 hC hin11 hW tv0 rfl rfl ⟨by decide, by decide, rfl, rfl⟩ rfl w_0 dX11_parseUser_75 qj58 ?_
      refine lv_iload_n hx hb dX11_parseUser_78 rfl (lv_at hl 0 rfl) ?_
      refine lv_iconst (v := 1) hx hb dX11_parseUser_79 (by decide) ?_
      refine lv_iadd hx hb dX11_parseUser_80 ?_
      refine lv_aload_n hx hb dX11_parseUser_81 rfl (lv_at hl 1 rfl) ?_
      refine x_ldcM 9 (tx := "quota") hC hGM ⟨rfl, by decide⟩ dX11_parseUser_82 ?_
      refine lv_iconst (v := 1) hx hb dX11_parseUser_84 (by decide) ?_
      refine lv_ldc (v := 99999) hx hb hown w_1 dX11_parseUser_85 ?_
      replace hf := obE hf
      obtain ⟨z59, hz59, hf⟩ := hf
      obtain ⟨r61, S60⟩ := z59
      replace hf := ltE (ltE hf r61 rfl) S60 rfl
      refine x_callV (As := [.ref (gen g (100 + 9)), .int 1, .int 99999]) (rest := [.int (x42 + 1), .ref (ad j58)]) (o := (some (.int r61))) (S1 := S60) hC hl.1 hW hS hGs hA tv0 rfl (show vwCl[10]? = some (RX11, TX11, 30) ∧ 10 < 11 from ⟨rfl, by decide⟩) (c_X11_numberAfter l g ad n K H.size F S57 v0 9 ((1 : Int32)) ((99999 : Int32)) tv0 (by decide) r61 S60 hz59) (cwV 3 hts gX11_parseUser_X11_numberAfter rfl rfl rfl (by decide +kernel) ⟨Nat.le_of_ble_eq_true rfl, Nat.le_of_ble_eq_true rfl⟩) rfl rfl (Nat.le_of_ble_eq_true rfl) dX11_parseUser_87 ⟨Nat.le_of_ble_eq_true rfl, Nat.le_of_ble_eq_true rfl⟩ (fun H locs hPz59 hW hS => ?_)
      refine W.eq (g2 := F0 m 90 ls [.int r61, .int (x42 + 1), .ref (ad j58)]) rfl ?_
      replace hf := ckiE hf
      obtain ⟨h63, hf⟩ := hf
      refine x_iast hC hW hS tj58 rfl rfl h63 dX11_parseUser_90 (fun S64 H locs eS64 hW hS => ?_)
      replace hf := ltE hf S64 eS64
      refine lv_aload_n hx hb dX11_parseUser_91 rfl (lv_at hl 1 rfl) ?_
      replace hf := obE hf
      obtain ⟨j65, qj65, hf⟩ := hf
      have tj65 := x_rt hW qj65 12 ⟨by decide, rfl⟩
      refine x_getr 1004 (ci := 10) (C := RX11) (T := TX11) (N := 30) 4 hC hin11 hW tv0 rfl rfl ⟨by decide, by decide, rfl, rfl⟩ rfl w_0 dX11_parseUser_92 qj65 ?_
      refine lv_iconst (v := 4) hx hb dX11_parseUser_95 (by decide) ?_
      refine lv_dup2_11 hx hb dX11_parseUser_96 rfl rfl ?_
      replace hf := ckiE hf
      obtain ⟨h66, hf⟩ := hf
      refine x_iald hC hW tj65 rfl rfl h66 dX11_parseUser_97 ?_
      refine lv_iconst (v := 1) hx hb dX11_parseUser_98 (by decide) ?_
      refine lv_iadd hx hb dX11_parseUser_99 ?_
      replace hf := ckiE hf
      obtain ⟨h67, hf⟩ := hf
      refine x_iast hC hW hS tj65 rfl rfl h67 dX11_parseUser_100 (fun S68 H locs eS68 hW hS => ?_)
      replace hf := ltE hf S68 eS68
      have e1 := Option.some.inj hf
      subst e1
      exact W.vret hx hb hr (fun t ht hWm => ⟨⟨rfl, by unfold QB; rw [ht]; exact ⟨hW, trivial⟩⟩, hS.F ht⟩) hS.2.2 dX11_parseUser_101 hlk
    · replace hf := ifF (fun q => q c39) hf
      have e1 := Option.some.inj hf
      subst e1
      exact W.vret hx hb hr (fun t ht hWm => ⟨⟨rfl, by unfold QB; rw [ht]; exact ⟨hW, trivial⟩⟩, hS.F ht⟩) hS.2.2 dX11_parseUser_32 hlk
  have L25 : ∀ (S0 : St) (v0 : Nat) (s0 : Nat) (tv0 : v0 < n ∧ K v0 = 10) (ts0 : s0 < n ∧ K s0 = 10) (H : Heap) (locs : List Loc) (ls : Array Slot), f_X11_parseUser_L25 F S0 v0 s0 = some S9 → Wb g ad n K S0 (dA ad n s.heap.size) H → va_S (dA ad n s.heap.size) s.heap H locs → lv_has ls 2 [(0, .ref (ad v0))] → W p l e (headSpec wsX11_parseUser { frames := 9, cells := 0, slots := 0, locals := 194 }).room s m (List.toArray [.ref (ad p0)]) below meth c H locs 0 0 (MQ below (QR none (QB g ad n K S9 (dA ad n s.heap.size) (True)) (dA ad n s.heap.size)) (List.toArray [.ref (ad p0)]) s 0 0 (dA ad n s.heap.size)) (F0 m 25 ls [.ref (ad s0)]) := by
    intro S0 v0 s0 tv0 ts0 H locs ls hf hW hS hl
    unfold f_X11_parseUser_L25 at hf
    refine lv_iconst (v := 0) hx hb dX11_parseUser_25 (by decide) ?_
    exact L26 S0 v0 0 s0 tv0 ts0 _ _ _ hf hW hS (lv_sub hl [0] rfl)
  unfold f_X11_parseUser at hf
  refine lv_aload_n hx hb dX11_parseUser_0 rfl (lv_at hl 0 rfl) ?_
  refine lv_aload_n hx hb dX11_parseUser_1 rfl (lv_at hl 0 rfl) ?_
  replace hf := obE hf
  obtain ⟨j69, qj69, hf⟩ := hf
  have tj69 := x_rt hW qj69 12 ⟨by decide, rfl⟩
  refine x_getr 1004 (ci := 10) (C := RX11) (T := TX11) (N := 30) 4 hC hin11 hW tp0 rfl rfl ⟨by decide, by decide, rfl, rfl⟩ rfl w_0 dX11_parseUser_2 qj69 ?_
  refine lv_iconst (v := 4) hx hb dX11_parseUser_5 (by decide) ?_
  replace hf := ckiE hf
  obtain ⟨h70, hf⟩ := hf
  refine x_iald hC hW tj69 rfl rfl h70 dX11_parseUser_6 ?_
  refine lv_bipush (v := 10) hx hb dX11_parseUser_7 (by decide) ?_
  refine lv_icmp_ge (tgt := 25) hx hb dX11_parseUser_9 (by decide) (fun c71 => ?_) (fun c71 => ?_)
  · replace hf := ifT c71 hf
    exact L25 S0 p0 p0 tp0 tp0 _ _ _ hf hW hS (lv_sub hl [0] rfl)
  · replace hf := ifF c71 hf
    refine lv_aload_n hx hb dX11_parseUser_12 rfl (lv_at hl 0 rfl) ?_
    replace hf := obE hf
    obtain ⟨j72, qj72, hf⟩ := hf
    have tj72 := x_rt hW qj72 12 ⟨by decide, rfl⟩
    refine x_getr 1004 (ci := 10) (C := RX11) (T := TX11) (N := 30) 4 hC hin11 hW tp0 rfl rfl ⟨by decide, by decide, rfl, rfl⟩ rfl w_0 dX11_parseUser_13 qj72 ?_
    refine lv_iconst (v := 3) hx hb dX11_parseUser_16 (by decide) ?_
    replace hf := ckiE hf
    obtain ⟨h73, hf⟩ := hf
    refine x_iald hC hW tj72 rfl rfl h73 dX11_parseUser_17 ?_
    refine lv_if_le (tgt := 25) hx hb dX11_parseUser_18 (by decide) (fun c74 => ?_) (fun c74 => ?_)
    · replace hf := ifT c74 hf
      exact L25 S0 p0 p0 tp0 tp0 _ _ _ hf hW hS (lv_sub hl [0] rfl)
    · replace hf := ifF c74 hf
      refine lv_iconst (v := 1) hx hb dX11_parseUser_21 (by decide) ?_
      refine lv_goto (tgt := 26) hx hb dX11_parseUser_22 (by decide) ?_
      exact L26 S0 p0 1 p0 tp0 tp0 _ _ _ hf hW hS (lv_sub hl [0] rfl)
set_option maxHeartbeats 4000000 in
set_option maxRecDepth 100000 in
theorem c_X11_member (l : Launch) (g : GP) (ad : Nat → Nat) (n : Nat) (K : Nat → Nat) (sz F : Nat) (S0 : St) (p0 : Nat) (tp0 : p0 < n ∧ K p0 = 10) (r9 : Int32) (S9 : St) (hf : f_X11_member F S0 p0 = some (r9, S9)) : Met l yX11_member wsX11_member { frames := 8, cells := 0, slots := 0, locals := 170 } (va_Pc [.ref (ad p0)] (PB g ad n K S0 sz)) (QR (some (.int r9)) (QB g ad n K S9 (dA ad n sz) (True)) (dA ad n sz)) 0 0 (dA ad n sz) := by
  refine Met.ofW (cc := cX11_member) (maxL := 4) (ret := (some .int)) (by decide) rfl ?_
  intro p e s m args below meth c s₁ B hml hv
  obtain ⟨rfl, hsz, hW, hK, hGs⟩ := x_start hv
  subst hsz
  have hx := B.exec
  have hb := B.bytes
  have hr := B.returns
  have hts := atoms_spec (ws := wsX11_member) B.pre
  have hown : s.vm.findClass RX11 = some m.cls := findClass_of_methodNamed B.named
  have hlk := B.notSynchronized
  have hC : Cx g p s m _ c cX11_member RX11 wsX11_member 4 := ⟨hx, hb, hml, hown, hts, hK⟩
  have hA : ∀ q : Nat, s.heap.size ≤ q → dA ad n s.heap.size q := fun q h => Or.inr h
  have hS : va_S (dA ad n s.heap.size) s.heap s.heap [] := va_S.rf
  have hl := lv_entry ([.ref (ad p0)]) (n := 4) (Nat.le_of_ble_eq_true rfl)
  rw [lg_entry_eq]
  generalize (lg_sl ([.ref (ad p0)]) ++ List.replicate (4 - (lg_sl ([.ref (ad p0)])).length) Slot.unset).toArray = ls at hl ⊢
  have hl : lv_has ls 4 [(0, .ref (ad p0))] := hl
  have hin11 : ∀ w ∈ wsX110, w ∈ wsX11_member := by decide +kernel
  have w_0 := hts (.fieldLink RX11 29 "MailSpoolModel" "now" "[I") (by decide +kernel)
  have hGE := hGs.2.2.2.2.2.2.1
  have hGM := hGs.2.2.2.2.2.2.2.1
  have L90 : ∀ (S0 : St) (v0 : Nat) (s0 : Int32) (tv0 : v0 < n ∧ K v0 = 10) (H : Heap) (locs : List Loc) (ls : Array Slot), f_X11_member_L90 F S0 v0 s0 = some (r9, S9) → Wb g ad n K S0 (dA ad n s.heap.size) H → va_S (dA ad n s.heap.size) s.heap H locs → lv_has ls 4 [(0, .ref (ad v0))] → W p l e (headSpec wsX11_member { frames := 8, cells := 0, slots := 0, locals := 170 }).room s m (List.toArray [.ref (ad p0)]) below meth c H locs 0 0 (MQ below (QR (some (.int r9)) (QB g ad n K S9 (dA ad n s.heap.size) (True)) (dA ad n s.heap.size)) (List.toArray [.ref (ad p0)]) s 0 0 (dA ad n s.heap.size)) (F0 m 90 ls [.int s0]) := by
    intro S0 v0 s0 tv0 H locs ls hf hW hS hl
    unfold f_X11_member_L90 at hf
    refine lv_istore_n (lv' := [(3, .int s0), (0, .ref (ad v0))]) hx hb dX11_member_90 rfl hl (by decide) rfl (fun ls hl => ?_)
    refine lv_aload_n hx hb dX11_member_91 rfl (lv_at hl 1 rfl) ?_
    replace hf := obE hf
    obtain ⟨S6, hz5, hf⟩ := hf
    refine x_callV (As := []) (rest := []) (o := none) (S1 := S6) hC hl.1 hW hS hGs hA tv0 rfl (show vwCl[10]? = some (RX11, TX11, 30) ∧ 10 < 11 from ⟨rfl, by decide⟩) (c_X11_goOn l g ad n K H.size F S0 v0 tv0 S6 hz5) (cwV 0 hts gX11_member_X11_goOn rfl rfl rfl (by decide +kernel) ⟨Nat.le_of_ble_eq_true rfl, Nat.le_of_ble_eq_true rfl⟩) rfl rfl (Nat.le_of_ble_eq_true rfl) dX11_member_92 ⟨Nat.le_of_ble_eq_true rfl, Nat.le_of_ble_eq_true rfl⟩ (fun H locs hPz5 hW hS => ?_)
    refine W.eq (g2 := F0 m 95 ls []) rfl ?_
    refine lv_iload_n hx hb dX11_member_95 rfl (lv_at hl 0 rfl) ?_
    obtain ⟨e1, e2⟩ := so2 hf
    subst e1
    subst e2
    exact W.iret (v := s0) hx hb hr (fun t ht hWm => ⟨⟨rfl, by unfold QB; rw [ht]; exact ⟨hW, trivial⟩⟩, hS.F ht⟩) hS.2.2 dX11_member_96 hlk
  have L53 : ∀ (S0 : St) (v0 : Nat) (v1 : Int32) (v2 : Int32) (tv0 : v0 < n ∧ K v0 = 10) (H : Heap) (locs : List Loc) (ls : Array Slot), f_X11_member_L53 F S0 v0 v1 v2 = some (r9, S9) → Wb g ad n K S0 (dA ad n s.heap.size) H → va_S (dA ad n s.heap.size) s.heap H locs → lv_has ls 4 [(0, .ref (ad v0)), (1, .int v1), (2, .int v2)] → W p l e (headSpec wsX11_member { frames := 8, cells := 0, slots := 0, locals := 170 }).room s m (List.toArray [.ref (ad p0)]) below meth c H locs 0 0 (MQ below (QR (some (.int r9)) (QB g ad n K S9 (dA ad n s.heap.size) (True)) (dA ad n s.heap.size)) (List.toArray [.ref (ad p0)]) s 0 0 (dA ad n s.heap.size)) (F0 m 53 ls []) := by
    intro S0 v0 v1 v2 tv0 H locs ls hf hW hS hl
    unfold f_X11_member_L53 at hf
    refine lv_aload_n hx hb dX11_member_53 rfl (lv_at hl 0 rfl) ?_
    replace hf := obE hf
    obtain ⟨z17, hz17, hf⟩ := hf
    obtain ⟨r19, S18⟩ := z17
    replace hf := ltE (ltE hf r19 rfl) S18 rfl
    refine x_callV (As := []) (rest := []) (o := (some (.int r19))) (S1 := S18) hC hl.1 hW hS hGs hA tv0 rfl (show vwCl[10]? = some (RX11, TX11, 30) ∧ 10 < 11 from ⟨rfl, by decide⟩) (c_X11_good l g ad n K H.size F S0 v0 tv0 r19 S18 hz17) (cwV 0 hts gX11_member_X11_good rfl rfl rfl (by decide +kernel) ⟨Nat.le_of_ble_eq_true rfl, Nat.le_of_ble_eq_true rfl⟩) rfl rfl (Nat.le_of_ble_eq_true rfl) dX11_member_54 ⟨Nat.le_of_ble_eq_true rfl, Nat.le_of_ble_eq_true rfl⟩ (fun H locs hPz17 hW hS => ?_)
    refine W.eq (g2 := F0 m 57 ls [.int r19]) rfl ?_
    refine lv_if_ne (tgt := 64) hx hb dX11_member_57 (by decide) (fun c21 => ?_) (fun c21 => ?_)
    · replace hf := ifT c21 hf
      refine lv_iload_n hx hb dX11_member_64 rfl (lv_at hl 1 rfl) ?_
      refine lv_iconst (v := -1) hx hb dX11_member_65 (by decide) ?_
      refine lv_icmp_eq (tgt := 75) hx hb dX11_member_66 (by decide) (fun c22 => ?_) (fun c22 => ?_)
      · replace hf := ifT c22 hf
        refine lv_aload_n hx hb dX11_member_75 rfl (lv_at hl 0 rfl) ?_
        replace hf := obE hf
        obtain ⟨j23, qj23, hf⟩ := hf
        have tj23 := x_rt hW qj23 12 ⟨by decide, rfl⟩
        refine x_getr 1004 (ci := 10) (C := RX11) (T := TX11) (N := 30) 4 hC hin11 hW tv0 rfl rfl ⟨by decide, by decide, rfl, rfl⟩ rfl w_0 dX11_member_76 qj23 ?_
        refine lv_sipush (v := 163) hx hb dX11_member_79 (by decide) ?_
        refine lv_bipush (v := 7) hx hb dX11_member_82 (by decide) ?_
        refine lv_iload_n hx hb dX11_member_84 rfl (lv_at hl 2 rfl) ?_
        refine lv_imul hx hb dX11_member_85 ?_
        refine lv_iadd hx hb dX11_member_86 ?_
        refine lv_iconst (v := 0) hx hb dX11_member_87 (by decide) ?_
        refine lv_iadd hx hb dX11_member_88 ?_
        replace hf := ckiE hf
        obtain ⟨h24, hf⟩ := hf
        refine x_iald hC hW tj23 rfl rfl h24 dX11_member_89 ?_
        exact L90 S18 v0 (ai S18 j23 (Int32.toNatClampNeg ((163 + (7 * v2)) + 0))) tv0 _ _ _ hf hW hS (lv_sub hl [0] rfl)
      · replace hf := ifF c22 hf
        refine lv_iconst (v := 1) hx hb dX11_member_69 (by decide) ?_
        refine lv_iload_n hx hb dX11_member_70 rfl (lv_at hl 1 rfl) ?_
        refine lv_ishl hx hb dX11_member_71 ?_
        refine lv_goto (tgt := 90) hx hb dX11_member_72 (by decide) ?_
        exact L90 S18 v0 (1 <<< (v1 &&& 31)) tv0 _ _ _ hf hW hS (lv_sub hl [0] rfl)
    · replace hf := ifF (fun q => q c21) hf
      refine lv_iconst (v := 0) hx hb dX11_member_60 (by decide) ?_
      refine lv_goto (tgt := 90) hx hb dX11_member_61 (by decide) ?_
      exact L90 S18 v0 0 tv0 _ _ _ hf hW hS (lv_sub hl [0] rfl)
  have L37 : ∀ (S0 : St) (v0 : Nat) (v1 : Int32) (s0 : Int32) (tv0 : v0 < n ∧ K v0 = 10) (H : Heap) (locs : List Loc) (ls : Array Slot), f_X11_member_L37 F S0 v0 v1 s0 = some (r9, S9) → Wb g ad n K S0 (dA ad n s.heap.size) H → va_S (dA ad n s.heap.size) s.heap H locs → lv_has ls 4 [(0, .ref (ad v0)), (1, .int v1)] → W p l e (headSpec wsX11_member { frames := 8, cells := 0, slots := 0, locals := 170 }).room s m (List.toArray [.ref (ad p0)]) below meth c H locs 0 0 (MQ below (QR (some (.int r9)) (QB g ad n K S9 (dA ad n s.heap.size) (True)) (dA ad n s.heap.size)) (List.toArray [.ref (ad p0)]) s 0 0 (dA ad n s.heap.size)) (F0 m 37 ls [.int s0]) := by
    intro S0 v0 v1 s0 tv0 H locs ls hf hW hS hl
    unfold f_X11_member_L37 at hf
    refine lv_istore_n (lv' := [(2, .int s0), (0, .ref (ad v0)), (1, .int v1)]) hx hb dX11_member_37 rfl hl (by decide) rfl (fun ls hl => ?_)
    refine lv_iload_n hx hb dX11_member_38 rfl (lv_at hl 2 rfl) ?_
    refine lv_iconst (v := -1) hx hb dX11_member_39 (by decide) ?_
    refine lv_icmp_ne (tgt := 53) hx hb dX11_member_40 (by decide) (fun c31 => ?_) (fun c31 => ?_)
    · replace hf := ifT c31 hf
      exact L53 S0 v0 v1 s0 tv0 _ _ _ hf hW hS (lv_sub hl [1, 2, 0] rfl)
    · replace hf := ifF (fun q => q c31) hf
      refine lv_iload_n hx hb dX11_member_43 rfl (lv_at hl 0 rfl) ?_
      refine lv_iconst (v := -1) hx hb dX11_member_44 (by decide) ?_
      refine lv_icmp_ne (tgt := 53) hx hb dX11_member_45 (by decide) (fun c32 => ?_) (fun c32 => ?_)
      · replace hf := ifT c32 hf
        exact L53 S0 v0 v1 s0 tv0 _ _ _ hf hW hS (lv_sub hl [1, 2, 0] rfl)
      · replace hf := ifF (fun q => q c32) hf
        refine lv_aload_n hx hb dX11_member_48 rfl (lv_at hl 1 rfl) ?_
        refine lv_iconst (v := 3) hx hb dX11_member_49 (by decide) ?_
        replace hf := obE hf
        obtain ⟨S34, hz33, hf⟩ := hf
        refine x_callV (As := [.int 3]) (rest := []) (o := none) (S1 := S34) hC hl.1 hW hS hGs hA tv0 rfl (show vwCl[10]? = some (RX11, TX11, 30) ∧ 10 < 11 from ⟨rfl, by decide⟩) (c_X11_errs l g ad n K H.size F S0 v0 ((3 : Int32)) tv0 S34 hz33) (cwV 1 hts gX11_member_X11_errs rfl rfl rfl (by decide +kernel) ⟨Nat.le_of_ble_eq_true rfl, Nat.le_of_ble_eq_true rfl⟩) rfl rfl (Nat.le_of_ble_eq_true rfl) dX11_member_50 ⟨Nat.le_of_ble_eq_true rfl, Nat.le_of_ble_eq_true rfl⟩ (fun H locs hPz33 hW hS => ?_)
        refine W.eq (g2 := F0 m 53 ls []) rfl ?_
        exact L53 S34 v0 v1 s0 tv0 _ _ _ hf hW hS (lv_sub hl [1, 2, 0] rfl)
  have L20 : ∀ (S0 : St) (v0 : Nat) (s0 : Int32) (tv0 : v0 < n ∧ K v0 = 10) (H : Heap) (locs : List Loc) (ls : Array Slot), f_X11_member_L20 F S0 v0 s0 = some (r9, S9) → Wb g ad n K S0 (dA ad n s.heap.size) H → va_S (dA ad n s.heap.size) s.heap H locs → lv_has ls 4 [(0, .ref (ad v0))] → W p l e (headSpec wsX11_member { frames := 8, cells := 0, slots := 0, locals := 170 }).room s m (List.toArray [.ref (ad p0)]) below meth c H locs 0 0 (MQ below (QR (some (.int r9)) (QB g ad n K S9 (dA ad n s.heap.size) (True)) (dA ad n s.heap.size)) (List.toArray [.ref (ad p0)]) s 0 0 (dA ad n s.heap.size)) (F0 m 20 ls [.int s0]) := by
    intro S0 v0 s0 tv0 H locs ls hf hW hS hl
    unfold f_X11_member_L20 at hf
    refine lv_istore_n (lv' := [(1, .int s0), (0, .ref (ad v0))]) hx hb dX11_member_20 rfl hl (by decide) rfl (fun ls hl => ?_)
    refine lv_aload_n hx hb dX11_member_21 rfl (lv_at hl 1 rfl) ?_
    replace hf := obE hf
    obtain ⟨z46, hz46, hf⟩ := hf
    obtain ⟨r48, S47⟩ := z46
    replace hf := ltE (ltE hf r48 rfl) S47 rfl
    refine x_callV (As := []) (rest := []) (o := (some (.int r48))) (S1 := S47) hC hl.1 hW hS hGs hA tv0 rfl (show vwCl[10]? = some (RX11, TX11, 30) ∧ 10 < 11 from ⟨rfl, by decide⟩) (c_X11_good l g ad n K H.size F S0 v0 tv0 r48 S47 hz46) (cwV 0 hts gX11_member_X11_good rfl rfl rfl (by decide +kernel) ⟨Nat.le_of_ble_eq_true rfl, Nat.le_of_ble_eq_true rfl⟩) rfl rfl (Nat.le_of_ble_eq_true rfl) dX11_member_22 ⟨Nat.le_of_ble_eq_true rfl, Nat.le_of_ble_eq_true rfl⟩ (fun H locs hPz46 hW hS => ?_)
    refine W.eq (g2 := F0 m 25 ls [.int r48]) rfl ?_
    refine lv_if_eq (tgt := 36) hx hb dX11_member_25 (by decide) (fun c50 => ?_) (fun c50 => ?_)
    · replace hf := ifT c50 hf
      refine lv_iconst (v := 0) hx hb dX11_member_36 (by decide) ?_
      exact L37 S47 v0 s0 0 tv0 _ _ _ hf hW hS (lv_sub hl [1, 0] rfl)
    · replace hf := ifF c50 hf
      refine lv_aload_n hx hb dX11_member_28 rfl (lv_at hl 1 rfl) ?_
      refine lv_iconst (v := 2) hx hb dX11_member_29 (by decide) ?_
      replace hf := obE hf
      obtain ⟨z51, hz51, hf⟩ := hf
      obtain ⟨r53, S52⟩ := z51
      replace hf := ltE (ltE hf r53 rfl) S52 rfl
      refine x_callV (As := [.int 2]) (rest := []) (o := (some (.int r53))) (S1 := S52) hC hl.1 hW hS hGs hA tv0 rfl (show vwCl[10]? = some (RX11, TX11, 30) ∧ 10 < 11 from ⟨rfl, by decide⟩) (c_X11_kindNamed l g ad n K H.size F S47 v0 ((2 : Int32)) tv0 r53 S52 hz51) (cwV 1 hts gX11_member_X11_kindNamed rfl rfl rfl (by decide +kernel) ⟨Nat.le_of_ble_eq_true rfl, Nat.le_of_ble_eq_true rfl⟩) rfl rfl (Nat.le_of_ble_eq_true rfl) dX11_member_30 ⟨Nat.le_of_ble_eq_true rfl, Nat.le_of_ble_eq_true rfl⟩ (fun H locs hPz51 hW hS => ?_)
      refine W.eq (g2 := F0 m 33 ls [.int r53]) rfl ?_
      refine lv_goto (tgt := 37) hx hb dX11_member_33 (by decide) ?_
      exact L37 S52 v0 s0 r53 tv0 _ _ _ hf hW hS (lv_sub hl [1, 0] rfl)
  unfold f_X11_member at hf
  refine lv_aload_n hx hb dX11_member_0 rfl (lv_at hl 0 rfl) ?_
  replace hf := obE hf
  obtain ⟨S56, hz55, hf⟩ := hf
  refine x_callV (As := []) (rest := []) (o := none) (S1 := S56) hC hl.1 hW hS hGs hA tp0 rfl (show vwCl[10]? = some (RX11, TX11, 30) ∧ 10 < 11 from ⟨rfl, by decide⟩) (c_X11_checkName l g ad n K s.heap.size F S0 p0 tp0 S56 hz55) (cwV 0 hts gX11_member_X11_checkName rfl rfl rfl (by decide +kernel) ⟨Nat.le_of_ble_eq_true rfl, Nat.le_of_ble_eq_true rfl⟩) rfl rfl (Nat.le_of_ble_eq_true rfl) dX11_member_1 ⟨Nat.le_of_ble_eq_true rfl, Nat.le_of_ble_eq_true rfl⟩ (fun H locs hPz55 hW hS => ?_)
  refine W.eq (g2 := F0 m 4 ls []) rfl ?_
  refine lv_aload_n hx hb dX11_member_4 rfl (lv_at hl 0 rfl) ?_
  replace hf := obE hf
  obtain ⟨z59, hz59, hf⟩ := hf
  obtain ⟨r61, S60⟩ := z59
  replace hf := ltE (ltE hf r61 rfl) S60 rfl
  refine x_callV (As := []) (rest := []) (o := (some (.int r61))) (S1 := S60) hC hl.1 hW hS hGs hA tp0 rfl (show vwCl[10]? = some (RX11, TX11, 30) ∧ 10 < 11 from ⟨rfl, by decide⟩) (c_X11_good l g ad n K H.size F S56 p0 tp0 r61 S60 hz59) (cwV 0 hts gX11_member_X11_good rfl rfl rfl (by decide +kernel) ⟨Nat.le_of_ble_eq_true rfl, Nat.le_of_ble_eq_true rfl⟩) rfl rfl (Nat.le_of_ble_eq_true rfl) dX11_member_5 ⟨Nat.le_of_ble_eq_true rfl, Nat.le_of_ble_eq_true rfl⟩ (fun H locs hPz59 hW hS => ?_)
  refine W.eq (g2 := F0 m 8 ls [.int r61]) rfl ?_
  refine lv_if_eq (tgt := 19) hx hb dX11_member_8 (by decide) (fun c63 => ?_) (fun c63 => ?_)
  · replace hf := ifT c63 hf
    refine lv_iconst (v := 0) hx hb dX11_member_19 (by decide) ?_
    exact L20 S60 p0 0 tp0 _ _ _ hf hW hS (lv_sub hl [0] rfl)
  · replace hf := ifF c63 hf
    refine lv_aload_n hx hb dX11_member_11 rfl (lv_at hl 0 rfl) ?_
    refine lv_iconst (v := 1) hx hb dX11_member_12 (by decide) ?_
    replace hf := obE hf
    obtain ⟨z64, hz64, hf⟩ := hf
    obtain ⟨r66, S65⟩ := z64
    replace hf := ltE (ltE hf r66 rfl) S65 rfl
    refine x_callV (As := [.int 1]) (rest := []) (o := (some (.int r66))) (S1 := S65) hC hl.1 hW hS hGs hA tp0 rfl (show vwCl[10]? = some (RX11, TX11, 30) ∧ 10 < 11 from ⟨rfl, by decide⟩) (c_X11_kindNamed l g ad n K H.size F S60 p0 ((1 : Int32)) tp0 r66 S65 hz64) (cwV 1 hts gX11_member_X11_kindNamed rfl rfl rfl (by decide +kernel) ⟨Nat.le_of_ble_eq_true rfl, Nat.le_of_ble_eq_true rfl⟩) rfl rfl (Nat.le_of_ble_eq_true rfl) dX11_member_13 ⟨Nat.le_of_ble_eq_true rfl, Nat.le_of_ble_eq_true rfl⟩ (fun H locs hPz64 hW hS => ?_)
    refine W.eq (g2 := F0 m 16 ls [.int r66]) rfl ?_
    refine lv_goto (tgt := 20) hx hb dX11_member_16 (by decide) ?_
    exact L20 S65 p0 r66 tp0 _ _ _ hf hW hS (lv_sub hl [0] rfl)
set_option maxHeartbeats 4000000 in
set_option maxRecDepth 100000 in
theorem c_X11_parseGroup (l : Launch) (g : GP) (ad : Nat → Nat) (n : Nat) (K : Nat → Nat) (sz F : Nat) (S0 : St) (p0 : Nat) (tp0 : p0 < n ∧ K p0 = 10) (S9 : St) (hf : f_X11_parseGroup F S0 p0 = some S9) : Met l yX11_parseGroup wsX11_parseGroup { frames := 9, cells := 0, slots := 0, locals := 194 } (va_Pc [.ref (ad p0)] (PB g ad n K S0 sz)) (QR none (QB g ad n K S9 (dA ad n sz) (True)) (dA ad n sz)) 0 0 (dA ad n sz) := by
  refine Met.ofW (cc := cX11_parseGroup) (maxL := 3) (ret := none) (by decide) rfl ?_
  intro p e s m args below meth c s₁ B hml hv
  obtain ⟨rfl, hsz, hW, hK, hGs⟩ := x_start hv
  subst hsz
  have hx := B.exec
  have hb := B.bytes
  have hr := B.returns
  have hts := atoms_spec (ws := wsX11_parseGroup) B.pre
  have hown : s.vm.findClass RX11 = some m.cls := findClass_of_methodNamed B.named
  have hlk := B.notSynchronized
  have hC : Cx g p s m _ c cX11_parseGroup RX11 wsX11_parseGroup 3 := ⟨hx, hb, hml, hown, hts, hK⟩
  have hA : ∀ q : Nat, s.heap.size ≤ q → dA ad n s.heap.size q := fun q h => Or.inr h
  have hS : va_S (dA ad n s.heap.size) s.heap s.heap [] := va_S.rf
  have hl := lv_entry ([.ref (ad p0)]) (n := 3) (Nat.le_of_ble_eq_true rfl)
  rw [lg_entry_eq]
  generalize (lg_sl ([.ref (ad p0)]) ++ List.replicate (3 - (lg_sl ([.ref (ad p0)])).length) Slot.unset).toArray = ls at hl ⊢
  have hl : lv_has ls 3 [(0, .ref (ad p0))] := hl
  have hin11 : ∀ w ∈ wsX110, w ∈ wsX11_parseGroup := by decide +kernel
  have w_0 := hts (.fieldLink RX11 29 "MailSpoolModel" "now" "[I") (by decide +kernel)
  have hGE := hGs.2.2.2.2.2.2.1
  have hGM := hGs.2.2.2.2.2.2.2.1
  have L61 : ∀ (fu61 : Nat) (S0 : St) (v0 : Nat) (v1 : Int32) (v2 : Int32) (tv0 : v0 < n ∧ K v0 = 10) (H : Heap) (locs : List Loc) (ls : Array Slot), f_X11_parseGroup_L61 F fu61 S0 v0 v1 v2 = some S9 → Wb g ad n K S0 (dA ad n s.heap.size) H → va_S (dA ad n s.heap.size) s.heap H locs → lv_has ls 3 [(0, .ref (ad v0)), (1, .int v1), (2, .int v2)] → W p l e (headSpec wsX11_parseGroup { frames := 9, cells := 0, slots := 0, locals := 194 }).room s m (List.toArray [.ref (ad p0)]) below meth c H locs 0 0 (MQ below (QR none (QB g ad n K S9 (dA ad n s.heap.size) (True)) (dA ad n s.heap.size)) (List.toArray [.ref (ad p0)]) s 0 0 (dA ad n s.heap.size)) (F0 m 61 ls []) := by
    intro fu61
    induction fu61 with
    | zero =>
      intro S0 v0 v1 v2 tv0 H locs ls hf
      cases hf
    | succ fu61 ih61 =>
      intro S0 v0 v1 v2 tv0 H locs ls hf hW hS hl
      unfold f_X11_parseGroup_L61 at hf
      refine lv_aload_n hx hb dX11_parseGroup_61 rfl (lv_at hl 0 rfl) ?_
      refine lv_bipush (v := 44) hx hb dX11_parseGroup_62 (by decide) ?_
      replace hf := obE hf
      obtain ⟨z22, hz22, hf⟩ := hf
      obtain ⟨r24, S23⟩ := z22
      replace hf := ltE (ltE hf r24 rfl) S23 rfl
      refine x_callV (As := [.int 44]) (rest := []) (o := (some (.int r24))) (S1 := S23) hC hl.1 hW hS hGs hA tv0 rfl (show vwCl[10]? = some (RX11, TX11, 30) ∧ 10 < 11 from ⟨rfl, by decide⟩) (c_X11_isSymbol l g ad n K H.size F S0 v0 ((44 : Int32)) tv0 r24 S23 hz22) (cwV 1 hts gX11_parseGroup_X11_isSymbol rfl rfl rfl (by decide +kernel) ⟨Nat.le_of_ble_eq_true rfl, Nat.le_of_ble_eq_true rfl⟩) rfl rfl (Nat.le_of_ble_eq_true rfl) dX11_parseGroup_64 ⟨Nat.le_of_ble_eq_true rfl, Nat.le_of_ble_eq_true rfl⟩ (fun H locs hPz22 hW hS => ?_)
      refine W.eq (g2 := F0 m 67 ls [.int r24]) rfl ?_
      refine lv_if_eq (tgt := 84) hx hb dX11_parseGroup_67 (by decide) (fun c26 => ?_) (fun c26 => ?_)
      · replace hf := ifT c26 hf
        refine lv_aload_n hx hb dX11_parseGroup_84 rfl (lv_at hl 0 rfl) ?_
        replace hf := obE hf
        obtain ⟨j27, qj27, hf⟩ := hf
        have tj27 := x_rt hW qj27 12 ⟨by decide, rfl⟩
        refine x_getr 1004 (ci := 10) (C := RX11) (T := TX11) (N := 30) 4 hC hin11 hW tv0 rfl rfl ⟨by decide, by decide, rfl, rfl⟩ rfl w_0 dX11_parseGroup_85 qj27 ?_
        refine lv_iload_n hx hb dX11_parseGroup_88 rfl (lv_at hl 1 rfl) ?_
        refine lv_iconst (v := 0) hx hb dX11_parseGroup_89 (by decide) ?_
        refine lv_iadd hx hb dX11_parseGroup_90 ?_
        refine lv_iload_n hx hb dX11_parseGroup_91 rfl (lv_at hl 2 rfl) ?_
        replace hf := ckiE hf
        obtain ⟨h28, hf⟩ := hf
        refine x_iast hC hW hS tj27 rfl rfl h28 dX11_parseGroup_92 (fun S29 H locs eS29 hW hS => ?_)
        replace hf := ltE hf S29 eS29
        refine lv_aload_n hx hb dX11_parseGroup_93 rfl (lv_at hl 0 rfl) ?_
        replace hf := obE hf
        obtain ⟨j30, qj30, hf⟩ := hf
        have tj30 := x_rt hW qj30 12 ⟨by decide, rfl⟩
        refine x_getr 1004 (ci := 10) (C := RX11) (T := TX11) (N := 30) 4 hC hin11 hW tv0 rfl rfl ⟨by decide, by decide, rfl, rfl⟩ rfl w_0 dX11_parseGroup_94 qj30 ?_
        refine lv_iconst (v := 5) hx hb dX11_parseGroup_97 (by decide) ?_
        refine lv_dup2_11 hx hb dX11_parseGroup_98 rfl rfl ?_
        replace hf := ckiE hf
        obtain ⟨h31, hf⟩ := hf
        refine x_iald hC hW tj30 rfl rfl h31 dX11_parseGroup_99 ?_
        refine lv_iconst (v := 1) hx hb dX11_parseGroup_100 (by decide) ?_
        refine lv_iadd hx hb dX11_parseGroup_101 ?_
        replace hf := ckiE hf
        obtain ⟨h32, hf⟩ := hf
        refine x_iast hC hW hS tj30 rfl rfl h32 dX11_parseGroup_102 (fun S33 H locs eS33 hW hS => ?_)
        replace hf := ltE hf S33 eS33
        have e1 := Option.some.inj hf
        subst e1
        exact W.vret hx hb hr (fun t ht hWm => ⟨⟨rfl, by unfold QB; rw [ht]; exact ⟨hW, trivial⟩⟩, hS.F ht⟩) hS.2.2 dX11_parseGroup_103 hlk
      · replace hf := ifF c26 hf
        refine lv_aload_n hx hb dX11_parseGroup_70 rfl (lv_at hl 0 rfl) ?_
        replace hf := obE hf
        obtain ⟨S35, hz34, hf⟩ := hf
        refine x_callV (As := []) (rest := []) (o := none) (S1 := S35) hC hl.1 hW hS hGs hA tv0 rfl (show vwCl[10]? = some (RX11, TX11, 30) ∧ 10 < 11 from ⟨rfl, by decide⟩) (c_X11_goOn l g ad n K H.size F S23 v0 tv0 S35 hz34) (cwV 0 hts gX11_parseGroup_X11_goOn rfl rfl rfl (by decide +kernel) ⟨Nat.le_of_ble_eq_true rfl, Nat.le_of_ble_eq_true rfl⟩) rfl rfl (Nat.le_of_ble_eq_true rfl) dX11_parseGroup_71 ⟨Nat.le_of_ble_eq_true rfl, Nat.le_of_ble_eq_true rfl⟩ (fun H locs hPz34 hW hS => ?_)
        refine W.eq (g2 := F0 m 74 ls []) rfl ?_
        refine lv_iload_n hx hb dX11_parseGroup_74 rfl (lv_at hl 2 rfl) ?_
        refine lv_aload_n hx hb dX11_parseGroup_75 rfl (lv_at hl 0 rfl) ?_
        replace hf := obE hf
        obtain ⟨z38, hz38, hf⟩ := hf
        obtain ⟨r40, S39⟩ := z38
        replace hf := ltE (ltE hf r40 rfl) S39 rfl
        refine x_callV (As := []) (rest := [.int v2]) (o := (some (.int r40))) (S1 := S39) hC hl.1 hW hS hGs hA tv0 rfl (show vwCl[10]? = some (RX11, TX11, 30) ∧ 10 < 11 from ⟨rfl, by decide⟩) (c_X11_member l g ad n K H.size F S35 v0 tv0 r40 S39 hz38) (cwV 0 hts gX11_parseGroup_X11_member rfl rfl rfl (by decide +kernel) ⟨Nat.le_of_ble_eq_true rfl, Nat.le_of_ble_eq_true rfl⟩) rfl rfl (Nat.le_of_ble_eq_true rfl) dX11_parseGroup_76 ⟨Nat.le_of_ble_eq_true rfl, Nat.le_of_ble_eq_true rfl⟩ (fun H locs hPz38 hW hS => ?_)
        refine W.eq (g2 := F0 m 79 ls [.int r40, .int v2]) rfl ?_
        refine lv_ior hx hb dX11_parseGroup_79 ?_
        refine lv_topi (fun x42 ex42 => ?_)
        replace hf := ltE hf x42 ex42
        refine lv_istore_n (lv' := [(2, .int x42), (0, .ref (ad v0)), (1, .int v1)]) hx hb dX11_parseGroup_80 rfl hl (by decide) rfl (fun ls hl => ?_)
        refine lv_goto (tgt := 61) hx hb dX11_parseGroup_81 (by decide) ?_
        exact ih61 S39 v0 v1 x42 tv0 _ _ _ hf hW hS (lv_sub hl [1, 2, 0] rfl)
  have L26 : ∀ (S0 : St) (v0 : Nat) (s0 : Int32) (s1 : Nat) (tv0 : v0 < n ∧ K v0 = 10) (ts1 : s1 < n ∧ K s1 = 10) (H : Heap) (locs : List Loc) (ls : Array Slot), f_X11_parseGroup_L26 F S0 v0 s0 s1 = some S9 → Wb g ad n K S0 (dA ad n s.heap.size) H → va_S (dA ad n s.heap.size) s.heap H locs → lv_has ls 3 [(0, .ref (ad v0))] → W p l e (headSpec wsX11_parseGroup { frames := 9, cells := 0, slots := 0, locals := 194 }).room s m (List.toArray [.ref (ad p0)]) below meth c H locs 0 0 (MQ below (QR none (QB g ad n K S9 (dA ad n s.heap.size) (True)) (dA ad n s.heap.size)) (List.toArray [.ref (ad p0)]) s 0 0 (dA ad n s.heap.size)) (F0 m 26 ls [.int s0, .ref (ad s1)]) := by
    intro S0 v0 s0 s1 tv0 ts1 H locs ls hf hW hS hl
    unfold f_X11_parseGroup_L26 at hf
    replace hf := obE hf
    obtain ⟨z59, hz59, hf⟩ := hf
    obtain ⟨r61, S60⟩ := z59
    replace hf := ltE (ltE hf r61 rfl) S60 rfl
    refine x_callV (As := [.int s0]) (rest := []) (o := (some (.int r61))) (S1 := S60) hC hl.1 hW hS hGs hA ts1 rfl (show vwCl[10]? = some (RX11, TX11, 30) ∧ 10 < 11 from ⟨rfl, by decide⟩) (c_X11_begins l g ad n K H.size F S0 s1 s0 ts1 r61 S60 hz59) (cwV 1 hts gX11_parseGroup_X11_begins rfl rfl rfl (by decide +kernel) ⟨Nat.le_of_ble_eq_true rfl, Nat.le_of_ble_eq_true rfl⟩) rfl rfl (Nat.le_of_ble_eq_true rfl) dX11_parseGroup_26 ⟨Nat.le_of_ble_eq_true rfl, Nat.le_of_ble_eq_true rfl⟩ (fun H locs hPz59 hW hS => ?_)
    refine W.eq (g2 := F0 m 29 ls [.int r61]) rfl ?_
    refine lv_if_ne (tgt := 33) hx hb dX11_parseGroup_29 (by decide) (fun c63 => ?_) (fun c63 => ?_)
    · replace hf := ifT c63 hf
      refine lv_sipush (v := 163) hx hb dX11_parseGroup_33 (by decide) ?_
      refine lv_bipush (v := 7) hx hb dX11_parseGroup_36 (by decide) ?_
      refine lv_aload_n hx hb dX11_parseGroup_38 rfl (lv_at hl 0 rfl) ?_
      replace hf := obE hf
      obtain ⟨j64, qj64, hf⟩ := hf
      have tj64 := x_rt hW qj64 12 ⟨by decide, rfl⟩
      refine x_getr 1004 (ci := 10) (C := RX11) (T := TX11) (N := 30) 4 hC hin11 hW tv0 rfl rfl ⟨by decide, by decide, rfl, rfl⟩ rfl w_0 dX11_parseGroup_39 qj64 ?_
      refine lv_iconst (v := 5) hx hb dX11_parseGroup_42 (by decide) ?_
      replace hf := ckiE hf
      obtain ⟨h65, hf⟩ := hf
      refine x_iald hC hW tj64 rfl rfl h65 dX11_parseGroup_43 ?_
      refine lv_imul hx hb dX11_parseGroup_44 ?_
      refine lv_iadd hx hb dX11_parseGroup_45 ?_
      refine lv_topi (fun x66 ex66 => ?_)
      replace hf := ltE hf x66 ex66
      refine lv_istore_n (lv' := [(1, .int x66), (0, .ref (ad v0))]) hx hb dX11_parseGroup_46 rfl hl (by decide) rfl (fun ls hl => ?_)
      refine lv_aload_n hx hb dX11_parseGroup_47 rfl (lv_at hl 1 rfl) ?_
      refine lv_iconst (v := 1) hx hb dX11_parseGroup_48 (by decide) ?_
      refine lv_iconst (v := 2) hx hb dX11_parseGroup_49 (by decide) ?_
      refine lv_iload_n hx hb dX11_parseGroup_50 rfl (lv_at hl 0 rfl) ?_
      refine lv_iconst (v := 1) hx hb dX11_parseGroup_51 (by decide) ?_
      refine lv_iadd hx hb dX11_parseGroup_52 ?_
      replace hf := obE hf
      obtain ⟨S68, hz67, hf⟩ := hf
      refine x_callV (As := [.int 1, .int 2, .int (x66 + 1)]) (rest := []) (o := none) (S1 := S68) hC hl.1 hW hS hGs hA tv0 rfl (show vwCl[10]? = some (RX11, TX11, 30) ∧ 10 < 11 from ⟨rfl, by decide⟩) (c_X11_newName l g ad n K H.size F S60 v0 ((1 : Int32)) ((2 : Int32)) (x66 + 1) tv0 S68 hz67) (cwV 3 hts gX11_parseGroup_X11_newName rfl rfl rfl (by decide +kernel) ⟨Nat.le_of_ble_eq_true rfl, Nat.le_of_ble_eq_true rfl⟩) rfl rfl (Nat.le_of_ble_eq_true rfl) dX11_parseGroup_53 ⟨Nat.le_of_ble_eq_true rfl, Nat.le_of_ble_eq_true rfl⟩ (fun H locs hPz67 hW hS => ?_)
      refine W.eq (g2 := F0 m 56 ls []) rfl ?_
      refine lv_aload_n hx hb dX11_parseGroup_56 rfl (lv_at hl 1 rfl) ?_
      replace hf := obE hf
      obtain ⟨z71, hz71, hf⟩ := hf
      obtain ⟨r73, S72⟩ := z71
      replace hf := ltE (ltE hf r73 rfl) S72 rfl
      refine x_callV (As := []) (rest := []) (o := (some (.int r73))) (S1 := S72) hC hl.1 hW hS hGs hA tv0 rfl (show vwCl[10]? = some (RX11, TX11, 30) ∧ 10 < 11 from ⟨rfl, by decide⟩) (c_X11_member l g ad n K H.size F S68 v0 tv0 r73 S72 hz71) (cwV 0 hts gX11_parseGroup_X11_member rfl rfl rfl (by decide +kernel) ⟨Nat.le_of_ble_eq_true rfl, Nat.le_of_ble_eq_true rfl⟩) rfl rfl (Nat.le_of_ble_eq_true rfl) dX11_parseGroup_57 ⟨Nat.le_of_ble_eq_true rfl, Nat.le_of_ble_eq_true rfl⟩ (fun H locs hPz71 hW hS => ?_)
      refine W.eq (g2 := F0 m 60 ls [.int r73]) rfl ?_
      refine lv_istore_n (lv' := [(2, .int r73), (1, .int x66), (0, .ref (ad v0))]) hx hb dX11_parseGroup_60 rfl hl (by decide) rfl (fun ls hl => ?_)
      exact L61 F S72 v0 x66 r73 tv0 _ _ _ hf hW hS (lv_sub hl [2, 1, 0] rfl)
    · replace hf := ifF (fun q => q c63) hf
      have e1 := Option.some.inj hf
      subst e1
      exact W.vret hx hb hr (fun t ht hWm => ⟨⟨rfl, by unfold QB; rw [ht]; exact ⟨hW, trivial⟩⟩, hS.F ht⟩) hS.2.2 dX11_parseGroup_32 hlk
  have L25 : ∀ (S0 : St) (v0 : Nat) (s0 : Nat) (tv0 : v0 < n ∧ K v0 = 10) (ts0 : s0 < n ∧ K s0 = 10) (H : Heap) (locs : List Loc) (ls : Array Slot), f_X11_parseGroup_L25 F S0 v0 s0 = some S9 → Wb g ad n K S0 (dA ad n s.heap.size) H → va_S (dA ad n s.heap.size) s.heap H locs → lv_has ls 3 [(0, .ref (ad v0))] → W p l e (headSpec wsX11_parseGroup { frames := 9, cells := 0, slots := 0, locals := 194 }).room s m (List.toArray [.ref (ad p0)]) below meth c H locs 0 0 (MQ below (QR none (QB g ad n K S9 (dA ad n s.heap.size) (True)) (dA ad n s.heap.size)) (List.toArray [.ref (ad p0)]) s 0 0 (dA ad n s.heap.size)) (F0 m 25 ls [.ref (ad s0)]) := by
    intro S0 v0 s0 tv0 ts0 H locs ls hf hW hS hl
    unfold f_X11_parseGroup_L25 at hf
    refine lv_iconst (v := 0) hx hb dX11_parseGroup_25 (by decide) ?_
    exact L26 S0 v0 0 s0 tv0 ts0 _ _ _ hf hW hS (lv_sub hl [0] rfl)
  unfold f_X11_parseGroup at hf
  refine lv_aload_n hx hb dX11_parseGroup_0 rfl (lv_at hl 0 rfl) ?_
  refine lv_aload_n hx hb dX11_parseGroup_1 rfl (lv_at hl 0 rfl) ?_
  replace hf := obE hf
  obtain ⟨j75, qj75, hf⟩ := hf
  have tj75 := x_rt hW qj75 12 ⟨by decide, rfl⟩
  refine x_getr 1004 (ci := 10) (C := RX11) (T := TX11) (N := 30) 4 hC hin11 hW tp0 rfl rfl ⟨by decide, by decide, rfl, rfl⟩ rfl w_0 dX11_parseGroup_2 qj75 ?_
  refine lv_iconst (v := 5) hx hb dX11_parseGroup_5 (by decide) ?_
  replace hf := ckiE hf
  obtain ⟨h76, hf⟩ := hf
  refine x_iald hC hW tj75 rfl rfl h76 dX11_parseGroup_6 ?_
  refine lv_bipush (v := 6) hx hb dX11_parseGroup_7 (by decide) ?_
  refine lv_icmp_ge (tgt := 25) hx hb dX11_parseGroup_9 (by decide) (fun c77 => ?_) (fun c77 => ?_)
  · replace hf := ifT c77 hf
    exact L25 S0 p0 p0 tp0 tp0 _ _ _ hf hW hS (lv_sub hl [0] rfl)
  · replace hf := ifF c77 hf
    refine lv_aload_n hx hb dX11_parseGroup_12 rfl (lv_at hl 0 rfl) ?_
    replace hf := obE hf
    obtain ⟨j78, qj78, hf⟩ := hf
    have tj78 := x_rt hW qj78 12 ⟨by decide, rfl⟩
    refine x_getr 1004 (ci := 10) (C := RX11) (T := TX11) (N := 30) 4 hC hin11 hW tp0 rfl rfl ⟨by decide, by decide, rfl, rfl⟩ rfl w_0 dX11_parseGroup_13 qj78 ?_
    refine lv_iconst (v := 4) hx hb dX11_parseGroup_16 (by decide) ?_
    replace hf := ckiE hf
    obtain ⟨h79, hf⟩ := hf
    refine x_iald hC hW tj78 rfl rfl h79 dX11_parseGroup_17 ?_
    refine lv_if_le (tgt := 25) hx hb dX11_parseGroup_18 (by decide) (fun c80 => ?_) (fun c80 => ?_)
    · replace hf := ifT c80 hf
      exact L25 S0 p0 p0 tp0 tp0 _ _ _ hf hW hS (lv_sub hl [0] rfl)
    · replace hf := ifF c80 hf
      refine lv_iconst (v := 1) hx hb dX11_parseGroup_21 (by decide) ?_
      refine lv_goto (tgt := 26) hx hb dX11_parseGroup_22 (by decide) ?_
      exact L26 S0 p0 1 p0 tp0 tp0 _ _ _ hf hW hS (lv_sub hl [0] rfl)
set_option maxHeartbeats 4000000 in
set_option maxRecDepth 100000 in
theorem c_X11_parseWord (l : Launch) (g : GP) (ad : Nat → Nat) (n : Nat) (K : Nat → Nat) (sz F : Nat) (S0 : St) (p0 : Nat) (p1 : Int32) (tp0 : p0 < n ∧ K p0 = 10) (S9 : St) (hf : f_X11_parseWord F S0 p0 p1 = some S9) : Met l yX11_parseWord wsX11_parseWord { frames := 3, cells := 0, slots := 0, locals := 66 } (va_Pc [.ref (ad p0), .int p1] (PB g ad n K S0 sz)) (QR none (QB g ad n K S9 (dA ad n sz) (True)) (dA ad n sz)) 0 0 (dA ad n sz) := by
  refine Met.ofW (cc := cX11_parseWord) (maxL := 3) (ret := none) (by decide) rfl ?_
  intro p e s m args below meth c s₁ B hml hv
  obtain ⟨rfl, hsz, hW, hK, hGs⟩ := x_start hv
  subst hsz
  have hx := B.exec
  have hb := B.bytes
  have hr := B.returns
  have hts := atoms_spec (ws := wsX11_parseWord) B.pre
  have hown : s.vm.findClass RX11 = some m.cls := findClass_of_methodNamed B.named
  have hlk := B.notSynchronized
  have hC : Cx g p s m _ c cX11_parseWord RX11 wsX11_parseWord 3 := ⟨hx, hb, hml, hown, hts, hK⟩
  have hA : ∀ q : Nat, s.heap.size ≤ q → dA ad n s.heap.size q := fun q h => Or.inr h
  have hS : va_S (dA ad n s.heap.size) s.heap s.heap [] := va_S.rf
  have hl := lv_entry ([.ref (ad p0), .int p1]) (n := 3) (Nat.le_of_ble_eq_true rfl)
  rw [lg_entry_eq]
  generalize (lg_sl ([.ref (ad p0), .int p1]) ++ List.replicate (3 - (lg_sl ([.ref (ad p0), .int p1])).length) Slot.unset).toArray = ls at hl ⊢
  have hl : lv_has ls 3 [(0, .ref (ad p0)), (1, .int p1)] := hl
  have hin11 : ∀ w ∈ wsX110, w ∈ wsX11_parseWord := by decide +kernel
  have w_0 := hts (.fieldLink RX11 29 "MailSpoolModel" "now" "[I") (by decide +kernel)
  have w_1 := hts (.fieldLink RX11 115 "MailSpoolModel" "next" "I") (by decide +kernel)
  have w_2 := hts (.fieldLink RX11 109 "MailSpoolModel" "start" "I") (by decide +kernel)
  have w_3 := hts (.fieldLink RX11 122 "MailSpoolModel" "token" "I") (by decide +kernel)
  have hGE := hGs.2.2.2.2.2.2.1
  have hGM := hGs.2.2.2.2.2.2.2.1
  have L57 : ∀ (fu57 : Nat) (S0 : St) (v0 : Nat) (v1 : Int32) (v2 : Int32) (tv0 : v0 < n ∧ K v0 = 10) (H : Heap) (locs : List Loc) (ls : Array Slot), f_X11_parseWord_L57 F fu57 S0 v0 v1 v2 = some S9 → Wb g ad n K S0 (dA ad n s.heap.size) H → va_S (dA ad n s.heap.size) s.heap H locs → lv_has ls 3 [(0, .ref (ad v0)), (1, .int v1), (2, .int v2)] → W p l e (headSpec wsX11_parseWord { frames := 3, cells := 0, slots := 0, locals := 66 }).room s m (List.toArray [.ref (ad p0), .int p1]) below meth c H locs 0 0 (MQ below (QR none (QB g ad n K S9 (dA ad n s.heap.size) (True)) (dA ad n s.heap.size)) (List.toArray [.ref (ad p0), .int p1]) s 0 0 (dA ad n s.heap.size)) (F0 m 57 ls []) := by
    intro fu57
    induction fu57 with
    | zero =>
      intro S0 v0 v1 v2 tv0 H locs ls hf
      cases hf
    | succ fu57 ih57 =>
      intro S0 v0 v1 v2 tv0 H locs ls hf hW hS hl
      unfold f_X11_parseWord_L57 at hf
      refine lv_iload_n hx hb dX11_parseWord_57 rfl (lv_at hl 2 rfl) ?_
      refine lv_bipush (v := 10) hx hb dX11_parseWord_58 (by decide) ?_
      refine lv_icmp_ge (tgt := 84) hx hb dX11_parseWord_60 (by decide) (fun c14 => ?_) (fun c14 => ?_)
      · replace hf := ifT c14 hf
        refine lv_aload_n hx hb dX11_parseWord_84 rfl (lv_at hl 0 rfl) ?_
        replace hf := obE hf
        obtain ⟨S16, hz15, hf⟩ := hf
        refine x_callV (As := []) (rest := []) (o := none) (S1 := S16) hC hl.1 hW hS hGs hA tv0 rfl (show vwCl[10]? = some (RX11, TX11, 30) ∧ 10 < 11 from ⟨rfl, by decide⟩) (c_X11_goOn l g ad n K H.size F S0 v0 tv0 S16 hz15) (cwV 0 hts gX11_parseWord_X11_goOn rfl rfl rfl (by decide +kernel) ⟨Nat.le_of_ble_eq_true rfl, Nat.le_of_ble_eq_true rfl⟩) rfl rfl (Nat.le_of_ble_eq_true rfl) dX11_parseWord_85 ⟨Nat.le_of_ble_eq_true rfl, Nat.le_of_ble_eq_true rfl⟩ (fun H locs hPz15 hW hS => ?_)
        refine W.eq (g2 := F0 m 88 ls []) rfl ?_
        have e1 := Option.some.inj hf
        subst e1
        exact W.vret hx hb hr (fun t ht hWm => ⟨⟨rfl, by unfold QB; rw [ht]; exact ⟨hW, trivial⟩⟩, hS.F ht⟩) hS.2.2 dX11_parseWord_88 hlk
      · replace hf := ifF c14 hf
        refine lv_aload_n hx hb dX11_parseWord_63 rfl (lv_at hl 0 rfl) ?_
        replace hf := obE hf
        obtain ⟨j19, qj19, hf⟩ := hf
        have tj19 := x_rt hW qj19 12 ⟨by decide, rfl⟩
        refine x_getr 1004 (ci := 10) (C := RX11) (T := TX11) (N := 30) 4 hC hin11 hW tv0 rfl rfl ⟨by decide, by decide, rfl, rfl⟩ rfl w_0 dX11_parseWord_64 qj19 ?_
        refine lv_iload_n hx hb dX11_parseWord_67 rfl (lv_at hl 1 rfl) ?_
        refine lv_iconst (v := 5) hx hb dX11_parseWord_68 (by decide) ?_
        refine lv_iadd hx hb dX11_parseWord_69 ?_
        refine lv_iload_n hx hb dX11_parseWord_70 rfl (lv_at hl 2 rfl) ?_
        refine lv_iadd hx hb dX11_parseWord_71 ?_
        refine lv_aload_n hx hb dX11_parseWord_72 rfl (lv_at hl 0 rfl) ?_
        refine lv_iload_n hx hb dX11_parseWord_73 rfl (lv_at hl 2 rfl) ?_
        replace hf := obE hf
        obtain ⟨z20, hz20, hf⟩ := hf
        obtain ⟨r22, S21⟩ := z20
        replace hf := ltE (ltE hf r22 rfl) S21 rfl
        refine x_callV (As := [.int v2]) (rest := [.int ((v1 + 5) + v2), .ref (ad j19)]) (o := (some (.int r22))) (S1 := S21) hC hl.1 hW hS hGs hA tv0 rfl (show vwCl[10]? = some (RX11, TX11, 30) ∧ 10 < 11 from ⟨rfl, by decide⟩) (c_X11_letter l g ad n K H.size F S0 v0 v2 tv0 r22 S21 hz20) (cwV 1 hts gX11_parseWord_X11_letter rfl rfl rfl (by decide +kernel) ⟨Nat.le_of_ble_eq_true rfl, Nat.le_of_ble_eq_true rfl⟩) rfl rfl (Nat.le_of_ble_eq_true rfl) dX11_parseWord_74 ⟨Nat.le_of_ble_eq_true rfl, Nat.le_of_ble_eq_true rfl⟩ (fun H locs hPz20 hW hS => ?_)
        refine W.eq (g2 := F0 m 77 ls [.int r22, .int ((v1 + 5) + v2), .ref (ad j19)]) rfl ?_
        replace hf := ckiE hf
        obtain ⟨h24, hf⟩ := hf
        refine x_iast hC hW hS tj19 rfl rfl h24 dX11_parseWord_77 (fun S25 H locs eS25 hW hS => ?_)
        replace hf := ltE hf S25 eS25
        obtain ⟨x26, ex26⟩ : ∃ z : Int32, z = v2 + 1 := ⟨_, rfl⟩
        replace hf := ltE hf x26 ex26
        refine lv_iinc (v := x26) (lv' := [(2, .int x26), (0, .ref (ad v0)), (1, .int v1)]) hx hb dX11_parseWord_78 hl (k := 2) rfl (by rw [ex26]; rfl) (by decide) rfl (fun ls hl => ?_)
        refine lv_goto (tgt := 57) hx hb dX11_parseWord_81 (by decide) ?_
        exact ih57 S25 v0 v1 x26 tv0 _ _ _ hf hW hS (lv_sub hl [1, 2, 0] rfl)
  have L38 : ∀ (S0 : St) (v0 : Nat) (v1 : Int32) (tv0 : v0 < n ∧ K v0 = 10) (H : Heap) (locs : List Loc) (ls : Array Slot), f_X11_parseWord_L38 F S0 v0 v1 = some S9 → Wb g ad n K S0 (dA ad n s.heap.size) H → va_S (dA ad n s.heap.size) s.heap H locs → lv_has ls 3 [(0, .ref (ad v0)), (1, .int v1)] → W p l e (headSpec wsX11_parseWord { frames := 3, cells := 0, slots := 0, locals := 66 }).room s m (List.toArray [.ref (ad p0), .int p1]) below meth c H locs 0 0 (MQ below (QR none (QB g ad n K S9 (dA ad n s.heap.size) (True)) (dA ad n s.heap.size)) (List.toArray [.ref (ad p0), .int p1]) s 0 0 (dA ad n s.heap.size)) (F0 m 38 ls []) := by
    intro S0 v0 v1 tv0 H locs ls hf hW hS hl
    unfold f_X11_parseWord_L38 at hf
    refine lv_aload_n hx hb dX11_parseWord_38 rfl (lv_at hl 0 rfl) ?_
    replace hf := obE hf
    obtain ⟨j30, qj30, hf⟩ := hf
    have tj30 := x_rt hW qj30 12 ⟨by decide, rfl⟩
    refine x_getr 1004 (ci := 10) (C := RX11) (T := TX11) (N := 30) 4 hC hin11 hW tv0 rfl rfl ⟨by decide, by decide, rfl, rfl⟩ rfl w_0 dX11_parseWord_39 qj30 ?_
    refine lv_iload_n hx hb dX11_parseWord_42 rfl (lv_at hl 1 rfl) ?_
    refine lv_iconst (v := 4) hx hb dX11_parseWord_43 (by decide) ?_
    refine lv_iadd hx hb dX11_parseWord_44 ?_
    refine lv_aload_n hx hb dX11_parseWord_45 rfl (lv_at hl 0 rfl) ?_
    refine x_geti 1009 (ci := 10) (C := RX11) (T := TX11) (N := 30) 9 hC hin11 hW tv0 rfl rfl ⟨by decide, by decide, rfl, rfl⟩ rfl w_1 dX11_parseWord_46 ?_
    refine lv_aload_n hx hb dX11_parseWord_49 rfl (lv_at hl 0 rfl) ?_
    refine x_geti 1010 (ci := 10) (C := RX11) (T := TX11) (N := 30) 10 hC hin11 hW tv0 rfl rfl ⟨by decide, by decide, rfl, rfl⟩ rfl w_2 dX11_parseWord_50 ?_
    refine lv_isub hx hb dX11_parseWord_53 ?_
    replace hf := ckiE hf
    obtain ⟨h31, hf⟩ := hf
    refine x_iast hC hW hS tj30 rfl rfl h31 dX11_parseWord_54 (fun S32 H locs eS32 hW hS => ?_)
    replace hf := ltE hf S32 eS32
    refine lv_iconst (v := 0) hx hb dX11_parseWord_55 (by decide) ?_
    refine lv_istore_n (lv' := [(2, .int 0), (0, .ref (ad v0)), (1, .int v1)]) hx hb dX11_parseWord_56 rfl hl (by decide) rfl (fun ls hl => ?_)
    exact L57 F S32 v0 v1 0 tv0 _ _ _ hf hW hS (lv_sub hl [1, 2, 0] rfl)
  have L33 : ∀ (S0 : St) (v0 : Nat) (v1 : Int32) (tv0 : v0 < n ∧ K v0 = 10) (H : Heap) (locs : List Loc) (ls : Array Slot), f_X11_parseWord_L33 F S0 v0 v1 = some S9 → Wb g ad n K S0 (dA ad n s.heap.size) H → va_S (dA ad n s.heap.size) s.heap H locs → lv_has ls 3 [(0, .ref (ad v0)), (1, .int v1)] → W p l e (headSpec wsX11_parseWord { frames := 3, cells := 0, slots := 0, locals := 66 }).room s m (List.toArray [.ref (ad p0), .int p1]) below meth c H locs 0 0 (MQ below (QR none (QB g ad n K S9 (dA ad n s.heap.size) (True)) (dA ad n s.heap.size)) (List.toArray [.ref (ad p0), .int p1]) s 0 0 (dA ad n s.heap.size)) (F0 m 33 ls []) := by
    intro S0 v0 v1 tv0 H locs ls hf hW hS hl
    unfold f_X11_parseWord_L33 at hf
    refine lv_aload_n hx hb dX11_parseWord_33 rfl (lv_at hl 0 rfl) ?_
    refine lv_iconst (v := 1) hx hb dX11_parseWord_34 (by decide) ?_
    replace hf := obE hf
    obtain ⟨S38, hz37, hf⟩ := hf
    refine x_callV (As := [.int 1]) (rest := []) (o := none) (S1 := S38) hC hl.1 hW hS hGs hA tv0 rfl (show vwCl[10]? = some (RX11, TX11, 30) ∧ 10 < 11 from ⟨rfl, by decide⟩) (c_X11_errs l g ad n K H.size F S0 v0 ((1 : Int32)) tv0 S38 hz37) (cwV 1 hts gX11_parseWord_X11_errs rfl rfl rfl (by decide +kernel) ⟨Nat.le_of_ble_eq_true rfl, Nat.le_of_ble_eq_true rfl⟩) rfl rfl (Nat.le_of_ble_eq_true rfl) dX11_parseWord_35 ⟨Nat.le_of_ble_eq_true rfl, Nat.le_of_ble_eq_true rfl⟩ (fun H locs hPz37 hW hS => ?_)
    refine W.eq (g2 := F0 m 38 ls []) rfl ?_
    exact L38 S38 v0 v1 tv0 _ _ _ hf hW hS (lv_sub hl [0, 1] rfl)
  unfold f_X11_parseWord at hf
  refine lv_aload_n hx hb dX11_parseWord_0 rfl (lv_at hl 0 rfl) ?_
  replace hf := obE hf
  obtain ⟨S42, hz41, hf⟩ := hf
  refine x_callV (As := []) (rest := []) (o := none) (S1 := S42) hC hl.1 hW hS hGs hA tp0 rfl (show vwCl[10]? = some (RX11, TX11, 30) ∧ 10 < 11 from ⟨rfl, by decide⟩) (c_X11_goOn l g ad n K s.heap.size F S0 p0 tp0 S42 hz41) (cwV 0 hts gX11_parseWord_X11_goOn rfl rfl rfl (by decide +kernel) ⟨Nat.le_of_ble_eq_true rfl, Nat.le_of_ble_eq_true rfl⟩) rfl rfl (Nat.le_of_ble_eq_true rfl) dX11_parseWord_1 ⟨Nat.le_of_ble_eq_true rfl, Nat.le_of_ble_eq_true rfl⟩ (fun H locs hPz41 hW hS => ?_)
  refine W.eq (g2 := F0 m 4 ls []) rfl ?_
  refine lv_aload_n hx hb dX11_parseWord_4 rfl (lv_at hl 0 rfl) ?_
  replace hf := obE hf
  obtain ⟨z45, hz45, hf⟩ := hf
  obtain ⟨r47, S46⟩ := z45
  replace hf := ltE (ltE hf r47 rfl) S46 rfl
  refine x_callV (As := []) (rest := []) (o := (some (.int r47))) (S1 := S46) hC hl.1 hW hS hGs hA tp0 rfl (show vwCl[10]? = some (RX11, TX11, 30) ∧ 10 < 11 from ⟨rfl, by decide⟩) (c_X11_good l g ad n K H.size F S42 p0 tp0 r47 S46 hz45) (cwV 0 hts gX11_parseWord_X11_good rfl rfl rfl (by decide +kernel) ⟨Nat.le_of_ble_eq_true rfl, Nat.le_of_ble_eq_true rfl⟩) rfl rfl (Nat.le_of_ble_eq_true rfl) dX11_parseWord_5 ⟨Nat.le_of_ble_eq_true rfl, Nat.le_of_ble_eq_true rfl⟩ (fun H locs hPz45 hW hS => ?_)
  refine W.eq (g2 := F0 m 8 ls [.int r47]) rfl ?_
  refine lv_if_eq (tgt := 38) hx hb dX11_parseWord_8 (by decide) (fun c49 => ?_) (fun c49 => ?_)
  · replace hf := ifT c49 hf
    exact L38 S46 p0 p1 tp0 _ _ _ hf hW hS (lv_sub hl [0, 1] rfl)
  · replace hf := ifF c49 hf
    refine lv_aload_n hx hb dX11_parseWord_11 rfl (lv_at hl 0 rfl) ?_
    refine x_geti 1011 (ci := 10) (C := RX11) (T := TX11) (N := 30) 11 hC hin11 hW tp0 rfl rfl ⟨by decide, by decide, rfl, rfl⟩ rfl w_3 dX11_parseWord_12 ?_
    refine lv_iconst (v := 1) hx hb dX11_parseWord_15 (by decide) ?_
    refine lv_icmp_ne (tgt := 33) hx hb dX11_parseWord_16 (by decide) (fun c50 => ?_) (fun c50 => ?_)
    · replace hf := ifT c50 hf
      exact L33 S46 p0 p1 tp0 _ _ _ hf hW hS (lv_sub hl [0, 1] rfl)
    · replace hf := ifF (fun q => q c50) hf
      refine lv_aload_n hx hb dX11_parseWord_19 rfl (lv_at hl 0 rfl) ?_
      refine x_geti 1009 (ci := 10) (C := RX11) (T := TX11) (N := 30) 9 hC hin11 hW tp0 rfl rfl ⟨by decide, by decide, rfl, rfl⟩ rfl w_1 dX11_parseWord_20 ?_
      refine lv_aload_n hx hb dX11_parseWord_23 rfl (lv_at hl 0 rfl) ?_
      refine x_geti 1010 (ci := 10) (C := RX11) (T := TX11) (N := 30) 10 hC hin11 hW tp0 rfl rfl ⟨by decide, by decide, rfl, rfl⟩ rfl w_2 dX11_parseWord_24 ?_
      refine lv_isub hx hb dX11_parseWord_27 ?_
      refine lv_bipush (v := 10) hx hb dX11_parseWord_28 (by decide) ?_
      refine lv_icmp_le (tgt := 38) hx hb dX11_parseWord_30 (by decide) (fun c51 => ?_) (fun c51 => ?_)
      · replace hf := ifT c51 hf
        exact L38 S46 p0 p1 tp0 _ _ _ hf hW hS (lv_sub hl [0, 1] rfl)
      · replace hf := ifF c51 hf
        exact L33 S46 p0 p1 tp0 _ _ _ hf hW hS (lv_sub hl [0, 1] rfl)
set_option maxHeartbeats 4000000 in
set_option maxRecDepth 100000 in
theorem c_X11_parseHold (l : Launch) (g : GP) (ad : Nat → Nat) (n : Nat) (K : Nat → Nat) (sz F : Nat) (S0 : St) (p0 : Nat) (tp0 : p0 < n ∧ K p0 = 10) (S9 : St) (hf : f_X11_parseHold F S0 p0 = some S9) : Met l yX11_parseHold wsX11_parseHold { frames := 9, cells := 0, slots := 0, locals := 194 } (va_Pc [.ref (ad p0)] (PB g ad n K S0 sz)) (QR none (QB g ad n K S9 (dA ad n sz) (True)) (dA ad n sz)) 0 0 (dA ad n sz) := by
  refine Met.ofW (cc := cX11_parseHold) (maxL := 2) (ret := none) (by decide) rfl ?_
  intro p e s m args below meth c s₁ B hml hv
  obtain ⟨rfl, hsz, hW, hK, hGs⟩ := x_start hv
  subst hsz
  have hx := B.exec
  have hb := B.bytes
  have hr := B.returns
  have hts := atoms_spec (ws := wsX11_parseHold) B.pre
  have hown : s.vm.findClass RX11 = some m.cls := findClass_of_methodNamed B.named
  have hlk := B.notSynchronized
  have hC : Cx g p s m _ c cX11_parseHold RX11 wsX11_parseHold 2 := ⟨hx, hb, hml, hown, hts, hK⟩
  have hA : ∀ q : Nat, s.heap.size ≤ q → dA ad n s.heap.size q := fun q h => Or.inr h
  have hS : va_S (dA ad n s.heap.size) s.heap s.heap [] := va_S.rf
  have hl := lv_entry ([.ref (ad p0)]) (n := 2) (Nat.le_of_ble_eq_true rfl)
  rw [lg_entry_eq]
  generalize (lg_sl ([.ref (ad p0)]) ++ List.replicate (2 - (lg_sl ([.ref (ad p0)])).length) Slot.unset).toArray = ls at hl ⊢
  have hl : lv_has ls 2 [(0, .ref (ad p0))] := hl
  have hin11 : ∀ w ∈ wsX110, w ∈ wsX11_parseHold := by decide +kernel
  have w_0 := hts (.fieldLink RX11 29 "MailSpoolModel" "now" "[I") (by decide +kernel)
  have hGE := hGs.2.2.2.2.2.2.1
  have hGM := hGs.2.2.2.2.2.2.2.1
  have L175 : ∀ (S0 : St) (v0 : Nat) (v1 : Int32) (tv0 : v0 < n ∧ K v0 = 10) (H : Heap) (locs : List Loc) (ls : Array Slot), f_X11_parseHold_L175 F S0 v0 v1 = some S9 → Wb g ad n K S0 (dA ad n s.heap.size) H → va_S (dA ad n s.heap.size) s.heap H locs → lv_has ls 2 [(0, .ref (ad v0)), (1, .int v1)] → W p l e (headSpec wsX11_parseHold { frames := 9, cells := 0, slots := 0, locals := 194 }).room s m (List.toArray [.ref (ad p0)]) below meth c H locs 0 0 (MQ below (QR none (QB g ad n K S9 (dA ad n s.heap.size) (True)) (dA ad n s.heap.size)) (List.toArray [.ref (ad p0)]) s 0 0 (dA ad n s.heap.size)) (F0 m 175 ls []) := by
    intro S0 v0 v1 tv0 H locs ls hf hW hS hl
    unfold f_X11_parseHold_L175 at hf
    refine lv_aload_n hx hb dX11_parseHold_175 rfl (lv_at hl 0 rfl) ?_
    replace hf := obE hf
    obtain ⟨j8, qj8, hf⟩ := hf
    have tj8 := x_rt hW qj8 12 ⟨by decide, rfl⟩
    refine x_getr 1004 (ci := 10) (C := RX11) (T := TX11) (N := 30) 4 hC hin11 hW tv0 rfl rfl ⟨by decide, by decide, rfl, rfl⟩ rfl w_0 dX11_parseHold_176 qj8 ?_
    refine lv_iload_n hx hb dX11_parseHold_179 rfl (lv_at hl 1 rfl) ?_
    refine lv_iconst (v := 3) hx hb dX11_parseHold_180 (by decide) ?_
    refine lv_iadd hx hb dX11_parseHold_181 ?_
    refine lv_iconst (v := 1) hx hb dX11_parseHold_182 (by decide) ?_
    replace hf := ckiE hf
    obtain ⟨h9, hf⟩ := hf
    refine x_iast hC hW hS tj8 rfl rfl h9 dX11_parseHold_183 (fun S10 H locs eS10 hW hS => ?_)
    replace hf := ltE hf S10 eS10
    refine lv_aload_n hx hb dX11_parseHold_184 rfl (lv_at hl 0 rfl) ?_
    replace hf := obE hf
    obtain ⟨j11, qj11, hf⟩ := hf
    have tj11 := x_rt hW qj11 12 ⟨by decide, rfl⟩
    refine x_getr 1004 (ci := 10) (C := RX11) (T := TX11) (N := 30) 4 hC hin11 hW tv0 rfl rfl ⟨by decide, by decide, rfl, rfl⟩ rfl w_0 dX11_parseHold_185 qj11 ?_
    refine lv_bipush (v := 6) hx hb dX11_parseHold_188 (by decide) ?_
    refine lv_dup2_11 hx hb dX11_parseHold_190 rfl rfl ?_
    replace hf := ckiE hf
    obtain ⟨h12, hf⟩ := hf
    refine x_iald hC hW tj11 rfl rfl h12 dX11_parseHold_191 ?_
    refine lv_iconst (v := 1) hx hb dX11_parseHold_192 (by decide) ?_
    refine lv_iadd hx hb dX11_parseHold_193 ?_
    replace hf := ckiE hf
    obtain ⟨h13, hf⟩ := hf
    refine x_iast hC hW hS tj11 rfl rfl h13 dX11_parseHold_194 (fun S14 H locs eS14 hW hS => ?_)
    replace hf := ltE hf S14 eS14
    have e1 := Option.some.inj hf
    subst e1
    exact W.vret hx hb hr (fun t ht hWm => ⟨⟨rfl, by unfold QB; rw [ht]; exact ⟨hW, trivial⟩⟩, hS.F ht⟩) hS.2.2 dX11_parseHold_195 hlk
  have L152 : ∀ (S0 : St) (v0 : Nat) (v1 : Int32) (tv0 : v0 < n ∧ K v0 = 10) (H : Heap) (locs : List Loc) (ls : Array Slot), f_X11_parseHold_L152 F S0 v0 v1 = some S9 → Wb g ad n K S0 (dA ad n s.heap.size) H → va_S (dA ad n s.heap.size) s.heap H locs → lv_has ls 2 [(0, .ref (ad v0)), (1, .int v1)] → W p l e (headSpec wsX11_parseHold { frames := 9, cells := 0, slots := 0, locals := 194 }).room s m (List.toArray [.ref (ad p0)]) below meth c H locs 0 0 (MQ below (QR none (QB g ad n K S9 (dA ad n s.heap.size) (True)) (dA ad n s.heap.size)) (List.toArray [.ref (ad p0)]) s 0 0 (dA ad n s.heap.size)) (F0 m 152 ls []) := by
    intro S0 v0 v1 tv0 H locs ls hf hW hS hl
    unfold f_X11_parseHold_L152 at hf
    refine lv_aload_n hx hb dX11_parseHold_152 rfl (lv_at hl 0 rfl) ?_
    replace hf := obE hf
    obtain ⟨j27, qj27, hf⟩ := hf
    have tj27 := x_rt hW qj27 12 ⟨by decide, rfl⟩
    refine x_getr 1004 (ci := 10) (C := RX11) (T := TX11) (N := 30) 4 hC hin11 hW tv0 rfl rfl ⟨by decide, by decide, rfl, rfl⟩ rfl w_0 dX11_parseHold_153 qj27 ?_
    refine lv_iload_n hx hb dX11_parseHold_156 rfl (lv_at hl 1 rfl) ?_
    refine lv_iconst (v := 4) hx hb dX11_parseHold_157 (by decide) ?_
    refine lv_iadd hx hb dX11_parseHold_158 ?_
    refine lv_iconst (v := 0) hx hb dX11_parseHold_159 (by decide) ?_
    replace hf := ckiE hf
    obtain ⟨h28, hf⟩ := hf
    refine x_iast hC hW hS tj27 rfl rfl h28 dX11_parseHold_160 (fun S29 H locs eS29 hW hS => ?_)
    replace hf := ltE hf S29 eS29
    refine lv_aload_n hx hb dX11_parseHold_161 rfl (lv_at hl 0 rfl) ?_
    refine x_ldcM 14 (tx := "word") hC hGM ⟨rfl, by decide⟩ dX11_parseHold_162 ?_
    replace hf := obE hf
    obtain ⟨z30, hz30, hf⟩ := hf
    obtain ⟨r32, S31⟩ := z30
    replace hf := ltE (ltE hf r32 rfl) S31 rfl
    refine x_callV (As := [.ref (gen g (100 + 14))]) (rest := []) (o := (some (.int r32))) (S1 := S31) hC hl.1 hW hS hGs hA tv0 rfl (show vwCl[10]? = some (RX11, TX11, 30) ∧ 10 < 11 from ⟨rfl, by decide⟩) (c_X11_isText l g ad n K H.size F S29 v0 14 tv0 (by decide) r32 S31 hz30) (cwV 1 hts gX11_parseHold_X11_isText rfl rfl rfl (by decide +kernel) ⟨Nat.le_of_ble_eq_true rfl, Nat.le_of_ble_eq_true rfl⟩) rfl rfl (Nat.le_of_ble_eq_true rfl) dX11_parseHold_164 ⟨Nat.le_of_ble_eq_true rfl, Nat.le_of_ble_eq_true rfl⟩ (fun H locs hPz30 hW hS => ?_)
    refine W.eq (g2 := F0 m 167 ls [.int r32]) rfl ?_
    refine lv_if_eq (tgt := 175) hx hb dX11_parseHold_167 (by decide) (fun c34 => ?_) (fun c34 => ?_)
    · replace hf := ifT c34 hf
      exact L175 S31 v0 v1 tv0 _ _ _ hf hW hS (lv_sub hl [0, 1] rfl)
    · replace hf := ifF c34 hf
      refine lv_aload_n hx hb dX11_parseHold_170 rfl (lv_at hl 0 rfl) ?_
      refine lv_iload_n hx hb dX11_parseHold_171 rfl (lv_at hl 1 rfl) ?_
      replace hf := obE hf
      obtain ⟨S36, hz35, hf⟩ := hf
      refine x_callV (As := [.int v1]) (rest := []) (o := none) (S1 := S36) hC hl.1 hW hS hGs hA tv0 rfl (show vwCl[10]? = some (RX11, TX11, 30) ∧ 10 < 11 from ⟨rfl, by decide⟩) (c_X11_parseWord l g ad n K H.size F S31 v0 v1 tv0 S36 hz35) (cwV 1 hts gX11_parseHold_X11_parseWord rfl rfl rfl (by decide +kernel) ⟨Nat.le_of_ble_eq_true rfl, Nat.le_of_ble_eq_true rfl⟩) rfl rfl (Nat.le_of_ble_eq_true rfl) dX11_parseHold_172 ⟨Nat.le_of_ble_eq_true rfl, Nat.le_of_ble_eq_true rfl⟩ (fun H locs hPz35 hW hS => ?_)
      refine W.eq (g2 := F0 m 175 ls []) rfl ?_
      exact L175 S36 v0 v1 tv0 _ _ _ hf hW hS (lv_sub hl [0, 1] rfl)
  have L27 : ∀ (S0 : St) (v0 : Nat) (s0 : Int32) (s1 : Nat) (tv0 : v0 < n ∧ K v0 = 10) (ts1 : s1 < n ∧ K s1 = 10) (H : Heap) (locs : List Loc) (ls : Array Slot), f_X11_parseHold_L27 F S0 v0 s0 s1 = some S9 → Wb g ad n K S0 (dA ad n s.heap.size) H → va_S (dA ad n s.heap.size) s.heap H locs → lv_has ls 2 [(0, .ref (ad v0))] → W p l e (headSpec wsX11_parseHold { frames := 9, cells := 0, slots := 0, locals := 194 }).room s m (List.toArray [.ref (ad p0)]) below meth c H locs 0 0 (MQ below (QR none (QB g ad n K S9 (dA ad n s.heap.size) (True)) (dA ad n s.heap.size)) (List.toArray [.ref (ad p0)]) s 0 0 (dA ad n s.heap.size)) (F0 m 27 ls [.int s0, .ref (ad s1)]) := by
    intro S0 v0 s0 s1 tv0 ts1 H locs ls hf hW hS hl
    unfold f_X11_parseHold_L27 at hf
    replace hf := obE hf
    obtain ⟨z93, hz93, hf⟩ := hf
    obtain ⟨r95, S94⟩ := z93
    replace hf := ltE (ltE hf r95 rfl) S94 rfl
    refine x_callV (As := [.int s0]) (rest := []) (o := (some (.int r95))) (S1 := S94) hC hl.1 hW hS hGs hA ts1 rfl (show vwCl[10]? = some (RX11, TX11, 30) ∧ 10 < 11 from ⟨rfl, by decide⟩) (c_X11_begins l g ad n K H.size F S0 s1 s0 ts1 r95 S94 hz93) (cwV 1 hts gX11_parseHold_X11_begins rfl rfl rfl (by decide +kernel) ⟨Nat.le_of_ble_eq_true rfl, Nat.le_of_ble_eq_true rfl⟩) rfl rfl (Nat.le_of_ble_eq_true rfl) dX11_parseHold_27 ⟨Nat.le_of_ble_eq_true rfl, Nat.le_of_ble_eq_true rfl⟩ (fun H locs hPz93 hW hS => ?_)
    refine W.eq (g2 := F0 m 30 ls [.int r95]) rfl ?_
    refine lv_if_ne (tgt := 34) hx hb dX11_parseHold_30 (by decide) (fun c97 => ?_) (fun c97 => ?_)
    · replace hf := ifT c97 hf
      refine lv_sipush (v := 205) hx hb dX11_parseHold_34 (by decide) ?_
      refine lv_bipush (v := 21) hx hb dX11_parseHold_37 (by decide) ?_
      refine lv_aload_n hx hb dX11_parseHold_39 rfl (lv_at hl 0 rfl) ?_
      replace hf := obE hf
      obtain ⟨j98, qj98, hf⟩ := hf
      have tj98 := x_rt hW qj98 12 ⟨by decide, rfl⟩
      refine x_getr 1004 (ci := 10) (C := RX11) (T := TX11) (N := 30) 4 hC hin11 hW tv0 rfl rfl ⟨by decide, by decide, rfl, rfl⟩ rfl w_0 dX11_parseHold_40 qj98 ?_
      refine lv_bipush (v := 6) hx hb dX11_parseHold_43 (by decide) ?_
      replace hf := ckiE hf
      obtain ⟨h99, hf⟩ := hf
      refine x_iald hC hW tj98 rfl rfl h99 dX11_parseHold_45 ?_
      refine lv_imul hx hb dX11_parseHold_46 ?_
      refine lv_iadd hx hb dX11_parseHold_47 ?_
      refine lv_topi (fun x100 ex100 => ?_)
      replace hf := ltE hf x100 ex100
      refine lv_istore_n (lv' := [(1, .int x100), (0, .ref (ad v0))]) hx hb dX11_parseHold_48 rfl hl (by decide) rfl (fun ls hl => ?_)
      refine lv_aload_n hx hb dX11_parseHold_49 rfl (lv_at hl 1 rfl) ?_
      refine lv_iconst (v := 3) hx hb dX11_parseHold_50 (by decide) ?_
      refine lv_iconst (v := 3) hx hb dX11_parseHold_51 (by decide) ?_
      refine lv_iload_n hx hb dX11_parseHold_52 rfl (lv_at hl 0 rfl) ?_
      refine lv_bipush (v := 15) hx hb dX11_parseHold_53 (by decide) ?_
      refine lv_iadd hx hb dX11_parseHold_55 ?_
      replace hf := obE hf
      obtain ⟨S102, hz101, hf⟩ := hf
      refine x_callV (As := [.int 3, .int 3, .int (x100 + 15)]) (rest := []) (o := none) (S1 := S102) hC hl.1 hW hS hGs hA tv0 rfl (show vwCl[10]? = some (RX11, TX11, 30) ∧ 10 < 11 from ⟨rfl, by decide⟩) (c_X11_newName l g ad n K H.size F S94 v0 ((3 : Int32)) ((3 : Int32)) (x100 + 15) tv0 S102 hz101) (cwV 3 hts gX11_parseHold_X11_newName rfl rfl rfl (by decide +kernel) ⟨Nat.le_of_ble_eq_true rfl, Nat.le_of_ble_eq_true rfl⟩) rfl rfl (Nat.le_of_ble_eq_true rfl) dX11_parseHold_56 ⟨Nat.le_of_ble_eq_true rfl, Nat.le_of_ble_eq_true rfl⟩ (fun H locs hPz101 hW hS => ?_)
      refine W.eq (g2 := F0 m 59 ls []) rfl ?_
      refine lv_aload_n hx hb dX11_parseHold_59 rfl (lv_at hl 1 rfl) ?_
      refine x_ldcM 8 (tx := "user") hC hGM ⟨rfl, by decide⟩ dX11_parseHold_60 ?_
      replace hf := obE hf
      obtain ⟨S106, hz105, hf⟩ := hf
      refine x_callV (As := [.ref (gen g (100 + 8))]) (rest := []) (o := none) (S1 := S106) hC hl.1 hW hS hGs hA tv0 rfl (show vwCl[10]? = some (RX11, TX11, 30) ∧ 10 < 11 from ⟨rfl, by decide⟩) (c_X11_word l g ad n K H.size F S102 v0 8 tv0 (by decide) S106 hz105) (cwV 1 hts gX11_parseHold_X11_word rfl rfl rfl (by decide +kernel) ⟨Nat.le_of_ble_eq_true rfl, Nat.le_of_ble_eq_true rfl⟩) rfl rfl (Nat.le_of_ble_eq_true rfl) dX11_parseHold_62 ⟨Nat.le_of_ble_eq_true rfl, Nat.le_of_ble_eq_true rfl⟩ (fun H locs hPz105 hW hS => ?_)
      refine W.eq (g2 := F0 m 65 ls []) rfl ?_
      refine lv_aload_n hx hb dX11_parseHold_65 rfl (lv_at hl 1 rfl) ?_
      replace hf := obE hf
      obtain ⟨j109, qj109, hf⟩ := hf
      have tj109 := x_rt hW qj109 12 ⟨by decide, rfl⟩
      refine x_getr 1004 (ci := 10) (C := RX11) (T := TX11) (N := 30) 4 hC hin11 hW tv0 rfl rfl ⟨by decide, by decide, rfl, rfl⟩ rfl w_0 dX11_parseHold_66 qj109 ?_
      refine lv_iload_n hx hb dX11_parseHold_69 rfl (lv_at hl 0 rfl) ?_
      refine lv_iconst (v := 0) hx hb dX11_parseHold_70 (by decide) ?_
      refine lv_iadd hx hb dX11_parseHold_71 ?_
      refine lv_aload_n hx hb dX11_parseHold_72 rfl (lv_at hl 1 rfl) ?_
      refine lv_iconst (v := 1) hx hb dX11_parseHold_73 (by decide) ?_
      replace hf := obE hf
      obtain ⟨z110, hz110, hf⟩ := hf
      obtain ⟨r112, S111⟩ := z110
      replace hf := ltE (ltE hf r112 rfl) S111 rfl
      refine x_callV (As := [.int 1]) (rest := [.int (x100 + 0), .ref (ad j109)]) (o := (some (.int r112))) (S1 := S111) hC hl.1 hW hS hGs hA tv0 rfl (show vwCl[10]? = some (RX11, TX11, 30) ∧ 10 < 11 from ⟨rfl, by decide⟩) (c_X11_oldName l g ad n K H.size F S106 v0 ((1 : Int32)) tv0 r112 S111 hz110) (cwV 1 hts gX11_parseHold_X11_oldName rfl rfl rfl (by decide +kernel) ⟨Nat.le_of_ble_eq_true rfl, Nat.le_of_ble_eq_true rfl⟩) rfl rfl (Nat.le_of_ble_eq_true rfl) dX11_parseHold_74 ⟨Nat.le_of_ble_eq_true rfl, Nat.le_of_ble_eq_true rfl⟩ (fun H locs hPz110 hW hS => ?_)
      refine W.eq (g2 := F0 m 77 ls [.int r112, .int (x100 + 0), .ref (ad j109)]) rfl ?_
      replace hf := ckiE hf
      obtain ⟨h114, hf⟩ := hf
      refine x_iast hC hW hS tj109 rfl rfl h114 dX11_parseHold_77 (fun S115 H locs eS115 hW hS => ?_)
      replace hf := ltE hf S115 eS115
      refine lv_aload_n hx hb dX11_parseHold_78 rfl (lv_at hl 1 rfl) ?_
      replace hf := obE hf
      obtain ⟨j116, qj116, hf⟩ := hf
      have tj116 := x_rt hW qj116 12 ⟨by decide, rfl⟩
      refine x_getr 1004 (ci := 10) (C := RX11) (T := TX11) (N := 30) 4 hC hin11 hW tv0 rfl rfl ⟨by decide, by decide, rfl, rfl⟩ rfl w_0 dX11_parseHold_79 qj116 ?_
      refine lv_iload_n hx hb dX11_parseHold_82 rfl (lv_at hl 0 rfl) ?_
      refine lv_iconst (v := 1) hx hb dX11_parseHold_83 (by decide) ?_
      refine lv_iadd hx hb dX11_parseHold_84 ?_
      refine lv_iconst (v := 0) hx hb dX11_parseHold_85 (by decide) ?_
      replace hf := ckiE hf
      obtain ⟨h117, hf⟩ := hf
      refine x_iast hC hW hS tj116 rfl rfl h117 dX11_parseHold_86 (fun S118 H locs eS118 hW hS => ?_)
      replace hf := ltE hf S118 eS118
      refine lv_aload_n hx hb dX11_parseHold_87 rfl (lv_at hl 1 rfl) ?_
      replace hf := obE hf
      obtain ⟨j119, qj119, hf⟩ := hf
      have tj119 := x_rt hW qj119 12 ⟨by decide, rfl⟩
      refine x_getr 1004 (ci := 10) (C := RX11) (T := TX11) (N := 30) 4 hC hin11 hW tv0 rfl rfl ⟨by decide, by decide, rfl, rfl⟩ rfl w_0 dX11_parseHold_88 qj119 ?_
      refine lv_iload_n hx hb dX11_parseHold_91 rfl (lv_at hl 0 rfl) ?_
      refine lv_iconst (v := 2) hx hb dX11_parseHold_92 (by decide) ?_
      refine lv_iadd hx hb dX11_parseHold_93 ?_
      refine lv_sipush (v := 20000) hx hb dX11_parseHold_94 (by decide) ?_
      replace hf := ckiE hf
      obtain ⟨h120, hf⟩ := hf
      refine x_iast hC hW hS tj119 rfl rfl h120 dX11_parseHold_97 (fun S121 H locs eS121 hW hS => ?_)
      replace hf := ltE hf S121 eS121
      refine lv_aload_n hx hb dX11_parseHold_98 rfl (lv_at hl 1 rfl) ?_
      refine x_ldcM 12 (tx := "from") hC hGM ⟨rfl, by decide⟩ dX11_parseHold_99 ?_
      replace hf := obE hf
      obtain ⟨z122, hz122, hf⟩ := hf
      obtain ⟨r124, S123⟩ := z122
      replace hf := ltE (ltE hf r124 rfl) S123 rfl
      refine x_callV (As := [.ref (gen g (100 + 12))]) (rest := []) (o := (some (.int r124))) (S1 := S123) hC hl.1 hW hS hGs hA tv0 rfl (show vwCl[10]? = some (RX11, TX11, 30) ∧ 10 < 11 from ⟨rfl, by decide⟩) (c_X11_isText l g ad n K H.size F S121 v0 12 tv0 (by decide) r124 S123 hz122) (cwV 1 hts gX11_parseHold_X11_isText rfl rfl rfl (by decide +kernel) ⟨Nat.le_of_ble_eq_true rfl, Nat.le_of_ble_eq_true rfl⟩) rfl rfl (Nat.le_of_ble_eq_true rfl) dX11_parseHold_101 ⟨Nat.le_of_ble_eq_true rfl, Nat.le_of_ble_eq_true rfl⟩ (fun H locs hPz122 hW hS => ?_)
      refine W.eq (g2 := F0 m 104 ls [.int r124]) rfl ?_
      refine lv_if_eq (tgt := 152) hx hb dX11_parseHold_104 (by decide) (fun c126 => ?_) (fun c126 => ?_)
      · replace hf := ifT c126 hf
        exact L152 S123 v0 x100 tv0 _ _ _ hf hW hS (lv_sub hl [1, 0] rfl)
      · replace hf := ifF c126 hf
        refine lv_aload_n hx hb dX11_parseHold_107 rfl (lv_at hl 1 rfl) ?_
        replace hf := obE hf
        obtain ⟨S128, hz127, hf⟩ := hf
        refine x_callV (As := []) (rest := []) (o := none) (S1 := S128) hC hl.1 hW hS hGs hA tv0 rfl (show vwCl[10]? = some (RX11, TX11, 30) ∧ 10 < 11 from ⟨rfl, by decide⟩) (c_X11_goOn l g ad n K H.size F S123 v0 tv0 S128 hz127) (cwV 0 hts gX11_parseHold_X11_goOn rfl rfl rfl (by decide +kernel) ⟨Nat.le_of_ble_eq_true rfl, Nat.le_of_ble_eq_true rfl⟩) rfl rfl (Nat.le_of_ble_eq_true rfl) dX11_parseHold_108 ⟨Nat.le_of_ble_eq_true rfl, Nat.le_of_ble_eq_true rfl⟩ (fun H locs hPz127 hW hS => ?_)
        refine W.eq (g2 := F0 m 111 ls []) rfl ?_
        refine lv_aload_n hx hb dX11_parseHold_111 rfl (lv_at hl 1 rfl) ?_
        replace hf := obE hf
        obtain ⟨j131, qj131, hf⟩ := hf
        have tj131 := x_rt hW qj131 12 ⟨by decide, rfl⟩
        refine x_getr 1004 (ci := 10) (C := RX11) (T := TX11) (N := 30) 4 hC hin11 hW tv0 rfl rfl ⟨by decide, by decide, rfl, rfl⟩ rfl w_0 dX11_parseHold_112 qj131 ?_
        refine lv_iload_n hx hb dX11_parseHold_115 rfl (lv_at hl 0 rfl) ?_
        refine lv_iconst (v := 1) hx hb dX11_parseHold_116 (by decide) ?_
        refine lv_iadd hx hb dX11_parseHold_117 ?_
        refine lv_aload_n hx hb dX11_parseHold_118 rfl (lv_at hl 1 rfl) ?_
        refine lv_iconst (v := 0) hx hb dX11_parseHold_119 (by decide) ?_
        refine lv_sipush (v := 9999) hx hb dX11_parseHold_120 (by decide) ?_
        replace hf := obE hf
        obtain ⟨z132, hz132, hf⟩ := hf
        obtain ⟨r134, S133⟩ := z132
        replace hf := ltE (ltE hf r134 rfl) S133 rfl
        refine x_callV (As := [.int 0, .int 9999]) (rest := [.int (x100 + 1), .ref (ad j131)]) (o := (some (.int r134))) (S1 := S133) hC hl.1 hW hS hGs hA tv0 rfl (show vwCl[10]? = some (RX11, TX11, 30) ∧ 10 < 11 from ⟨rfl, by decide⟩) (c_X11_number l g ad n K H.size F S128 v0 ((0 : Int32)) ((9999 : Int32)) tv0 r134 S133 hz132) (cwV 2 hts gX11_parseHold_X11_number rfl rfl rfl (by decide +kernel) ⟨Nat.le_of_ble_eq_true rfl, Nat.le_of_ble_eq_true rfl⟩) rfl rfl (Nat.le_of_ble_eq_true rfl) dX11_parseHold_123 ⟨Nat.le_of_ble_eq_true rfl, Nat.le_of_ble_eq_true rfl⟩ (fun H locs hPz132 hW hS => ?_)
        refine W.eq (g2 := F0 m 126 ls [.int r134, .int (x100 + 1), .ref (ad j131)]) rfl ?_
        replace hf := ckiE hf
        obtain ⟨h136, hf⟩ := hf
        refine x_iast hC hW hS tj131 rfl rfl h136 dX11_parseHold_126 (fun S137 H locs eS137 hW hS => ?_)
        replace hf := ltE hf S137 eS137
        refine lv_aload_n hx hb dX11_parseHold_127 rfl (lv_at hl 1 rfl) ?_
        replace hf := obE hf
        obtain ⟨j138, qj138, hf⟩ := hf
        have tj138 := x_rt hW qj138 12 ⟨by decide, rfl⟩
        refine x_getr 1004 (ci := 10) (C := RX11) (T := TX11) (N := 30) 4 hC hin11 hW tv0 rfl rfl ⟨by decide, by decide, rfl, rfl⟩ rfl w_0 dX11_parseHold_128 qj138 ?_
        refine lv_iload_n hx hb dX11_parseHold_131 rfl (lv_at hl 0 rfl) ?_
        refine lv_iconst (v := 2) hx hb dX11_parseHold_132 (by decide) ?_
        refine lv_iadd hx hb dX11_parseHold_133 ?_
        refine lv_aload_n hx hb dX11_parseHold_134 rfl (lv_at hl 1 rfl) ?_
        refine x_ldcM 13 (tx := "to") hC hGM ⟨rfl, by decide⟩ dX11_parseHold_135 ?_
        refine lv_aload_n hx hb dX11_parseHold_137 rfl (lv_at hl 1 rfl) ?_
        replace hf := obE hf
        obtain ⟨j139, qj139, hf⟩ := hf
        have tj139 := x_rt hW qj139 12 ⟨by decide, rfl⟩
        refine x_getr 1004 (ci := 10) (C := RX11) (T := TX11) (N := 30) 4 hC hin11 hW tv0 rfl rfl ⟨by decide, by decide, rfl, rfl⟩ rfl w_0 dX11_parseHold_138 qj139 ?_
        refine lv_iload_n hx hb dX11_parseHold_141 rfl (lv_at hl 0 rfl) ?_
        refine lv_iconst (v := 1) hx hb dX11_parseHold_142 (by decide) ?_
        refine lv_iadd hx hb dX11_parseHold_143 ?_
        replace hf := ckiE hf
        obtain ⟨h140, hf⟩ := hf
        refine x_iald hC hW tj139 rfl rfl h140 dX11_parseHold_144 ?_
        refine lv_sipush (v := 9999) hx hb dX11_parseHold_145 (by decide) ?_
        replace hf := obE hf
        obtain ⟨z141, hz141, hf⟩ := hf
        obtain ⟨r143, S142⟩ := z141
        replace hf := ltE (ltE hf r143 rfl) S142 rfl
        refine x_callV (As := [.ref (gen g (100 + 13)), .int (ai S137 j139 (Int32.toNatClampNeg (x100 + 1))), .int 9999]) (rest := [.int (x100 + 2), .ref (ad j138)]) (o := (some (.int r143))) (S1 := S142) hC hl.1 hW hS hGs hA tv0 rfl (show vwCl[10]? = some (RX11, TX11, 30) ∧ 10 < 11 from ⟨rfl, by decide⟩) (c_X11_numberAfter l g ad n K H.size F S137 v0 13 (ai S137 j139 (Int32.toNatClampNeg (x100 + 1))) ((9999 : Int32)) tv0 (by decide) r143 S142 hz141) (cwV 3 hts gX11_parseHold_X11_numberAfter rfl rfl rfl (by decide +kernel) ⟨Nat.le_of_ble_eq_true rfl, Nat.le_of_ble_eq_true rfl⟩) rfl rfl (Nat.le_of_ble_eq_true rfl) dX11_parseHold_148 ⟨Nat.le_of_ble_eq_true rfl, Nat.le_of_ble_eq_true rfl⟩ (fun H locs hPz141 hW hS => ?_)
        refine W.eq (g2 := F0 m 151 ls [.int r143, .int (x100 + 2), .ref (ad j138)]) rfl ?_
        replace hf := ckiE hf
        obtain ⟨h145, hf⟩ := hf
        refine x_iast hC hW hS tj138 rfl rfl h145 dX11_parseHold_151 (fun S146 H locs eS146 hW hS => ?_)
        replace hf := ltE hf S146 eS146
        exact L152 S146 v0 x100 tv0 _ _ _ hf hW hS (lv_sub hl [1, 0] rfl)
    · replace hf := ifF (fun q => q c97) hf
      have e1 := Option.some.inj hf
      subst e1
      exact W.vret hx hb hr (fun t ht hWm => ⟨⟨rfl, by unfold QB; rw [ht]; exact ⟨hW, trivial⟩⟩, hS.F ht⟩) hS.2.2 dX11_parseHold_33 hlk
  have L26 : ∀ (S0 : St) (v0 : Nat) (s0 : Nat) (tv0 : v0 < n ∧ K v0 = 10) (ts0 : s0 < n ∧ K s0 = 10) (H : Heap) (locs : List Loc) (ls : Array Slot), f_X11_parseHold_L26 F S0 v0 s0 = some S9 → Wb g ad n K S0 (dA ad n s.heap.size) H → va_S (dA ad n s.heap.size) s.heap H locs → lv_has ls 2 [(0, .ref (ad v0))] → W p l e (headSpec wsX11_parseHold { frames := 9, cells := 0, slots := 0, locals := 194 }).room s m (List.toArray [.ref (ad p0)]) below meth c H locs 0 0 (MQ below (QR none (QB g ad n K S9 (dA ad n s.heap.size) (True)) (dA ad n s.heap.size)) (List.toArray [.ref (ad p0)]) s 0 0 (dA ad n s.heap.size)) (F0 m 26 ls [.ref (ad s0)]) := by
    intro S0 v0 s0 tv0 ts0 H locs ls hf hW hS hl
    unfold f_X11_parseHold_L26 at hf
    refine lv_iconst (v := 0) hx hb dX11_parseHold_26 (by decide) ?_
    exact L27 S0 v0 0 s0 tv0 ts0 _ _ _ hf hW hS (lv_sub hl [0] rfl)
  unfold f_X11_parseHold at hf
  refine lv_aload_n hx hb dX11_parseHold_0 rfl (lv_at hl 0 rfl) ?_
  refine lv_aload_n hx hb dX11_parseHold_1 rfl (lv_at hl 0 rfl) ?_
  replace hf := obE hf
  obtain ⟨j147, qj147, hf⟩ := hf
  have tj147 := x_rt hW qj147 12 ⟨by decide, rfl⟩
  refine x_getr 1004 (ci := 10) (C := RX11) (T := TX11) (N := 30) 4 hC hin11 hW tp0 rfl rfl ⟨by decide, by decide, rfl, rfl⟩ rfl w_0 dX11_parseHold_2 qj147 ?_
  refine lv_bipush (v := 6) hx hb dX11_parseHold_5 (by decide) ?_
  replace hf := ckiE hf
  obtain ⟨h148, hf⟩ := hf
  refine x_iald hC hW tj147 rfl rfl h148 dX11_parseHold_7 ?_
  refine lv_bipush (v := 6) hx hb dX11_parseHold_8 (by decide) ?_
  refine lv_icmp_ge (tgt := 26) hx hb dX11_parseHold_10 (by decide) (fun c149 => ?_) (fun c149 => ?_)
  · replace hf := ifT c149 hf
    exact L26 S0 p0 p0 tp0 tp0 _ _ _ hf hW hS (lv_sub hl [0] rfl)
  · replace hf := ifF c149 hf
    refine lv_aload_n hx hb dX11_parseHold_13 rfl (lv_at hl 0 rfl) ?_
    replace hf := obE hf
    obtain ⟨j150, qj150, hf⟩ := hf
    have tj150 := x_rt hW qj150 12 ⟨by decide, rfl⟩
    refine x_getr 1004 (ci := 10) (C := RX11) (T := TX11) (N := 30) 4 hC hin11 hW tp0 rfl rfl ⟨by decide, by decide, rfl, rfl⟩ rfl w_0 dX11_parseHold_14 qj150 ?_
    refine lv_iconst (v := 4) hx hb dX11_parseHold_17 (by decide) ?_
    replace hf := ckiE hf
    obtain ⟨h151, hf⟩ := hf
    refine x_iald hC hW tj150 rfl rfl h151 dX11_parseHold_18 ?_
    refine lv_if_le (tgt := 26) hx hb dX11_parseHold_19 (by decide) (fun c152 => ?_) (fun c152 => ?_)
    · replace hf := ifT c152 hf
      exact L26 S0 p0 p0 tp0 tp0 _ _ _ hf hW hS (lv_sub hl [0] rfl)
    · replace hf := ifF c152 hf
      refine lv_iconst (v := 1) hx hb dX11_parseHold_22 (by decide) ?_
      refine lv_goto (tgt := 27) hx hb dX11_parseHold_23 (by decide) ?_
      exact L27 S0 p0 1 p0 tp0 tp0 _ _ _ hf hW hS (lv_sub hl [0] rfl)
