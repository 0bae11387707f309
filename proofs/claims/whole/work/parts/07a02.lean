set_option maxHeartbeats 4000000 in
set_option maxRecDepth 100000 in
theorem c_X11_parseStatement (l : Launch) (g : GP) (ad : Nat → Nat) (n : Nat) (K : Nat → Nat) (sz F : Nat) (S0 : St) (p0 : Nat) (tp0 : p0 < n ∧ K p0 = 10) (S9 : St) (hf : f_X11_parseStatement F S0 p0 = some S9) : Met l yX11_parseStatement wsX11_parseStatement { frames := 10, cells := 0, slots := 0, locals := 216 } (va_Pc [.ref (ad p0)] (PB g ad n K S0 sz)) (QR none (QB g ad n K S9 (dA ad n sz) (True)) (dA ad n sz)) 0 0 (dA ad n sz) := by
  refine Met.ofW (cc := cX11_parseStatement) (maxL := 1) (ret := none) (by decide) rfl ?_
  intro p e s m args below meth c s₁ B hml hv
  obtain ⟨rfl, hsz, hW, hK, hGs⟩ := x_start hv
  subst hsz
  have hx := B.exec
  have hb := B.bytes
  have hr := B.returns
  have hts := atoms_spec (ws := wsX11_parseStatement) B.pre
  have hown : s.vm.findClass RX11 = some m.cls := findClass_of_methodNamed B.named
  have hlk := B.notSynchronized
  have hC : Cx g p s m _ c cX11_parseStatement RX11 wsX11_parseStatement 1 := ⟨hx, hb, hml, hown, hts, hK⟩
  have hA : ∀ q : Nat, s.heap.size ≤ q → dA ad n s.heap.size q := fun q h => Or.inr h
  have hS : va_S (dA ad n s.heap.size) s.heap s.heap [] := va_S.rf
  have hl := lv_entry ([.ref (ad p0)]) (n := 1) (Nat.le_of_ble_eq_true rfl)
  rw [lg_entry_eq]
  generalize (lg_sl ([.ref (ad p0)]) ++ List.replicate (1 - (lg_sl ([.ref (ad p0)])).length) Slot.unset).toArray = ls at hl ⊢
  have hl : lv_has ls 1 [(0, .ref (ad p0))] := hl
  have hGE := hGs.2.2.2.2.2.2.1
  have hGM := hGs.2.2.2.2.2.2.2.1
  have L83 : ∀ (S0 : St) (v0 : Nat) (tv0 : v0 < n ∧ K v0 = 10) (H : Heap) (locs : List Loc) (ls : Array Slot), f_X11_parseStatement_L83 F S0 v0 = some S9 → Wb g ad n K S0 (dA ad n s.heap.size) H → va_S (dA ad n s.heap.size) s.heap H locs → lv_has ls 1 [(0, .ref (ad v0))] → W p l e (headSpec wsX11_parseStatement { frames := 10, cells := 0, slots := 0, locals := 216 }).room s m (List.toArray [.ref (ad p0)]) below meth c H locs 0 0 (MQ below (QR none (QB g ad n K S9 (dA ad n s.heap.size) (True)) (dA ad n s.heap.size)) (List.toArray [.ref (ad p0)]) s 0 0 (dA ad n s.heap.size)) (F0 m 83 ls []) := by
    intro S0 v0 tv0 H locs ls hf hW hS hl
    unfold f_X11_parseStatement_L83 at hf
    refine lv_aload_n hx hb dX11_parseStatement_83 rfl (lv_at hl 0 rfl) ?_
    replace hf := obE hf
    obtain ⟨S6, hz5, hf⟩ := hf
    refine x_callV (As := []) (rest := []) (o := none) (S1 := S6) hC hl.1 hW hS hGs hA tv0 rfl (show vwCl[10]? = some (RX11, TX11, 30) ∧ 10 < 11 from ⟨rfl, by decide⟩) (c_X11_goOn l g ad n K H.size F S0 v0 tv0 S6 hz5) (cwV 0 hts gX11_parseStatement_X11_goOn rfl rfl rfl (by decide +kernel) ⟨Nat.le_of_ble_eq_true rfl, Nat.le_of_ble_eq_true rfl⟩) rfl rfl (Nat.le_of_ble_eq_true rfl) dX11_parseStatement_84 ⟨Nat.le_of_ble_eq_true rfl, Nat.le_of_ble_eq_true rfl⟩ (fun H locs hPz5 hW hS => ?_)
    refine W.eq (g2 := F0 m 87 ls []) rfl ?_
    have e1 := Option.some.inj hf
    subst e1
    exact W.vret hx hb hr (fun t ht hWm => ⟨⟨rfl, by unfold QB; rw [ht]; exact ⟨hW, trivial⟩⟩, hS.F ht⟩) hS.2.2 dX11_parseStatement_87 hlk
  have L69 : ∀ (S0 : St) (v0 : Nat) (tv0 : v0 < n ∧ K v0 = 10) (H : Heap) (locs : List Loc) (ls : Array Slot), f_X11_parseStatement_L69 F S0 v0 = some S9 → Wb g ad n K S0 (dA ad n s.heap.size) H → va_S (dA ad n s.heap.size) s.heap H locs → lv_has ls 1 [(0, .ref (ad v0))] → W p l e (headSpec wsX11_parseStatement { frames := 10, cells := 0, slots := 0, locals := 216 }).room s m (List.toArray [.ref (ad p0)]) below meth c H locs 0 0 (MQ below (QR none (QB g ad n K S9 (dA ad n s.heap.size) (True)) (dA ad n s.heap.size)) (List.toArray [.ref (ad p0)]) s 0 0 (dA ad n s.heap.size)) (F0 m 69 ls []) := by
    intro S0 v0 tv0 H locs ls hf hW hS hl
    unfold f_X11_parseStatement_L69 at hf
    refine lv_aload_n hx hb dX11_parseStatement_69 rfl (lv_at hl 0 rfl) ?_
    refine lv_bipush (v := 59) hx hb dX11_parseStatement_70 (by decide) ?_
    replace hf := obE hf
    obtain ⟨z18, hz18, hf⟩ := hf
    obtain ⟨r20, S19⟩ := z18
    replace hf := ltE (ltE hf r20 rfl) S19 rfl
    refine x_callV (As := [.int 59]) (rest := []) (o := (some (.int r20))) (S1 := S19) hC hl.1 hW hS hGs hA tv0 rfl (show vwCl[10]? = some (RX11, TX11, 30) ∧ 10 < 11 from ⟨rfl, by decide⟩) (c_X11_isSymbol l g ad n K H.size F S0 v0 ((59 : Int32)) tv0 r20 S19 hz18) (cwV 1 hts gX11_parseStatement_X11_isSymbol rfl rfl rfl (by decide +kernel) ⟨Nat.le_of_ble_eq_true rfl, Nat.le_of_ble_eq_true rfl⟩) rfl rfl (Nat.le_of_ble_eq_true rfl) dX11_parseStatement_72 ⟨Nat.le_of_ble_eq_true rfl, Nat.le_of_ble_eq_true rfl⟩ (fun H locs hPz18 hW hS => ?_)
    refine W.eq (g2 := F0 m 75 ls [.int r20]) rfl ?_
    refine lv_if_ne (tgt := 83) hx hb dX11_parseStatement_75 (by decide) (fun c22 => ?_) (fun c22 => ?_)
    · replace hf := ifT c22 hf
      exact L83 S19 v0 tv0 _ _ _ hf hW hS (lv_sub hl [0] rfl)
    · replace hf := ifF (fun q => q c22) hf
      refine lv_aload_n hx hb dX11_parseStatement_78 rfl (lv_at hl 0 rfl) ?_
      refine lv_iconst (v := 1) hx hb dX11_parseStatement_79 (by decide) ?_
      replace hf := obE hf
      obtain ⟨S24, hz23, hf⟩ := hf
      refine x_callV (As := [.int 1]) (rest := []) (o := none) (S1 := S24) hC hl.1 hW hS hGs hA tv0 rfl (show vwCl[10]? = some (RX11, TX11, 30) ∧ 10 < 11 from ⟨rfl, by decide⟩) (c_X11_errs l g ad n K H.size F S19 v0 ((1 : Int32)) tv0 S24 hz23) (cwV 1 hts gX11_parseStatement_X11_errs rfl rfl rfl (by decide +kernel) ⟨Nat.le_of_ble_eq_true rfl, Nat.le_of_ble_eq_true rfl⟩) rfl rfl (Nat.le_of_ble_eq_true rfl) dX11_parseStatement_80 ⟨Nat.le_of_ble_eq_true rfl, Nat.le_of_ble_eq_true rfl⟩ (fun H locs hPz23 hW hS => ?_)
      refine W.eq (g2 := F0 m 83 ls []) rfl ?_
      exact L83 S24 v0 tv0 _ _ _ hf hW hS (lv_sub hl [0] rfl)
  unfold f_X11_parseStatement at hf
  refine lv_aload_n hx hb dX11_parseStatement_0 rfl (lv_at hl 0 rfl) ?_
  refine x_ldcM 3 (tx := "class") hC hGM ⟨rfl, by decide⟩ dX11_parseStatement_1 ?_
  replace hf := obE hf
  obtain ⟨z27, hz27, hf⟩ := hf
  obtain ⟨r29, S28⟩ := z27
  replace hf := ltE (ltE hf r29 rfl) S28 rfl
  refine x_callV (As := [.ref (gen g (100 + 3))]) (rest := []) (o := (some (.int r29))) (S1 := S28) hC hl.1 hW hS hGs hA tp0 rfl (show vwCl[10]? = some (RX11, TX11, 30) ∧ 10 < 11 from ⟨rfl, by decide⟩) (c_X11_isText l g ad n K s.heap.size F S0 p0 3 tp0 (by decide) r29 S28 hz27) (cwV 1 hts gX11_parseStatement_X11_isText rfl rfl rfl (by decide +kernel) ⟨Nat.le_of_ble_eq_true rfl, Nat.le_of_ble_eq_true rfl⟩) rfl rfl (Nat.le_of_ble_eq_true rfl) dX11_parseStatement_3 ⟨Nat.le_of_ble_eq_true rfl, Nat.le_of_ble_eq_true rfl⟩ (fun H locs hPz27 hW hS => ?_)
  refine W.eq (g2 := F0 m 6 ls [.int r29]) rfl ?_
  refine lv_if_eq (tgt := 16) hx hb dX11_parseStatement_6 (by decide) (fun c31 => ?_) (fun c31 => ?_)
  · replace hf := ifT c31 hf
    refine lv_aload_n hx hb dX11_parseStatement_16 rfl (lv_at hl 0 rfl) ?_
    refine x_ldcM 8 (tx := "user") hC hGM ⟨rfl, by decide⟩ dX11_parseStatement_17 ?_
    replace hf := obE hf
    obtain ⟨z32, hz32, hf⟩ := hf
    obtain ⟨r34, S33⟩ := z32
    replace hf := ltE (ltE hf r34 rfl) S33 rfl
    refine x_callV (As := [.ref (gen g (100 + 8))]) (rest := []) (o := (some (.int r34))) (S1 := S33) hC hl.1 hW hS hGs hA tp0 rfl (show vwCl[10]? = some (RX11, TX11, 30) ∧ 10 < 11 from ⟨rfl, by decide⟩) (c_X11_isText l g ad n K H.size F S28 p0 8 tp0 (by decide) r34 S33 hz32) (cwV 1 hts gX11_parseStatement_X11_isText rfl rfl rfl (by decide +kernel) ⟨Nat.le_of_ble_eq_true rfl, Nat.le_of_ble_eq_true rfl⟩) rfl rfl (Nat.le_of_ble_eq_true rfl) dX11_parseStatement_19 ⟨Nat.le_of_ble_eq_true rfl, Nat.le_of_ble_eq_true rfl⟩ (fun H locs hPz32 hW hS => ?_)
    refine W.eq (g2 := F0 m 22 ls [.int r34]) rfl ?_
    refine lv_if_eq (tgt := 32) hx hb dX11_parseStatement_22 (by decide) (fun c36 => ?_) (fun c36 => ?_)
    · replace hf := ifT c36 hf
      refine lv_aload_n hx hb dX11_parseStatement_32 rfl (lv_at hl 0 rfl) ?_
      refine x_ldcM 10 (tx := "group") hC hGM ⟨rfl, by decide⟩ dX11_parseStatement_33 ?_
      replace hf := obE hf
      obtain ⟨z37, hz37, hf⟩ := hf
      obtain ⟨r39, S38⟩ := z37
      replace hf := ltE (ltE hf r39 rfl) S38 rfl
      refine x_callV (As := [.ref (gen g (100 + 10))]) (rest := []) (o := (some (.int r39))) (S1 := S38) hC hl.1 hW hS hGs hA tp0 rfl (show vwCl[10]? = some (RX11, TX11, 30) ∧ 10 < 11 from ⟨rfl, by decide⟩) (c_X11_isText l g ad n K H.size F S33 p0 10 tp0 (by decide) r39 S38 hz37) (cwV 1 hts gX11_parseStatement_X11_isText rfl rfl rfl (by decide +kernel) ⟨Nat.le_of_ble_eq_true rfl, Nat.le_of_ble_eq_true rfl⟩) rfl rfl (Nat.le_of_ble_eq_true rfl) dX11_parseStatement_35 ⟨Nat.le_of_ble_eq_true rfl, Nat.le_of_ble_eq_true rfl⟩ (fun H locs hPz37 hW hS => ?_)
      refine W.eq (g2 := F0 m 38 ls [.int r39]) rfl ?_
      refine lv_if_eq (tgt := 48) hx hb dX11_parseStatement_38 (by decide) (fun c41 => ?_) (fun c41 => ?_)
      · replace hf := ifT c41 hf
        refine lv_aload_n hx hb dX11_parseStatement_48 rfl (lv_at hl 0 rfl) ?_
        refine x_ldcM 11 (tx := "hold") hC hGM ⟨rfl, by decide⟩ dX11_parseStatement_49 ?_
        replace hf := obE hf
        obtain ⟨z42, hz42, hf⟩ := hf
        obtain ⟨r44, S43⟩ := z42
        replace hf := ltE (ltE hf r44 rfl) S43 rfl
        refine x_callV (As := [.ref (gen g (100 + 11))]) (rest := []) (o := (some (.int r44))) (S1 := S43) hC hl.1 hW hS hGs hA tp0 rfl (show vwCl[10]? = some (RX11, TX11, 30) ∧ 10 < 11 from ⟨rfl, by decide⟩) (c_X11_isText l g ad n K H.size F S38 p0 11 tp0 (by decide) r44 S43 hz42) (cwV 1 hts gX11_parseStatement_X11_isText rfl rfl rfl (by decide +kernel) ⟨Nat.le_of_ble_eq_true rfl, Nat.le_of_ble_eq_true rfl⟩) rfl rfl (Nat.le_of_ble_eq_true rfl) dX11_parseStatement_51 ⟨Nat.le_of_ble_eq_true rfl, Nat.le_of_ble_eq_true rfl⟩ (fun H locs hPz42 hW hS => ?_)
        refine W.eq (g2 := F0 m 54 ls [.int r44]) rfl ?_
        refine lv_if_eq (tgt := 64) hx hb dX11_parseStatement_54 (by decide) (fun c46 => ?_) (fun c46 => ?_)
        · replace hf := ifT c46 hf
          refine lv_aload_n hx hb dX11_parseStatement_64 rfl (lv_at hl 0 rfl) ?_
          refine lv_iconst (v := 1) hx hb dX11_parseStatement_65 (by decide) ?_
          replace hf := obE hf
          obtain ⟨S48, hz47, hf⟩ := hf
          refine x_callV (As := [.int 1]) (rest := []) (o := none) (S1 := S48) hC hl.1 hW hS hGs hA tp0 rfl (show vwCl[10]? = some (RX11, TX11, 30) ∧ 10 < 11 from ⟨rfl, by decide⟩) (c_X11_errs l g ad n K H.size F S43 p0 ((1 : Int32)) tp0 S48 hz47) (cwV 1 hts gX11_parseStatement_X11_errs rfl rfl rfl (by decide +kernel) ⟨Nat.le_of_ble_eq_true rfl, Nat.le_of_ble_eq_true rfl⟩) rfl rfl (Nat.le_of_ble_eq_true rfl) dX11_parseStatement_66 ⟨Nat.le_of_ble_eq_true rfl, Nat.le_of_ble_eq_true rfl⟩ (fun H locs hPz47 hW hS => ?_)
          refine W.eq (g2 := F0 m 69 ls []) rfl ?_
          exact L69 S48 p0 tp0 _ _ _ hf hW hS (lv_sub hl [0] rfl)
        · replace hf := ifF c46 hf
          refine lv_aload_n hx hb dX11_parseStatement_57 rfl (lv_at hl 0 rfl) ?_
          replace hf := obE hf
          obtain ⟨S52, hz51, hf⟩ := hf
          refine x_callV (As := []) (rest := []) (o := none) (S1 := S52) hC hl.1 hW hS hGs hA tp0 rfl (show vwCl[10]? = some (RX11, TX11, 30) ∧ 10 < 11 from ⟨rfl, by decide⟩) (c_X11_parseHold l g ad n K H.size F S43 p0 tp0 S52 hz51) (cwV 0 hts gX11_parseStatement_X11_parseHold rfl rfl rfl (by decide +kernel) ⟨Nat.le_of_ble_eq_true rfl, Nat.le_of_ble_eq_true rfl⟩) rfl rfl (Nat.le_of_ble_eq_true rfl) dX11_parseStatement_58 ⟨Nat.le_of_ble_eq_true rfl, Nat.le_of_ble_eq_true rfl⟩ (fun H locs hPz51 hW hS => ?_)
          refine W.eq (g2 := F0 m 61 ls []) rfl ?_
          refine lv_goto (tgt := 69) hx hb dX11_parseStatement_61 (by decide) ?_
          exact L69 S52 p0 tp0 _ _ _ hf hW hS (lv_sub hl [0] rfl)
      · replace hf := ifF c41 hf
        refine lv_aload_n hx hb dX11_parseStatement_41 rfl (lv_at hl 0 rfl) ?_
        replace hf := obE hf
        obtain ⟨S56, hz55, hf⟩ := hf
        refine x_callV (As := []) (rest := []) (o := none) (S1 := S56) hC hl.1 hW hS hGs hA tp0 rfl (show vwCl[10]? = some (RX11, TX11, 30) ∧ 10 < 11 from ⟨rfl, by decide⟩) (c_X11_parseGroup l g ad n K H.size F S38 p0 tp0 S56 hz55) (cwV 0 hts gX11_parseStatement_X11_parseGroup rfl rfl rfl (by decide +kernel) ⟨Nat.le_of_ble_eq_true rfl, Nat.le_of_ble_eq_true rfl⟩) rfl rfl (Nat.le_of_ble_eq_true rfl) dX11_parseStatement_42 ⟨Nat.le_of_ble_eq_true rfl, Nat.le_of_ble_eq_true rfl⟩ (fun H locs hPz55 hW hS => ?_)
        refine W.eq (g2 := F0 m 45 ls []) rfl ?_
        refine lv_goto (tgt := 69) hx hb dX11_parseStatement_45 (by decide) ?_
        exact L69 S56 p0 tp0 _ _ _ hf hW hS (lv_sub hl [0] rfl)
    · replace hf := ifF c36 hf
      refine lv_aload_n hx hb dX11_parseStatement_25 rfl (lv_at hl 0 rfl) ?_
      replace hf := obE hf
      obtain ⟨S60, hz59, hf⟩ := hf
      refine x_callV (As := []) (rest := []) (o := none) (S1 := S60) hC hl.1 hW hS hGs hA tp0 rfl (show vwCl[10]? = some (RX11, TX11, 30) ∧ 10 < 11 from ⟨rfl, by decide⟩) (c_X11_parseUser l g ad n K H.size F S33 p0 tp0 S60 hz59) (cwV 0 hts gX11_parseStatement_X11_parseUser rfl rfl rfl (by decide +kernel) ⟨Nat.le_of_ble_eq_true rfl, Nat.le_of_ble_eq_true rfl⟩) rfl rfl (Nat.le_of_ble_eq_true rfl) dX11_parseStatement_26 ⟨Nat.le_of_ble_eq_true rfl, Nat.le_of_ble_eq_true rfl⟩ (fun H locs hPz59 hW hS => ?_)
      refine W.eq (g2 := F0 m 29 ls []) rfl ?_
      refine lv_goto (tgt := 69) hx hb dX11_parseStatement_29 (by decide) ?_
      exact L69 S60 p0 tp0 _ _ _ hf hW hS (lv_sub hl [0] rfl)
  · replace hf := ifF c31 hf
    refine lv_aload_n hx hb dX11_parseStatement_9 rfl (lv_at hl 0 rfl) ?_
    replace hf := obE hf
    obtain ⟨S64, hz63, hf⟩ := hf
    refine x_callV (As := []) (rest := []) (o := none) (S1 := S64) hC hl.1 hW hS hGs hA tp0 rfl (show vwCl[10]? = some (RX11, TX11, 30) ∧ 10 < 11 from ⟨rfl, by decide⟩) (c_X11_parseClass l g ad n K H.size F S28 p0 tp0 S64 hz63) (cwV 0 hts gX11_parseStatement_X11_parseClass rfl rfl rfl (by decide +kernel) ⟨Nat.le_of_ble_eq_true rfl, Nat.le_of_ble_eq_true rfl⟩) rfl rfl (Nat.le_of_ble_eq_true rfl) dX11_parseStatement_10 ⟨Nat.le_of_ble_eq_true rfl, Nat.le_of_ble_eq_true rfl⟩ (fun H locs hPz63 hW hS => ?_)
    refine W.eq (g2 := F0 m 13 ls []) rfl ?_
    refine lv_goto (tgt := 69) hx hb dX11_parseStatement_13 (by decide) ?_
    exact L69 S64 p0 tp0 _ _ _ hf hW hS (lv_sub hl [0] rfl)
set_option maxHeartbeats 4000000 in
set_option maxRecDepth 100000 in
theorem c_X11_remember (l : Launch) (g : GP) (ad : Nat → Nat) (n : Nat) (K : Nat → Nat) (sz F : Nat) (S0 : St) (p0 : Nat) (tp0 : p0 < n ∧ K p0 = 10) (S9 : St) (hf : f_X11_remember F S0 p0 = some S9) : Met l yX11_remember wsX11_remember { frames := 0, cells := 0, slots := 0, locals := 0 } (va_Pc [.ref (ad p0)] (PB g ad n K S0 sz)) (QR none (QB g ad n K S9 (dA ad n sz) (True)) (dA ad n sz)) 0 0 (dA ad n sz) := by
  refine Met.ofW (cc := cX11_remember) (maxL := 3) (ret := none) (by decide) rfl ?_
  intro p e s m args below meth c s₁ B hml hv
  obtain ⟨rfl, hsz, hW, hK, hGs⟩ := x_start hv
  subst hsz
  have hx := B.exec
  have hb := B.bytes
  have hr := B.returns
  have hts := atoms_spec (ws := wsX11_remember) B.pre
  have hown : s.vm.findClass RX11 = some m.cls := findClass_of_methodNamed B.named
  have hlk := B.notSynchronized
  have hC : Cx g p s m _ c cX11_remember RX11 wsX11_remember 3 := ⟨hx, hb, hml, hown, hts, hK⟩
  have hA : ∀ q : Nat, s.heap.size ≤ q → dA ad n s.heap.size q := fun q h => Or.inr h
  have hS : va_S (dA ad n s.heap.size) s.heap s.heap [] := va_S.rf
  have hl := lv_entry ([.ref (ad p0)]) (n := 3) (Nat.le_of_ble_eq_true rfl)
  rw [lg_entry_eq]
  generalize (lg_sl ([.ref (ad p0)]) ++ List.replicate (3 - (lg_sl ([.ref (ad p0)])).length) Slot.unset).toArray = ls at hl ⊢
  have hl : lv_has ls 3 [(0, .ref (ad p0))] := hl
  have hin11 : ∀ w ∈ wsX110, w ∈ wsX11_remember := by decide +kernel
  have w_0 := hts (.fieldLink RX11 17 "MailSpoolModel" "net" "[I") (by decide +kernel)
  have w_1 := hts (.fieldLink RX11 479 "MailSpoolModel" "remembered" "I") (by decide +kernel)
  have w_2 := hts (.fieldLink RX11 58 "MailSpoolModel" "historyBytes" "[B") (by decide +kernel)
  have w_3 := hts (.constant RX11 24 (96000)) (by decide +kernel)
  have w_4 := hts (.fieldLink RX11 25 "MailSpoolModel" "bytes" "[B") (by decide +kernel)
  have w_5 := hts (.fieldLink RX11 54 "MailSpoolModel" "history" "[I") (by decide +kernel)
  have w_6 := hts (.fieldLink RX11 482 "MailSpoolModel" "oldest" "I") (by decide +kernel)
  have hGE := hGs.2.2.2.2.2.2.1
  have hGM := hGs.2.2.2.2.2.2.2.1
  have L80 : ∀ (fu80 : Nat) (S0 : St) (v0 : Nat) (v1 : Int32) (v2 : Int32) (tv0 : v0 < n ∧ K v0 = 10) (H : Heap) (locs : List Loc) (ls : Array Slot), f_X11_remember_L80 F fu80 S0 v0 v1 v2 = some S9 → Wb g ad n K S0 (dA ad n s.heap.size) H → va_S (dA ad n s.heap.size) s.heap H locs → lv_has ls 3 [(0, .ref (ad v0)), (1, .int v1), (2, .int v2)] → W p l e (headSpec wsX11_remember { frames := 0, cells := 0, slots := 0, locals := 0 }).room s m (List.toArray [.ref (ad p0)]) below meth c H locs 0 0 (MQ below (QR none (QB g ad n K S9 (dA ad n s.heap.size) (True)) (dA ad n s.heap.size)) (List.toArray [.ref (ad p0)]) s 0 0 (dA ad n s.heap.size)) (F0 m 80 ls []) := by
    intro fu80
    induction fu80 with
    | zero =>
      intro S0 v0 v1 v2 tv0 H locs ls hf
      cases hf
    | succ fu80 ih80 =>
      intro S0 v0 v1 v2 tv0 H locs ls hf hW hS hl
      unfold f_X11_remember_L80 at hf
      refine lv_iload_n hx hb dX11_remember_80 rfl (lv_at hl 2 rfl) ?_
      refine lv_sipush (v := 200) hx hb dX11_remember_81 (by decide) ?_
      refine lv_aload_n hx hb dX11_remember_84 rfl (lv_at hl 0 rfl) ?_
      replace hf := obE hf
      obtain ⟨j11, qj11, hf⟩ := hf
      have tj11 := x_rt hW qj11 12 ⟨by decide, rfl⟩
      refine x_getr 1001 (ci := 10) (C := RX11) (T := TX11) (N := 30) 1 hC hin11 hW tv0 rfl rfl ⟨by decide, by decide, rfl, rfl⟩ rfl w_0 dX11_remember_85 qj11 ?_
      refine lv_bipush (v := 8) hx hb dX11_remember_88 (by decide) ?_
      replace hf := ckiE hf
      obtain ⟨h12, hf⟩ := hf
      refine x_iald hC hW tj11 rfl rfl h12 dX11_remember_90 ?_
      refine lv_imul hx hb dX11_remember_91 ?_
      refine lv_icmp_ge (tgt := 118) hx hb dX11_remember_92 (by decide) (fun c13 => ?_) (fun c13 => ?_)
      · replace hf := ifT c13 hf
        refine lv_aload_n hx hb dX11_remember_118 rfl (lv_at hl 0 rfl) ?_
        refine lv_dup hx hb dX11_remember_119 rfl ?_
        refine x_geti 1026 (ci := 10) (C := RX11) (T := TX11) (N := 30) 26 hC hin11 hW tv0 rfl rfl ⟨by decide, by decide, rfl, rfl⟩ rfl w_1 dX11_remember_120 ?_
        refine lv_iconst (v := 1) hx hb dX11_remember_123 (by decide) ?_
        refine lv_iadd hx hb dX11_remember_124 ?_
        refine x_puti 1026 (ci := 10) (C := RX11) (T := TX11) (N := 30) (v := (si S0 1026 v0) + 1) (ty := .int) 26 hC hin11 tyX11_ok nmX11 hW hS tv0 rfl rfl ⟨by decide, by decide, rfl, rfl⟩ rfl w_1 rfl (by decide +kernel) rfl rfl dX11_remember_125 (fun S14 H locs eS14 hW hS => ?_)
        replace hf := ltE hf S14 eS14
        have e1 := Option.some.inj hf
        subst e1
        exact W.vret hx hb hr (fun t ht hWm => ⟨⟨rfl, by unfold QB; rw [ht]; exact ⟨hW, trivial⟩⟩, hS.F ht⟩) hS.2.2 dX11_remember_128 hlk
      · replace hf := ifF c13 hf
        refine lv_aload_n hx hb dX11_remember_95 rfl (lv_at hl 0 rfl) ?_
        replace hf := obE hf
        obtain ⟨j15, qj15, hf⟩ := hf
        have tj15 := x_rt hW qj15 11 ⟨by decide, rfl⟩
        refine x_getr 1025 (ci := 10) (C := RX11) (T := TX11) (N := 30) 25 hC hin11 hW tv0 rfl rfl ⟨by decide, by decide, rfl, rfl⟩ rfl w_2 dX11_remember_96 qj15 ?_
        refine lv_ldc (v := 96000) hx hb hown w_3 dX11_remember_99 ?_
        refine lv_iload_n hx hb dX11_remember_101 rfl (lv_at hl 1 rfl) ?_
        refine lv_imul hx hb dX11_remember_102 ?_
        refine lv_iload_n hx hb dX11_remember_103 rfl (lv_at hl 2 rfl) ?_
        refine lv_iadd hx hb dX11_remember_104 ?_
        refine lv_aload_n hx hb dX11_remember_105 rfl (lv_at hl 0 rfl) ?_
        replace hf := obE hf
        obtain ⟨j16, qj16, hf⟩ := hf
        have tj16 := x_rt hW qj16 11 ⟨by decide, rfl⟩
        refine x_getr 1003 (ci := 10) (C := RX11) (T := TX11) (N := 30) 3 hC hin11 hW tv0 rfl rfl ⟨by decide, by decide, rfl, rfl⟩ rfl w_4 dX11_remember_106 qj16 ?_
        refine lv_iload_n hx hb dX11_remember_109 rfl (lv_at hl 2 rfl) ?_
        replace hf := ckiE hf
        obtain ⟨h17, hf⟩ := hf
        refine x_bald hC hW tj16 rfl rfl h17 dX11_remember_110 ?_
        replace hf := ckiE hf
        obtain ⟨h18, hf⟩ := hf
        refine x_bast hC hW hS tj15 rfl rfl h18 dX11_remember_111 (fun S19 H locs eS19 hW hS => ?_)
        replace hf := ltE hf S19 eS19
        obtain ⟨x20, ex20⟩ : ∃ z : Int32, z = v2 + 1 := ⟨_, rfl⟩
        replace hf := ltE hf x20 ex20
        refine lv_iinc (v := x20) (lv' := [(2, .int x20), (0, .ref (ad v0)), (1, .int v1)]) hx hb dX11_remember_112 hl (k := 2) rfl (by rw [ex20]; rfl) (by decide) rfl (fun ls hl => ?_)
        refine lv_goto (tgt := 80) hx hb dX11_remember_115 (by decide) ?_
        exact ih80 S19 v0 v1 x20 tv0 _ _ _ hf hW hS (lv_sub hl [1, 2, 0] rfl)
  have L47 : ∀ (fu47 : Nat) (S0 : St) (v0 : Nat) (v1 : Int32) (v2 : Int32) (tv0 : v0 < n ∧ K v0 = 10) (H : Heap) (locs : List Loc) (ls : Array Slot), f_X11_remember_L47 F fu47 S0 v0 v1 v2 = some S9 → Wb g ad n K S0 (dA ad n s.heap.size) H → va_S (dA ad n s.heap.size) s.heap H locs → lv_has ls 3 [(0, .ref (ad v0)), (1, .int v1), (2, .int v2)] → W p l e (headSpec wsX11_remember { frames := 0, cells := 0, slots := 0, locals := 0 }).room s m (List.toArray [.ref (ad p0)]) below meth c H locs 0 0 (MQ below (QR none (QB g ad n K S9 (dA ad n s.heap.size) (True)) (dA ad n s.heap.size)) (List.toArray [.ref (ad p0)]) s 0 0 (dA ad n s.heap.size)) (F0 m 47 ls []) := by
    intro fu47
    induction fu47 with
    | zero =>
      intro S0 v0 v1 v2 tv0 H locs ls hf
      cases hf
    | succ fu47 ih47 =>
      intro S0 v0 v1 v2 tv0 H locs ls hf hW hS hl
      unfold f_X11_remember_L47 at hf
      refine lv_iload_n hx hb dX11_remember_47 rfl (lv_at hl 2 rfl) ?_
      refine lv_sipush (v := 6391) hx hb dX11_remember_48 (by decide) ?_
      refine lv_icmp_ge (tgt := 78) hx hb dX11_remember_51 (by decide) (fun c28 => ?_) (fun c28 => ?_)
      · replace hf := ifT c28 hf
        refine lv_iconst (v := 0) hx hb dX11_remember_78 (by decide) ?_
        refine lv_istore_n (lv' := [(2, .int 0), (0, .ref (ad v0)), (1, .int v1)]) hx hb dX11_remember_79 rfl hl (by decide) rfl (fun ls hl => ?_)
        exact L80 F S0 v0 v1 0 tv0 _ _ _ hf hW hS (lv_sub hl [1, 2, 0] rfl)
      · replace hf := ifF c28 hf
        refine lv_aload_n hx hb dX11_remember_54 rfl (lv_at hl 0 rfl) ?_
        replace hf := obE hf
        obtain ⟨j29, qj29, hf⟩ := hf
        have tj29 := x_rt hW qj29 12 ⟨by decide, rfl⟩
        refine x_getr 1024 (ci := 10) (C := RX11) (T := TX11) (N := 30) 24 hC hin11 hW tv0 rfl rfl ⟨by decide, by decide, rfl, rfl⟩ rfl w_5 dX11_remember_55 qj29 ?_
        refine lv_sipush (v := 6391) hx hb dX11_remember_58 (by decide) ?_
        refine lv_iload_n hx hb dX11_remember_61 rfl (lv_at hl 1 rfl) ?_
        refine lv_imul hx hb dX11_remember_62 ?_
        refine lv_iload_n hx hb dX11_remember_63 rfl (lv_at hl 2 rfl) ?_
        refine lv_iadd hx hb dX11_remember_64 ?_
        refine lv_aload_n hx hb dX11_remember_65 rfl (lv_at hl 0 rfl) ?_
        replace hf := obE hf
        obtain ⟨j30, qj30, hf⟩ := hf
        have tj30 := x_rt hW qj30 12 ⟨by decide, rfl⟩
        refine x_getr 1001 (ci := 10) (C := RX11) (T := TX11) (N := 30) 1 hC hin11 hW tv0 rfl rfl ⟨by decide, by decide, rfl, rfl⟩ rfl w_0 dX11_remember_66 qj30 ?_
        refine lv_iload_n hx hb dX11_remember_69 rfl (lv_at hl 2 rfl) ?_
        replace hf := ckiE hf
        obtain ⟨h31, hf⟩ := hf
        refine x_iald hC hW tj30 rfl rfl h31 dX11_remember_70 ?_
        replace hf := ckiE hf
        obtain ⟨h32, hf⟩ := hf
        refine x_iast hC hW hS tj29 rfl rfl h32 dX11_remember_71 (fun S33 H locs eS33 hW hS => ?_)
        replace hf := ltE hf S33 eS33
        obtain ⟨x34, ex34⟩ : ∃ z : Int32, z = v2 + 1 := ⟨_, rfl⟩
        replace hf := ltE hf x34 ex34
        refine lv_iinc (v := x34) (lv' := [(2, .int x34), (0, .ref (ad v0)), (1, .int v1)]) hx hb dX11_remember_72 hl (k := 2) rfl (by rw [ex34]; rfl) (by decide) rfl (fun ls hl => ?_)
        refine lv_goto (tgt := 47) hx hb dX11_remember_75 (by decide) ?_
        exact ih47 S33 v0 v1 x34 tv0 _ _ _ hf hW hS (lv_sub hl [1, 2, 0] rfl)
  have L32 : ∀ (S0 : St) (v0 : Nat) (tv0 : v0 < n ∧ K v0 = 10) (H : Heap) (locs : List Loc) (ls : Array Slot), f_X11_remember_L32 F S0 v0 = some S9 → Wb g ad n K S0 (dA ad n s.heap.size) H → va_S (dA ad n s.heap.size) s.heap H locs → lv_has ls 3 [(0, .ref (ad v0))] → W p l e (headSpec wsX11_remember { frames := 0, cells := 0, slots := 0, locals := 0 }).room s m (List.toArray [.ref (ad p0)]) below meth c H locs 0 0 (MQ below (QR none (QB g ad n K S9 (dA ad n s.heap.size) (True)) (dA ad n s.heap.size)) (List.toArray [.ref (ad p0)]) s 0 0 (dA ad n s.heap.size)) (F0 m 32 ls []) := by
    intro S0 v0 tv0 H locs ls hf hW hS hl
    unfold f_X11_remember_L32 at hf
    refine lv_aload_n hx hb dX11_remember_32 rfl (lv_at hl 0 rfl) ?_
    refine x_geti 1027 (ci := 10) (C := RX11) (T := TX11) (N := 30) 27 hC hin11 hW tv0 rfl rfl ⟨by decide, by decide, rfl, rfl⟩ rfl w_6 dX11_remember_33 ?_
    refine lv_aload_n hx hb dX11_remember_36 rfl (lv_at hl 0 rfl) ?_
    refine x_geti 1026 (ci := 10) (C := RX11) (T := TX11) (N := 30) 26 hC hin11 hW tv0 rfl rfl ⟨by decide, by decide, rfl, rfl⟩ rfl w_1 dX11_remember_37 ?_
    refine lv_iadd hx hb dX11_remember_40 ?_
    refine lv_bipush (v := 6) hx hb dX11_remember_41 (by decide) ?_
    refine lv_irem hx hb dX11_remember_43 (by decide) ?_
    refine lv_topi (fun x36 ex36 => ?_)
    replace hf := ltE hf x36 ex36
    refine lv_istore_n (lv' := [(1, .int x36), (0, .ref (ad v0))]) hx hb dX11_remember_44 rfl hl (by decide) rfl (fun ls hl => ?_)
    refine lv_iconst (v := 0) hx hb dX11_remember_45 (by decide) ?_
    refine lv_istore_n (lv' := [(2, .int 0), (1, .int x36), (0, .ref (ad v0))]) hx hb dX11_remember_46 rfl hl (by decide) rfl (fun ls hl => ?_)
    exact L47 F S0 v0 x36 0 tv0 _ _ _ hf hW hS (lv_sub hl [2, 1, 0] rfl)
  unfold f_X11_remember at hf
  refine lv_aload_n hx hb dX11_remember_0 rfl (lv_at hl 0 rfl) ?_
  refine x_geti 1026 (ci := 10) (C := RX11) (T := TX11) (N := 30) 26 hC hin11 hW tp0 rfl rfl ⟨by decide, by decide, rfl, rfl⟩ rfl w_1 dX11_remember_1 ?_
  refine lv_bipush (v := 6) hx hb dX11_remember_4 (by decide) ?_
  refine lv_icmp_ne (tgt := 32) hx hb dX11_remember_6 (by decide) (fun c37 => ?_) (fun c37 => ?_)
  · replace hf := ifT c37 hf
    exact L32 S0 p0 tp0 _ _ _ hf hW hS (lv_sub hl [0] rfl)
  · replace hf := ifF (fun q => q c37) hf
    refine lv_aload_n hx hb dX11_remember_9 rfl (lv_at hl 0 rfl) ?_
    refine lv_aload_n hx hb dX11_remember_10 rfl (lv_at hl 0 rfl) ?_
    refine x_geti 1027 (ci := 10) (C := RX11) (T := TX11) (N := 30) 27 hC hin11 hW tp0 rfl rfl ⟨by decide, by decide, rfl, rfl⟩ rfl w_6 dX11_remember_11 ?_
    refine lv_iconst (v := 1) hx hb dX11_remember_14 (by decide) ?_
    refine lv_iadd hx hb dX11_remember_15 ?_
    refine lv_bipush (v := 6) hx hb dX11_remember_16 (by decide) ?_
    refine lv_irem hx hb dX11_remember_18 (by decide) ?_
    refine x_puti 1027 (ci := 10) (C := RX11) (T := TX11) (N := 30) (v := ((si S0 1027 p0) + 1) - ((si S0 1027 p0) + 1) / 6 * 6) (ty := .int) 27 hC hin11 tyX11_ok nmX11 hW hS tp0 rfl rfl ⟨by decide, by decide, rfl, rfl⟩ rfl w_6 rfl (by decide +kernel) rfl rfl dX11_remember_19 (fun S38 H locs eS38 hW hS => ?_)
    replace hf := ltE hf S38 eS38
    refine lv_aload_n hx hb dX11_remember_22 rfl (lv_at hl 0 rfl) ?_
    refine lv_dup hx hb dX11_remember_23 rfl ?_
    refine x_geti 1026 (ci := 10) (C := RX11) (T := TX11) (N := 30) 26 hC hin11 hW tp0 rfl rfl ⟨by decide, by decide, rfl, rfl⟩ rfl w_1 dX11_remember_24 ?_
    refine lv_iconst (v := 1) hx hb dX11_remember_27 (by decide) ?_
    refine lv_isub hx hb dX11_remember_28 ?_
    refine x_puti 1026 (ci := 10) (C := RX11) (T := TX11) (N := 30) (v := (si S38 1026 p0) - 1) (ty := .int) 26 hC hin11 tyX11_ok nmX11 hW hS tp0 rfl rfl ⟨by decide, by decide, rfl, rfl⟩ rfl w_1 rfl (by decide +kernel) rfl rfl dX11_remember_29 (fun S39 H locs eS39 hW hS => ?_)
    replace hf := ltE hf S39 eS39
    exact L32 S39 p0 tp0 _ _ _ hf hW hS (lv_sub hl [0] rfl)
set_option maxHeartbeats 4000000 in
set_option maxRecDepth 100000 in
theorem c_X11_load (l : Launch) (g : GP) (ad : Nat → Nat) (n : Nat) (K : Nat → Nat) (sz F : Nat) (S0 : St) (p0 : Nat) (tp0 : p0 < n ∧ K p0 = 10) (r9 : Int32) (S9 : St) (hf : f_X11_load F S0 p0 = some (r9, S9)) : Met l yX11_load wsX11_load { frames := 11, cells := 0, slots := 0, locals := 236 } (va_Pc [.ref (ad p0)] (PB g ad n K S0 sz)) (QR (some (.int r9)) (QB g ad n K S9 (dA ad n sz) (True)) (dA ad n sz)) 0 0 (dA ad n sz) := by
  refine Met.ofW (cc := cX11_load) (maxL := 2) (ret := (some .int)) (by decide) rfl ?_
  intro p e s m args below meth c s₁ B hml hv
  obtain ⟨rfl, hsz, hW, hK, hGs⟩ := x_start hv
  subst hsz
  have hx := B.exec
  have hb := B.bytes
  have hr := B.returns
  have hts := atoms_spec (ws := wsX11_load) B.pre
  have hown : s.vm.findClass RX11 = some m.cls := findClass_of_methodNamed B.named
  have hlk := B.notSynchronized
  have hC : Cx g p s m _ c cX11_load RX11 wsX11_load 2 := ⟨hx, hb, hml, hown, hts, hK⟩
  have hA : ∀ q : Nat, s.heap.size ≤ q → dA ad n s.heap.size q := fun q h => Or.inr h
  have hS : va_S (dA ad n s.heap.size) s.heap s.heap [] := va_S.rf
  have hl := lv_entry ([.ref (ad p0)]) (n := 2) (Nat.le_of_ble_eq_true rfl)
  rw [lg_entry_eq]
  generalize (lg_sl ([.ref (ad p0)]) ++ List.replicate (2 - (lg_sl ([.ref (ad p0)])).length) Slot.unset).toArray = ls at hl ⊢
  have hl : lv_has ls 2 [(0, .ref (ad p0))] := hl
  have hin11 : ∀ w ∈ wsX110, w ∈ wsX11_load := by decide +kernel
  have w_0 := hts (.fieldLink RX11 17 "MailSpoolModel" "net" "[I") (by decide +kernel)
  have w_1 := hts (.fieldLink RX11 21 "MailSpoolModel" "draft" "[I") (by decide +kernel)
  have w_2 := hts (.fieldLink RX11 29 "MailSpoolModel" "now" "[I") (by decide +kernel)
  have w_3 := hts (.fieldLink RX11 122 "MailSpoolModel" "token" "I") (by decide +kernel)
  have w_4 := hts (.fieldLink RX11 3 "MailSpoolModel" "thrown" "I") (by decide +kernel)
  have w_5 := hts (.fieldLink RX11 91 "MailSpoolModel" "inputSize" "I") (by decide +kernel)
  have w_6 := hts (.fieldLink RX11 112 "MailSpoolModel" "size" "I") (by decide +kernel)
  have w_7 := hts (.fieldLink RX11 115 "MailSpoolModel" "next" "I") (by decide +kernel)
  have w_8 := hts (.fieldLink RX11 102 "MailSpoolModel" "errorFound" "I") (by decide +kernel)
  have w_9 := hts (.fieldLink RX11 35 "MailSpoolModel" "errorPlace" "I") (by decide +kernel)
  have hGE := hGs.2.2.2.2.2.2.1
  have hGM := hGs.2.2.2.2.2.2.2.1
  have L166 : ∀ (fu166 : Nat) (S0 : St) (v0 : Nat) (v1 : Int32) (tv0 : v0 < n ∧ K v0 = 10) (H : Heap) (locs : List Loc) (ls : Array Slot), f_X11_load_L166 F fu166 S0 v0 v1 = some (r9, S9) → Wb g ad n K S0 (dA ad n s.heap.size) H → va_S (dA ad n s.heap.size) s.heap H locs → lv_has ls 2 [(0, .ref (ad v0)), (1, .int v1)] → W p l e (headSpec wsX11_load { frames := 11, cells := 0, slots := 0, locals := 236 }).room s m (List.toArray [.ref (ad p0)]) below meth c H locs 0 0 (MQ below (QR (some (.int r9)) (QB g ad n K S9 (dA ad n s.heap.size) (True)) (dA ad n s.heap.size)) (List.toArray [.ref (ad p0)]) s 0 0 (dA ad n s.heap.size)) (F0 m 166 ls []) := by
    intro fu166
    induction fu166 with
    | zero =>
      intro S0 v0 v1 tv0 H locs ls hf
      cases hf
    | succ fu166 ih166 =>
      intro S0 v0 v1 tv0 H locs ls hf hW hS hl
      unfold f_X11_load_L166 at hf
      refine lv_iload_n hx hb dX11_load_166 rfl (lv_at hl 1 rfl) ?_
      refine lv_sipush (v := 6391) hx hb dX11_load_167 (by decide) ?_
      refine lv_icmp_ge (tgt := 191) hx hb dX11_load_170 (by decide) (fun c10 => ?_) (fun c10 => ?_)
      · replace hf := ifT c10 hf
        refine lv_aload_n hx hb dX11_load_191 rfl (lv_at hl 0 rfl) ?_
        replace hf := obE hf
        obtain ⟨j11, qj11, hf⟩ := hf
        have tj11 := x_rt hW qj11 12 ⟨by decide, rfl⟩
        refine x_getr 1001 (ci := 10) (C := RX11) (T := TX11) (N := 30) 1 hC hin11 hW tv0 rfl rfl ⟨by decide, by decide, rfl, rfl⟩ rfl w_0 dX11_load_192 qj11 ?_
        refine lv_iconst (v := 4) hx hb dX11_load_195 (by decide) ?_
        replace hf := ckiE hf
        obtain ⟨h12, hf⟩ := hf
        refine x_iald hC hW tj11 rfl rfl h12 dX11_load_196 ?_
        obtain ⟨e1, e2⟩ := so2 hf
        subst e1
        subst e2
        exact W.iret (v := ai S0 j11 (Int32.toNatClampNeg 4)) hx hb hr (fun t ht hWm => ⟨⟨rfl, by unfold QB; rw [ht]; exact ⟨hW, trivial⟩⟩, hS.F ht⟩) hS.2.2 dX11_load_197 hlk
      · replace hf := ifF c10 hf
        refine lv_aload_n hx hb dX11_load_173 rfl (lv_at hl 0 rfl) ?_
        replace hf := obE hf
        obtain ⟨j13, qj13, hf⟩ := hf
        have tj13 := x_rt hW qj13 12 ⟨by decide, rfl⟩
        refine x_getr 1001 (ci := 10) (C := RX11) (T := TX11) (N := 30) 1 hC hin11 hW tv0 rfl rfl ⟨by decide, by decide, rfl, rfl⟩ rfl w_0 dX11_load_174 qj13 ?_
        refine lv_iload_n hx hb dX11_load_177 rfl (lv_at hl 1 rfl) ?_
        refine lv_aload_n hx hb dX11_load_178 rfl (lv_at hl 0 rfl) ?_
        replace hf := obE hf
        obtain ⟨j14, qj14, hf⟩ := hf
        have tj14 := x_rt hW qj14 12 ⟨by decide, rfl⟩
        refine x_getr 1002 (ci := 10) (C := RX11) (T := TX11) (N := 30) 2 hC hin11 hW tv0 rfl rfl ⟨by decide, by decide, rfl, rfl⟩ rfl w_1 dX11_load_179 qj14 ?_
        refine lv_iload_n hx hb dX11_load_182 rfl (lv_at hl 1 rfl) ?_
        replace hf := ckiE hf
        obtain ⟨h15, hf⟩ := hf
        refine x_iald hC hW tj14 rfl rfl h15 dX11_load_183 ?_
        replace hf := ckiE hf
        obtain ⟨h16, hf⟩ := hf
        refine x_iast hC hW hS tj13 rfl rfl h16 dX11_load_184 (fun S17 H locs eS17 hW hS => ?_)
        replace hf := ltE hf S17 eS17
        obtain ⟨x18, ex18⟩ : ∃ z : Int32, z = v1 + 1 := ⟨_, rfl⟩
        replace hf := ltE hf x18 ex18
        refine lv_iinc (v := x18) (lv' := [(1, .int x18), (0, .ref (ad v0))]) hx hb dX11_load_185 hl (k := 1) rfl (by rw [ex18]; rfl) (by decide) rfl (fun ls hl => ?_)
        refine lv_goto (tgt := 166) hx hb dX11_load_188 (by decide) ?_
        exact ih166 S17 v0 x18 tv0 _ _ _ hf hW hS (lv_sub hl [1, 0] rfl)
  have L142 : ∀ (S0 : St) (v0 : Nat) (tv0 : v0 < n ∧ K v0 = 10) (H : Heap) (locs : List Loc) (ls : Array Slot), f_X11_load_L142 F S0 v0 = some (r9, S9) → Wb g ad n K S0 (dA ad n s.heap.size) H → va_S (dA ad n s.heap.size) s.heap H locs → lv_has ls 2 [(0, .ref (ad v0))] → W p l e (headSpec wsX11_load { frames := 11, cells := 0, slots := 0, locals := 236 }).room s m (List.toArray [.ref (ad p0)]) below meth c H locs 0 0 (MQ below (QR (some (.int r9)) (QB g ad n K S9 (dA ad n s.heap.size) (True)) (dA ad n s.heap.size)) (List.toArray [.ref (ad p0)]) s 0 0 (dA ad n s.heap.size)) (F0 m 142 ls []) := by
    intro S0 v0 tv0 H locs ls hf hW hS hl
    unfold f_X11_load_L142 at hf
    refine lv_aload_n hx hb dX11_load_142 rfl (lv_at hl 0 rfl) ?_
    refine lv_aload_n hx hb dX11_load_143 rfl (lv_at hl 0 rfl) ?_
    replace hf := obE hf
    obtain ⟨j30, qj30, hf⟩ := hf
    have tj30 := x_rt hW qj30 12 ⟨by decide, rfl⟩
    refine x_getr 1001 (ci := 10) (C := RX11) (T := TX11) (N := 30) 1 hC hin11 hW tv0 rfl rfl ⟨by decide, by decide, rfl, rfl⟩ rfl w_0 dX11_load_144 qj30 ?_
    refine x_putr 1004 (ci := 10) (C := RX11) (T := TX11) (N := 30) (ty := (.array .int)) 4 hC hin11 tyX11_ok nmX11 hW hS tv0 rfl tj30 rfl rfl rfl ⟨by decide, by decide, rfl, rfl⟩ rfl w_2 rfl (by decide +kernel) rfl rfl dX11_load_147 (fun S31 H locs eS31 hW hS => ?_)
    replace hf := ltE hf S31 eS31
    refine lv_aload_n hx hb dX11_load_150 rfl (lv_at hl 0 rfl) ?_
    replace hf := obE hf
    obtain ⟨z32, hz32, hf⟩ := hf
    obtain ⟨r34, S33⟩ := z32
    replace hf := ltE (ltE hf r34 rfl) S33 rfl
    refine x_callV (As := []) (rest := []) (o := (some (.int r34))) (S1 := S33) hC hl.1 hW hS hGs hA tv0 rfl (show vwCl[10]? = some (RX11, TX11, 30) ∧ 10 < 11 from ⟨rfl, by decide⟩) (c_X11_good l g ad n K H.size F S31 v0 tv0 r34 S33 hz32) (cwV 0 hts gX11_load_X11_good rfl rfl rfl (by decide +kernel) ⟨Nat.le_of_ble_eq_true rfl, Nat.le_of_ble_eq_true rfl⟩) rfl rfl (Nat.le_of_ble_eq_true rfl) dX11_load_151 ⟨Nat.le_of_ble_eq_true rfl, Nat.le_of_ble_eq_true rfl⟩ (fun H locs hPz32 hW hS => ?_)
    refine W.eq (g2 := F0 m 154 ls [.int r34]) rfl ?_
    refine lv_if_ne (tgt := 160) hx hb dX11_load_154 (by decide) (fun c36 => ?_) (fun c36 => ?_)
    · replace hf := ifT c36 hf
      refine lv_aload_n hx hb dX11_load_160 rfl (lv_at hl 0 rfl) ?_
      replace hf := obE hf
      obtain ⟨S38, hz37, hf⟩ := hf
      refine x_callV (As := []) (rest := []) (o := none) (S1 := S38) hC hl.1 hW hS hGs hA tv0 rfl (show vwCl[10]? = some (RX11, TX11, 30) ∧ 10 < 11 from ⟨rfl, by decide⟩) (c_X11_remember l g ad n K H.size F S33 v0 tv0 S38 hz37) (cwV 0 hts gX11_load_X11_remember rfl rfl rfl (by decide +kernel) ⟨Nat.le_of_ble_eq_true rfl, Nat.le_of_ble_eq_true rfl⟩) rfl rfl (Nat.le_of_ble_eq_true rfl) dX11_load_161 ⟨Nat.le_of_ble_eq_true rfl, Nat.le_of_ble_eq_true rfl⟩ (fun H locs hPz37 hW hS => ?_)
      refine W.eq (g2 := F0 m 164 ls []) rfl ?_
      refine lv_iconst (v := 0) hx hb dX11_load_164 (by decide) ?_
      refine lv_istore_n (lv' := [(1, .int 0), (0, .ref (ad v0))]) hx hb dX11_load_165 rfl hl (by decide) rfl (fun ls hl => ?_)
      exact L166 F S38 v0 0 tv0 _ _ _ hf hW hS (lv_sub hl [1, 0] rfl)
    · replace hf := ifF (fun q => q c36) hf
      refine lv_bipush (v := -4) hx hb dX11_load_157 (by decide) ?_
      obtain ⟨e1, e2⟩ := so2 hf
      subst e1
      subst e2
      exact W.iret (v := (-4)) hx hb hr (fun t ht hWm => ⟨⟨rfl, by unfold QB; rw [ht]; exact ⟨hW, trivial⟩⟩, hS.F ht⟩) hS.2.2 dX11_load_159 hlk
  have L121 : ∀ (fu121 : Nat) (S0 : St) (v0 : Nat) (tv0 : v0 < n ∧ K v0 = 10) (H : Heap) (locs : List Loc) (ls : Array Slot), f_X11_load_L121 F fu121 S0 v0 = some (r9, S9) → Wb g ad n K S0 (dA ad n s.heap.size) H → va_S (dA ad n s.heap.size) s.heap H locs → lv_has ls 2 [(0, .ref (ad v0))] → W p l e (headSpec wsX11_load { frames := 11, cells := 0, slots := 0, locals := 236 }).room s m (List.toArray [.ref (ad p0)]) below meth c H locs 0 0 (MQ below (QR (some (.int r9)) (QB g ad n K S9 (dA ad n s.heap.size) (True)) (dA ad n s.heap.size)) (List.toArray [.ref (ad p0)]) s 0 0 (dA ad n s.heap.size)) (F0 m 121 ls []) := by
    intro fu121
    induction fu121 with
    | zero =>
      intro S0 v0 tv0 H locs ls hf
      cases hf
    | succ fu121 ih121 =>
      intro S0 v0 tv0 H locs ls hf hW hS hl
      unfold f_X11_load_L121 at hf
      refine lv_aload_n hx hb dX11_load_121 rfl (lv_at hl 0 rfl) ?_
      replace hf := obE hf
      obtain ⟨z51, hz51, hf⟩ := hf
      obtain ⟨r53, S52⟩ := z51
      replace hf := ltE (ltE hf r53 rfl) S52 rfl
      refine x_callV (As := []) (rest := []) (o := (some (.int r53))) (S1 := S52) hC hl.1 hW hS hGs hA tv0 rfl (show vwCl[10]? = some (RX11, TX11, 30) ∧ 10 < 11 from ⟨rfl, by decide⟩) (c_X11_good l g ad n K H.size F S0 v0 tv0 r53 S52 hz51) (cwV 0 hts gX11_load_X11_good rfl rfl rfl (by decide +kernel) ⟨Nat.le_of_ble_eq_true rfl, Nat.le_of_ble_eq_true rfl⟩) rfl rfl (Nat.le_of_ble_eq_true rfl) dX11_load_122 ⟨Nat.le_of_ble_eq_true rfl, Nat.le_of_ble_eq_true rfl⟩ (fun H locs hPz51 hW hS => ?_)
      refine W.eq (g2 := F0 m 125 ls [.int r53]) rfl ?_
      refine lv_if_eq (tgt := 142) hx hb dX11_load_125 (by decide) (fun c55 => ?_) (fun c55 => ?_)
      · replace hf := ifT c55 hf
        exact L142 S52 v0 tv0 _ _ _ hf hW hS (lv_sub hl [0] rfl)
      · replace hf := ifF c55 hf
        refine lv_aload_n hx hb dX11_load_128 rfl (lv_at hl 0 rfl) ?_
        refine x_geti 1011 (ci := 10) (C := RX11) (T := TX11) (N := 30) 11 hC hin11 hW tv0 rfl rfl ⟨by decide, by decide, rfl, rfl⟩ rfl w_3 dX11_load_129 ?_
        refine lv_if_eq (tgt := 142) hx hb dX11_load_132 (by decide) (fun c56 => ?_) (fun c56 => ?_)
        · replace hf := ifT c56 hf
          exact L142 S52 v0 tv0 _ _ _ hf hW hS (lv_sub hl [0] rfl)
        · replace hf := ifF c56 hf
          refine lv_aload_n hx hb dX11_load_135 rfl (lv_at hl 0 rfl) ?_
          replace hf := obE hf
          obtain ⟨S58, hz57, hf⟩ := hf
          refine x_callV (As := []) (rest := []) (o := none) (S1 := S58) hC hl.1 hW hS hGs hA tv0 rfl (show vwCl[10]? = some (RX11, TX11, 30) ∧ 10 < 11 from ⟨rfl, by decide⟩) (c_X11_parseStatement l g ad n K H.size F S52 v0 tv0 S58 hz57) (cwV 0 hts gX11_load_X11_parseStatement rfl rfl rfl (by decide +kernel) ⟨Nat.le_of_ble_eq_true rfl, Nat.le_of_ble_eq_true rfl⟩) rfl rfl (Nat.le_of_ble_eq_true rfl) dX11_load_136 ⟨Nat.le_of_ble_eq_true rfl, Nat.le_of_ble_eq_true rfl⟩ (fun H locs hPz57 hW hS => ?_)
          refine W.eq (g2 := F0 m 139 ls []) rfl ?_
          refine lv_goto (tgt := 121) hx hb dX11_load_139 (by decide) ?_
          exact ih121 S58 v0 tv0 _ _ _ hf hW hS (lv_sub hl [0] rfl)
  have L117 : ∀ (S0 : St) (v0 : Nat) (tv0 : v0 < n ∧ K v0 = 10) (H : Heap) (locs : List Loc) (ls : Array Slot), f_X11_load_L117 F S0 v0 = some (r9, S9) → Wb g ad n K S0 (dA ad n s.heap.size) H → va_S (dA ad n s.heap.size) s.heap H locs → lv_has ls 2 [(0, .ref (ad v0))] → W p l e (headSpec wsX11_load { frames := 11, cells := 0, slots := 0, locals := 236 }).room s m (List.toArray [.ref (ad p0)]) below meth c H locs 0 0 (MQ below (QR (some (.int r9)) (QB g ad n K S9 (dA ad n s.heap.size) (True)) (dA ad n s.heap.size)) (List.toArray [.ref (ad p0)]) s 0 0 (dA ad n s.heap.size)) (F0 m 117 ls []) := by
    intro S0 v0 tv0 H locs ls hf hW hS hl
    unfold f_X11_load_L117 at hf
    refine lv_aload_n hx hb dX11_load_117 rfl (lv_at hl 0 rfl) ?_
    replace hf := obE hf
    obtain ⟨S66, hz65, hf⟩ := hf
    refine x_callV (As := []) (rest := []) (o := none) (S1 := S66) hC hl.1 hW hS hGs hA tv0 rfl (show vwCl[10]? = some (RX11, TX11, 30) ∧ 10 < 11 from ⟨rfl, by decide⟩) (c_X11_goOn l g ad n K H.size F S0 v0 tv0 S66 hz65) (cwV 0 hts gX11_load_X11_goOn rfl rfl rfl (by decide +kernel) ⟨Nat.le_of_ble_eq_true rfl, Nat.le_of_ble_eq_true rfl⟩) rfl rfl (Nat.le_of_ble_eq_true rfl) dX11_load_118 ⟨Nat.le_of_ble_eq_true rfl, Nat.le_of_ble_eq_true rfl⟩ (fun H locs hPz65 hW hS => ?_)
    refine W.eq (g2 := F0 m 121 ls []) rfl ?_
    exact L121 F S66 v0 tv0 _ _ _ hf hW hS (lv_sub hl [0] rfl)
  have L35 : ∀ (fu35 : Nat) (S0 : St) (v0 : Nat) (v1 : Int32) (tv0 : v0 < n ∧ K v0 = 10) (H : Heap) (locs : List Loc) (ls : Array Slot), f_X11_load_L35 F fu35 S0 v0 v1 = some (r9, S9) → Wb g ad n K S0 (dA ad n s.heap.size) H → va_S (dA ad n s.heap.size) s.heap H locs → lv_has ls 2 [(0, .ref (ad v0)), (1, .int v1)] → W p l e (headSpec wsX11_load { frames := 11, cells := 0, slots := 0, locals := 236 }).room s m (List.toArray [.ref (ad p0)]) below meth c H locs 0 0 (MQ below (QR (some (.int r9)) (QB g ad n K S9 (dA ad n s.heap.size) (True)) (dA ad n s.heap.size)) (List.toArray [.ref (ad p0)]) s 0 0 (dA ad n s.heap.size)) (F0 m 35 ls []) := by
    intro fu35
    induction fu35 with
    | zero =>
      intro S0 v0 v1 tv0 H locs ls hf
      cases hf
    | succ fu35 ih35 =>
      intro S0 v0 v1 tv0 H locs ls hf hW hS hl
      unfold f_X11_load_L35 at hf
      refine lv_iload_n hx hb dX11_load_35 rfl (lv_at hl 1 rfl) ?_
      refine lv_sipush (v := 6391) hx hb dX11_load_36 (by decide) ?_
      refine lv_icmp_ge (tgt := 55) hx hb dX11_load_39 (by decide) (fun c107 => ?_) (fun c107 => ?_)
      · replace hf := ifT c107 hf
        refine lv_aload_n hx hb dX11_load_55 rfl (lv_at hl 0 rfl) ?_
        refine lv_aload_n hx hb dX11_load_56 rfl (lv_at hl 0 rfl) ?_
        replace hf := obE hf
        obtain ⟨j108, qj108, hf⟩ := hf
        have tj108 := x_rt hW qj108 12 ⟨by decide, rfl⟩
        refine x_getr 1002 (ci := 10) (C := RX11) (T := TX11) (N := 30) 2 hC hin11 hW tv0 rfl rfl ⟨by decide, by decide, rfl, rfl⟩ rfl w_1 dX11_load_57 qj108 ?_
        refine x_putr 1004 (ci := 10) (C := RX11) (T := TX11) (N := 30) (ty := (.array .int)) 4 hC hin11 tyX11_ok nmX11 hW hS tv0 rfl tj108 rfl rfl rfl ⟨by decide, by decide, rfl, rfl⟩ rfl w_2 rfl (by decide +kernel) rfl rfl dX11_load_60 (fun S109 H locs eS109 hW hS => ?_)
        replace hf := ltE hf S109 eS109
        refine lv_aload_n hx hb dX11_load_63 rfl (lv_at hl 0 rfl) ?_
        replace hf := obE hf
        obtain ⟨S111, hz110, hf⟩ := hf
        refine x_callV (As := []) (rest := []) (o := none) (S1 := S111) hC hl.1 hW hS hGs hA tv0 rfl (show vwCl[10]? = some (RX11, TX11, 30) ∧ 10 < 11 from ⟨rfl, by decide⟩) (c_X11_scan l g ad n K H.size F S109 v0 tv0 S111 hz110) (cwV 0 hts gX11_load_X11_scan rfl rfl rfl (by decide +kernel) ⟨Nat.le_of_ble_eq_true rfl, Nat.le_of_ble_eq_true rfl⟩) rfl rfl (Nat.le_of_ble_eq_true rfl) dX11_load_64 ⟨Nat.le_of_ble_eq_true rfl, Nat.le_of_ble_eq_true rfl⟩ (fun H locs hPz110 hW hS => ?_)
        refine W.eq (g2 := F0 m 67 ls []) rfl ?_
        refine lv_aload_n hx hb dX11_load_67 rfl (lv_at hl 0 rfl) ?_
        refine x_ldcM 0 (tx := "spool") hC hGM ⟨rfl, by decide⟩ dX11_load_68 ?_
        replace hf := obE hf
        obtain ⟨S115, hz114, hf⟩ := hf
        refine x_callV (As := [.ref (gen g (100 + 0))]) (rest := []) (o := none) (S1 := S115) hC hl.1 hW hS hGs hA tv0 rfl (show vwCl[10]? = some (RX11, TX11, 30) ∧ 10 < 11 from ⟨rfl, by decide⟩) (c_X11_word l g ad n K H.size F S111 v0 0 tv0 (by decide) S115 hz114) (cwV 1 hts gX11_load_X11_word rfl rfl rfl (by decide +kernel) ⟨Nat.le_of_ble_eq_true rfl, Nat.le_of_ble_eq_true rfl⟩) rfl rfl (Nat.le_of_ble_eq_true rfl) dX11_load_70 ⟨Nat.le_of_ble_eq_true rfl, Nat.le_of_ble_eq_true rfl⟩ (fun H locs hPz114 hW hS => ?_)
        refine W.eq (g2 := F0 m 73 ls []) rfl ?_
        refine lv_aload_n hx hb dX11_load_73 rfl (lv_at hl 0 rfl) ?_
        replace hf := obE hf
        obtain ⟨j118, qj118, hf⟩ := hf
        have tj118 := x_rt hW qj118 12 ⟨by decide, rfl⟩
        refine x_getr 1004 (ci := 10) (C := RX11) (T := TX11) (N := 30) 4 hC hin11 hW tv0 rfl rfl ⟨by decide, by decide, rfl, rfl⟩ rfl w_2 dX11_load_74 qj118 ?_
        refine lv_iconst (v := 0) hx hb dX11_load_77 (by decide) ?_
        refine lv_aload_n hx hb dX11_load_78 rfl (lv_at hl 0 rfl) ?_
        refine x_ldcM 1 (tx := "grace") hC hGM ⟨rfl, by decide⟩ dX11_load_79 ?_
        refine lv_iconst (v := 0) hx hb dX11_load_81 (by decide) ?_
        refine lv_bipush (v := 30) hx hb dX11_load_82 (by decide) ?_
        replace hf := obE hf
        obtain ⟨z119, hz119, hf⟩ := hf
        obtain ⟨r121, S120⟩ := z119
        replace hf := ltE (ltE hf r121 rfl) S120 rfl
        refine x_callV (As := [.ref (gen g (100 + 1)), .int 0, .int 30]) (rest := [.int 0, .ref (ad j118)]) (o := (some (.int r121))) (S1 := S120) hC hl.1 hW hS hGs hA tv0 rfl (show vwCl[10]? = some (RX11, TX11, 30) ∧ 10 < 11 from ⟨rfl, by decide⟩) (c_X11_numberAfter l g ad n K H.size F S115 v0 1 ((0 : Int32)) ((30 : Int32)) tv0 (by decide) r121 S120 hz119) (cwV 3 hts gX11_load_X11_numberAfter rfl rfl rfl (by decide +kernel) ⟨Nat.le_of_ble_eq_true rfl, Nat.le_of_ble_eq_true rfl⟩) rfl rfl (Nat.le_of_ble_eq_true rfl) dX11_load_84 ⟨Nat.le_of_ble_eq_true rfl, Nat.le_of_ble_eq_true rfl⟩ (fun H locs hPz119 hW hS => ?_)
        refine W.eq (g2 := F0 m 87 ls [.int r121, .int 0, .ref (ad j118)]) rfl ?_
        replace hf := ckiE hf
        obtain ⟨h123, hf⟩ := hf
        refine x_iast hC hW hS tj118 rfl rfl h123 dX11_load_87 (fun S124 H locs eS124 hW hS => ?_)
        replace hf := ltE hf S124 eS124
        refine lv_aload_n hx hb dX11_load_88 rfl (lv_at hl 0 rfl) ?_
        replace hf := obE hf
        obtain ⟨j125, qj125, hf⟩ := hf
        have tj125 := x_rt hW qj125 12 ⟨by decide, rfl⟩
        refine x_getr 1004 (ci := 10) (C := RX11) (T := TX11) (N := 30) 4 hC hin11 hW tv0 rfl rfl ⟨by decide, by decide, rfl, rfl⟩ rfl w_2 dX11_load_89 qj125 ?_
        refine lv_iconst (v := 1) hx hb dX11_load_92 (by decide) ?_
        refine lv_aload_n hx hb dX11_load_93 rfl (lv_at hl 0 rfl) ?_
        refine x_ldcM 2 (tx := "round") hC hGM ⟨rfl, by decide⟩ dX11_load_94 ?_
        refine lv_iconst (v := 1) hx hb dX11_load_96 (by decide) ?_
        refine lv_bipush (v := 30) hx hb dX11_load_97 (by decide) ?_
        replace hf := obE hf
        obtain ⟨z126, hz126, hf⟩ := hf
        obtain ⟨r128, S127⟩ := z126
        replace hf := ltE (ltE hf r128 rfl) S127 rfl
        refine x_callV (As := [.ref (gen g (100 + 2)), .int 1, .int 30]) (rest := [.int 1, .ref (ad j125)]) (o := (some (.int r128))) (S1 := S127) hC hl.1 hW hS hGs hA tv0 rfl (show vwCl[10]? = some (RX11, TX11, 30) ∧ 10 < 11 from ⟨rfl, by decide⟩) (c_X11_numberAfter l g ad n K H.size F S124 v0 2 ((1 : Int32)) ((30 : Int32)) tv0 (by decide) r128 S127 hz126) (cwV 3 hts gX11_load_X11_numberAfter rfl rfl rfl (by decide +kernel) ⟨Nat.le_of_ble_eq_true rfl, Nat.le_of_ble_eq_true rfl⟩) rfl rfl (Nat.le_of_ble_eq_true rfl) dX11_load_99 ⟨Nat.le_of_ble_eq_true rfl, Nat.le_of_ble_eq_true rfl⟩ (fun H locs hPz126 hW hS => ?_)
        refine W.eq (g2 := F0 m 102 ls [.int r128, .int 1, .ref (ad j125)]) rfl ?_
        replace hf := ckiE hf
        obtain ⟨h130, hf⟩ := hf
        refine x_iast hC hW hS tj125 rfl rfl h130 dX11_load_102 (fun S131 H locs eS131 hW hS => ?_)
        replace hf := ltE hf S131 eS131
        refine lv_aload_n hx hb dX11_load_103 rfl (lv_at hl 0 rfl) ?_
        refine lv_bipush (v := 59) hx hb dX11_load_104 (by decide) ?_
        replace hf := obE hf
        obtain ⟨z132, hz132, hf⟩ := hf
        obtain ⟨r134, S133⟩ := z132
        replace hf := ltE (ltE hf r134 rfl) S133 rfl
        refine x_callV (As := [.int 59]) (rest := []) (o := (some (.int r134))) (S1 := S133) hC hl.1 hW hS hGs hA tv0 rfl (show vwCl[10]? = some (RX11, TX11, 30) ∧ 10 < 11 from ⟨rfl, by decide⟩) (c_X11_isSymbol l g ad n K H.size F S131 v0 ((59 : Int32)) tv0 r134 S133 hz132) (cwV 1 hts gX11_load_X11_isSymbol rfl rfl rfl (by decide +kernel) ⟨Nat.le_of_ble_eq_true rfl, Nat.le_of_ble_eq_true rfl⟩) rfl rfl (Nat.le_of_ble_eq_true rfl) dX11_load_106 ⟨Nat.le_of_ble_eq_true rfl, Nat.le_of_ble_eq_true rfl⟩ (fun H locs hPz132 hW hS => ?_)
        refine W.eq (g2 := F0 m 109 ls [.int r134]) rfl ?_
        refine lv_if_ne (tgt := 117) hx hb dX11_load_109 (by decide) (fun c136 => ?_) (fun c136 => ?_)
        · replace hf := ifT c136 hf
          exact L117 S133 v0 tv0 _ _ _ hf hW hS (lv_sub hl [0] rfl)
        · replace hf := ifF (fun q => q c136) hf
          refine lv_aload_n hx hb dX11_load_112 rfl (lv_at hl 0 rfl) ?_
          refine lv_iconst (v := 1) hx hb dX11_load_113 (by decide) ?_
          replace hf := obE hf
          obtain ⟨S138, hz137, hf⟩ := hf
          refine x_callV (As := [.int 1]) (rest := []) (o := none) (S1 := S138) hC hl.1 hW hS hGs hA tv0 rfl (show vwCl[10]? = some (RX11, TX11, 30) ∧ 10 < 11 from ⟨rfl, by decide⟩) (c_X11_errs l g ad n K H.size F S133 v0 ((1 : Int32)) tv0 S138 hz137) (cwV 1 hts gX11_load_X11_errs rfl rfl rfl (by decide +kernel) ⟨Nat.le_of_ble_eq_true rfl, Nat.le_of_ble_eq_true rfl⟩) rfl rfl (Nat.le_of_ble_eq_true rfl) dX11_load_114 ⟨Nat.le_of_ble_eq_true rfl, Nat.le_of_ble_eq_true rfl⟩ (fun H locs hPz137 hW hS => ?_)
          refine W.eq (g2 := F0 m 117 ls []) rfl ?_
          exact L117 S138 v0 tv0 _ _ _ hf hW hS (lv_sub hl [0] rfl)
      · replace hf := ifF c107 hf
        refine lv_aload_n hx hb dX11_load_42 rfl (lv_at hl 0 rfl) ?_
        replace hf := obE hf
        obtain ⟨j141, qj141, hf⟩ := hf
        have tj141 := x_rt hW qj141 12 ⟨by decide, rfl⟩
        refine x_getr 1002 (ci := 10) (C := RX11) (T := TX11) (N := 30) 2 hC hin11 hW tv0 rfl rfl ⟨by decide, by decide, rfl, rfl⟩ rfl w_1 dX11_load_43 qj141 ?_
        refine lv_iload_n hx hb dX11_load_46 rfl (lv_at hl 1 rfl) ?_
        refine lv_iconst (v := 0) hx hb dX11_load_47 (by decide) ?_
        replace hf := ckiE hf
        obtain ⟨h142, hf⟩ := hf
        refine x_iast hC hW hS tj141 rfl rfl h142 dX11_load_48 (fun S143 H locs eS143 hW hS => ?_)
        replace hf := ltE hf S143 eS143
        obtain ⟨x144, ex144⟩ : ∃ z : Int32, z = v1 + 1 := ⟨_, rfl⟩
        replace hf := ltE hf x144 ex144
        refine lv_iinc (v := x144) (lv' := [(1, .int x144), (0, .ref (ad v0))]) hx hb dX11_load_49 hl (k := 1) rfl (by rw [ex144]; rfl) (by decide) rfl (fun ls hl => ?_)
        refine lv_goto (tgt := 35) hx hb dX11_load_52 (by decide) ?_
        exact ih35 S143 v0 x144 tv0 _ _ _ hf hW hS (lv_sub hl [1, 0] rfl)
  unfold f_X11_load at hf
  refine lv_aload_n hx hb dX11_load_0 rfl (lv_at hl 0 rfl) ?_
  refine lv_iconst (v := 0) hx hb dX11_load_1 (by decide) ?_
  refine x_puti 1000 (ci := 10) (C := RX11) (T := TX11) (N := 30) (v := 0) (ty := .int) 0 hC hin11 tyX11_ok nmX11 hW hS tp0 rfl rfl ⟨by decide, by decide, rfl, rfl⟩ rfl w_4 rfl (by decide +kernel) rfl rfl dX11_load_2 (fun S145 H locs eS145 hW hS => ?_)
  replace hf := ltE hf S145 eS145
  refine lv_aload_n hx hb dX11_load_5 rfl (lv_at hl 0 rfl) ?_
  refine lv_aload_n hx hb dX11_load_6 rfl (lv_at hl 0 rfl) ?_
  refine x_geti 1007 (ci := 10) (C := RX11) (T := TX11) (N := 30) 7 hC hin11 hW tp0 rfl rfl ⟨by decide, by decide, rfl, rfl⟩ rfl w_5 dX11_load_7 ?_
  refine x_puti 1008 (ci := 10) (C := RX11) (T := TX11) (N := 30) (v := si S145 1007 p0) (ty := .int) 8 hC hin11 tyX11_ok nmX11 hW hS tp0 rfl rfl ⟨by decide, by decide, rfl, rfl⟩ rfl w_6 rfl (by decide +kernel) rfl rfl dX11_load_10 (fun S146 H locs eS146 hW hS => ?_)
  replace hf := ltE hf S146 eS146
  refine lv_aload_n hx hb dX11_load_13 rfl (lv_at hl 0 rfl) ?_
  refine lv_iconst (v := 0) hx hb dX11_load_14 (by decide) ?_
  refine x_puti 1007 (ci := 10) (C := RX11) (T := TX11) (N := 30) (v := 0) (ty := .int) 7 hC hin11 tyX11_ok nmX11 hW hS tp0 rfl rfl ⟨by decide, by decide, rfl, rfl⟩ rfl w_5 rfl (by decide +kernel) rfl rfl dX11_load_15 (fun S147 H locs eS147 hW hS => ?_)
  replace hf := ltE hf S147 eS147
  refine lv_aload_n hx hb dX11_load_18 rfl (lv_at hl 0 rfl) ?_
  refine lv_iconst (v := 0) hx hb dX11_load_19 (by decide) ?_
  refine x_puti 1009 (ci := 10) (C := RX11) (T := TX11) (N := 30) (v := 0) (ty := .int) 9 hC hin11 tyX11_ok nmX11 hW hS tp0 rfl rfl ⟨by decide, by decide, rfl, rfl⟩ rfl w_7 rfl (by decide +kernel) rfl rfl dX11_load_20 (fun S148 H locs eS148 hW hS => ?_)
  replace hf := ltE hf S148 eS148
  refine lv_aload_n hx hb dX11_load_23 rfl (lv_at hl 0 rfl) ?_
  refine lv_iconst (v := 0) hx hb dX11_load_24 (by decide) ?_
  refine x_puti 1013 (ci := 10) (C := RX11) (T := TX11) (N := 30) (v := 0) (ty := .int) 13 hC hin11 tyX11_ok nmX11 hW hS tp0 rfl rfl ⟨by decide, by decide, rfl, rfl⟩ rfl w_8 rfl (by decide +kernel) rfl rfl dX11_load_25 (fun S149 H locs eS149 hW hS => ?_)
  replace hf := ltE hf S149 eS149
  refine lv_aload_n hx hb dX11_load_28 rfl (lv_at hl 0 rfl) ?_
  refine lv_iconst (v := -1) hx hb dX11_load_29 (by decide) ?_
  refine x_puti 1014 (ci := 10) (C := RX11) (T := TX11) (N := 30) (v := (-1)) (ty := .int) 14 hC hin11 tyX11_ok nmX11 hW hS tp0 rfl rfl ⟨by decide, by decide, rfl, rfl⟩ rfl w_9 rfl (by decide +kernel) rfl rfl dX11_load_30 (fun S150 H locs eS150 hW hS => ?_)
  replace hf := ltE hf S150 eS150
  refine lv_iconst (v := 0) hx hb dX11_load_33 (by decide) ?_
  refine lv_istore_n (lv' := [(1, .int 0), (0, .ref (ad p0))]) hx hb dX11_load_34 rfl hl (by decide) rfl (fun ls hl => ?_)
  exact L35 F S150 p0 0 tp0 _ _ _ hf hW hS (lv_sub hl [1, 0] rfl)
set_option maxHeartbeats 4000000 in
set_option maxRecDepth 100000 in
theorem c_X11_errorCode (l : Launch) (g : GP) (ad : Nat → Nat) (n : Nat) (K : Nat → Nat) (sz F : Nat) (S0 : St) (p0 : Nat) (tp0 : p0 < n ∧ K p0 = 10) (r9 : Int32) (S9 : St) (hf : f_X11_errorCode F S0 p0 = some (r9, S9)) : Met l yX11_errorCode wsX11_errorCode { frames := 0, cells := 0, slots := 0, locals := 0 } (va_Pc [.ref (ad p0)] (PB g ad n K S0 sz)) (QR (some (.int r9)) (QB g ad n K S9 (dA ad n sz) (True)) (dA ad n sz)) 0 0 (dA ad n sz) := by
  refine Met.ofW (cc := cX11_errorCode) (maxL := 1) (ret := (some .int)) (by decide) rfl ?_
  intro p e s m args below meth c s₁ B hml hv
  obtain ⟨rfl, hsz, hW, hK, hGs⟩ := x_start hv
  subst hsz
  have hx := B.exec
  have hb := B.bytes
  have hr := B.returns
  have hts := atoms_spec (ws := wsX11_errorCode) B.pre
  have hown : s.vm.findClass RX11 = some m.cls := findClass_of_methodNamed B.named
  have hlk := B.notSynchronized
  have hC : Cx g p s m _ c cX11_errorCode RX11 wsX11_errorCode 1 := ⟨hx, hb, hml, hown, hts, hK⟩
  have hA : ∀ q : Nat, s.heap.size ≤ q → dA ad n s.heap.size q := fun q h => Or.inr h
  have hS : va_S (dA ad n s.heap.size) s.heap s.heap [] := va_S.rf
  have hl := lv_entry ([.ref (ad p0)]) (n := 1) (Nat.le_of_ble_eq_true rfl)
  rw [lg_entry_eq]
  generalize (lg_sl ([.ref (ad p0)]) ++ List.replicate (1 - (lg_sl ([.ref (ad p0)])).length) Slot.unset).toArray = ls at hl ⊢
  have hl : lv_has ls 1 [(0, .ref (ad p0))] := hl
  have hin11 : ∀ w ∈ wsX110, w ∈ wsX11_errorCode := by decide +kernel
  have w_0 := hts (.fieldLink RX11 3 "MailSpoolModel" "thrown" "I") (by decide +kernel)
  have w_1 := hts (.fieldLink RX11 102 "MailSpoolModel" "errorFound" "I") (by decide +kernel)
  have hGE := hGs.2.2.2.2.2.2.1
  have hGM := hGs.2.2.2.2.2.2.2.1
  unfold f_X11_errorCode at hf
  refine lv_aload_n hx hb dX11_errorCode_0 rfl (lv_at hl 0 rfl) ?_
  refine lv_iconst (v := 0) hx hb dX11_errorCode_1 (by decide) ?_
  refine x_puti 1000 (ci := 10) (C := RX11) (T := TX11) (N := 30) (v := 0) (ty := .int) 0 hC hin11 tyX11_ok nmX11 hW hS tp0 rfl rfl ⟨by decide, by decide, rfl, rfl⟩ rfl w_0 rfl (by decide +kernel) rfl rfl dX11_errorCode_2 (fun S1 H locs eS1 hW hS => ?_)
  replace hf := ltE hf S1 eS1
  refine lv_aload_n hx hb dX11_errorCode_5 rfl (lv_at hl 0 rfl) ?_
  refine x_geti 1013 (ci := 10) (C := RX11) (T := TX11) (N := 30) 13 hC hin11 hW tp0 rfl rfl ⟨by decide, by decide, rfl, rfl⟩ rfl w_1 dX11_errorCode_6 ?_
  obtain ⟨e1, e2⟩ := so2 hf
  subst e1
  subst e2
  exact W.iret (v := si S1 1013 p0) hx hb hr (fun t ht hWm => ⟨⟨rfl, by unfold QB; rw [ht]; exact ⟨hW, trivial⟩⟩, hS.F ht⟩) hS.2.2 dX11_errorCode_9 hlk
set_option maxHeartbeats 4000000 in
set_option maxRecDepth 100000 in
theorem c_X11_errorPosition (l : Launch) (g : GP) (ad : Nat → Nat) (n : Nat) (K : Nat → Nat) (sz F : Nat) (S0 : St) (p0 : Nat) (tp0 : p0 < n ∧ K p0 = 10) (r9 : Int32) (S9 : St) (hf : f_X11_errorPosition F S0 p0 = some (r9, S9)) : Met l yX11_errorPosition wsX11_errorPosition { frames := 0, cells := 0, slots := 0, locals := 0 } (va_Pc [.ref (ad p0)] (PB g ad n K S0 sz)) (QR (some (.int r9)) (QB g ad n K S9 (dA ad n sz) (True)) (dA ad n sz)) 0 0 (dA ad n sz) := by
  refine Met.ofW (cc := cX11_errorPosition) (maxL := 1) (ret := (some .int)) (by decide) rfl ?_
  intro p e s m args below meth c s₁ B hml hv
  obtain ⟨rfl, hsz, hW, hK, hGs⟩ := x_start hv
  subst hsz
  have hx := B.exec
  have hb := B.bytes
  have hr := B.returns
  have hts := atoms_spec (ws := wsX11_errorPosition) B.pre
  have hown : s.vm.findClass RX11 = some m.cls := findClass_of_methodNamed B.named
  have hlk := B.notSynchronized
  have hC : Cx g p s m _ c cX11_errorPosition RX11 wsX11_errorPosition 1 := ⟨hx, hb, hml, hown, hts, hK⟩
  have hA : ∀ q : Nat, s.heap.size ≤ q → dA ad n s.heap.size q := fun q h => Or.inr h
  have hS : va_S (dA ad n s.heap.size) s.heap s.heap [] := va_S.rf
  have hl := lv_entry ([.ref (ad p0)]) (n := 1) (Nat.le_of_ble_eq_true rfl)
  rw [lg_entry_eq]
  generalize (lg_sl ([.ref (ad p0)]) ++ List.replicate (1 - (lg_sl ([.ref (ad p0)])).length) Slot.unset).toArray = ls at hl ⊢
  have hl : lv_has ls 1 [(0, .ref (ad p0))] := hl
  have hin11 : ∀ w ∈ wsX110, w ∈ wsX11_errorPosition := by decide +kernel
  have w_0 := hts (.fieldLink RX11 3 "MailSpoolModel" "thrown" "I") (by decide +kernel)
  have w_1 := hts (.fieldLink RX11 35 "MailSpoolModel" "errorPlace" "I") (by decide +kernel)
  have hGE := hGs.2.2.2.2.2.2.1
  have hGM := hGs.2.2.2.2.2.2.2.1
  unfold f_X11_errorPosition at hf
  refine lv_aload_n hx hb dX11_errorPosition_0 rfl (lv_at hl 0 rfl) ?_
  refine lv_iconst (v := 0) hx hb dX11_errorPosition_1 (by decide) ?_
  refine x_puti 1000 (ci := 10) (C := RX11) (T := TX11) (N := 30) (v := 0) (ty := .int) 0 hC hin11 tyX11_ok nmX11 hW hS tp0 rfl rfl ⟨by decide, by decide, rfl, rfl⟩ rfl w_0 rfl (by decide +kernel) rfl rfl dX11_errorPosition_2 (fun S1 H locs eS1 hW hS => ?_)
  replace hf := ltE hf S1 eS1
  refine lv_aload_n hx hb dX11_errorPosition_5 rfl (lv_at hl 0 rfl) ?_
  refine x_geti 1014 (ci := 10) (C := RX11) (T := TX11) (N := 30) 14 hC hin11 hW tp0 rfl rfl ⟨by decide, by decide, rfl, rfl⟩ rfl w_1 dX11_errorPosition_6 ?_
  obtain ⟨e1, e2⟩ := so2 hf
  subst e1
  subst e2
  exact W.iret (v := si S1 1014 p0) hx hb hr (fun t ht hWm => ⟨⟨rfl, by unfold QB; rw [ht]; exact ⟨hW, trivial⟩⟩, hS.F ht⟩) hS.2.2 dX11_errorPosition_9 hlk
set_option maxHeartbeats 4000000 in
set_option maxRecDepth 100000 in
theorem c_X11_isInputWord (l : Launch) (g : GP) (ad : Nat → Nat) (n : Nat) (K : Nat → Nat) (sz F : Nat) (S0 : St) (p0 : Nat) (tp0 : p0 < n ∧ K p0 = 10) (r9 : Int32) (S9 : St) (hf : f_X11_isInputWord F S0 p0 = some (r9, S9)) : Met l yX11_isInputWord wsX11_isInputWord { frames := 1, cells := 0, slots := 0, locals := 25 } (va_Pc [.ref (ad p0)] (PB g ad n K S0 sz)) (QR (some (.int r9)) (QB g ad n K S9 (dA ad n sz) (True)) (dA ad n sz)) 0 0 (dA ad n sz) := by
  refine Met.ofW (cc := cX11_isInputWord) (maxL := 3) (ret := (some .boolean)) (by decide) rfl ?_
  intro p e s m args below meth c s₁ B hml hv
  obtain ⟨rfl, hsz, hW, hK, hGs⟩ := x_start hv
  subst hsz
  have hx := B.exec
  have hb := B.bytes
  have hr := B.returns
  have hts := atoms_spec (ws := wsX11_isInputWord) B.pre
  have hown : s.vm.findClass RX11 = some m.cls := findClass_of_methodNamed B.named
  have hlk := B.notSynchronized
  have hC : Cx g p s m _ c cX11_isInputWord RX11 wsX11_isInputWord 3 := ⟨hx, hb, hml, hown, hts, hK⟩
  have hA : ∀ q : Nat, s.heap.size ≤ q → dA ad n s.heap.size q := fun q h => Or.inr h
  have hS : va_S (dA ad n s.heap.size) s.heap s.heap [] := va_S.rf
  have hl := lv_entry ([.ref (ad p0)]) (n := 3) (Nat.le_of_ble_eq_true rfl)
  rw [lg_entry_eq]
  generalize (lg_sl ([.ref (ad p0)]) ++ List.replicate (3 - (lg_sl ([.ref (ad p0)])).length) Slot.unset).toArray = ls at hl ⊢
  have hl : lv_has ls 3 [(0, .ref (ad p0))] := hl
  have hin11 : ∀ w ∈ wsX110, w ∈ wsX11_isInputWord := by decide +kernel
  have w_0 := hts (.fieldLink RX11 115 "MailSpoolModel" "next" "I") (by decide +kernel)
  have w_1 := hts (.fieldLink RX11 32 "MailSpoolModel" "input" "[B") (by decide +kernel)
  have w_2 := hts (.constantLong RX11 125 (97)) (by decide +kernel)
  have w_3 := hts (.constantLong RX11 127 (122)) (by decide +kernel)
  have w_4 := hts (.fieldLink RX11 109 "MailSpoolModel" "start" "I") (by decide +kernel)
  have w_5 := hts (.fieldLink RX11 91 "MailSpoolModel" "inputSize" "I") (by decide +kernel)
  have hGE := hGs.2.2.2.2.2.2.1
  have hGM := hGs.2.2.2.2.2.2.2.1
  have L28 : ∀ (fu28 : Nat) (S0 : St) (v0 : Nat) (v1 : Int32) (v2 : Int32) (tv0 : v0 < n ∧ K v0 = 10) (H : Heap) (locs : List Loc) (ls : Array Slot), f_X11_isInputWord_L28 F fu28 S0 v0 v1 v2 = some (r9, S9) → Wb g ad n K S0 (dA ad n s.heap.size) H → va_S (dA ad n s.heap.size) s.heap H locs → lv_has ls 3 [(0, .ref (ad v0)), (1, .int v1), (2, .int v2)] → W p l e (headSpec wsX11_isInputWord { frames := 1, cells := 0, slots := 0, locals := 25 }).room s m (List.toArray [.ref (ad p0)]) below meth c H locs 0 0 (MQ below (QR (some (.int r9)) (QB g ad n K S9 (dA ad n s.heap.size) (True)) (dA ad n s.heap.size)) (List.toArray [.ref (ad p0)]) s 0 0 (dA ad n s.heap.size)) (F0 m 28 ls []) := by
    intro fu28
    induction fu28 with
    | zero =>
      intro S0 v0 v1 v2 tv0 H locs ls hf
      cases hf
    | succ fu28 ih28 =>
      intro S0 v0 v1 v2 tv0 H locs ls hf hW hS hl
      unfold f_X11_isInputWord_L28 at hf
      refine lv_iload_n hx hb dX11_isInputWord_28 rfl (lv_at hl 2 rfl) ?_
      refine lv_aload_n hx hb dX11_isInputWord_29 rfl (lv_at hl 0 rfl) ?_
      refine x_geti 1009 (ci := 10) (C := RX11) (T := TX11) (N := 30) 9 hC hin11 hW tv0 rfl rfl ⟨by decide, by decide, rfl, rfl⟩ rfl w_0 dX11_isInputWord_30 ?_
      refine lv_icmp_ge (tgt := 63) hx hb dX11_isInputWord_33 (by decide) (fun c12 => ?_) (fun c12 => ?_)
      · replace hf := ifT c12 hf
        refine lv_iload_n hx hb dX11_isInputWord_63 rfl (lv_at hl 1 rfl) ?_
        replace hf := ckE hf
        obtain ⟨h13, hf⟩ := hf
        obtain ⟨e1, e2⟩ := so2 hf
        subst e1
        subst e2
        exact W.zret (v := v1) hx hb hr (zn h13) (fun t ht hWm => ⟨⟨rfl, by unfold QB; rw [ht]; exact ⟨hW, trivial⟩⟩, hS.F ht⟩) hS.2.2 dX11_isInputWord_64 hlk
      · replace hf := ifF c12 hf
        refine lv_iload_n hx hb dX11_isInputWord_36 rfl (lv_at hl 1 rfl) ?_
        refine lv_if_eq (tgt := 63) hx hb dX11_isInputWord_37 (by decide) (fun c14 => ?_) (fun c14 => ?_)
        · replace hf := ifT c14 hf
          refine lv_iload_n hx hb dX11_isInputWord_63 rfl (lv_at hl 1 rfl) ?_
          replace hf := ckE hf
          obtain ⟨h15, hf⟩ := hf
          obtain ⟨e1, e2⟩ := so2 hf
          subst e1
          subst e2
          exact W.zret (v := v1) hx hb hr (zn h15) (fun t ht hWm => ⟨⟨rfl, by unfold QB; rw [ht]; exact ⟨hW, trivial⟩⟩, hS.F ht⟩) hS.2.2 dX11_isInputWord_64 hlk
        · replace hf := ifF c14 hf
          refine lv_aload_n hx hb dX11_isInputWord_40 rfl (lv_at hl 0 rfl) ?_
          replace hf := obE hf
          obtain ⟨j16, qj16, hf⟩ := hf
          have tj16 := x_rt hW qj16 11 ⟨by decide, rfl⟩
          refine x_getr 1006 (ci := 10) (C := RX11) (T := TX11) (N := 30) 6 hC hin11 hW tv0 rfl rfl ⟨by decide, by decide, rfl, rfl⟩ rfl w_1 dX11_isInputWord_41 qj16 ?_
          refine lv_iload_n hx hb dX11_isInputWord_44 rfl (lv_at hl 2 rfl) ?_
          replace hf := ckiE hf
          obtain ⟨h17, hf⟩ := hf
          refine x_bald hC hW tj16 rfl rfl h17 dX11_isInputWord_45 ?_
          refine lv_i2l (v := (ai S0 j16 (Int32.toNatClampNeg v2)).toInt64) hx hb dX11_isInputWord_46 rfl ?_
          refine lv_ldc2 (v := (97)) hx hb hown w_2 dX11_isInputWord_47 ?_
          refine lv_ldc2 (v := (122)) hx hb hown w_3 dX11_isInputWord_50 ?_
          replace hf := obE hf
          obtain ⟨z18, hz18, hf⟩ := hf
          obtain ⟨r20, S19⟩ := z18
          replace hf := ltE (ltE hf r20 rfl) S19 rfl
          refine x_callS (As := [.long ((ai S0 j16 (Int32.toNatClampNeg v2)).toInt64), .long ((97)), .long ((122))]) (rest := []) (o := (some (.int r20))) (S1 := S19) hC hl.1 hW hS hGs hA (c_X11_in l g ad n K H.size F S0 ((ai S0 j16 (Int32.toNatClampNeg v2)).toInt64) (((97) : Int64)) (((122) : Int64)) r20 S19 hz18) (va_cwS 3 hts gX11_isInputWord_X11_in rfl rfl rfl (by decide +kernel) ⟨Nat.le_of_ble_eq_true rfl, Nat.le_of_ble_eq_true rfl⟩) rfl rfl (Nat.le_of_ble_eq_true rfl) dX11_isInputWord_53 ⟨Nat.le_of_ble_eq_true rfl, Nat.le_of_ble_eq_true rfl⟩ (fun H locs hPz18 hW hS => ?_)
          refine W.eq (g2 := F0 m 56 ls [.int r20]) rfl ?_
          refine lv_istore_n (lv' := [(1, .int r20), (0, .ref (ad v0)), (2, .int v2)]) hx hb dX11_isInputWord_56 rfl hl (by decide) rfl (fun ls hl => ?_)
          obtain ⟨x22, ex22⟩ : ∃ z : Int32, z = v2 + 1 := ⟨_, rfl⟩
          replace hf := ltE hf x22 ex22
          refine lv_iinc (v := x22) (lv' := [(2, .int x22), (1, .int r20), (0, .ref (ad v0))]) hx hb dX11_isInputWord_57 hl (k := 2) rfl (by rw [ex22]; rfl) (by decide) rfl (fun ls hl => ?_)
          refine lv_goto (tgt := 28) hx hb dX11_isInputWord_60 (by decide) ?_
          exact ih28 S19 v0 r20 x22 tv0 _ _ _ hf hW hS (lv_sub hl [2, 1, 0] rfl)
  have L25 : ∀ (S0 : St) (v0 : Nat) (s0 : Int32) (tv0 : v0 < n ∧ K v0 = 10) (H : Heap) (locs : List Loc) (ls : Array Slot), f_X11_isInputWord_L25 F S0 v0 s0 = some (r9, S9) → Wb g ad n K S0 (dA ad n s.heap.size) H → va_S (dA ad n s.heap.size) s.heap H locs → lv_has ls 3 [(0, .ref (ad v0))] → W p l e (headSpec wsX11_isInputWord { frames := 1, cells := 0, slots := 0, locals := 25 }).room s m (List.toArray [.ref (ad p0)]) below meth c H locs 0 0 (MQ below (QR (some (.int r9)) (QB g ad n K S9 (dA ad n s.heap.size) (True)) (dA ad n s.heap.size)) (List.toArray [.ref (ad p0)]) s 0 0 (dA ad n s.heap.size)) (F0 m 25 ls [.int s0]) := by
    intro S0 v0 s0 tv0 H locs ls hf hW hS hl
    unfold f_X11_isInputWord_L25 at hf
    refine lv_istore_n (lv' := [(1, .int s0), (0, .ref (ad v0))]) hx hb dX11_isInputWord_25 rfl hl (by decide) rfl (fun ls hl => ?_)
    refine lv_iconst (v := 0) hx hb dX11_isInputWord_26 (by decide) ?_
    refine lv_istore_n (lv' := [(2, .int 0), (1, .int s0), (0, .ref (ad v0))]) hx hb dX11_isInputWord_27 rfl hl (by decide) rfl (fun ls hl => ?_)
    exact L28 F S0 v0 s0 0 tv0 _ _ _ hf hW hS (lv_sub hl [2, 1, 0] rfl)
  unfold f_X11_isInputWord at hf
  refine lv_aload_n hx hb dX11_isInputWord_0 rfl (lv_at hl 0 rfl) ?_
  refine lv_iconst (v := 0) hx hb dX11_isInputWord_1 (by decide) ?_
  refine x_puti 1010 (ci := 10) (C := RX11) (T := TX11) (N := 30) (v := 0) (ty := .int) 10 hC hin11 tyX11_ok nmX11 hW hS tp0 rfl rfl ⟨by decide, by decide, rfl, rfl⟩ rfl w_4 rfl (by decide +kernel) rfl rfl dX11_isInputWord_2 (fun S23 H locs eS23 hW hS => ?_)
  replace hf := ltE hf S23 eS23
  refine lv_aload_n hx hb dX11_isInputWord_5 rfl (lv_at hl 0 rfl) ?_
  refine lv_aload_n hx hb dX11_isInputWord_6 rfl (lv_at hl 0 rfl) ?_
  refine x_geti 1007 (ci := 10) (C := RX11) (T := TX11) (N := 30) 7 hC hin11 hW tp0 rfl rfl ⟨by decide, by decide, rfl, rfl⟩ rfl w_5 dX11_isInputWord_7 ?_
  refine x_puti 1009 (ci := 10) (C := RX11) (T := TX11) (N := 30) (v := si S23 1007 p0) (ty := .int) 9 hC hin11 tyX11_ok nmX11 hW hS tp0 rfl rfl ⟨by decide, by decide, rfl, rfl⟩ rfl w_0 rfl (by decide +kernel) rfl rfl dX11_isInputWord_10 (fun S24 H locs eS24 hW hS => ?_)
  replace hf := ltE hf S24 eS24
  refine lv_aload_n hx hb dX11_isInputWord_13 rfl (lv_at hl 0 rfl) ?_
  refine x_geti 1009 (ci := 10) (C := RX11) (T := TX11) (N := 30) 9 hC hin11 hW tp0 rfl rfl ⟨by decide, by decide, rfl, rfl⟩ rfl w_0 dX11_isInputWord_14 ?_
  refine lv_if_le (tgt := 24) hx hb dX11_isInputWord_17 (by decide) (fun c25 => ?_) (fun c25 => ?_)
  · replace hf := ifT c25 hf
    refine lv_iconst (v := 0) hx hb dX11_isInputWord_24 (by decide) ?_
    exact L25 S24 p0 0 tp0 _ _ _ hf hW hS (lv_sub hl [0] rfl)
  · replace hf := ifF c25 hf
    refine lv_iconst (v := 1) hx hb dX11_isInputWord_20 (by decide) ?_
    refine lv_goto (tgt := 25) hx hb dX11_isInputWord_21 (by decide) ?_
    exact L25 S24 p0 1 tp0 _ _ _ hf hW hS (lv_sub hl [0] rfl)
set_option maxHeartbeats 4000000 in
set_option maxRecDepth 100000 in
theorem c_X11_find (l : Launch) (g : GP) (ad : Nat → Nat) (n : Nat) (K : Nat → Nat) (sz F : Nat) (S0 : St) (p0 : Nat) (p1 : Int32) (tp0 : p0 < n ∧ K p0 = 10) (r9 : Int32) (S9 : St) (hf : f_X11_find F S0 p0 p1 = some (r9, S9)) : Met l yX11_find wsX11_find { frames := 3, cells := 0, slots := 0, locals := 69 } (va_Pc [.ref (ad p0), .int p1] (PB g ad n K S0 sz)) (QR (some (.int r9)) (QB g ad n K S9 (dA ad n sz) (True)) (dA ad n sz)) 0 0 (dA ad n sz) := by
  refine Met.ofW (cc := cX11_find) (maxL := 3) (ret := (some .int)) (by decide) rfl ?_
  intro p e s m args below meth c s₁ B hml hv
  obtain ⟨rfl, hsz, hW, hK, hGs⟩ := x_start hv
  subst hsz
  have hx := B.exec
  have hb := B.bytes
  have hr := B.returns
  have hts := atoms_spec (ws := wsX11_find) B.pre
  have hown : s.vm.findClass RX11 = some m.cls := findClass_of_methodNamed B.named
  have hlk := B.notSynchronized
  have hC : Cx g p s m _ c cX11_find RX11 wsX11_find 3 := ⟨hx, hb, hml, hown, hts, hK⟩
  have hA : ∀ q : Nat, s.heap.size ≤ q → dA ad n s.heap.size q := fun q h => Or.inr h
  have hS : va_S (dA ad n s.heap.size) s.heap s.heap [] := va_S.rf
  have hl := lv_entry ([.ref (ad p0), .int p1]) (n := 3) (Nat.le_of_ble_eq_true rfl)
  rw [lg_entry_eq]
  generalize (lg_sl ([.ref (ad p0), .int p1]) ++ List.replicate (3 - (lg_sl ([.ref (ad p0), .int p1])).length) Slot.unset).toArray = ls at hl ⊢
  have hl : lv_has ls 3 [(0, .ref (ad p0)), (1, .int p1)] := hl
  have hin11 : ∀ w ∈ wsX110, w ∈ wsX11_find := by decide +kernel
  have w_0 := hts (.constantLong RX11 259 (3)) (by decide +kernel)
  have w_1 := hts (.fieldLink RX11 91 "MailSpoolModel" "inputSize" "I") (by decide +kernel)
  have hGE := hGs.2.2.2.2.2.2.1
  have hGM := hGs.2.2.2.2.2.2.2.1
  unfold f_X11_find at hf
  refine lv_aload_n hx hb dX11_find_0 rfl (lv_at hl 0 rfl) ?_
  refine lv_iload_n hx hb dX11_find_1 rfl (lv_at hl 1 rfl) ?_
  refine lv_i2l (v := p1.toInt64) hx hb dX11_find_2 rfl ?_
  refine lv_lconst (v := 0) hx hb dX11_find_3 (by decide) ?_
  refine lv_ldc2 (v := (3)) hx hb hown w_0 dX11_find_4 ?_
  replace hf := obE hf
  obtain ⟨z1, hz1, hf⟩ := hf
  obtain ⟨r3, S2⟩ := z1
  replace hf := ltE (ltE hf r3 rfl) S2 rfl
  refine x_callS (As := [.long (p1.toInt64), .long (0), .long ((3))]) (rest := [.ref (ad p0)]) (o := (some (.int r3))) (S1 := S2) hC hl.1 hW hS hGs hA (c_X11_in l g ad n K s.heap.size F S0 p1.toInt64 ((0 : Int64)) (((3) : Int64)) r3 S2 hz1) (va_cwS 3 hts gX11_find_X11_in rfl rfl rfl (by decide +kernel) ⟨Nat.le_of_ble_eq_true rfl, Nat.le_of_ble_eq_true rfl⟩) rfl rfl (Nat.le_of_ble_eq_true rfl) dX11_find_7 ⟨Nat.le_of_ble_eq_true rfl, Nat.le_of_ble_eq_true rfl⟩ (fun H locs hPz1 hW hS => ?_)
  refine W.eq (g2 := F0 m 10 ls [.int r3, .ref (ad p0)]) rfl ?_
  replace hf := obE hf
  obtain ⟨z5, hz5, hf⟩ := hf
  obtain ⟨r7, S6⟩ := z5
  replace hf := ltE (ltE hf r7 rfl) S6 rfl
  refine x_callV (As := [.int r3]) (rest := []) (o := (some (.int r7))) (S1 := S6) hC hl.1 hW hS hGs hA tp0 rfl (show vwCl[10]? = some (RX11, TX11, 30) ∧ 10 < 11 from ⟨rfl, by decide⟩) (c_X11_passes l g ad n K H.size F S2 p0 r3 tp0 r7 S6 hz5) (cwV 1 hts gX11_find_X11_passes rfl rfl rfl (by decide +kernel) ⟨Nat.le_of_ble_eq_true rfl, Nat.le_of_ble_eq_true rfl⟩) rfl rfl (Nat.le_of_ble_eq_true rfl) dX11_find_10 ⟨Nat.le_of_ble_eq_true rfl, Nat.le_of_ble_eq_true rfl⟩ (fun H locs hPz5 hW hS => ?_)
  refine W.eq (g2 := F0 m 13 ls [.int r7]) rfl ?_
  refine lv_if_ne (tgt := 18) hx hb dX11_find_13 (by decide) (fun c9 => ?_) (fun c9 => ?_)
  · replace hf := ifT c9 hf
    refine lv_aload_n hx hb dX11_find_18 rfl (lv_at hl 0 rfl) ?_
    replace hf := obE hf
    obtain ⟨z10, hz10, hf⟩ := hf
    obtain ⟨r12, S11⟩ := z10
    replace hf := ltE (ltE hf r12 rfl) S11 rfl
    refine x_callV (As := []) (rest := []) (o := (some (.int r12))) (S1 := S11) hC hl.1 hW hS hGs hA tp0 rfl (show vwCl[10]? = some (RX11, TX11, 30) ∧ 10 < 11 from ⟨rfl, by decide⟩) (c_X11_isInputWord l g ad n K H.size F S6 p0 tp0 r12 S11 hz10) (cwV 0 hts gX11_find_X11_isInputWord rfl rfl rfl (by decide +kernel) ⟨Nat.le_of_ble_eq_true rfl, Nat.le_of_ble_eq_true rfl⟩) rfl rfl (Nat.le_of_ble_eq_true rfl) dX11_find_19 ⟨Nat.le_of_ble_eq_true rfl, Nat.le_of_ble_eq_true rfl⟩ (fun H locs hPz10 hW hS => ?_)
    refine W.eq (g2 := F0 m 22 ls [.int r12]) rfl ?_
    refine lv_istore_n (lv' := [(2, .int r12), (0, .ref (ad p0)), (1, .int p1)]) hx hb dX11_find_22 rfl hl (by decide) rfl (fun ls hl => ?_)
    refine lv_aload_n hx hb dX11_find_23 rfl (lv_at hl 1 rfl) ?_
    refine lv_iconst (v := 0) hx hb dX11_find_24 (by decide) ?_
    refine x_puti 1007 (ci := 10) (C := RX11) (T := TX11) (N := 30) (v := 0) (ty := .int) 7 hC hin11 tyX11_ok nmX11 hW hS tp0 rfl rfl ⟨by decide, by decide, rfl, rfl⟩ rfl w_1 rfl (by decide +kernel) rfl rfl dX11_find_25 (fun S14 H locs eS14 hW hS => ?_)
    replace hf := ltE hf S14 eS14
    refine lv_iload_n hx hb dX11_find_28 rfl (lv_at hl 0 rfl) ?_
    refine lv_if_eq (tgt := 40) hx hb dX11_find_29 (by decide) (fun c15 => ?_) (fun c15 => ?_)
    · replace hf := ifT c15 hf
      refine lv_iconst (v := -1) hx hb dX11_find_40 (by decide) ?_
      obtain ⟨e1, e2⟩ := so2 hf
      subst e1
      subst e2
      exact W.iret (v := (-1)) hx hb hr (fun t ht hWm => ⟨⟨rfl, by unfold QB; rw [ht]; exact ⟨hW, trivial⟩⟩, hS.F ht⟩) hS.2.2 dX11_find_41 hlk
    · replace hf := ifF c15 hf
      refine lv_aload_n hx hb dX11_find_32 rfl (lv_at hl 1 rfl) ?_
      refine lv_iload_n hx hb dX11_find_33 rfl (lv_at hl 2 rfl) ?_
      replace hf := obE hf
      obtain ⟨z16, hz16, hf⟩ := hf
      obtain ⟨r18, S17⟩ := z16
      replace hf := ltE (ltE hf r18 rfl) S17 rfl
      refine x_callV (As := [.int p1]) (rest := []) (o := (some (.int r18))) (S1 := S17) hC hl.1 hW hS hGs hA tp0 rfl (show vwCl[10]? = some (RX11, TX11, 30) ∧ 10 < 11 from ⟨rfl, by decide⟩) (c_X11_kindNamed l g ad n K H.size F S14 p0 p1 tp0 r18 S17 hz16) (cwV 1 hts gX11_find_X11_kindNamed rfl rfl rfl (by decide +kernel) ⟨Nat.le_of_ble_eq_true rfl, Nat.le_of_ble_eq_true rfl⟩) rfl rfl (Nat.le_of_ble_eq_true rfl) dX11_find_34 ⟨Nat.le_of_ble_eq_true rfl, Nat.le_of_ble_eq_true rfl⟩ (fun H locs hPz16 hW hS => ?_)
      refine W.eq (g2 := F0 m 37 ls [.int r18]) rfl ?_
      refine lv_goto (tgt := 41) hx hb dX11_find_37 (by decide) ?_
      obtain ⟨e1, e2⟩ := so2 hf
      subst e1
      subst e2
      exact W.iret (v := r18) hx hb hr (fun t ht hWm => ⟨⟨rfl, by unfold QB; rw [ht]; exact ⟨hW, trivial⟩⟩, hS.F ht⟩) hS.2.2 dX11_find_41 hlk
  · replace hf := ifF (fun q => q c9) hf
    refine lv_iconst (v := 0) hx hb dX11_find_16 (by decide) ?_
    obtain ⟨e1, e2⟩ := so2 hf
    subst e1
    subst e2
    exact W.iret (v := 0) hx hb hr (fun t ht hWm => ⟨⟨rfl, by unfold QB; rw [ht]; exact ⟨hW, trivial⟩⟩, hS.F ht⟩) hS.2.2 dX11_find_17 hlk
set_option maxHeartbeats 4000000 in
set_option maxRecDepth 100000 in
theorem c_X11_count (l : Launch) (g : GP) (ad : Nat → Nat) (n : Nat) (K : Nat → Nat) (sz F : Nat) (S0 : St) (p0 : Nat) (p1 : Int32) (tp0 : p0 < n ∧ K p0 = 10) (r9 : Int32) (S9 : St) (hf : f_X11_count F S0 p0 p1 = some (r9, S9)) : Met l yX11_count wsX11_count { frames := 2, cells := 0, slots := 0, locals := 44 } (va_Pc [.ref (ad p0), .int p1] (PB g ad n K S0 sz)) (QR (some (.int r9)) (QB g ad n K S9 (dA ad n sz) (True)) (dA ad n sz)) 0 0 (dA ad n sz) := by
  refine Met.ofW (cc := cX11_count) (maxL := 2) (ret := (some .int)) (by decide) rfl ?_
  intro p e s m args below meth c s₁ B hml hv
  obtain ⟨rfl, hsz, hW, hK, hGs⟩ := x_start hv
  subst hsz
  have hx := B.exec
  have hb := B.bytes
  have hr := B.returns
  have hts := atoms_spec (ws := wsX11_count) B.pre
  have hown : s.vm.findClass RX11 = some m.cls := findClass_of_methodNamed B.named
  have hlk := B.notSynchronized
  have hC : Cx g p s m _ c cX11_count RX11 wsX11_count 2 := ⟨hx, hb, hml, hown, hts, hK⟩
  have hA : ∀ q : Nat, s.heap.size ≤ q → dA ad n s.heap.size q := fun q h => Or.inr h
  have hS : va_S (dA ad n s.heap.size) s.heap s.heap [] := va_S.rf
  have hl := lv_entry ([.ref (ad p0), .int p1]) (n := 2) (Nat.le_of_ble_eq_true rfl)
  rw [lg_entry_eq]
  generalize (lg_sl ([.ref (ad p0), .int p1]) ++ List.replicate (2 - (lg_sl ([.ref (ad p0), .int p1])).length) Slot.unset).toArray = ls at hl ⊢
  have hl : lv_has ls 2 [(0, .ref (ad p0)), (1, .int p1)] := hl
  have hin11 : ∀ w ∈ wsX110, w ∈ wsX11_count := by decide +kernel
  have w_0 := hts (.constantLong RX11 259 (3)) (by decide +kernel)
  have w_1 := hts (.fieldLink RX11 17 "MailSpoolModel" "net" "[I") (by decide +kernel)
  have hGE := hGs.2.2.2.2.2.2.1
  have hGM := hGs.2.2.2.2.2.2.2.1
  unfold f_X11_count at hf
  refine lv_aload_n hx hb dX11_count_0 rfl (lv_at hl 0 rfl) ?_
  refine lv_iload_n hx hb dX11_count_1 rfl (lv_at hl 1 rfl) ?_
  refine lv_i2l (v := p1.toInt64) hx hb dX11_count_2 rfl ?_
  refine lv_lconst (v := 0) hx hb dX11_count_3 (by decide) ?_
  refine lv_ldc2 (v := (3)) hx hb hown w_0 dX11_count_4 ?_
  replace hf := obE hf
  obtain ⟨z1, hz1, hf⟩ := hf
  obtain ⟨r3, S2⟩ := z1
  replace hf := ltE (ltE hf r3 rfl) S2 rfl
  refine x_callS (As := [.long (p1.toInt64), .long (0), .long ((3))]) (rest := [.ref (ad p0)]) (o := (some (.int r3))) (S1 := S2) hC hl.1 hW hS hGs hA (c_X11_in l g ad n K s.heap.size F S0 p1.toInt64 ((0 : Int64)) (((3) : Int64)) r3 S2 hz1) (va_cwS 3 hts gX11_count_X11_in rfl rfl rfl (by decide +kernel) ⟨Nat.le_of_ble_eq_true rfl, Nat.le_of_ble_eq_true rfl⟩) rfl rfl (Nat.le_of_ble_eq_true rfl) dX11_count_7 ⟨Nat.le_of_ble_eq_true rfl, Nat.le_of_ble_eq_true rfl⟩ (fun H locs hPz1 hW hS => ?_)
  refine W.eq (g2 := F0 m 10 ls [.int r3, .ref (ad p0)]) rfl ?_
  replace hf := obE hf
  obtain ⟨z5, hz5, hf⟩ := hf
  obtain ⟨r7, S6⟩ := z5
  replace hf := ltE (ltE hf r7 rfl) S6 rfl
  refine x_callV (As := [.int r3]) (rest := []) (o := (some (.int r7))) (S1 := S6) hC hl.1 hW hS hGs hA tp0 rfl (show vwCl[10]? = some (RX11, TX11, 30) ∧ 10 < 11 from ⟨rfl, by decide⟩) (c_X11_passes l g ad n K H.size F S2 p0 r3 tp0 r7 S6 hz5) (cwV 1 hts gX11_count_X11_passes rfl rfl rfl (by decide +kernel) ⟨Nat.le_of_ble_eq_true rfl, Nat.le_of_ble_eq_true rfl⟩) rfl rfl (Nat.le_of_ble_eq_true rfl) dX11_count_10 ⟨Nat.le_of_ble_eq_true rfl, Nat.le_of_ble_eq_true rfl⟩ (fun H locs hPz5 hW hS => ?_)
  refine W.eq (g2 := F0 m 13 ls [.int r7]) rfl ?_
  refine lv_if_eq (tgt := 27) hx hb dX11_count_13 (by decide) (fun c9 => ?_) (fun c9 => ?_)
  · replace hf := ifT c9 hf
    refine lv_iconst (v := 0) hx hb dX11_count_27 (by decide) ?_
    obtain ⟨e1, e2⟩ := so2 hf
    subst e1
    subst e2
    exact W.iret (v := 0) hx hb hr (fun t ht hWm => ⟨⟨rfl, by unfold QB; rw [ht]; exact ⟨hW, trivial⟩⟩, hS.F ht⟩) hS.2.2 dX11_count_28 hlk
  · replace hf := ifF c9 hf
    refine lv_aload_n hx hb dX11_count_16 rfl (lv_at hl 0 rfl) ?_
    replace hf := obE hf
    obtain ⟨j10, qj10, hf⟩ := hf
    have tj10 := x_rt hW qj10 12 ⟨by decide, rfl⟩
    refine x_getr 1001 (ci := 10) (C := RX11) (T := TX11) (N := 30) 1 hC hin11 hW tp0 rfl rfl ⟨by decide, by decide, rfl, rfl⟩ rfl w_1 dX11_count_17 qj10 ?_
    refine lv_iconst (v := 3) hx hb dX11_count_20 (by decide) ?_
    refine lv_iload_n hx hb dX11_count_21 rfl (lv_at hl 1 rfl) ?_
    refine lv_iadd hx hb dX11_count_22 ?_
    replace hf := ckiE hf
    obtain ⟨h11, hf⟩ := hf
    refine x_iald hC hW tj10 rfl rfl h11 dX11_count_23 ?_
    refine lv_goto (tgt := 28) hx hb dX11_count_24 (by decide) ?_
    obtain ⟨e1, e2⟩ := so2 hf
    subst e1
    subst e2
    exact W.iret (v := ai S6 j10 (Int32.toNatClampNeg (3 + p1))) hx hb hr (fun t ht hWm => ⟨⟨rfl, by unfold QB; rw [ht]; exact ⟨hW, trivial⟩⟩, hS.F ht⟩) hS.2.2 dX11_count_28 hlk
set_option maxHeartbeats 4000000 in
set_option maxRecDepth 100000 in
theorem c_X11_members (l : Launch) (g : GP) (ad : Nat → Nat) (n : Nat) (K : Nat → Nat) (sz F : Nat) (S0 : St) (p0 : Nat) (p1 : Int32) (tp0 : p0 < n ∧ K p0 = 10) (r9 : Int32) (S9 : St) (hf : f_X11_members F S0 p0 p1 = some (r9, S9)) : Met l yX11_members wsX11_members { frames := 2, cells := 0, slots := 0, locals := 44 } (va_Pc [.ref (ad p0), .int p1] (PB g ad n K S0 sz)) (QR (some (.int r9)) (QB g ad n K S9 (dA ad n sz) (True)) (dA ad n sz)) 0 0 (dA ad n sz) := by
  refine Met.ofW (cc := cX11_members) (maxL := 2) (ret := (some .int)) (by decide) rfl ?_
  intro p e s m args below meth c s₁ B hml hv
  obtain ⟨rfl, hsz, hW, hK, hGs⟩ := x_start hv
  subst hsz
  have hx := B.exec
  have hb := B.bytes
  have hr := B.returns
  have hts := atoms_spec (ws := wsX11_members) B.pre
  have hown : s.vm.findClass RX11 = some m.cls := findClass_of_methodNamed B.named
  have hlk := B.notSynchronized
  have hC : Cx g p s m _ c cX11_members RX11 wsX11_members 2 := ⟨hx, hb, hml, hown, hts, hK⟩
  have hA : ∀ q : Nat, s.heap.size ≤ q → dA ad n s.heap.size q := fun q h => Or.inr h
  have hS : va_S (dA ad n s.heap.size) s.heap s.heap [] := va_S.rf
  have hl := lv_entry ([.ref (ad p0), .int p1]) (n := 2) (Nat.le_of_ble_eq_true rfl)
  rw [lg_entry_eq]
  generalize (lg_sl ([.ref (ad p0), .int p1]) ++ List.replicate (2 - (lg_sl ([.ref (ad p0), .int p1])).length) Slot.unset).toArray = ls at hl ⊢
  have hl : lv_has ls 2 [(0, .ref (ad p0)), (1, .int p1)] := hl
  have hin11 : ∀ w ∈ wsX110, w ∈ wsX11_members := by decide +kernel
  have w_0 := hts (.fieldLink RX11 17 "MailSpoolModel" "net" "[I") (by decide +kernel)
  have hGE := hGs.2.2.2.2.2.2.1
  have hGM := hGs.2.2.2.2.2.2.2.1
  unfold f_X11_members at hf
  refine lv_aload_n hx hb dX11_members_0 rfl (lv_at hl 0 rfl) ?_
  refine lv_iload_n hx hb dX11_members_1 rfl (lv_at hl 1 rfl) ?_
  refine lv_i2l (v := p1.toInt64) hx hb dX11_members_2 rfl ?_
  refine lv_lconst (v := 0) hx hb dX11_members_3 (by decide) ?_
  refine lv_aload_n hx hb dX11_members_4 rfl (lv_at hl 0 rfl) ?_
  replace hf := obE hf
  obtain ⟨j1, qj1, hf⟩ := hf
  have tj1 := x_rt hW qj1 12 ⟨by decide, rfl⟩
  refine x_getr 1001 (ci := 10) (C := RX11) (T := TX11) (N := 30) 1 hC hin11 hW tp0 rfl rfl ⟨by decide, by decide, rfl, rfl⟩ rfl w_0 dX11_members_5 qj1 ?_
  refine lv_iconst (v := 5) hx hb dX11_members_8 (by decide) ?_
  replace hf := ckiE hf
  obtain ⟨h2, hf⟩ := hf
  refine x_iald hC hW tj1 rfl rfl h2 dX11_members_9 ?_
  refine lv_iconst (v := 1) hx hb dX11_members_10 (by decide) ?_
  refine lv_isub hx hb dX11_members_11 ?_
  refine lv_i2l (v := ((ai S0 j1 (Int32.toNatClampNeg 5)) - 1).toInt64) hx hb dX11_members_12 rfl ?_
  replace hf := obE hf
  obtain ⟨z3, hz3, hf⟩ := hf
  obtain ⟨r5, S4⟩ := z3
  replace hf := ltE (ltE hf r5 rfl) S4 rfl
  refine x_callS (As := [.long (p1.toInt64), .long (0), .long (((ai S0 j1 (Int32.toNatClampNeg 5)) - 1).toInt64)]) (rest := [.ref (ad p0)]) (o := (some (.int r5))) (S1 := S4) hC hl.1 hW hS hGs hA (c_X11_in l g ad n K s.heap.size F S0 p1.toInt64 ((0 : Int64)) (((ai S0 j1 (Int32.toNatClampNeg 5)) - 1).toInt64) r5 S4 hz3) (va_cwS 3 hts gX11_members_X11_in rfl rfl rfl (by decide +kernel) ⟨Nat.le_of_ble_eq_true rfl, Nat.le_of_ble_eq_true rfl⟩) rfl rfl (Nat.le_of_ble_eq_true rfl) dX11_members_13 ⟨Nat.le_of_ble_eq_true rfl, Nat.le_of_ble_eq_true rfl⟩ (fun H locs hPz3 hW hS => ?_)
  refine W.eq (g2 := F0 m 16 ls [.int r5, .ref (ad p0)]) rfl ?_
  replace hf := obE hf
  obtain ⟨z7, hz7, hf⟩ := hf
  obtain ⟨r9, S8⟩ := z7
  replace hf := ltE (ltE hf r9 rfl) S8 rfl
  refine x_callV (As := [.int r5]) (rest := []) (o := (some (.int r9))) (S1 := S8) hC hl.1 hW hS hGs hA tp0 rfl (show vwCl[10]? = some (RX11, TX11, 30) ∧ 10 < 11 from ⟨rfl, by decide⟩) (c_X11_passes l g ad n K H.size F S4 p0 r5 tp0 r9 S8 hz7) (cwV 1 hts gX11_members_X11_passes rfl rfl rfl (by decide +kernel) ⟨Nat.le_of_ble_eq_true rfl, Nat.le_of_ble_eq_true rfl⟩) rfl rfl (Nat.le_of_ble_eq_true rfl) dX11_members_16 ⟨Nat.le_of_ble_eq_true rfl, Nat.le_of_ble_eq_true rfl⟩ (fun H locs hPz7 hW hS => ?_)
  refine W.eq (g2 := F0 m 19 ls [.int r9]) rfl ?_
  refine lv_if_eq (tgt := 40) hx hb dX11_members_19 (by decide) (fun c11 => ?_) (fun c11 => ?_)
  · replace hf := ifT c11 hf
    refine lv_iconst (v := 0) hx hb dX11_members_40 (by decide) ?_
    obtain ⟨e1, e2⟩ := so2 hf
    subst e1
    subst e2
    exact W.iret (v := 0) hx hb hr (fun t ht hWm => ⟨⟨rfl, by unfold QB; rw [ht]; exact ⟨hW, trivial⟩⟩, hS.F ht⟩) hS.2.2 dX11_members_41 hlk
  · replace hf := ifF c11 hf
    refine lv_aload_n hx hb dX11_members_22 rfl (lv_at hl 0 rfl) ?_
    replace hf := obE hf
    obtain ⟨j12, qj12, hf⟩ := hf
    have tj12 := x_rt hW qj12 12 ⟨by decide, rfl⟩
    refine x_getr 1001 (ci := 10) (C := RX11) (T := TX11) (N := 30) 1 hC hin11 hW tp0 rfl rfl ⟨by decide, by decide, rfl, rfl⟩ rfl w_0 dX11_members_23 qj12 ?_
    refine lv_sipush (v := 163) hx hb dX11_members_26 (by decide) ?_
    refine lv_bipush (v := 7) hx hb dX11_members_29 (by decide) ?_
    refine lv_iload_n hx hb dX11_members_31 rfl (lv_at hl 1 rfl) ?_
    refine lv_imul hx hb dX11_members_32 ?_
    refine lv_iadd hx hb dX11_members_33 ?_
    refine lv_iconst (v := 0) hx hb dX11_members_34 (by decide) ?_
    refine lv_iadd hx hb dX11_members_35 ?_
    replace hf := ckiE hf
    obtain ⟨h13, hf⟩ := hf
    refine x_iald hC hW tj12 rfl rfl h13 dX11_members_36 ?_
    refine lv_goto (tgt := 41) hx hb dX11_members_37 (by decide) ?_
    obtain ⟨e1, e2⟩ := so2 hf
    subst e1
    subst e2
    exact W.iret (v := ai S8 j12 (Int32.toNatClampNeg ((163 + (7 * p1)) + 0))) hx hb hr (fun t ht hWm => ⟨⟨rfl, by unfold QB; rw [ht]; exact ⟨hW, trivial⟩⟩, hS.F ht⟩) hS.2.2 dX11_members_41 hlk
set_option maxHeartbeats 4000000 in
set_option maxRecDepth 100000 in
theorem c_X11_retention (l : Launch) (g : GP) (ad : Nat → Nat) (n : Nat) (K : Nat → Nat) (sz F : Nat) (S0 : St) (p0 : Nat) (p1 : Int32) (p2 : Int32) (tp0 : p0 < n ∧ K p0 = 10) (r9 : Int32) (S9 : St) (hf : f_X11_retention F S0 p0 p1 p2 = some (r9, S9)) : Met l yX11_retention wsX11_retention { frames := 2, cells := 0, slots := 0, locals := 46 } (va_Pc [.ref (ad p0), .int p1, .int p2] (PB g ad n K S0 sz)) (QR (some (.int r9)) (QB g ad n K S9 (dA ad n sz) (True)) (dA ad n sz)) 0 0 (dA ad n sz) := by
  refine Met.ofW (cc := cX11_retention) (maxL := 3) (ret := (some .int)) (by decide) rfl ?_
  intro p e s m args below meth c s₁ B hml hv
  obtain ⟨rfl, hsz, hW, hK, hGs⟩ := x_start hv
  subst hsz
  have hx := B.exec
  have hb := B.bytes
  have hr := B.returns
  have hts := atoms_spec (ws := wsX11_retention) B.pre
  have hown : s.vm.findClass RX11 = some m.cls := findClass_of_methodNamed B.named
  have hlk := B.notSynchronized
  have hC : Cx g p s m _ c cX11_retention RX11 wsX11_retention 3 := ⟨hx, hb, hml, hown, hts, hK⟩
  have hA : ∀ q : Nat, s.heap.size ≤ q → dA ad n s.heap.size q := fun q h => Or.inr h
  have hS : va_S (dA ad n s.heap.size) s.heap s.heap [] := va_S.rf
  have hl := lv_entry ([.ref (ad p0), .int p1, .int p2]) (n := 3) (Nat.le_of_ble_eq_true rfl)
  rw [lg_entry_eq]
  generalize (lg_sl ([.ref (ad p0), .int p1, .int p2]) ++ List.replicate (3 - (lg_sl ([.ref (ad p0), .int p1, .int p2])).length) Slot.unset).toArray = ls at hl ⊢
  have hl : lv_has ls 3 [(0, .ref (ad p0)), (1, .int p1), (2, .int p2)] := hl
  have w_0 := hts (.constantLong RX11 82 (2)) (by decide +kernel)
  have hGE := hGs.2.2.2.2.2.2.1
  have hGM := hGs.2.2.2.2.2.2.2.1
  unfold f_X11_retention at hf
  refine lv_aload_n hx hb dX11_retention_0 rfl (lv_at hl 0 rfl) ?_
  refine lv_aload_n hx hb dX11_retention_1 rfl (lv_at hl 0 rfl) ?_
  refine lv_iload_n hx hb dX11_retention_2 rfl (lv_at hl 1 rfl) ?_
  replace hf := obE hf
  obtain ⟨z1, hz1, hf⟩ := hf
  obtain ⟨r3, S2⟩ := z1
  replace hf := ltE (ltE hf r3 rfl) S2 rfl
  refine x_callV (As := [.int p1]) (rest := [.ref (ad p0)]) (o := (some (.int r3))) (S1 := S2) hC hl.1 hW hS hGs hA tp0 rfl (show vwCl[10]? = some (RX11, TX11, 30) ∧ 10 < 11 from ⟨rfl, by decide⟩) (c_X11_isClass l g ad n K s.heap.size F S0 p0 p1 tp0 r3 S2 hz1) (cwV 1 hts gX11_retention_X11_isClass rfl rfl rfl (by decide +kernel) ⟨Nat.le_of_ble_eq_true rfl, Nat.le_of_ble_eq_true rfl⟩) rfl rfl (Nat.le_of_ble_eq_true rfl) dX11_retention_3 ⟨Nat.le_of_ble_eq_true rfl, Nat.le_of_ble_eq_true rfl⟩ (fun H locs hPz1 hW hS => ?_)
  refine W.eq (g2 := F0 m 6 ls [.int r3, .ref (ad p0)]) rfl ?_
  refine lv_iload_n hx hb dX11_retention_6 rfl (lv_at hl 2 rfl) ?_
  refine lv_i2l (v := p2.toInt64) hx hb dX11_retention_7 rfl ?_
  refine lv_lconst (v := 0) hx hb dX11_retention_8 (by decide) ?_
  refine lv_ldc2 (v := (2)) hx hb hown w_0 dX11_retention_9 ?_
  replace hf := obE hf
  obtain ⟨z5, hz5, hf⟩ := hf
  obtain ⟨r7, S6⟩ := z5
  replace hf := ltE (ltE hf r7 rfl) S6 rfl
  refine x_callS (As := [.long (p2.toInt64), .long (0), .long ((2))]) (rest := [.int r3, .ref (ad p0)]) (o := (some (.int r7))) (S1 := S6) hC hl.1 hW hS hGs hA (c_X11_in l g ad n K H.size F S2 p2.toInt64 ((0 : Int64)) (((2) : Int64)) r7 S6 hz5) (va_cwS 3 hts gX11_retention_X11_in rfl rfl rfl (by decide +kernel) ⟨Nat.le_of_ble_eq_true rfl, Nat.le_of_ble_eq_true rfl⟩) rfl rfl (Nat.le_of_ble_eq_true rfl) dX11_retention_12 ⟨Nat.le_of_ble_eq_true rfl, Nat.le_of_ble_eq_true rfl⟩ (fun H locs hPz5 hW hS => ?_)
  refine W.eq (g2 := F0 m 15 ls [.int r7, .int r3, .ref (ad p0)]) rfl ?_
  replace hf := obE hf
  obtain ⟨z9, hz9, hf⟩ := hf
  obtain ⟨r11, S10⟩ := z9
  replace hf := ltE (ltE hf r11 rfl) S10 rfl
  refine x_callV (As := [.int r3, .int r7]) (rest := []) (o := (some (.int r11))) (S1 := S10) hC hl.1 hW hS hGs hA tp0 rfl (show vwCl[10]? = some (RX11, TX11, 30) ∧ 10 < 11 from ⟨rfl, by decide⟩) (c_X11_passes2 l g ad n K H.size F S6 p0 r3 r7 tp0 r11 S10 hz9) (cwV 2 hts gX11_retention_X11_passes2 rfl rfl rfl (by decide +kernel) ⟨Nat.le_of_ble_eq_true rfl, Nat.le_of_ble_eq_true rfl⟩) rfl rfl (Nat.le_of_ble_eq_true rfl) dX11_retention_15 ⟨Nat.le_of_ble_eq_true rfl, Nat.le_of_ble_eq_true rfl⟩ (fun H locs hPz9 hW hS => ?_)
  refine W.eq (g2 := F0 m 18 ls [.int r11]) rfl ?_
  refine lv_if_eq (tgt := 30) hx hb dX11_retention_18 (by decide) (fun c13 => ?_) (fun c13 => ?_)
  · replace hf := ifT c13 hf
    refine lv_iconst (v := 0) hx hb dX11_retention_30 (by decide) ?_
    obtain ⟨e1, e2⟩ := so2 hf
    subst e1
    subst e2
    exact W.iret (v := 0) hx hb hr (fun t ht hWm => ⟨⟨rfl, by unfold QB; rw [ht]; exact ⟨hW, trivial⟩⟩, hS.F ht⟩) hS.2.2 dX11_retention_31 hlk
  · replace hf := ifF c13 hf
    refine lv_aload_n hx hb dX11_retention_21 rfl (lv_at hl 0 rfl) ?_
    refine lv_iload_n hx hb dX11_retention_22 rfl (lv_at hl 1 rfl) ?_
    refine lv_iload_n hx hb dX11_retention_23 rfl (lv_at hl 2 rfl) ?_
    replace hf := obE hf
    obtain ⟨z14, hz14, hf⟩ := hf
    obtain ⟨r16, S15⟩ := z14
    replace hf := ltE (ltE hf r16 rfl) S15 rfl
    refine x_callV (As := [.int p1, .int p2]) (rest := []) (o := (some (.int r16))) (S1 := S15) hC hl.1 hW hS hGs hA tp0 rfl (show vwCl[10]? = some (RX11, TX11, 30) ∧ 10 < 11 from ⟨rfl, by decide⟩) (c_X11_classValue l g ad n K H.size F S10 p0 p1 p2 tp0 r16 S15 hz14) (cwV 2 hts gX11_retention_X11_classValue rfl rfl rfl (by decide +kernel) ⟨Nat.le_of_ble_eq_true rfl, Nat.le_of_ble_eq_true rfl⟩) rfl rfl (Nat.le_of_ble_eq_true rfl) dX11_retention_24 ⟨Nat.le_of_ble_eq_true rfl, Nat.le_of_ble_eq_true rfl⟩ (fun H locs hPz14 hW hS => ?_)
    refine W.eq (g2 := F0 m 27 ls [.int r16]) rfl ?_
    refine lv_goto (tgt := 31) hx hb dX11_retention_27 (by decide) ?_
    obtain ⟨e1, e2⟩ := so2 hf
    subst e1
    subst e2
    exact W.iret (v := r16) hx hb hr (fun t ht hWm => ⟨⟨rfl, by unfold QB; rw [ht]; exact ⟨hW, trivial⟩⟩, hS.F ht⟩) hS.2.2 dX11_retention_31 hlk
set_option maxHeartbeats 4000000 in
set_option maxRecDepth 100000 in
theorem c_X11_ladder (l : Launch) (g : GP) (ad : Nat → Nat) (n : Nat) (K : Nat → Nat) (sz F : Nat) (S0 : St) (p0 : Nat) (p1 : Int32) (tp0 : p0 < n ∧ K p0 = 10) (r9 : Int32) (S9 : St) (hf : f_X11_ladder F S0 p0 p1 = some (r9, S9)) : Met l yX11_ladder wsX11_ladder { frames := 1, cells := 0, slots := 0, locals := 22 } (va_Pc [.ref (ad p0), .int p1] (PB g ad n K S0 sz)) (QR (some (.int r9)) (QB g ad n K S9 (dA ad n sz) (True)) (dA ad n sz)) 0 0 (dA ad n sz) := by
  refine Met.ofW (cc := cX11_ladder) (maxL := 4) (ret := (some .int)) (by decide) rfl ?_
  intro p e s m args below meth c s₁ B hml hv
  obtain ⟨rfl, hsz, hW, hK, hGs⟩ := x_start hv
  subst hsz
  have hx := B.exec
  have hb := B.bytes
  have hr := B.returns
  have hts := atoms_spec (ws := wsX11_ladder) B.pre
  have hown : s.vm.findClass RX11 = some m.cls := findClass_of_methodNamed B.named
  have hlk := B.notSynchronized
  have hC : Cx g p s m _ c cX11_ladder RX11 wsX11_ladder 4 := ⟨hx, hb, hml, hown, hts, hK⟩
  have hA : ∀ q : Nat, s.heap.size ≤ q → dA ad n s.heap.size q := fun q h => Or.inr h
  have hS : va_S (dA ad n s.heap.size) s.heap s.heap [] := va_S.rf
  have hl := lv_entry ([.ref (ad p0), .int p1]) (n := 4) (Nat.le_of_ble_eq_true rfl)
  rw [lg_entry_eq]
  generalize (lg_sl ([.ref (ad p0), .int p1]) ++ List.replicate (4 - (lg_sl ([.ref (ad p0), .int p1])).length) Slot.unset).toArray = ls at hl ⊢
  have hl : lv_has ls 4 [(0, .ref (ad p0)), (1, .int p1)] := hl
  have hGE := hGs.2.2.2.2.2.2.1
  have hGM := hGs.2.2.2.2.2.2.2.1
  have L4 : ∀ (fu4 : Nat) (S0 : St) (v0 : Nat) (v2 : Int32) (v3 : Int32) (tv0 : v0 < n ∧ K v0 = 10) (H : Heap) (locs : List Loc) (ls : Array Slot), f_X11_ladder_L4 F fu4 S0 v0 v2 v3 = some (r9, S9) → Wb g ad n K S0 (dA ad n s.heap.size) H → va_S (dA ad n s.heap.size) s.heap H locs → lv_has ls 4 [(0, .ref (ad v0)), (2, .int v2), (3, .int v3)] → W p l e (headSpec wsX11_ladder { frames := 1, cells := 0, slots := 0, locals := 22 }).room s m (List.toArray [.ref (ad p0), .int p1]) below meth c H locs 0 0 (MQ below (QR (some (.int r9)) (QB g ad n K S9 (dA ad n s.heap.size) (True)) (dA ad n s.heap.size)) (List.toArray [.ref (ad p0), .int p1]) s 0 0 (dA ad n s.heap.size)) (F0 m 4 ls []) := by
    intro fu4
    induction fu4 with
    | zero =>
      intro S0 v0 v2 v3 tv0 H locs ls hf
      cases hf
    | succ fu4 ih4 =>
      intro S0 v0 v2 v3 tv0 H locs ls hf hW hS hl
      unfold f_X11_ladder_L4 at hf
      refine lv_iload_n hx hb dX11_ladder_4 rfl (lv_at hl 2 rfl) ?_
      refine lv_iconst (v := -1) hx hb dX11_ladder_5 (by decide) ?_
      refine lv_icmp_eq (tgt := 40) hx hb dX11_ladder_6 (by decide) (fun c16 => ?_) (fun c16 => ?_)
      · replace hf := ifT c16 hf
        refine lv_iload_n hx hb dX11_ladder_40 rfl (lv_at hl 1 rfl) ?_
        obtain ⟨e1, e2⟩ := so2 hf
        subst e1
        subst e2
        exact W.iret (v := v2) hx hb hr (fun t ht hWm => ⟨⟨rfl, by unfold QB; rw [ht]; exact ⟨hW, trivial⟩⟩, hS.F ht⟩) hS.2.2 dX11_ladder_41 hlk
      · replace hf := ifF c16 hf
        refine lv_aload_n hx hb dX11_ladder_9 rfl (lv_at hl 0 rfl) ?_
        refine lv_iload_n hx hb dX11_ladder_10 rfl (lv_at hl 2 rfl) ?_
        refine lv_iconst (v := 0) hx hb dX11_ladder_11 (by decide) ?_
        replace hf := obE hf
        obtain ⟨z17, hz17, hf⟩ := hf
        obtain ⟨r19, S18⟩ := z17
        replace hf := ltE (ltE hf r19 rfl) S18 rfl
        refine x_callV (As := [.int v3, .int 0]) (rest := []) (o := (some (.int r19))) (S1 := S18) hC hl.1 hW hS hGs hA tv0 rfl (show vwCl[10]? = some (RX11, TX11, 30) ∧ 10 < 11 from ⟨rfl, by decide⟩) (c_X11_classValue l g ad n K H.size F S0 v0 v3 ((0 : Int32)) tv0 r19 S18 hz17) (cwV 2 hts gX11_ladder_X11_classValue rfl rfl rfl (by decide +kernel) ⟨Nat.le_of_ble_eq_true rfl, Nat.le_of_ble_eq_true rfl⟩) rfl rfl (Nat.le_of_ble_eq_true rfl) dX11_ladder_12 ⟨Nat.le_of_ble_eq_true rfl, Nat.le_of_ble_eq_true rfl⟩ (fun H locs hPz17 hW hS => ?_)
        refine W.eq (g2 := F0 m 15 ls [.int r19]) rfl ?_
        refine lv_iconst (v := -1) hx hb dX11_ladder_15 (by decide) ?_
        refine lv_icmp_ne (tgt := 21) hx hb dX11_ladder_16 (by decide) (fun c21 => ?_) (fun c21 => ?_)
        · replace hf := ifT c21 hf
          refine lv_iload_n hx hb dX11_ladder_21 rfl (lv_at hl 1 rfl) ?_
          refine lv_aload_n hx hb dX11_ladder_22 rfl (lv_at hl 0 rfl) ?_
          refine lv_iload_n hx hb dX11_ladder_23 rfl (lv_at hl 2 rfl) ?_
          refine lv_iconst (v := 0) hx hb dX11_ladder_24 (by decide) ?_
          replace hf := obE hf
          obtain ⟨z22, hz22, hf⟩ := hf
          obtain ⟨r24, S23⟩ := z22
          replace hf := ltE (ltE hf r24 rfl) S23 rfl
          refine x_callV (As := [.int v3, .int 0]) (rest := [.int v2]) (o := (some (.int r24))) (S1 := S23) hC hl.1 hW hS hGs hA tv0 rfl (show vwCl[10]? = some (RX11, TX11, 30) ∧ 10 < 11 from ⟨rfl, by decide⟩) (c_X11_classValue l g ad n K H.size F S18 v0 v3 ((0 : Int32)) tv0 r24 S23 hz22) (cwV 2 hts gX11_ladder_X11_classValue rfl rfl rfl (by decide +kernel) ⟨Nat.le_of_ble_eq_true rfl, Nat.le_of_ble_eq_true rfl⟩) rfl rfl (Nat.le_of_ble_eq_true rfl) dX11_ladder_25 ⟨Nat.le_of_ble_eq_true rfl, Nat.le_of_ble_eq_true rfl⟩ (fun H locs hPz22 hW hS => ?_)
          refine W.eq (g2 := F0 m 28 ls [.int r24, .int v2]) rfl ?_
          refine lv_iadd hx hb dX11_ladder_28 ?_
          refine lv_topi (fun x26 ex26 => ?_)
          replace hf := ltE hf x26 ex26
          refine lv_istore_n (lv' := [(2, .int x26), (0, .ref (ad v0)), (3, .int v3)]) hx hb dX11_ladder_29 rfl hl (by decide) rfl (fun ls hl => ?_)
          refine lv_aload_n hx hb dX11_ladder_30 rfl (lv_at hl 1 rfl) ?_
          refine lv_iload_n hx hb dX11_ladder_31 rfl (lv_at hl 2 rfl) ?_
          refine lv_iconst (v := 2) hx hb dX11_ladder_32 (by decide) ?_
          replace hf := obE hf
          obtain ⟨z27, hz27, hf⟩ := hf
          obtain ⟨r29, S28⟩ := z27
          replace hf := ltE (ltE hf r29 rfl) S28 rfl
          refine x_callV (As := [.int v3, .int 2]) (rest := []) (o := (some (.int r29))) (S1 := S28) hC hl.1 hW hS hGs hA tv0 rfl (show vwCl[10]? = some (RX11, TX11, 30) ∧ 10 < 11 from ⟨rfl, by decide⟩) (c_X11_classValue l g ad n K H.size F S23 v0 v3 ((2 : Int32)) tv0 r29 S28 hz27) (cwV 2 hts gX11_ladder_X11_classValue rfl rfl rfl (by decide +kernel) ⟨Nat.le_of_ble_eq_true rfl, Nat.le_of_ble_eq_true rfl⟩) rfl rfl (Nat.le_of_ble_eq_true rfl) dX11_ladder_33 ⟨Nat.le_of_ble_eq_true rfl, Nat.le_of_ble_eq_true rfl⟩ (fun H locs hPz27 hW hS => ?_)
          refine W.eq (g2 := F0 m 36 ls [.int r29]) rfl ?_
          refine lv_istore_n (lv' := [(3, .int r29), (2, .int x26), (0, .ref (ad v0))]) hx hb dX11_ladder_36 rfl hl (by decide) rfl (fun ls hl => ?_)
          refine lv_goto (tgt := 4) hx hb dX11_ladder_37 (by decide) ?_
          exact ih4 S28 v0 x26 r29 tv0 _ _ _ hf hW hS (lv_sub hl [2, 1, 0] rfl)
        · replace hf := ifF (fun q => q c21) hf
          refine lv_iconst (v := -1) hx hb dX11_ladder_19 (by decide) ?_
          obtain ⟨e1, e2⟩ := so2 hf
          subst e1
          subst e2
          exact W.iret (v := (-1)) hx hb hr (fun t ht hWm => ⟨⟨rfl, by unfold QB; rw [ht]; exact ⟨hW, trivial⟩⟩, hS.F ht⟩) hS.2.2 dX11_ladder_20 hlk
  unfold f_X11_ladder at hf
  refine lv_iconst (v := 0) hx hb dX11_ladder_0 (by decide) ?_
  refine lv_istore_n (lv' := [(2, .int 0), (0, .ref (ad p0)), (1, .int p1)]) hx hb dX11_ladder_1 rfl hl (by decide) rfl (fun ls hl => ?_)
  refine lv_iload_n hx hb dX11_ladder_2 rfl (lv_at hl 2 rfl) ?_
  refine lv_istore_n (lv' := [(3, .int p1), (2, .int 0), (0, .ref (ad p0)), (1, .int p1)]) hx hb dX11_ladder_3 rfl hl (by decide) rfl (fun ls hl => ?_)
  exact L4 F S0 p0 0 p1 tp0 _ _ _ hf hW hS (lv_sub hl [2, 1, 0] rfl)
set_option maxHeartbeats 4000000 in
set_option maxRecDepth 100000 in
theorem c_X11_ladderDays (l : Launch) (g : GP) (ad : Nat → Nat) (n : Nat) (K : Nat → Nat) (sz F : Nat) (S0 : St) (p0 : Nat) (p1 : Int32) (tp0 : p0 < n ∧ K p0 = 10) (r9 : Int32) (S9 : St) (hf : f_X11_ladderDays F S0 p0 p1 = some (r9, S9)) : Met l yX11_ladderDays wsX11_ladderDays { frames := 2, cells := 0, slots := 0, locals := 46 } (va_Pc [.ref (ad p0), .int p1] (PB g ad n K S0 sz)) (QR (some (.int r9)) (QB g ad n K S9 (dA ad n sz) (True)) (dA ad n sz)) 0 0 (dA ad n sz) := by
  refine Met.ofW (cc := cX11_ladderDays) (maxL := 2) (ret := (some .int)) (by decide) rfl ?_
  intro p e s m args below meth c s₁ B hml hv
  obtain ⟨rfl, hsz, hW, hK, hGs⟩ := x_start hv
  subst hsz
  have hx := B.exec
  have hb := B.bytes
  have hr := B.returns
  have hts := atoms_spec (ws := wsX11_ladderDays) B.pre
  have hown : s.vm.findClass RX11 = some m.cls := findClass_of_methodNamed B.named
  have hlk := B.notSynchronized
  have hC : Cx g p s m _ c cX11_ladderDays RX11 wsX11_ladderDays 2 := ⟨hx, hb, hml, hown, hts, hK⟩
  have hA : ∀ q : Nat, s.heap.size ≤ q → dA ad n s.heap.size q := fun q h => Or.inr h
  have hS : va_S (dA ad n s.heap.size) s.heap s.heap [] := va_S.rf
  have hl := lv_entry ([.ref (ad p0), .int p1]) (n := 2) (Nat.le_of_ble_eq_true rfl)
  rw [lg_entry_eq]
  generalize (lg_sl ([.ref (ad p0), .int p1]) ++ List.replicate (2 - (lg_sl ([.ref (ad p0), .int p1])).length) Slot.unset).toArray = ls at hl ⊢
  have hl : lv_has ls 2 [(0, .ref (ad p0)), (1, .int p1)] := hl
  have hGE := hGs.2.2.2.2.2.2.1
  have hGM := hGs.2.2.2.2.2.2.2.1
  unfold f_X11_ladderDays at hf
  refine lv_aload_n hx hb dX11_ladderDays_0 rfl (lv_at hl 0 rfl) ?_
  refine lv_aload_n hx hb dX11_ladderDays_1 rfl (lv_at hl 0 rfl) ?_
  refine lv_iload_n hx hb dX11_ladderDays_2 rfl (lv_at hl 1 rfl) ?_
  replace hf := obE hf
  obtain ⟨z1, hz1, hf⟩ := hf
  obtain ⟨r3, S2⟩ := z1
  replace hf := ltE (ltE hf r3 rfl) S2 rfl
  refine x_callV (As := [.int p1]) (rest := [.ref (ad p0)]) (o := (some (.int r3))) (S1 := S2) hC hl.1 hW hS hGs hA tp0 rfl (show vwCl[10]? = some (RX11, TX11, 30) ∧ 10 < 11 from ⟨rfl, by decide⟩) (c_X11_isClass l g ad n K s.heap.size F S0 p0 p1 tp0 r3 S2 hz1) (cwV 1 hts gX11_ladderDays_X11_isClass rfl rfl rfl (by decide +kernel) ⟨Nat.le_of_ble_eq_true rfl, Nat.le_of_ble_eq_true rfl⟩) rfl rfl (Nat.le_of_ble_eq_true rfl) dX11_ladderDays_3 ⟨Nat.le_of_ble_eq_true rfl, Nat.le_of_ble_eq_true rfl⟩ (fun H locs hPz1 hW hS => ?_)
  refine W.eq (g2 := F0 m 6 ls [.int r3, .ref (ad p0)]) rfl ?_
  replace hf := obE hf
  obtain ⟨z5, hz5, hf⟩ := hf
  obtain ⟨r7, S6⟩ := z5
  replace hf := ltE (ltE hf r7 rfl) S6 rfl
  refine x_callV (As := [.int r3]) (rest := []) (o := (some (.int r7))) (S1 := S6) hC hl.1 hW hS hGs hA tp0 rfl (show vwCl[10]? = some (RX11, TX11, 30) ∧ 10 < 11 from ⟨rfl, by decide⟩) (c_X11_passes l g ad n K H.size F S2 p0 r3 tp0 r7 S6 hz5) (cwV 1 hts gX11_ladderDays_X11_passes rfl rfl rfl (by decide +kernel) ⟨Nat.le_of_ble_eq_true rfl, Nat.le_of_ble_eq_true rfl⟩) rfl rfl (Nat.le_of_ble_eq_true rfl) dX11_ladderDays_6 ⟨Nat.le_of_ble_eq_true rfl, Nat.le_of_ble_eq_true rfl⟩ (fun H locs hPz5 hW hS => ?_)
  refine W.eq (g2 := F0 m 9 ls [.int r7]) rfl ?_
  refine lv_if_eq (tgt := 20) hx hb dX11_ladderDays_9 (by decide) (fun c9 => ?_) (fun c9 => ?_)
  · replace hf := ifT c9 hf
    refine lv_iconst (v := 0) hx hb dX11_ladderDays_20 (by decide) ?_
    obtain ⟨e1, e2⟩ := so2 hf
    subst e1
    subst e2
    exact W.iret (v := 0) hx hb hr (fun t ht hWm => ⟨⟨rfl, by unfold QB; rw [ht]; exact ⟨hW, trivial⟩⟩, hS.F ht⟩) hS.2.2 dX11_ladderDays_21 hlk
  · replace hf := ifF c9 hf
    refine lv_aload_n hx hb dX11_ladderDays_12 rfl (lv_at hl 0 rfl) ?_
    refine lv_iload_n hx hb dX11_ladderDays_13 rfl (lv_at hl 1 rfl) ?_
    replace hf := obE hf
    obtain ⟨z10, hz10, hf⟩ := hf
    obtain ⟨r12, S11⟩ := z10
    replace hf := ltE (ltE hf r12 rfl) S11 rfl
    refine x_callV (As := [.int p1]) (rest := []) (o := (some (.int r12))) (S1 := S11) hC hl.1 hW hS hGs hA tp0 rfl (show vwCl[10]? = some (RX11, TX11, 30) ∧ 10 < 11 from ⟨rfl, by decide⟩) (c_X11_ladder l g ad n K H.size F S6 p0 p1 tp0 r12 S11 hz10) (cwV 1 hts gX11_ladderDays_X11_ladder rfl rfl rfl (by decide +kernel) ⟨Nat.le_of_ble_eq_true rfl, Nat.le_of_ble_eq_true rfl⟩) rfl rfl (Nat.le_of_ble_eq_true rfl) dX11_ladderDays_14 ⟨Nat.le_of_ble_eq_true rfl, Nat.le_of_ble_eq_true rfl⟩ (fun H locs hPz10 hW hS => ?_)
    refine W.eq (g2 := F0 m 17 ls [.int r12]) rfl ?_
    refine lv_goto (tgt := 21) hx hb dX11_ladderDays_17 (by decide) ?_
    obtain ⟨e1, e2⟩ := so2 hf
    subst e1
    subst e2
    exact W.iret (v := r12) hx hb hr (fun t ht hWm => ⟨⟨rfl, by unfold QB; rw [ht]; exact ⟨hW, trivial⟩⟩, hS.F ht⟩) hS.2.2 dX11_ladderDays_21 hlk
set_option maxHeartbeats 4000000 in
set_option maxRecDepth 100000 in
theorem c_X11_day (l : Launch) (g : GP) (ad : Nat → Nat) (n : Nat) (K : Nat → Nat) (sz F : Nat) (S0 : St) (p0 : Nat) (tp0 : p0 < n ∧ K p0 = 10) (r9 : Int32) (S9 : St) (hf : f_X11_day F S0 p0 = some (r9, S9)) : Met l yX11_day wsX11_day { frames := 0, cells := 0, slots := 0, locals := 0 } (va_Pc [.ref (ad p0)] (PB g ad n K S0 sz)) (QR (some (.int r9)) (QB g ad n K S9 (dA ad n sz) (True)) (dA ad n sz)) 0 0 (dA ad n sz) := by
  refine Met.ofW (cc := cX11_day) (maxL := 1) (ret := (some .int)) (by decide) rfl ?_
  intro p e s m args below meth c s₁ B hml hv
  obtain ⟨rfl, hsz, hW, hK, hGs⟩ := x_start hv
  subst hsz
  have hx := B.exec
  have hb := B.bytes
  have hr := B.returns
  have hts := atoms_spec (ws := wsX11_day) B.pre
  have hown : s.vm.findClass RX11 = some m.cls := findClass_of_methodNamed B.named
  have hlk := B.notSynchronized
  have hC : Cx g p s m _ c cX11_day RX11 wsX11_day 1 := ⟨hx, hb, hml, hown, hts, hK⟩
  have hA : ∀ q : Nat, s.heap.size ≤ q → dA ad n s.heap.size q := fun q h => Or.inr h
  have hS : va_S (dA ad n s.heap.size) s.heap s.heap [] := va_S.rf
  have hl := lv_entry ([.ref (ad p0)]) (n := 1) (Nat.le_of_ble_eq_true rfl)
  rw [lg_entry_eq]
  generalize (lg_sl ([.ref (ad p0)]) ++ List.replicate (1 - (lg_sl ([.ref (ad p0)])).length) Slot.unset).toArray = ls at hl ⊢
  have hl : lv_has ls 1 [(0, .ref (ad p0))] := hl
  have hin11 : ∀ w ∈ wsX110, w ∈ wsX11_day := by decide +kernel
  have w_0 := hts (.fieldLink RX11 3 "MailSpoolModel" "thrown" "I") (by decide +kernel)
  have w_1 := hts (.fieldLink RX11 17 "MailSpoolModel" "net" "[I") (by decide +kernel)
  have hGE := hGs.2.2.2.2.2.2.1
  have hGM := hGs.2.2.2.2.2.2.2.1
  unfold f_X11_day at hf
  refine lv_aload_n hx hb dX11_day_0 rfl (lv_at hl 0 rfl) ?_
  refine lv_iconst (v := 0) hx hb dX11_day_1 (by decide) ?_
  refine x_puti 1000 (ci := 10) (C := RX11) (T := TX11) (N := 30) (v := 0) (ty := .int) 0 hC hin11 tyX11_ok nmX11 hW hS tp0 rfl rfl ⟨by decide, by decide, rfl, rfl⟩ rfl w_0 rfl (by decide +kernel) rfl rfl dX11_day_2 (fun S1 H locs eS1 hW hS => ?_)
  replace hf := ltE hf S1 eS1
  refine lv_aload_n hx hb dX11_day_5 rfl (lv_at hl 0 rfl) ?_
  replace hf := obE hf
  obtain ⟨j2, qj2, hf⟩ := hf
  have tj2 := x_rt hW qj2 12 ⟨by decide, rfl⟩
  refine x_getr 1001 (ci := 10) (C := RX11) (T := TX11) (N := 30) 1 hC hin11 hW tp0 rfl rfl ⟨by decide, by decide, rfl, rfl⟩ rfl w_1 dX11_day_6 qj2 ?_
  refine lv_iconst (v := 2) hx hb dX11_day_9 (by decide) ?_
  replace hf := ckiE hf
  obtain ⟨h3, hf⟩ := hf
  refine x_iald hC hW tj2 rfl rfl h3 dX11_day_10 ?_
  obtain ⟨e1, e2⟩ := so2 hf
  subst e1
  subst e2
  exact W.iret (v := ai S1 j2 (Int32.toNatClampNeg 2)) hx hb hr (fun t ht hWm => ⟨⟨rfl, by unfold QB; rw [ht]; exact ⟨hW, trivial⟩⟩, hS.F ht⟩) hS.2.2 dX11_day_11 hlk
set_option maxHeartbeats 4000000 in
set_option maxRecDepth 100000 in
theorem c_X11_partByteAt (l : Launch) (g : GP) (ad : Nat → Nat) (n : Nat) (K : Nat → Nat) (sz F : Nat) (S0 : St) (p0 : Nat) (p1 : Int32) (p2 : Int32) (tp0 : p0 < n ∧ K p0 = 10) (r9 : Int32) (S9 : St) (hf : f_X11_partByteAt F S0 p0 p1 p2 = some (r9, S9)) : Met l yX11_partByteAt wsX11_partByteAt { frames := 0, cells := 0, slots := 0, locals := 0 } (va_Pc [.ref (ad p0), .int p1, .int p2] (PB g ad n K S0 sz)) (QR (some (.int r9)) (QB g ad n K S9 (dA ad n sz) (True)) (dA ad n sz)) 0 0 (dA ad n sz) := by
  refine Met.ofW (cc := cX11_partByteAt) (maxL := 3) (ret := (some .int)) (by decide) rfl ?_
  intro p e s m args below meth c s₁ B hml hv
  obtain ⟨rfl, hsz, hW, hK, hGs⟩ := x_start hv
  subst hsz
  have hx := B.exec
  have hb := B.bytes
  have hr := B.returns
  have hts := atoms_spec (ws := wsX11_partByteAt) B.pre
  have hown : s.vm.findClass RX11 = some m.cls := findClass_of_methodNamed B.named
  have hlk := B.notSynchronized
  have hC : Cx g p s m _ c cX11_partByteAt RX11 wsX11_partByteAt 3 := ⟨hx, hb, hml, hown, hts, hK⟩
  have hA : ∀ q : Nat, s.heap.size ≤ q → dA ad n s.heap.size q := fun q h => Or.inr h
  have hS : va_S (dA ad n s.heap.size) s.heap s.heap [] := va_S.rf
  have hl := lv_entry ([.ref (ad p0), .int p1, .int p2]) (n := 3) (Nat.le_of_ble_eq_true rfl)
  rw [lg_entry_eq]
  generalize (lg_sl ([.ref (ad p0), .int p1, .int p2]) ++ List.replicate (3 - (lg_sl ([.ref (ad p0), .int p1, .int p2])).length) Slot.unset).toArray = ls at hl ⊢
  have hl : lv_has ls 3 [(0, .ref (ad p0)), (1, .int p1), (2, .int p2)] := hl
  have hin11 : ∀ w ∈ wsX110, w ∈ wsX11_partByteAt := by decide +kernel
  have w_0 := hts (.fieldLink RX11 25 "MailSpoolModel" "bytes" "[B") (by decide +kernel)
  have hGE := hGs.2.2.2.2.2.2.1
  have hGM := hGs.2.2.2.2.2.2.2.1
  unfold f_X11_partByteAt at hf
  refine lv_aload_n hx hb dX11_partByteAt_0 rfl (lv_at hl 0 rfl) ?_
  replace hf := obE hf
  obtain ⟨j1, qj1, hf⟩ := hf
  have tj1 := x_rt hW qj1 11 ⟨by decide, rfl⟩
  refine x_getr 1003 (ci := 10) (C := RX11) (T := TX11) (N := 30) 3 hC hin11 hW tp0 rfl rfl ⟨by decide, by decide, rfl, rfl⟩ rfl w_0 dX11_partByteAt_1 qj1 ?_
  refine lv_sipush (v := 200) hx hb dX11_partByteAt_4 (by decide) ?_
  refine lv_iload_n hx hb dX11_partByteAt_7 rfl (lv_at hl 1 rfl) ?_
  refine lv_imul hx hb dX11_partByteAt_8 ?_
  refine lv_iload_n hx hb dX11_partByteAt_9 rfl (lv_at hl 2 rfl) ?_
  refine lv_iadd hx hb dX11_partByteAt_10 ?_
  replace hf := ckiE hf
  obtain ⟨h2, hf⟩ := hf
  refine x_bald hC hW tj1 rfl rfl h2 dX11_partByteAt_11 ?_
  obtain ⟨e1, e2⟩ := so2 hf
  subst e1
  subst e2
  exact W.iret (v := ai S0 j1 (Int32.toNatClampNeg ((200 * p1) + p2))) hx hb hr (fun t ht hWm => ⟨⟨rfl, by unfold QB; rw [ht]; exact ⟨hW, trivial⟩⟩, hS.F ht⟩) hS.2.2 dX11_partByteAt_12 hlk
set_option maxHeartbeats 4000000 in
set_option maxRecDepth 100000 in
theorem c_X11_isLetterIn (l : Launch) (g : GP) (ad : Nat → Nat) (n : Nat) (K : Nat → Nat) (sz F : Nat) (S0 : St) (p0 : Nat) (p1 : Int32) (p2 : Int32) (tp0 : p0 < n ∧ K p0 = 10) (r9 : Int32) (S9 : St) (hf : f_X11_isLetterIn F S0 p0 p1 p2 = some (r9, S9)) : Met l yX11_isLetterIn wsX11_isLetterIn { frames := 1, cells := 0, slots := 0, locals := 25 } (va_Pc [.ref (ad p0), .int p1, .int p2] (PB g ad n K S0 sz)) (QR (some (.int r9)) (QB g ad n K S9 (dA ad n sz) (True)) (dA ad n sz)) 0 0 (dA ad n sz) := by
  refine Met.ofW (cc := cX11_isLetterIn) (maxL := 3) (ret := (some .boolean)) (by decide) rfl ?_
  intro p e s m args below meth c s₁ B hml hv
  obtain ⟨rfl, hsz, hW, hK, hGs⟩ := x_start hv
  subst hsz
  have hx := B.exec
  have hb := B.bytes
  have hr := B.returns
  have hts := atoms_spec (ws := wsX11_isLetterIn) B.pre
  have hown : s.vm.findClass RX11 = some m.cls := findClass_of_methodNamed B.named
  have hlk := B.notSynchronized
  have hC : Cx g p s m _ c cX11_isLetterIn RX11 wsX11_isLetterIn 3 := ⟨hx, hb, hml, hown, hts, hK⟩
  have hA : ∀ q : Nat, s.heap.size ≤ q → dA ad n s.heap.size q := fun q h => Or.inr h
  have hS : va_S (dA ad n s.heap.size) s.heap s.heap [] := va_S.rf
  have hl := lv_entry ([.ref (ad p0), .int p1, .int p2]) (n := 3) (Nat.le_of_ble_eq_true rfl)
  rw [lg_entry_eq]
  generalize (lg_sl ([.ref (ad p0), .int p1, .int p2]) ++ List.replicate (3 - (lg_sl ([.ref (ad p0), .int p1, .int p2])).length) Slot.unset).toArray = ls at hl ⊢
  have hl : lv_has ls 3 [(0, .ref (ad p0)), (1, .int p1), (2, .int p2)] := hl
  have w_0 := hts (.constantLong RX11 125 (97)) (by decide +kernel)
  have w_1 := hts (.constantLong RX11 127 (122)) (by decide +kernel)
  have hGE := hGs.2.2.2.2.2.2.1
  have hGM := hGs.2.2.2.2.2.2.2.1
  unfold f_X11_isLetterIn at hf
  refine lv_iload_n hx hb dX11_isLetterIn_0 rfl (lv_at hl 2 rfl) ?_
  refine lv_if_lt (tgt := 37) hx hb dX11_isLetterIn_1 (by decide) (fun c1 => ?_) (fun c1 => ?_)
  · replace hf := ifT c1 hf
    refine lv_iconst (v := 0) hx hb dX11_isLetterIn_37 (by decide) ?_
    obtain ⟨e1, e2⟩ := so2 hf
    subst e1
    subst e2
    exact W.zret (v := 0) hx hb hr rfl (fun t ht hWm => ⟨⟨rfl, by unfold QB; rw [ht]; exact ⟨hW, trivial⟩⟩, hS.F ht⟩) hS.2.2 dX11_isLetterIn_38 hlk
  · replace hf := ifF c1 hf
    refine lv_iload_n hx hb dX11_isLetterIn_4 rfl (lv_at hl 2 rfl) ?_
    refine lv_aload_n hx hb dX11_isLetterIn_5 rfl (lv_at hl 0 rfl) ?_
    refine lv_iload_n hx hb dX11_isLetterIn_6 rfl (lv_at hl 1 rfl) ?_
    refine lv_iconst (v := 0) hx hb dX11_isLetterIn_7 (by decide) ?_
    replace hf := obE hf
    obtain ⟨z2, hz2, hf⟩ := hf
    obtain ⟨r4, S3⟩ := z2
    replace hf := ltE (ltE hf r4 rfl) S3 rfl
    refine x_callV (As := [.int p1, .int 0]) (rest := [.int p2]) (o := (some (.int r4))) (S1 := S3) hC hl.1 hW hS hGs hA tp0 rfl (show vwCl[10]? = some (RX11, TX11, 30) ∧ 10 < 11 from ⟨rfl, by decide⟩) (c_X11_partValue l g ad n K s.heap.size F S0 p0 p1 ((0 : Int32)) tp0 r4 S3 hz2) (cwV 2 hts gX11_isLetterIn_X11_partValue rfl rfl rfl (by decide +kernel) ⟨Nat.le_of_ble_eq_true rfl, Nat.le_of_ble_eq_true rfl⟩) rfl rfl (Nat.le_of_ble_eq_true rfl) dX11_isLetterIn_8 ⟨Nat.le_of_ble_eq_true rfl, Nat.le_of_ble_eq_true rfl⟩ (fun H locs hPz2 hW hS => ?_)
    refine W.eq (g2 := F0 m 11 ls [.int r4, .int p2]) rfl ?_
    refine lv_icmp_ge (tgt := 37) hx hb dX11_isLetterIn_11 (by decide) (fun c6 => ?_) (fun c6 => ?_)
    · replace hf := ifT c6 hf
      refine lv_iconst (v := 0) hx hb dX11_isLetterIn_37 (by decide) ?_
      obtain ⟨e1, e2⟩ := so2 hf
      subst e1
      subst e2
      exact W.zret (v := 0) hx hb hr rfl (fun t ht hWm => ⟨⟨rfl, by unfold QB; rw [ht]; exact ⟨hW, trivial⟩⟩, hS.F ht⟩) hS.2.2 dX11_isLetterIn_38 hlk
    · replace hf := ifF c6 hf
      refine lv_aload_n hx hb dX11_isLetterIn_14 rfl (lv_at hl 0 rfl) ?_
      refine lv_iload_n hx hb dX11_isLetterIn_15 rfl (lv_at hl 1 rfl) ?_
      refine lv_iload_n hx hb dX11_isLetterIn_16 rfl (lv_at hl 2 rfl) ?_
      replace hf := obE hf
      obtain ⟨z7, hz7, hf⟩ := hf
      obtain ⟨r9, S8⟩ := z7
      replace hf := ltE (ltE hf r9 rfl) S8 rfl
      refine x_callV (As := [.int p1, .int p2]) (rest := []) (o := (some (.int r9))) (S1 := S8) hC hl.1 hW hS hGs hA tp0 rfl (show vwCl[10]? = some (RX11, TX11, 30) ∧ 10 < 11 from ⟨rfl, by decide⟩) (c_X11_partByteAt l g ad n K H.size F S3 p0 p1 p2 tp0 r9 S8 hz7) (cwV 2 hts gX11_isLetterIn_X11_partByteAt rfl rfl rfl (by decide +kernel) ⟨Nat.le_of_ble_eq_true rfl, Nat.le_of_ble_eq_true rfl⟩) rfl rfl (Nat.le_of_ble_eq_true rfl) dX11_isLetterIn_17 ⟨Nat.le_of_ble_eq_true rfl, Nat.le_of_ble_eq_true rfl⟩ (fun H locs hPz7 hW hS => ?_)
      refine W.eq (g2 := F0 m 20 ls [.int r9]) rfl ?_
      refine lv_i2l (v := r9.toInt64) hx hb dX11_isLetterIn_20 rfl ?_
      refine lv_ldc2 (v := (97)) hx hb hown w_0 dX11_isLetterIn_21 ?_
      refine lv_ldc2 (v := (122)) hx hb hown w_1 dX11_isLetterIn_24 ?_
      replace hf := obE hf
      obtain ⟨z11, hz11, hf⟩ := hf
      obtain ⟨r13, S12⟩ := z11
      replace hf := ltE (ltE hf r13 rfl) S12 rfl
      refine x_callS (As := [.long (r9.toInt64), .long ((97)), .long ((122))]) (rest := []) (o := (some (.int r13))) (S1 := S12) hC hl.1 hW hS hGs hA (c_X11_in l g ad n K H.size F S8 r9.toInt64 (((97) : Int64)) (((122) : Int64)) r13 S12 hz11) (va_cwS 3 hts gX11_isLetterIn_X11_in rfl rfl rfl (by decide +kernel) ⟨Nat.le_of_ble_eq_true rfl, Nat.le_of_ble_eq_true rfl⟩) rfl rfl (Nat.le_of_ble_eq_true rfl) dX11_isLetterIn_27 ⟨Nat.le_of_ble_eq_true rfl, Nat.le_of_ble_eq_true rfl⟩ (fun H locs hPz11 hW hS => ?_)
      refine W.eq (g2 := F0 m 30 ls [.int r13]) rfl ?_
      refine lv_if_eq (tgt := 37) hx hb dX11_isLetterIn_30 (by decide) (fun c15 => ?_) (fun c15 => ?_)
      · replace hf := ifT c15 hf
        refine lv_iconst (v := 0) hx hb dX11_isLetterIn_37 (by decide) ?_
        obtain ⟨e1, e2⟩ := so2 hf
        subst e1
        subst e2
        exact W.zret (v := 0) hx hb hr rfl (fun t ht hWm => ⟨⟨rfl, by unfold QB; rw [ht]; exact ⟨hW, trivial⟩⟩, hS.F ht⟩) hS.2.2 dX11_isLetterIn_38 hlk
      · replace hf := ifF c15 hf
        refine lv_iconst (v := 1) hx hb dX11_isLetterIn_33 (by decide) ?_
        refine lv_goto (tgt := 38) hx hb dX11_isLetterIn_34 (by decide) ?_
        obtain ⟨e1, e2⟩ := so2 hf
        subst e1
        subst e2
        exact W.zret (v := 1) hx hb hr rfl (fun t ht hWm => ⟨⟨rfl, by unfold QB; rw [ht]; exact ⟨hW, trivial⟩⟩, hS.F ht⟩) hS.2.2 dX11_isLetterIn_38 hlk
set_option maxHeartbeats 4000000 in
set_option maxRecDepth 100000 in
theorem c_X11_isWordAt (l : Launch) (g : GP) (ad : Nat → Nat) (n : Nat) (K : Nat → Nat) (sz F : Nat) (S0 : St) (p0 : Nat) (p1 : Int32) (p2 : Int32) (tp0 : p0 < n ∧ K p0 = 10) (r9 : Int32) (S9 : St) (hf : f_X11_isWordAt F S0 p0 p1 p2 = some (r9, S9)) : Met l yX11_isWordAt wsX11_isWordAt { frames := 2, cells := 0, slots := 0, locals := 47 } (va_Pc [.ref (ad p0), .int p1, .int p2] (PB g ad n K S0 sz)) (QR (some (.int r9)) (QB g ad n K S9 (dA ad n sz) (True)) (dA ad n sz)) 0 0 (dA ad n sz) := by
  refine Met.ofW (cc := cX11_isWordAt) (maxL := 5) (ret := (some .boolean)) (by decide) rfl ?_
  intro p e s m args below meth c s₁ B hml hv
  obtain ⟨rfl, hsz, hW, hK, hGs⟩ := x_start hv
  subst hsz
  have hx := B.exec
  have hb := B.bytes
  have hr := B.returns
  have hts := atoms_spec (ws := wsX11_isWordAt) B.pre
  have hown : s.vm.findClass RX11 = some m.cls := findClass_of_methodNamed B.named
  have hlk := B.notSynchronized
  have hC : Cx g p s m _ c cX11_isWordAt RX11 wsX11_isWordAt 5 := ⟨hx, hb, hml, hown, hts, hK⟩
  have hA : ∀ q : Nat, s.heap.size ≤ q → dA ad n s.heap.size q := fun q h => Or.inr h
  have hS : va_S (dA ad n s.heap.size) s.heap s.heap [] := va_S.rf
  have hl := lv_entry ([.ref (ad p0), .int p1, .int p2]) (n := 5) (Nat.le_of_ble_eq_true rfl)
  rw [lg_entry_eq]
  generalize (lg_sl ([.ref (ad p0), .int p1, .int p2]) ++ List.replicate (5 - (lg_sl ([.ref (ad p0), .int p1, .int p2])).length) Slot.unset).toArray = ls at hl ⊢
  have hl : lv_has ls 5 [(0, .ref (ad p0)), (1, .int p1), (2, .int p2)] := hl
  have hin11 : ∀ w ∈ wsX110, w ∈ wsX11_isWordAt := by decide +kernel
  have w_0 := hts (.fieldLink RX11 284 "MailSpoolModel" "wantedMany" "I") (by decide +kernel)
  have w_1 := hts (.fieldLink RX11 38 "MailSpoolModel" "wanted" "[I") (by decide +kernel)
  have hGE := hGs.2.2.2.2.2.2.1
  have hGM := hGs.2.2.2.2.2.2.2.1
  have L34 : ∀ (fu34 : Nat) (S0 : St) (v0 : Nat) (v1 : Int32) (v2 : Int32) (v3 : Int32) (v4 : Int32) (tv0 : v0 < n ∧ K v0 = 10) (H : Heap) (locs : List Loc) (ls : Array Slot), f_X11_isWordAt_L34 F fu34 S0 v0 v1 v2 v3 v4 = some (r9, S9) → Wb g ad n K S0 (dA ad n s.heap.size) H → va_S (dA ad n s.heap.size) s.heap H locs → lv_has ls 5 [(0, .ref (ad v0)), (1, .int v1), (2, .int v2), (3, .int v3), (4, .int v4)] → W p l e (headSpec wsX11_isWordAt { frames := 2, cells := 0, slots := 0, locals := 47 }).room s m (List.toArray [.ref (ad p0), .int p1, .int p2]) below meth c H locs 0 0 (MQ below (QR (some (.int r9)) (QB g ad n K S9 (dA ad n s.heap.size) (True)) (dA ad n s.heap.size)) (List.toArray [.ref (ad p0), .int p1, .int p2]) s 0 0 (dA ad n s.heap.size)) (F0 m 34 ls []) := by
    intro fu34
    induction fu34 with
    | zero =>
      intro S0 v0 v1 v2 v3 v4 tv0 H locs ls hf
      cases hf
    | succ fu34 ih34 =>
      have L83 : ∀ (S0 : St) (v0 : Nat) (v1 : Int32) (v2 : Int32) (v4 : Int32) (s0 : Int32) (tv0 : v0 < n ∧ K v0 = 10) (H : Heap) (locs : List Loc) (ls : Array Slot), f_X11_isWordAt_L83 F (fun a0 a1 a2 a3 a4 a5 => f_X11_isWordAt_L34 F fu34 a0 a1 a2 a3 a4 a5) S0 v0 v1 v2 v4 s0 = some (r9, S9) → Wb g ad n K S0 (dA ad n s.heap.size) H → va_S (dA ad n s.heap.size) s.heap H locs → lv_has ls 5 [(0, .ref (ad v0)), (1, .int v1), (2, .int v2), (4, .int v4)] → W p l e (headSpec wsX11_isWordAt { frames := 2, cells := 0, slots := 0, locals := 47 }).room s m (List.toArray [.ref (ad p0), .int p1, .int p2]) below meth c H locs 0 0 (MQ below (QR (some (.int r9)) (QB g ad n K S9 (dA ad n s.heap.size) (True)) (dA ad n s.heap.size)) (List.toArray [.ref (ad p0), .int p1, .int p2]) s 0 0 (dA ad n s.heap.size)) (F0 m 83 ls [.int s0]) := by
        intro S0 v0 v1 v2 v4 s0 tv0 H locs ls hf hW hS hl
        unfold f_X11_isWordAt_L83 at hf
        refine lv_istore_n (lv' := [(3, .int s0), (0, .ref (ad v0)), (1, .int v1), (2, .int v2), (4, .int v4)]) hx hb dX11_isWordAt_83 rfl hl (by decide) rfl (fun ls hl => ?_)
        obtain ⟨x2, ex2⟩ : ∃ z : Int32, z = v4 + 1 := ⟨_, rfl⟩
        replace hf := ltE hf x2 ex2
        refine lv_iinc (v := x2) (lv' := [(4, .int x2), (3, .int s0), (0, .ref (ad v0)), (1, .int v1), (2, .int v2)]) hx hb dX11_isWordAt_84 hl (k := 4) rfl (by rw [ex2]; rfl) (by decide) rfl (fun ls hl => ?_)
        refine lv_goto (tgt := 34) hx hb dX11_isWordAt_87 (by decide) ?_
        exact ih34 S0 v0 v1 v2 s0 x2 tv0 _ _ _ hf hW hS (lv_sub hl [2, 3, 4, 1, 0] rfl)
      have L82 : ∀ (S0 : St) (v0 : Nat) (v1 : Int32) (v2 : Int32) (v4 : Int32) (tv0 : v0 < n ∧ K v0 = 10) (H : Heap) (locs : List Loc) (ls : Array Slot), f_X11_isWordAt_L82 F (fun a0 a1 a2 a3 a4 a5 => f_X11_isWordAt_L34 F fu34 a0 a1 a2 a3 a4 a5) S0 v0 v1 v2 v4 = some (r9, S9) → Wb g ad n K S0 (dA ad n s.heap.size) H → va_S (dA ad n s.heap.size) s.heap H locs → lv_has ls 5 [(0, .ref (ad v0)), (1, .int v1), (2, .int v2), (4, .int v4)] → W p l e (headSpec wsX11_isWordAt { frames := 2, cells := 0, slots := 0, locals := 47 }).room s m (List.toArray [.ref (ad p0), .int p1, .int p2]) below meth c H locs 0 0 (MQ below (QR (some (.int r9)) (QB g ad n K S9 (dA ad n s.heap.size) (True)) (dA ad n s.heap.size)) (List.toArray [.ref (ad p0), .int p1, .int p2]) s 0 0 (dA ad n s.heap.size)) (F0 m 82 ls []) := by
        intro S0 v0 v1 v2 v4 tv0 H locs ls hf hW hS hl
        unfold f_X11_isWordAt_L82 at hf
        refine lv_iconst (v := 0) hx hb dX11_isWordAt_82 (by decide) ?_
        exact L83 S0 v0 v1 v2 v4 0 tv0 _ _ _ hf hW hS (lv_sub hl [0, 1, 2, 3] rfl)
      intro S0 v0 v1 v2 v3 v4 tv0 H locs ls hf hW hS hl
      unfold f_X11_isWordAt_L34 at hf
      refine lv_iload hx hb dX11_isWordAt_34 (lv_at hl 4 rfl) ?_
      refine lv_aload_n hx hb dX11_isWordAt_36 rfl (lv_at hl 0 rfl) ?_
      refine x_geti 1016 (ci := 10) (C := RX11) (T := TX11) (N := 30) 16 hC hin11 hW tv0 rfl rfl ⟨by decide, by decide, rfl, rfl⟩ rfl w_0 dX11_isWordAt_37 ?_
      refine lv_icmp_ge (tgt := 90) hx hb dX11_isWordAt_40 (by decide) (fun c19 => ?_) (fun c19 => ?_)
      · replace hf := ifT c19 hf
        refine lv_iload_n hx hb dX11_isWordAt_90 rfl (lv_at hl 3 rfl) ?_
        replace hf := ckE hf
        obtain ⟨h20, hf⟩ := hf
        obtain ⟨e1, e2⟩ := so2 hf
        subst e1
        subst e2
        exact W.zret (v := v3) hx hb hr (zn h20) (fun t ht hWm => ⟨⟨rfl, by unfold QB; rw [ht]; exact ⟨hW, trivial⟩⟩, hS.F ht⟩) hS.2.2 dX11_isWordAt_91 hlk
      · replace hf := ifF c19 hf
        refine lv_iload_n hx hb dX11_isWordAt_43 rfl (lv_at hl 3 rfl) ?_
        refine lv_if_eq (tgt := 90) hx hb dX11_isWordAt_44 (by decide) (fun c21 => ?_) (fun c21 => ?_)
        · replace hf := ifT c21 hf
          refine lv_iload_n hx hb dX11_isWordAt_90 rfl (lv_at hl 3 rfl) ?_
          replace hf := ckE hf
          obtain ⟨h22, hf⟩ := hf
          obtain ⟨e1, e2⟩ := so2 hf
          subst e1
          subst e2
          exact W.zret (v := v3) hx hb hr (zn h22) (fun t ht hWm => ⟨⟨rfl, by unfold QB; rw [ht]; exact ⟨hW, trivial⟩⟩, hS.F ht⟩) hS.2.2 dX11_isWordAt_91 hlk
        · replace hf := ifF c21 hf
          refine lv_aload_n hx hb dX11_isWordAt_47 rfl (lv_at hl 0 rfl) ?_
          refine lv_iload_n hx hb dX11_isWordAt_48 rfl (lv_at hl 1 rfl) ?_
          refine lv_iload_n hx hb dX11_isWordAt_49 rfl (lv_at hl 2 rfl) ?_
          refine lv_iload hx hb dX11_isWordAt_50 (lv_at hl 4 rfl) ?_
          refine lv_iadd hx hb dX11_isWordAt_52 ?_
          replace hf := obE hf
          obtain ⟨z23, hz23, hf⟩ := hf
          obtain ⟨r25, S24⟩ := z23
          replace hf := ltE (ltE hf r25 rfl) S24 rfl
          refine x_callV (As := [.int v1, .int (v2 + v4)]) (rest := []) (o := (some (.int r25))) (S1 := S24) hC hl.1 hW hS hGs hA tv0 rfl (show vwCl[10]? = some (RX11, TX11, 30) ∧ 10 < 11 from ⟨rfl, by decide⟩) (c_X11_isLetterIn l g ad n K H.size F S0 v0 v1 (v2 + v4) tv0 r25 S24 hz23) (cwV 2 hts gX11_isWordAt_X11_isLetterIn rfl rfl rfl (by decide +kernel) ⟨Nat.le_of_ble_eq_true rfl, Nat.le_of_ble_eq_true rfl⟩) rfl rfl (Nat.le_of_ble_eq_true rfl) dX11_isWordAt_53 ⟨Nat.le_of_ble_eq_true rfl, Nat.le_of_ble_eq_true rfl⟩ (fun H locs hPz23 hW hS => ?_)
          refine W.eq (g2 := F0 m 56 ls [.int r25]) rfl ?_
          refine lv_if_eq (tgt := 82) hx hb dX11_isWordAt_56 (by decide) (fun c27 => ?_) (fun c27 => ?_)
          · replace hf := ifT c27 hf
            exact L82 S24 v0 v1 v2 v4 tv0 _ _ _ hf hW hS (lv_sub hl [0, 1, 2, 4] rfl)
          · replace hf := ifF c27 hf
            refine lv_aload_n hx hb dX11_isWordAt_59 rfl (lv_at hl 0 rfl) ?_
            refine lv_iload_n hx hb dX11_isWordAt_60 rfl (lv_at hl 1 rfl) ?_
            refine lv_iload_n hx hb dX11_isWordAt_61 rfl (lv_at hl 2 rfl) ?_
            refine lv_iload hx hb dX11_isWordAt_62 (lv_at hl 4 rfl) ?_
            refine lv_iadd hx hb dX11_isWordAt_64 ?_
            replace hf := obE hf
            obtain ⟨z28, hz28, hf⟩ := hf
            obtain ⟨r30, S29⟩ := z28
            replace hf := ltE (ltE hf r30 rfl) S29 rfl
            refine x_callV (As := [.int v1, .int (v2 + v4)]) (rest := []) (o := (some (.int r30))) (S1 := S29) hC hl.1 hW hS hGs hA tv0 rfl (show vwCl[10]? = some (RX11, TX11, 30) ∧ 10 < 11 from ⟨rfl, by decide⟩) (c_X11_partByteAt l g ad n K H.size F S24 v0 v1 (v2 + v4) tv0 r30 S29 hz28) (cwV 2 hts gX11_isWordAt_X11_partByteAt rfl rfl rfl (by decide +kernel) ⟨Nat.le_of_ble_eq_true rfl, Nat.le_of_ble_eq_true rfl⟩) rfl rfl (Nat.le_of_ble_eq_true rfl) dX11_isWordAt_65 ⟨Nat.le_of_ble_eq_true rfl, Nat.le_of_ble_eq_true rfl⟩ (fun H locs hPz28 hW hS => ?_)
            refine W.eq (g2 := F0 m 68 ls [.int r30]) rfl ?_
            refine lv_aload_n hx hb dX11_isWordAt_68 rfl (lv_at hl 0 rfl) ?_
            replace hf := obE hf
            obtain ⟨j32, qj32, hf⟩ := hf
            have tj32 := x_rt hW qj32 12 ⟨by decide, rfl⟩
            refine x_getr 1015 (ci := 10) (C := RX11) (T := TX11) (N := 30) 15 hC hin11 hW tv0 rfl rfl ⟨by decide, by decide, rfl, rfl⟩ rfl w_1 dX11_isWordAt_69 qj32 ?_
            refine lv_iload hx hb dX11_isWordAt_72 (lv_at hl 4 rfl) ?_
            replace hf := ckiE hf
            obtain ⟨h33, hf⟩ := hf
            refine x_iald hC hW tj32 rfl rfl h33 dX11_isWordAt_74 ?_
            refine lv_icmp_ne (tgt := 82) hx hb dX11_isWordAt_75 (by decide) (fun c34 => ?_) (fun c34 => ?_)
            · replace hf := ifT c34 hf
              exact L82 S29 v0 v1 v2 v4 tv0 _ _ _ hf hW hS (lv_sub hl [0, 1, 2, 4] rfl)
            · replace hf := ifF (fun q => q c34) hf
              refine lv_iconst (v := 1) hx hb dX11_isWordAt_78 (by decide) ?_
              refine lv_goto (tgt := 83) hx hb dX11_isWordAt_79 (by decide) ?_
              exact L83 S29 v0 v1 v2 v4 1 tv0 _ _ _ hf hW hS (lv_sub hl [0, 1, 2, 4] rfl)
  have L30 : ∀ (S0 : St) (v0 : Nat) (v1 : Int32) (v2 : Int32) (s0 : Int32) (tv0 : v0 < n ∧ K v0 = 10) (H : Heap) (locs : List Loc) (ls : Array Slot), f_X11_isWordAt_L30 F S0 v0 v1 v2 s0 = some (r9, S9) → Wb g ad n K S0 (dA ad n s.heap.size) H → va_S (dA ad n s.heap.size) s.heap H locs → lv_has ls 5 [(0, .ref (ad v0)), (1, .int v1), (2, .int v2)] → W p l e (headSpec wsX11_isWordAt { frames := 2, cells := 0, slots := 0, locals := 47 }).room s m (List.toArray [.ref (ad p0), .int p1, .int p2]) below meth c H locs 0 0 (MQ below (QR (some (.int r9)) (QB g ad n K S9 (dA ad n s.heap.size) (True)) (dA ad n s.heap.size)) (List.toArray [.ref (ad p0), .int p1, .int p2]) s 0 0 (dA ad n s.heap.size)) (F0 m 30 ls [.int s0]) := by
    intro S0 v0 v1 v2 s0 tv0 H locs ls hf hW hS hl
    unfold f_X11_isWordAt_L30 at hf
    refine lv_istore_n (lv' := [(3, .int s0), (0, .ref (ad v0)), (1, .int v1), (2, .int v2)]) hx hb dX11_isWordAt_30 rfl hl (by decide) rfl (fun ls hl => ?_)
    refine lv_iconst (v := 0) hx hb dX11_isWordAt_31 (by decide) ?_
    refine lv_istore (lv' := [(4, .int 0), (3, .int s0), (0, .ref (ad v0)), (1, .int v1), (2, .int v2)]) hx hb dX11_isWordAt_32 hl (by decide) rfl (fun ls hl => ?_)
    exact L34 F S0 v0 v1 v2 s0 0 tv0 _ _ _ hf hW hS (lv_sub hl [2, 3, 4, 1, 0] rfl)
  have L29 : ∀ (S0 : St) (v0 : Nat) (v1 : Int32) (v2 : Int32) (tv0 : v0 < n ∧ K v0 = 10) (H : Heap) (locs : List Loc) (ls : Array Slot), f_X11_isWordAt_L29 F S0 v0 v1 v2 = some (r9, S9) → Wb g ad n K S0 (dA ad n s.heap.size) H → va_S (dA ad n s.heap.size) s.heap H locs → lv_has ls 5 [(0, .ref (ad v0)), (1, .int v1), (2, .int v2)] → W p l e (headSpec wsX11_isWordAt { frames := 2, cells := 0, slots := 0, locals := 47 }).room s m (List.toArray [.ref (ad p0), .int p1, .int p2]) below meth c H locs 0 0 (MQ below (QR (some (.int r9)) (QB g ad n K S9 (dA ad n s.heap.size) (True)) (dA ad n s.heap.size)) (List.toArray [.ref (ad p0), .int p1, .int p2]) s 0 0 (dA ad n s.heap.size)) (F0 m 29 ls []) := by
    intro S0 v0 v1 v2 tv0 H locs ls hf hW hS hl
    unfold f_X11_isWordAt_L29 at hf
    refine lv_iconst (v := 0) hx hb dX11_isWordAt_29 (by decide) ?_
    exact L30 S0 v0 v1 v2 0 tv0 _ _ _ hf hW hS (lv_sub hl [0, 1, 2] rfl)
  unfold f_X11_isWordAt at hf
  refine lv_aload_n hx hb dX11_isWordAt_0 rfl (lv_at hl 0 rfl) ?_
  refine lv_iload_n hx hb dX11_isWordAt_1 rfl (lv_at hl 1 rfl) ?_
  refine lv_iload_n hx hb dX11_isWordAt_2 rfl (lv_at hl 2 rfl) ?_
  refine lv_iconst (v := 1) hx hb dX11_isWordAt_3 (by decide) ?_
  refine lv_isub hx hb dX11_isWordAt_4 ?_
  replace hf := obE hf
  obtain ⟨z35, hz35, hf⟩ := hf
  obtain ⟨r37, S36⟩ := z35
  replace hf := ltE (ltE hf r37 rfl) S36 rfl
  refine x_callV (As := [.int p1, .int (p2 - 1)]) (rest := []) (o := (some (.int r37))) (S1 := S36) hC hl.1 hW hS hGs hA tp0 rfl (show vwCl[10]? = some (RX11, TX11, 30) ∧ 10 < 11 from ⟨rfl, by decide⟩) (c_X11_isLetterIn l g ad n K s.heap.size F S0 p0 p1 (p2 - 1) tp0 r37 S36 hz35) (cwV 2 hts gX11_isWordAt_X11_isLetterIn rfl rfl rfl (by decide +kernel) ⟨Nat.le_of_ble_eq_true rfl, Nat.le_of_ble_eq_true rfl⟩) rfl rfl (Nat.le_of_ble_eq_true rfl) dX11_isWordAt_5 ⟨Nat.le_of_ble_eq_true rfl, Nat.le_of_ble_eq_true rfl⟩ (fun H locs hPz35 hW hS => ?_)
  refine W.eq (g2 := F0 m 8 ls [.int r37]) rfl ?_
  refine lv_if_ne (tgt := 29) hx hb dX11_isWordAt_8 (by decide) (fun c39 => ?_) (fun c39 => ?_)
  · replace hf := ifT c39 hf
    exact L29 S36 p0 p1 p2 tp0 _ _ _ hf hW hS (lv_sub hl [0, 1, 2] rfl)
  · replace hf := ifF (fun q => q c39) hf
    refine lv_aload_n hx hb dX11_isWordAt_11 rfl (lv_at hl 0 rfl) ?_
    refine lv_iload_n hx hb dX11_isWordAt_12 rfl (lv_at hl 1 rfl) ?_
    refine lv_iload_n hx hb dX11_isWordAt_13 rfl (lv_at hl 2 rfl) ?_
    refine lv_aload_n hx hb dX11_isWordAt_14 rfl (lv_at hl 0 rfl) ?_
    refine x_geti 1016 (ci := 10) (C := RX11) (T := TX11) (N := 30) 16 hC hin11 hW tp0 rfl rfl ⟨by decide, by decide, rfl, rfl⟩ rfl w_0 dX11_isWordAt_15 ?_
    refine lv_iadd hx hb dX11_isWordAt_18 ?_
    replace hf := obE hf
    obtain ⟨z40, hz40, hf⟩ := hf
    obtain ⟨r42, S41⟩ := z40
    replace hf := ltE (ltE hf r42 rfl) S41 rfl
    refine x_callV (As := [.int p1, .int (p2 + (si S36 1016 p0))]) (rest := []) (o := (some (.int r42))) (S1 := S41) hC hl.1 hW hS hGs hA tp0 rfl (show vwCl[10]? = some (RX11, TX11, 30) ∧ 10 < 11 from ⟨rfl, by decide⟩) (c_X11_isLetterIn l g ad n K H.size F S36 p0 p1 (p2 + (si S36 1016 p0)) tp0 r42 S41 hz40) (cwV 2 hts gX11_isWordAt_X11_isLetterIn rfl rfl rfl (by decide +kernel) ⟨Nat.le_of_ble_eq_true rfl, Nat.le_of_ble_eq_true rfl⟩) rfl rfl (Nat.le_of_ble_eq_true rfl) dX11_isWordAt_19 ⟨Nat.le_of_ble_eq_true rfl, Nat.le_of_ble_eq_true rfl⟩ (fun H locs hPz40 hW hS => ?_)
    refine W.eq (g2 := F0 m 22 ls [.int r42]) rfl ?_
    refine lv_if_ne (tgt := 29) hx hb dX11_isWordAt_22 (by decide) (fun c44 => ?_) (fun c44 => ?_)
    · replace hf := ifT c44 hf
      exact L29 S41 p0 p1 p2 tp0 _ _ _ hf hW hS (lv_sub hl [0, 1, 2] rfl)
    · replace hf := ifF (fun q => q c44) hf
      refine lv_iconst (v := 1) hx hb dX11_isWordAt_25 (by decide) ?_
      refine lv_goto (tgt := 30) hx hb dX11_isWordAt_26 (by decide) ?_
      exact L30 S41 p0 p1 p2 1 tp0 _ _ _ hf hW hS (lv_sub hl [0, 1, 2] rfl)
set_option maxHeartbeats 4000000 in
set_option maxRecDepth 100000 in
theorem c_X11_contains (l : Launch) (g : GP) (ad : Nat → Nat) (n : Nat) (K : Nat → Nat) (sz F : Nat) (S0 : St) (p0 : Nat) (p1 : Int32) (tp0 : p0 < n ∧ K p0 = 10) (r9 : Int32) (S9 : St) (hf : f_X11_contains F S0 p0 p1 = some (r9, S9)) : Met l yX11_contains wsX11_contains { frames := 3, cells := 0, slots := 0, locals := 71 } (va_Pc [.ref (ad p0), .int p1] (PB g ad n K S0 sz)) (QR (some (.int r9)) (QB g ad n K S9 (dA ad n sz) (True)) (dA ad n sz)) 0 0 (dA ad n sz) := by
  refine Met.ofW (cc := cX11_contains) (maxL := 5) (ret := (some .boolean)) (by decide) rfl ?_
  intro p e s m args below meth c s₁ B hml hv
  obtain ⟨rfl, hsz, hW, hK, hGs⟩ := x_start hv
  subst hsz
  have hx := B.exec
  have hb := B.bytes
  have hr := B.returns
  have hts := atoms_spec (ws := wsX11_contains) B.pre
  have hown : s.vm.findClass RX11 = some m.cls := findClass_of_methodNamed B.named
  have hlk := B.notSynchronized
  have hC : Cx g p s m _ c cX11_contains RX11 wsX11_contains 5 := ⟨hx, hb, hml, hown, hts, hK⟩
  have hA : ∀ q : Nat, s.heap.size ≤ q → dA ad n s.heap.size q := fun q h => Or.inr h
  have hS : va_S (dA ad n s.heap.size) s.heap s.heap [] := va_S.rf
  have hl := lv_entry ([.ref (ad p0), .int p1]) (n := 5) (Nat.le_of_ble_eq_true rfl)
  rw [lg_entry_eq]
  generalize (lg_sl ([.ref (ad p0), .int p1]) ++ List.replicate (5 - (lg_sl ([.ref (ad p0), .int p1])).length) Slot.unset).toArray = ls at hl ⊢
  have hl : lv_has ls 5 [(0, .ref (ad p0)), (1, .int p1)] := hl
  have hin11 : ∀ w ∈ wsX110, w ∈ wsX11_contains := by decide +kernel
  have w_0 := hts (.fieldLink RX11 284 "MailSpoolModel" "wantedMany" "I") (by decide +kernel)
  have hGE := hGs.2.2.2.2.2.2.1
  have hGM := hGs.2.2.2.2.2.2.2.1
  have L2 : ∀ (fu2 : Nat) (S0 : St) (v0 : Nat) (v1 : Int32) (v2 : Int32) (tv0 : v0 < n ∧ K v0 = 10) (H : Heap) (locs : List Loc) (ls : Array Slot), f_X11_contains_L2 F fu2 S0 v0 v1 v2 = some (r9, S9) → Wb g ad n K S0 (dA ad n s.heap.size) H → va_S (dA ad n s.heap.size) s.heap H locs → lv_has ls 5 [(0, .ref (ad v0)), (1, .int v1), (2, .int v2)] → W p l e (headSpec wsX11_contains { frames := 3, cells := 0, slots := 0, locals := 71 }).room s m (List.toArray [.ref (ad p0), .int p1]) below meth c H locs 0 0 (MQ below (QR (some (.int r9)) (QB g ad n K S9 (dA ad n s.heap.size) (True)) (dA ad n s.heap.size)) (List.toArray [.ref (ad p0), .int p1]) s 0 0 (dA ad n s.heap.size)) (F0 m 2 ls []) := by
    intro fu2
    induction fu2 with
    | zero =>
      intro S0 v0 v1 v2 tv0 H locs ls hf
      cases hf
    | succ fu2 ih2 =>
      have L24 : ∀ (fu24 : Nat) (S0 : St) (v0 : Nat) (v1 : Int32) (v2 : Int32) (v3 : Int32) (v4 : Int32) (tv0 : v0 < n ∧ K v0 = 10) (H : Heap) (locs : List Loc) (ls : Array Slot), f_X11_contains_L24 F (fun a0 a1 a2 a3 => f_X11_contains_L2 F fu2 a0 a1 a2 a3) fu24 S0 v0 v1 v2 v3 v4 = some (r9, S9) → Wb g ad n K S0 (dA ad n s.heap.size) H → va_S (dA ad n s.heap.size) s.heap H locs → lv_has ls 5 [(0, .ref (ad v0)), (1, .int v1), (2, .int v2), (3, .int v3), (4, .int v4)] → W p l e (headSpec wsX11_contains { frames := 3, cells := 0, slots := 0, locals := 71 }).room s m (List.toArray [.ref (ad p0), .int p1]) below meth c H locs 0 0 (MQ below (QR (some (.int r9)) (QB g ad n K S9 (dA ad n s.heap.size) (True)) (dA ad n s.heap.size)) (List.toArray [.ref (ad p0), .int p1]) s 0 0 (dA ad n s.heap.size)) (F0 m 24 ls []) := by
        intro fu24
        induction fu24 with
        | zero =>
          intro S0 v0 v1 v2 v3 v4 tv0 H locs ls hf
          cases hf
        | succ fu24 ih24 =>
          intro S0 v0 v1 v2 v3 v4 tv0 H locs ls hf hW hS hl
          unfold f_X11_contains_L24 at hf
          refine lv_iload hx hb dX11_contains_24 (lv_at hl 4 rfl) ?_
          refine lv_aload_n hx hb dX11_contains_26 rfl (lv_at hl 0 rfl) ?_
          refine x_geti 1016 (ci := 10) (C := RX11) (T := TX11) (N := 30) 16 hC hin11 hW tv0 rfl rfl ⟨by decide, by decide, rfl, rfl⟩ rfl w_0 dX11_contains_27 ?_
          refine lv_iadd hx hb dX11_contains_30 ?_
          refine lv_aload_n hx hb dX11_contains_31 rfl (lv_at hl 0 rfl) ?_
          refine lv_iload_n hx hb dX11_contains_32 rfl (lv_at hl 3 rfl) ?_
          refine lv_iconst (v := 0) hx hb dX11_contains_33 (by decide) ?_
          replace hf := obE hf
          obtain ⟨z13, hz13, hf⟩ := hf
          obtain ⟨r15, S14⟩ := z13
          replace hf := ltE (ltE hf r15 rfl) S14 rfl
          refine x_callV (As := [.int v3, .int 0]) (rest := [.int (v4 + (si S0 1016 v0))]) (o := (some (.int r15))) (S1 := S14) hC hl.1 hW hS hGs hA tv0 rfl (show vwCl[10]? = some (RX11, TX11, 30) ∧ 10 < 11 from ⟨rfl, by decide⟩) (c_X11_partValue l g ad n K H.size F S0 v0 v3 ((0 : Int32)) tv0 r15 S14 hz13) (cwV 2 hts gX11_contains_X11_partValue rfl rfl rfl (by decide +kernel) ⟨Nat.le_of_ble_eq_true rfl, Nat.le_of_ble_eq_true rfl⟩) rfl rfl (Nat.le_of_ble_eq_true rfl) dX11_contains_34 ⟨Nat.le_of_ble_eq_true rfl, Nat.le_of_ble_eq_true rfl⟩ (fun H locs hPz13 hW hS => ?_)
          refine W.eq (g2 := F0 m 37 ls [.int r15, .int (v4 + (si S0 1016 v0))]) rfl ?_
          refine lv_icmp_gt (tgt := 58) hx hb dX11_contains_37 (by decide) (fun c17 => ?_) (fun c17 => ?_)
          · replace hf := ifT c17 hf
            obtain ⟨x18, ex18⟩ : ∃ z : Int32, z = v2 + 1 := ⟨_, rfl⟩
            replace hf := ltE hf x18 ex18
            refine lv_iinc (v := x18) (lv' := [(2, .int x18), (0, .ref (ad v0)), (1, .int v1), (3, .int v3), (4, .int v4)]) hx hb dX11_contains_58 hl (k := 2) rfl (by rw [ex18]; rfl) (by decide) rfl (fun ls hl => ?_)
            refine lv_goto (tgt := 2) hx hb dX11_contains_61 (by decide) ?_
            exact ih2 S14 v0 v1 x18 tv0 _ _ _ hf hW hS (lv_sub hl [1, 2, 0] rfl)
          · replace hf := ifF c17 hf
            refine lv_aload_n hx hb dX11_contains_40 rfl (lv_at hl 0 rfl) ?_
            refine lv_iload_n hx hb dX11_contains_41 rfl (lv_at hl 3 rfl) ?_
            refine lv_iload hx hb dX11_contains_42 (lv_at hl 4 rfl) ?_
            replace hf := obE hf
            obtain ⟨z19, hz19, hf⟩ := hf
            obtain ⟨r21, S20⟩ := z19
            replace hf := ltE (ltE hf r21 rfl) S20 rfl
            refine x_callV (As := [.int v3, .int v4]) (rest := []) (o := (some (.int r21))) (S1 := S20) hC hl.1 hW hS hGs hA tv0 rfl (show vwCl[10]? = some (RX11, TX11, 30) ∧ 10 < 11 from ⟨rfl, by decide⟩) (c_X11_isWordAt l g ad n K H.size F S14 v0 v3 v4 tv0 r21 S20 hz19) (cwV 2 hts gX11_contains_X11_isWordAt rfl rfl rfl (by decide +kernel) ⟨Nat.le_of_ble_eq_true rfl, Nat.le_of_ble_eq_true rfl⟩) rfl rfl (Nat.le_of_ble_eq_true rfl) dX11_contains_44 ⟨Nat.le_of_ble_eq_true rfl, Nat.le_of_ble_eq_true rfl⟩ (fun H locs hPz19 hW hS => ?_)
            refine W.eq (g2 := F0 m 47 ls [.int r21]) rfl ?_
            refine lv_if_eq (tgt := 52) hx hb dX11_contains_47 (by decide) (fun c23 => ?_) (fun c23 => ?_)
            · replace hf := ifT c23 hf
              obtain ⟨x24, ex24⟩ : ∃ z : Int32, z = v4 + 1 := ⟨_, rfl⟩
              replace hf := ltE hf x24 ex24
              refine lv_iinc (v := x24) (lv' := [(4, .int x24), (0, .ref (ad v0)), (1, .int v1), (2, .int v2), (3, .int v3)]) hx hb dX11_contains_52 hl (k := 4) rfl (by rw [ex24]; rfl) (by decide) rfl (fun ls hl => ?_)
              refine lv_goto (tgt := 24) hx hb dX11_contains_55 (by decide) ?_
              exact ih24 S20 v0 v1 v2 v3 x24 tv0 _ _ _ hf hW hS (lv_sub hl [1, 2, 3, 4, 0] rfl)
            · replace hf := ifF c23 hf
              refine lv_iconst (v := 1) hx hb dX11_contains_50 (by decide) ?_
              obtain ⟨e1, e2⟩ := so2 hf
              subst e1
              subst e2
              exact W.zret (v := 1) hx hb hr rfl (fun t ht hWm => ⟨⟨rfl, by unfold QB; rw [ht]; exact ⟨hW, trivial⟩⟩, hS.F ht⟩) hS.2.2 dX11_contains_51 hlk
      intro S0 v0 v1 v2 tv0 H locs ls hf hW hS hl
      unfold f_X11_contains_L2 at hf
      refine lv_iload_n hx hb dX11_contains_2 rfl (lv_at hl 2 rfl) ?_
      refine lv_aload_n hx hb dX11_contains_3 rfl (lv_at hl 0 rfl) ?_
      refine lv_iload_n hx hb dX11_contains_4 rfl (lv_at hl 1 rfl) ?_
      refine lv_iconst (v := 2) hx hb dX11_contains_5 (by decide) ?_
      replace hf := obE hf
      obtain ⟨z34, hz34, hf⟩ := hf
      obtain ⟨r36, S35⟩ := z34
      replace hf := ltE (ltE hf r36 rfl) S35 rfl
      refine x_callV (As := [.int v1, .int 2]) (rest := [.int v2]) (o := (some (.int r36))) (S1 := S35) hC hl.1 hW hS hGs hA tv0 rfl (show vwCl[10]? = some (RX11, TX11, 30) ∧ 10 < 11 from ⟨rfl, by decide⟩) (c_X11_messageValue l g ad n K H.size F S0 v0 v1 ((2 : Int32)) tv0 r36 S35 hz34) (cwV 2 hts gX11_contains_X11_messageValue rfl rfl rfl (by decide +kernel) ⟨Nat.le_of_ble_eq_true rfl, Nat.le_of_ble_eq_true rfl⟩) rfl rfl (Nat.le_of_ble_eq_true rfl) dX11_contains_6 ⟨Nat.le_of_ble_eq_true rfl, Nat.le_of_ble_eq_true rfl⟩ (fun H locs hPz34 hW hS => ?_)
      refine W.eq (g2 := F0 m 9 ls [.int r36, .int v2]) rfl ?_
      refine lv_icmp_ge (tgt := 64) hx hb dX11_contains_9 (by decide) (fun c38 => ?_) (fun c38 => ?_)
      · replace hf := ifT c38 hf
        refine lv_iconst (v := 0) hx hb dX11_contains_64 (by decide) ?_
        obtain ⟨e1, e2⟩ := so2 hf
        subst e1
        subst e2
        exact W.zret (v := 0) hx hb hr rfl (fun t ht hWm => ⟨⟨rfl, by unfold QB; rw [ht]; exact ⟨hW, trivial⟩⟩, hS.F ht⟩) hS.2.2 dX11_contains_65 hlk
      · replace hf := ifF c38 hf
        refine lv_aload_n hx hb dX11_contains_12 rfl (lv_at hl 0 rfl) ?_
        refine lv_iload_n hx hb dX11_contains_13 rfl (lv_at hl 1 rfl) ?_
        refine lv_iconst (v := 3) hx hb dX11_contains_14 (by decide) ?_
        refine lv_iload_n hx hb dX11_contains_15 rfl (lv_at hl 2 rfl) ?_
        refine lv_iadd hx hb dX11_contains_16 ?_
        replace hf := obE hf
        obtain ⟨z39, hz39, hf⟩ := hf
        obtain ⟨r41, S40⟩ := z39
        replace hf := ltE (ltE hf r41 rfl) S40 rfl
        refine x_callV (As := [.int v1, .int (3 + v2)]) (rest := []) (o := (some (.int r41))) (S1 := S40) hC hl.1 hW hS hGs hA tv0 rfl (show vwCl[10]? = some (RX11, TX11, 30) ∧ 10 < 11 from ⟨rfl, by decide⟩) (c_X11_messageValue l g ad n K H.size F S35 v0 v1 (3 + v2) tv0 r41 S40 hz39) (cwV 2 hts gX11_contains_X11_messageValue rfl rfl rfl (by decide +kernel) ⟨Nat.le_of_ble_eq_true rfl, Nat.le_of_ble_eq_true rfl⟩) rfl rfl (Nat.le_of_ble_eq_true rfl) dX11_contains_17 ⟨Nat.le_of_ble_eq_true rfl, Nat.le_of_ble_eq_true rfl⟩ (fun H locs hPz39 hW hS => ?_)
        refine W.eq (g2 := F0 m 20 ls [.int r41]) rfl ?_
        refine lv_istore_n (lv' := [(3, .int r41), (0, .ref (ad v0)), (1, .int v1), (2, .int v2)]) hx hb dX11_contains_20 rfl hl (by decide) rfl (fun ls hl => ?_)
        refine lv_iconst (v := 0) hx hb dX11_contains_21 (by decide) ?_
        refine lv_istore (lv' := [(4, .int 0), (3, .int r41), (0, .ref (ad v0)), (1, .int v1), (2, .int v2)]) hx hb dX11_contains_22 hl (by decide) rfl (fun ls hl => ?_)
        exact L24 F S40 v0 v1 v2 r41 0 tv0 _ _ _ hf hW hS (lv_sub hl [2, 3, 4, 1, 0] rfl)
  unfold f_X11_contains at hf
  refine lv_iconst (v := 0) hx hb dX11_contains_0 (by decide) ?_
  refine lv_istore_n (lv' := [(2, .int 0), (0, .ref (ad p0)), (1, .int p1)]) hx hb dX11_contains_1 rfl hl (by decide) rfl (fun ls hl => ?_)
  exact L2 F S0 p0 p1 0 tp0 _ _ _ hf hW hS (lv_sub hl [1, 2, 0] rfl)
set_option maxHeartbeats 4000000 in
set_option maxRecDepth 100000 in
theorem c_X11_isCovered (l : Launch) (g : GP) (ad : Nat → Nat) (n : Nat) (K : Nat → Nat) (sz F : Nat) (S0 : St) (p0 : Nat) (p1 : Int32) (p2 : Int32) (p3 : Int32) (tp0 : p0 < n ∧ K p0 = 10) (r9 : Int32) (S9 : St) (hf : f_X11_isCovered F S0 p0 p1 p2 p3 = some (r9, S9)) : Met l yX11_isCovered wsX11_isCovered { frames := 4, cells := 0, slots := 0, locals := 95 } (va_Pc [.ref (ad p0), .int p1, .int p2, .int p3] (PB g ad n K S0 sz)) (QR (some (.int r9)) (QB g ad n K S9 (dA ad n sz) (True)) (dA ad n sz)) 0 0 (dA ad n sz) := by
  refine Met.ofW (cc := cX11_isCovered) (maxL := 5) (ret := (some .boolean)) (by decide) rfl ?_
  intro p e s m args below meth c s₁ B hml hv
  obtain ⟨rfl, hsz, hW, hK, hGs⟩ := x_start hv
  subst hsz
  have hx := B.exec
  have hb := B.bytes
  have hr := B.returns
  have hts := atoms_spec (ws := wsX11_isCovered) B.pre
  have hown : s.vm.findClass RX11 = some m.cls := findClass_of_methodNamed B.named
  have hlk := B.notSynchronized
  have hC : Cx g p s m _ c cX11_isCovered RX11 wsX11_isCovered 5 := ⟨hx, hb, hml, hown, hts, hK⟩
  have hA : ∀ q : Nat, s.heap.size ≤ q → dA ad n s.heap.size q := fun q h => Or.inr h
  have hS : va_S (dA ad n s.heap.size) s.heap s.heap [] := va_S.rf
  have hl := lv_entry ([.ref (ad p0), .int p1, .int p2, .int p3]) (n := 5) (Nat.le_of_ble_eq_true rfl)
  rw [lg_entry_eq]
  generalize (lg_sl ([.ref (ad p0), .int p1, .int p2, .int p3]) ++ List.replicate (5 - (lg_sl ([.ref (ad p0), .int p1, .int p2, .int p3])).length) Slot.unset).toArray = ls at hl ⊢
  have hl : lv_has ls 5 [(0, .ref (ad p0)), (1, .int p1), (2, .int p2), (3, .int p3)] := hl
  have hin11 : ∀ w ∈ wsX110, w ∈ wsX11_isCovered := by decide +kernel
  have w_0 := hts (.fieldLink RX11 284 "MailSpoolModel" "wantedMany" "I") (by decide +kernel)
  have w_1 := hts (.fieldLink RX11 38 "MailSpoolModel" "wanted" "[I") (by decide +kernel)
  have hGE := hGs.2.2.2.2.2.2.1
  have hGM := hGs.2.2.2.2.2.2.2.1
  have L61 : ∀ (fu61 : Nat) (S0 : St) (v0 : Nat) (v1 : Int32) (v3 : Int32) (v4 : Int32) (tv0 : v0 < n ∧ K v0 = 10) (H : Heap) (locs : List Loc) (ls : Array Slot), f_X11_isCovered_L61 F fu61 S0 v0 v1 v3 v4 = some (r9, S9) → Wb g ad n K S0 (dA ad n s.heap.size) H → va_S (dA ad n s.heap.size) s.heap H locs → lv_has ls 5 [(0, .ref (ad v0)), (1, .int v1), (3, .int v3), (4, .int v4)] → W p l e (headSpec wsX11_isCovered { frames := 4, cells := 0, slots := 0, locals := 95 }).room s m (List.toArray [.ref (ad p0), .int p1, .int p2, .int p3]) below meth c H locs 0 0 (MQ below (QR (some (.int r9)) (QB g ad n K S9 (dA ad n s.heap.size) (True)) (dA ad n s.heap.size)) (List.toArray [.ref (ad p0), .int p1, .int p2, .int p3]) s 0 0 (dA ad n s.heap.size)) (F0 m 61 ls []) := by
    intro fu61
    induction fu61 with
    | zero =>
      intro S0 v0 v1 v3 v4 tv0 H locs ls hf
      cases hf
    | succ fu61 ih61 =>
      intro S0 v0 v1 v3 v4 tv0 H locs ls hf hW hS hl
      unfold f_X11_isCovered_L61 at hf
      refine lv_iload hx hb dX11_isCovered_61 (lv_at hl 3 rfl) ?_
      refine lv_bipush (v := 10) hx hb dX11_isCovered_63 (by decide) ?_
      refine lv_icmp_ge (tgt := 90) hx hb dX11_isCovered_65 (by decide) (fun c16 => ?_) (fun c16 => ?_)
      · replace hf := ifT c16 hf
        refine lv_aload_n hx hb dX11_isCovered_90 rfl (lv_at hl 0 rfl) ?_
        refine x_geti 1016 (ci := 10) (C := RX11) (T := TX11) (N := 30) 16 hC hin11 hW tv0 rfl rfl ⟨by decide, by decide, rfl, rfl⟩ rfl w_0 dX11_isCovered_91 ?_
        refine lv_if_eq (tgt := 105) hx hb dX11_isCovered_94 (by decide) (fun c17 => ?_) (fun c17 => ?_)
        · replace hf := ifT c17 hf
          refine lv_iconst (v := 1) hx hb dX11_isCovered_105 (by decide) ?_
          refine lv_goto (tgt := 110) hx hb dX11_isCovered_106 (by decide) ?_
          obtain ⟨e1, e2⟩ := so2 hf
          subst e1
          subst e2
          exact W.zret (v := 1) hx hb hr rfl (fun t ht hWm => ⟨⟨rfl, by unfold QB; rw [ht]; exact ⟨hW, trivial⟩⟩, hS.F ht⟩) hS.2.2 dX11_isCovered_110 hlk
        · replace hf := ifF c17 hf
          refine lv_aload_n hx hb dX11_isCovered_97 rfl (lv_at hl 0 rfl) ?_
          refine lv_iload_n hx hb dX11_isCovered_98 rfl (lv_at hl 1 rfl) ?_
          replace hf := obE hf
          obtain ⟨z18, hz18, hf⟩ := hf
          obtain ⟨r20, S19⟩ := z18
          replace hf := ltE (ltE hf r20 rfl) S19 rfl
          refine x_callV (As := [.int v1]) (rest := []) (o := (some (.int r20))) (S1 := S19) hC hl.1 hW hS hGs hA tv0 rfl (show vwCl[10]? = some (RX11, TX11, 30) ∧ 10 < 11 from ⟨rfl, by decide⟩) (c_X11_contains l g ad n K H.size F S0 v0 v1 tv0 r20 S19 hz18) (cwV 1 hts gX11_isCovered_X11_contains rfl rfl rfl (by decide +kernel) ⟨Nat.le_of_ble_eq_true rfl, Nat.le_of_ble_eq_true rfl⟩) rfl rfl (Nat.le_of_ble_eq_true rfl) dX11_isCovered_99 ⟨Nat.le_of_ble_eq_true rfl, Nat.le_of_ble_eq_true rfl⟩ (fun H locs hPz18 hW hS => ?_)
          refine W.eq (g2 := F0 m 102 ls [.int r20]) rfl ?_
          refine lv_if_eq (tgt := 109) hx hb dX11_isCovered_102 (by decide) (fun c22 => ?_) (fun c22 => ?_)
          · replace hf := ifT c22 hf
            refine lv_iconst (v := 0) hx hb dX11_isCovered_109 (by decide) ?_
            obtain ⟨e1, e2⟩ := so2 hf
            subst e1
            subst e2
            exact W.zret (v := 0) hx hb hr rfl (fun t ht hWm => ⟨⟨rfl, by unfold QB; rw [ht]; exact ⟨hW, trivial⟩⟩, hS.F ht⟩) hS.2.2 dX11_isCovered_110 hlk
          · replace hf := ifF c22 hf
            refine lv_iconst (v := 1) hx hb dX11_isCovered_105 (by decide) ?_
            refine lv_goto (tgt := 110) hx hb dX11_isCovered_106 (by decide) ?_
            obtain ⟨e1, e2⟩ := so2 hf
            subst e1
            subst e2
            exact W.zret (v := 1) hx hb hr rfl (fun t ht hWm => ⟨⟨rfl, by unfold QB; rw [ht]; exact ⟨hW, trivial⟩⟩, hS.F ht⟩) hS.2.2 dX11_isCovered_110 hlk
      · replace hf := ifF c16 hf
        refine lv_aload_n hx hb dX11_isCovered_68 rfl (lv_at hl 0 rfl) ?_
        replace hf := obE hf
        obtain ⟨j23, qj23, hf⟩ := hf
        have tj23 := x_rt hW qj23 12 ⟨by decide, rfl⟩
        refine x_getr 1015 (ci := 10) (C := RX11) (T := TX11) (N := 30) 15 hC hin11 hW tv0 rfl rfl ⟨by decide, by decide, rfl, rfl⟩ rfl w_1 dX11_isCovered_69 qj23 ?_
        refine lv_iload hx hb dX11_isCovered_72 (lv_at hl 3 rfl) ?_
        refine lv_aload_n hx hb dX11_isCovered_74 rfl (lv_at hl 0 rfl) ?_
        refine lv_iload_n hx hb dX11_isCovered_75 rfl (lv_at hl 2 rfl) ?_
        refine lv_iconst (v := 5) hx hb dX11_isCovered_76 (by decide) ?_
        refine lv_iload hx hb dX11_isCovered_77 (lv_at hl 3 rfl) ?_
        refine lv_iadd hx hb dX11_isCovered_79 ?_
        replace hf := obE hf
        obtain ⟨z24, hz24, hf⟩ := hf
        obtain ⟨r26, S25⟩ := z24
        replace hf := ltE (ltE hf r26 rfl) S25 rfl
        refine x_callV (As := [.int v3, .int (5 + v4)]) (rest := [.int v4, .ref (ad j23)]) (o := (some (.int r26))) (S1 := S25) hC hl.1 hW hS hGs hA tv0 rfl (show vwCl[10]? = some (RX11, TX11, 30) ∧ 10 < 11 from ⟨rfl, by decide⟩) (c_X11_holdValue l g ad n K H.size F S0 v0 v3 (5 + v4) tv0 r26 S25 hz24) (cwV 2 hts gX11_isCovered_X11_holdValue rfl rfl rfl (by decide +kernel) ⟨Nat.le_of_ble_eq_true rfl, Nat.le_of_ble_eq_true rfl⟩) rfl rfl (Nat.le_of_ble_eq_true rfl) dX11_isCovered_80 ⟨Nat.le_of_ble_eq_true rfl, Nat.le_of_ble_eq_true rfl⟩ (fun H locs hPz24 hW hS => ?_)
        refine W.eq (g2 := F0 m 83 ls [.int r26, .int v4, .ref (ad j23)]) rfl ?_
        replace hf := ckiE hf
        obtain ⟨h28, hf⟩ := hf
        refine x_iast hC hW hS tj23 rfl rfl h28 dX11_isCovered_83 (fun S29 H locs eS29 hW hS => ?_)
        replace hf := ltE hf S29 eS29
        obtain ⟨x30, ex30⟩ : ∃ z : Int32, z = v4 + 1 := ⟨_, rfl⟩
        replace hf := ltE hf x30 ex30
        refine lv_iinc (v := x30) (lv' := [(4, .int x30), (0, .ref (ad v0)), (1, .int v1), (3, .int v3)]) hx hb dX11_isCovered_84 hl (k := 3) rfl (by rw [ex30]; rfl) (by decide) rfl (fun ls hl => ?_)
        refine lv_goto (tgt := 61) hx hb dX11_isCovered_87 (by decide) ?_
        exact ih61 S29 v0 v1 v3 x30 tv0 _ _ _ hf hW hS (lv_sub hl [1, 2, 3, 0] rfl)
  unfold f_X11_isCovered at hf
  refine lv_aload_n hx hb dX11_isCovered_0 rfl (lv_at hl 0 rfl) ?_
  refine lv_iload_n hx hb dX11_isCovered_1 rfl (lv_at hl 3 rfl) ?_
  refine lv_iconst (v := 3) hx hb dX11_isCovered_2 (by decide) ?_
  replace hf := obE hf
  obtain ⟨z31, hz31, hf⟩ := hf
  obtain ⟨r33, S32⟩ := z31
  replace hf := ltE (ltE hf r33 rfl) S32 rfl
  refine x_callV (As := [.int p3, .int 3]) (rest := []) (o := (some (.int r33))) (S1 := S32) hC hl.1 hW hS hGs hA tp0 rfl (show vwCl[10]? = some (RX11, TX11, 30) ∧ 10 < 11 from ⟨rfl, by decide⟩) (c_X11_holdValue l g ad n K s.heap.size F S0 p0 p3 ((3 : Int32)) tp0 r33 S32 hz31) (cwV 2 hts gX11_isCovered_X11_holdValue rfl rfl rfl (by decide +kernel) ⟨Nat.le_of_ble_eq_true rfl, Nat.le_of_ble_eq_true rfl⟩) rfl rfl (Nat.le_of_ble_eq_true rfl) dX11_isCovered_3 ⟨Nat.le_of_ble_eq_true rfl, Nat.le_of_ble_eq_true rfl⟩ (fun H locs hPz31 hW hS => ?_)
  refine W.eq (g2 := F0 m 6 ls [.int r33]) rfl ?_
  refine lv_if_eq (tgt := 46) hx hb dX11_isCovered_6 (by decide) (fun c35 => ?_) (fun c35 => ?_)
  · replace hf := ifT c35 hf
    refine lv_iconst (v := 0) hx hb dX11_isCovered_46 (by decide) ?_
    obtain ⟨e1, e2⟩ := so2 hf
    subst e1
    subst e2
    exact W.zret (v := 0) hx hb hr rfl (fun t ht hWm => ⟨⟨rfl, by unfold QB; rw [ht]; exact ⟨hW, trivial⟩⟩, hS.F ht⟩) hS.2.2 dX11_isCovered_47 hlk
  · replace hf := ifF c35 hf
    refine lv_aload_n hx hb dX11_isCovered_9 rfl (lv_at hl 0 rfl) ?_
    refine lv_iload_n hx hb dX11_isCovered_10 rfl (lv_at hl 3 rfl) ?_
    refine lv_iconst (v := 0) hx hb dX11_isCovered_11 (by decide) ?_
    replace hf := obE hf
    obtain ⟨z36, hz36, hf⟩ := hf
    obtain ⟨r38, S37⟩ := z36
    replace hf := ltE (ltE hf r38 rfl) S37 rfl
    refine x_callV (As := [.int p3, .int 0]) (rest := []) (o := (some (.int r38))) (S1 := S37) hC hl.1 hW hS hGs hA tp0 rfl (show vwCl[10]? = some (RX11, TX11, 30) ∧ 10 < 11 from ⟨rfl, by decide⟩) (c_X11_holdValue l g ad n K H.size F S32 p0 p3 ((0 : Int32)) tp0 r38 S37 hz36) (cwV 2 hts gX11_isCovered_X11_holdValue rfl rfl rfl (by decide +kernel) ⟨Nat.le_of_ble_eq_true rfl, Nat.le_of_ble_eq_true rfl⟩) rfl rfl (Nat.le_of_ble_eq_true rfl) dX11_isCovered_12 ⟨Nat.le_of_ble_eq_true rfl, Nat.le_of_ble_eq_true rfl⟩ (fun H locs hPz36 hW hS => ?_)
    refine W.eq (g2 := F0 m 15 ls [.int r38]) rfl ?_
    refine lv_iload_n hx hb dX11_isCovered_15 rfl (lv_at hl 2 rfl) ?_
    refine lv_icmp_ne (tgt := 46) hx hb dX11_isCovered_16 (by decide) (fun c40 => ?_) (fun c40 => ?_)
    · replace hf := ifT c40 hf
      refine lv_iconst (v := 0) hx hb dX11_isCovered_46 (by decide) ?_
      obtain ⟨e1, e2⟩ := so2 hf
      subst e1
      subst e2
      exact W.zret (v := 0) hx hb hr rfl (fun t ht hWm => ⟨⟨rfl, by unfold QB; rw [ht]; exact ⟨hW, trivial⟩⟩, hS.F ht⟩) hS.2.2 dX11_isCovered_47 hlk
    · replace hf := ifF (fun q => q c40) hf
      refine lv_aload_n hx hb dX11_isCovered_19 rfl (lv_at hl 0 rfl) ?_
      refine lv_iload_n hx hb dX11_isCovered_20 rfl (lv_at hl 1 rfl) ?_
      refine lv_iconst (v := 1) hx hb dX11_isCovered_21 (by decide) ?_
      replace hf := obE hf
      obtain ⟨z41, hz41, hf⟩ := hf
      obtain ⟨r43, S42⟩ := z41
      replace hf := ltE (ltE hf r43 rfl) S42 rfl
      refine x_callV (As := [.int p1, .int 1]) (rest := []) (o := (some (.int r43))) (S1 := S42) hC hl.1 hW hS hGs hA tp0 rfl (show vwCl[10]? = some (RX11, TX11, 30) ∧ 10 < 11 from ⟨rfl, by decide⟩) (c_X11_messageValue l g ad n K H.size F S37 p0 p1 ((1 : Int32)) tp0 r43 S42 hz41) (cwV 2 hts gX11_isCovered_X11_messageValue rfl rfl rfl (by decide +kernel) ⟨Nat.le_of_ble_eq_true rfl, Nat.le_of_ble_eq_true rfl⟩) rfl rfl (Nat.le_of_ble_eq_true rfl) dX11_isCovered_22 ⟨Nat.le_of_ble_eq_true rfl, Nat.le_of_ble_eq_true rfl⟩ (fun H locs hPz41 hW hS => ?_)
      refine W.eq (g2 := F0 m 25 ls [.int r43]) rfl ?_
      refine lv_i2l (v := r43.toInt64) hx hb dX11_isCovered_25 rfl ?_
      refine lv_aload_n hx hb dX11_isCovered_26 rfl (lv_at hl 0 rfl) ?_
      refine lv_iload_n hx hb dX11_isCovered_27 rfl (lv_at hl 3 rfl) ?_
      refine lv_iconst (v := 1) hx hb dX11_isCovered_28 (by decide) ?_
      replace hf := obE hf
      obtain ⟨z45, hz45, hf⟩ := hf
      obtain ⟨r47, S46⟩ := z45
      replace hf := ltE (ltE hf r47 rfl) S46 rfl
      refine x_callV (As := [.int p3, .int 1]) (rest := [.long (r43.toInt64)]) (o := (some (.int r47))) (S1 := S46) hC hl.1 hW hS hGs hA tp0 rfl (show vwCl[10]? = some (RX11, TX11, 30) ∧ 10 < 11 from ⟨rfl, by decide⟩) (c_X11_holdValue l g ad n K H.size F S42 p0 p3 ((1 : Int32)) tp0 r47 S46 hz45) (cwV 2 hts gX11_isCovered_X11_holdValue rfl rfl rfl (by decide +kernel) ⟨Nat.le_of_ble_eq_true rfl, Nat.le_of_ble_eq_true rfl⟩) rfl rfl (Nat.le_of_ble_eq_true rfl) dX11_isCovered_29 ⟨Nat.le_of_ble_eq_true rfl, Nat.le_of_ble_eq_true rfl⟩ (fun H locs hPz45 hW hS => ?_)
      refine W.eq (g2 := F0 m 32 ls [.int r47, .long (r43.toInt64)]) rfl ?_
      refine lv_i2l (v := r47.toInt64) hx hb dX11_isCovered_32 rfl ?_
      refine lv_aload_n hx hb dX11_isCovered_33 rfl (lv_at hl 0 rfl) ?_
      refine lv_iload_n hx hb dX11_isCovered_34 rfl (lv_at hl 3 rfl) ?_
      refine lv_iconst (v := 2) hx hb dX11_isCovered_35 (by decide) ?_
      replace hf := obE hf
      obtain ⟨z49, hz49, hf⟩ := hf
      obtain ⟨r51, S50⟩ := z49
      replace hf := ltE (ltE hf r51 rfl) S50 rfl
      refine x_callV (As := [.int p3, .int 2]) (rest := [.long (r47.toInt64), .long (r43.toInt64)]) (o := (some (.int r51))) (S1 := S50) hC hl.1 hW hS hGs hA tp0 rfl (show vwCl[10]? = some (RX11, TX11, 30) ∧ 10 < 11 from ⟨rfl, by decide⟩) (c_X11_holdValue l g ad n K H.size F S46 p0 p3 ((2 : Int32)) tp0 r51 S50 hz49) (cwV 2 hts gX11_isCovered_X11_holdValue rfl rfl rfl (by decide +kernel) ⟨Nat.le_of_ble_eq_true rfl, Nat.le_of_ble_eq_true rfl⟩) rfl rfl (Nat.le_of_ble_eq_true rfl) dX11_isCovered_36 ⟨Nat.le_of_ble_eq_true rfl, Nat.le_of_ble_eq_true rfl⟩ (fun H locs hPz49 hW hS => ?_)
      refine W.eq (g2 := F0 m 39 ls [.int r51, .long (r47.toInt64), .long (r43.toInt64)]) rfl ?_
      refine lv_i2l (v := r51.toInt64) hx hb dX11_isCovered_39 rfl ?_
      replace hf := obE hf
      obtain ⟨z53, hz53, hf⟩ := hf
      obtain ⟨r55, S54⟩ := z53
      replace hf := ltE (ltE hf r55 rfl) S54 rfl
      refine x_callS (As := [.long (r43.toInt64), .long (r47.toInt64), .long (r51.toInt64)]) (rest := []) (o := (some (.int r55))) (S1 := S54) hC hl.1 hW hS hGs hA (c_X11_in l g ad n K H.size F S50 r43.toInt64 r47.toInt64 r51.toInt64 r55 S54 hz53) (va_cwS 3 hts gX11_isCovered_X11_in rfl rfl rfl (by decide +kernel) ⟨Nat.le_of_ble_eq_true rfl, Nat.le_of_ble_eq_true rfl⟩) rfl rfl (Nat.le_of_ble_eq_true rfl) dX11_isCovered_40 ⟨Nat.le_of_ble_eq_true rfl, Nat.le_of_ble_eq_true rfl⟩ (fun H locs hPz53 hW hS => ?_)
      refine W.eq (g2 := F0 m 43 ls [.int r55]) rfl ?_
      refine lv_if_ne (tgt := 48) hx hb dX11_isCovered_43 (by decide) (fun c57 => ?_) (fun c57 => ?_)
      · replace hf := ifT c57 hf
        refine lv_aload_n hx hb dX11_isCovered_48 rfl (lv_at hl 0 rfl) ?_
        refine lv_aload_n hx hb dX11_isCovered_49 rfl (lv_at hl 0 rfl) ?_
        refine lv_iload_n hx hb dX11_isCovered_50 rfl (lv_at hl 3 rfl) ?_
        refine lv_iconst (v := 4) hx hb dX11_isCovered_51 (by decide) ?_
        replace hf := obE hf
        obtain ⟨z58, hz58, hf⟩ := hf
        obtain ⟨r60, S59⟩ := z58
        replace hf := ltE (ltE hf r60 rfl) S59 rfl
        refine x_callV (As := [.int p3, .int 4]) (rest := [.ref (ad p0)]) (o := (some (.int r60))) (S1 := S59) hC hl.1 hW hS hGs hA tp0 rfl (show vwCl[10]? = some (RX11, TX11, 30) ∧ 10 < 11 from ⟨rfl, by decide⟩) (c_X11_holdValue l g ad n K H.size F S54 p0 p3 ((4 : Int32)) tp0 r60 S59 hz58) (cwV 2 hts gX11_isCovered_X11_holdValue rfl rfl rfl (by decide +kernel) ⟨Nat.le_of_ble_eq_true rfl, Nat.le_of_ble_eq_true rfl⟩) rfl rfl (Nat.le_of_ble_eq_true rfl) dX11_isCovered_52 ⟨Nat.le_of_ble_eq_true rfl, Nat.le_of_ble_eq_true rfl⟩ (fun H locs hPz58 hW hS => ?_)
        refine W.eq (g2 := F0 m 55 ls [.int r60, .ref (ad p0)]) rfl ?_
        refine x_puti 1016 (ci := 10) (C := RX11) (T := TX11) (N := 30) (v := r60) (ty := .int) 16 hC hin11 tyX11_ok nmX11 hW hS tp0 rfl rfl ⟨by decide, by decide, rfl, rfl⟩ rfl w_0 rfl (by decide +kernel) rfl rfl dX11_isCovered_55 (fun S62 H locs eS62 hW hS => ?_)
        replace hf := ltE hf S62 eS62
        refine lv_iconst (v := 0) hx hb dX11_isCovered_58 (by decide) ?_
        refine lv_istore (lv' := [(4, .int 0), (0, .ref (ad p0)), (1, .int p1), (2, .int p2), (3, .int p3)]) hx hb dX11_isCovered_59 hl (by decide) rfl (fun ls hl => ?_)
        exact L61 F S62 p0 p1 p3 0 tp0 _ _ _ hf hW hS (lv_sub hl [1, 2, 4, 0] rfl)
      · replace hf := ifF (fun q => q c57) hf
        refine lv_iconst (v := 0) hx hb dX11_isCovered_46 (by decide) ?_
        obtain ⟨e1, e2⟩ := so2 hf
        subst e1
        subst e2
        exact W.zret (v := 0) hx hb hr rfl (fun t ht hWm => ⟨⟨rfl, by unfold QB; rw [ht]; exact ⟨hW, trivial⟩⟩, hS.F ht⟩) hS.2.2 dX11_isCovered_47 hlk
set_option maxHeartbeats 4000000 in
set_option maxRecDepth 100000 in
theorem c_X11_covers (l : Launch) (g : GP) (ad : Nat → Nat) (n : Nat) (K : Nat → Nat) (sz F : Nat) (S0 : St) (p0 : Nat) (p1 : Int32) (p2 : Int32) (tp0 : p0 < n ∧ K p0 = 10) (r9 : Int32) (S9 : St) (hf : f_X11_covers F S0 p0 p1 p2 = some (r9, S9)) : Met l yX11_covers wsX11_covers { frames := 5, cells := 0, slots := 0, locals := 119 } (va_Pc [.ref (ad p0), .int p1, .int p2] (PB g ad n K S0 sz)) (QR (some (.int r9)) (QB g ad n K S9 (dA ad n sz) (True)) (dA ad n sz)) 0 0 (dA ad n sz) := by
  refine Met.ofW (cc := cX11_covers) (maxL := 5) (ret := (some .int)) (by decide) rfl ?_
  intro p e s m args below meth c s₁ B hml hv
  obtain ⟨rfl, hsz, hW, hK, hGs⟩ := x_start hv
  subst hsz
  have hx := B.exec
  have hb := B.bytes
  have hr := B.returns
  have hts := atoms_spec (ws := wsX11_covers) B.pre
  have hown : s.vm.findClass RX11 = some m.cls := findClass_of_methodNamed B.named
  have hlk := B.notSynchronized
  have hC : Cx g p s m _ c cX11_covers RX11 wsX11_covers 5 := ⟨hx, hb, hml, hown, hts, hK⟩
  have hA : ∀ q : Nat, s.heap.size ≤ q → dA ad n s.heap.size q := fun q h => Or.inr h
  have hS : va_S (dA ad n s.heap.size) s.heap s.heap [] := va_S.rf
  have hl := lv_entry ([.ref (ad p0), .int p1, .int p2]) (n := 5) (Nat.le_of_ble_eq_true rfl)
  rw [lg_entry_eq]
  generalize (lg_sl ([.ref (ad p0), .int p1, .int p2]) ++ List.replicate (5 - (lg_sl ([.ref (ad p0), .int p1, .int p2])).length) Slot.unset).toArray = ls at hl ⊢
  have hl : lv_has ls 5 [(0, .ref (ad p0)), (1, .int p1), (2, .int p2)] := hl
  have hin11 : ∀ w ∈ wsX110, w ∈ wsX11_covers := by decide +kernel
  have w_0 := hts (.fieldLink RX11 17 "MailSpoolModel" "net" "[I") (by decide +kernel)
  have hGE := hGs.2.2.2.2.2.2.1
  have hGM := hGs.2.2.2.2.2.2.2.1
  have L5 : ∀ (fu5 : Nat) (S0 : St) (v0 : Nat) (v1 : Int32) (v2 : Int32) (v3 : Int32) (v4 : Int32) (tv0 : v0 < n ∧ K v0 = 10) (H : Heap) (locs : List Loc) (ls : Array Slot), f_X11_covers_L5 F fu5 S0 v0 v1 v2 v3 v4 = some (r9, S9) → Wb g ad n K S0 (dA ad n s.heap.size) H → va_S (dA ad n s.heap.size) s.heap H locs → lv_has ls 5 [(0, .ref (ad v0)), (1, .int v1), (2, .int v2), (3, .int v3), (4, .int v4)] → W p l e (headSpec wsX11_covers { frames := 5, cells := 0, slots := 0, locals := 119 }).room s m (List.toArray [.ref (ad p0), .int p1, .int p2]) below meth c H locs 0 0 (MQ below (QR (some (.int r9)) (QB g ad n K S9 (dA ad n s.heap.size) (True)) (dA ad n s.heap.size)) (List.toArray [.ref (ad p0), .int p1, .int p2]) s 0 0 (dA ad n s.heap.size)) (F0 m 5 ls []) := by
    intro fu5
    induction fu5 with
    | zero =>
      intro S0 v0 v1 v2 v3 v4 tv0 H locs ls hf
      cases hf
    | succ fu5 ih5 =>
      have L37 : ∀ (S0 : St) (v0 : Nat) (v1 : Int32) (v2 : Int32) (v4 : Int32) (s0 : Int32) (s1 : Int32) (tv0 : v0 < n ∧ K v0 = 10) (H : Heap) (locs : List Loc) (ls : Array Slot), f_X11_covers_L37 F (fun a0 a1 a2 a3 a4 a5 => f_X11_covers_L5 F fu5 a0 a1 a2 a3 a4 a5) S0 v0 v1 v2 v4 s0 s1 = some (r9, S9) → Wb g ad n K S0 (dA ad n s.heap.size) H → va_S (dA ad n s.heap.size) s.heap H locs → lv_has ls 5 [(0, .ref (ad v0)), (1, .int v1), (2, .int v2), (4, .int v4)] → W p l e (headSpec wsX11_covers { frames := 5, cells := 0, slots := 0, locals := 119 }).room s m (List.toArray [.ref (ad p0), .int p1, .int p2]) below meth c H locs 0 0 (MQ below (QR (some (.int r9)) (QB g ad n K S9 (dA ad n s.heap.size) (True)) (dA ad n s.heap.size)) (List.toArray [.ref (ad p0), .int p1, .int p2]) s 0 0 (dA ad n s.heap.size)) (F0 m 37 ls [.int s0, .int s1]) := by
        intro S0 v0 v1 v2 v4 s0 s1 tv0 H locs ls hf hW hS hl
        unfold f_X11_covers_L37 at hf
        refine lv_ior hx hb dX11_covers_37 ?_
        refine lv_topi (fun x3 ex3 => ?_)
        replace hf := ltE hf x3 ex3
        refine lv_istore_n (lv' := [(3, .int x3), (0, .ref (ad v0)), (1, .int v1), (2, .int v2), (4, .int v4)]) hx hb dX11_covers_38 rfl hl (by decide) rfl (fun ls hl => ?_)
        obtain ⟨x4, ex4⟩ : ∃ z : Int32, z = v4 + 1 := ⟨_, rfl⟩
        replace hf := ltE hf x4 ex4
        refine lv_iinc (v := x4) (lv' := [(4, .int x4), (3, .int x3), (0, .ref (ad v0)), (1, .int v1), (2, .int v2)]) hx hb dX11_covers_39 hl (k := 4) rfl (by rw [ex4]; rfl) (by decide) rfl (fun ls hl => ?_)
        refine lv_goto (tgt := 5) hx hb dX11_covers_42 (by decide) ?_
        exact ih5 S0 v0 v1 v2 x3 x4 tv0 _ _ _ hf hW hS (lv_sub hl [2, 3, 4, 1, 0] rfl)
      intro S0 v0 v1 v2 v3 v4 tv0 H locs ls hf hW hS hl
      unfold f_X11_covers_L5 at hf
      refine lv_iload hx hb dX11_covers_5 (lv_at hl 4 rfl) ?_
      refine lv_aload_n hx hb dX11_covers_7 rfl (lv_at hl 0 rfl) ?_
      replace hf := obE hf
      obtain ⟨j13, qj13, hf⟩ := hf
      have tj13 := x_rt hW qj13 12 ⟨by decide, rfl⟩
      refine x_getr 1001 (ci := 10) (C := RX11) (T := TX11) (N := 30) 1 hC hin11 hW tv0 rfl rfl ⟨by decide, by decide, rfl, rfl⟩ rfl w_0 dX11_covers_8 qj13 ?_
      refine lv_bipush (v := 6) hx hb dX11_covers_11 (by decide) ?_
      replace hf := ckiE hf
      obtain ⟨h14, hf⟩ := hf
      refine x_iald hC hW tj13 rfl rfl h14 dX11_covers_13 ?_
      refine lv_icmp_ge (tgt := 45) hx hb dX11_covers_14 (by decide) (fun c15 => ?_) (fun c15 => ?_)
      · replace hf := ifT c15 hf
        refine lv_iload_n hx hb dX11_covers_45 rfl (lv_at hl 3 rfl) ?_
        obtain ⟨e1, e2⟩ := so2 hf
        subst e1
        subst e2
        exact W.iret (v := v3) hx hb hr (fun t ht hWm => ⟨⟨rfl, by unfold QB; rw [ht]; exact ⟨hW, trivial⟩⟩, hS.F ht⟩) hS.2.2 dX11_covers_46 hlk
      · replace hf := ifF c15 hf
        refine lv_iload_n hx hb dX11_covers_17 rfl (lv_at hl 3 rfl) ?_
        refine lv_aload_n hx hb dX11_covers_18 rfl (lv_at hl 0 rfl) ?_
        refine lv_iload_n hx hb dX11_covers_19 rfl (lv_at hl 1 rfl) ?_
        refine lv_iload_n hx hb dX11_covers_20 rfl (lv_at hl 2 rfl) ?_
        refine lv_iload hx hb dX11_covers_21 (lv_at hl 4 rfl) ?_
        replace hf := obE hf
        obtain ⟨z16, hz16, hf⟩ := hf
        obtain ⟨r18, S17⟩ := z16
        replace hf := ltE (ltE hf r18 rfl) S17 rfl
        refine x_callV (As := [.int v1, .int v2, .int v4]) (rest := [.int v3]) (o := (some (.int r18))) (S1 := S17) hC hl.1 hW hS hGs hA tv0 rfl (show vwCl[10]? = some (RX11, TX11, 30) ∧ 10 < 11 from ⟨rfl, by decide⟩) (c_X11_isCovered l g ad n K H.size F S0 v0 v1 v2 v4 tv0 r18 S17 hz16) (cwV 3 hts gX11_covers_X11_isCovered rfl rfl rfl (by decide +kernel) ⟨Nat.le_of_ble_eq_true rfl, Nat.le_of_ble_eq_true rfl⟩) rfl rfl (Nat.le_of_ble_eq_true rfl) dX11_covers_23 ⟨Nat.le_of_ble_eq_true rfl, Nat.le_of_ble_eq_true rfl⟩ (fun H locs hPz16 hW hS => ?_)
        refine W.eq (g2 := F0 m 26 ls [.int r18, .int v3]) rfl ?_
        refine lv_if_eq (tgt := 36) hx hb dX11_covers_26 (by decide) (fun c20 => ?_) (fun c20 => ?_)
        · replace hf := ifT c20 hf
          refine lv_iconst (v := 0) hx hb dX11_covers_36 (by decide) ?_
          exact L37 S17 v0 v1 v2 v4 0 v3 tv0 _ _ _ hf hW hS (lv_sub hl [0, 1, 2, 4] rfl)
        · replace hf := ifF c20 hf
          refine lv_iconst (v := 1) hx hb dX11_covers_29 (by decide) ?_
          refine lv_iload hx hb dX11_covers_30 (lv_at hl 4 rfl) ?_
          refine lv_ishl hx hb dX11_covers_32 ?_
          refine lv_goto (tgt := 37) hx hb dX11_covers_33 (by decide) ?_
          exact L37 S17 v0 v1 v2 v4 (1 <<< (v4 &&& 31)) v3 tv0 _ _ _ hf hW hS (lv_sub hl [0, 1, 2, 4] rfl)
  unfold f_X11_covers at hf
  refine lv_iconst (v := 0) hx hb dX11_covers_0 (by decide) ?_
  refine lv_istore_n (lv' := [(3, .int 0), (0, .ref (ad p0)), (1, .int p1), (2, .int p2)]) hx hb dX11_covers_1 rfl hl (by decide) rfl (fun ls hl => ?_)
  refine lv_iconst (v := 0) hx hb dX11_covers_2 (by decide) ?_
  refine lv_istore (lv' := [(4, .int 0), (3, .int 0), (0, .ref (ad p0)), (1, .int p1), (2, .int p2)]) hx hb dX11_covers_3 hl (by decide) rfl (fun ls hl => ?_)
  exact L5 F S0 p0 p1 p2 0 0 tp0 _ _ _ hf hW hS (lv_sub hl [2, 3, 4, 1, 0] rfl)
set_option maxHeartbeats 4000000 in
set_option maxRecDepth 100000 in
theorem c_X11_isKeptMessage (l : Launch) (g : GP) (ad : Nat → Nat) (n : Nat) (K : Nat → Nat) (sz F : Nat) (S0 : St) (p0 : Nat) (p1 : Int32) (tp0 : p0 < n ∧ K p0 = 10) (r9 : Int32) (S9 : St) (hf : f_X11_isKeptMessage F S0 p0 p1 = some (r9, S9)) : Met l yX11_isKeptMessage wsX11_isKeptMessage { frames := 2, cells := 0, slots := 0, locals := 43 } (va_Pc [.ref (ad p0), .int p1] (PB g ad n K S0 sz)) (QR (some (.int r9)) (QB g ad n K S9 (dA ad n sz) (True)) (dA ad n sz)) 0 0 (dA ad n sz) := by
  refine Met.ofW (cc := cX11_isKeptMessage) (maxL := 4) (ret := (some .boolean)) (by decide) rfl ?_
  intro p e s m args below meth c s₁ B hml hv
  obtain ⟨rfl, hsz, hW, hK, hGs⟩ := x_start hv
  subst hsz
  have hx := B.exec
  have hb := B.bytes
  have hr := B.returns
  have hts := atoms_spec (ws := wsX11_isKeptMessage) B.pre
  have hown : s.vm.findClass RX11 = some m.cls := findClass_of_methodNamed B.named
  have hlk := B.notSynchronized
  have hC : Cx g p s m _ c cX11_isKeptMessage RX11 wsX11_isKeptMessage 4 := ⟨hx, hb, hml, hown, hts, hK⟩
  have hA : ∀ q : Nat, s.heap.size ≤ q → dA ad n s.heap.size q := fun q h => Or.inr h
  have hS : va_S (dA ad n s.heap.size) s.heap s.heap [] := va_S.rf
  have hl := lv_entry ([.ref (ad p0), .int p1]) (n := 4) (Nat.le_of_ble_eq_true rfl)
  rw [lg_entry_eq]
  generalize (lg_sl ([.ref (ad p0), .int p1]) ++ List.replicate (4 - (lg_sl ([.ref (ad p0), .int p1])).length) Slot.unset).toArray = ls at hl ⊢
  have hl : lv_has ls 4 [(0, .ref (ad p0)), (1, .int p1)] := hl
  have hin11 : ∀ w ∈ wsX110, w ∈ wsX11_isKeptMessage := by decide +kernel
  have w_0 := hts (.fieldLink RX11 17 "MailSpoolModel" "net" "[I") (by decide +kernel)
  have w_1 := hts (.constantLong RX11 82 (2)) (by decide +kernel)
  have hGE := hGs.2.2.2.2.2.2.1
  have hGM := hGs.2.2.2.2.2.2.2.1
  have L4 : ∀ (fu4 : Nat) (S0 : St) (v0 : Nat) (v1 : Int32) (v2 : Int32) (v3 : Int32) (tv0 : v0 < n ∧ K v0 = 10) (H : Heap) (locs : List Loc) (ls : Array Slot), f_X11_isKeptMessage_L4 F fu4 S0 v0 v1 v2 v3 = some (r9, S9) → Wb g ad n K S0 (dA ad n s.heap.size) H → va_S (dA ad n s.heap.size) s.heap H locs → lv_has ls 4 [(0, .ref (ad v0)), (1, .int v1), (2, .int v2), (3, .int v3)] → W p l e (headSpec wsX11_isKeptMessage { frames := 2, cells := 0, slots := 0, locals := 43 }).room s m (List.toArray [.ref (ad p0), .int p1]) below meth c H locs 0 0 (MQ below (QR (some (.int r9)) (QB g ad n K S9 (dA ad n s.heap.size) (True)) (dA ad n s.heap.size)) (List.toArray [.ref (ad p0), .int p1]) s 0 0 (dA ad n s.heap.size)) (F0 m 4 ls []) := by
    intro fu4
    induction fu4 with
    | zero =>
      intro S0 v0 v1 v2 v3 tv0 H locs ls hf
      cases hf
    | succ fu4 ih4 =>
      have L40 : ∀ (S0 : St) (v0 : Nat) (v1 : Int32) (v3 : Int32) (s0 : Int32) (tv0 : v0 < n ∧ K v0 = 10) (H : Heap) (locs : List Loc) (ls : Array Slot), f_X11_isKeptMessage_L40 F (fun a0 a1 a2 a3 a4 => f_X11_isKeptMessage_L4 F fu4 a0 a1 a2 a3 a4) S0 v0 v1 v3 s0 = some (r9, S9) → Wb g ad n K S0 (dA ad n s.heap.size) H → va_S (dA ad n s.heap.size) s.heap H locs → lv_has ls 4 [(0, .ref (ad v0)), (1, .int v1), (3, .int v3)] → W p l e (headSpec wsX11_isKeptMessage { frames := 2, cells := 0, slots := 0, locals := 43 }).room s m (List.toArray [.ref (ad p0), .int p1]) below meth c H locs 0 0 (MQ below (QR (some (.int r9)) (QB g ad n K S9 (dA ad n s.heap.size) (True)) (dA ad n s.heap.size)) (List.toArray [.ref (ad p0), .int p1]) s 0 0 (dA ad n s.heap.size)) (F0 m 40 ls [.int s0]) := by
        intro S0 v0 v1 v3 s0 tv0 H locs ls hf hW hS hl
        unfold f_X11_isKeptMessage_L40 at hf
        refine lv_istore_n (lv' := [(2, .int s0), (0, .ref (ad v0)), (1, .int v1), (3, .int v3)]) hx hb dX11_isKeptMessage_40 rfl hl (by decide) rfl (fun ls hl => ?_)
        obtain ⟨x2, ex2⟩ : ∃ z : Int32, z = v3 + 1 := ⟨_, rfl⟩
        replace hf := ltE hf x2 ex2
        refine lv_iinc (v := x2) (lv' := [(3, .int x2), (2, .int s0), (0, .ref (ad v0)), (1, .int v1)]) hx hb dX11_isKeptMessage_41 hl (k := 3) rfl (by rw [ex2]; rfl) (by decide) rfl (fun ls hl => ?_)
        refine lv_goto (tgt := 4) hx hb dX11_isKeptMessage_44 (by decide) ?_
        exact ih4 S0 v0 v1 s0 x2 tv0 _ _ _ hf hW hS (lv_sub hl [2, 3, 1, 0] rfl)
      have L35 : ∀ (S0 : St) (v0 : Nat) (v1 : Int32) (v3 : Int32) (tv0 : v0 < n ∧ K v0 = 10) (H : Heap) (locs : List Loc) (ls : Array Slot), f_X11_isKeptMessage_L35 F (fun a0 a1 a2 a3 a4 => f_X11_isKeptMessage_L4 F fu4 a0 a1 a2 a3 a4) S0 v0 v1 v3 = some (r9, S9) → Wb g ad n K S0 (dA ad n s.heap.size) H → va_S (dA ad n s.heap.size) s.heap H locs → lv_has ls 4 [(0, .ref (ad v0)), (1, .int v1), (3, .int v3)] → W p l e (headSpec wsX11_isKeptMessage { frames := 2, cells := 0, slots := 0, locals := 43 }).room s m (List.toArray [.ref (ad p0), .int p1]) below meth c H locs 0 0 (MQ below (QR (some (.int r9)) (QB g ad n K S9 (dA ad n s.heap.size) (True)) (dA ad n s.heap.size)) (List.toArray [.ref (ad p0), .int p1]) s 0 0 (dA ad n s.heap.size)) (F0 m 35 ls []) := by
        intro S0 v0 v1 v3 tv0 H locs ls hf hW hS hl
        unfold f_X11_isKeptMessage_L35 at hf
        refine lv_iconst (v := 1) hx hb dX11_isKeptMessage_35 (by decide) ?_
        refine lv_goto (tgt := 40) hx hb dX11_isKeptMessage_36 (by decide) ?_
        exact L40 S0 v0 v1 v3 1 tv0 _ _ _ hf hW hS (lv_sub hl [0, 1, 2] rfl)
      intro S0 v0 v1 v2 v3 tv0 H locs ls hf hW hS hl
      unfold f_X11_isKeptMessage_L4 at hf
      refine lv_iload_n hx hb dX11_isKeptMessage_4 rfl (lv_at hl 3 rfl) ?_
      refine lv_aload_n hx hb dX11_isKeptMessage_5 rfl (lv_at hl 0 rfl) ?_
      replace hf := obE hf
      obtain ⟨j17, qj17, hf⟩ := hf
      have tj17 := x_rt hW qj17 12 ⟨by decide, rfl⟩
      refine x_getr 1001 (ci := 10) (C := RX11) (T := TX11) (N := 30) 1 hC hin11 hW tv0 rfl rfl ⟨by decide, by decide, rfl, rfl⟩ rfl w_0 dX11_isKeptMessage_6 qj17 ?_
      refine lv_iconst (v := 4) hx hb dX11_isKeptMessage_9 (by decide) ?_
      replace hf := ckiE hf
      obtain ⟨h18, hf⟩ := hf
      refine x_iald hC hW tj17 rfl rfl h18 dX11_isKeptMessage_10 ?_
      refine lv_icmp_ge (tgt := 47) hx hb dX11_isKeptMessage_11 (by decide) (fun c19 => ?_) (fun c19 => ?_)
      · replace hf := ifT c19 hf
        refine lv_iload_n hx hb dX11_isKeptMessage_47 rfl (lv_at hl 2 rfl) ?_
        replace hf := ckE hf
        obtain ⟨h20, hf⟩ := hf
        obtain ⟨e1, e2⟩ := so2 hf
        subst e1
        subst e2
        exact W.zret (v := v2) hx hb hr (zn h20) (fun t ht hWm => ⟨⟨rfl, by unfold QB; rw [ht]; exact ⟨hW, trivial⟩⟩, hS.F ht⟩) hS.2.2 dX11_isKeptMessage_48 hlk
      · replace hf := ifF c19 hf
        refine lv_iload_n hx hb dX11_isKeptMessage_14 rfl (lv_at hl 2 rfl) ?_
        refine lv_if_ne (tgt := 35) hx hb dX11_isKeptMessage_15 (by decide) (fun c21 => ?_) (fun c21 => ?_)
        · replace hf := ifT c21 hf
          exact L35 S0 v0 v1 v3 tv0 _ _ _ hf hW hS (lv_sub hl [0, 1, 3] rfl)
        · replace hf := ifF (fun q => q c21) hf
          refine lv_aload_n hx hb dX11_isKeptMessage_18 rfl (lv_at hl 0 rfl) ?_
          refine lv_iload_n hx hb dX11_isKeptMessage_19 rfl (lv_at hl 1 rfl) ?_
          refine lv_iload_n hx hb dX11_isKeptMessage_20 rfl (lv_at hl 3 rfl) ?_
          replace hf := obE hf
          obtain ⟨z22, hz22, hf⟩ := hf
          obtain ⟨r24, S23⟩ := z22
          replace hf := ltE (ltE hf r24 rfl) S23 rfl
          refine x_callV (As := [.int v1, .int v3]) (rest := []) (o := (some (.int r24))) (S1 := S23) hC hl.1 hW hS hGs hA tv0 rfl (show vwCl[10]? = some (RX11, TX11, 30) ∧ 10 < 11 from ⟨rfl, by decide⟩) (c_X11_stateOf l g ad n K H.size F S0 v0 v1 v3 tv0 r24 S23 hz22) (cwV 2 hts gX11_isKeptMessage_X11_stateOf rfl rfl rfl (by decide +kernel) ⟨Nat.le_of_ble_eq_true rfl, Nat.le_of_ble_eq_true rfl⟩) rfl rfl (Nat.le_of_ble_eq_true rfl) dX11_isKeptMessage_21 ⟨Nat.le_of_ble_eq_true rfl, Nat.le_of_ble_eq_true rfl⟩ (fun H locs hPz22 hW hS => ?_)
          refine W.eq (g2 := F0 m 24 ls [.int r24]) rfl ?_
          refine lv_i2l (v := r24.toInt64) hx hb dX11_isKeptMessage_24 rfl ?_
          refine lv_lconst (v := 0) hx hb dX11_isKeptMessage_25 (by decide) ?_
          refine lv_ldc2 (v := (2)) hx hb hown w_1 dX11_isKeptMessage_26 ?_
          replace hf := obE hf
          obtain ⟨z26, hz26, hf⟩ := hf
          obtain ⟨r28, S27⟩ := z26
          replace hf := ltE (ltE hf r28 rfl) S27 rfl
          refine x_callS (As := [.long (r24.toInt64), .long (0), .long ((2))]) (rest := []) (o := (some (.int r28))) (S1 := S27) hC hl.1 hW hS hGs hA (c_X11_in l g ad n K H.size F S23 r24.toInt64 ((0 : Int64)) (((2) : Int64)) r28 S27 hz26) (va_cwS 3 hts gX11_isKeptMessage_X11_in rfl rfl rfl (by decide +kernel) ⟨Nat.le_of_ble_eq_true rfl, Nat.le_of_ble_eq_true rfl⟩) rfl rfl (Nat.le_of_ble_eq_true rfl) dX11_isKeptMessage_29 ⟨Nat.le_of_ble_eq_true rfl, Nat.le_of_ble_eq_true rfl⟩ (fun H locs hPz26 hW hS => ?_)
          refine W.eq (g2 := F0 m 32 ls [.int r28]) rfl ?_
          refine lv_if_eq (tgt := 39) hx hb dX11_isKeptMessage_32 (by decide) (fun c30 => ?_) (fun c30 => ?_)
          · replace hf := ifT c30 hf
            refine lv_iconst (v := 0) hx hb dX11_isKeptMessage_39 (by decide) ?_
            exact L40 S27 v0 v1 v3 0 tv0 _ _ _ hf hW hS (lv_sub hl [0, 1, 3] rfl)
          · replace hf := ifF c30 hf
            exact L35 S27 v0 v1 v3 tv0 _ _ _ hf hW hS (lv_sub hl [0, 1, 3] rfl)
  unfold f_X11_isKeptMessage at hf
  refine lv_iconst (v := 0) hx hb dX11_isKeptMessage_0 (by decide) ?_
  refine lv_istore_n (lv' := [(2, .int 0), (0, .ref (ad p0)), (1, .int p1)]) hx hb dX11_isKeptMessage_1 rfl hl (by decide) rfl (fun ls hl => ?_)
  refine lv_iconst (v := 0) hx hb dX11_isKeptMessage_2 (by decide) ?_
  refine lv_istore_n (lv' := [(3, .int 0), (2, .int 0), (0, .ref (ad p0)), (1, .int p1)]) hx hb dX11_isKeptMessage_3 rfl hl (by decide) rfl (fun ls hl => ?_)
  exact L4 F S0 p0 p1 0 0 tp0 _ _ _ hf hW hS (lv_sub hl [2, 3, 1, 0] rfl)
set_option maxHeartbeats 4000000 in
set_option maxRecDepth 100000 in
theorem c_X11_has (l : Launch) (g : GP) (ad : Nat → Nat) (n : Nat) (K : Nat → Nat) (sz F : Nat) (S0 : St) (p0 : Nat) (p1 : Int32) (p2 : Int32) (tp0 : p0 < n ∧ K p0 = 10) (r9 : Int32) (S9 : St) (hf : f_X11_has F S0 p0 p1 p2 = some (r9, S9)) : Met l yX11_has wsX11_has { frames := 1, cells := 0, slots := 0, locals := 22 } (va_Pc [.ref (ad p0), .int p1, .int p2] (PB g ad n K S0 sz)) (QR (some (.int r9)) (QB g ad n K S9 (dA ad n sz) (True)) (dA ad n sz)) 0 0 (dA ad n sz) := by
  refine Met.ofW (cc := cX11_has) (maxL := 5) (ret := (some .boolean)) (by decide) rfl ?_
  intro p e s m args below meth c s₁ B hml hv
  obtain ⟨rfl, hsz, hW, hK, hGs⟩ := x_start hv
  subst hsz
  have hx := B.exec
  have hb := B.bytes
  have hr := B.returns
  have hts := atoms_spec (ws := wsX11_has) B.pre
  have hown : s.vm.findClass RX11 = some m.cls := findClass_of_methodNamed B.named
  have hlk := B.notSynchronized
  have hC : Cx g p s m _ c cX11_has RX11 wsX11_has 5 := ⟨hx, hb, hml, hown, hts, hK⟩
  have hA : ∀ q : Nat, s.heap.size ≤ q → dA ad n s.heap.size q := fun q h => Or.inr h
  have hS : va_S (dA ad n s.heap.size) s.heap s.heap [] := va_S.rf
  have hl := lv_entry ([.ref (ad p0), .int p1, .int p2]) (n := 5) (Nat.le_of_ble_eq_true rfl)
  rw [lg_entry_eq]
  generalize (lg_sl ([.ref (ad p0), .int p1, .int p2]) ++ List.replicate (5 - (lg_sl ([.ref (ad p0), .int p1, .int p2])).length) Slot.unset).toArray = ls at hl ⊢
  have hl : lv_has ls 5 [(0, .ref (ad p0)), (1, .int p1), (2, .int p2)] := hl
  have hGE := hGs.2.2.2.2.2.2.1
  have hGM := hGs.2.2.2.2.2.2.2.1
  have L5 : ∀ (fu5 : Nat) (S0 : St) (v0 : Nat) (v1 : Int32) (v2 : Int32) (v3 : Int32) (v4 : Int32) (tv0 : v0 < n ∧ K v0 = 10) (H : Heap) (locs : List Loc) (ls : Array Slot), f_X11_has_L5 F fu5 S0 v0 v1 v2 v3 v4 = some (r9, S9) → Wb g ad n K S0 (dA ad n s.heap.size) H → va_S (dA ad n s.heap.size) s.heap H locs → lv_has ls 5 [(0, .ref (ad v0)), (1, .int v1), (2, .int v2), (3, .int v3), (4, .int v4)] → W p l e (headSpec wsX11_has { frames := 1, cells := 0, slots := 0, locals := 22 }).room s m (List.toArray [.ref (ad p0), .int p1, .int p2]) below meth c H locs 0 0 (MQ below (QR (some (.int r9)) (QB g ad n K S9 (dA ad n s.heap.size) (True)) (dA ad n s.heap.size)) (List.toArray [.ref (ad p0), .int p1, .int p2]) s 0 0 (dA ad n s.heap.size)) (F0 m 5 ls []) := by
    intro fu5
    induction fu5 with
    | zero =>
      intro S0 v0 v1 v2 v3 v4 tv0 H locs ls hf
      cases hf
    | succ fu5 ih5 =>
      have L38 : ∀ (S0 : St) (v0 : Nat) (v1 : Int32) (v2 : Int32) (v4 : Int32) (s0 : Int32) (tv0 : v0 < n ∧ K v0 = 10) (H : Heap) (locs : List Loc) (ls : Array Slot), f_X11_has_L38 F (fun a0 a1 a2 a3 a4 a5 => f_X11_has_L5 F fu5 a0 a1 a2 a3 a4 a5) S0 v0 v1 v2 v4 s0 = some (r9, S9) → Wb g ad n K S0 (dA ad n s.heap.size) H → va_S (dA ad n s.heap.size) s.heap H locs → lv_has ls 5 [(0, .ref (ad v0)), (1, .int v1), (2, .int v2), (4, .int v4)] → W p l e (headSpec wsX11_has { frames := 1, cells := 0, slots := 0, locals := 22 }).room s m (List.toArray [.ref (ad p0), .int p1, .int p2]) below meth c H locs 0 0 (MQ below (QR (some (.int r9)) (QB g ad n K S9 (dA ad n s.heap.size) (True)) (dA ad n s.heap.size)) (List.toArray [.ref (ad p0), .int p1, .int p2]) s 0 0 (dA ad n s.heap.size)) (F0 m 38 ls [.int s0]) := by
        intro S0 v0 v1 v2 v4 s0 tv0 H locs ls hf hW hS hl
        unfold f_X11_has_L38 at hf
        refine lv_istore_n (lv' := [(3, .int s0), (0, .ref (ad v0)), (1, .int v1), (2, .int v2), (4, .int v4)]) hx hb dX11_has_38 rfl hl (by decide) rfl (fun ls hl => ?_)
        obtain ⟨x2, ex2⟩ : ∃ z : Int32, z = v4 + 1 := ⟨_, rfl⟩
        replace hf := ltE hf x2 ex2
        refine lv_iinc (v := x2) (lv' := [(4, .int x2), (3, .int s0), (0, .ref (ad v0)), (1, .int v1), (2, .int v2)]) hx hb dX11_has_39 hl (k := 4) rfl (by rw [ex2]; rfl) (by decide) rfl (fun ls hl => ?_)
        refine lv_goto (tgt := 5) hx hb dX11_has_42 (by decide) ?_
        exact ih5 S0 v0 v1 v2 s0 x2 tv0 _ _ _ hf hW hS (lv_sub hl [2, 3, 4, 1, 0] rfl)
      have L33 : ∀ (S0 : St) (v0 : Nat) (v1 : Int32) (v2 : Int32) (v4 : Int32) (tv0 : v0 < n ∧ K v0 = 10) (H : Heap) (locs : List Loc) (ls : Array Slot), f_X11_has_L33 F (fun a0 a1 a2 a3 a4 a5 => f_X11_has_L5 F fu5 a0 a1 a2 a3 a4 a5) S0 v0 v1 v2 v4 = some (r9, S9) → Wb g ad n K S0 (dA ad n s.heap.size) H → va_S (dA ad n s.heap.size) s.heap H locs → lv_has ls 5 [(0, .ref (ad v0)), (1, .int v1), (2, .int v2), (4, .int v4)] → W p l e (headSpec wsX11_has { frames := 1, cells := 0, slots := 0, locals := 22 }).room s m (List.toArray [.ref (ad p0), .int p1, .int p2]) below meth c H locs 0 0 (MQ below (QR (some (.int r9)) (QB g ad n K S9 (dA ad n s.heap.size) (True)) (dA ad n s.heap.size)) (List.toArray [.ref (ad p0), .int p1, .int p2]) s 0 0 (dA ad n s.heap.size)) (F0 m 33 ls []) := by
        intro S0 v0 v1 v2 v4 tv0 H locs ls hf hW hS hl
        unfold f_X11_has_L33 at hf
        refine lv_iconst (v := 1) hx hb dX11_has_33 (by decide) ?_
        refine lv_goto (tgt := 38) hx hb dX11_has_34 (by decide) ?_
        exact L38 S0 v0 v1 v2 v4 1 tv0 _ _ _ hf hW hS (lv_sub hl [0, 1, 2, 3] rfl)
      intro S0 v0 v1 v2 v3 v4 tv0 H locs ls hf hW hS hl
      unfold f_X11_has_L5 at hf
      refine lv_iload hx hb dX11_has_5 (lv_at hl 4 rfl) ?_
      refine lv_aload_n hx hb dX11_has_7 rfl (lv_at hl 0 rfl) ?_
      refine lv_iload_n hx hb dX11_has_8 rfl (lv_at hl 1 rfl) ?_
      refine lv_iconst (v := 2) hx hb dX11_has_9 (by decide) ?_
      replace hf := obE hf
      obtain ⟨z15, hz15, hf⟩ := hf
      obtain ⟨r17, S16⟩ := z15
      replace hf := ltE (ltE hf r17 rfl) S16 rfl
      refine x_callV (As := [.int v1, .int 2]) (rest := [.int v4]) (o := (some (.int r17))) (S1 := S16) hC hl.1 hW hS hGs hA tv0 rfl (show vwCl[10]? = some (RX11, TX11, 30) ∧ 10 < 11 from ⟨rfl, by decide⟩) (c_X11_messageValue l g ad n K H.size F S0 v0 v1 ((2 : Int32)) tv0 r17 S16 hz15) (cwV 2 hts gX11_has_X11_messageValue rfl rfl rfl (by decide +kernel) ⟨Nat.le_of_ble_eq_true rfl, Nat.le_of_ble_eq_true rfl⟩) rfl rfl (Nat.le_of_ble_eq_true rfl) dX11_has_10 ⟨Nat.le_of_ble_eq_true rfl, Nat.le_of_ble_eq_true rfl⟩ (fun H locs hPz15 hW hS => ?_)
      refine W.eq (g2 := F0 m 13 ls [.int r17, .int v4]) rfl ?_
      refine lv_icmp_ge (tgt := 45) hx hb dX11_has_13 (by decide) (fun c19 => ?_) (fun c19 => ?_)
      · replace hf := ifT c19 hf
        refine lv_iload_n hx hb dX11_has_45 rfl (lv_at hl 3 rfl) ?_
        replace hf := ckE hf
        obtain ⟨h20, hf⟩ := hf
        obtain ⟨e1, e2⟩ := so2 hf
        subst e1
        subst e2
        exact W.zret (v := v3) hx hb hr (zn h20) (fun t ht hWm => ⟨⟨rfl, by unfold QB; rw [ht]; exact ⟨hW, trivial⟩⟩, hS.F ht⟩) hS.2.2 dX11_has_46 hlk
      · replace hf := ifF c19 hf
        refine lv_iload_n hx hb dX11_has_16 rfl (lv_at hl 3 rfl) ?_
        refine lv_if_ne (tgt := 33) hx hb dX11_has_17 (by decide) (fun c21 => ?_) (fun c21 => ?_)
        · replace hf := ifT c21 hf
          exact L33 S16 v0 v1 v2 v4 tv0 _ _ _ hf hW hS (lv_sub hl [0, 1, 2, 4] rfl)
        · replace hf := ifF (fun q => q c21) hf
          refine lv_aload_n hx hb dX11_has_20 rfl (lv_at hl 0 rfl) ?_
          refine lv_iload_n hx hb dX11_has_21 rfl (lv_at hl 1 rfl) ?_
          refine lv_iconst (v := 3) hx hb dX11_has_22 (by decide) ?_
          refine lv_iload hx hb dX11_has_23 (lv_at hl 4 rfl) ?_
          refine lv_iadd hx hb dX11_has_25 ?_
          replace hf := obE hf
          obtain ⟨z22, hz22, hf⟩ := hf
          obtain ⟨r24, S23⟩ := z22
          replace hf := ltE (ltE hf r24 rfl) S23 rfl
          refine x_callV (As := [.int v1, .int (3 + v4)]) (rest := []) (o := (some (.int r24))) (S1 := S23) hC hl.1 hW hS hGs hA tv0 rfl (show vwCl[10]? = some (RX11, TX11, 30) ∧ 10 < 11 from ⟨rfl, by decide⟩) (c_X11_messageValue l g ad n K H.size F S16 v0 v1 (3 + v4) tv0 r24 S23 hz22) (cwV 2 hts gX11_has_X11_messageValue rfl rfl rfl (by decide +kernel) ⟨Nat.le_of_ble_eq_true rfl, Nat.le_of_ble_eq_true rfl⟩) rfl rfl (Nat.le_of_ble_eq_true rfl) dX11_has_26 ⟨Nat.le_of_ble_eq_true rfl, Nat.le_of_ble_eq_true rfl⟩ (fun H locs hPz22 hW hS => ?_)
          refine W.eq (g2 := F0 m 29 ls [.int r24]) rfl ?_
          refine lv_iload_n hx hb dX11_has_29 rfl (lv_at hl 2 rfl) ?_
          refine lv_icmp_ne (tgt := 37) hx hb dX11_has_30 (by decide) (fun c26 => ?_) (fun c26 => ?_)
          · replace hf := ifT c26 hf
            refine lv_iconst (v := 0) hx hb dX11_has_37 (by decide) ?_
            exact L38 S23 v0 v1 v2 v4 0 tv0 _ _ _ hf hW hS (lv_sub hl [0, 1, 2, 4] rfl)
          · replace hf := ifF (fun q => q c26) hf
            exact L33 S23 v0 v1 v2 v4 tv0 _ _ _ hf hW hS (lv_sub hl [0, 1, 2, 4] rfl)
  unfold f_X11_has at hf
  refine lv_iconst (v := 0) hx hb dX11_has_0 (by decide) ?_
  refine lv_istore_n (lv' := [(3, .int 0), (0, .ref (ad p0)), (1, .int p1), (2, .int p2)]) hx hb dX11_has_1 rfl hl (by decide) rfl (fun ls hl => ?_)
  refine lv_iconst (v := 0) hx hb dX11_has_2 (by decide) ?_
  refine lv_istore (lv' := [(4, .int 0), (3, .int 0), (0, .ref (ad p0)), (1, .int p1), (2, .int p2)]) hx hb dX11_has_3 hl (by decide) rfl (fun ls hl => ?_)
  exact L5 F S0 p0 p1 p2 0 0 tp0 _ _ _ hf hW hS (lv_sub hl [2, 3, 4, 1, 0] rfl)
set_option maxHeartbeats 4000000 in
set_option maxRecDepth 100000 in
theorem c_X11_keepers (l : Launch) (g : GP) (ad : Nat → Nat) (n : Nat) (K : Nat → Nat) (sz F : Nat) (S0 : St) (p0 : Nat) (p1 : Int32) (tp0 : p0 < n ∧ K p0 = 10) (r9 : Int32) (S9 : St) (hf : f_X11_keepers F S0 p0 p1 = some (r9, S9)) : Met l yX11_keepers wsX11_keepers { frames := 3, cells := 0, slots := 0, locals := 66 } (va_Pc [.ref (ad p0), .int p1] (PB g ad n K S0 sz)) (QR (some (.int r9)) (QB g ad n K S9 (dA ad n sz) (True)) (dA ad n sz)) 0 0 (dA ad n sz) := by
  refine Met.ofW (cc := cX11_keepers) (maxL := 4) (ret := (some .int)) (by decide) rfl ?_
  intro p e s m args below meth c s₁ B hml hv
  obtain ⟨rfl, hsz, hW, hK, hGs⟩ := x_start hv
  subst hsz
  have hx := B.exec
  have hb := B.bytes
  have hr := B.returns
  have hts := atoms_spec (ws := wsX11_keepers) B.pre
  have hown : s.vm.findClass RX11 = some m.cls := findClass_of_methodNamed B.named
  have hlk := B.notSynchronized
  have hC : Cx g p s m _ c cX11_keepers RX11 wsX11_keepers 4 := ⟨hx, hb, hml, hown, hts, hK⟩
  have hA : ∀ q : Nat, s.heap.size ≤ q → dA ad n s.heap.size q := fun q h => Or.inr h
  have hS : va_S (dA ad n s.heap.size) s.heap s.heap [] := va_S.rf
  have hl := lv_entry ([.ref (ad p0), .int p1]) (n := 4) (Nat.le_of_ble_eq_true rfl)
  rw [lg_entry_eq]
  generalize (lg_sl ([.ref (ad p0), .int p1]) ++ List.replicate (4 - (lg_sl ([.ref (ad p0), .int p1])).length) Slot.unset).toArray = ls at hl ⊢
  have hl : lv_has ls 4 [(0, .ref (ad p0)), (1, .int p1)] := hl
  have hin11 : ∀ w ∈ wsX110, w ∈ wsX11_keepers := by decide +kernel
  have w_0 := hts (.fieldLink RX11 17 "MailSpoolModel" "net" "[I") (by decide +kernel)
  have hGE := hGs.2.2.2.2.2.2.1
  have hGM := hGs.2.2.2.2.2.2.2.1
  have L4 : ∀ (fu4 : Nat) (S0 : St) (v0 : Nat) (v1 : Int32) (v2 : Int32) (v3 : Int32) (tv0 : v0 < n ∧ K v0 = 10) (H : Heap) (locs : List Loc) (ls : Array Slot), f_X11_keepers_L4 F fu4 S0 v0 v1 v2 v3 = some (r9, S9) → Wb g ad n K S0 (dA ad n s.heap.size) H → va_S (dA ad n s.heap.size) s.heap H locs → lv_has ls 4 [(0, .ref (ad v0)), (1, .int v1), (2, .int v2), (3, .int v3)] → W p l e (headSpec wsX11_keepers { frames := 3, cells := 0, slots := 0, locals := 66 }).room s m (List.toArray [.ref (ad p0), .int p1]) below meth c H locs 0 0 (MQ below (QR (some (.int r9)) (QB g ad n K S9 (dA ad n s.heap.size) (True)) (dA ad n s.heap.size)) (List.toArray [.ref (ad p0), .int p1]) s 0 0 (dA ad n s.heap.size)) (F0 m 4 ls []) := by
    intro fu4
    induction fu4 with
    | zero =>
      intro S0 v0 v1 v2 v3 tv0 H locs ls hf
      cases hf
    | succ fu4 ih4 =>
      have L38 : ∀ (S0 : St) (v0 : Nat) (v1 : Int32) (v3 : Int32) (s0 : Int32) (s1 : Int32) (tv0 : v0 < n ∧ K v0 = 10) (H : Heap) (locs : List Loc) (ls : Array Slot), f_X11_keepers_L38 F (fun a0 a1 a2 a3 a4 => f_X11_keepers_L4 F fu4 a0 a1 a2 a3 a4) S0 v0 v1 v3 s0 s1 = some (r9, S9) → Wb g ad n K S0 (dA ad n s.heap.size) H → va_S (dA ad n s.heap.size) s.heap H locs → lv_has ls 4 [(0, .ref (ad v0)), (1, .int v1), (3, .int v3)] → W p l e (headSpec wsX11_keepers { frames := 3, cells := 0, slots := 0, locals := 66 }).room s m (List.toArray [.ref (ad p0), .int p1]) below meth c H locs 0 0 (MQ below (QR (some (.int r9)) (QB g ad n K S9 (dA ad n s.heap.size) (True)) (dA ad n s.heap.size)) (List.toArray [.ref (ad p0), .int p1]) s 0 0 (dA ad n s.heap.size)) (F0 m 38 ls [.int s0, .int s1]) := by
        intro S0 v0 v1 v3 s0 s1 tv0 H locs ls hf hW hS hl
        unfold f_X11_keepers_L38 at hf
        refine lv_iadd hx hb dX11_keepers_38 ?_
        refine lv_topi (fun x3 ex3 => ?_)
        replace hf := ltE hf x3 ex3
        refine lv_istore_n (lv' := [(2, .int x3), (0, .ref (ad v0)), (1, .int v1), (3, .int v3)]) hx hb dX11_keepers_39 rfl hl (by decide) rfl (fun ls hl => ?_)
        obtain ⟨x4, ex4⟩ : ∃ z : Int32, z = v3 + 1 := ⟨_, rfl⟩
        replace hf := ltE hf x4 ex4
        refine lv_iinc (v := x4) (lv' := [(3, .int x4), (2, .int x3), (0, .ref (ad v0)), (1, .int v1)]) hx hb dX11_keepers_40 hl (k := 3) rfl (by rw [ex4]; rfl) (by decide) rfl (fun ls hl => ?_)
        refine lv_goto (tgt := 4) hx hb dX11_keepers_43 (by decide) ?_
        exact ih4 S0 v0 v1 x3 x4 tv0 _ _ _ hf hW hS (lv_sub hl [2, 3, 1, 0] rfl)
      have L37 : ∀ (S0 : St) (v0 : Nat) (v1 : Int32) (v3 : Int32) (s0 : Int32) (tv0 : v0 < n ∧ K v0 = 10) (H : Heap) (locs : List Loc) (ls : Array Slot), f_X11_keepers_L37 F (fun a0 a1 a2 a3 a4 => f_X11_keepers_L4 F fu4 a0 a1 a2 a3 a4) S0 v0 v1 v3 s0 = some (r9, S9) → Wb g ad n K S0 (dA ad n s.heap.size) H → va_S (dA ad n s.heap.size) s.heap H locs → lv_has ls 4 [(0, .ref (ad v0)), (1, .int v1), (3, .int v3)] → W p l e (headSpec wsX11_keepers { frames := 3, cells := 0, slots := 0, locals := 66 }).room s m (List.toArray [.ref (ad p0), .int p1]) below meth c H locs 0 0 (MQ below (QR (some (.int r9)) (QB g ad n K S9 (dA ad n s.heap.size) (True)) (dA ad n s.heap.size)) (List.toArray [.ref (ad p0), .int p1]) s 0 0 (dA ad n s.heap.size)) (F0 m 37 ls [.int s0]) := by
        intro S0 v0 v1 v3 s0 tv0 H locs ls hf hW hS hl
        unfold f_X11_keepers_L37 at hf
        refine lv_iconst (v := 0) hx hb dX11_keepers_37 (by decide) ?_
        exact L38 S0 v0 v1 v3 0 s0 tv0 _ _ _ hf hW hS (lv_sub hl [0, 1, 2] rfl)
      intro S0 v0 v1 v2 v3 tv0 H locs ls hf hW hS hl
      unfold f_X11_keepers_L4 at hf
      refine lv_iload_n hx hb dX11_keepers_4 rfl (lv_at hl 3 rfl) ?_
      refine lv_aload_n hx hb dX11_keepers_5 rfl (lv_at hl 0 rfl) ?_
      replace hf := obE hf
      obtain ⟨j18, qj18, hf⟩ := hf
      have tj18 := x_rt hW qj18 12 ⟨by decide, rfl⟩
      refine x_getr 1001 (ci := 10) (C := RX11) (T := TX11) (N := 30) 1 hC hin11 hW tv0 rfl rfl ⟨by decide, by decide, rfl, rfl⟩ rfl w_0 dX11_keepers_6 qj18 ?_
      refine lv_bipush (v := 7) hx hb dX11_keepers_9 (by decide) ?_
      replace hf := ckiE hf
      obtain ⟨h19, hf⟩ := hf
      refine x_iald hC hW tj18 rfl rfl h19 dX11_keepers_11 ?_
      refine lv_icmp_ge (tgt := 46) hx hb dX11_keepers_12 (by decide) (fun c20 => ?_) (fun c20 => ?_)
      · replace hf := ifT c20 hf
        refine lv_iload_n hx hb dX11_keepers_46 rfl (lv_at hl 2 rfl) ?_
        obtain ⟨e1, e2⟩ := so2 hf
        subst e1
        subst e2
        exact W.iret (v := v2) hx hb hr (fun t ht hWm => ⟨⟨rfl, by unfold QB; rw [ht]; exact ⟨hW, trivial⟩⟩, hS.F ht⟩) hS.2.2 dX11_keepers_47 hlk
      · replace hf := ifF c20 hf
        refine lv_iload_n hx hb dX11_keepers_15 rfl (lv_at hl 2 rfl) ?_
        refine lv_aload_n hx hb dX11_keepers_16 rfl (lv_at hl 0 rfl) ?_
        refine lv_iload_n hx hb dX11_keepers_17 rfl (lv_at hl 3 rfl) ?_
        refine lv_iload_n hx hb dX11_keepers_18 rfl (lv_at hl 1 rfl) ?_
        replace hf := obE hf
        obtain ⟨z21, hz21, hf⟩ := hf
        obtain ⟨r23, S22⟩ := z21
        replace hf := ltE (ltE hf r23 rfl) S22 rfl
        refine x_callV (As := [.int v3, .int v1]) (rest := [.int v2]) (o := (some (.int r23))) (S1 := S22) hC hl.1 hW hS hGs hA tv0 rfl (show vwCl[10]? = some (RX11, TX11, 30) ∧ 10 < 11 from ⟨rfl, by decide⟩) (c_X11_has l g ad n K H.size F S0 v0 v3 v1 tv0 r23 S22 hz21) (cwV 2 hts gX11_keepers_X11_has rfl rfl rfl (by decide +kernel) ⟨Nat.le_of_ble_eq_true rfl, Nat.le_of_ble_eq_true rfl⟩) rfl rfl (Nat.le_of_ble_eq_true rfl) dX11_keepers_19 ⟨Nat.le_of_ble_eq_true rfl, Nat.le_of_ble_eq_true rfl⟩ (fun H locs hPz21 hW hS => ?_)
        refine W.eq (g2 := F0 m 22 ls [.int r23, .int v2]) rfl ?_
        refine lv_if_eq (tgt := 37) hx hb dX11_keepers_22 (by decide) (fun c25 => ?_) (fun c25 => ?_)
        · replace hf := ifT c25 hf
          exact L37 S22 v0 v1 v3 v2 tv0 _ _ _ hf hW hS (lv_sub hl [0, 1, 3] rfl)
        · replace hf := ifF c25 hf
          refine lv_aload_n hx hb dX11_keepers_25 rfl (lv_at hl 0 rfl) ?_
          refine lv_iload_n hx hb dX11_keepers_26 rfl (lv_at hl 3 rfl) ?_
          replace hf := obE hf
          obtain ⟨z26, hz26, hf⟩ := hf
          obtain ⟨r28, S27⟩ := z26
          replace hf := ltE (ltE hf r28 rfl) S27 rfl
          refine x_callV (As := [.int v3]) (rest := [.int v2]) (o := (some (.int r28))) (S1 := S27) hC hl.1 hW hS hGs hA tv0 rfl (show vwCl[10]? = some (RX11, TX11, 30) ∧ 10 < 11 from ⟨rfl, by decide⟩) (c_X11_isKeptMessage l g ad n K H.size F S22 v0 v3 tv0 r28 S27 hz26) (cwV 1 hts gX11_keepers_X11_isKeptMessage rfl rfl rfl (by decide +kernel) ⟨Nat.le_of_ble_eq_true rfl, Nat.le_of_ble_eq_true rfl⟩) rfl rfl (Nat.le_of_ble_eq_true rfl) dX11_keepers_27 ⟨Nat.le_of_ble_eq_true rfl, Nat.le_of_ble_eq_true rfl⟩ (fun H locs hPz26 hW hS => ?_)
          refine W.eq (g2 := F0 m 30 ls [.int r28, .int v2]) rfl ?_
          refine lv_if_eq (tgt := 37) hx hb dX11_keepers_30 (by decide) (fun c30 => ?_) (fun c30 => ?_)
          · replace hf := ifT c30 hf
            exact L37 S27 v0 v1 v3 v2 tv0 _ _ _ hf hW hS (lv_sub hl [0, 1, 3] rfl)
          · replace hf := ifF c30 hf
            refine lv_iconst (v := 1) hx hb dX11_keepers_33 (by decide) ?_
            refine lv_goto (tgt := 38) hx hb dX11_keepers_34 (by decide) ?_
            exact L38 S27 v0 v1 v3 1 v2 tv0 _ _ _ hf hW hS (lv_sub hl [0, 1, 3] rfl)
  unfold f_X11_keepers at hf
  refine lv_iconst (v := 0) hx hb dX11_keepers_0 (by decide) ?_
  refine lv_istore_n (lv' := [(2, .int 0), (0, .ref (ad p0)), (1, .int p1)]) hx hb dX11_keepers_1 rfl hl (by decide) rfl (fun ls hl => ?_)
  refine lv_iconst (v := 0) hx hb dX11_keepers_2 (by decide) ?_
  refine lv_istore_n (lv' := [(3, .int 0), (2, .int 0), (0, .ref (ad p0)), (1, .int p1)]) hx hb dX11_keepers_3 rfl hl (by decide) rfl (fun ls hl => ?_)
  exact L4 F S0 p0 p1 0 0 tp0 _ _ _ hf hW hS (lv_sub hl [2, 3, 1, 0] rfl)
