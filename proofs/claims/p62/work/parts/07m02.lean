set_option maxHeartbeats 4000000 in
set_option maxRecDepth 100000 in
theorem c_X6_parse (l : Launch) (g : GP) (ad : Nat → Nat) (n : Nat) (K : Nat → Nat) (sz F : Nat) (S0 : St) (p0 : Nat) (tp0 : p0 < n ∧ K p0 = 5) (r9 : Int32) (S9 : St) (hf : f_X6_parse F S0 p0 = some (r9, S9)) : Met l yX6_parse wsX6_parse { frames := 5, cells := 0, slots := 0, locals := 118 } (va_Pc [.ref (ad p0)] (PB g ad n K S0 sz)) (QR (some (.int r9)) (QB g ad n K S9 (dA ad n sz) (True)) (dA ad n sz)) 0 0 (dA ad n sz) := by
  refine Met.ofW (cc := cX6_parse) (maxL := 3) (ret := (some .boolean)) (by decide) rfl ?_
  intro p e s m args below meth c s₁ B hml hv
  obtain ⟨rfl, hsz, hW, hK, hGs⟩ := x_start hv
  subst hsz
  have hx := B.exec
  have hb := B.bytes
  have hr := B.returns
  have hts := atoms_spec (ws := wsX6_parse) B.pre
  have hown : s.vm.findClass RX6 = some m.cls := findClass_of_methodNamed B.named
  have hlk := B.notSynchronized
  have hC : Cx g p s m _ c cX6_parse RX6 wsX6_parse 3 := ⟨hx, hb, hml, hown, hts, hK⟩
  have hA : ∀ q : Nat, s.heap.size ≤ q → dA ad n s.heap.size q := fun q h => Or.inr h
  have hS : va_S (dA ad n s.heap.size) s.heap s.heap [] := va_S.rf
  have hl := lv_entry ([.ref (ad p0)]) (n := 3) (Nat.le_of_ble_eq_true rfl)
  rw [lg_entry_eq]
  generalize (lg_sl ([.ref (ad p0)]) ++ List.replicate (3 - (lg_sl ([.ref (ad p0)])).length) Slot.unset).toArray = ls at hl ⊢
  have hl : lv_has ls 3 [(0, .ref (ad p0))] := hl
  have hinX0 : ∀ w ∈ wsX00, w ∈ wsX6_parse := by decide +kernel
  have hinX6 : ∀ w ∈ wsX60, w ∈ wsX6_parse := by decide +kernel
  have w_0 := hts (.fieldLink RX6 9 "MailSpool$Parser" "text" "LMailSpool$Bytes;") (by decide +kernel)
  have w_1 := va_Nw.use (A := (List.toArray [.ref (ad p0)])) rfl (hGs.1 (.fieldLinkNest RX6 33 "MailSpool$Bytes" "size" "I" "MailSpool") (by decide +kernel))
  have w_2 := hts (.fieldLink RX6 38 "MailSpool$Parser" "kind" "I") (by decide +kernel)
  have w_3 := hts (.fieldLink RX6 41 "MailSpool$Parser" "keyword" "LMailSpool$Keyword;") (by decide +kernel)
  have w_4 := hts (.fieldLink RX6 45 "MailSpool$Keyword" "CLASS" "LMailSpool$Keyword;") (by decide +kernel)
  have w_5 := hts (.fieldLink RX6 53 "MailSpool$Keyword" "USER" "LMailSpool$Keyword;") (by decide +kernel)
  have w_6 := hts (.fieldLink RX6 59 "MailSpool$Keyword" "GROUP" "LMailSpool$Keyword;") (by decide +kernel)
  have w_7 := hts (.fieldLink RX6 65 "MailSpool$Keyword" "HOLD" "LMailSpool$Keyword;") (by decide +kernel)
  have hGE := hGs.2.2.2.1
  have hGM := hGs.2.2.2.2
  have L11 : ∀ (fu11 : Nat) (S0 : St) (v0 : Nat) (v1 : Int32) (v2 : Int32) (tv0 : v0 < n ∧ K v0 = 5) (H : Heap) (locs : List Loc) (ls : Array Slot), f_X6_parse_L11 F fu11 S0 v0 v1 v2 = some (r9, S9) → Wb g ad n K S0 (dA ad n s.heap.size) H → va_S (dA ad n s.heap.size) s.heap H locs → lv_has ls 3 [(0, .ref (ad v0)), (1, .int v1), (2, .int v2)] → W p l e (headSpec wsX6_parse { frames := 5, cells := 0, slots := 0, locals := 118 }).room s m (List.toArray [.ref (ad p0)]) below meth c H locs 0 0 (MQ below (QR (some (.int r9)) (QB g ad n K S9 (dA ad n s.heap.size) (True)) (dA ad n s.heap.size)) (List.toArray [.ref (ad p0)]) s 0 0 (dA ad n s.heap.size)) (F0 m 11 ls []) := by
    intro fu11
    induction fu11 with
    | zero =>
      intro S0 v0 v1 v2 tv0 H locs ls hf
      cases hf
    | succ fu11 ih11 =>
      have L111 : ∀ (S0 : St) (v0 : Nat) (v1 : Int32) (v2 : Int32) (tv0 : v0 < n ∧ K v0 = 5) (H : Heap) (locs : List Loc) (ls : Array Slot), f_X6_parse_L111 F (fun a0 a1 a2 a3 => f_X6_parse_L11 F fu11 a0 a1 a2 a3) S0 v0 v1 v2 = some (r9, S9) → Wb g ad n K S0 (dA ad n s.heap.size) H → va_S (dA ad n s.heap.size) s.heap H locs → lv_has ls 3 [(0, .ref (ad v0)), (1, .int v1), (2, .int v2)] → W p l e (headSpec wsX6_parse { frames := 5, cells := 0, slots := 0, locals := 118 }).room s m (List.toArray [.ref (ad p0)]) below meth c H locs 0 0 (MQ below (QR (some (.int r9)) (QB g ad n K S9 (dA ad n s.heap.size) (True)) (dA ad n s.heap.size)) (List.toArray [.ref (ad p0)]) s 0 0 (dA ad n s.heap.size)) (F0 m 111 ls []) := by
        intro S0 v0 v1 v2 tv0 H locs ls hf hW hS hl
        unfold f_X6_parse_L111 at hf
        obtain ⟨x2, ex2⟩ : ∃ z : Int32, z = v2 + 1 := ⟨_, rfl⟩
        replace hf := ltE hf x2 ex2
        refine lv_iinc (v := x2) (lv' := [(2, .int x2), (0, .ref (ad v0)), (1, .int v1)]) hx hb dX6_parse_111 hl (k := 2) rfl (by rw [ex2]; rfl) (by decide) rfl (fun ls hl => ?_)
        refine lv_goto (tgt := 11) hx hb dX6_parse_114 (by decide) ?_
        exact ih11 S0 v0 v1 x2 tv0 _ _ _ hf hW hS (lv_sub hl [1, 2, 0] rfl)
      intro S0 v0 v1 v2 tv0 H locs ls hf hW hS hl
      unfold f_X6_parse_L11 at hf
      refine lv_iload_n hx hb dX6_parse_11 rfl (lv_at hl 2 rfl) ?_
      refine lv_aload_n hx hb dX6_parse_12 rfl (lv_at hl 0 rfl) ?_
      replace hf := obE hf
      obtain ⟨j38, qj38, hf⟩ := hf
      have tj38 := x_rt hW qj38 0 ⟨by decide, rfl⟩
      refine x_getr 500 (ci := 5) (C := RX6) (T := TX6) (N := 10) 0 hC hinX6 hW tv0 rfl rfl ⟨by decide, by decide, rfl, rfl⟩ rfl w_0 dX6_parse_13 qj38 ?_
      refine x_getiN 1 (ci := 0) (C := RX0) (T := TX0) (N := 2) 1 hC hinX0 hW tj38 rfl rfl ⟨by decide, by decide, rfl, rfl⟩ rfl w_1 dX6_parse_16 ?_
      refine lv_icmp_ge (tgt := 117) hx hb dX6_parse_19 (by decide) (fun c39 => ?_) (fun c39 => ?_)
      · replace hf := ifT c39 hf
        refine lv_iload_n hx hb dX6_parse_117 rfl (lv_at hl 1 rfl) ?_
        replace hf := ckE hf
        obtain ⟨h40, hf⟩ := hf
        obtain ⟨e1, e2⟩ := so2 hf
        subst e1
        subst e2
        exact W.zret (v := v1) hx hb hr (zn h40) (fun t ht hWm => ⟨⟨rfl, by unfold QB; rw [ht]; exact ⟨hW, trivial⟩⟩, hS.F ht⟩) hS.2.2 dX6_parse_118 hlk
      · replace hf := ifF c39 hf
        refine lv_iload_n hx hb dX6_parse_22 rfl (lv_at hl 1 rfl) ?_
        refine lv_if_eq (tgt := 117) hx hb dX6_parse_23 (by decide) (fun c41 => ?_) (fun c41 => ?_)
        · replace hf := ifT c41 hf
          refine lv_iload_n hx hb dX6_parse_117 rfl (lv_at hl 1 rfl) ?_
          replace hf := ckE hf
          obtain ⟨h42, hf⟩ := hf
          obtain ⟨e1, e2⟩ := so2 hf
          subst e1
          subst e2
          exact W.zret (v := v1) hx hb hr (zn h42) (fun t ht hWm => ⟨⟨rfl, by unfold QB; rw [ht]; exact ⟨hW, trivial⟩⟩, hS.F ht⟩) hS.2.2 dX6_parse_118 hlk
        · replace hf := ifF c41 hf
          refine lv_aload_n hx hb dX6_parse_26 rfl (lv_at hl 0 rfl) ?_
          refine x_geti 506 (ci := 5) (C := RX6) (T := TX6) (N := 10) 6 hC hinX6 hW tv0 rfl rfl ⟨by decide, by decide, rfl, rfl⟩ rfl w_2 dX6_parse_27 ?_
          refine lv_if_eq (tgt := 117) hx hb dX6_parse_30 (by decide) (fun c43 => ?_) (fun c43 => ?_)
          · replace hf := ifT c43 hf
            refine lv_iload_n hx hb dX6_parse_117 rfl (lv_at hl 1 rfl) ?_
            replace hf := ckE hf
            obtain ⟨h44, hf⟩ := hf
            obtain ⟨e1, e2⟩ := so2 hf
            subst e1
            subst e2
            exact W.zret (v := v1) hx hb hr (zn h44) (fun t ht hWm => ⟨⟨rfl, by unfold QB; rw [ht]; exact ⟨hW, trivial⟩⟩, hS.F ht⟩) hS.2.2 dX6_parse_118 hlk
          · replace hf := ifF c43 hf
            refine lv_aload_n hx hb dX6_parse_33 rfl (lv_at hl 0 rfl) ?_
            refine x_gete 508 (ci := 5) (C := RX6) (T := TX6) (N := 10) 8 hC hinX6 hW tv0 rfl rfl ⟨by decide, by decide, rfl, rfl⟩ rfl w_3 dX6_parse_34 ?_
            refine x_getsE 3 (nm := "CLASS") hC hGE hS ⟨by decide, rfl⟩ w_4 dX6_parse_37 ?_
            replace hf := ckE hf
            obtain ⟨h46, hf⟩ := hf
            refine x_acmpE_ne (tgt := 51) hC hGE h46 (by decide) dX6_parse_40 (by decide) (fun c45 => ?_) (fun c45 => ?_)
            · replace hf := ifT c45 hf
              refine lv_aload_n hx hb dX6_parse_51 rfl (lv_at hl 0 rfl) ?_
              refine x_gete 508 (ci := 5) (C := RX6) (T := TX6) (N := 10) 8 hC hinX6 hW tv0 rfl rfl ⟨by decide, by decide, rfl, rfl⟩ rfl w_3 dX6_parse_52 ?_
              refine x_getsE 8 (nm := "USER") hC hGE hS ⟨by decide, rfl⟩ w_5 dX6_parse_55 ?_
              replace hf := ckE hf
              obtain ⟨h48, hf⟩ := hf
              refine x_acmpE_ne (tgt := 69) hC hGE h48 (by decide) dX6_parse_58 (by decide) (fun c47 => ?_) (fun c47 => ?_)
              · replace hf := ifT c47 hf
                refine lv_aload_n hx hb dX6_parse_69 rfl (lv_at hl 0 rfl) ?_
                refine x_gete 508 (ci := 5) (C := RX6) (T := TX6) (N := 10) 8 hC hinX6 hW tv0 rfl rfl ⟨by decide, by decide, rfl, rfl⟩ rfl w_3 dX6_parse_70 ?_
                refine x_getsE 10 (nm := "GROUP") hC hGE hS ⟨by decide, rfl⟩ w_6 dX6_parse_73 ?_
                replace hf := ckE hf
                obtain ⟨h50, hf⟩ := hf
                refine x_acmpE_ne (tgt := 87) hC hGE h50 (by decide) dX6_parse_76 (by decide) (fun c49 => ?_) (fun c49 => ?_)
                · replace hf := ifT c49 hf
                  refine lv_aload_n hx hb dX6_parse_87 rfl (lv_at hl 0 rfl) ?_
                  refine x_gete 508 (ci := 5) (C := RX6) (T := TX6) (N := 10) 8 hC hinX6 hW tv0 rfl rfl ⟨by decide, by decide, rfl, rfl⟩ rfl w_3 dX6_parse_88 ?_
                  refine x_getsE 11 (nm := "HOLD") hC hGE hS ⟨by decide, rfl⟩ w_7 dX6_parse_91 ?_
                  replace hf := ckE hf
                  obtain ⟨h52, hf⟩ := hf
                  refine x_acmpE_ne (tgt := 105) hC hGE h52 (by decide) dX6_parse_94 (by decide) (fun c51 => ?_) (fun c51 => ?_)
                  · replace hf := ifT c51 hf
                    refine lv_aload_n hx hb dX6_parse_105 rfl (lv_at hl 0 rfl) ?_
                    refine lv_iconst (v := 1) hx hb dX6_parse_106 (by decide) ?_
                    replace hf := obE hf
                    obtain ⟨z53, hz53, hf⟩ := hf
                    obtain ⟨r55, S54⟩ := z53
                    replace hf := ltE (ltE hf r55 rfl) S54 rfl
                    refine x_callV (As := [.int 1]) (rest := []) (o := (some (.int r55))) (S1 := S54) hC hl.1 hW hS hGs hA tv0 rfl (show vwCl[5]? = some (RX6, TX6, 10) ∧ ob 5 from ⟨rfl, by decide⟩) (c_X6_fail l g ad n K H.size F S0 v0 ((1 : Int32)) tv0 r55 S54 hz53) (cwV 1 hts gX6_parse_X6_fail rfl rfl rfl (by decide +kernel) ⟨Nat.le_of_ble_eq_true rfl, Nat.le_of_ble_eq_true rfl⟩) rfl rfl (Nat.le_of_ble_eq_true rfl) dX6_parse_107 ⟨Nat.le_of_ble_eq_true rfl, Nat.le_of_ble_eq_true rfl⟩ (fun H locs hPz53 hW hS => ?_)
                    refine W.eq (g2 := F0 m 110 ls [.int r55]) rfl ?_
                    refine lv_istore_n (lv' := [(1, .int r55), (0, .ref (ad v0)), (2, .int v2)]) hx hb dX6_parse_110 rfl hl (by decide) rfl (fun ls hl => ?_)
                    exact L111 S54 v0 r55 v2 tv0 _ _ _ hf hW hS (lv_sub hl [1, 0, 2] rfl)
                  · replace hf := ifF (fun q => q c51) hf
                    refine lv_aload_n hx hb dX6_parse_97 rfl (lv_at hl 0 rfl) ?_
                    replace hf := obE hf
                    obtain ⟨z57, hz57, hf⟩ := hf
                    obtain ⟨r59, S58⟩ := z57
                    replace hf := ltE (ltE hf r59 rfl) S58 rfl
                    refine x_callV (As := []) (rest := []) (o := (some (.int r59))) (S1 := S58) hC hl.1 hW hS hGs hA tv0 rfl (show vwCl[5]? = some (RX6, TX6, 10) ∧ ob 5 from ⟨rfl, by decide⟩) (c_X6_holdStatement l g ad n K H.size F S0 v0 tv0 r59 S58 hz57) (cwV 0 hts gX6_parse_X6_holdStatement rfl rfl rfl (by decide +kernel) ⟨Nat.le_of_ble_eq_true rfl, Nat.le_of_ble_eq_true rfl⟩) rfl rfl (Nat.le_of_ble_eq_true rfl) dX6_parse_98 ⟨Nat.le_of_ble_eq_true rfl, Nat.le_of_ble_eq_true rfl⟩ (fun H locs hPz57 hW hS => ?_)
                    refine W.eq (g2 := F0 m 101 ls [.int r59]) rfl ?_
                    refine lv_istore_n (lv' := [(1, .int r59), (0, .ref (ad v0)), (2, .int v2)]) hx hb dX6_parse_101 rfl hl (by decide) rfl (fun ls hl => ?_)
                    refine lv_goto (tgt := 111) hx hb dX6_parse_102 (by decide) ?_
                    exact L111 S58 v0 r59 v2 tv0 _ _ _ hf hW hS (lv_sub hl [1, 0, 2] rfl)
                · replace hf := ifF (fun q => q c49) hf
                  refine lv_aload_n hx hb dX6_parse_79 rfl (lv_at hl 0 rfl) ?_
                  replace hf := obE hf
                  obtain ⟨z61, hz61, hf⟩ := hf
                  obtain ⟨r63, S62⟩ := z61
                  replace hf := ltE (ltE hf r63 rfl) S62 rfl
                  refine x_callV (As := []) (rest := []) (o := (some (.int r63))) (S1 := S62) hC hl.1 hW hS hGs hA tv0 rfl (show vwCl[5]? = some (RX6, TX6, 10) ∧ ob 5 from ⟨rfl, by decide⟩) (c_X6_groupStatement l g ad n K H.size F S0 v0 tv0 r63 S62 hz61) (cwV 0 hts gX6_parse_X6_groupStatement rfl rfl rfl (by decide +kernel) ⟨Nat.le_of_ble_eq_true rfl, Nat.le_of_ble_eq_true rfl⟩) rfl rfl (Nat.le_of_ble_eq_true rfl) dX6_parse_80 ⟨Nat.le_of_ble_eq_true rfl, Nat.le_of_ble_eq_true rfl⟩ (fun H locs hPz61 hW hS => ?_)
                  refine W.eq (g2 := F0 m 83 ls [.int r63]) rfl ?_
                  refine lv_istore_n (lv' := [(1, .int r63), (0, .ref (ad v0)), (2, .int v2)]) hx hb dX6_parse_83 rfl hl (by decide) rfl (fun ls hl => ?_)
                  refine lv_goto (tgt := 111) hx hb dX6_parse_84 (by decide) ?_
                  exact L111 S62 v0 r63 v2 tv0 _ _ _ hf hW hS (lv_sub hl [1, 0, 2] rfl)
              · replace hf := ifF (fun q => q c47) hf
                refine lv_aload_n hx hb dX6_parse_61 rfl (lv_at hl 0 rfl) ?_
                replace hf := obE hf
                obtain ⟨z65, hz65, hf⟩ := hf
                obtain ⟨r67, S66⟩ := z65
                replace hf := ltE (ltE hf r67 rfl) S66 rfl
                refine x_callV (As := []) (rest := []) (o := (some (.int r67))) (S1 := S66) hC hl.1 hW hS hGs hA tv0 rfl (show vwCl[5]? = some (RX6, TX6, 10) ∧ ob 5 from ⟨rfl, by decide⟩) (c_X6_userStatement l g ad n K H.size F S0 v0 tv0 r67 S66 hz65) (cwV 0 hts gX6_parse_X6_userStatement rfl rfl rfl (by decide +kernel) ⟨Nat.le_of_ble_eq_true rfl, Nat.le_of_ble_eq_true rfl⟩) rfl rfl (Nat.le_of_ble_eq_true rfl) dX6_parse_62 ⟨Nat.le_of_ble_eq_true rfl, Nat.le_of_ble_eq_true rfl⟩ (fun H locs hPz65 hW hS => ?_)
                refine W.eq (g2 := F0 m 65 ls [.int r67]) rfl ?_
                refine lv_istore_n (lv' := [(1, .int r67), (0, .ref (ad v0)), (2, .int v2)]) hx hb dX6_parse_65 rfl hl (by decide) rfl (fun ls hl => ?_)
                refine lv_goto (tgt := 111) hx hb dX6_parse_66 (by decide) ?_
                exact L111 S66 v0 r67 v2 tv0 _ _ _ hf hW hS (lv_sub hl [1, 0, 2] rfl)
            · replace hf := ifF (fun q => q c45) hf
              refine lv_aload_n hx hb dX6_parse_43 rfl (lv_at hl 0 rfl) ?_
              replace hf := obE hf
              obtain ⟨z69, hz69, hf⟩ := hf
              obtain ⟨r71, S70⟩ := z69
              replace hf := ltE (ltE hf r71 rfl) S70 rfl
              refine x_callV (As := []) (rest := []) (o := (some (.int r71))) (S1 := S70) hC hl.1 hW hS hGs hA tv0 rfl (show vwCl[5]? = some (RX6, TX6, 10) ∧ ob 5 from ⟨rfl, by decide⟩) (c_X6_classStatement l g ad n K H.size F S0 v0 tv0 r71 S70 hz69) (cwV 0 hts gX6_parse_X6_classStatement rfl rfl rfl (by decide +kernel) ⟨Nat.le_of_ble_eq_true rfl, Nat.le_of_ble_eq_true rfl⟩) rfl rfl (Nat.le_of_ble_eq_true rfl) dX6_parse_44 ⟨Nat.le_of_ble_eq_true rfl, Nat.le_of_ble_eq_true rfl⟩ (fun H locs hPz69 hW hS => ?_)
              refine W.eq (g2 := F0 m 47 ls [.int r71]) rfl ?_
              refine lv_istore_n (lv' := [(1, .int r71), (0, .ref (ad v0)), (2, .int v2)]) hx hb dX6_parse_47 rfl hl (by decide) rfl (fun ls hl => ?_)
              refine lv_goto (tgt := 111) hx hb dX6_parse_48 (by decide) ?_
              exact L111 S70 v0 r71 v2 tv0 _ _ _ hf hW hS (lv_sub hl [1, 0, 2] rfl)
  unfold f_X6_parse at hf
  refine lv_aload_n hx hb dX6_parse_0 rfl (lv_at hl 0 rfl) ?_
  replace hf := obE hf
  obtain ⟨S74, hz73, hf⟩ := hf
  refine x_callV (As := []) (rest := []) (o := none) (S1 := S74) hC hl.1 hW hS hGs hA tp0 rfl (show vwCl[5]? = some (RX6, TX6, 10) ∧ ob 5 from ⟨rfl, by decide⟩) (c_X6_nextToken l g ad n K s.heap.size F S0 p0 tp0 S74 hz73) (cwV 0 hts gX6_parse_X6_nextToken rfl rfl rfl (by decide +kernel) ⟨Nat.le_of_ble_eq_true rfl, Nat.le_of_ble_eq_true rfl⟩) rfl rfl (Nat.le_of_ble_eq_true rfl) dX6_parse_1 ⟨Nat.le_of_ble_eq_true rfl, Nat.le_of_ble_eq_true rfl⟩ (fun H locs hPz73 hW hS => ?_)
  refine W.eq (g2 := F0 m 4 ls []) rfl ?_
  refine lv_aload_n hx hb dX6_parse_4 rfl (lv_at hl 0 rfl) ?_
  replace hf := obE hf
  obtain ⟨z77, hz77, hf⟩ := hf
  obtain ⟨r79, S78⟩ := z77
  replace hf := ltE (ltE hf r79 rfl) S78 rfl
  refine x_callV (As := []) (rest := []) (o := (some (.int r79))) (S1 := S78) hC hl.1 hW hS hGs hA tp0 rfl (show vwCl[5]? = some (RX6, TX6, 10) ∧ ob 5 from ⟨rfl, by decide⟩) (c_X6_spoolStatement l g ad n K H.size F S74 p0 tp0 r79 S78 hz77) (cwV 0 hts gX6_parse_X6_spoolStatement rfl rfl rfl (by decide +kernel) ⟨Nat.le_of_ble_eq_true rfl, Nat.le_of_ble_eq_true rfl⟩) rfl rfl (Nat.le_of_ble_eq_true rfl) dX6_parse_5 ⟨Nat.le_of_ble_eq_true rfl, Nat.le_of_ble_eq_true rfl⟩ (fun H locs hPz77 hW hS => ?_)
  refine W.eq (g2 := F0 m 8 ls [.int r79]) rfl ?_
  refine lv_istore_n (lv' := [(1, .int r79), (0, .ref (ad p0))]) hx hb dX6_parse_8 rfl hl (by decide) rfl (fun ls hl => ?_)
  refine lv_iconst (v := 0) hx hb dX6_parse_9 (by decide) ?_
  refine lv_istore_n (lv' := [(2, .int 0), (1, .int r79), (0, .ref (ad p0))]) hx hb dX6_parse_10 rfl hl (by decide) rfl (fun ls hl => ?_)
  exact L11 F S78 p0 r79 0 tp0 _ _ _ hf hW hS (lv_sub hl [2, 1, 0] rfl)
set_option maxHeartbeats 4000000 in
set_option maxRecDepth 100000 in
theorem c_X10_pastAt (l : Launch) (g : GP) (ad : Nat → Nat) (n : Nat) (K : Nat → Nat) (sz F : Nat) (S0 : St) (p0 : Nat) (p1 : Int32) (tp0 : p0 < n ∧ K p0 = 9) (r9 : Option Nat) (S9 : St) (hf : f_X10_pastAt F S0 p0 p1 = some (r9, S9)) : Met l yX10_pastAt wsX10_pastAt { frames := 0, cells := 0, slots := 0, locals := 0 } (va_Pc [.ref (ad p0), .int p1] (PB g ad n K S0 sz)) (QR (some (va_re ad r9)) (QB g ad n K S9 (dA ad n sz) (∀ j, r9 = some j → j < n ∧ K j = 7)) (dA ad n sz)) 0 0 (dA ad n sz) := by
  refine Met.ofW (cc := cX10_pastAt) (maxL := 3) (ret := (some (.object "MailSpool$Spool"))) (by decide) rfl ?_
  intro p e s m args below meth c s₁ B hml hv
  obtain ⟨rfl, hsz, hW, hK, hGs⟩ := x_start hv
  subst hsz
  have hx := B.exec
  have hb := B.bytes
  have hr := B.returns
  have hts := atoms_spec (ws := wsX10_pastAt) B.pre
  have hown : s.vm.findClass RX10 = some m.cls := findClass_of_methodNamed B.named
  have hlk := B.notSynchronized
  have hC : Cx g p s m _ c cX10_pastAt RX10 wsX10_pastAt 3 := ⟨hx, hb, hml, hown, hts, hK⟩
  have hA : ∀ q : Nat, s.heap.size ≤ q → dA ad n s.heap.size q := fun q h => Or.inr h
  have hS : va_S (dA ad n s.heap.size) s.heap s.heap [] := va_S.rf
  have hl := lv_entry ([.ref (ad p0), .int p1]) (n := 3) (Nat.le_of_ble_eq_true rfl)
  rw [lg_entry_eq]
  generalize (lg_sl ([.ref (ad p0), .int p1]) ++ List.replicate (3 - (lg_sl ([.ref (ad p0), .int p1])).length) Slot.unset).toArray = ls at hl ⊢
  have hl : lv_has ls 3 [(0, .ref (ad p0)), (1, .int p1)] := hl
  have hinX10 : ∀ w ∈ wsX100, w ∈ wsX10_pastAt := by decide +kernel
  have w_0 := hts (.fieldLink RX10 437 "MailSpool" "firstPast" "I") (by decide +kernel)
  have w_1 := hts (.fieldLink RX10 49 "MailSpool" "past" "[LMailSpool$Spool;") (by decide +kernel)
  have hGE := hGs.2.2.2.1
  have hGM := hGs.2.2.2.2
  unfold f_X10_pastAt at hf
  refine lv_aload_n hx hb dX10_pastAt_0 rfl (lv_at hl 0 rfl) ?_
  refine x_geti 908 (ci := 9) (C := RX10) (T := TX10) (N := 11) 8 hC hinX10 hW tp0 rfl rfl ⟨by decide, by decide, rfl, rfl⟩ rfl w_0 dX10_pastAt_1 ?_
  refine lv_iload_n hx hb dX10_pastAt_4 rfl (lv_at hl 1 rfl) ?_
  refine lv_iadd hx hb dX10_pastAt_5 ?_
  refine lv_bipush (v := 6) hx hb dX10_pastAt_6 (by decide) ?_
  refine lv_irem hx hb dX10_pastAt_8 (by decide) ?_
  refine lv_topi (fun x1 ex1 => ?_)
  replace hf := ltE hf x1 ex1
  refine lv_istore_n (lv' := [(2, .int x1), (0, .ref (ad p0)), (1, .int p1)]) hx hb dX10_pastAt_9 rfl hl (by decide) rfl (fun ls hl => ?_)
  refine lv_iload_n hx hb dX10_pastAt_10 rfl (lv_at hl 0 rfl) ?_
  refine lv_if_lt (tgt := 32) hx hb dX10_pastAt_11 (by decide) (fun c2 => ?_) (fun c2 => ?_)
  · replace hf := ifT c2 hf
    refine lv_null hx hb dX10_pastAt_32 ?_
    obtain ⟨e1, e2⟩ := so2 hf
    subst e1
    subst e2
    exact W.aret hx hb hr (Or.inl ⟨_, rfl⟩) (Or.inl rfl) (fun t ht hWm => ⟨⟨rfl, by unfold QB; rw [ht]; exact ⟨hW, (fun _ h => by cases h)⟩⟩, hS.F ht⟩) hS.2.2 dX10_pastAt_33 hlk
  · replace hf := ifF c2 hf
    refine lv_iload_n hx hb dX10_pastAt_14 rfl (lv_at hl 0 rfl) ?_
    refine lv_aload_n hx hb dX10_pastAt_15 rfl (lv_at hl 1 rfl) ?_
    replace hf := obE hf
    obtain ⟨j3, qj3, hf⟩ := hf
    have tj3 := x_rt hW qj3 16 ⟨by decide, rfl⟩
    refine x_getr 907 (ci := 9) (C := RX10) (T := TX10) (N := 11) 7 hC hinX10 hW tp0 rfl rfl ⟨by decide, by decide, rfl, rfl⟩ rfl w_1 dX10_pastAt_16 qj3 ?_
    refine x_alen hC hW tj3 rfl ⟨by decide, by decide⟩ dX10_pastAt_19 ?_
    refine lv_icmp_ge (tgt := 32) hx hb dX10_pastAt_20 (by decide) (fun c4 => ?_) (fun c4 => ?_)
    · replace hf := ifT c4 hf
      refine lv_null hx hb dX10_pastAt_32 ?_
      obtain ⟨e1, e2⟩ := so2 hf
      subst e1
      subst e2
      exact W.aret hx hb hr (Or.inl ⟨_, rfl⟩) (Or.inl rfl) (fun t ht hWm => ⟨⟨rfl, by unfold QB; rw [ht]; exact ⟨hW, (fun _ h => by cases h)⟩⟩, hS.F ht⟩) hS.2.2 dX10_pastAt_33 hlk
    · replace hf := ifF c4 hf
      refine lv_aload_n hx hb dX10_pastAt_23 rfl (lv_at hl 1 rfl) ?_
      replace hf := obE hf
      obtain ⟨j5, qj5, hf⟩ := hf
      have tj5 := x_rt hW qj5 16 ⟨by decide, rfl⟩
      refine x_getr 907 (ci := 9) (C := RX10) (T := TX10) (N := 11) 7 hC hinX10 hW tp0 rfl rfl ⟨by decide, by decide, rfl, rfl⟩ rfl w_1 dX10_pastAt_24 qj5 ?_
      refine lv_iload_n hx hb dX10_pastAt_27 rfl (lv_at hl 0 rfl) ?_
      replace hf := ckiE hf
      obtain ⟨h6, hf⟩ := hf
      refine x_aald (t0 := 5) (C := "MailSpool$Spool") hC hW tj5 rfl ⟨by decide, rfl⟩ h6 dX10_pastAt_28 (fun qj7 => ?_) (fun j7 qj7 tj7 => ?_)
      · replace hf := osN qj7 hf
        refine lv_goto (tgt := 33) hx hb dX10_pastAt_29 (by decide) ?_
        obtain ⟨e1, e2⟩ := so2 hf
        subst e1
        subst e2
        exact W.aret hx hb hr (Or.inl ⟨_, rfl⟩) (Or.inl rfl) (fun t ht hWm => ⟨⟨rfl, by unfold QB; rw [ht]; exact ⟨hW, (fun _ h => by cases h)⟩⟩, hS.F ht⟩) hS.2.2 dX10_pastAt_33 hlk
      · replace hf := osS qj7 hf
        refine lv_goto (tgt := 33) hx hb dX10_pastAt_29 (by decide) ?_
        obtain ⟨e1, e2⟩ := so2 hf
        subst e1
        subst e2
        exact W.aret hx hb hr (Or.inl ⟨_, rfl⟩) (Or.inr ⟨_, rfl⟩) (fun t ht hWm => ⟨⟨rfl, by unfold QB; rw [ht]; exact ⟨hW, (fun _ h => by cases h; exact tj7)⟩⟩, hS.F ht⟩) hS.2.2 dX10_pastAt_33 hlk
set_option maxHeartbeats 4000000 in
set_option maxRecDepth 100000 in
theorem c_X10_copyRow (l : Launch) (g : GP) (ad : Nat → Nat) (n : Nat) (K : Nat → Nat) (sz F : Nat) (S0 : St) (p0 : Nat) (p1 : Nat) (tp0 : p0 < n ∧ K p0 = 12) (tp1 : p1 < n ∧ K p1 = 12) (S9 : St) (hf : f_X10_copyRow F S0 p0 p1 = some S9) : Met l yX10_copyRow wsX10_copyRow { frames := 1, cells := 0, slots := 0, locals := 40 } (va_Pc [.ref (ad p0), .ref (ad p1)] (PB g ad n K S0 sz)) (QR none (QB g ad n K S9 (dA ad n sz) (True)) (dA ad n sz)) 0 0 (dA ad n sz) := by
  refine Met.ofW (cc := cX10_copyRow) (maxL := 2) (ret := none) (by decide) rfl ?_
  intro p e s m args below meth c s₁ B hml hv
  obtain ⟨rfl, hsz, hW, hK, hGs⟩ := x_start hv
  subst hsz
  have hx := B.exec
  have hb := B.bytes
  have hr := B.returns
  have hts := atoms_spec (ws := wsX10_copyRow) B.pre
  have hown : s.vm.findClass RX10 = some m.cls := findClass_of_methodNamed B.named
  have hlk := B.notSynchronized
  have hC : Cx g p s m _ c cX10_copyRow RX10 wsX10_copyRow 2 := ⟨hx, hb, hml, hown, hts, hK⟩
  have hA : ∀ q : Nat, s.heap.size ≤ q → dA ad n s.heap.size q := fun q h => Or.inr h
  have hS : va_S (dA ad n s.heap.size) s.heap s.heap [] := va_S.rf
  have hl := lv_entry ([.ref (ad p0), .ref (ad p1)]) (n := 2) (Nat.le_of_ble_eq_true rfl)
  rw [lg_entry_eq]
  generalize (lg_sl ([.ref (ad p0), .ref (ad p1)]) ++ List.replicate (2 - (lg_sl ([.ref (ad p0), .ref (ad p1)])).length) Slot.unset).toArray = ls at hl ⊢
  have hl : lv_has ls 2 [(0, .ref (ad p0)), (1, .ref (ad p1))] := hl
  have w_0 := hts (.methodLink RX10 457 Lib.Math.min.name) (by decide +kernel)
  have w_1 := hts (.static Lib.Math.min.name) (by decide +kernel)
  have w_2 := hts (.initialized "java/lang/Math") (by decide +kernel)
  have w_3 := hts (.code Lib.Math.min.name Lib.Math.min.code 2 (some .int)) (by decide +kernel)
  have w_4 := hts (.methodLink RX10 462 arraycopyName) (by decide +kernel)
  have w_5 := hts (.native arraycopyName) (by decide +kernel)
  have w_6 := hts (.static arraycopyName) (by decide +kernel)
  have w_7 := hts (.initialized "java/lang/System") (by decide +kernel)
  have hGE := hGs.2.2.2.1
  have hGM := hGs.2.2.2.2
  unfold f_X10_copyRow at hf
  refine lv_aload_n hx hb dX10_copyRow_0 rfl (lv_at hl 0 rfl) ?_
  refine lv_iconst (v := 0) hx hb dX10_copyRow_1 (by decide) ?_
  refine lv_aload_n hx hb dX10_copyRow_2 rfl (lv_at hl 1 rfl) ?_
  refine lv_iconst (v := 0) hx hb dX10_copyRow_3 (by decide) ?_
  refine lv_aload_n hx hb dX10_copyRow_4 rfl (lv_at hl 0 rfl) ?_
  refine x_alen hC hW tp0 rfl ⟨by decide, by decide⟩ dX10_copyRow_5 ?_
  refine lv_aload_n hx hb dX10_copyRow_6 rfl (lv_at hl 1 rfl) ?_
  refine x_alen hC hW tp1 rfl ⟨by decide, by decide⟩ dX10_copyRow_7 ?_
  refine va_mmin hx hb (hml.trans hl.1.symm) hown w_0 w_1 w_2 w_3 (by exact Nat.le_of_ble_eq_true rfl) (by exact Nat.le_of_ble_eq_true rfl) (by first | exact Nat.zero_le _ | exact Nat.le_of_ble_eq_true rfl) (by first | exact Nat.zero_le _ | exact Nat.le_of_ble_eq_true rfl) dX10_copyRow_8 ?_
  replace hf := ckE hf
  obtain ⟨h1, hf⟩ := hf
  refine x_copyi hC (hml.trans hl.1.symm) w_4 w_5 w_6 w_7 hW hS tp0 rfl tp1 rfl ⟨rfl, rfl⟩ h1 (Nat.le_of_ble_eq_true rfl) (Nat.le_of_ble_eq_true rfl) dX10_copyRow_11 (fun S2 H locs eS2 hW hS => ?_)
  replace hf := ltE hf S2 eS2
  have e1 := Option.some.inj hf
  subst e1
  exact W.vret hx hb hr (fun t ht hWm => ⟨⟨rfl, by unfold QB; rw [ht]; exact ⟨hW, trivial⟩⟩, hS.F ht⟩) hS.2.2 dX10_copyRow_14 hlk
set_option maxHeartbeats 4000000 in
set_option maxRecDepth 100000 in
theorem c_X9_copyFrom (l : Launch) (g : GP) (ad : Nat → Nat) (n : Nat) (K : Nat → Nat) (sz F : Nat) (S0 : St) (p0 : Nat) (p1 : Nat) (tp0 : p0 < n ∧ K p0 = 8) (tp1 : p1 < n ∧ K p1 = 8) (S9 : St) (hf : f_X9_copyFrom F S0 p0 p1 = some S9) : Met l yX9_copyFrom wsX9_copyFrom { frames := 2, cells := 0, slots := 0, locals := 61 } (va_Pc [.ref (ad p0), .ref (ad p1)] (PB g ad n K S0 sz)) (QR none (QB g ad n K S9 (dA ad n sz) (True)) (dA ad n sz)) 0 0 (dA ad n sz) := by
  refine Met.ofW (cc := cX9_copyFrom) (maxL := 3) (ret := none) (by decide) rfl ?_
  intro p e s m args below meth c s₁ B hml hv
  obtain ⟨rfl, hsz, hW, hK, hGs⟩ := x_start hv
  subst hsz
  have hx := B.exec
  have hb := B.bytes
  have hr := B.returns
  have hts := atoms_spec (ws := wsX9_copyFrom) B.pre
  have hown : s.vm.findClass RX9 = some m.cls := findClass_of_methodNamed B.named
  have hlk := B.notSynchronized
  have hC : Cx g p s m _ c cX9_copyFrom RX9 wsX9_copyFrom 3 := ⟨hx, hb, hml, hown, hts, hK⟩
  have hA : ∀ q : Nat, s.heap.size ≤ q → dA ad n s.heap.size q := fun q h => Or.inr h
  have hS : va_S (dA ad n s.heap.size) s.heap s.heap [] := va_S.rf
  have hl := lv_entry ([.ref (ad p0), .ref (ad p1)]) (n := 3) (Nat.le_of_ble_eq_true rfl)
  rw [lg_entry_eq]
  generalize (lg_sl ([.ref (ad p0), .ref (ad p1)]) ++ List.replicate (3 - (lg_sl ([.ref (ad p0), .ref (ad p1)])).length) Slot.unset).toArray = ls at hl ⊢
  have hl : lv_has ls 3 [(0, .ref (ad p0)), (1, .ref (ad p1))] := hl
  have hinX9 : ∀ w ∈ wsX90, w ∈ wsX9_copyFrom := by decide +kernel
  have w_0 := hts (.fieldLink RX9 17 "MailSpool$Store" "firstMessage" "[I") (by decide +kernel)
  have w_1 := va_Nw.use (A := (List.toArray [.ref (ad p0), .ref (ad p1)])) rfl (hGs.1 (.methodLinkNest RX9 44 yX10_copyRow "MailSpool") (by decide +kernel))
  have w_2 := hts (.initialized RX10) (by decide +kernel)
  have w_3 := hts (.static yX10_copyRow) (by decide +kernel)
  have w_4 := hts (.fieldLink RX9 21 "MailSpool$Store" "keepers" "[I") (by decide +kernel)
  have w_5 := hts (.fieldLink RX9 24 "MailSpool$Store" "deadSince" "[I") (by decide +kernel)
  have w_6 := hts (.fieldLink RX9 11 "MailSpool$Store" "contents" "[LMailSpool$Bytes;") (by decide +kernel)
  have w_7 := hts (.fieldLink RX9 34 "MailSpool$Store" "numbers" "I") (by decide +kernel)
  have w_8 := hts (.fieldLink RX9 38 "MailSpool$Store" "stored" "I") (by decide +kernel)
  have w_9 := hts (.fieldLink RX9 41 "MailSpool$Store" "dead" "I") (by decide +kernel)
  have hGE := hGs.2.2.2.1
  have hGM := hGs.2.2.2.2
  have L62 : ∀ (S0 : St) (v0 : Nat) (v1 : Nat) (tv0 : v0 < n ∧ K v0 = 8) (tv1 : v1 < n ∧ K v1 = 8) (H : Heap) (locs : List Loc) (ls : Array Slot), f_X9_copyFrom_L62 F S0 v0 v1 = some S9 → Wb g ad n K S0 (dA ad n s.heap.size) H → va_S (dA ad n s.heap.size) s.heap H locs → lv_has ls 3 [(0, .ref (ad v0)), (1, .ref (ad v1))] → W p l e (headSpec wsX9_copyFrom { frames := 2, cells := 0, slots := 0, locals := 61 }).room s m (List.toArray [.ref (ad p0), .ref (ad p1)]) below meth c H locs 0 0 (MQ below (QR none (QB g ad n K S9 (dA ad n s.heap.size) (True)) (dA ad n s.heap.size)) (List.toArray [.ref (ad p0), .ref (ad p1)]) s 0 0 (dA ad n s.heap.size)) (F0 m 62 ls []) := by
    intro S0 v0 v1 tv0 tv1 H locs ls hf hW hS hl
    unfold f_X9_copyFrom_L62 at hf
    refine lv_aload_n hx hb dX9_copyFrom_62 rfl (lv_at hl 1 rfl) ?_
    replace hf := obE hf
    obtain ⟨j19, qj19, hf⟩ := hf
    have tj19 := x_rt hW qj19 12 ⟨by decide, rfl⟩
    refine x_getr 804 (ci := 8) (C := RX9) (T := TX9) (N := 8) 4 hC hinX9 hW tv1 rfl rfl ⟨by decide, by decide, rfl, rfl⟩ rfl w_0 dX9_copyFrom_63 qj19 ?_
    refine lv_aload_n hx hb dX9_copyFrom_66 rfl (lv_at hl 0 rfl) ?_
    replace hf := obE hf
    obtain ⟨j20, qj20, hf⟩ := hf
    have tj20 := x_rt hW qj20 12 ⟨by decide, rfl⟩
    refine x_getr 804 (ci := 8) (C := RX9) (T := TX9) (N := 8) 4 hC hinX9 hW tv0 rfl rfl ⟨by decide, by decide, rfl, rfl⟩ rfl w_0 dX9_copyFrom_67 qj20 ?_
    replace hf := obE hf
    obtain ⟨S22, hz21, hf⟩ := hf
    refine x_callSN (As := [.ref (ad j19), .ref (ad j20)]) (rest := []) (o := none) (S1 := S22) hC hl.1 hW hS hGs hA (c_X10_copyRow l g ad n K H.size F S0 j19 j20 tj19 tj20 S22 hz21) ⟨va_cnB 2 hts gX9_copyFrom_X10_copyRow_n44 rfl rfl rfl (va_Nw.of rfl w_1) w_2 (by decide +kernel) ⟨Nat.le_of_ble_eq_true rfl, Nat.le_of_ble_eq_true rfl⟩, w_3, trivial⟩ rfl rfl (Nat.le_of_ble_eq_true rfl) dX9_copyFrom_70 ⟨Nat.le_of_ble_eq_true rfl, Nat.le_of_ble_eq_true rfl⟩ (fun H locs hPz21 hW hS => ?_)
    refine W.eq (g2 := F0 m 73 ls []) rfl ?_
    refine lv_aload_n hx hb dX9_copyFrom_73 rfl (lv_at hl 1 rfl) ?_
    replace hf := obE hf
    obtain ⟨j25, qj25, hf⟩ := hf
    have tj25 := x_rt hW qj25 12 ⟨by decide, rfl⟩
    refine x_getr 805 (ci := 8) (C := RX9) (T := TX9) (N := 8) 5 hC hinX9 hW tv1 rfl rfl ⟨by decide, by decide, rfl, rfl⟩ rfl w_4 dX9_copyFrom_74 qj25 ?_
    refine lv_aload_n hx hb dX9_copyFrom_77 rfl (lv_at hl 0 rfl) ?_
    replace hf := obE hf
    obtain ⟨j26, qj26, hf⟩ := hf
    have tj26 := x_rt hW qj26 12 ⟨by decide, rfl⟩
    refine x_getr 805 (ci := 8) (C := RX9) (T := TX9) (N := 8) 5 hC hinX9 hW tv0 rfl rfl ⟨by decide, by decide, rfl, rfl⟩ rfl w_4 dX9_copyFrom_78 qj26 ?_
    replace hf := obE hf
    obtain ⟨S28, hz27, hf⟩ := hf
    refine x_callSN (As := [.ref (ad j25), .ref (ad j26)]) (rest := []) (o := none) (S1 := S28) hC hl.1 hW hS hGs hA (c_X10_copyRow l g ad n K H.size F S22 j25 j26 tj25 tj26 S28 hz27) ⟨va_cnB 2 hts gX9_copyFrom_X10_copyRow_n44 rfl rfl rfl (va_Nw.of rfl w_1) w_2 (by decide +kernel) ⟨Nat.le_of_ble_eq_true rfl, Nat.le_of_ble_eq_true rfl⟩, w_3, trivial⟩ rfl rfl (Nat.le_of_ble_eq_true rfl) dX9_copyFrom_81 ⟨Nat.le_of_ble_eq_true rfl, Nat.le_of_ble_eq_true rfl⟩ (fun H locs hPz27 hW hS => ?_)
    refine W.eq (g2 := F0 m 84 ls []) rfl ?_
    refine lv_aload_n hx hb dX9_copyFrom_84 rfl (lv_at hl 1 rfl) ?_
    replace hf := obE hf
    obtain ⟨j31, qj31, hf⟩ := hf
    have tj31 := x_rt hW qj31 12 ⟨by decide, rfl⟩
    refine x_getr 806 (ci := 8) (C := RX9) (T := TX9) (N := 8) 6 hC hinX9 hW tv1 rfl rfl ⟨by decide, by decide, rfl, rfl⟩ rfl w_5 dX9_copyFrom_85 qj31 ?_
    refine lv_aload_n hx hb dX9_copyFrom_88 rfl (lv_at hl 0 rfl) ?_
    replace hf := obE hf
    obtain ⟨j32, qj32, hf⟩ := hf
    have tj32 := x_rt hW qj32 12 ⟨by decide, rfl⟩
    refine x_getr 806 (ci := 8) (C := RX9) (T := TX9) (N := 8) 6 hC hinX9 hW tv0 rfl rfl ⟨by decide, by decide, rfl, rfl⟩ rfl w_5 dX9_copyFrom_89 qj32 ?_
    replace hf := obE hf
    obtain ⟨S34, hz33, hf⟩ := hf
    refine x_callSN (As := [.ref (ad j31), .ref (ad j32)]) (rest := []) (o := none) (S1 := S34) hC hl.1 hW hS hGs hA (c_X10_copyRow l g ad n K H.size F S28 j31 j32 tj31 tj32 S34 hz33) ⟨va_cnB 2 hts gX9_copyFrom_X10_copyRow_n44 rfl rfl rfl (va_Nw.of rfl w_1) w_2 (by decide +kernel) ⟨Nat.le_of_ble_eq_true rfl, Nat.le_of_ble_eq_true rfl⟩, w_3, trivial⟩ rfl rfl (Nat.le_of_ble_eq_true rfl) dX9_copyFrom_92 ⟨Nat.le_of_ble_eq_true rfl, Nat.le_of_ble_eq_true rfl⟩ (fun H locs hPz33 hW hS => ?_)
    refine W.eq (g2 := F0 m 95 ls []) rfl ?_
    have e1 := Option.some.inj hf
    subst e1
    exact W.vret hx hb hr (fun t ht hWm => ⟨⟨rfl, by unfold QB; rw [ht]; exact ⟨hW, trivial⟩⟩, hS.F ht⟩) hS.2.2 dX9_copyFrom_95 hlk
  have L26 : ∀ (fu26 : Nat) (S0 : St) (v0 : Nat) (v1 : Nat) (v2 : Int32) (tv0 : v0 < n ∧ K v0 = 8) (tv1 : v1 < n ∧ K v1 = 8) (H : Heap) (locs : List Loc) (ls : Array Slot), f_X9_copyFrom_L26 F fu26 S0 v0 v1 v2 = some S9 → Wb g ad n K S0 (dA ad n s.heap.size) H → va_S (dA ad n s.heap.size) s.heap H locs → lv_has ls 3 [(0, .ref (ad v0)), (1, .ref (ad v1)), (2, .int v2)] → W p l e (headSpec wsX9_copyFrom { frames := 2, cells := 0, slots := 0, locals := 61 }).room s m (List.toArray [.ref (ad p0), .ref (ad p1)]) below meth c H locs 0 0 (MQ below (QR none (QB g ad n K S9 (dA ad n s.heap.size) (True)) (dA ad n s.heap.size)) (List.toArray [.ref (ad p0), .ref (ad p1)]) s 0 0 (dA ad n s.heap.size)) (F0 m 26 ls []) := by
    intro fu26
    induction fu26 with
    | zero =>
      intro S0 v0 v1 v2 tv0 tv1 H locs ls hf
      cases hf
    | succ fu26 ih26 =>
      intro S0 v0 v1 v2 tv0 tv1 H locs ls hf hW hS hl
      unfold f_X9_copyFrom_L26 at hf
      refine lv_iload_n hx hb dX9_copyFrom_26 rfl (lv_at hl 2 rfl) ?_
      refine lv_aload_n hx hb dX9_copyFrom_27 rfl (lv_at hl 0 rfl) ?_
      replace hf := obE hf
      obtain ⟨j51, qj51, hf⟩ := hf
      have tj51 := x_rt hW qj51 14 ⟨by decide, rfl⟩
      refine x_getr 803 (ci := 8) (C := RX9) (T := TX9) (N := 8) 3 hC hinX9 hW tv0 rfl rfl ⟨by decide, by decide, rfl, rfl⟩ rfl w_6 dX9_copyFrom_28 qj51 ?_
      refine x_alen hC hW tj51 rfl ⟨by decide, by decide⟩ dX9_copyFrom_31 ?_
      refine lv_icmp_ge (tgt := 62) hx hb dX9_copyFrom_32 (by decide) (fun c52 => ?_) (fun c52 => ?_)
      · replace hf := ifT c52 hf
        exact L62 S0 v0 v1 tv0 tv1 _ _ _ hf hW hS (lv_sub hl [0, 1] rfl)
      · replace hf := ifF c52 hf
        refine lv_iload_n hx hb dX9_copyFrom_35 rfl (lv_at hl 2 rfl) ?_
        refine lv_aload_n hx hb dX9_copyFrom_36 rfl (lv_at hl 1 rfl) ?_
        replace hf := obE hf
        obtain ⟨j53, qj53, hf⟩ := hf
        have tj53 := x_rt hW qj53 14 ⟨by decide, rfl⟩
        refine x_getr 803 (ci := 8) (C := RX9) (T := TX9) (N := 8) 3 hC hinX9 hW tv1 rfl rfl ⟨by decide, by decide, rfl, rfl⟩ rfl w_6 dX9_copyFrom_37 qj53 ?_
        refine x_alen hC hW tj53 rfl ⟨by decide, by decide⟩ dX9_copyFrom_40 ?_
        refine lv_icmp_ge (tgt := 62) hx hb dX9_copyFrom_41 (by decide) (fun c54 => ?_) (fun c54 => ?_)
        · replace hf := ifT c54 hf
          exact L62 S0 v0 v1 tv0 tv1 _ _ _ hf hW hS (lv_sub hl [0, 1] rfl)
        · replace hf := ifF c54 hf
          refine lv_aload_n hx hb dX9_copyFrom_44 rfl (lv_at hl 0 rfl) ?_
          replace hf := obE hf
          obtain ⟨j55, qj55, hf⟩ := hf
          have tj55 := x_rt hW qj55 14 ⟨by decide, rfl⟩
          refine x_getr 803 (ci := 8) (C := RX9) (T := TX9) (N := 8) 3 hC hinX9 hW tv0 rfl rfl ⟨by decide, by decide, rfl, rfl⟩ rfl w_6 dX9_copyFrom_45 qj55 ?_
          refine lv_iload_n hx hb dX9_copyFrom_48 rfl (lv_at hl 2 rfl) ?_
          refine lv_aload_n hx hb dX9_copyFrom_49 rfl (lv_at hl 1 rfl) ?_
          replace hf := obE hf
          obtain ⟨j56, qj56, hf⟩ := hf
          have tj56 := x_rt hW qj56 14 ⟨by decide, rfl⟩
          refine x_getr 803 (ci := 8) (C := RX9) (T := TX9) (N := 8) 3 hC hinX9 hW tv1 rfl rfl ⟨by decide, by decide, rfl, rfl⟩ rfl w_6 dX9_copyFrom_50 qj56 ?_
          refine lv_iload_n hx hb dX9_copyFrom_53 rfl (lv_at hl 2 rfl) ?_
          replace hf := ckiE hf
          obtain ⟨h57, hf⟩ := hf
          refine x_aald (t0 := 3) (C := "MailSpool$Bytes") hC hW tj56 rfl ⟨by decide, rfl⟩ h57 dX9_copyFrom_54 (fun qj58 => ?_) (fun j58 qj58 tj58 => ?_)
          · replace hf := osN qj58 hf
            replace hf := ckiE hf
            obtain ⟨h59, hf⟩ := hf
            refine x_aastN (C := "MailSpool$Bytes") (t0 := 3) hC hW hS tj55 rfl ⟨by decide, rfl⟩ h59 dX9_copyFrom_55 (fun S60 H locs eS60 hW hS => ?_)
            replace hf := ltE hf S60 eS60
            obtain ⟨x61, ex61⟩ : ∃ z : Int32, z = v2 + 1 := ⟨_, rfl⟩
            replace hf := ltE hf x61 ex61
            refine lv_iinc (v := x61) (lv' := [(2, .int x61), (0, .ref (ad v0)), (1, .ref (ad v1))]) hx hb dX9_copyFrom_56 hl (k := 2) rfl (by rw [ex61]; rfl) (by decide) rfl (fun ls hl => ?_)
            refine lv_goto (tgt := 26) hx hb dX9_copyFrom_59 (by decide) ?_
            exact ih26 S60 v0 v1 x61 tv0 tv1 _ _ _ hf hW hS (lv_sub hl [1, 2, 0] rfl)
          · replace hf := osS qj58 hf
            replace hf := ckiE hf
            obtain ⟨h62, hf⟩ := hf
            refine x_aast (C := RX0) (T := TX0) (N := 2) (t0 := 3) hC hW hS tj55 rfl tj58 rfl ⟨by decide, rfl, rfl, rfl, by decide⟩ h62 dX9_copyFrom_55 (fun S63 H locs eS63 hW hS => ?_)
            replace hf := ltE hf S63 eS63
            obtain ⟨x64, ex64⟩ : ∃ z : Int32, z = v2 + 1 := ⟨_, rfl⟩
            replace hf := ltE hf x64 ex64
            refine lv_iinc (v := x64) (lv' := [(2, .int x64), (0, .ref (ad v0)), (1, .ref (ad v1))]) hx hb dX9_copyFrom_56 hl (k := 2) rfl (by rw [ex64]; rfl) (by decide) rfl (fun ls hl => ?_)
            refine lv_goto (tgt := 26) hx hb dX9_copyFrom_59 (by decide) ?_
            exact ih26 S63 v0 v1 x64 tv0 tv1 _ _ _ hf hW hS (lv_sub hl [1, 2, 0] rfl)
  unfold f_X9_copyFrom at hf
  refine lv_aload_n hx hb dX9_copyFrom_0 rfl (lv_at hl 0 rfl) ?_
  refine lv_aload_n hx hb dX9_copyFrom_1 rfl (lv_at hl 1 rfl) ?_
  refine x_geti 800 (ci := 8) (C := RX9) (T := TX9) (N := 8) 0 hC hinX9 hW tp1 rfl rfl ⟨by decide, by decide, rfl, rfl⟩ rfl w_7 dX9_copyFrom_2 ?_
  refine x_puti 800 (ci := 8) (C := RX9) (T := TX9) (N := 8) (v := si S0 800 p1) (ty := .int) 0 hC hinX9 tyX9_ok nmX9 hW hS tp0 rfl rfl ⟨by decide, by decide, rfl, rfl⟩ rfl w_7 rfl (by decide +kernel) rfl rfl dX9_copyFrom_5 (fun S65 H locs eS65 hW hS => ?_)
  replace hf := ltE hf S65 eS65
  refine lv_aload_n hx hb dX9_copyFrom_8 rfl (lv_at hl 0 rfl) ?_
  refine lv_aload_n hx hb dX9_copyFrom_9 rfl (lv_at hl 1 rfl) ?_
  refine x_geti 801 (ci := 8) (C := RX9) (T := TX9) (N := 8) 1 hC hinX9 hW tp1 rfl rfl ⟨by decide, by decide, rfl, rfl⟩ rfl w_8 dX9_copyFrom_10 ?_
  refine x_puti 801 (ci := 8) (C := RX9) (T := TX9) (N := 8) (v := si S65 801 p1) (ty := .int) 1 hC hinX9 tyX9_ok nmX9 hW hS tp0 rfl rfl ⟨by decide, by decide, rfl, rfl⟩ rfl w_8 rfl (by decide +kernel) rfl rfl dX9_copyFrom_13 (fun S66 H locs eS66 hW hS => ?_)
  replace hf := ltE hf S66 eS66
  refine lv_aload_n hx hb dX9_copyFrom_16 rfl (lv_at hl 0 rfl) ?_
  refine lv_aload_n hx hb dX9_copyFrom_17 rfl (lv_at hl 1 rfl) ?_
  refine x_geti 802 (ci := 8) (C := RX9) (T := TX9) (N := 8) 2 hC hinX9 hW tp1 rfl rfl ⟨by decide, by decide, rfl, rfl⟩ rfl w_9 dX9_copyFrom_18 ?_
  refine x_puti 802 (ci := 8) (C := RX9) (T := TX9) (N := 8) (v := si S66 802 p1) (ty := .int) 2 hC hinX9 tyX9_ok nmX9 hW hS tp0 rfl rfl ⟨by decide, by decide, rfl, rfl⟩ rfl w_9 rfl (by decide +kernel) rfl rfl dX9_copyFrom_21 (fun S67 H locs eS67 hW hS => ?_)
  replace hf := ltE hf S67 eS67
  refine lv_iconst (v := 0) hx hb dX9_copyFrom_24 (by decide) ?_
  refine lv_istore_n (lv' := [(2, .int 0), (0, .ref (ad p0)), (1, .ref (ad p1))]) hx hb dX9_copyFrom_25 rfl hl (by decide) rfl (fun ls hl => ?_)
  exact L26 F S67 p0 p1 0 tp0 tp1 _ _ _ hf hW hS (lv_sub hl [1, 2, 0] rfl)
set_option maxHeartbeats 4000000 in
set_option maxRecDepth 100000 in
theorem c_X2_copyFrom (l : Launch) (g : GP) (ad : Nat → Nat) (n : Nat) (K : Nat → Nat) (sz F : Nat) (S0 : St) (p0 : Nat) (p1 : Nat) (tp0 : p0 < n ∧ K p0 = 2) (tp1 : p1 < n ∧ K p1 = 2) (S9 : St) (hf : f_X2_copyFrom F S0 p0 p1 = some S9) : Met l yX2_copyFrom wsX2_copyFrom { frames := 2, cells := 0, slots := 0, locals := 61 } (va_Pc [.ref (ad p0), .ref (ad p1)] (PB g ad n K S0 sz)) (QR none (QB g ad n K S9 (dA ad n sz) (True)) (dA ad n sz)) 0 0 (dA ad n sz) := by
  refine Met.ofW (cc := cX2_copyFrom) (maxL := 2) (ret := none) (by decide) rfl ?_
  intro p e s m args below meth c s₁ B hml hv
  obtain ⟨rfl, hsz, hW, hK, hGs⟩ := x_start hv
  subst hsz
  have hx := B.exec
  have hb := B.bytes
  have hr := B.returns
  have hts := atoms_spec (ws := wsX2_copyFrom) B.pre
  have hown : s.vm.findClass RX2 = some m.cls := findClass_of_methodNamed B.named
  have hlk := B.notSynchronized
  have hC : Cx g p s m _ c cX2_copyFrom RX2 wsX2_copyFrom 2 := ⟨hx, hb, hml, hown, hts, hK⟩
  have hA : ∀ q : Nat, s.heap.size ≤ q → dA ad n s.heap.size q := fun q h => Or.inr h
  have hS : va_S (dA ad n s.heap.size) s.heap s.heap [] := va_S.rf
  have hl := lv_entry ([.ref (ad p0), .ref (ad p1)]) (n := 2) (Nat.le_of_ble_eq_true rfl)
  rw [lg_entry_eq]
  generalize (lg_sl ([.ref (ad p0), .ref (ad p1)]) ++ List.replicate (2 - (lg_sl ([.ref (ad p0), .ref (ad p1)])).length) Slot.unset).toArray = ls at hl ⊢
  have hl : lv_has ls 2 [(0, .ref (ad p0)), (1, .ref (ad p1))] := hl
  have hinX2 : ∀ w ∈ wsX20, w ∈ wsX2_copyFrom := by decide +kernel
  have w_0 := hts (.fieldLink RX2 9 "MailSpool$Journal" "days" "[I") (by decide +kernel)
  have w_1 := va_Nw.use (A := (List.toArray [.ref (ad p0), .ref (ad p1)])) rfl (hGs.1 (.methodLinkNest RX2 28 yX10_copyRow "MailSpool") (by decide +kernel))
  have w_2 := hts (.initialized RX10) (by decide +kernel)
  have w_3 := hts (.static yX10_copyRow) (by decide +kernel)
  have w_4 := hts (.fieldLink RX2 15 "MailSpool$Journal" "kinds" "[I") (by decide +kernel)
  have w_5 := hts (.fieldLink RX2 18 "MailSpool$Journal" "objects" "[I") (by decide +kernel)
  have w_6 := hts (.fieldLink RX2 21 "MailSpool$Journal" "first" "I") (by decide +kernel)
  have w_7 := hts (.fieldLink RX2 25 "MailSpool$Journal" "size" "I") (by decide +kernel)
  have hGE := hGs.2.2.2.1
  have hGM := hGs.2.2.2.2
  unfold f_X2_copyFrom at hf
  refine lv_aload_n hx hb dX2_copyFrom_0 rfl (lv_at hl 1 rfl) ?_
  replace hf := obE hf
  obtain ⟨j1, qj1, hf⟩ := hf
  have tj1 := x_rt hW qj1 12 ⟨by decide, rfl⟩
  refine x_getr 200 (ci := 2) (C := RX2) (T := TX2) (N := 5) 0 hC hinX2 hW tp1 rfl rfl ⟨by decide, by decide, rfl, rfl⟩ rfl w_0 dX2_copyFrom_1 qj1 ?_
  refine lv_aload_n hx hb dX2_copyFrom_4 rfl (lv_at hl 0 rfl) ?_
  replace hf := obE hf
  obtain ⟨j2, qj2, hf⟩ := hf
  have tj2 := x_rt hW qj2 12 ⟨by decide, rfl⟩
  refine x_getr 200 (ci := 2) (C := RX2) (T := TX2) (N := 5) 0 hC hinX2 hW tp0 rfl rfl ⟨by decide, by decide, rfl, rfl⟩ rfl w_0 dX2_copyFrom_5 qj2 ?_
  replace hf := obE hf
  obtain ⟨S4, hz3, hf⟩ := hf
  refine x_callSN (As := [.ref (ad j1), .ref (ad j2)]) (rest := []) (o := none) (S1 := S4) hC hl.1 hW hS hGs hA (c_X10_copyRow l g ad n K s.heap.size F S0 j1 j2 tj1 tj2 S4 hz3) ⟨va_cnB 2 hts gX2_copyFrom_X10_copyRow_n28 rfl rfl rfl (va_Nw.of rfl w_1) w_2 (by decide +kernel) ⟨Nat.le_of_ble_eq_true rfl, Nat.le_of_ble_eq_true rfl⟩, w_3, trivial⟩ rfl rfl (Nat.le_of_ble_eq_true rfl) dX2_copyFrom_8 ⟨Nat.le_of_ble_eq_true rfl, Nat.le_of_ble_eq_true rfl⟩ (fun H locs hPz3 hW hS => ?_)
  refine W.eq (g2 := F0 m 11 ls []) rfl ?_
  refine lv_aload_n hx hb dX2_copyFrom_11 rfl (lv_at hl 1 rfl) ?_
  replace hf := obE hf
  obtain ⟨j7, qj7, hf⟩ := hf
  have tj7 := x_rt hW qj7 12 ⟨by decide, rfl⟩
  refine x_getr 201 (ci := 2) (C := RX2) (T := TX2) (N := 5) 1 hC hinX2 hW tp1 rfl rfl ⟨by decide, by decide, rfl, rfl⟩ rfl w_4 dX2_copyFrom_12 qj7 ?_
  refine lv_aload_n hx hb dX2_copyFrom_15 rfl (lv_at hl 0 rfl) ?_
  replace hf := obE hf
  obtain ⟨j8, qj8, hf⟩ := hf
  have tj8 := x_rt hW qj8 12 ⟨by decide, rfl⟩
  refine x_getr 201 (ci := 2) (C := RX2) (T := TX2) (N := 5) 1 hC hinX2 hW tp0 rfl rfl ⟨by decide, by decide, rfl, rfl⟩ rfl w_4 dX2_copyFrom_16 qj8 ?_
  replace hf := obE hf
  obtain ⟨S10, hz9, hf⟩ := hf
  refine x_callSN (As := [.ref (ad j7), .ref (ad j8)]) (rest := []) (o := none) (S1 := S10) hC hl.1 hW hS hGs hA (c_X10_copyRow l g ad n K H.size F S4 j7 j8 tj7 tj8 S10 hz9) ⟨va_cnB 2 hts gX2_copyFrom_X10_copyRow_n28 rfl rfl rfl (va_Nw.of rfl w_1) w_2 (by decide +kernel) ⟨Nat.le_of_ble_eq_true rfl, Nat.le_of_ble_eq_true rfl⟩, w_3, trivial⟩ rfl rfl (Nat.le_of_ble_eq_true rfl) dX2_copyFrom_19 ⟨Nat.le_of_ble_eq_true rfl, Nat.le_of_ble_eq_true rfl⟩ (fun H locs hPz9 hW hS => ?_)
  refine W.eq (g2 := F0 m 22 ls []) rfl ?_
  refine lv_aload_n hx hb dX2_copyFrom_22 rfl (lv_at hl 1 rfl) ?_
  replace hf := obE hf
  obtain ⟨j13, qj13, hf⟩ := hf
  have tj13 := x_rt hW qj13 12 ⟨by decide, rfl⟩
  refine x_getr 202 (ci := 2) (C := RX2) (T := TX2) (N := 5) 2 hC hinX2 hW tp1 rfl rfl ⟨by decide, by decide, rfl, rfl⟩ rfl w_5 dX2_copyFrom_23 qj13 ?_
  refine lv_aload_n hx hb dX2_copyFrom_26 rfl (lv_at hl 0 rfl) ?_
  replace hf := obE hf
  obtain ⟨j14, qj14, hf⟩ := hf
  have tj14 := x_rt hW qj14 12 ⟨by decide, rfl⟩
  refine x_getr 202 (ci := 2) (C := RX2) (T := TX2) (N := 5) 2 hC hinX2 hW tp0 rfl rfl ⟨by decide, by decide, rfl, rfl⟩ rfl w_5 dX2_copyFrom_27 qj14 ?_
  replace hf := obE hf
  obtain ⟨S16, hz15, hf⟩ := hf
  refine x_callSN (As := [.ref (ad j13), .ref (ad j14)]) (rest := []) (o := none) (S1 := S16) hC hl.1 hW hS hGs hA (c_X10_copyRow l g ad n K H.size F S10 j13 j14 tj13 tj14 S16 hz15) ⟨va_cnB 2 hts gX2_copyFrom_X10_copyRow_n28 rfl rfl rfl (va_Nw.of rfl w_1) w_2 (by decide +kernel) ⟨Nat.le_of_ble_eq_true rfl, Nat.le_of_ble_eq_true rfl⟩, w_3, trivial⟩ rfl rfl (Nat.le_of_ble_eq_true rfl) dX2_copyFrom_30 ⟨Nat.le_of_ble_eq_true rfl, Nat.le_of_ble_eq_true rfl⟩ (fun H locs hPz15 hW hS => ?_)
  refine W.eq (g2 := F0 m 33 ls []) rfl ?_
  refine lv_aload_n hx hb dX2_copyFrom_33 rfl (lv_at hl 0 rfl) ?_
  refine lv_aload_n hx hb dX2_copyFrom_34 rfl (lv_at hl 1 rfl) ?_
  refine x_geti 203 (ci := 2) (C := RX2) (T := TX2) (N := 5) 3 hC hinX2 hW tp1 rfl rfl ⟨by decide, by decide, rfl, rfl⟩ rfl w_6 dX2_copyFrom_35 ?_
  refine x_puti 203 (ci := 2) (C := RX2) (T := TX2) (N := 5) (v := si S16 203 p1) (ty := .int) 3 hC hinX2 tyX2_ok nmX2 hW hS tp0 rfl rfl ⟨by decide, by decide, rfl, rfl⟩ rfl w_6 rfl (by decide +kernel) rfl rfl dX2_copyFrom_38 (fun S19 H locs eS19 hW hS => ?_)
  replace hf := ltE hf S19 eS19
  refine lv_aload_n hx hb dX2_copyFrom_41 rfl (lv_at hl 0 rfl) ?_
  refine lv_aload_n hx hb dX2_copyFrom_42 rfl (lv_at hl 1 rfl) ?_
  refine x_geti 204 (ci := 2) (C := RX2) (T := TX2) (N := 5) 4 hC hinX2 hW tp1 rfl rfl ⟨by decide, by decide, rfl, rfl⟩ rfl w_7 dX2_copyFrom_43 ?_
  refine x_puti 204 (ci := 2) (C := RX2) (T := TX2) (N := 5) (v := si S19 204 p1) (ty := .int) 4 hC hinX2 tyX2_ok nmX2 hW hS tp0 rfl rfl ⟨by decide, by decide, rfl, rfl⟩ rfl w_7 rfl (by decide +kernel) rfl rfl dX2_copyFrom_46 (fun S20 H locs eS20 hW hS => ?_)
  replace hf := ltE hf S20 eS20
  have e1 := Option.some.inj hf
  subst e1
  exact W.vret hx hb hr (fun t ht hWm => ⟨⟨rfl, by unfold QB; rw [ht]; exact ⟨hW, trivial⟩⟩, hS.F ht⟩) hS.2.2 dX2_copyFrom_49 hlk
set_option maxHeartbeats 4000000 in
set_option maxRecDepth 100000 in
theorem c_X8_copyFrom (l : Launch) (g : GP) (ad : Nat → Nat) (n : Nat) (K : Nat → Nat) (sz F : Nat) (S0 : St) (p0 : Nat) (p1 : Nat) (tp0 : p0 < n ∧ K p0 = 7) (tp1 : p1 < n ∧ K p1 = 7) (S9 : St) (hf : f_X8_copyFrom F S0 p0 p1 = some S9) : Met l yX8_copyFrom wsX8_copyFrom { frames := 3, cells := 0, slots := 0, locals := 83 } (va_Pc [.ref (ad p0), .ref (ad p1)] (PB g ad n K S0 sz)) (QR none (QB g ad n K S9 (dA ad n sz) (True)) (dA ad n sz)) 0 0 (dA ad n sz) := by
  refine Met.ofW (cc := cX8_copyFrom) (maxL := 3) (ret := none) (by decide) rfl ?_
  intro p e s m args below meth c s₁ B hml hv
  obtain ⟨rfl, hsz, hW, hK, hGs⟩ := x_start hv
  subst hsz
  have hx := B.exec
  have hb := B.bytes
  have hr := B.returns
  have hts := atoms_spec (ws := wsX8_copyFrom) B.pre
  have hown : s.vm.findClass RX8 = some m.cls := findClass_of_methodNamed B.named
  have hlk := B.notSynchronized
  have hC : Cx g p s m _ c cX8_copyFrom RX8 wsX8_copyFrom 3 := ⟨hx, hb, hml, hown, hts, hK⟩
  have hA : ∀ q : Nat, s.heap.size ≤ q → dA ad n s.heap.size q := fun q h => Or.inr h
  have hS : va_S (dA ad n s.heap.size) s.heap s.heap [] := va_S.rf
  have hl := lv_entry ([.ref (ad p0), .ref (ad p1)]) (n := 3) (Nat.le_of_ble_eq_true rfl)
  rw [lg_entry_eq]
  generalize (lg_sl ([.ref (ad p0), .ref (ad p1)]) ++ List.replicate (3 - (lg_sl ([.ref (ad p0), .ref (ad p1)])).length) Slot.unset).toArray = ls at hl ⊢
  have hl : lv_has ls 3 [(0, .ref (ad p0)), (1, .ref (ad p1))] := hl
  have hinX8 : ∀ w ∈ wsX80, w ∈ wsX8_copyFrom := by decide +kernel
  have w_0 := hts (.fieldLink RX8 25 "MailSpool$Spool" "states" "[I") (by decide +kernel)
  have w_1 := va_Nw.use (A := (List.toArray [.ref (ad p0), .ref (ad p1)])) rfl (hGs.1 (.methodLinkNest RX8 84 yX10_copyRow "MailSpool") (by decide +kernel))
  have w_2 := hts (.initialized RX10) (by decide +kernel)
  have w_3 := hts (.static yX10_copyRow) (by decide +kernel)
  have w_4 := hts (.fieldLink RX8 28 "MailSpool$Spool" "retentions" "[I") (by decide +kernel)
  have w_5 := hts (.fieldLink RX8 31 "MailSpool$Spool" "entered" "[I") (by decide +kernel)
  have w_6 := hts (.fieldLink RX8 37 "MailSpool$Spool" "store" "LMailSpool$Store;") (by decide +kernel)
  have w_7 := hts (.fieldLink RX8 44 "MailSpool$Spool" "journal" "LMailSpool$Journal;") (by decide +kernel)
  have w_8 := hts (.fieldLink RX8 21 "MailSpool$Spool" "messages" "[LMailSpool$Message;") (by decide +kernel)
  have w_9 := hts (.fieldLink RX8 9 "MailSpool$Spool" "rules" "LMailSpool$Rules;") (by decide +kernel)
  have w_10 := hts (.fieldLink RX8 66 "MailSpool$Spool" "day" "I") (by decide +kernel)
  have w_11 := hts (.fieldLink RX8 69 "MailSpool$Spool" "bouncedUsers" "I") (by decide +kernel)
  have w_12 := hts (.fieldLink RX8 78 "MailSpool$Spool" "activeHolds" "I") (by decide +kernel)
  have w_13 := hts (.fieldLink RX8 15 "MailSpool$Spool" "quotas" "[I") (by decide +kernel)
  have w_14 := hts (.fieldLink RX8 88 "MailSpool$Spool" "messageCount" "I") (by decide +kernel)
  have hGE := hGs.2.2.2.1
  have hGM := hGs.2.2.2.2
  have L89 : ∀ (S0 : St) (v0 : Nat) (v1 : Nat) (tv0 : v0 < n ∧ K v0 = 7) (tv1 : v1 < n ∧ K v1 = 7) (H : Heap) (locs : List Loc) (ls : Array Slot), f_X8_copyFrom_L89 F S0 v0 v1 = some S9 → Wb g ad n K S0 (dA ad n s.heap.size) H → va_S (dA ad n s.heap.size) s.heap H locs → lv_has ls 3 [(0, .ref (ad v0)), (1, .ref (ad v1))] → W p l e (headSpec wsX8_copyFrom { frames := 3, cells := 0, slots := 0, locals := 83 }).room s m (List.toArray [.ref (ad p0), .ref (ad p1)]) below meth c H locs 0 0 (MQ below (QR none (QB g ad n K S9 (dA ad n s.heap.size) (True)) (dA ad n s.heap.size)) (List.toArray [.ref (ad p0), .ref (ad p1)]) s 0 0 (dA ad n s.heap.size)) (F0 m 89 ls []) := by
    intro S0 v0 v1 tv0 tv1 H locs ls hf hW hS hl
    unfold f_X8_copyFrom_L89 at hf
    refine lv_aload_n hx hb dX8_copyFrom_89 rfl (lv_at hl 1 rfl) ?_
    replace hf := obE hf
    obtain ⟨j31, qj31, hf⟩ := hf
    have tj31 := x_rt hW qj31 12 ⟨by decide, rfl⟩
    refine x_getr 707 (ci := 7) (C := RX8) (T := TX8) (N := 16) 7 hC hinX8 hW tv1 rfl rfl ⟨by decide, by decide, rfl, rfl⟩ rfl w_0 dX8_copyFrom_90 qj31 ?_
    refine lv_aload_n hx hb dX8_copyFrom_93 rfl (lv_at hl 0 rfl) ?_
    replace hf := obE hf
    obtain ⟨j32, qj32, hf⟩ := hf
    have tj32 := x_rt hW qj32 12 ⟨by decide, rfl⟩
    refine x_getr 707 (ci := 7) (C := RX8) (T := TX8) (N := 16) 7 hC hinX8 hW tv0 rfl rfl ⟨by decide, by decide, rfl, rfl⟩ rfl w_0 dX8_copyFrom_94 qj32 ?_
    replace hf := obE hf
    obtain ⟨S34, hz33, hf⟩ := hf
    refine x_callSN (As := [.ref (ad j31), .ref (ad j32)]) (rest := []) (o := none) (S1 := S34) hC hl.1 hW hS hGs hA (c_X10_copyRow l g ad n K H.size F S0 j31 j32 tj31 tj32 S34 hz33) ⟨va_cnB 2 hts gX8_copyFrom_X10_copyRow_n84 rfl rfl rfl (va_Nw.of rfl w_1) w_2 (by decide +kernel) ⟨Nat.le_of_ble_eq_true rfl, Nat.le_of_ble_eq_true rfl⟩, w_3, trivial⟩ rfl rfl (Nat.le_of_ble_eq_true rfl) dX8_copyFrom_97 ⟨Nat.le_of_ble_eq_true rfl, Nat.le_of_ble_eq_true rfl⟩ (fun H locs hPz33 hW hS => ?_)
    refine W.eq (g2 := F0 m 100 ls []) rfl ?_
    refine lv_aload_n hx hb dX8_copyFrom_100 rfl (lv_at hl 1 rfl) ?_
    replace hf := obE hf
    obtain ⟨j37, qj37, hf⟩ := hf
    have tj37 := x_rt hW qj37 12 ⟨by decide, rfl⟩
    refine x_getr 708 (ci := 7) (C := RX8) (T := TX8) (N := 16) 8 hC hinX8 hW tv1 rfl rfl ⟨by decide, by decide, rfl, rfl⟩ rfl w_4 dX8_copyFrom_101 qj37 ?_
    refine lv_aload_n hx hb dX8_copyFrom_104 rfl (lv_at hl 0 rfl) ?_
    replace hf := obE hf
    obtain ⟨j38, qj38, hf⟩ := hf
    have tj38 := x_rt hW qj38 12 ⟨by decide, rfl⟩
    refine x_getr 708 (ci := 7) (C := RX8) (T := TX8) (N := 16) 8 hC hinX8 hW tv0 rfl rfl ⟨by decide, by decide, rfl, rfl⟩ rfl w_4 dX8_copyFrom_105 qj38 ?_
    replace hf := obE hf
    obtain ⟨S40, hz39, hf⟩ := hf
    refine x_callSN (As := [.ref (ad j37), .ref (ad j38)]) (rest := []) (o := none) (S1 := S40) hC hl.1 hW hS hGs hA (c_X10_copyRow l g ad n K H.size F S34 j37 j38 tj37 tj38 S40 hz39) ⟨va_cnB 2 hts gX8_copyFrom_X10_copyRow_n84 rfl rfl rfl (va_Nw.of rfl w_1) w_2 (by decide +kernel) ⟨Nat.le_of_ble_eq_true rfl, Nat.le_of_ble_eq_true rfl⟩, w_3, trivial⟩ rfl rfl (Nat.le_of_ble_eq_true rfl) dX8_copyFrom_108 ⟨Nat.le_of_ble_eq_true rfl, Nat.le_of_ble_eq_true rfl⟩ (fun H locs hPz39 hW hS => ?_)
    refine W.eq (g2 := F0 m 111 ls []) rfl ?_
    refine lv_aload_n hx hb dX8_copyFrom_111 rfl (lv_at hl 1 rfl) ?_
    replace hf := obE hf
    obtain ⟨j43, qj43, hf⟩ := hf
    have tj43 := x_rt hW qj43 12 ⟨by decide, rfl⟩
    refine x_getr 709 (ci := 7) (C := RX8) (T := TX8) (N := 16) 9 hC hinX8 hW tv1 rfl rfl ⟨by decide, by decide, rfl, rfl⟩ rfl w_5 dX8_copyFrom_112 qj43 ?_
    refine lv_aload_n hx hb dX8_copyFrom_115 rfl (lv_at hl 0 rfl) ?_
    replace hf := obE hf
    obtain ⟨j44, qj44, hf⟩ := hf
    have tj44 := x_rt hW qj44 12 ⟨by decide, rfl⟩
    refine x_getr 709 (ci := 7) (C := RX8) (T := TX8) (N := 16) 9 hC hinX8 hW tv0 rfl rfl ⟨by decide, by decide, rfl, rfl⟩ rfl w_5 dX8_copyFrom_116 qj44 ?_
    replace hf := obE hf
    obtain ⟨S46, hz45, hf⟩ := hf
    refine x_callSN (As := [.ref (ad j43), .ref (ad j44)]) (rest := []) (o := none) (S1 := S46) hC hl.1 hW hS hGs hA (c_X10_copyRow l g ad n K H.size F S40 j43 j44 tj43 tj44 S46 hz45) ⟨va_cnB 2 hts gX8_copyFrom_X10_copyRow_n84 rfl rfl rfl (va_Nw.of rfl w_1) w_2 (by decide +kernel) ⟨Nat.le_of_ble_eq_true rfl, Nat.le_of_ble_eq_true rfl⟩, w_3, trivial⟩ rfl rfl (Nat.le_of_ble_eq_true rfl) dX8_copyFrom_119 ⟨Nat.le_of_ble_eq_true rfl, Nat.le_of_ble_eq_true rfl⟩ (fun H locs hPz45 hW hS => ?_)
    refine W.eq (g2 := F0 m 122 ls []) rfl ?_
    refine lv_aload_n hx hb dX8_copyFrom_122 rfl (lv_at hl 0 rfl) ?_
    replace hf := obE hf
    obtain ⟨j49, qj49, hf⟩ := hf
    have tj49 := x_rt hW qj49 8 ⟨by decide, rfl⟩
    refine x_getr 710 (ci := 7) (C := RX8) (T := TX8) (N := 16) 10 hC hinX8 hW tv0 rfl rfl ⟨by decide, by decide, rfl, rfl⟩ rfl w_6 dX8_copyFrom_123 qj49 ?_
    refine lv_aload_n hx hb dX8_copyFrom_126 rfl (lv_at hl 1 rfl) ?_
    replace hf := obE hf
    obtain ⟨j50, qj50, hf⟩ := hf
    have tj50 := x_rt hW qj50 8 ⟨by decide, rfl⟩
    refine x_getr 710 (ci := 7) (C := RX8) (T := TX8) (N := 16) 10 hC hinX8 hW tv1 rfl rfl ⟨by decide, by decide, rfl, rfl⟩ rfl w_6 dX8_copyFrom_127 qj50 ?_
    replace hf := obE hf
    obtain ⟨S52, hz51, hf⟩ := hf
    refine x_callV (As := [.ref (ad j50)]) (rest := []) (o := none) (S1 := S52) hC hl.1 hW hS hGs hA tj49 rfl (show vwCl[8]? = some (RX9, TX9, 8) ∧ ob 8 from ⟨rfl, by decide⟩) (c_X9_copyFrom l g ad n K H.size F S46 j49 j50 tj49 tj50 S52 hz51) (cwV 1 hts gX8_copyFrom_X9_copyFrom rfl rfl rfl (by decide +kernel) ⟨Nat.le_of_ble_eq_true rfl, Nat.le_of_ble_eq_true rfl⟩) rfl rfl (Nat.le_of_ble_eq_true rfl) dX8_copyFrom_130 ⟨Nat.le_of_ble_eq_true rfl, Nat.le_of_ble_eq_true rfl⟩ (fun H locs hPz51 hW hS => ?_)
    refine W.eq (g2 := F0 m 133 ls []) rfl ?_
    refine lv_aload_n hx hb dX8_copyFrom_133 rfl (lv_at hl 0 rfl) ?_
    replace hf := obE hf
    obtain ⟨j55, qj55, hf⟩ := hf
    have tj55 := x_rt hW qj55 2 ⟨by decide, rfl⟩
    refine x_getr 711 (ci := 7) (C := RX8) (T := TX8) (N := 16) 11 hC hinX8 hW tv0 rfl rfl ⟨by decide, by decide, rfl, rfl⟩ rfl w_7 dX8_copyFrom_134 qj55 ?_
    refine lv_aload_n hx hb dX8_copyFrom_137 rfl (lv_at hl 1 rfl) ?_
    replace hf := obE hf
    obtain ⟨j56, qj56, hf⟩ := hf
    have tj56 := x_rt hW qj56 2 ⟨by decide, rfl⟩
    refine x_getr 711 (ci := 7) (C := RX8) (T := TX8) (N := 16) 11 hC hinX8 hW tv1 rfl rfl ⟨by decide, by decide, rfl, rfl⟩ rfl w_7 dX8_copyFrom_138 qj56 ?_
    replace hf := obE hf
    obtain ⟨S58, hz57, hf⟩ := hf
    refine x_callV (As := [.ref (ad j56)]) (rest := []) (o := none) (S1 := S58) hC hl.1 hW hS hGs hA tj55 rfl (show vwCl[2]? = some (RX2, TX2, 5) ∧ ob 2 from ⟨rfl, by decide⟩) (c_X2_copyFrom l g ad n K H.size F S52 j55 j56 tj55 tj56 S58 hz57) (cwV 1 hts gX8_copyFrom_X2_copyFrom rfl rfl rfl (by decide +kernel) ⟨Nat.le_of_ble_eq_true rfl, Nat.le_of_ble_eq_true rfl⟩) rfl rfl (Nat.le_of_ble_eq_true rfl) dX8_copyFrom_141 ⟨Nat.le_of_ble_eq_true rfl, Nat.le_of_ble_eq_true rfl⟩ (fun H locs hPz57 hW hS => ?_)
    refine W.eq (g2 := F0 m 144 ls []) rfl ?_
    have e1 := Option.some.inj hf
    subst e1
    exact W.vret hx hb hr (fun t ht hWm => ⟨⟨rfl, by unfold QB; rw [ht]; exact ⟨hW, trivial⟩⟩, hS.F ht⟩) hS.2.2 dX8_copyFrom_144 hlk
  have L53 : ∀ (fu53 : Nat) (S0 : St) (v0 : Nat) (v1 : Nat) (v2 : Int32) (tv0 : v0 < n ∧ K v0 = 7) (tv1 : v1 < n ∧ K v1 = 7) (H : Heap) (locs : List Loc) (ls : Array Slot), f_X8_copyFrom_L53 F fu53 S0 v0 v1 v2 = some S9 → Wb g ad n K S0 (dA ad n s.heap.size) H → va_S (dA ad n s.heap.size) s.heap H locs → lv_has ls 3 [(0, .ref (ad v0)), (1, .ref (ad v1)), (2, .int v2)] → W p l e (headSpec wsX8_copyFrom { frames := 3, cells := 0, slots := 0, locals := 83 }).room s m (List.toArray [.ref (ad p0), .ref (ad p1)]) below meth c H locs 0 0 (MQ below (QR none (QB g ad n K S9 (dA ad n s.heap.size) (True)) (dA ad n s.heap.size)) (List.toArray [.ref (ad p0), .ref (ad p1)]) s 0 0 (dA ad n s.heap.size)) (F0 m 53 ls []) := by
    intro fu53
    induction fu53 with
    | zero =>
      intro S0 v0 v1 v2 tv0 tv1 H locs ls hf
      cases hf
    | succ fu53 ih53 =>
      intro S0 v0 v1 v2 tv0 tv1 H locs ls hf hW hS hl
      unfold f_X8_copyFrom_L53 at hf
      refine lv_iload_n hx hb dX8_copyFrom_53 rfl (lv_at hl 2 rfl) ?_
      refine lv_aload_n hx hb dX8_copyFrom_54 rfl (lv_at hl 0 rfl) ?_
      replace hf := obE hf
      obtain ⟨j75, qj75, hf⟩ := hf
      have tj75 := x_rt hW qj75 15 ⟨by decide, rfl⟩
      refine x_getr 706 (ci := 7) (C := RX8) (T := TX8) (N := 16) 6 hC hinX8 hW tv0 rfl rfl ⟨by decide, by decide, rfl, rfl⟩ rfl w_8 dX8_copyFrom_55 qj75 ?_
      refine x_alen hC hW tj75 rfl ⟨by decide, by decide⟩ dX8_copyFrom_58 ?_
      refine lv_icmp_ge (tgt := 89) hx hb dX8_copyFrom_59 (by decide) (fun c76 => ?_) (fun c76 => ?_)
      · replace hf := ifT c76 hf
        exact L89 S0 v0 v1 tv0 tv1 _ _ _ hf hW hS (lv_sub hl [0, 1] rfl)
      · replace hf := ifF c76 hf
        refine lv_iload_n hx hb dX8_copyFrom_62 rfl (lv_at hl 2 rfl) ?_
        refine lv_aload_n hx hb dX8_copyFrom_63 rfl (lv_at hl 1 rfl) ?_
        replace hf := obE hf
        obtain ⟨j77, qj77, hf⟩ := hf
        have tj77 := x_rt hW qj77 15 ⟨by decide, rfl⟩
        refine x_getr 706 (ci := 7) (C := RX8) (T := TX8) (N := 16) 6 hC hinX8 hW tv1 rfl rfl ⟨by decide, by decide, rfl, rfl⟩ rfl w_8 dX8_copyFrom_64 qj77 ?_
        refine x_alen hC hW tj77 rfl ⟨by decide, by decide⟩ dX8_copyFrom_67 ?_
        refine lv_icmp_ge (tgt := 89) hx hb dX8_copyFrom_68 (by decide) (fun c78 => ?_) (fun c78 => ?_)
        · replace hf := ifT c78 hf
          exact L89 S0 v0 v1 tv0 tv1 _ _ _ hf hW hS (lv_sub hl [0, 1] rfl)
        · replace hf := ifF c78 hf
          refine lv_aload_n hx hb dX8_copyFrom_71 rfl (lv_at hl 0 rfl) ?_
          replace hf := obE hf
          obtain ⟨j79, qj79, hf⟩ := hf
          have tj79 := x_rt hW qj79 15 ⟨by decide, rfl⟩
          refine x_getr 706 (ci := 7) (C := RX8) (T := TX8) (N := 16) 6 hC hinX8 hW tv0 rfl rfl ⟨by decide, by decide, rfl, rfl⟩ rfl w_8 dX8_copyFrom_72 qj79 ?_
          refine lv_iload_n hx hb dX8_copyFrom_75 rfl (lv_at hl 2 rfl) ?_
          refine lv_aload_n hx hb dX8_copyFrom_76 rfl (lv_at hl 1 rfl) ?_
          replace hf := obE hf
          obtain ⟨j80, qj80, hf⟩ := hf
          have tj80 := x_rt hW qj80 15 ⟨by decide, rfl⟩
          refine x_getr 706 (ci := 7) (C := RX8) (T := TX8) (N := 16) 6 hC hinX8 hW tv1 rfl rfl ⟨by decide, by decide, rfl, rfl⟩ rfl w_8 dX8_copyFrom_77 qj80 ?_
          refine lv_iload_n hx hb dX8_copyFrom_80 rfl (lv_at hl 2 rfl) ?_
          replace hf := ckiE hf
          obtain ⟨h81, hf⟩ := hf
          refine x_aald (t0 := 4) (C := "MailSpool$Message") hC hW tj80 rfl ⟨by decide, rfl⟩ h81 dX8_copyFrom_81 (fun qj82 => ?_) (fun j82 qj82 tj82 => ?_)
          · replace hf := osN qj82 hf
            replace hf := ckiE hf
            obtain ⟨h83, hf⟩ := hf
            refine x_aastN (C := "MailSpool$Message") (t0 := 4) hC hW hS tj79 rfl ⟨by decide, rfl⟩ h83 dX8_copyFrom_82 (fun S84 H locs eS84 hW hS => ?_)
            replace hf := ltE hf S84 eS84
            obtain ⟨x85, ex85⟩ : ∃ z : Int32, z = v2 + 1 := ⟨_, rfl⟩
            replace hf := ltE hf x85 ex85
            refine lv_iinc (v := x85) (lv' := [(2, .int x85), (0, .ref (ad v0)), (1, .ref (ad v1))]) hx hb dX8_copyFrom_83 hl (k := 2) rfl (by rw [ex85]; rfl) (by decide) rfl (fun ls hl => ?_)
            refine lv_goto (tgt := 53) hx hb dX8_copyFrom_86 (by decide) ?_
            exact ih53 S84 v0 v1 x85 tv0 tv1 _ _ _ hf hW hS (lv_sub hl [1, 2, 0] rfl)
          · replace hf := osS qj82 hf
            replace hf := ckiE hf
            obtain ⟨h86, hf⟩ := hf
            refine x_aast (C := RX4) (T := TX4) (N := 5) (t0 := 4) hC hW hS tj79 rfl tj82 rfl ⟨by decide, rfl, rfl, rfl, by decide⟩ h86 dX8_copyFrom_82 (fun S87 H locs eS87 hW hS => ?_)
            replace hf := ltE hf S87 eS87
            obtain ⟨x88, ex88⟩ : ∃ z : Int32, z = v2 + 1 := ⟨_, rfl⟩
            replace hf := ltE hf x88 ex88
            refine lv_iinc (v := x88) (lv' := [(2, .int x88), (0, .ref (ad v0)), (1, .ref (ad v1))]) hx hb dX8_copyFrom_83 hl (k := 2) rfl (by rw [ex88]; rfl) (by decide) rfl (fun ls hl => ?_)
            refine lv_goto (tgt := 53) hx hb dX8_copyFrom_86 (by decide) ?_
            exact ih53 S87 v0 v1 x88 tv0 tv1 _ _ _ hf hW hS (lv_sub hl [1, 2, 0] rfl)
  unfold f_X8_copyFrom at hf
  refine lv_aload_n hx hb dX8_copyFrom_0 rfl (lv_at hl 0 rfl) ?_
  refine lv_aload_n hx hb dX8_copyFrom_1 rfl (lv_at hl 1 rfl) ?_
  replace hf := obE hf
  obtain ⟨j89, qj89, hf⟩ := hf
  have tj89 := x_rt hW qj89 6 ⟨by decide, rfl⟩
  refine x_getr 700 (ci := 7) (C := RX8) (T := TX8) (N := 16) 0 hC hinX8 hW tp1 rfl rfl ⟨by decide, by decide, rfl, rfl⟩ rfl w_9 dX8_copyFrom_2 qj89 ?_
  refine x_putr 700 (ci := 7) (C := RX8) (T := TX8) (N := 16) (ty := (.object "MailSpool$Rules")) 0 hC hinX8 tyX8_ok nmX8 hW hS tp0 rfl tj89 rfl rfl rfl ⟨by decide, by decide, rfl, rfl⟩ rfl w_9 rfl (by decide +kernel) rfl rfl dX8_copyFrom_5 (fun S90 H locs eS90 hW hS => ?_)
  replace hf := ltE hf S90 eS90
  refine lv_aload_n hx hb dX8_copyFrom_8 rfl (lv_at hl 0 rfl) ?_
  refine lv_aload_n hx hb dX8_copyFrom_9 rfl (lv_at hl 1 rfl) ?_
  refine x_geti 701 (ci := 7) (C := RX8) (T := TX8) (N := 16) 1 hC hinX8 hW tp1 rfl rfl ⟨by decide, by decide, rfl, rfl⟩ rfl w_10 dX8_copyFrom_10 ?_
  refine x_puti 701 (ci := 7) (C := RX8) (T := TX8) (N := 16) (v := si S90 701 p1) (ty := .int) 1 hC hinX8 tyX8_ok nmX8 hW hS tp0 rfl rfl ⟨by decide, by decide, rfl, rfl⟩ rfl w_10 rfl (by decide +kernel) rfl rfl dX8_copyFrom_13 (fun S91 H locs eS91 hW hS => ?_)
  replace hf := ltE hf S91 eS91
  refine lv_aload_n hx hb dX8_copyFrom_16 rfl (lv_at hl 0 rfl) ?_
  refine lv_aload_n hx hb dX8_copyFrom_17 rfl (lv_at hl 1 rfl) ?_
  refine x_geti 702 (ci := 7) (C := RX8) (T := TX8) (N := 16) 2 hC hinX8 hW tp1 rfl rfl ⟨by decide, by decide, rfl, rfl⟩ rfl w_11 dX8_copyFrom_18 ?_
  refine x_puti 702 (ci := 7) (C := RX8) (T := TX8) (N := 16) (v := si S91 702 p1) (ty := .int) 2 hC hinX8 tyX8_ok nmX8 hW hS tp0 rfl rfl ⟨by decide, by decide, rfl, rfl⟩ rfl w_11 rfl (by decide +kernel) rfl rfl dX8_copyFrom_21 (fun S92 H locs eS92 hW hS => ?_)
  replace hf := ltE hf S92 eS92
  refine lv_aload_n hx hb dX8_copyFrom_24 rfl (lv_at hl 0 rfl) ?_
  refine lv_aload_n hx hb dX8_copyFrom_25 rfl (lv_at hl 1 rfl) ?_
  refine x_geti 703 (ci := 7) (C := RX8) (T := TX8) (N := 16) 3 hC hinX8 hW tp1 rfl rfl ⟨by decide, by decide, rfl, rfl⟩ rfl w_12 dX8_copyFrom_26 ?_
  refine x_puti 703 (ci := 7) (C := RX8) (T := TX8) (N := 16) (v := si S92 703 p1) (ty := .int) 3 hC hinX8 tyX8_ok nmX8 hW hS tp0 rfl rfl ⟨by decide, by decide, rfl, rfl⟩ rfl w_12 rfl (by decide +kernel) rfl rfl dX8_copyFrom_29 (fun S93 H locs eS93 hW hS => ?_)
  replace hf := ltE hf S93 eS93
  refine lv_aload_n hx hb dX8_copyFrom_32 rfl (lv_at hl 1 rfl) ?_
  replace hf := obE hf
  obtain ⟨j94, qj94, hf⟩ := hf
  have tj94 := x_rt hW qj94 12 ⟨by decide, rfl⟩
  refine x_getr 704 (ci := 7) (C := RX8) (T := TX8) (N := 16) 4 hC hinX8 hW tp1 rfl rfl ⟨by decide, by decide, rfl, rfl⟩ rfl w_13 dX8_copyFrom_33 qj94 ?_
  refine lv_aload_n hx hb dX8_copyFrom_36 rfl (lv_at hl 0 rfl) ?_
  replace hf := obE hf
  obtain ⟨j95, qj95, hf⟩ := hf
  have tj95 := x_rt hW qj95 12 ⟨by decide, rfl⟩
  refine x_getr 704 (ci := 7) (C := RX8) (T := TX8) (N := 16) 4 hC hinX8 hW tp0 rfl rfl ⟨by decide, by decide, rfl, rfl⟩ rfl w_13 dX8_copyFrom_37 qj95 ?_
  replace hf := obE hf
  obtain ⟨S97, hz96, hf⟩ := hf
  refine x_callSN (As := [.ref (ad j94), .ref (ad j95)]) (rest := []) (o := none) (S1 := S97) hC hl.1 hW hS hGs hA (c_X10_copyRow l g ad n K H.size F S93 j94 j95 tj94 tj95 S97 hz96) ⟨va_cnB 2 hts gX8_copyFrom_X10_copyRow_n84 rfl rfl rfl (va_Nw.of rfl w_1) w_2 (by decide +kernel) ⟨Nat.le_of_ble_eq_true rfl, Nat.le_of_ble_eq_true rfl⟩, w_3, trivial⟩ rfl rfl (Nat.le_of_ble_eq_true rfl) dX8_copyFrom_40 ⟨Nat.le_of_ble_eq_true rfl, Nat.le_of_ble_eq_true rfl⟩ (fun H locs hPz96 hW hS => ?_)
  refine W.eq (g2 := F0 m 43 ls []) rfl ?_
  refine lv_aload_n hx hb dX8_copyFrom_43 rfl (lv_at hl 0 rfl) ?_
  refine lv_aload_n hx hb dX8_copyFrom_44 rfl (lv_at hl 1 rfl) ?_
  refine x_geti 705 (ci := 7) (C := RX8) (T := TX8) (N := 16) 5 hC hinX8 hW tp1 rfl rfl ⟨by decide, by decide, rfl, rfl⟩ rfl w_14 dX8_copyFrom_45 ?_
  refine x_puti 705 (ci := 7) (C := RX8) (T := TX8) (N := 16) (v := si S97 705 p1) (ty := .int) 5 hC hinX8 tyX8_ok nmX8 hW hS tp0 rfl rfl ⟨by decide, by decide, rfl, rfl⟩ rfl w_14 rfl (by decide +kernel) rfl rfl dX8_copyFrom_48 (fun S100 H locs eS100 hW hS => ?_)
  replace hf := ltE hf S100 eS100
  refine lv_iconst (v := 0) hx hb dX8_copyFrom_51 (by decide) ?_
  refine lv_istore_n (lv' := [(2, .int 0), (0, .ref (ad p0)), (1, .ref (ad p1))]) hx hb dX8_copyFrom_52 rfl hl (by decide) rfl (fun ls hl => ?_)
  exact L53 F S100 p0 p1 0 tp0 tp1 _ _ _ hf hW hS (lv_sub hl [1, 2, 0] rfl)
set_option maxHeartbeats 4000000 in
set_option maxRecDepth 100000 in
theorem c_X10_remember (l : Launch) (g : GP) (ad : Nat → Nat) (n : Nat) (K : Nat → Nat) (sz F : Nat) (S0 : St) (p0 : Nat) (tp0 : p0 < n ∧ K p0 = 9) (S9 : St) (hf : f_X10_remember F S0 p0 = some S9) : Met l yX10_remember wsX10_remember { frames := 4, cells := 0, slots := 0, locals := 105 } (va_Pc [.ref (ad p0)] (PB g ad n K S0 sz)) (QR none (QB g ad n K S9 (dA ad n sz) (True)) (dA ad n sz)) 0 0 (dA ad n sz) := by
  refine Met.ofW (cc := cX10_remember) (maxL := 2) (ret := none) (by decide) rfl ?_
  intro p e s m args below meth c s₁ B hml hv
  obtain ⟨rfl, hsz, hW, hK, hGs⟩ := x_start hv
  subst hsz
  have hx := B.exec
  have hb := B.bytes
  have hr := B.returns
  have hts := atoms_spec (ws := wsX10_remember) B.pre
  have hown : s.vm.findClass RX10 = some m.cls := findClass_of_methodNamed B.named
  have hlk := B.notSynchronized
  have hC : Cx g p s m _ c cX10_remember RX10 wsX10_remember 2 := ⟨hx, hb, hml, hown, hts, hK⟩
  have hA : ∀ q : Nat, s.heap.size ≤ q → dA ad n s.heap.size q := fun q h => Or.inr h
  have hS : va_S (dA ad n s.heap.size) s.heap s.heap [] := va_S.rf
  have hl := lv_entry ([.ref (ad p0)]) (n := 2) (Nat.le_of_ble_eq_true rfl)
  rw [lg_entry_eq]
  generalize (lg_sl ([.ref (ad p0)]) ++ List.replicate (2 - (lg_sl ([.ref (ad p0)])).length) Slot.unset).toArray = ls at hl ⊢
  have hl : lv_has ls 2 [(0, .ref (ad p0))] := hl
  have hinX10 : ∀ w ∈ wsX100, w ∈ wsX10_remember := by decide +kernel
  have w_0 := hts (.fieldLink RX10 402 "MailSpool" "pastSize" "I") (by decide +kernel)
  have w_1 := hts (.fieldLink RX10 42 "MailSpool" "now" "LMailSpool$Spool;") (by decide +kernel)
  have w_2 := hts (.fieldLink RX10 437 "MailSpool" "firstPast" "I") (by decide +kernel)
  have hGE := hGs.2.2.2.1
  have hGM := hGs.2.2.2.2
  have L32 : ∀ (S0 : St) (v0 : Nat) (tv0 : v0 < n ∧ K v0 = 9) (H : Heap) (locs : List Loc) (ls : Array Slot), f_X10_remember_L32 F S0 v0 = some S9 → Wb g ad n K S0 (dA ad n s.heap.size) H → va_S (dA ad n s.heap.size) s.heap H locs → lv_has ls 2 [(0, .ref (ad v0))] → W p l e (headSpec wsX10_remember { frames := 4, cells := 0, slots := 0, locals := 105 }).room s m (List.toArray [.ref (ad p0)]) below meth c H locs 0 0 (MQ below (QR none (QB g ad n K S9 (dA ad n s.heap.size) (True)) (dA ad n s.heap.size)) (List.toArray [.ref (ad p0)]) s 0 0 (dA ad n s.heap.size)) (F0 m 32 ls []) := by
    intro S0 v0 tv0 H locs ls hf hW hS hl
    unfold f_X10_remember_L32 at hf
    refine lv_aload_n hx hb dX10_remember_32 rfl (lv_at hl 0 rfl) ?_
    refine lv_aload_n hx hb dX10_remember_33 rfl (lv_at hl 0 rfl) ?_
    refine x_geti 909 (ci := 9) (C := RX10) (T := TX10) (N := 11) 9 hC hinX10 hW tv0 rfl rfl ⟨by decide, by decide, rfl, rfl⟩ rfl w_0 dX10_remember_34 ?_
    replace hf := obE hf
    obtain ⟨z12, hz12, hf⟩ := hf
    obtain ⟨r14, S13⟩ := z12
    replace hf := ltE (ltE hf r14 rfl) S13 rfl
    refine x_callV (As := [.int (si S0 909 v0)]) (rest := []) (o := (some (va_re ad r14))) (S1 := S13) hC hl.1 hW hS hGs hA tv0 rfl (show vwCl[9]? = some (RX10, TX10, 11) ∧ ob 9 from ⟨rfl, by decide⟩) (c_X10_pastAt l g ad n K H.size F S0 v0 (si S0 909 v0) tv0 r14 S13 hz12) (cwV 1 hts gX10_remember_X10_pastAt rfl rfl rfl (by decide +kernel) ⟨Nat.le_of_ble_eq_true rfl, Nat.le_of_ble_eq_true rfl⟩) rfl rfl (Nat.le_of_ble_eq_true rfl) dX10_remember_37 ⟨Nat.le_of_ble_eq_true rfl, Nat.le_of_ble_eq_true rfl⟩ (fun H locs hPz12 hW hS => ?_)
    cases r14 with
    | none =>
      replace hf := osN rfl hf
      refine W.eq (g2 := F0 m 40 ls [.null]) rfl ?_
      refine lv_astore_nN (lv' := [(1, .null), (0, .ref (ad v0))]) hx hb dX10_remember_40 rfl hl (by decide) rfl (fun ls hl => ?_)
      refine lv_aload_nN hx hb dX10_remember_41 rfl (lv_at hl 0 rfl) ?_
      refine lv_ifnullN (tgt := 63) hx hb dX10_remember_42 (by decide) ?_
      have e1 := Option.some.inj hf
      subst e1
      exact W.vret hx hb hr (fun t ht hWm => ⟨⟨rfl, by unfold QB; rw [ht]; exact ⟨hW, trivial⟩⟩, hS.F ht⟩) hS.2.2 dX10_remember_63 hlk
    | some j16 =>
      replace hf := osS rfl hf
      have tj16 := hPz12 j16 rfl
      refine W.eq (g2 := F0 m 40 ls [.ref (ad j16)]) rfl ?_
      refine lv_astore_n (lv' := [(1, .ref (ad j16)), (0, .ref (ad v0))]) hx hb dX10_remember_40 rfl hl (by decide) rfl (fun ls hl => ?_)
      refine lv_aload_n hx hb dX10_remember_41 rfl (lv_at hl 0 rfl) ?_
      refine lv_ifnull hx hb dX10_remember_42 ?_
      refine lv_aload_n hx hb dX10_remember_45 rfl (lv_at hl 0 rfl) ?_
      refine lv_aload_n hx hb dX10_remember_46 rfl (lv_at hl 1 rfl) ?_
      replace hf := obE hf
      obtain ⟨j17, qj17, hf⟩ := hf
      have tj17 := x_rt hW qj17 7 ⟨by decide, rfl⟩
      refine x_getr 905 (ci := 9) (C := RX10) (T := TX10) (N := 11) 5 hC hinX10 hW tv0 rfl rfl ⟨by decide, by decide, rfl, rfl⟩ rfl w_1 dX10_remember_47 qj17 ?_
      replace hf := obE hf
      obtain ⟨S19, hz18, hf⟩ := hf
      refine x_callV (As := [.ref (ad j17)]) (rest := []) (o := none) (S1 := S19) hC hl.1 hW hS hGs hA tj16 rfl (show vwCl[7]? = some (RX8, TX8, 16) ∧ ob 7 from ⟨rfl, by decide⟩) (c_X8_copyFrom l g ad n K H.size F S13 j16 j17 tj16 tj17 S19 hz18) (cwV 1 hts gX10_remember_X8_copyFrom rfl rfl rfl (by decide +kernel) ⟨Nat.le_of_ble_eq_true rfl, Nat.le_of_ble_eq_true rfl⟩) rfl rfl (Nat.le_of_ble_eq_true rfl) dX10_remember_50 ⟨Nat.le_of_ble_eq_true rfl, Nat.le_of_ble_eq_true rfl⟩ (fun H locs hPz18 hW hS => ?_)
      refine W.eq (g2 := F0 m 53 ls []) rfl ?_
      refine lv_aload_n hx hb dX10_remember_53 rfl (lv_at hl 1 rfl) ?_
      refine lv_dup hx hb dX10_remember_54 rfl ?_
      refine x_geti 909 (ci := 9) (C := RX10) (T := TX10) (N := 11) 9 hC hinX10 hW tv0 rfl rfl ⟨by decide, by decide, rfl, rfl⟩ rfl w_0 dX10_remember_55 ?_
      refine lv_iconst (v := 1) hx hb dX10_remember_58 (by decide) ?_
      refine lv_iadd hx hb dX10_remember_59 ?_
      refine x_puti 909 (ci := 9) (C := RX10) (T := TX10) (N := 11) (v := (si S19 909 v0) + 1) (ty := .int) 9 hC hinX10 tyX10_ok nmX10 hW hS tv0 rfl rfl ⟨by decide, by decide, rfl, rfl⟩ rfl w_0 rfl (by decide +kernel) rfl rfl dX10_remember_60 (fun S22 H locs eS22 hW hS => ?_)
      replace hf := ltE hf S22 eS22
      have e1 := Option.some.inj hf
      subst e1
      exact W.vret hx hb hr (fun t ht hWm => ⟨⟨rfl, by unfold QB; rw [ht]; exact ⟨hW, trivial⟩⟩, hS.F ht⟩) hS.2.2 dX10_remember_63 hlk
  unfold f_X10_remember at hf
  refine lv_aload_n hx hb dX10_remember_0 rfl (lv_at hl 0 rfl) ?_
  refine x_geti 909 (ci := 9) (C := RX10) (T := TX10) (N := 11) 9 hC hinX10 hW tp0 rfl rfl ⟨by decide, by decide, rfl, rfl⟩ rfl w_0 dX10_remember_1 ?_
  refine lv_bipush (v := 6) hx hb dX10_remember_4 (by decide) ?_
  refine lv_icmp_lt (tgt := 32) hx hb dX10_remember_6 (by decide) (fun c23 => ?_) (fun c23 => ?_)
  · replace hf := ifT c23 hf
    exact L32 S0 p0 tp0 _ _ _ hf hW hS (lv_sub hl [0] rfl)
  · replace hf := ifF c23 hf
    refine lv_aload_n hx hb dX10_remember_9 rfl (lv_at hl 0 rfl) ?_
    refine lv_aload_n hx hb dX10_remember_10 rfl (lv_at hl 0 rfl) ?_
    refine x_geti 908 (ci := 9) (C := RX10) (T := TX10) (N := 11) 8 hC hinX10 hW tp0 rfl rfl ⟨by decide, by decide, rfl, rfl⟩ rfl w_2 dX10_remember_11 ?_
    refine lv_iconst (v := 1) hx hb dX10_remember_14 (by decide) ?_
    refine lv_iadd hx hb dX10_remember_15 ?_
    refine lv_bipush (v := 6) hx hb dX10_remember_16 (by decide) ?_
    refine lv_irem hx hb dX10_remember_18 (by decide) ?_
    refine x_puti 908 (ci := 9) (C := RX10) (T := TX10) (N := 11) (v := ((si S0 908 p0) + 1) - ((si S0 908 p0) + 1) / 6 * 6) (ty := .int) 8 hC hinX10 tyX10_ok nmX10 hW hS tp0 rfl rfl ⟨by decide, by decide, rfl, rfl⟩ rfl w_2 rfl (by decide +kernel) rfl rfl dX10_remember_19 (fun S24 H locs eS24 hW hS => ?_)
    replace hf := ltE hf S24 eS24
    refine lv_aload_n hx hb dX10_remember_22 rfl (lv_at hl 0 rfl) ?_
    refine lv_dup hx hb dX10_remember_23 rfl ?_
    refine x_geti 909 (ci := 9) (C := RX10) (T := TX10) (N := 11) 9 hC hinX10 hW tp0 rfl rfl ⟨by decide, by decide, rfl, rfl⟩ rfl w_0 dX10_remember_24 ?_
    refine lv_iconst (v := 1) hx hb dX10_remember_27 (by decide) ?_
    refine lv_isub hx hb dX10_remember_28 ?_
    refine x_puti 909 (ci := 9) (C := RX10) (T := TX10) (N := 11) (v := (si S24 909 p0) - 1) (ty := .int) 9 hC hinX10 tyX10_ok nmX10 hW hS tp0 rfl rfl ⟨by decide, by decide, rfl, rfl⟩ rfl w_0 rfl (by decide +kernel) rfl rfl dX10_remember_29 (fun S25 H locs eS25 hW hS => ?_)
    replace hf := ltE hf S25 eS25
    exact L32 S25 p0 tp0 _ _ _ hf hW hS (lv_sub hl [0] rfl)
set_option maxHeartbeats 4000000 in
set_option maxRecDepth 100000 in
theorem c_X7_allHolds (l : Launch) (g : GP) (ad : Nat → Nat) (n : Nat) (K : Nat → Nat) (sz F : Nat) (S0 : St) (p0 : Nat) (tp0 : p0 < n ∧ K p0 = 6) (r9 : Int32) (S9 : St) (hf : f_X7_allHolds F S0 p0 = some (r9, S9)) : Met l yX7_allHolds wsX7_allHolds { frames := 0, cells := 0, slots := 0, locals := 0 } (va_Pc [.ref (ad p0)] (PB g ad n K S0 sz)) (QR (some (.int r9)) (QB g ad n K S9 (dA ad n sz) (True)) (dA ad n sz)) 0 0 (dA ad n sz) := by
  refine Met.ofW (cc := cX7_allHolds) (maxL := 1) (ret := (some .int)) (by decide) rfl ?_
  intro p e s m args below meth c s₁ B hml hv
  obtain ⟨rfl, hsz, hW, hK, hGs⟩ := x_start hv
  subst hsz
  have hx := B.exec
  have hb := B.bytes
  have hr := B.returns
  have hts := atoms_spec (ws := wsX7_allHolds) B.pre
  have hown : s.vm.findClass RX7 = some m.cls := findClass_of_methodNamed B.named
  have hlk := B.notSynchronized
  have hC : Cx g p s m _ c cX7_allHolds RX7 wsX7_allHolds 1 := ⟨hx, hb, hml, hown, hts, hK⟩
  have hA : ∀ q : Nat, s.heap.size ≤ q → dA ad n s.heap.size q := fun q h => Or.inr h
  have hS : va_S (dA ad n s.heap.size) s.heap s.heap [] := va_S.rf
  have hl := lv_entry ([.ref (ad p0)]) (n := 1) (Nat.le_of_ble_eq_true rfl)
  rw [lg_entry_eq]
  generalize (lg_sl ([.ref (ad p0)]) ++ List.replicate (1 - (lg_sl ([.ref (ad p0)])).length) Slot.unset).toArray = ls at hl ⊢
  have hl : lv_has ls 1 [(0, .ref (ad p0))] := hl
  have hinX5 : ∀ w ∈ wsX50, w ∈ wsX7_allHolds := by decide +kernel
  have hinX7 : ∀ w ∈ wsX70, w ∈ wsX7_allHolds := by decide +kernel
  have w_0 := hts (.fieldLink RX7 49 "MailSpool$Rules" "holds" "LMailSpool$Names;") (by decide +kernel)
  have w_1 := va_Nw.use (A := (List.toArray [.ref (ad p0)])) rfl (hGs.1 (.fieldLinkNest RX7 73 "MailSpool$Names" "size" "I" "MailSpool") (by decide +kernel))
  have hGE := hGs.2.2.2.1
  have hGM := hGs.2.2.2.2
  unfold f_X7_allHolds at hf
  refine lv_iconst (v := 1) hx hb dX7_allHolds_0 (by decide) ?_
  refine lv_aload_n hx hb dX7_allHolds_1 rfl (lv_at hl 0 rfl) ?_
  replace hf := obE hf
  obtain ⟨j1, qj1, hf⟩ := hf
  have tj1 := x_rt hW qj1 4 ⟨by decide, rfl⟩
  refine x_getr 611 (ci := 6) (C := RX7) (T := TX7) (N := 16) 11 hC hinX7 hW tp0 rfl rfl ⟨by decide, by decide, rfl, rfl⟩ rfl w_0 dX7_allHolds_2 qj1 ?_
  refine x_getiN 401 (ci := 4) (C := RX5) (T := TX5) (N := 2) 1 hC hinX5 hW tj1 rfl rfl ⟨by decide, by decide, rfl, rfl⟩ rfl w_1 dX7_allHolds_5 ?_
  refine lv_ishl hx hb dX7_allHolds_8 ?_
  refine lv_iconst (v := 1) hx hb dX7_allHolds_9 (by decide) ?_
  refine lv_isub hx hb dX7_allHolds_10 ?_
  obtain ⟨e1, e2⟩ := so2 hf
  subst e1
  subst e2
  exact W.iret (v := (1 <<< ((si S0 401 j1) &&& 31)) - 1) hx hb hr (fun t ht hWm => ⟨⟨rfl, by unfold QB; rw [ht]; exact ⟨hW, trivial⟩⟩, hS.F ht⟩) hS.2.2 dX7_allHolds_11 hlk
set_option maxHeartbeats 4000000 in
set_option maxRecDepth 100000 in
theorem c_X9_clear (l : Launch) (g : GP) (ad : Nat → Nat) (n : Nat) (K : Nat → Nat) (sz F : Nat) (S0 : St) (p0 : Nat) (tp0 : p0 < n ∧ K p0 = 8) (S9 : St) (hf : f_X9_clear F S0 p0 = some S9) : Met l yX9_clear wsX9_clear { frames := 0, cells := 0, slots := 0, locals := 0 } (va_Pc [.ref (ad p0)] (PB g ad n K S0 sz)) (QR none (QB g ad n K S9 (dA ad n sz) (True)) (dA ad n sz)) 0 0 (dA ad n sz) := by
  refine Met.ofW (cc := cX9_clear) (maxL := 1) (ret := none) (by decide) rfl ?_
  intro p e s m args below meth c s₁ B hml hv
  obtain ⟨rfl, hsz, hW, hK, hGs⟩ := x_start hv
  subst hsz
  have hx := B.exec
  have hb := B.bytes
  have hr := B.returns
  have hts := atoms_spec (ws := wsX9_clear) B.pre
  have hown : s.vm.findClass RX9 = some m.cls := findClass_of_methodNamed B.named
  have hlk := B.notSynchronized
  have hC : Cx g p s m _ c cX9_clear RX9 wsX9_clear 1 := ⟨hx, hb, hml, hown, hts, hK⟩
  have hA : ∀ q : Nat, s.heap.size ≤ q → dA ad n s.heap.size q := fun q h => Or.inr h
  have hS : va_S (dA ad n s.heap.size) s.heap s.heap [] := va_S.rf
  have hl := lv_entry ([.ref (ad p0)]) (n := 1) (Nat.le_of_ble_eq_true rfl)
  rw [lg_entry_eq]
  generalize (lg_sl ([.ref (ad p0)]) ++ List.replicate (1 - (lg_sl ([.ref (ad p0)])).length) Slot.unset).toArray = ls at hl ⊢
  have hl : lv_has ls 1 [(0, .ref (ad p0))] := hl
  have hinX9 : ∀ w ∈ wsX90, w ∈ wsX9_clear := by decide +kernel
  have w_0 := hts (.fieldLink RX9 34 "MailSpool$Store" "numbers" "I") (by decide +kernel)
  have w_1 := hts (.fieldLink RX9 38 "MailSpool$Store" "stored" "I") (by decide +kernel)
  have w_2 := hts (.fieldLink RX9 41 "MailSpool$Store" "dead" "I") (by decide +kernel)
  have hGE := hGs.2.2.2.1
  have hGM := hGs.2.2.2.2
  unfold f_X9_clear at hf
  refine lv_aload_n hx hb dX9_clear_0 rfl (lv_at hl 0 rfl) ?_
  refine lv_iconst (v := 0) hx hb dX9_clear_1 (by decide) ?_
  refine x_puti 800 (ci := 8) (C := RX9) (T := TX9) (N := 8) (v := 0) (ty := .int) 0 hC hinX9 tyX9_ok nmX9 hW hS tp0 rfl rfl ⟨by decide, by decide, rfl, rfl⟩ rfl w_0 rfl (by decide +kernel) rfl rfl dX9_clear_2 (fun S1 H locs eS1 hW hS => ?_)
  replace hf := ltE hf S1 eS1
  refine lv_aload_n hx hb dX9_clear_5 rfl (lv_at hl 0 rfl) ?_
  refine lv_iconst (v := 0) hx hb dX9_clear_6 (by decide) ?_
  refine x_puti 801 (ci := 8) (C := RX9) (T := TX9) (N := 8) (v := 0) (ty := .int) 1 hC hinX9 tyX9_ok nmX9 hW hS tp0 rfl rfl ⟨by decide, by decide, rfl, rfl⟩ rfl w_1 rfl (by decide +kernel) rfl rfl dX9_clear_7 (fun S2 H locs eS2 hW hS => ?_)
  replace hf := ltE hf S2 eS2
  refine lv_aload_n hx hb dX9_clear_10 rfl (lv_at hl 0 rfl) ?_
  refine lv_iconst (v := 0) hx hb dX9_clear_11 (by decide) ?_
  refine x_puti 802 (ci := 8) (C := RX9) (T := TX9) (N := 8) (v := 0) (ty := .int) 2 hC hinX9 tyX9_ok nmX9 hW hS tp0 rfl rfl ⟨by decide, by decide, rfl, rfl⟩ rfl w_2 rfl (by decide +kernel) rfl rfl dX9_clear_12 (fun S3 H locs eS3 hW hS => ?_)
  replace hf := ltE hf S3 eS3
  have e1 := Option.some.inj hf
  subst e1
  exact W.vret hx hb hr (fun t ht hWm => ⟨⟨rfl, by unfold QB; rw [ht]; exact ⟨hW, trivial⟩⟩, hS.F ht⟩) hS.2.2 dX9_clear_15 hlk
set_option maxHeartbeats 4000000 in
set_option maxRecDepth 100000 in
theorem c_X2_clear (l : Launch) (g : GP) (ad : Nat → Nat) (n : Nat) (K : Nat → Nat) (sz F : Nat) (S0 : St) (p0 : Nat) (tp0 : p0 < n ∧ K p0 = 2) (S9 : St) (hf : f_X2_clear F S0 p0 = some S9) : Met l yX2_clear wsX2_clear { frames := 0, cells := 0, slots := 0, locals := 0 } (va_Pc [.ref (ad p0)] (PB g ad n K S0 sz)) (QR none (QB g ad n K S9 (dA ad n sz) (True)) (dA ad n sz)) 0 0 (dA ad n sz) := by
  refine Met.ofW (cc := cX2_clear) (maxL := 1) (ret := none) (by decide) rfl ?_
  intro p e s m args below meth c s₁ B hml hv
  obtain ⟨rfl, hsz, hW, hK, hGs⟩ := x_start hv
  subst hsz
  have hx := B.exec
  have hb := B.bytes
  have hr := B.returns
  have hts := atoms_spec (ws := wsX2_clear) B.pre
  have hown : s.vm.findClass RX2 = some m.cls := findClass_of_methodNamed B.named
  have hlk := B.notSynchronized
  have hC : Cx g p s m _ c cX2_clear RX2 wsX2_clear 1 := ⟨hx, hb, hml, hown, hts, hK⟩
  have hA : ∀ q : Nat, s.heap.size ≤ q → dA ad n s.heap.size q := fun q h => Or.inr h
  have hS : va_S (dA ad n s.heap.size) s.heap s.heap [] := va_S.rf
  have hl := lv_entry ([.ref (ad p0)]) (n := 1) (Nat.le_of_ble_eq_true rfl)
  rw [lg_entry_eq]
  generalize (lg_sl ([.ref (ad p0)]) ++ List.replicate (1 - (lg_sl ([.ref (ad p0)])).length) Slot.unset).toArray = ls at hl ⊢
  have hl : lv_has ls 1 [(0, .ref (ad p0))] := hl
  have hinX2 : ∀ w ∈ wsX20, w ∈ wsX2_clear := by decide +kernel
  have w_0 := hts (.fieldLink RX2 21 "MailSpool$Journal" "first" "I") (by decide +kernel)
  have w_1 := hts (.fieldLink RX2 25 "MailSpool$Journal" "size" "I") (by decide +kernel)
  have hGE := hGs.2.2.2.1
  have hGM := hGs.2.2.2.2
  unfold f_X2_clear at hf
  refine lv_aload_n hx hb dX2_clear_0 rfl (lv_at hl 0 rfl) ?_
  refine lv_iconst (v := 0) hx hb dX2_clear_1 (by decide) ?_
  refine x_puti 203 (ci := 2) (C := RX2) (T := TX2) (N := 5) (v := 0) (ty := .int) 3 hC hinX2 tyX2_ok nmX2 hW hS tp0 rfl rfl ⟨by decide, by decide, rfl, rfl⟩ rfl w_0 rfl (by decide +kernel) rfl rfl dX2_clear_2 (fun S1 H locs eS1 hW hS => ?_)
  replace hf := ltE hf S1 eS1
  refine lv_aload_n hx hb dX2_clear_5 rfl (lv_at hl 0 rfl) ?_
  refine lv_iconst (v := 0) hx hb dX2_clear_6 (by decide) ?_
  refine x_puti 204 (ci := 2) (C := RX2) (T := TX2) (N := 5) (v := 0) (ty := .int) 4 hC hinX2 tyX2_ok nmX2 hW hS tp0 rfl rfl ⟨by decide, by decide, rfl, rfl⟩ rfl w_1 rfl (by decide +kernel) rfl rfl dX2_clear_7 (fun S2 H locs eS2 hW hS => ?_)
  replace hf := ltE hf S2 eS2
  have e1 := Option.some.inj hf
  subst e1
  exact W.vret hx hb hr (fun t ht hWm => ⟨⟨rfl, by unfold QB; rw [ht]; exact ⟨hW, trivial⟩⟩, hS.F ht⟩) hS.2.2 dX2_clear_10 hlk
set_option maxHeartbeats 4000000 in
set_option maxRecDepth 100000 in
theorem c_X8_startWith (l : Launch) (g : GP) (ad : Nat → Nat) (n : Nat) (K : Nat → Nat) (sz F : Nat) (S0 : St) (p0 : Nat) (p1 : Nat) (tp0 : p0 < n ∧ K p0 = 7) (tp1 : p1 < n ∧ K p1 = 6) (S9 : St) (hf : f_X8_startWith F S0 p0 p1 = some S9) : Met l yX8_startWith wsX8_startWith { frames := 2, cells := 0, slots := 0, locals := 61 } (va_Pc [.ref (ad p0), .ref (ad p1)] (PB g ad n K S0 sz)) (QR none (QB g ad n K S9 (dA ad n sz) (True)) (dA ad n sz)) 0 0 (dA ad n sz) := by
  refine Met.ofW (cc := cX8_startWith) (maxL := 2) (ret := none) (by decide) rfl ?_
  intro p e s m args below meth c s₁ B hml hv
  obtain ⟨rfl, hsz, hW, hK, hGs⟩ := x_start hv
  subst hsz
  have hx := B.exec
  have hb := B.bytes
  have hr := B.returns
  have hts := atoms_spec (ws := wsX8_startWith) B.pre
  have hown : s.vm.findClass RX8 = some m.cls := findClass_of_methodNamed B.named
  have hlk := B.notSynchronized
  have hC : Cx g p s m _ c cX8_startWith RX8 wsX8_startWith 2 := ⟨hx, hb, hml, hown, hts, hK⟩
  have hA : ∀ q : Nat, s.heap.size ≤ q → dA ad n s.heap.size q := fun q h => Or.inr h
  have hS : va_S (dA ad n s.heap.size) s.heap s.heap [] := va_S.rf
  have hl := lv_entry ([.ref (ad p0), .ref (ad p1)]) (n := 2) (Nat.le_of_ble_eq_true rfl)
  rw [lg_entry_eq]
  generalize (lg_sl ([.ref (ad p0), .ref (ad p1)]) ++ List.replicate (2 - (lg_sl ([.ref (ad p0), .ref (ad p1)])).length) Slot.unset).toArray = ls at hl ⊢
  have hl : lv_has ls 2 [(0, .ref (ad p0)), (1, .ref (ad p1))] := hl
  have hinX7 : ∀ w ∈ wsX70, w ∈ wsX8_startWith := by decide +kernel
  have hinX8 : ∀ w ∈ wsX80, w ∈ wsX8_startWith := by decide +kernel
  have w_0 := hts (.fieldLink RX8 9 "MailSpool$Spool" "rules" "LMailSpool$Rules;") (by decide +kernel)
  have w_1 := hts (.fieldLink RX8 66 "MailSpool$Spool" "day" "I") (by decide +kernel)
  have w_2 := hts (.fieldLink RX8 69 "MailSpool$Spool" "bouncedUsers" "I") (by decide +kernel)
  have w_3 := hts (.fieldLink RX8 78 "MailSpool$Spool" "activeHolds" "I") (by decide +kernel)
  have w_4 := va_Nw.use (A := (List.toArray [.ref (ad p0), .ref (ad p1)])) rfl (hGs.1 (.fieldLinkNest RX8 81 "MailSpool$Rules" "userQuota" "[I" "MailSpool") (by decide +kernel))
  have w_5 := hts (.fieldLink RX8 15 "MailSpool$Spool" "quotas" "[I") (by decide +kernel)
  have w_6 := va_Nw.use (A := (List.toArray [.ref (ad p0), .ref (ad p1)])) rfl (hGs.1 (.methodLinkNest RX8 84 yX10_copyRow "MailSpool") (by decide +kernel))
  have w_7 := hts (.initialized RX10) (by decide +kernel)
  have w_8 := hts (.static yX10_copyRow) (by decide +kernel)
  have w_9 := hts (.fieldLink RX8 88 "MailSpool$Spool" "messageCount" "I") (by decide +kernel)
  have w_10 := hts (.fieldLink RX8 37 "MailSpool$Spool" "store" "LMailSpool$Store;") (by decide +kernel)
  have w_11 := hts (.fieldLink RX8 44 "MailSpool$Spool" "journal" "LMailSpool$Journal;") (by decide +kernel)
  have hGE := hGs.2.2.2.1
  have hGM := hGs.2.2.2.2
  unfold f_X8_startWith at hf
  refine lv_aload_n hx hb dX8_startWith_0 rfl (lv_at hl 0 rfl) ?_
  refine lv_aload_n hx hb dX8_startWith_1 rfl (lv_at hl 1 rfl) ?_
  refine x_putr 700 (ci := 7) (C := RX8) (T := TX8) (N := 16) (ty := (.object "MailSpool$Rules")) 0 hC hinX8 tyX8_ok nmX8 hW hS tp0 rfl tp1 rfl rfl rfl ⟨by decide, by decide, rfl, rfl⟩ rfl w_0 rfl (by decide +kernel) rfl rfl dX8_startWith_2 (fun S1 H locs eS1 hW hS => ?_)
  replace hf := ltE hf S1 eS1
  refine lv_aload_n hx hb dX8_startWith_5 rfl (lv_at hl 0 rfl) ?_
  refine lv_iconst (v := 0) hx hb dX8_startWith_6 (by decide) ?_
  refine x_puti 701 (ci := 7) (C := RX8) (T := TX8) (N := 16) (v := 0) (ty := .int) 1 hC hinX8 tyX8_ok nmX8 hW hS tp0 rfl rfl ⟨by decide, by decide, rfl, rfl⟩ rfl w_1 rfl (by decide +kernel) rfl rfl dX8_startWith_7 (fun S2 H locs eS2 hW hS => ?_)
  replace hf := ltE hf S2 eS2
  refine lv_aload_n hx hb dX8_startWith_10 rfl (lv_at hl 0 rfl) ?_
  refine lv_iconst (v := 0) hx hb dX8_startWith_11 (by decide) ?_
  refine x_puti 702 (ci := 7) (C := RX8) (T := TX8) (N := 16) (v := 0) (ty := .int) 2 hC hinX8 tyX8_ok nmX8 hW hS tp0 rfl rfl ⟨by decide, by decide, rfl, rfl⟩ rfl w_2 rfl (by decide +kernel) rfl rfl dX8_startWith_12 (fun S3 H locs eS3 hW hS => ?_)
  replace hf := ltE hf S3 eS3
  refine lv_aload_n hx hb dX8_startWith_15 rfl (lv_at hl 0 rfl) ?_
  refine lv_aload_n hx hb dX8_startWith_16 rfl (lv_at hl 1 rfl) ?_
  replace hf := obE hf
  obtain ⟨z4, hz4, hf⟩ := hf
  obtain ⟨r6, S5⟩ := z4
  replace hf := ltE (ltE hf r6 rfl) S5 rfl
  refine x_callV (As := []) (rest := [.ref (ad p0)]) (o := (some (.int r6))) (S1 := S5) hC hl.1 hW hS hGs hA tp1 rfl (show vwCl[6]? = some (RX7, TX7, 16) ∧ ob 6 from ⟨rfl, by decide⟩) (c_X7_allHolds l g ad n K H.size F S3 p1 tp1 r6 S5 hz4) (cwV 0 hts gX8_startWith_X7_allHolds rfl rfl rfl (by decide +kernel) ⟨Nat.le_of_ble_eq_true rfl, Nat.le_of_ble_eq_true rfl⟩) rfl rfl (Nat.le_of_ble_eq_true rfl) dX8_startWith_17 ⟨Nat.le_of_ble_eq_true rfl, Nat.le_of_ble_eq_true rfl⟩ (fun H locs hPz4 hW hS => ?_)
  refine W.eq (g2 := F0 m 20 ls [.int r6, .ref (ad p0)]) rfl ?_
  refine x_puti 703 (ci := 7) (C := RX8) (T := TX8) (N := 16) (v := r6) (ty := .int) 3 hC hinX8 tyX8_ok nmX8 hW hS tp0 rfl rfl ⟨by decide, by decide, rfl, rfl⟩ rfl w_3 rfl (by decide +kernel) rfl rfl dX8_startWith_20 (fun S8 H locs eS8 hW hS => ?_)
  replace hf := ltE hf S8 eS8
  refine lv_aload_n hx hb dX8_startWith_23 rfl (lv_at hl 1 rfl) ?_
  replace hf := obE hf
  obtain ⟨j9, qj9, hf⟩ := hf
  have tj9 := x_rt hW qj9 12 ⟨by decide, rfl⟩
  refine x_getrN 608 (ci := 6) (C := RX7) (T := TX7) (N := 16) 8 hC hinX7 hW tp1 rfl rfl ⟨by decide, by decide, rfl, rfl⟩ rfl w_4 dX8_startWith_24 qj9 ?_
  refine lv_aload_n hx hb dX8_startWith_27 rfl (lv_at hl 0 rfl) ?_
  replace hf := obE hf
  obtain ⟨j10, qj10, hf⟩ := hf
  have tj10 := x_rt hW qj10 12 ⟨by decide, rfl⟩
  refine x_getr 704 (ci := 7) (C := RX8) (T := TX8) (N := 16) 4 hC hinX8 hW tp0 rfl rfl ⟨by decide, by decide, rfl, rfl⟩ rfl w_5 dX8_startWith_28 qj10 ?_
  replace hf := obE hf
  obtain ⟨S12, hz11, hf⟩ := hf
  refine x_callSN (As := [.ref (ad j9), .ref (ad j10)]) (rest := []) (o := none) (S1 := S12) hC hl.1 hW hS hGs hA (c_X10_copyRow l g ad n K H.size F S8 j9 j10 tj9 tj10 S12 hz11) ⟨va_cnB 2 hts gX8_startWith_X10_copyRow_n84 rfl rfl rfl (va_Nw.of rfl w_6) w_7 (by decide +kernel) ⟨Nat.le_of_ble_eq_true rfl, Nat.le_of_ble_eq_true rfl⟩, w_8, trivial⟩ rfl rfl (Nat.le_of_ble_eq_true rfl) dX8_startWith_31 ⟨Nat.le_of_ble_eq_true rfl, Nat.le_of_ble_eq_true rfl⟩ (fun H locs hPz11 hW hS => ?_)
  refine W.eq (g2 := F0 m 34 ls []) rfl ?_
  refine lv_aload_n hx hb dX8_startWith_34 rfl (lv_at hl 0 rfl) ?_
  refine lv_iconst (v := 0) hx hb dX8_startWith_35 (by decide) ?_
  refine x_puti 705 (ci := 7) (C := RX8) (T := TX8) (N := 16) (v := 0) (ty := .int) 5 hC hinX8 tyX8_ok nmX8 hW hS tp0 rfl rfl ⟨by decide, by decide, rfl, rfl⟩ rfl w_9 rfl (by decide +kernel) rfl rfl dX8_startWith_36 (fun S15 H locs eS15 hW hS => ?_)
  replace hf := ltE hf S15 eS15
  refine lv_aload_n hx hb dX8_startWith_39 rfl (lv_at hl 0 rfl) ?_
  replace hf := obE hf
  obtain ⟨j16, qj16, hf⟩ := hf
  have tj16 := x_rt hW qj16 8 ⟨by decide, rfl⟩
  refine x_getr 710 (ci := 7) (C := RX8) (T := TX8) (N := 16) 10 hC hinX8 hW tp0 rfl rfl ⟨by decide, by decide, rfl, rfl⟩ rfl w_10 dX8_startWith_40 qj16 ?_
  replace hf := obE hf
  obtain ⟨S18, hz17, hf⟩ := hf
  refine x_callV (As := []) (rest := []) (o := none) (S1 := S18) hC hl.1 hW hS hGs hA tj16 rfl (show vwCl[8]? = some (RX9, TX9, 8) ∧ ob 8 from ⟨rfl, by decide⟩) (c_X9_clear l g ad n K H.size F S15 j16 tj16 S18 hz17) (cwV 0 hts gX8_startWith_X9_clear rfl rfl rfl (by decide +kernel) ⟨Nat.le_of_ble_eq_true rfl, Nat.le_of_ble_eq_true rfl⟩) rfl rfl (Nat.le_of_ble_eq_true rfl) dX8_startWith_43 ⟨Nat.le_of_ble_eq_true rfl, Nat.le_of_ble_eq_true rfl⟩ (fun H locs hPz17 hW hS => ?_)
  refine W.eq (g2 := F0 m 46 ls []) rfl ?_
  refine lv_aload_n hx hb dX8_startWith_46 rfl (lv_at hl 0 rfl) ?_
  replace hf := obE hf
  obtain ⟨j21, qj21, hf⟩ := hf
  have tj21 := x_rt hW qj21 2 ⟨by decide, rfl⟩
  refine x_getr 711 (ci := 7) (C := RX8) (T := TX8) (N := 16) 11 hC hinX8 hW tp0 rfl rfl ⟨by decide, by decide, rfl, rfl⟩ rfl w_11 dX8_startWith_47 qj21 ?_
  replace hf := obE hf
  obtain ⟨S23, hz22, hf⟩ := hf
  refine x_callV (As := []) (rest := []) (o := none) (S1 := S23) hC hl.1 hW hS hGs hA tj21 rfl (show vwCl[2]? = some (RX2, TX2, 5) ∧ ob 2 from ⟨rfl, by decide⟩) (c_X2_clear l g ad n K H.size F S18 j21 tj21 S23 hz22) (cwV 0 hts gX8_startWith_X2_clear rfl rfl rfl (by decide +kernel) ⟨Nat.le_of_ble_eq_true rfl, Nat.le_of_ble_eq_true rfl⟩) rfl rfl (Nat.le_of_ble_eq_true rfl) dX8_startWith_50 ⟨Nat.le_of_ble_eq_true rfl, Nat.le_of_ble_eq_true rfl⟩ (fun H locs hPz22 hW hS => ?_)
  refine W.eq (g2 := F0 m 53 ls []) rfl ?_
  have e1 := Option.some.inj hf
  subst e1
  exact W.vret hx hb hr (fun t ht hWm => ⟨⟨rfl, by unfold QB; rw [ht]; exact ⟨hW, trivial⟩⟩, hS.F ht⟩) hS.2.2 dX8_startWith_53 hlk
set_option maxHeartbeats 4000000 in
set_option maxRecDepth 100000 in
theorem c_X10_load (l : Launch) (g : GP) (ad : Nat → Nat) (n : Nat) (K : Nat → Nat) (sz F : Nat) (S0 : St) (p0 : Nat) (tp0 : p0 < n ∧ K p0 = 9) (r9 : Int32) (S9 : St) (n9 : Nat) (hf : f_X10_load F S0 n p0 = some (r9, S9, n9)) : Met l yX10_load wsX10_load { frames := 6, cells := 20, slots := 148, locals := 140 } (va_Pc [.ref (ad p0)] (PB g ad n K S0 sz)) (QA ad K n (fun _ => (some (.int r9))) g n9 S9 (dA ad n sz) (fun _ => True)) 20 148 (dA ad n sz) := by
  refine Met.ofW (cc := cX10_load) (maxL := 3) (ret := (some .int)) (by decide) rfl ?_
  intro p e s m args below meth c s₁ B hml hv
  obtain ⟨rfl, hsz, hW, hK, hGs⟩ := x_start hv
  subst hsz
  have hx := B.exec
  have hb := B.bytes
  have hr := B.returns
  have hts := atoms_spec (ws := wsX10_load) B.pre
  have hown : s.vm.findClass RX10 = some m.cls := findClass_of_methodNamed B.named
  have hlk := B.notSynchronized
  have hC : Cx g p s m _ c cX10_load RX10 wsX10_load 3 := ⟨hx, hb, hml, hown, hts, hK⟩
  have hA : ∀ q : Nat, s.heap.size ≤ q → dA ad n s.heap.size q := fun q h => Or.inr h
  have hS : va_S (dA ad n s.heap.size) s.heap s.heap [] := va_S.rf
  have hl := lv_entry ([.ref (ad p0)]) (n := 3) (Nat.le_of_ble_eq_true rfl)
  rw [lg_entry_eq]
  generalize (lg_sl ([.ref (ad p0)]) ++ List.replicate (3 - (lg_sl ([.ref (ad p0)])).length) Slot.unset).toArray = ls at hl ⊢
  have hl : lv_has ls 3 [(0, .ref (ad p0))] := hl
  have hinX10 : ∀ w ∈ wsX100, w ∈ wsX10_load := by decide +kernel
  have hinX5 : ∀ w ∈ wsX50, w ∈ wsX10_load := by decide +kernel
  have hinX6 : ∀ w ∈ wsX60, w ∈ wsX10_load := by decide +kernel
  have hinX7 : ∀ w ∈ wsX70, w ∈ wsX10_load := by decide +kernel
  have hinX8 : ∀ w ∈ wsX80, w ∈ wsX10_load := by decide +kernel
  have w_0 := hts (.classLink RX10 78 RX6) (by decide +kernel)
  have w_1 := hts (.instantiable RX6 10) (by decide +kernel)
  have w_2 := hts (.initialized RX6) (by decide +kernel)
  have w_3 := hts (.fieldLink RX10 17 "MailSpool" "input" "LMailSpool$Bytes;") (by decide +kernel)
  have w_4 := hts (.methodLink RX10 80 yX6_init) (by decide +kernel)
  have w_5 := hts (.instanceMethod yX6_init) (by decide +kernel)
  have w_6 := va_Nw.use (A := (List.toArray [.ref (ad p0)])) rfl (hGs.1 (.fieldLinkNest RX10 85 "MailSpool$Parser" "errorCode" "I" "MailSpool") (by decide +kernel))
  have w_7 := hts (.fieldLink RX10 88 "MailSpool" "parseCode" "I") (by decide +kernel)
  have w_8 := va_Nw.use (A := (List.toArray [.ref (ad p0)])) rfl (hGs.1 (.fieldLinkNest RX10 91 "MailSpool$Parser" "errorPosition" "I" "MailSpool") (by decide +kernel))
  have w_9 := hts (.fieldLink RX10 33 "MailSpool" "parsePosition" "I") (by decide +kernel)
  have w_10 := hts (.fieldLink RX10 42 "MailSpool" "now" "LMailSpool$Spool;") (by decide +kernel)
  have w_11 := va_Nw.use (A := (List.toArray [.ref (ad p0)])) rfl (hGs.1 (.fieldLinkNest RX10 97 "MailSpool$Parser" "rules" "LMailSpool$Rules;" "MailSpool") (by decide +kernel))
  have w_12 := va_Nw.use (A := (List.toArray [.ref (ad p0)])) rfl (hGs.1 (.fieldLinkNest RX10 104 "MailSpool$Spool" "rules" "LMailSpool$Rules;" "MailSpool") (by decide +kernel))
  have w_13 := va_Nw.use (A := (List.toArray [.ref (ad p0)])) rfl (hGs.1 (.fieldLinkNest RX10 105 "MailSpool$Rules" "users" "LMailSpool$Names;" "MailSpool") (by decide +kernel))
  have w_14 := va_Nw.use (A := (List.toArray [.ref (ad p0)])) rfl (hGs.1 (.fieldLinkNest RX10 109 "MailSpool$Names" "size" "I" "MailSpool") (by decide +kernel))
  have hGE := hGs.2.2.2.1
  have hGM := hGs.2.2.2.2
  unfold f_X10_load at hf
  refine x_new (ci := 5) (C := RX6) (T := TX6) (N := 10) hC hinX6 tyX6_ok hW hS hA ⟨rfl, by decide, by decide⟩ (by decide +kernel) w_0 w_1 w_2 (Nat.le_of_ble_eq_true rfl) (Nat.le_of_ble_eq_true rfl) dX10_load_0 (fun q1 ad2 K3 S4 H eS4 hag6 eqq1 ekq1 hW hS => ?_)
  replace hf := ltE hf S4 eS4
  obtain ⟨n5, en5⟩ : ∃ z, z = n + 1 := ⟨_, rfl⟩
  rw [← en5] at hag6 hW
  replace hf := ltE hf n5 en5
  have tq1 : n < n5 ∧ K3 n = 5 := ⟨by omega, ekq1⟩
  have g7 := hag6.t tp0
  have g8 := hag6.e tp0 rfl
  have ag9 := (Ag.rf).tr hag6
  refine W.widen (k := 1) (n := 10) (by omega) (by omega) ?_
  refine lv_dup hx hb dX10_load_3 rfl ?_
  refine lv_aload_n hx hb dX10_load_4 rfl (lv_at hl 0 rfl) ?_
  replace hf := obE hf
  obtain ⟨j10, qj10, hf⟩ := hf
  have tj10 := x_rt hW qj10 0 ⟨by decide, rfl⟩
  refine x_getr 900 (ci := 9) (C := RX10) (T := TX10) (N := 11) 0 hC hinX10 hW g7 g8 rfl ⟨by decide, by decide, rfl, rfl⟩ rfl w_3 dX10_load_5 qj10 ?_
  replace hf := obE hf
  obtain ⟨z11, hz11, hf⟩ := hf
  obtain ⟨S12, n14⟩ := z11
  replace hf := ltE (ltE hf S12 rfl) n14 rfl
  refine x_acallI (As := [.ref (ad2 j10)]) (rest := [.ref (q1)]) (S1 := S12) (n1 := n14) (o := (fun _ => none)) (P := (fun _ => True)) hC hl.1 hW hS hGs hA (c_X6_init l g ad2 n5 K3 H.size F S4 n j10 tq1 tj10 S12 n14 hz11) (cwI 1 hts gX10_load_X6_init rfl rfl rfl w_2 w_4 w_5 rfl (by decide +kernel) ⟨Nat.le_of_ble_eq_true rfl, Nat.le_of_ble_eq_true rfl⟩) rfl (by rw [eqq1] <;> rfl) (Nat.le_of_ble_eq_true rfl) dX10_load_8 ⟨(Nat.le_of_ble_eq_true rfl), (Nat.le_of_ble_eq_true rfl)⟩ (fun ad15 K16 H locs hag17 hPz11 hW hS => ?_)
  have g18 := hag17.t g7
  have g19 := hag17.e g7 g8
  have g20 := hag17.t tq1
  have g21 := hag17.e tq1 eqq1
  have ag22 := (ag9).tr hag17
  refine W.widen (k := 20) (n := 148) (by omega) (by omega) ?_
  refine W.eq (g2 := F0 m 11 ls [.ref (q1)]) rfl ?_
  refine lv_astore_n (lv' := [(1, .ref (q1)), (0, .ref (ad p0))]) hx hb dX10_load_11 rfl hl (by decide) rfl (fun ls hl => ?_)
  refine lv_aload_n hx hb dX10_load_12 rfl (lv_at hl 0 rfl) ?_
  replace hf := obE hf
  obtain ⟨z23, hz23, hf⟩ := hf
  obtain ⟨r25, S24⟩ := z23
  replace hf := ltE (ltE hf r25 rfl) S24 rfl
  refine x_callV (As := []) (rest := []) (o := (some (.int r25))) (S1 := S24) hC hl.1 hW hS hGs hA g20 rfl (show vwCl[5]? = some (RX6, TX6, 10) ∧ ob 5 from ⟨rfl, by decide⟩) (c_X6_parse l g ad15 n14 K16 H.size F S12 n g20 r25 S24 hz23) (cwV 0 hts gX10_load_X6_parse rfl rfl rfl (by decide +kernel) ⟨Nat.le_of_ble_eq_true rfl, Nat.le_of_ble_eq_true rfl⟩) rfl (by rw [g21] <;> rfl) (Nat.le_of_ble_eq_true rfl) dX10_load_13 ⟨Nat.le_of_ble_eq_true rfl, Nat.le_of_ble_eq_true rfl⟩ (fun H locs hPz23 hW hS => ?_)
  refine W.eq (g2 := F0 m 16 ls [.int r25]) rfl ?_
  refine lv_istore_n (lv' := [(2, .int r25), (1, .ref (q1)), (0, .ref (ad p0))]) hx hb dX10_load_16 rfl hl (by decide) rfl (fun ls hl => ?_)
  refine lv_aload_n hx hb dX10_load_17 rfl (lv_at hl 2 rfl) ?_
  replace hf := obE hf
  obtain ⟨j27, qj27, hf⟩ := hf
  have tj27 := x_rt hW qj27 0 ⟨by decide, rfl⟩
  refine x_getr 900 (ci := 9) (C := RX10) (T := TX10) (N := 11) 0 hC hinX10 hW g18 g19 rfl ⟨by decide, by decide, rfl, rfl⟩ rfl w_3 dX10_load_18 qj27 ?_
  refine lv_iconst (v := 0) hx hb dX10_load_21 (by decide) ?_
  replace hf := obE hf
  obtain ⟨S29, hz28, hf⟩ := hf
  refine x_callV (As := [.int 0]) (rest := []) (o := none) (S1 := S29) hC hl.1 hW hS hGs hA tj27 rfl (show vwCl[0]? = some (RX0, TX0, 2) ∧ ob 0 from ⟨rfl, by decide⟩) (c_X0_cutTo l g ad15 n14 K16 H.size F S24 j27 ((0 : Int32)) tj27 S29 hz28) (cwV 1 hts gX10_load_X0_cutTo rfl rfl rfl (by decide +kernel) ⟨Nat.le_of_ble_eq_true rfl, Nat.le_of_ble_eq_true rfl⟩) rfl rfl (Nat.le_of_ble_eq_true rfl) dX10_load_22 ⟨Nat.le_of_ble_eq_true rfl, Nat.le_of_ble_eq_true rfl⟩ (fun H locs hPz28 hW hS => ?_)
  refine W.eq (g2 := F0 m 25 ls []) rfl ?_
  refine lv_aload_n hx hb dX10_load_25 rfl (lv_at hl 2 rfl) ?_
  refine lv_aload_n hx hb dX10_load_26 rfl (lv_at hl 1 rfl) ?_
  refine x_getiN 502 (ci := 5) (C := RX6) (T := TX6) (N := 10) 2 hC hinX6 hW g20 g21 rfl ⟨by decide, by decide, rfl, rfl⟩ rfl w_6 dX10_load_27 ?_
  refine x_puti 903 (ci := 9) (C := RX10) (T := TX10) (N := 11) (v := si S29 502 n) (ty := .int) 3 hC hinX10 tyX10_ok nmX10 hW hS g18 g19 rfl ⟨by decide, by decide, rfl, rfl⟩ rfl w_7 rfl (by decide +kernel) rfl rfl dX10_load_30 (fun S32 H locs eS32 hW hS => ?_)
  replace hf := ltE hf S32 eS32
  refine lv_aload_n hx hb dX10_load_33 rfl (lv_at hl 2 rfl) ?_
  refine lv_aload_n hx hb dX10_load_34 rfl (lv_at hl 1 rfl) ?_
  refine x_getiN 503 (ci := 5) (C := RX6) (T := TX6) (N := 10) 3 hC hinX6 hW g20 g21 rfl ⟨by decide, by decide, rfl, rfl⟩ rfl w_8 dX10_load_35 ?_
  refine x_puti 904 (ci := 9) (C := RX10) (T := TX10) (N := 11) (v := si S32 503 n) (ty := .int) 4 hC hinX10 tyX10_ok nmX10 hW hS g18 g19 rfl ⟨by decide, by decide, rfl, rfl⟩ rfl w_9 rfl (by decide +kernel) rfl rfl dX10_load_38 (fun S33 H locs eS33 hW hS => ?_)
  replace hf := ltE hf S33 eS33
  refine lv_iload_n hx hb dX10_load_41 rfl (lv_at hl 0 rfl) ?_
  refine lv_if_ne (tgt := 48) hx hb dX10_load_42 (by decide) (fun c34 => ?_) (fun c34 => ?_)
  · replace hf := ifT c34 hf
    refine lv_aload_n hx hb dX10_load_48 rfl (lv_at hl 2 rfl) ?_
    replace hf := obE hf
    obtain ⟨S36, hz35, hf⟩ := hf
    refine x_callV (As := []) (rest := []) (o := none) (S1 := S36) hC hl.1 hW hS hGs hA g18 rfl (show vwCl[9]? = some (RX10, TX10, 11) ∧ ob 9 from ⟨rfl, by decide⟩) (c_X10_remember l g ad15 n14 K16 H.size F S33 p0 g18 S36 hz35) (cwV 0 hts gX10_load_X10_remember rfl rfl rfl (by decide +kernel) ⟨Nat.le_of_ble_eq_true rfl, Nat.le_of_ble_eq_true rfl⟩) rfl (by rw [g19] <;> rfl) (Nat.le_of_ble_eq_true rfl) dX10_load_49 ⟨Nat.le_of_ble_eq_true rfl, Nat.le_of_ble_eq_true rfl⟩ (fun H locs hPz35 hW hS => ?_)
    refine W.eq (g2 := F0 m 52 ls []) rfl ?_
    refine lv_aload_n hx hb dX10_load_52 rfl (lv_at hl 2 rfl) ?_
    replace hf := obE hf
    obtain ⟨j39, qj39, hf⟩ := hf
    have tj39 := x_rt hW qj39 7 ⟨by decide, rfl⟩
    refine x_getr 905 (ci := 9) (C := RX10) (T := TX10) (N := 11) 5 hC hinX10 hW g18 g19 rfl ⟨by decide, by decide, rfl, rfl⟩ rfl w_10 dX10_load_53 qj39 ?_
    refine lv_aload_n hx hb dX10_load_56 rfl (lv_at hl 1 rfl) ?_
    replace hf := obE hf
    obtain ⟨j40, qj40, hf⟩ := hf
    have tj40 := x_rt hW qj40 6 ⟨by decide, rfl⟩
    refine x_getrN 501 (ci := 5) (C := RX6) (T := TX6) (N := 10) 1 hC hinX6 hW g20 g21 rfl ⟨by decide, by decide, rfl, rfl⟩ rfl w_11 dX10_load_57 qj40 ?_
    replace hf := obE hf
    obtain ⟨S42, hz41, hf⟩ := hf
    refine x_callV (As := [.ref (ad15 j40)]) (rest := []) (o := none) (S1 := S42) hC hl.1 hW hS hGs hA tj39 rfl (show vwCl[7]? = some (RX8, TX8, 16) ∧ ob 7 from ⟨rfl, by decide⟩) (c_X8_startWith l g ad15 n14 K16 H.size F S36 j39 j40 tj39 tj40 S42 hz41) (cwV 1 hts gX10_load_X8_startWith rfl rfl rfl (by decide +kernel) ⟨Nat.le_of_ble_eq_true rfl, Nat.le_of_ble_eq_true rfl⟩) rfl rfl (Nat.le_of_ble_eq_true rfl) dX10_load_60 ⟨Nat.le_of_ble_eq_true rfl, Nat.le_of_ble_eq_true rfl⟩ (fun H locs hPz41 hW hS => ?_)
    refine W.eq (g2 := F0 m 63 ls []) rfl ?_
    refine lv_aload_n hx hb dX10_load_63 rfl (lv_at hl 2 rfl) ?_
    replace hf := obE hf
    obtain ⟨j45, qj45, hf⟩ := hf
    have tj45 := x_rt hW qj45 7 ⟨by decide, rfl⟩
    refine x_getr 905 (ci := 9) (C := RX10) (T := TX10) (N := 11) 5 hC hinX10 hW g18 g19 rfl ⟨by decide, by decide, rfl, rfl⟩ rfl w_10 dX10_load_64 qj45 ?_
    replace hf := obE hf
    obtain ⟨j46, qj46, hf⟩ := hf
    have tj46 := x_rt hW qj46 6 ⟨by decide, rfl⟩
    refine x_getrN 700 (ci := 7) (C := RX8) (T := TX8) (N := 16) 0 hC hinX8 hW tj45 rfl rfl ⟨by decide, by decide, rfl, rfl⟩ rfl w_12 dX10_load_67 qj46 ?_
    replace hf := obE hf
    obtain ⟨j47, qj47, hf⟩ := hf
    have tj47 := x_rt hW qj47 4 ⟨by decide, rfl⟩
    refine x_getrN 606 (ci := 6) (C := RX7) (T := TX7) (N := 16) 6 hC hinX7 hW tj46 rfl rfl ⟨by decide, by decide, rfl, rfl⟩ rfl w_13 dX10_load_70 qj47 ?_
    refine x_getiN 401 (ci := 4) (C := RX5) (T := TX5) (N := 2) 1 hC hinX5 hW tj47 rfl rfl ⟨by decide, by decide, rfl, rfl⟩ rfl w_14 dX10_load_73 ?_
    obtain ⟨e1, e2, e3⟩ := so3 hf
    subst e1
    subst e2
    subst e3
    exact W.iret (v := si S42 401 j47) hx hb hr (fun t ht hWm => ⟨⟨ad15, K16, rfl, ag22, trivial, by rw [ht]; exact hW⟩, hS.F ht⟩) hS.2.2 dX10_load_76 hlk
  · replace hf := ifF (fun q => q c34) hf
    refine lv_bipush (v := -4) hx hb dX10_load_45 (by decide) ?_
    obtain ⟨e1, e2, e3⟩ := so3 hf
    subst e1
    subst e2
    subst e3
    exact W.iret (v := (-4)) hx hb hr (fun t ht hWm => ⟨⟨ad15, K16, rfl, ag22, trivial, by rw [ht]; exact hW⟩, hS.F ht⟩) hS.2.2 dX10_load_47 hlk
set_option maxHeartbeats 4000000 in
set_option maxRecDepth 100000 in
theorem c_X10_errorCode (l : Launch) (g : GP) (ad : Nat → Nat) (n : Nat) (K : Nat → Nat) (sz F : Nat) (S0 : St) (p0 : Nat) (tp0 : p0 < n ∧ K p0 = 9) (r9 : Int32) (S9 : St) (hf : f_X10_errorCode F S0 p0 = some (r9, S9)) : Met l yX10_errorCode wsX10_errorCode { frames := 0, cells := 0, slots := 0, locals := 0 } (va_Pc [.ref (ad p0)] (PB g ad n K S0 sz)) (QR (some (.int r9)) (QB g ad n K S9 (dA ad n sz) (True)) (dA ad n sz)) 0 0 (dA ad n sz) := by
  refine Met.ofW (cc := cX10_errorCode) (maxL := 1) (ret := (some .int)) (by decide) rfl ?_
  intro p e s m args below meth c s₁ B hml hv
  obtain ⟨rfl, hsz, hW, hK, hGs⟩ := x_start hv
  subst hsz
  have hx := B.exec
  have hb := B.bytes
  have hr := B.returns
  have hts := atoms_spec (ws := wsX10_errorCode) B.pre
  have hown : s.vm.findClass RX10 = some m.cls := findClass_of_methodNamed B.named
  have hlk := B.notSynchronized
  have hC : Cx g p s m _ c cX10_errorCode RX10 wsX10_errorCode 1 := ⟨hx, hb, hml, hown, hts, hK⟩
  have hA : ∀ q : Nat, s.heap.size ≤ q → dA ad n s.heap.size q := fun q h => Or.inr h
  have hS : va_S (dA ad n s.heap.size) s.heap s.heap [] := va_S.rf
  have hl := lv_entry ([.ref (ad p0)]) (n := 1) (Nat.le_of_ble_eq_true rfl)
  rw [lg_entry_eq]
  generalize (lg_sl ([.ref (ad p0)]) ++ List.replicate (1 - (lg_sl ([.ref (ad p0)])).length) Slot.unset).toArray = ls at hl ⊢
  have hl : lv_has ls 1 [(0, .ref (ad p0))] := hl
  have hinX10 : ∀ w ∈ wsX100, w ∈ wsX10_errorCode := by decide +kernel
  have w_0 := hts (.fieldLink RX10 88 "MailSpool" "parseCode" "I") (by decide +kernel)
  have hGE := hGs.2.2.2.1
  have hGM := hGs.2.2.2.2
  unfold f_X10_errorCode at hf
  refine lv_aload_n hx hb dX10_errorCode_0 rfl (lv_at hl 0 rfl) ?_
  refine x_geti 903 (ci := 9) (C := RX10) (T := TX10) (N := 11) 3 hC hinX10 hW tp0 rfl rfl ⟨by decide, by decide, rfl, rfl⟩ rfl w_0 dX10_errorCode_1 ?_
  obtain ⟨e1, e2⟩ := so2 hf
  subst e1
  subst e2
  exact W.iret (v := si S0 903 p0) hx hb hr (fun t ht hWm => ⟨⟨rfl, by unfold QB; rw [ht]; exact ⟨hW, trivial⟩⟩, hS.F ht⟩) hS.2.2 dX10_errorCode_4 hlk
set_option maxHeartbeats 4000000 in
set_option maxRecDepth 100000 in
theorem c_X10_errorPosition (l : Launch) (g : GP) (ad : Nat → Nat) (n : Nat) (K : Nat → Nat) (sz F : Nat) (S0 : St) (p0 : Nat) (tp0 : p0 < n ∧ K p0 = 9) (r9 : Int32) (S9 : St) (hf : f_X10_errorPosition F S0 p0 = some (r9, S9)) : Met l yX10_errorPosition wsX10_errorPosition { frames := 0, cells := 0, slots := 0, locals := 0 } (va_Pc [.ref (ad p0)] (PB g ad n K S0 sz)) (QR (some (.int r9)) (QB g ad n K S9 (dA ad n sz) (True)) (dA ad n sz)) 0 0 (dA ad n sz) := by
  refine Met.ofW (cc := cX10_errorPosition) (maxL := 1) (ret := (some .int)) (by decide) rfl ?_
  intro p e s m args below meth c s₁ B hml hv
  obtain ⟨rfl, hsz, hW, hK, hGs⟩ := x_start hv
  subst hsz
  have hx := B.exec
  have hb := B.bytes
  have hr := B.returns
  have hts := atoms_spec (ws := wsX10_errorPosition) B.pre
  have hown : s.vm.findClass RX10 = some m.cls := findClass_of_methodNamed B.named
  have hlk := B.notSynchronized
  have hC : Cx g p s m _ c cX10_errorPosition RX10 wsX10_errorPosition 1 := ⟨hx, hb, hml, hown, hts, hK⟩
  have hA : ∀ q : Nat, s.heap.size ≤ q → dA ad n s.heap.size q := fun q h => Or.inr h
  have hS : va_S (dA ad n s.heap.size) s.heap s.heap [] := va_S.rf
  have hl := lv_entry ([.ref (ad p0)]) (n := 1) (Nat.le_of_ble_eq_true rfl)
  rw [lg_entry_eq]
  generalize (lg_sl ([.ref (ad p0)]) ++ List.replicate (1 - (lg_sl ([.ref (ad p0)])).length) Slot.unset).toArray = ls at hl ⊢
  have hl : lv_has ls 1 [(0, .ref (ad p0))] := hl
  have hinX10 : ∀ w ∈ wsX100, w ∈ wsX10_errorPosition := by decide +kernel
  have w_0 := hts (.fieldLink RX10 33 "MailSpool" "parsePosition" "I") (by decide +kernel)
  have hGE := hGs.2.2.2.1
  have hGM := hGs.2.2.2.2
  unfold f_X10_errorPosition at hf
  refine lv_aload_n hx hb dX10_errorPosition_0 rfl (lv_at hl 0 rfl) ?_
  refine x_geti 904 (ci := 9) (C := RX10) (T := TX10) (N := 11) 4 hC hinX10 hW tp0 rfl rfl ⟨by decide, by decide, rfl, rfl⟩ rfl w_0 dX10_errorPosition_1 ?_
  obtain ⟨e1, e2⟩ := so2 hf
  subst e1
  subst e2
  exact W.iret (v := si S0 904 p0) hx hb hr (fun t ht hWm => ⟨⟨rfl, by unfold QB; rw [ht]; exact ⟨hW, trivial⟩⟩, hS.F ht⟩) hS.2.2 dX10_errorPosition_4 hlk
set_option maxHeartbeats 4000000 in
set_option maxRecDepth 100000 in
theorem c_X10_needKind (l : Launch) (g : GP) (ad : Nat → Nat) (n : Nat) (K : Nat → Nat) (sz F : Nat) (S0 : St) (p0 : Int32) (r9 : Unit) (S9 : St) (hf : f_X10_needKind F S0 p0 = some (.inr r9, S9)) : Met l yX10_needKind wsX10_needKind { frames := 0, cells := 0, slots := 0, locals := 0 } (va_Pc [.int p0] (PB g ad n K S0 sz)) (QR none (QB g ad n K S9 (dA ad n sz) (True)) (dA ad n sz)) 0 0 (dA ad n sz) := by
  refine Met.ofW (cc := cX10_needKind) (maxL := 1) (ret := none) (by decide) rfl ?_
  intro p e s m args below meth c s₁ B hml hv
  obtain ⟨rfl, hsz, hW, hK, hGs⟩ := x_start hv
  subst hsz
  have hx := B.exec
  have hb := B.bytes
  have hr := B.returns
  have hts := atoms_spec (ws := wsX10_needKind) B.pre
  have hown : s.vm.findClass RX10 = some m.cls := findClass_of_methodNamed B.named
  have hlk := B.notSynchronized
  have hC : Cx g p s m _ c cX10_needKind RX10 wsX10_needKind 1 := ⟨hx, hb, hml, hown, hts, hK⟩
  have hA : ∀ q : Nat, s.heap.size ≤ q → dA ad n s.heap.size q := fun q h => Or.inr h
  have hS : va_S (dA ad n s.heap.size) s.heap s.heap [] := va_S.rf
  have hl := lv_entry ([.int p0]) (n := 1) (Nat.le_of_ble_eq_true rfl)
  rw [lg_entry_eq]
  generalize (lg_sl ([.int p0]) ++ List.replicate (1 - (lg_sl ([.int p0])).length) Slot.unset).toArray = ls at hl ⊢
  have hl : lv_has ls 1 [(0, .int p0)] := hl
  have hGE := hGs.2.2.2.1
  have hGM := hGs.2.2.2.2
  have L9 : ∀ (S0 : St)   (H : Heap) (locs : List Loc) (ls : Array Slot), f_X10_needKind_L9 F S0  = some (.inr r9, S9) → Wb g ad n K S0 (dA ad n s.heap.size) H → va_S (dA ad n s.heap.size) s.heap H locs → lv_has ls 1 [] → W p l e (headSpec wsX10_needKind { frames := 0, cells := 0, slots := 0, locals := 0 }).room s m (List.toArray [.int p0]) below meth c H locs 0 0 (MQ below (QR none (QB g ad n K S9 (dA ad n s.heap.size) (True)) (dA ad n s.heap.size)) (List.toArray [.int p0]) s 0 0 (dA ad n s.heap.size)) (F0 m 9 ls []) := by
    intro S0  H locs ls hf hW hS hl
    unfold f_X10_needKind_L9 at hf
    exact nomatch (Prod.mk.inj (Option.some.inj hf)).1
  unfold f_X10_needKind at hf
  refine lv_iload_n hx hb dX10_needKind_0 rfl (lv_at hl 0 rfl) ?_
  refine lv_if_lt (tgt := 9) hx hb dX10_needKind_1 (by decide) (fun c1 => ?_) (fun c1 => ?_)
  · replace hf := ifT c1 hf
    exact L9 S0 _ _ _ hf hW hS (lv_sub hl [] rfl)
  · replace hf := ifF c1 hf
    refine lv_iload_n hx hb dX10_needKind_4 rfl (lv_at hl 0 rfl) ?_
    refine lv_iconst (v := 3) hx hb dX10_needKind_5 (by decide) ?_
    refine lv_icmp_le (tgt := 20) hx hb dX10_needKind_6 (by decide) (fun c2 => ?_) (fun c2 => ?_)
    · replace hf := ifT c2 hf
      obtain ⟨e1, e2⟩ := so2 hf
      cases e1
      subst e2
      exact W.vret hx hb hr (fun t ht hWm => ⟨⟨rfl, by unfold QB; rw [ht]; exact ⟨hW, trivial⟩⟩, hS.F ht⟩) hS.2.2 dX10_needKind_20 hlk
    · replace hf := ifF c2 hf
      exact L9 S0 _ _ _ hf hW hS (lv_sub hl [] rfl)
set_option maxHeartbeats 4000000 in
set_option maxRecDepth 100000 in
theorem c_X7_namesOf (l : Launch) (g : GP) (ad : Nat → Nat) (n : Nat) (K : Nat → Nat) (sz F : Nat) (S0 : St) (p0 : Nat) (p1 : Int32) (tp0 : p0 < n ∧ K p0 = 6) (r9 : Option Nat) (S9 : St) (hf : f_X7_namesOf F S0 p0 p1 = some (r9, S9)) : Met l yX7_namesOf wsX7_namesOf { frames := 0, cells := 0, slots := 0, locals := 0 } (va_Pc [.ref (ad p0), .int p1] (PB g ad n K S0 sz)) (QR (some (va_re ad r9)) (QB g ad n K S9 (dA ad n sz) (∀ j, r9 = some j → j < n ∧ K j = 4)) (dA ad n sz)) 0 0 (dA ad n sz) := by
  refine Met.ofW (cc := cX7_namesOf) (maxL := 2) (ret := (some (.object "MailSpool$Names"))) (by decide) rfl ?_
  intro p e s m args below meth c s₁ B hml hv
  obtain ⟨rfl, hsz, hW, hK, hGs⟩ := x_start hv
  subst hsz
  have hx := B.exec
  have hb := B.bytes
  have hr := B.returns
  have hts := atoms_spec (ws := wsX7_namesOf) B.pre
  have hown : s.vm.findClass RX7 = some m.cls := findClass_of_methodNamed B.named
  have hlk := B.notSynchronized
  have hC : Cx g p s m _ c cX7_namesOf RX7 wsX7_namesOf 2 := ⟨hx, hb, hml, hown, hts, hK⟩
  have hA : ∀ q : Nat, s.heap.size ≤ q → dA ad n s.heap.size q := fun q h => Or.inr h
  have hS : va_S (dA ad n s.heap.size) s.heap s.heap [] := va_S.rf
  have hl := lv_entry ([.ref (ad p0), .int p1]) (n := 2) (Nat.le_of_ble_eq_true rfl)
  rw [lg_entry_eq]
  generalize (lg_sl ([.ref (ad p0), .int p1]) ++ List.replicate (2 - (lg_sl ([.ref (ad p0), .int p1])).length) Slot.unset).toArray = ls at hl ⊢
  have hl : lv_has ls 2 [(0, .ref (ad p0)), (1, .int p1)] := hl
  have hinX7 : ∀ w ∈ wsX70, w ∈ wsX7_namesOf := by decide +kernel
  have w_0 := hts (.fieldLink RX7 20 "MailSpool$Rules" "classes" "LMailSpool$Names;") (by decide +kernel)
  have w_1 := hts (.fieldLink RX7 34 "MailSpool$Rules" "users" "LMailSpool$Names;") (by decide +kernel)
  have w_2 := hts (.fieldLink RX7 43 "MailSpool$Rules" "groups" "LMailSpool$Names;") (by decide +kernel)
  have w_3 := hts (.fieldLink RX7 49 "MailSpool$Rules" "holds" "LMailSpool$Names;") (by decide +kernel)
  have hGE := hGs.2.2.2.1
  have hGM := hGs.2.2.2.2
  unfold f_X7_namesOf at hf
  refine lv_iload_n hx hb dX7_namesOf_0 rfl (lv_at hl 1 rfl) ?_
  by_cases c1 : p1 = 0
  · replace hf := ifT c1 hf
    refine lv_tableIn (tgt := 28) hx hb dX7_namesOf_1 (by rw [c1]; decide) (by rw [c1]; decide) (by rw [c1]; rfl) (by decide) ?_
    refine lv_aload_n hx hb dX7_namesOf_28 rfl (lv_at hl 0 rfl) ?_
    replace hf := obE hf
    obtain ⟨j2, qj2, hf⟩ := hf
    have tj2 := x_rt hW qj2 4 ⟨by decide, rfl⟩
    refine x_getr 602 (ci := 6) (C := RX7) (T := TX7) (N := 16) 2 hC hinX7 hW tp0 rfl rfl ⟨by decide, by decide, rfl, rfl⟩ rfl w_0 dX7_namesOf_29 qj2 ?_
    obtain ⟨e1, e2⟩ := so2 hf
    subst e1
    subst e2
    exact W.aret hx hb hr (Or.inl ⟨_, rfl⟩) (Or.inr ⟨_, rfl⟩) (fun t ht hWm => ⟨⟨rfl, by unfold QB; rw [ht]; exact ⟨hW, (fun _ h => by cases h; exact tj2)⟩⟩, hS.F ht⟩) hS.2.2 dX7_namesOf_32 hlk
  · replace hf := ifF c1 hf
    by_cases c3 : p1 = 1
    · replace hf := ifT c3 hf
      refine lv_tableIn (tgt := 33) hx hb dX7_namesOf_1 (by rw [c3]; decide) (by rw [c3]; decide) (by rw [c3]; rfl) (by decide) ?_
      refine lv_aload_n hx hb dX7_namesOf_33 rfl (lv_at hl 0 rfl) ?_
      replace hf := obE hf
      obtain ⟨j4, qj4, hf⟩ := hf
      have tj4 := x_rt hW qj4 4 ⟨by decide, rfl⟩
      refine x_getr 606 (ci := 6) (C := RX7) (T := TX7) (N := 16) 6 hC hinX7 hW tp0 rfl rfl ⟨by decide, by decide, rfl, rfl⟩ rfl w_1 dX7_namesOf_34 qj4 ?_
      obtain ⟨e1, e2⟩ := so2 hf
      subst e1
      subst e2
      exact W.aret hx hb hr (Or.inl ⟨_, rfl⟩) (Or.inr ⟨_, rfl⟩) (fun t ht hWm => ⟨⟨rfl, by unfold QB; rw [ht]; exact ⟨hW, (fun _ h => by cases h; exact tj4)⟩⟩, hS.F ht⟩) hS.2.2 dX7_namesOf_37 hlk
    · replace hf := ifF c3 hf
      by_cases c5 : p1 = 2
      · replace hf := ifT c5 hf
        refine lv_tableIn (tgt := 38) hx hb dX7_namesOf_1 (by rw [c5]; decide) (by rw [c5]; decide) (by rw [c5]; rfl) (by decide) ?_
        refine lv_aload_n hx hb dX7_namesOf_38 rfl (lv_at hl 0 rfl) ?_
        replace hf := obE hf
        obtain ⟨j6, qj6, hf⟩ := hf
        have tj6 := x_rt hW qj6 4 ⟨by decide, rfl⟩
        refine x_getr 609 (ci := 6) (C := RX7) (T := TX7) (N := 16) 9 hC hinX7 hW tp0 rfl rfl ⟨by decide, by decide, rfl, rfl⟩ rfl w_2 dX7_namesOf_39 qj6 ?_
        obtain ⟨e1, e2⟩ := so2 hf
        subst e1
        subst e2
        exact W.aret hx hb hr (Or.inl ⟨_, rfl⟩) (Or.inr ⟨_, rfl⟩) (fun t ht hWm => ⟨⟨rfl, by unfold QB; rw [ht]; exact ⟨hW, (fun _ h => by cases h; exact tj6)⟩⟩, hS.F ht⟩) hS.2.2 dX7_namesOf_42 hlk
      · replace hf := ifF c5 hf
        refine lv_tableOut (tgt := 43) hx hb dX7_namesOf_1 (sw_out3 c1 c3 c5) (by decide) ?_
        refine lv_aload_n hx hb dX7_namesOf_43 rfl (lv_at hl 0 rfl) ?_
        replace hf := obE hf
        obtain ⟨j7, qj7, hf⟩ := hf
        have tj7 := x_rt hW qj7 4 ⟨by decide, rfl⟩
        refine x_getr 611 (ci := 6) (C := RX7) (T := TX7) (N := 16) 11 hC hinX7 hW tp0 rfl rfl ⟨by decide, by decide, rfl, rfl⟩ rfl w_3 dX7_namesOf_44 qj7 ?_
        obtain ⟨e1, e2⟩ := so2 hf
        subst e1
        subst e2
        exact W.aret hx hb hr (Or.inl ⟨_, rfl⟩) (Or.inr ⟨_, rfl⟩) (fun t ht hWm => ⟨⟨rfl, by unfold QB; rw [ht]; exact ⟨hW, (fun _ h => by cases h; exact tj7)⟩⟩, hS.F ht⟩) hS.2.2 dX7_namesOf_47 hlk
set_option maxHeartbeats 4000000 in
set_option maxRecDepth 100000 in
theorem c_X10_count (l : Launch) (g : GP) (ad : Nat → Nat) (n : Nat) (K : Nat → Nat) (sz F : Nat) (S0 : St) (p0 : Nat) (p1 : Int32) (tp0 : p0 < n ∧ K p0 = 9) (r9 : Int32) (S9 : St) (hf : f_X10_count F S0 p0 p1 = some (.inr r9, S9)) : Met l yX10_count wsX10_count { frames := 1, cells := 0, slots := 0, locals := 21 } (va_Pc [.ref (ad p0), .int p1] (PB g ad n K S0 sz)) (QR (some (.int r9)) (QB g ad n K S9 (dA ad n sz) (True)) (dA ad n sz)) 0 0 (dA ad n sz) := by
  refine Met.ofW (cc := cX10_count) (maxL := 2) (ret := (some .int)) (by decide) rfl ?_
  intro p e s m args below meth c s₁ B hml hv
  obtain ⟨rfl, hsz, hW, hK, hGs⟩ := x_start hv
  subst hsz
  have hx := B.exec
  have hb := B.bytes
  have hr := B.returns
  have hts := atoms_spec (ws := wsX10_count) B.pre
  have hown : s.vm.findClass RX10 = some m.cls := findClass_of_methodNamed B.named
  have hlk := B.notSynchronized
  have hC : Cx g p s m _ c cX10_count RX10 wsX10_count 2 := ⟨hx, hb, hml, hown, hts, hK⟩
  have hA : ∀ q : Nat, s.heap.size ≤ q → dA ad n s.heap.size q := fun q h => Or.inr h
  have hS : va_S (dA ad n s.heap.size) s.heap s.heap [] := va_S.rf
  have hl := lv_entry ([.ref (ad p0), .int p1]) (n := 2) (Nat.le_of_ble_eq_true rfl)
  rw [lg_entry_eq]
  generalize (lg_sl ([.ref (ad p0), .int p1]) ++ List.replicate (2 - (lg_sl ([.ref (ad p0), .int p1])).length) Slot.unset).toArray = ls at hl ⊢
  have hl : lv_has ls 2 [(0, .ref (ad p0)), (1, .int p1)] := hl
  have hinX10 : ∀ w ∈ wsX100, w ∈ wsX10_count := by decide +kernel
  have hinX5 : ∀ w ∈ wsX50, w ∈ wsX10_count := by decide +kernel
  have hinX8 : ∀ w ∈ wsX80, w ∈ wsX10_count := by decide +kernel
  have w_0 := hts (.fieldLink RX10 42 "MailSpool" "now" "LMailSpool$Spool;") (by decide +kernel)
  have w_1 := va_Nw.use (A := (List.toArray [.ref (ad p0), .int p1])) rfl (hGs.1 (.fieldLinkNest RX10 104 "MailSpool$Spool" "rules" "LMailSpool$Rules;" "MailSpool") (by decide +kernel))
  have w_2 := va_Nw.use (A := (List.toArray [.ref (ad p0), .int p1])) rfl (hGs.1 (.fieldLinkNest RX10 109 "MailSpool$Names" "size" "I" "MailSpool") (by decide +kernel))
  have hGE := hGs.2.2.2.1
  have hGM := hGs.2.2.2.2
  unfold f_X10_count at hf
  refine lv_iload_n hx hb dX10_count_0 rfl (lv_at hl 1 rfl) ?_
  replace hf := obE hf
  obtain ⟨z1, hz1, hf⟩ := hf
  obtain ⟨oz1, S2⟩ := z1
  replace hf := ltE hf S2 rfl
  cases oz1 with
  | inl x =>
    replace hf := smL rfl hf
    exact nomatch (Prod.mk.inj (Option.some.inj hf)).1
  | inr r3 =>
    replace hf := smR rfl hf
    refine x_callS (As := [.int p1]) (rest := []) (o := none) (S1 := S2) (P := True) hC hl.1 hW hS hGs hA (c_X10_needKind l g ad n K s.heap.size F S0 p1 r3 S2 hz1) (va_cwS 1 hts gX10_count_X10_needKind rfl rfl rfl (by decide +kernel) ⟨Nat.le_of_ble_eq_true rfl, Nat.le_of_ble_eq_true rfl⟩) rfl rfl (Nat.le_of_ble_eq_true rfl) dX10_count_1 ⟨Nat.le_of_ble_eq_true rfl, Nat.le_of_ble_eq_true rfl⟩ (fun H locs hPz1 hW hS => ?_)
    refine W.eq (g2 := F0 m 4 ls []) rfl ?_
    refine lv_aload_n hx hb dX10_count_4 rfl (lv_at hl 0 rfl) ?_
    replace hf := obE hf
    obtain ⟨j5, qj5, hf⟩ := hf
    have tj5 := x_rt hW qj5 7 ⟨by decide, rfl⟩
    refine x_getr 905 (ci := 9) (C := RX10) (T := TX10) (N := 11) 5 hC hinX10 hW tp0 rfl rfl ⟨by decide, by decide, rfl, rfl⟩ rfl w_0 dX10_count_5 qj5 ?_
    replace hf := obE hf
    obtain ⟨j6, qj6, hf⟩ := hf
    have tj6 := x_rt hW qj6 6 ⟨by decide, rfl⟩
    refine x_getrN 700 (ci := 7) (C := RX8) (T := TX8) (N := 16) 0 hC hinX8 hW tj5 rfl rfl ⟨by decide, by decide, rfl, rfl⟩ rfl w_1 dX10_count_8 qj6 ?_
    refine lv_iload_n hx hb dX10_count_11 rfl (lv_at hl 1 rfl) ?_
    replace hf := obE hf
    obtain ⟨z7, hz7, hf⟩ := hf
    obtain ⟨r9, S8⟩ := z7
    replace hf := ltE (ltE hf r9 rfl) S8 rfl
    refine x_callV (As := [.int p1]) (rest := []) (o := (some (va_re ad r9))) (S1 := S8) hC hl.1 hW hS hGs hA tj6 rfl (show vwCl[6]? = some (RX7, TX7, 16) ∧ ob 6 from ⟨rfl, by decide⟩) (c_X7_namesOf l g ad n K H.size F S2 j6 p1 tj6 r9 S8 hz7) (cwV 1 hts gX10_count_X7_namesOf rfl rfl rfl (by decide +kernel) ⟨Nat.le_of_ble_eq_true rfl, Nat.le_of_ble_eq_true rfl⟩) rfl rfl (Nat.le_of_ble_eq_true rfl) dX10_count_12 ⟨Nat.le_of_ble_eq_true rfl, Nat.le_of_ble_eq_true rfl⟩ (fun H locs hPz7 hW hS => ?_)
    replace hf := obE hf
    obtain ⟨j11, qj11, hf⟩ := hf
    have tj11 := hPz7 j11 qj11
    refine W.eq (g2 := F0 m 15 ls [.ref (ad j11)]) (by rw [qj11]; rfl) ?_
    refine x_getiN 401 (ci := 4) (C := RX5) (T := TX5) (N := 2) 1 hC hinX5 hW tj11 rfl rfl ⟨by decide, by decide, rfl, rfl⟩ rfl w_2 dX10_count_15 ?_
    obtain ⟨e1, e2⟩ := so2 hf
    cases e1
    subst e2
    exact W.iret (v := si S8 401 j11) hx hb hr (fun t ht hWm => ⟨⟨rfl, by unfold QB; rw [ht]; exact ⟨hW, trivial⟩⟩, hS.F ht⟩) hS.2.2 dX10_count_18 hlk
set_option maxHeartbeats 4000000 in
set_option maxRecDepth 100000 in
theorem c_X10_day (l : Launch) (g : GP) (ad : Nat → Nat) (n : Nat) (K : Nat → Nat) (sz F : Nat) (S0 : St) (p0 : Nat) (tp0 : p0 < n ∧ K p0 = 9) (r9 : Int32) (S9 : St) (hf : f_X10_day F S0 p0 = some (r9, S9)) : Met l yX10_day wsX10_day { frames := 0, cells := 0, slots := 0, locals := 0 } (va_Pc [.ref (ad p0)] (PB g ad n K S0 sz)) (QR (some (.int r9)) (QB g ad n K S9 (dA ad n sz) (True)) (dA ad n sz)) 0 0 (dA ad n sz) := by
  refine Met.ofW (cc := cX10_day) (maxL := 1) (ret := (some .int)) (by decide) rfl ?_
  intro p e s m args below meth c s₁ B hml hv
  obtain ⟨rfl, hsz, hW, hK, hGs⟩ := x_start hv
  subst hsz
  have hx := B.exec
  have hb := B.bytes
  have hr := B.returns
  have hts := atoms_spec (ws := wsX10_day) B.pre
  have hown : s.vm.findClass RX10 = some m.cls := findClass_of_methodNamed B.named
  have hlk := B.notSynchronized
  have hC : Cx g p s m _ c cX10_day RX10 wsX10_day 1 := ⟨hx, hb, hml, hown, hts, hK⟩
  have hA : ∀ q : Nat, s.heap.size ≤ q → dA ad n s.heap.size q := fun q h => Or.inr h
  have hS : va_S (dA ad n s.heap.size) s.heap s.heap [] := va_S.rf
  have hl := lv_entry ([.ref (ad p0)]) (n := 1) (Nat.le_of_ble_eq_true rfl)
  rw [lg_entry_eq]
  generalize (lg_sl ([.ref (ad p0)]) ++ List.replicate (1 - (lg_sl ([.ref (ad p0)])).length) Slot.unset).toArray = ls at hl ⊢
  have hl : lv_has ls 1 [(0, .ref (ad p0))] := hl
  have hinX10 : ∀ w ∈ wsX100, w ∈ wsX10_day := by decide +kernel
  have hinX8 : ∀ w ∈ wsX80, w ∈ wsX10_day := by decide +kernel
  have w_0 := hts (.fieldLink RX10 42 "MailSpool" "now" "LMailSpool$Spool;") (by decide +kernel)
  have w_1 := va_Nw.use (A := (List.toArray [.ref (ad p0)])) rfl (hGs.1 (.fieldLinkNest RX10 166 "MailSpool$Spool" "day" "I" "MailSpool") (by decide +kernel))
  have hGE := hGs.2.2.2.1
  have hGM := hGs.2.2.2.2
  unfold f_X10_day at hf
  refine lv_aload_n hx hb dX10_day_0 rfl (lv_at hl 0 rfl) ?_
  replace hf := obE hf
  obtain ⟨j1, qj1, hf⟩ := hf
  have tj1 := x_rt hW qj1 7 ⟨by decide, rfl⟩
  refine x_getr 905 (ci := 9) (C := RX10) (T := TX10) (N := 11) 5 hC hinX10 hW tp0 rfl rfl ⟨by decide, by decide, rfl, rfl⟩ rfl w_0 dX10_day_1 qj1 ?_
  refine x_getiN 701 (ci := 7) (C := RX8) (T := TX8) (N := 16) 1 hC hinX8 hW tj1 rfl rfl ⟨by decide, by decide, rfl, rfl⟩ rfl w_1 dX10_day_4 ?_
  obtain ⟨e1, e2⟩ := so2 hf
  subst e1
  subst e2
  exact W.iret (v := si S0 701 j1) hx hb hr (fun t ht hWm => ⟨⟨rfl, by unfold QB; rw [ht]; exact ⟨hW, trivial⟩⟩, hS.F ht⟩) hS.2.2 dX10_day_7 hlk
set_option maxHeartbeats 4000000 in
set_option maxRecDepth 100000 in
theorem c_X5_has (l : Launch) (g : GP) (ad : Nat → Nat) (n : Nat) (K : Nat → Nat) (sz F : Nat) (S0 : St) (p0 : Nat) (p1 : Int32) (tp0 : p0 < n ∧ K p0 = 4) (r9 : Int32) (S9 : St) (hf : f_X5_has F S0 p0 p1 = some (r9, S9)) : Met l yX5_has wsX5_has { frames := 0, cells := 0, slots := 0, locals := 0 } (va_Pc [.ref (ad p0), .int p1] (PB g ad n K S0 sz)) (QR (some (.int r9)) (QB g ad n K S9 (dA ad n sz) (True)) (dA ad n sz)) 0 0 (dA ad n sz) := by
  refine Met.ofW (cc := cX5_has) (maxL := 2) (ret := (some .boolean)) (by decide) rfl ?_
  intro p e s m args below meth c s₁ B hml hv
  obtain ⟨rfl, hsz, hW, hK, hGs⟩ := x_start hv
  subst hsz
  have hx := B.exec
  have hb := B.bytes
  have hr := B.returns
  have hts := atoms_spec (ws := wsX5_has) B.pre
  have hown : s.vm.findClass RX5 = some m.cls := findClass_of_methodNamed B.named
  have hlk := B.notSynchronized
  have hC : Cx g p s m _ c cX5_has RX5 wsX5_has 2 := ⟨hx, hb, hml, hown, hts, hK⟩
  have hA : ∀ q : Nat, s.heap.size ≤ q → dA ad n s.heap.size q := fun q h => Or.inr h
  have hS : va_S (dA ad n s.heap.size) s.heap s.heap [] := va_S.rf
  have hl := lv_entry ([.ref (ad p0), .int p1]) (n := 2) (Nat.le_of_ble_eq_true rfl)
  rw [lg_entry_eq]
  generalize (lg_sl ([.ref (ad p0), .int p1]) ++ List.replicate (2 - (lg_sl ([.ref (ad p0), .int p1])).length) Slot.unset).toArray = ls at hl ⊢
  have hl : lv_has ls 2 [(0, .ref (ad p0)), (1, .int p1)] := hl
  have hinX5 : ∀ w ∈ wsX50, w ∈ wsX5_has := by decide +kernel
  have w_0 := hts (.fieldLink RX5 21 "MailSpool$Names" "size" "I") (by decide +kernel)
  have hGE := hGs.2.2.2.1
  have hGM := hGs.2.2.2.2
  unfold f_X5_has at hf
  refine lv_iload_n hx hb dX5_has_0 rfl (lv_at hl 1 rfl) ?_
  refine lv_if_lt (tgt := 16) hx hb dX5_has_1 (by decide) (fun c1 => ?_) (fun c1 => ?_)
  · replace hf := ifT c1 hf
    refine lv_iconst (v := 0) hx hb dX5_has_16 (by decide) ?_
    obtain ⟨e1, e2⟩ := so2 hf
    subst e1
    subst e2
    exact W.zret (v := 0) hx hb hr rfl (fun t ht hWm => ⟨⟨rfl, by unfold QB; rw [ht]; exact ⟨hW, trivial⟩⟩, hS.F ht⟩) hS.2.2 dX5_has_17 hlk
  · replace hf := ifF c1 hf
    refine lv_iload_n hx hb dX5_has_4 rfl (lv_at hl 1 rfl) ?_
    refine lv_aload_n hx hb dX5_has_5 rfl (lv_at hl 0 rfl) ?_
    refine x_geti 401 (ci := 4) (C := RX5) (T := TX5) (N := 2) 1 hC hinX5 hW tp0 rfl rfl ⟨by decide, by decide, rfl, rfl⟩ rfl w_0 dX5_has_6 ?_
    refine lv_icmp_ge (tgt := 16) hx hb dX5_has_9 (by decide) (fun c2 => ?_) (fun c2 => ?_)
    · replace hf := ifT c2 hf
      refine lv_iconst (v := 0) hx hb dX5_has_16 (by decide) ?_
      obtain ⟨e1, e2⟩ := so2 hf
      subst e1
      subst e2
      exact W.zret (v := 0) hx hb hr rfl (fun t ht hWm => ⟨⟨rfl, by unfold QB; rw [ht]; exact ⟨hW, trivial⟩⟩, hS.F ht⟩) hS.2.2 dX5_has_17 hlk
    · replace hf := ifF c2 hf
      refine lv_iconst (v := 1) hx hb dX5_has_12 (by decide) ?_
      refine lv_goto (tgt := 17) hx hb dX5_has_13 (by decide) ?_
      obtain ⟨e1, e2⟩ := so2 hf
      subst e1
      subst e2
      exact W.zret (v := 1) hx hb hr rfl (fun t ht hWm => ⟨⟨rfl, by unfold QB; rw [ht]; exact ⟨hW, trivial⟩⟩, hS.F ht⟩) hS.2.2 dX5_has_17 hlk
set_option maxHeartbeats 4000000 in
set_option maxRecDepth 100000 in
theorem c_X10_needUser (l : Launch) (g : GP) (ad : Nat → Nat) (n : Nat) (K : Nat → Nat) (sz F : Nat) (S0 : St) (p0 : Nat) (p1 : Int32) (tp0 : p0 < n ∧ K p0 = 9) (r9 : Unit) (S9 : St) (hf : f_X10_needUser F S0 p0 p1 = some (.inr r9, S9)) : Met l yX10_needUser wsX10_needUser { frames := 1, cells := 0, slots := 0, locals := 21 } (va_Pc [.ref (ad p0), .int p1] (PB g ad n K S0 sz)) (QR none (QB g ad n K S9 (dA ad n sz) (True)) (dA ad n sz)) 0 0 (dA ad n sz) := by
  refine Met.ofW (cc := cX10_needUser) (maxL := 2) (ret := none) (by decide) rfl ?_
  intro p e s m args below meth c s₁ B hml hv
  obtain ⟨rfl, hsz, hW, hK, hGs⟩ := x_start hv
  subst hsz
  have hx := B.exec
  have hb := B.bytes
  have hr := B.returns
  have hts := atoms_spec (ws := wsX10_needUser) B.pre
  have hown : s.vm.findClass RX10 = some m.cls := findClass_of_methodNamed B.named
  have hlk := B.notSynchronized
  have hC : Cx g p s m _ c cX10_needUser RX10 wsX10_needUser 2 := ⟨hx, hb, hml, hown, hts, hK⟩
  have hA : ∀ q : Nat, s.heap.size ≤ q → dA ad n s.heap.size q := fun q h => Or.inr h
  have hS : va_S (dA ad n s.heap.size) s.heap s.heap [] := va_S.rf
  have hl := lv_entry ([.ref (ad p0), .int p1]) (n := 2) (Nat.le_of_ble_eq_true rfl)
  rw [lg_entry_eq]
  generalize (lg_sl ([.ref (ad p0), .int p1]) ++ List.replicate (2 - (lg_sl ([.ref (ad p0), .int p1])).length) Slot.unset).toArray = ls at hl ⊢
  have hl : lv_has ls 2 [(0, .ref (ad p0)), (1, .int p1)] := hl
  have hinX10 : ∀ w ∈ wsX100, w ∈ wsX10_needUser := by decide +kernel
  have hinX7 : ∀ w ∈ wsX70, w ∈ wsX10_needUser := by decide +kernel
  have hinX8 : ∀ w ∈ wsX80, w ∈ wsX10_needUser := by decide +kernel
  have w_0 := hts (.fieldLink RX10 42 "MailSpool" "now" "LMailSpool$Spool;") (by decide +kernel)
  have w_1 := va_Nw.use (A := (List.toArray [.ref (ad p0), .int p1])) rfl (hGs.1 (.fieldLinkNest RX10 104 "MailSpool$Spool" "rules" "LMailSpool$Rules;" "MailSpool") (by decide +kernel))
  have w_2 := va_Nw.use (A := (List.toArray [.ref (ad p0), .int p1])) rfl (hGs.1 (.fieldLinkNest RX10 105 "MailSpool$Rules" "users" "LMailSpool$Names;" "MailSpool") (by decide +kernel))
  have hGE := hGs.2.2.2.1
  have hGM := hGs.2.2.2.2
  unfold f_X10_needUser at hf
  refine lv_aload_n hx hb dX10_needUser_0 rfl (lv_at hl 0 rfl) ?_
  replace hf := obE hf
  obtain ⟨j1, qj1, hf⟩ := hf
  have tj1 := x_rt hW qj1 7 ⟨by decide, rfl⟩
  refine x_getr 905 (ci := 9) (C := RX10) (T := TX10) (N := 11) 5 hC hinX10 hW tp0 rfl rfl ⟨by decide, by decide, rfl, rfl⟩ rfl w_0 dX10_needUser_1 qj1 ?_
  replace hf := obE hf
  obtain ⟨j2, qj2, hf⟩ := hf
  have tj2 := x_rt hW qj2 6 ⟨by decide, rfl⟩
  refine x_getrN 700 (ci := 7) (C := RX8) (T := TX8) (N := 16) 0 hC hinX8 hW tj1 rfl rfl ⟨by decide, by decide, rfl, rfl⟩ rfl w_1 dX10_needUser_4 qj2 ?_
  replace hf := obE hf
  obtain ⟨j3, qj3, hf⟩ := hf
  have tj3 := x_rt hW qj3 4 ⟨by decide, rfl⟩
  refine x_getrN 606 (ci := 6) (C := RX7) (T := TX7) (N := 16) 6 hC hinX7 hW tj2 rfl rfl ⟨by decide, by decide, rfl, rfl⟩ rfl w_2 dX10_needUser_7 qj3 ?_
  refine lv_iload_n hx hb dX10_needUser_10 rfl (lv_at hl 1 rfl) ?_
  replace hf := obE hf
  obtain ⟨z4, hz4, hf⟩ := hf
  obtain ⟨r6, S5⟩ := z4
  replace hf := ltE (ltE hf r6 rfl) S5 rfl
  refine x_callV (As := [.int p1]) (rest := []) (o := (some (.int r6))) (S1 := S5) hC hl.1 hW hS hGs hA tj3 rfl (show vwCl[4]? = some (RX5, TX5, 2) ∧ ob 4 from ⟨rfl, by decide⟩) (c_X5_has l g ad n K s.heap.size F S0 j3 p1 tj3 r6 S5 hz4) (cwV 1 hts gX10_needUser_X5_has rfl rfl rfl (by decide +kernel) ⟨Nat.le_of_ble_eq_true rfl, Nat.le_of_ble_eq_true rfl⟩) rfl rfl (Nat.le_of_ble_eq_true rfl) dX10_needUser_11 ⟨Nat.le_of_ble_eq_true rfl, Nat.le_of_ble_eq_true rfl⟩ (fun H locs hPz4 hW hS => ?_)
  refine W.eq (g2 := F0 m 14 ls [.int r6]) rfl ?_
  refine lv_if_ne (tgt := 28) hx hb dX10_needUser_14 (by decide) (fun c8 => ?_) (fun c8 => ?_)
  · replace hf := ifT c8 hf
    obtain ⟨e1, e2⟩ := so2 hf
    cases e1
    subst e2
    exact W.vret hx hb hr (fun t ht hWm => ⟨⟨rfl, by unfold QB; rw [ht]; exact ⟨hW, trivial⟩⟩, hS.F ht⟩) hS.2.2 dX10_needUser_28 hlk
  · replace hf := ifF (fun q => q c8) hf
    exact nomatch (Prod.mk.inj (Option.some.inj hf)).1
set_option maxHeartbeats 4000000 in
set_option maxRecDepth 100000 in
theorem c_X10_needClass (l : Launch) (g : GP) (ad : Nat → Nat) (n : Nat) (K : Nat → Nat) (sz F : Nat) (S0 : St) (p0 : Nat) (p1 : Int32) (tp0 : p0 < n ∧ K p0 = 9) (r9 : Unit) (S9 : St) (hf : f_X10_needClass F S0 p0 p1 = some (.inr r9, S9)) : Met l yX10_needClass wsX10_needClass { frames := 1, cells := 0, slots := 0, locals := 21 } (va_Pc [.ref (ad p0), .int p1] (PB g ad n K S0 sz)) (QR none (QB g ad n K S9 (dA ad n sz) (True)) (dA ad n sz)) 0 0 (dA ad n sz) := by
  refine Met.ofW (cc := cX10_needClass) (maxL := 2) (ret := none) (by decide) rfl ?_
  intro p e s m args below meth c s₁ B hml hv
  obtain ⟨rfl, hsz, hW, hK, hGs⟩ := x_start hv
  subst hsz
  have hx := B.exec
  have hb := B.bytes
  have hr := B.returns
  have hts := atoms_spec (ws := wsX10_needClass) B.pre
  have hown : s.vm.findClass RX10 = some m.cls := findClass_of_methodNamed B.named
  have hlk := B.notSynchronized
  have hC : Cx g p s m _ c cX10_needClass RX10 wsX10_needClass 2 := ⟨hx, hb, hml, hown, hts, hK⟩
  have hA : ∀ q : Nat, s.heap.size ≤ q → dA ad n s.heap.size q := fun q h => Or.inr h
  have hS : va_S (dA ad n s.heap.size) s.heap s.heap [] := va_S.rf
  have hl := lv_entry ([.ref (ad p0), .int p1]) (n := 2) (Nat.le_of_ble_eq_true rfl)
  rw [lg_entry_eq]
  generalize (lg_sl ([.ref (ad p0), .int p1]) ++ List.replicate (2 - (lg_sl ([.ref (ad p0), .int p1])).length) Slot.unset).toArray = ls at hl ⊢
  have hl : lv_has ls 2 [(0, .ref (ad p0)), (1, .int p1)] := hl
  have hinX10 : ∀ w ∈ wsX100, w ∈ wsX10_needClass := by decide +kernel
  have hinX7 : ∀ w ∈ wsX70, w ∈ wsX10_needClass := by decide +kernel
  have hinX8 : ∀ w ∈ wsX80, w ∈ wsX10_needClass := by decide +kernel
  have w_0 := hts (.fieldLink RX10 42 "MailSpool" "now" "LMailSpool$Spool;") (by decide +kernel)
  have w_1 := va_Nw.use (A := (List.toArray [.ref (ad p0), .int p1])) rfl (hGs.1 (.fieldLinkNest RX10 104 "MailSpool$Spool" "rules" "LMailSpool$Rules;" "MailSpool") (by decide +kernel))
  have w_2 := va_Nw.use (A := (List.toArray [.ref (ad p0), .int p1])) rfl (hGs.1 (.fieldLinkNest RX10 426 "MailSpool$Rules" "classes" "LMailSpool$Names;" "MailSpool") (by decide +kernel))
  have hGE := hGs.2.2.2.1
  have hGM := hGs.2.2.2.2
  unfold f_X10_needClass at hf
  refine lv_aload_n hx hb dX10_needClass_0 rfl (lv_at hl 0 rfl) ?_
  replace hf := obE hf
  obtain ⟨j1, qj1, hf⟩ := hf
  have tj1 := x_rt hW qj1 7 ⟨by decide, rfl⟩
  refine x_getr 905 (ci := 9) (C := RX10) (T := TX10) (N := 11) 5 hC hinX10 hW tp0 rfl rfl ⟨by decide, by decide, rfl, rfl⟩ rfl w_0 dX10_needClass_1 qj1 ?_
  replace hf := obE hf
  obtain ⟨j2, qj2, hf⟩ := hf
  have tj2 := x_rt hW qj2 6 ⟨by decide, rfl⟩
  refine x_getrN 700 (ci := 7) (C := RX8) (T := TX8) (N := 16) 0 hC hinX8 hW tj1 rfl rfl ⟨by decide, by decide, rfl, rfl⟩ rfl w_1 dX10_needClass_4 qj2 ?_
  replace hf := obE hf
  obtain ⟨j3, qj3, hf⟩ := hf
  have tj3 := x_rt hW qj3 4 ⟨by decide, rfl⟩
  refine x_getrN 602 (ci := 6) (C := RX7) (T := TX7) (N := 16) 2 hC hinX7 hW tj2 rfl rfl ⟨by decide, by decide, rfl, rfl⟩ rfl w_2 dX10_needClass_7 qj3 ?_
  refine lv_iload_n hx hb dX10_needClass_10 rfl (lv_at hl 1 rfl) ?_
  replace hf := obE hf
  obtain ⟨z4, hz4, hf⟩ := hf
  obtain ⟨r6, S5⟩ := z4
  replace hf := ltE (ltE hf r6 rfl) S5 rfl
  refine x_callV (As := [.int p1]) (rest := []) (o := (some (.int r6))) (S1 := S5) hC hl.1 hW hS hGs hA tj3 rfl (show vwCl[4]? = some (RX5, TX5, 2) ∧ ob 4 from ⟨rfl, by decide⟩) (c_X5_has l g ad n K s.heap.size F S0 j3 p1 tj3 r6 S5 hz4) (cwV 1 hts gX10_needClass_X5_has rfl rfl rfl (by decide +kernel) ⟨Nat.le_of_ble_eq_true rfl, Nat.le_of_ble_eq_true rfl⟩) rfl rfl (Nat.le_of_ble_eq_true rfl) dX10_needClass_11 ⟨Nat.le_of_ble_eq_true rfl, Nat.le_of_ble_eq_true rfl⟩ (fun H locs hPz4 hW hS => ?_)
  refine W.eq (g2 := F0 m 14 ls [.int r6]) rfl ?_
  refine lv_if_ne (tgt := 28) hx hb dX10_needClass_14 (by decide) (fun c8 => ?_) (fun c8 => ?_)
  · replace hf := ifT c8 hf
    obtain ⟨e1, e2⟩ := so2 hf
    cases e1
    subst e2
    exact W.vret hx hb hr (fun t ht hWm => ⟨⟨rfl, by unfold QB; rw [ht]; exact ⟨hW, trivial⟩⟩, hS.F ht⟩) hS.2.2 dX10_needClass_28 hlk
  · replace hf := ifF (fun q => q c8) hf
    exact nomatch (Prod.mk.inj (Option.some.inj hf)).1
set_option maxHeartbeats 4000000 in
set_option maxRecDepth 100000 in
theorem c_X7_allUsers (l : Launch) (g : GP) (ad : Nat → Nat) (n : Nat) (K : Nat → Nat) (sz F : Nat) (S0 : St) (p0 : Nat) (tp0 : p0 < n ∧ K p0 = 6) (r9 : Int32) (S9 : St) (hf : f_X7_allUsers F S0 p0 = some (r9, S9)) : Met l yX7_allUsers wsX7_allUsers { frames := 0, cells := 0, slots := 0, locals := 0 } (va_Pc [.ref (ad p0)] (PB g ad n K S0 sz)) (QR (some (.int r9)) (QB g ad n K S9 (dA ad n sz) (True)) (dA ad n sz)) 0 0 (dA ad n sz) := by
  refine Met.ofW (cc := cX7_allUsers) (maxL := 1) (ret := (some .int)) (by decide) rfl ?_
  intro p e s m args below meth c s₁ B hml hv
  obtain ⟨rfl, hsz, hW, hK, hGs⟩ := x_start hv
  subst hsz
  have hx := B.exec
  have hb := B.bytes
  have hr := B.returns
  have hts := atoms_spec (ws := wsX7_allUsers) B.pre
  have hown : s.vm.findClass RX7 = some m.cls := findClass_of_methodNamed B.named
  have hlk := B.notSynchronized
  have hC : Cx g p s m _ c cX7_allUsers RX7 wsX7_allUsers 1 := ⟨hx, hb, hml, hown, hts, hK⟩
  have hA : ∀ q : Nat, s.heap.size ≤ q → dA ad n s.heap.size q := fun q h => Or.inr h
  have hS : va_S (dA ad n s.heap.size) s.heap s.heap [] := va_S.rf
  have hl := lv_entry ([.ref (ad p0)]) (n := 1) (Nat.le_of_ble_eq_true rfl)
  rw [lg_entry_eq]
  generalize (lg_sl ([.ref (ad p0)]) ++ List.replicate (1 - (lg_sl ([.ref (ad p0)])).length) Slot.unset).toArray = ls at hl ⊢
  have hl : lv_has ls 1 [(0, .ref (ad p0))] := hl
  have hinX5 : ∀ w ∈ wsX50, w ∈ wsX7_allUsers := by decide +kernel
  have hinX7 : ∀ w ∈ wsX70, w ∈ wsX7_allUsers := by decide +kernel
  have w_0 := hts (.fieldLink RX7 34 "MailSpool$Rules" "users" "LMailSpool$Names;") (by decide +kernel)
  have w_1 := va_Nw.use (A := (List.toArray [.ref (ad p0)])) rfl (hGs.1 (.fieldLinkNest RX7 73 "MailSpool$Names" "size" "I" "MailSpool") (by decide +kernel))
  have hGE := hGs.2.2.2.1
  have hGM := hGs.2.2.2.2
  unfold f_X7_allUsers at hf
  refine lv_iconst (v := 1) hx hb dX7_allUsers_0 (by decide) ?_
  refine lv_aload_n hx hb dX7_allUsers_1 rfl (lv_at hl 0 rfl) ?_
  replace hf := obE hf
  obtain ⟨j1, qj1, hf⟩ := hf
  have tj1 := x_rt hW qj1 4 ⟨by decide, rfl⟩
  refine x_getr 606 (ci := 6) (C := RX7) (T := TX7) (N := 16) 6 hC hinX7 hW tp0 rfl rfl ⟨by decide, by decide, rfl, rfl⟩ rfl w_0 dX7_allUsers_2 qj1 ?_
  refine x_getiN 401 (ci := 4) (C := RX5) (T := TX5) (N := 2) 1 hC hinX5 hW tj1 rfl rfl ⟨by decide, by decide, rfl, rfl⟩ rfl w_1 dX7_allUsers_5 ?_
  refine lv_ishl hx hb dX7_allUsers_8 ?_
  refine lv_iconst (v := 1) hx hb dX7_allUsers_9 (by decide) ?_
  refine lv_isub hx hb dX7_allUsers_10 ?_
  obtain ⟨e1, e2⟩ := so2 hf
  subst e1
  subst e2
  exact W.iret (v := (1 <<< ((si S0 401 j1) &&& 31)) - 1) hx hb hr (fun t ht hWm => ⟨⟨rfl, by unfold QB; rw [ht]; exact ⟨hW, trivial⟩⟩, hS.F ht⟩) hS.2.2 dX7_allUsers_11 hlk
set_option maxHeartbeats 4000000 in
set_option maxRecDepth 100000 in
theorem c_X1_cut (l : Launch) (g : GP) (ad : Nat → Nat) (n : Nat) (K : Nat → Nat) (sz F : Nat) (S0 : St) (p0 : Nat) (tp0 : p0 < n ∧ K p0 = 1) (r9 : Int32) (S9 : St) (hf : f_X1_cut F S0 p0 = some (r9, S9)) : Met l yX1_cut wsX1_cut { frames := 1, cells := 0, slots := 0, locals := 22 } (va_Pc [.ref (ad p0)] (PB g ad n K S0 sz)) (QR (some (.int r9)) (QB g ad n K S9 (dA ad n sz) (True)) (dA ad n sz)) 0 0 (dA ad n sz) := by
  refine Met.ofW (cc := cX1_cut) (maxL := 3) (ret := (some .boolean)) (by decide) rfl ?_
  intro p e s m args below meth c s₁ B hml hv
  obtain ⟨rfl, hsz, hW, hK, hGs⟩ := x_start hv
  subst hsz
  have hx := B.exec
  have hb := B.bytes
  have hr := B.returns
  have hts := atoms_spec (ws := wsX1_cut) B.pre
  have hown : s.vm.findClass RX1 = some m.cls := findClass_of_methodNamed B.named
  have hlk := B.notSynchronized
  have hC : Cx g p s m _ c cX1_cut RX1 wsX1_cut 3 := ⟨hx, hb, hml, hown, hts, hK⟩
  have hA : ∀ q : Nat, s.heap.size ≤ q → dA ad n s.heap.size q := fun q h => Or.inr h
  have hS : va_S (dA ad n s.heap.size) s.heap s.heap [] := va_S.rf
  have hl := lv_entry ([.ref (ad p0)]) (n := 3) (Nat.le_of_ble_eq_true rfl)
  rw [lg_entry_eq]
  generalize (lg_sl ([.ref (ad p0)]) ++ List.replicate (3 - (lg_sl ([.ref (ad p0)])).length) Slot.unset).toArray = ls at hl ⊢
  have hl : lv_has ls 3 [(0, .ref (ad p0))] := hl
  have hinX0 : ∀ w ∈ wsX00, w ∈ wsX1_cut := by decide +kernel
  have hinX1 : ∀ w ∈ wsX10, w ∈ wsX1_cut := by decide +kernel
  have w_0 := hts (.fieldLink RX1 22 "MailSpool$Content" "places" "I") (by decide +kernel)
  have w_1 := hts (.fieldLink RX1 15 "MailSpool$Content" "starts" "[I") (by decide +kernel)
  have w_2 := va_Nw.use (A := (List.toArray [.ref (ad p0)])) rfl (hGs.1 (.methodLinkNest RX1 35 yX10_put "MailSpool") (by decide +kernel))
  have w_3 := hts (.initialized RX10) (by decide +kernel)
  have w_4 := hts (.static yX10_put) (by decide +kernel)
  have w_5 := hts (.fieldLink RX1 19 "MailSpool$Content" "ends" "[I") (by decide +kernel)
  have w_6 := hts (.fieldLink RX1 9 "MailSpool$Content" "text" "LMailSpool$Bytes;") (by decide +kernel)
  have w_7 := va_Nw.use (A := (List.toArray [.ref (ad p0)])) rfl (hGs.1 (.fieldLinkNest RX1 26 "MailSpool$Bytes" "size" "I" "MailSpool") (by decide +kernel))
  have hGE := hGs.2.2.2.1
  have hGM := hGs.2.2.2.2
  have L9 : ∀ (fu9 : Nat) (S0 : St) (v0 : Nat) (v1 : Int32) (v2 : Int32) (tv0 : v0 < n ∧ K v0 = 1) (H : Heap) (locs : List Loc) (ls : Array Slot), f_X1_cut_L9 F fu9 S0 v0 v1 v2 = some (r9, S9) → Wb g ad n K S0 (dA ad n s.heap.size) H → va_S (dA ad n s.heap.size) s.heap H locs → lv_has ls 3 [(0, .ref (ad v0)), (1, .int v1), (2, .int v2)] → W p l e (headSpec wsX1_cut { frames := 1, cells := 0, slots := 0, locals := 22 }).room s m (List.toArray [.ref (ad p0)]) below meth c H locs 0 0 (MQ below (QR (some (.int r9)) (QB g ad n K S9 (dA ad n s.heap.size) (True)) (dA ad n s.heap.size)) (List.toArray [.ref (ad p0)]) s 0 0 (dA ad n s.heap.size)) (F0 m 9 ls []) := by
    intro fu9
    induction fu9 with
    | zero =>
      intro S0 v0 v1 v2 tv0 H locs ls hf
      cases hf
    | succ fu9 ih9 =>
      have L108 : ∀ (S0 : St) (v0 : Nat) (v1 : Int32) (v2 : Int32) (tv0 : v0 < n ∧ K v0 = 1) (H : Heap) (locs : List Loc) (ls : Array Slot), f_X1_cut_L108 F (fun a0 a1 a2 a3 => f_X1_cut_L9 F fu9 a0 a1 a2 a3) S0 v0 v1 v2 = some (r9, S9) → Wb g ad n K S0 (dA ad n s.heap.size) H → va_S (dA ad n s.heap.size) s.heap H locs → lv_has ls 3 [(0, .ref (ad v0)), (1, .int v1), (2, .int v2)] → W p l e (headSpec wsX1_cut { frames := 1, cells := 0, slots := 0, locals := 22 }).room s m (List.toArray [.ref (ad p0)]) below meth c H locs 0 0 (MQ below (QR (some (.int r9)) (QB g ad n K S9 (dA ad n s.heap.size) (True)) (dA ad n s.heap.size)) (List.toArray [.ref (ad p0)]) s 0 0 (dA ad n s.heap.size)) (F0 m 108 ls []) := by
        intro S0 v0 v1 v2 tv0 H locs ls hf hW hS hl
        unfold f_X1_cut_L108 at hf
        obtain ⟨x2, ex2⟩ : ∃ z : Int32, z = v2 + 1 := ⟨_, rfl⟩
        replace hf := ltE hf x2 ex2
        refine lv_iinc (v := x2) (lv' := [(2, .int x2), (0, .ref (ad v0)), (1, .int v1)]) hx hb dX1_cut_108 hl (k := 2) rfl (by rw [ex2]; rfl) (by decide) rfl (fun ls hl => ?_)
        refine lv_goto (tgt := 9) hx hb dX1_cut_111 (by decide) ?_
        exact ih9 S0 v0 v1 x2 tv0 _ _ _ hf hW hS (lv_sub hl [1, 2, 0] rfl)
      have L44 : ∀ (S0 : St) (v0 : Nat) (v1 : Int32) (v2 : Int32) (tv0 : v0 < n ∧ K v0 = 1) (H : Heap) (locs : List Loc) (ls : Array Slot), f_X1_cut_L44 F (fun a0 a1 a2 a3 => f_X1_cut_L9 F fu9 a0 a1 a2 a3) S0 v0 v1 v2 = some (r9, S9) → Wb g ad n K S0 (dA ad n s.heap.size) H → va_S (dA ad n s.heap.size) s.heap H locs → lv_has ls 3 [(0, .ref (ad v0)), (1, .int v1), (2, .int v2)] → W p l e (headSpec wsX1_cut { frames := 1, cells := 0, slots := 0, locals := 22 }).room s m (List.toArray [.ref (ad p0)]) below meth c H locs 0 0 (MQ below (QR (some (.int r9)) (QB g ad n K S9 (dA ad n s.heap.size) (True)) (dA ad n s.heap.size)) (List.toArray [.ref (ad p0)]) s 0 0 (dA ad n s.heap.size)) (F0 m 44 ls []) := by
        intro S0 v0 v1 v2 tv0 H locs ls hf hW hS hl
        unfold f_X1_cut_L44 at hf
        refine lv_aload_n hx hb dX1_cut_44 rfl (lv_at hl 0 rfl) ?_
        refine x_geti 103 (ci := 1) (C := RX1) (T := TX1) (N := 4) 3 hC hinX1 hW tv0 rfl rfl ⟨by decide, by decide, rfl, rfl⟩ rfl w_0 dX1_cut_45 ?_
        refine lv_iconst (v := 4) hx hb dX1_cut_48 (by decide) ?_
        refine lv_icmp_ge (tgt := 68) hx hb dX1_cut_49 (by decide) (fun c18 => ?_) (fun c18 => ?_)
        · replace hf := ifT c18 hf
          refine lv_iconst (v := 0) hx hb dX1_cut_68 (by decide) ?_
          obtain ⟨e1, e2⟩ := so2 hf
          subst e1
          subst e2
          exact W.zret (v := 0) hx hb hr rfl (fun t ht hWm => ⟨⟨rfl, by unfold QB; rw [ht]; exact ⟨hW, trivial⟩⟩, hS.F ht⟩) hS.2.2 dX1_cut_69 hlk
        · replace hf := ifF c18 hf
          refine lv_iload_n hx hb dX1_cut_52 rfl (lv_at hl 2 rfl) ?_
          refine lv_iload_n hx hb dX1_cut_53 rfl (lv_at hl 1 rfl) ?_
          refine lv_isub hx hb dX1_cut_54 ?_
          refine lv_iconst (v := 1) hx hb dX1_cut_55 (by decide) ?_
          refine lv_icmp_lt (tgt := 68) hx hb dX1_cut_56 (by decide) (fun c19 => ?_) (fun c19 => ?_)
          · replace hf := ifT c19 hf
            refine lv_iconst (v := 0) hx hb dX1_cut_68 (by decide) ?_
            obtain ⟨e1, e2⟩ := so2 hf
            subst e1
            subst e2
            exact W.zret (v := 0) hx hb hr rfl (fun t ht hWm => ⟨⟨rfl, by unfold QB; rw [ht]; exact ⟨hW, trivial⟩⟩, hS.F ht⟩) hS.2.2 dX1_cut_69 hlk
          · replace hf := ifF c19 hf
            refine lv_iload_n hx hb dX1_cut_59 rfl (lv_at hl 2 rfl) ?_
            refine lv_iload_n hx hb dX1_cut_60 rfl (lv_at hl 1 rfl) ?_
            refine lv_isub hx hb dX1_cut_61 ?_
            refine lv_sipush (v := 200) hx hb dX1_cut_62 (by decide) ?_
            refine lv_icmp_le (tgt := 70) hx hb dX1_cut_65 (by decide) (fun c20 => ?_) (fun c20 => ?_)
            · replace hf := ifT c20 hf
              refine lv_aload_n hx hb dX1_cut_70 rfl (lv_at hl 0 rfl) ?_
              replace hf := obE hf
              obtain ⟨j21, qj21, hf⟩ := hf
              have tj21 := x_rt hW qj21 12 ⟨by decide, rfl⟩
              refine x_getr 101 (ci := 1) (C := RX1) (T := TX1) (N := 4) 1 hC hinX1 hW tv0 rfl rfl ⟨by decide, by decide, rfl, rfl⟩ rfl w_1 dX1_cut_71 qj21 ?_
              refine lv_aload_n hx hb dX1_cut_74 rfl (lv_at hl 0 rfl) ?_
              refine x_geti 103 (ci := 1) (C := RX1) (T := TX1) (N := 4) 3 hC hinX1 hW tv0 rfl rfl ⟨by decide, by decide, rfl, rfl⟩ rfl w_0 dX1_cut_75 ?_
              refine lv_iload_n hx hb dX1_cut_78 rfl (lv_at hl 1 rfl) ?_
              replace hf := obE hf
              obtain ⟨S23, hz22, hf⟩ := hf
              refine x_callSN (As := [.ref (ad j21), .int (si S0 103 v0), .int v1]) (rest := []) (o := none) (S1 := S23) hC hl.1 hW hS hGs hA (c_X10_put l g ad n K H.size F S0 j21 (si S0 103 v0) v1 tj21 S23 hz22) ⟨va_cnB 3 hts gX1_cut_X10_put_n35 rfl rfl rfl (va_Nw.of rfl w_2) w_3 (by decide +kernel) ⟨Nat.le_of_ble_eq_true rfl, Nat.le_of_ble_eq_true rfl⟩, w_4, trivial⟩ rfl rfl (Nat.le_of_ble_eq_true rfl) dX1_cut_79 ⟨Nat.le_of_ble_eq_true rfl, Nat.le_of_ble_eq_true rfl⟩ (fun H locs hPz22 hW hS => ?_)
              refine W.eq (g2 := F0 m 82 ls []) rfl ?_
              refine lv_aload_n hx hb dX1_cut_82 rfl (lv_at hl 0 rfl) ?_
              replace hf := obE hf
              obtain ⟨j26, qj26, hf⟩ := hf
              have tj26 := x_rt hW qj26 12 ⟨by decide, rfl⟩
              refine x_getr 102 (ci := 1) (C := RX1) (T := TX1) (N := 4) 2 hC hinX1 hW tv0 rfl rfl ⟨by decide, by decide, rfl, rfl⟩ rfl w_5 dX1_cut_83 qj26 ?_
              refine lv_aload_n hx hb dX1_cut_86 rfl (lv_at hl 0 rfl) ?_
              refine x_geti 103 (ci := 1) (C := RX1) (T := TX1) (N := 4) 3 hC hinX1 hW tv0 rfl rfl ⟨by decide, by decide, rfl, rfl⟩ rfl w_0 dX1_cut_87 ?_
              refine lv_iload_n hx hb dX1_cut_90 rfl (lv_at hl 2 rfl) ?_
              replace hf := obE hf
              obtain ⟨S28, hz27, hf⟩ := hf
              refine x_callSN (As := [.ref (ad j26), .int (si S23 103 v0), .int v2]) (rest := []) (o := none) (S1 := S28) hC hl.1 hW hS hGs hA (c_X10_put l g ad n K H.size F S23 j26 (si S23 103 v0) v2 tj26 S28 hz27) ⟨va_cnB 3 hts gX1_cut_X10_put_n35 rfl rfl rfl (va_Nw.of rfl w_2) w_3 (by decide +kernel) ⟨Nat.le_of_ble_eq_true rfl, Nat.le_of_ble_eq_true rfl⟩, w_4, trivial⟩ rfl rfl (Nat.le_of_ble_eq_true rfl) dX1_cut_91 ⟨Nat.le_of_ble_eq_true rfl, Nat.le_of_ble_eq_true rfl⟩ (fun H locs hPz27 hW hS => ?_)
              refine W.eq (g2 := F0 m 94 ls []) rfl ?_
              refine lv_aload_n hx hb dX1_cut_94 rfl (lv_at hl 0 rfl) ?_
              refine lv_dup hx hb dX1_cut_95 rfl ?_
              refine x_geti 103 (ci := 1) (C := RX1) (T := TX1) (N := 4) 3 hC hinX1 hW tv0 rfl rfl ⟨by decide, by decide, rfl, rfl⟩ rfl w_0 dX1_cut_96 ?_
              refine lv_iconst (v := 1) hx hb dX1_cut_99 (by decide) ?_
              refine lv_iadd hx hb dX1_cut_100 ?_
              refine x_puti 103 (ci := 1) (C := RX1) (T := TX1) (N := 4) (v := (si S28 103 v0) + 1) (ty := .int) 3 hC hinX1 tyX1_ok nmX1 hW hS tv0 rfl rfl ⟨by decide, by decide, rfl, rfl⟩ rfl w_0 rfl (by decide +kernel) rfl rfl dX1_cut_101 (fun S31 H locs eS31 hW hS => ?_)
              replace hf := ltE hf S31 eS31
              refine lv_iload_n hx hb dX1_cut_104 rfl (lv_at hl 2 rfl) ?_
              refine lv_iconst (v := 1) hx hb dX1_cut_105 (by decide) ?_
              refine lv_iadd hx hb dX1_cut_106 ?_
              refine lv_topi (fun x32 ex32 => ?_)
              replace hf := ltE hf x32 ex32
              refine lv_istore_n (lv' := [(1, .int x32), (0, .ref (ad v0)), (2, .int v2)]) hx hb dX1_cut_107 rfl hl (by decide) rfl (fun ls hl => ?_)
              exact L108 S31 v0 x32 v2 tv0 _ _ _ hf hW hS (lv_sub hl [1, 0, 2] rfl)
            · replace hf := ifF c20 hf
              refine lv_iconst (v := 0) hx hb dX1_cut_68 (by decide) ?_
              obtain ⟨e1, e2⟩ := so2 hf
              subst e1
              subst e2
              exact W.zret (v := 0) hx hb hr rfl (fun t ht hWm => ⟨⟨rfl, by unfold QB; rw [ht]; exact ⟨hW, trivial⟩⟩, hS.F ht⟩) hS.2.2 dX1_cut_69 hlk
      intro S0 v0 v1 v2 tv0 H locs ls hf hW hS hl
      unfold f_X1_cut_L9 at hf
      refine lv_iload_n hx hb dX1_cut_9 rfl (lv_at hl 2 rfl) ?_
      refine lv_aload_n hx hb dX1_cut_10 rfl (lv_at hl 0 rfl) ?_
      replace hf := obE hf
      obtain ⟨j43, qj43, hf⟩ := hf
      have tj43 := x_rt hW qj43 0 ⟨by decide, rfl⟩
      refine x_getr 100 (ci := 1) (C := RX1) (T := TX1) (N := 4) 0 hC hinX1 hW tv0 rfl rfl ⟨by decide, by decide, rfl, rfl⟩ rfl w_6 dX1_cut_11 qj43 ?_
      refine x_getiN 1 (ci := 0) (C := RX0) (T := TX0) (N := 2) 1 hC hinX0 hW tj43 rfl rfl ⟨by decide, by decide, rfl, rfl⟩ rfl w_7 dX1_cut_14 ?_
      refine lv_icmp_gt (tgt := 114) hx hb dX1_cut_17 (by decide) (fun c44 => ?_) (fun c44 => ?_)
      · replace hf := ifT c44 hf
        refine lv_iconst (v := 1) hx hb dX1_cut_114 (by decide) ?_
        obtain ⟨e1, e2⟩ := so2 hf
        subst e1
        subst e2
        exact W.zret (v := 1) hx hb hr rfl (fun t ht hWm => ⟨⟨rfl, by unfold QB; rw [ht]; exact ⟨hW, trivial⟩⟩, hS.F ht⟩) hS.2.2 dX1_cut_115 hlk
      · replace hf := ifF c44 hf
        refine lv_iload_n hx hb dX1_cut_20 rfl (lv_at hl 2 rfl) ?_
        refine lv_aload_n hx hb dX1_cut_21 rfl (lv_at hl 0 rfl) ?_
        replace hf := obE hf
        obtain ⟨j45, qj45, hf⟩ := hf
        have tj45 := x_rt hW qj45 0 ⟨by decide, rfl⟩
        refine x_getr 100 (ci := 1) (C := RX1) (T := TX1) (N := 4) 0 hC hinX1 hW tv0 rfl rfl ⟨by decide, by decide, rfl, rfl⟩ rfl w_6 dX1_cut_22 qj45 ?_
        refine x_getiN 1 (ci := 0) (C := RX0) (T := TX0) (N := 2) 1 hC hinX0 hW tj45 rfl rfl ⟨by decide, by decide, rfl, rfl⟩ rfl w_7 dX1_cut_25 ?_
        refine lv_icmp_eq (tgt := 44) hx hb dX1_cut_28 (by decide) (fun c46 => ?_) (fun c46 => ?_)
        · replace hf := ifT c46 hf
          exact L44 S0 v0 v1 v2 tv0 _ _ _ hf hW hS (lv_sub hl [0, 1, 2] rfl)
        · replace hf := ifF c46 hf
          refine lv_aload_n hx hb dX1_cut_31 rfl (lv_at hl 0 rfl) ?_
          replace hf := obE hf
          obtain ⟨j47, qj47, hf⟩ := hf
          have tj47 := x_rt hW qj47 0 ⟨by decide, rfl⟩
          refine x_getr 100 (ci := 1) (C := RX1) (T := TX1) (N := 4) 0 hC hinX1 hW tv0 rfl rfl ⟨by decide, by decide, rfl, rfl⟩ rfl w_6 dX1_cut_32 qj47 ?_
          refine lv_iload_n hx hb dX1_cut_35 rfl (lv_at hl 2 rfl) ?_
          replace hf := obE hf
          obtain ⟨z48, hz48, hf⟩ := hf
          obtain ⟨r50, S49⟩ := z48
          replace hf := ltE (ltE hf r50 rfl) S49 rfl
          refine x_callV (As := [.int v2]) (rest := []) (o := (some (.int r50))) (S1 := S49) hC hl.1 hW hS hGs hA tj47 rfl (show vwCl[0]? = some (RX0, TX0, 2) ∧ ob 0 from ⟨rfl, by decide⟩) (c_X0_byteAt l g ad n K H.size F S0 j47 v2 tj47 r50 S49 hz48) (cwV 1 hts gX1_cut_X0_byteAt rfl rfl rfl (by decide +kernel) ⟨Nat.le_of_ble_eq_true rfl, Nat.le_of_ble_eq_true rfl⟩) rfl rfl (Nat.le_of_ble_eq_true rfl) dX1_cut_36 ⟨Nat.le_of_ble_eq_true rfl, Nat.le_of_ble_eq_true rfl⟩ (fun H locs hPz48 hW hS => ?_)
          refine W.eq (g2 := F0 m 39 ls [.int r50]) rfl ?_
          refine lv_bipush (v := 124) hx hb dX1_cut_39 (by decide) ?_
          refine lv_icmp_ne (tgt := 108) hx hb dX1_cut_41 (by decide) (fun c52 => ?_) (fun c52 => ?_)
          · replace hf := ifT c52 hf
            exact L108 S49 v0 v1 v2 tv0 _ _ _ hf hW hS (lv_sub hl [0, 1, 2] rfl)
          · replace hf := ifF (fun q => q c52) hf
            exact L44 S49 v0 v1 v2 tv0 _ _ _ hf hW hS (lv_sub hl [0, 1, 2] rfl)
  unfold f_X1_cut at hf
  refine lv_aload_n hx hb dX1_cut_0 rfl (lv_at hl 0 rfl) ?_
  refine lv_iconst (v := 0) hx hb dX1_cut_1 (by decide) ?_
  refine x_puti 103 (ci := 1) (C := RX1) (T := TX1) (N := 4) (v := 0) (ty := .int) 3 hC hinX1 tyX1_ok nmX1 hW hS tp0 rfl rfl ⟨by decide, by decide, rfl, rfl⟩ rfl w_0 rfl (by decide +kernel) rfl rfl dX1_cut_2 (fun S53 H locs eS53 hW hS => ?_)
  replace hf := ltE hf S53 eS53
  refine lv_iconst (v := 0) hx hb dX1_cut_5 (by decide) ?_
  refine lv_istore_n (lv' := [(1, .int 0), (0, .ref (ad p0))]) hx hb dX1_cut_6 rfl hl (by decide) rfl (fun ls hl => ?_)
  refine lv_iconst (v := 0) hx hb dX1_cut_7 (by decide) ?_
  refine lv_istore_n (lv' := [(2, .int 0), (1, .int 0), (0, .ref (ad p0))]) hx hb dX1_cut_8 rfl hl (by decide) rfl (fun ls hl => ?_)
  exact L9 F S53 p0 0 0 tp0 _ _ _ hf hW hS (lv_sub hl [2, 1, 0] rfl)
set_option maxHeartbeats 4000000 in
set_option maxRecDepth 100000 in
theorem c_X9_isStored (l : Launch) (g : GP) (ad : Nat → Nat) (n : Nat) (K : Nat → Nat) (sz F : Nat) (S0 : St) (p0 : Nat) (p1 : Int32) (tp0 : p0 < n ∧ K p0 = 8) (r9 : Int32) (S9 : St) (hf : f_X9_isStored F S0 p0 p1 = some (r9, S9)) : Met l yX9_isStored wsX9_isStored { frames := 1, cells := 0, slots := 0, locals := 21 } (va_Pc [.ref (ad p0), .int p1] (PB g ad n K S0 sz)) (QR (some (.int r9)) (QB g ad n K S9 (dA ad n sz) (True)) (dA ad n sz)) 0 0 (dA ad n sz) := by
  refine Met.ofW (cc := cX9_isStored) (maxL := 2) (ret := (some .boolean)) (by decide) rfl ?_
  intro p e s m args below meth c s₁ B hml hv
  obtain ⟨rfl, hsz, hW, hK, hGs⟩ := x_start hv
  subst hsz
  have hx := B.exec
  have hb := B.bytes
  have hr := B.returns
  have hts := atoms_spec (ws := wsX9_isStored) B.pre
  have hown : s.vm.findClass RX9 = some m.cls := findClass_of_methodNamed B.named
  have hlk := B.notSynchronized
  have hC : Cx g p s m _ c cX9_isStored RX9 wsX9_isStored 2 := ⟨hx, hb, hml, hown, hts, hK⟩
  have hA : ∀ q : Nat, s.heap.size ≤ q → dA ad n s.heap.size q := fun q h => Or.inr h
  have hS : va_S (dA ad n s.heap.size) s.heap s.heap [] := va_S.rf
  have hl := lv_entry ([.ref (ad p0), .int p1]) (n := 2) (Nat.le_of_ble_eq_true rfl)
  rw [lg_entry_eq]
  generalize (lg_sl ([.ref (ad p0), .int p1]) ++ List.replicate (2 - (lg_sl ([.ref (ad p0), .int p1])).length) Slot.unset).toArray = ls at hl ⊢
  have hl : lv_has ls 2 [(0, .ref (ad p0)), (1, .int p1)] := hl
  have hinX9 : ∀ w ∈ wsX90, w ∈ wsX9_isStored := by decide +kernel
  have w_0 := hts (.fieldLink RX9 34 "MailSpool$Store" "numbers" "I") (by decide +kernel)
  have w_1 := hts (.fieldLink RX9 24 "MailSpool$Store" "deadSince" "[I") (by decide +kernel)
  have w_2 := va_Nw.use (A := (List.toArray [.ref (ad p0), .int p1])) rfl (hGs.1 (.methodLinkNest RX9 48 yX10_at "MailSpool") (by decide +kernel))
  have w_3 := hts (.initialized RX10) (by decide +kernel)
  have w_4 := hts (.static yX10_at) (by decide +kernel)
  have hGE := hGs.2.2.2.1
  have hGM := hGs.2.2.2.2
  unfold f_X9_isStored at hf
  refine lv_iload_n hx hb dX9_isStored_0 rfl (lv_at hl 1 rfl) ?_
  refine lv_if_lt (tgt := 29) hx hb dX9_isStored_1 (by decide) (fun c1 => ?_) (fun c1 => ?_)
  · replace hf := ifT c1 hf
    refine lv_iconst (v := 0) hx hb dX9_isStored_29 (by decide) ?_
    obtain ⟨e1, e2⟩ := so2 hf
    subst e1
    subst e2
    exact W.zret (v := 0) hx hb hr rfl (fun t ht hWm => ⟨⟨rfl, by unfold QB; rw [ht]; exact ⟨hW, trivial⟩⟩, hS.F ht⟩) hS.2.2 dX9_isStored_30 hlk
  · replace hf := ifF c1 hf
    refine lv_iload_n hx hb dX9_isStored_4 rfl (lv_at hl 1 rfl) ?_
    refine lv_aload_n hx hb dX9_isStored_5 rfl (lv_at hl 0 rfl) ?_
    refine x_geti 800 (ci := 8) (C := RX9) (T := TX9) (N := 8) 0 hC hinX9 hW tp0 rfl rfl ⟨by decide, by decide, rfl, rfl⟩ rfl w_0 dX9_isStored_6 ?_
    refine lv_icmp_ge (tgt := 29) hx hb dX9_isStored_9 (by decide) (fun c2 => ?_) (fun c2 => ?_)
    · replace hf := ifT c2 hf
      refine lv_iconst (v := 0) hx hb dX9_isStored_29 (by decide) ?_
      obtain ⟨e1, e2⟩ := so2 hf
      subst e1
      subst e2
      exact W.zret (v := 0) hx hb hr rfl (fun t ht hWm => ⟨⟨rfl, by unfold QB; rw [ht]; exact ⟨hW, trivial⟩⟩, hS.F ht⟩) hS.2.2 dX9_isStored_30 hlk
    · replace hf := ifF c2 hf
      refine lv_aload_n hx hb dX9_isStored_12 rfl (lv_at hl 0 rfl) ?_
      replace hf := obE hf
      obtain ⟨j3, qj3, hf⟩ := hf
      have tj3 := x_rt hW qj3 12 ⟨by decide, rfl⟩
      refine x_getr 806 (ci := 8) (C := RX9) (T := TX9) (N := 8) 6 hC hinX9 hW tp0 rfl rfl ⟨by decide, by decide, rfl, rfl⟩ rfl w_1 dX9_isStored_13 qj3 ?_
      refine lv_iload_n hx hb dX9_isStored_16 rfl (lv_at hl 1 rfl) ?_
      replace hf := obE hf
      obtain ⟨z4, hz4, hf⟩ := hf
      obtain ⟨r6, S5⟩ := z4
      replace hf := ltE (ltE hf r6 rfl) S5 rfl
      refine x_callSN (As := [.ref (ad j3), .int p1]) (rest := []) (o := (some (.int r6))) (S1 := S5) hC hl.1 hW hS hGs hA (c_X10_at l g ad n K s.heap.size F S0 j3 p1 tj3 r6 S5 hz4) ⟨va_cnB 2 hts gX9_isStored_X10_at_n48 rfl rfl rfl (va_Nw.of rfl w_2) w_3 (by decide +kernel) ⟨Nat.le_of_ble_eq_true rfl, Nat.le_of_ble_eq_true rfl⟩, w_4, trivial⟩ rfl rfl (Nat.le_of_ble_eq_true rfl) dX9_isStored_17 ⟨Nat.le_of_ble_eq_true rfl, Nat.le_of_ble_eq_true rfl⟩ (fun H locs hPz4 hW hS => ?_)
      refine W.eq (g2 := F0 m 20 ls [.int r6]) rfl ?_
      refine lv_bipush (v := -2) hx hb dX9_isStored_20 (by decide) ?_
      refine lv_icmp_eq (tgt := 29) hx hb dX9_isStored_22 (by decide) (fun c8 => ?_) (fun c8 => ?_)
      · replace hf := ifT c8 hf
        refine lv_iconst (v := 0) hx hb dX9_isStored_29 (by decide) ?_
        obtain ⟨e1, e2⟩ := so2 hf
        subst e1
        subst e2
        exact W.zret (v := 0) hx hb hr rfl (fun t ht hWm => ⟨⟨rfl, by unfold QB; rw [ht]; exact ⟨hW, trivial⟩⟩, hS.F ht⟩) hS.2.2 dX9_isStored_30 hlk
      · replace hf := ifF c8 hf
        refine lv_iconst (v := 1) hx hb dX9_isStored_25 (by decide) ?_
        refine lv_goto (tgt := 30) hx hb dX9_isStored_26 (by decide) ?_
        obtain ⟨e1, e2⟩ := so2 hf
        subst e1
        subst e2
        exact W.zret (v := 1) hx hb hr rfl (fun t ht hWm => ⟨⟨rfl, by unfold QB; rw [ht]; exact ⟨hW, trivial⟩⟩, hS.F ht⟩) hS.2.2 dX9_isStored_30 hlk
set_option maxHeartbeats 4000000 in
set_option maxRecDepth 100000 in
theorem c_X9_isDead (l : Launch) (g : GP) (ad : Nat → Nat) (n : Nat) (K : Nat → Nat) (sz F : Nat) (S0 : St) (p0 : Nat) (p1 : Int32) (tp0 : p0 < n ∧ K p0 = 8) (r9 : Int32) (S9 : St) (hf : f_X9_isDead F S0 p0 p1 = some (r9, S9)) : Met l yX9_isDead wsX9_isDead { frames := 2, cells := 0, slots := 0, locals := 42 } (va_Pc [.ref (ad p0), .int p1] (PB g ad n K S0 sz)) (QR (some (.int r9)) (QB g ad n K S9 (dA ad n sz) (True)) (dA ad n sz)) 0 0 (dA ad n sz) := by
  refine Met.ofW (cc := cX9_isDead) (maxL := 2) (ret := (some .boolean)) (by decide) rfl ?_
  intro p e s m args below meth c s₁ B hml hv
  obtain ⟨rfl, hsz, hW, hK, hGs⟩ := x_start hv
  subst hsz
  have hx := B.exec
  have hb := B.bytes
  have hr := B.returns
  have hts := atoms_spec (ws := wsX9_isDead) B.pre
  have hown : s.vm.findClass RX9 = some m.cls := findClass_of_methodNamed B.named
  have hlk := B.notSynchronized
  have hC : Cx g p s m _ c cX9_isDead RX9 wsX9_isDead 2 := ⟨hx, hb, hml, hown, hts, hK⟩
  have hA : ∀ q : Nat, s.heap.size ≤ q → dA ad n s.heap.size q := fun q h => Or.inr h
  have hS : va_S (dA ad n s.heap.size) s.heap s.heap [] := va_S.rf
  have hl := lv_entry ([.ref (ad p0), .int p1]) (n := 2) (Nat.le_of_ble_eq_true rfl)
  rw [lg_entry_eq]
  generalize (lg_sl ([.ref (ad p0), .int p1]) ++ List.replicate (2 - (lg_sl ([.ref (ad p0), .int p1])).length) Slot.unset).toArray = ls at hl ⊢
  have hl : lv_has ls 2 [(0, .ref (ad p0)), (1, .int p1)] := hl
  have hinX9 : ∀ w ∈ wsX90, w ∈ wsX9_isDead := by decide +kernel
  have w_0 := hts (.fieldLink RX9 24 "MailSpool$Store" "deadSince" "[I") (by decide +kernel)
  have w_1 := va_Nw.use (A := (List.toArray [.ref (ad p0), .int p1])) rfl (hGs.1 (.methodLinkNest RX9 48 yX10_at "MailSpool") (by decide +kernel))
  have w_2 := hts (.initialized RX10) (by decide +kernel)
  have w_3 := hts (.static yX10_at) (by decide +kernel)
  have hGE := hGs.2.2.2.1
  have hGM := hGs.2.2.2.2
  unfold f_X9_isDead at hf
  refine lv_aload_n hx hb dX9_isDead_0 rfl (lv_at hl 0 rfl) ?_
  refine lv_iload_n hx hb dX9_isDead_1 rfl (lv_at hl 1 rfl) ?_
  replace hf := obE hf
  obtain ⟨z1, hz1, hf⟩ := hf
  obtain ⟨r3, S2⟩ := z1
  replace hf := ltE (ltE hf r3 rfl) S2 rfl
  refine x_callV (As := [.int p1]) (rest := []) (o := (some (.int r3))) (S1 := S2) hC hl.1 hW hS hGs hA tp0 rfl (show vwCl[8]? = some (RX9, TX9, 8) ∧ ob 8 from ⟨rfl, by decide⟩) (c_X9_isStored l g ad n K s.heap.size F S0 p0 p1 tp0 r3 S2 hz1) (cwV 1 hts gX9_isDead_X9_isStored rfl rfl rfl (by decide +kernel) ⟨Nat.le_of_ble_eq_true rfl, Nat.le_of_ble_eq_true rfl⟩) rfl rfl (Nat.le_of_ble_eq_true rfl) dX9_isDead_2 ⟨Nat.le_of_ble_eq_true rfl, Nat.le_of_ble_eq_true rfl⟩ (fun H locs hPz1 hW hS => ?_)
  refine W.eq (g2 := F0 m 5 ls [.int r3]) rfl ?_
  refine lv_if_eq (tgt := 24) hx hb dX9_isDead_5 (by decide) (fun c5 => ?_) (fun c5 => ?_)
  · replace hf := ifT c5 hf
    refine lv_iconst (v := 0) hx hb dX9_isDead_24 (by decide) ?_
    obtain ⟨e1, e2⟩ := so2 hf
    subst e1
    subst e2
    exact W.zret (v := 0) hx hb hr rfl (fun t ht hWm => ⟨⟨rfl, by unfold QB; rw [ht]; exact ⟨hW, trivial⟩⟩, hS.F ht⟩) hS.2.2 dX9_isDead_25 hlk
  · replace hf := ifF c5 hf
    refine lv_aload_n hx hb dX9_isDead_8 rfl (lv_at hl 0 rfl) ?_
    replace hf := obE hf
    obtain ⟨j6, qj6, hf⟩ := hf
    have tj6 := x_rt hW qj6 12 ⟨by decide, rfl⟩
    refine x_getr 806 (ci := 8) (C := RX9) (T := TX9) (N := 8) 6 hC hinX9 hW tp0 rfl rfl ⟨by decide, by decide, rfl, rfl⟩ rfl w_0 dX9_isDead_9 qj6 ?_
    refine lv_iload_n hx hb dX9_isDead_12 rfl (lv_at hl 1 rfl) ?_
    replace hf := obE hf
    obtain ⟨z7, hz7, hf⟩ := hf
    obtain ⟨r9, S8⟩ := z7
    replace hf := ltE (ltE hf r9 rfl) S8 rfl
    refine x_callSN (As := [.ref (ad j6), .int p1]) (rest := []) (o := (some (.int r9))) (S1 := S8) hC hl.1 hW hS hGs hA (c_X10_at l g ad n K H.size F S2 j6 p1 tj6 r9 S8 hz7) ⟨va_cnB 2 hts gX9_isDead_X10_at_n48 rfl rfl rfl (va_Nw.of rfl w_1) w_2 (by decide +kernel) ⟨Nat.le_of_ble_eq_true rfl, Nat.le_of_ble_eq_true rfl⟩, w_3, trivial⟩ rfl rfl (Nat.le_of_ble_eq_true rfl) dX9_isDead_13 ⟨Nat.le_of_ble_eq_true rfl, Nat.le_of_ble_eq_true rfl⟩ (fun H locs hPz7 hW hS => ?_)
    refine W.eq (g2 := F0 m 16 ls [.int r9]) rfl ?_
    refine lv_iconst (v := -1) hx hb dX9_isDead_16 (by decide) ?_
    refine lv_icmp_eq (tgt := 24) hx hb dX9_isDead_17 (by decide) (fun c11 => ?_) (fun c11 => ?_)
    · replace hf := ifT c11 hf
      refine lv_iconst (v := 0) hx hb dX9_isDead_24 (by decide) ?_
      obtain ⟨e1, e2⟩ := so2 hf
      subst e1
      subst e2
      exact W.zret (v := 0) hx hb hr rfl (fun t ht hWm => ⟨⟨rfl, by unfold QB; rw [ht]; exact ⟨hW, trivial⟩⟩, hS.F ht⟩) hS.2.2 dX9_isDead_25 hlk
    · replace hf := ifF c11 hf
      refine lv_iconst (v := 1) hx hb dX9_isDead_20 (by decide) ?_
      refine lv_goto (tgt := 25) hx hb dX9_isDead_21 (by decide) ?_
      obtain ⟨e1, e2⟩ := so2 hf
      subst e1
      subst e2
      exact W.zret (v := 1) hx hb hr rfl (fun t ht hWm => ⟨⟨rfl, by unfold QB; rw [ht]; exact ⟨hW, trivial⟩⟩, hS.F ht⟩) hS.2.2 dX9_isDead_25 hlk
set_option maxHeartbeats 4000000 in
set_option maxRecDepth 100000 in
theorem c_X9_bytesOf (l : Launch) (g : GP) (ad : Nat → Nat) (n : Nat) (K : Nat → Nat) (sz F : Nat) (S0 : St) (p0 : Nat) (p1 : Int32) (tp0 : p0 < n ∧ K p0 = 8) (r9 : Option Nat) (S9 : St) (hf : f_X9_bytesOf F S0 p0 p1 = some (r9, S9)) : Met l yX9_bytesOf wsX9_bytesOf { frames := 0, cells := 0, slots := 0, locals := 0 } (va_Pc [.ref (ad p0), .int p1] (PB g ad n K S0 sz)) (QR (some (va_re ad r9)) (QB g ad n K S9 (dA ad n sz) (∀ j, r9 = some j → j < n ∧ K j = 0)) (dA ad n sz)) 0 0 (dA ad n sz) := by
  refine Met.ofW (cc := cX9_bytesOf) (maxL := 3) (ret := (some (.object "MailSpool$Bytes"))) (by decide) rfl ?_
  intro p e s m args below meth c s₁ B hml hv
  obtain ⟨rfl, hsz, hW, hK, hGs⟩ := x_start hv
  subst hsz
  have hx := B.exec
  have hb := B.bytes
  have hr := B.returns
  have hts := atoms_spec (ws := wsX9_bytesOf) B.pre
  have hown : s.vm.findClass RX9 = some m.cls := findClass_of_methodNamed B.named
  have hlk := B.notSynchronized
  have hC : Cx g p s m _ c cX9_bytesOf RX9 wsX9_bytesOf 3 := ⟨hx, hb, hml, hown, hts, hK⟩
  have hA : ∀ q : Nat, s.heap.size ≤ q → dA ad n s.heap.size q := fun q h => Or.inr h
  have hS : va_S (dA ad n s.heap.size) s.heap s.heap [] := va_S.rf
  have hl := lv_entry ([.ref (ad p0), .int p1]) (n := 3) (Nat.le_of_ble_eq_true rfl)
  rw [lg_entry_eq]
  generalize (lg_sl ([.ref (ad p0), .int p1]) ++ List.replicate (3 - (lg_sl ([.ref (ad p0), .int p1])).length) Slot.unset).toArray = ls at hl ⊢
  have hl : lv_has ls 3 [(0, .ref (ad p0)), (1, .int p1)] := hl
  have hinX9 : ∀ w ∈ wsX90, w ∈ wsX9_bytesOf := by decide +kernel
  have w_0 := hts (.fieldLink RX9 30 "MailSpool$Store" "noBytes" "LMailSpool$Bytes;") (by decide +kernel)
  have w_1 := hts (.fieldLink RX9 34 "MailSpool$Store" "numbers" "I") (by decide +kernel)
  have w_2 := hts (.fieldLink RX9 11 "MailSpool$Store" "contents" "[LMailSpool$Bytes;") (by decide +kernel)
  have hGE := hGs.2.2.2.1
  have hGM := hGs.2.2.2.2
  have L31 : ∀ (S0 : St) (v0 : Nat) (s0 : Option Nat) (tv0 : v0 < n ∧ K v0 = 8) (ts0 : ∀ j, s0 = some j → j < n ∧ K j = 0) (H : Heap) (locs : List Loc) (ls : Array Slot), f_X9_bytesOf_L31 F S0 v0 s0 = some (r9, S9) → Wb g ad n K S0 (dA ad n s.heap.size) H → va_S (dA ad n s.heap.size) s.heap H locs → lv_has ls 3 [(0, .ref (ad v0))] → W p l e (headSpec wsX9_bytesOf { frames := 0, cells := 0, slots := 0, locals := 0 }).room s m (List.toArray [.ref (ad p0), .int p1]) below meth c H locs 0 0 (MQ below (QR (some (va_re ad r9)) (QB g ad n K S9 (dA ad n s.heap.size) (∀ j, r9 = some j → j < n ∧ K j = 0)) (dA ad n s.heap.size)) (List.toArray [.ref (ad p0), .int p1]) s 0 0 (dA ad n s.heap.size)) (F0 m 31 ls [va_re ad s0]) := by
    intro S0 v0 s0 tv0 ts0 H locs ls hf hW hS hl
    unfold f_X9_bytesOf_L31 at hf
    cases s0 with
    | none =>
      replace hf := osN rfl hf
      refine lv_astore_nN (lv' := [(2, .null), (0, .ref (ad v0))]) hx hb dX9_bytesOf_31 rfl hl (by decide) rfl (fun ls hl => ?_)
      refine lv_aload_nN hx hb dX9_bytesOf_32 rfl (lv_at hl 0 rfl) ?_
      refine lv_ifnonnullN hx hb dX9_bytesOf_33 ?_
      refine lv_aload_n hx hb dX9_bytesOf_36 rfl (lv_at hl 1 rfl) ?_
      replace hf := obE hf
      obtain ⟨j2, qj2, hf⟩ := hf
      have tj2 := x_rt hW qj2 0 ⟨by decide, rfl⟩
      refine x_getr 807 (ci := 8) (C := RX9) (T := TX9) (N := 8) 7 hC hinX9 hW tv0 rfl rfl ⟨by decide, by decide, rfl, rfl⟩ rfl w_0 dX9_bytesOf_37 qj2 ?_
      refine lv_goto (tgt := 44) hx hb dX9_bytesOf_40 (by decide) ?_
      obtain ⟨e1, e2⟩ := so2 hf
      subst e1
      subst e2
      exact W.aret hx hb hr (Or.inl ⟨_, rfl⟩) (Or.inr ⟨_, rfl⟩) (fun t ht hWm => ⟨⟨rfl, by unfold QB; rw [ht]; exact ⟨hW, (fun _ h => by cases h; exact tj2)⟩⟩, hS.F ht⟩) hS.2.2 dX9_bytesOf_44 hlk
    | some js0 =>
      replace hf := osS rfl hf
      have tjs0 := ts0 js0 rfl
      refine lv_astore_n (lv' := [(2, .ref (ad js0)), (0, .ref (ad v0))]) hx hb dX9_bytesOf_31 rfl hl (by decide) rfl (fun ls hl => ?_)
      refine lv_aload_n hx hb dX9_bytesOf_32 rfl (lv_at hl 0 rfl) ?_
      refine lv_ifnonnull (tgt := 43) hx hb dX9_bytesOf_33 (by decide) ?_
      refine lv_aload_n hx hb dX9_bytesOf_43 rfl (lv_at hl 0 rfl) ?_
      obtain ⟨e1, e2⟩ := so2 hf
      subst e1
      subst e2
      exact W.aret hx hb hr (Or.inl ⟨_, rfl⟩) (Or.inr ⟨_, rfl⟩) (fun t ht hWm => ⟨⟨rfl, by unfold QB; rw [ht]; exact ⟨hW, (fun _ h => by cases h; exact tjs0)⟩⟩, hS.F ht⟩) hS.2.2 dX9_bytesOf_44 hlk
  have L30 : ∀ (S0 : St) (v0 : Nat) (tv0 : v0 < n ∧ K v0 = 8) (H : Heap) (locs : List Loc) (ls : Array Slot), f_X9_bytesOf_L30 F S0 v0 = some (r9, S9) → Wb g ad n K S0 (dA ad n s.heap.size) H → va_S (dA ad n s.heap.size) s.heap H locs → lv_has ls 3 [(0, .ref (ad v0))] → W p l e (headSpec wsX9_bytesOf { frames := 0, cells := 0, slots := 0, locals := 0 }).room s m (List.toArray [.ref (ad p0), .int p1]) below meth c H locs 0 0 (MQ below (QR (some (va_re ad r9)) (QB g ad n K S9 (dA ad n s.heap.size) (∀ j, r9 = some j → j < n ∧ K j = 0)) (dA ad n s.heap.size)) (List.toArray [.ref (ad p0), .int p1]) s 0 0 (dA ad n s.heap.size)) (F0 m 30 ls []) := by
    intro S0 v0 tv0 H locs ls hf hW hS hl
    unfold f_X9_bytesOf_L30 at hf
    refine lv_null hx hb dX9_bytesOf_30 ?_
    exact L31 S0 v0 none tv0 (fun _ h => by cases h) _ _ _ hf hW hS (lv_sub hl [0] rfl)
  unfold f_X9_bytesOf at hf
  refine lv_iload_n hx hb dX9_bytesOf_0 rfl (lv_at hl 1 rfl) ?_
  refine lv_if_lt (tgt := 30) hx hb dX9_bytesOf_1 (by decide) (fun c3 => ?_) (fun c3 => ?_)
  · replace hf := ifT c3 hf
    exact L30 S0 p0 tp0 _ _ _ hf hW hS (lv_sub hl [0] rfl)
  · replace hf := ifF c3 hf
    refine lv_iload_n hx hb dX9_bytesOf_4 rfl (lv_at hl 1 rfl) ?_
    refine lv_aload_n hx hb dX9_bytesOf_5 rfl (lv_at hl 0 rfl) ?_
    refine x_geti 800 (ci := 8) (C := RX9) (T := TX9) (N := 8) 0 hC hinX9 hW tp0 rfl rfl ⟨by decide, by decide, rfl, rfl⟩ rfl w_1 dX9_bytesOf_6 ?_
    refine lv_icmp_ge (tgt := 30) hx hb dX9_bytesOf_9 (by decide) (fun c4 => ?_) (fun c4 => ?_)
    · replace hf := ifT c4 hf
      exact L30 S0 p0 tp0 _ _ _ hf hW hS (lv_sub hl [0] rfl)
    · replace hf := ifF c4 hf
      refine lv_iload_n hx hb dX9_bytesOf_12 rfl (lv_at hl 1 rfl) ?_
      refine lv_aload_n hx hb dX9_bytesOf_13 rfl (lv_at hl 0 rfl) ?_
      replace hf := obE hf
      obtain ⟨j5, qj5, hf⟩ := hf
      have tj5 := x_rt hW qj5 14 ⟨by decide, rfl⟩
      refine x_getr 803 (ci := 8) (C := RX9) (T := TX9) (N := 8) 3 hC hinX9 hW tp0 rfl rfl ⟨by decide, by decide, rfl, rfl⟩ rfl w_2 dX9_bytesOf_14 qj5 ?_
      refine x_alen hC hW tj5 rfl ⟨by decide, by decide⟩ dX9_bytesOf_17 ?_
      refine lv_icmp_ge (tgt := 30) hx hb dX9_bytesOf_18 (by decide) (fun c6 => ?_) (fun c6 => ?_)
      · replace hf := ifT c6 hf
        exact L30 S0 p0 tp0 _ _ _ hf hW hS (lv_sub hl [0] rfl)
      · replace hf := ifF c6 hf
        refine lv_aload_n hx hb dX9_bytesOf_21 rfl (lv_at hl 0 rfl) ?_
        replace hf := obE hf
        obtain ⟨j7, qj7, hf⟩ := hf
        have tj7 := x_rt hW qj7 14 ⟨by decide, rfl⟩
        refine x_getr 803 (ci := 8) (C := RX9) (T := TX9) (N := 8) 3 hC hinX9 hW tp0 rfl rfl ⟨by decide, by decide, rfl, rfl⟩ rfl w_2 dX9_bytesOf_22 qj7 ?_
        refine lv_iload_n hx hb dX9_bytesOf_25 rfl (lv_at hl 1 rfl) ?_
        replace hf := ckiE hf
        obtain ⟨h8, hf⟩ := hf
        refine x_aald (t0 := 3) (C := "MailSpool$Bytes") hC hW tj7 rfl ⟨by decide, rfl⟩ h8 dX9_bytesOf_26 (fun qj9 => ?_) (fun j9 qj9 tj9 => ?_)
        · replace hf := osN qj9 hf
          refine lv_goto (tgt := 31) hx hb dX9_bytesOf_27 (by decide) ?_
          exact L31 S0 p0 none tp0 (fun _ h => by cases h) _ _ _ hf hW hS (lv_sub hl [0] rfl)
        · replace hf := osS qj9 hf
          refine lv_goto (tgt := 31) hx hb dX9_bytesOf_27 (by decide) ?_
          exact L31 S0 p0 (some j9) tp0 (fun _ h => by cases h; exact tj9) _ _ _ hf hW hS (lv_sub hl [0] rfl)
set_option maxHeartbeats 4000000 in
set_option maxRecDepth 100000 in
theorem c_X9_byteSum (l : Launch) (g : GP) (ad : Nat → Nat) (n : Nat) (K : Nat → Nat) (sz F : Nat) (S0 : St) (p0 : Nat) (p1 : Int32) (tp0 : p0 < n ∧ K p0 = 8) (r9 : Int32) (S9 : St) (hf : f_X9_byteSum F S0 p0 p1 = some (r9, S9)) : Met l yX9_byteSum wsX9_byteSum { frames := 3, cells := 0, slots := 0, locals := 63 } (va_Pc [.ref (ad p0), .int p1] (PB g ad n K S0 sz)) (QR (some (.int r9)) (QB g ad n K S9 (dA ad n sz) (True)) (dA ad n sz)) 0 0 (dA ad n sz) := by
  refine Met.ofW (cc := cX9_byteSum) (maxL := 4) (ret := (some .int)) (by decide) rfl ?_
  intro p e s m args below meth c s₁ B hml hv
  obtain ⟨rfl, hsz, hW, hK, hGs⟩ := x_start hv
  subst hsz
  have hx := B.exec
  have hb := B.bytes
  have hr := B.returns
  have hts := atoms_spec (ws := wsX9_byteSum) B.pre
  have hown : s.vm.findClass RX9 = some m.cls := findClass_of_methodNamed B.named
  have hlk := B.notSynchronized
  have hC : Cx g p s m _ c cX9_byteSum RX9 wsX9_byteSum 4 := ⟨hx, hb, hml, hown, hts, hK⟩
  have hA : ∀ q : Nat, s.heap.size ≤ q → dA ad n s.heap.size q := fun q h => Or.inr h
  have hS : va_S (dA ad n s.heap.size) s.heap s.heap [] := va_S.rf
  have hl := lv_entry ([.ref (ad p0), .int p1]) (n := 4) (Nat.le_of_ble_eq_true rfl)
  rw [lg_entry_eq]
  generalize (lg_sl ([.ref (ad p0), .int p1]) ++ List.replicate (4 - (lg_sl ([.ref (ad p0), .int p1])).length) Slot.unset).toArray = ls at hl ⊢
  have hl : lv_has ls 4 [(0, .ref (ad p0)), (1, .int p1)] := hl
  have hinX0 : ∀ w ∈ wsX00, w ∈ wsX9_byteSum := by decide +kernel
  have hinX9 : ∀ w ∈ wsX90, w ∈ wsX9_byteSum := by decide +kernel
  have w_0 := va_Nw.use (A := (List.toArray [.ref (ad p0), .int p1])) rfl (hGs.1 (.fieldLinkNest RX9 63 "MailSpool$Bytes" "size" "I" "MailSpool") (by decide +kernel))
  have w_1 := hts (.fieldLink RX9 34 "MailSpool$Store" "numbers" "I") (by decide +kernel)
  have hGE := hGs.2.2.2.1
  have hGM := hGs.2.2.2.2
  have L4 : ∀ (fu4 : Nat) (S0 : St) (v0 : Nat) (v1 : Int32) (v2 : Int32) (v3 : Int32) (tv0 : v0 < n ∧ K v0 = 8) (H : Heap) (locs : List Loc) (ls : Array Slot), f_X9_byteSum_L4 F fu4 S0 v0 v1 v2 v3 = some (r9, S9) → Wb g ad n K S0 (dA ad n s.heap.size) H → va_S (dA ad n s.heap.size) s.heap H locs → lv_has ls 4 [(0, .ref (ad v0)), (1, .int v1), (2, .int v2), (3, .int v3)] → W p l e (headSpec wsX9_byteSum { frames := 3, cells := 0, slots := 0, locals := 63 }).room s m (List.toArray [.ref (ad p0), .int p1]) below meth c H locs 0 0 (MQ below (QR (some (.int r9)) (QB g ad n K S9 (dA ad n s.heap.size) (True)) (dA ad n s.heap.size)) (List.toArray [.ref (ad p0), .int p1]) s 0 0 (dA ad n s.heap.size)) (F0 m 4 ls []) := by
    intro fu4
    induction fu4 with
    | zero =>
      intro S0 v0 v1 v2 v3 tv0 H locs ls hf
      cases hf
    | succ fu4 ih4 =>
      have L46 : ∀ (S0 : St) (v0 : Nat) (v1 : Int32) (v2 : Int32) (v3 : Int32) (tv0 : v0 < n ∧ K v0 = 8) (H : Heap) (locs : List Loc) (ls : Array Slot), f_X9_byteSum_L46 F (fun a0 a1 a2 a3 a4 => f_X9_byteSum_L4 F fu4 a0 a1 a2 a3 a4) S0 v0 v1 v2 v3 = some (r9, S9) → Wb g ad n K S0 (dA ad n s.heap.size) H → va_S (dA ad n s.heap.size) s.heap H locs → lv_has ls 4 [(0, .ref (ad v0)), (1, .int v1), (2, .int v2), (3, .int v3)] → W p l e (headSpec wsX9_byteSum { frames := 3, cells := 0, slots := 0, locals := 63 }).room s m (List.toArray [.ref (ad p0), .int p1]) below meth c H locs 0 0 (MQ below (QR (some (.int r9)) (QB g ad n K S9 (dA ad n s.heap.size) (True)) (dA ad n s.heap.size)) (List.toArray [.ref (ad p0), .int p1]) s 0 0 (dA ad n s.heap.size)) (F0 m 46 ls []) := by
        intro S0 v0 v1 v2 v3 tv0 H locs ls hf hW hS hl
        unfold f_X9_byteSum_L46 at hf
        obtain ⟨x2, ex2⟩ : ∃ z : Int32, z = v3 + 1 := ⟨_, rfl⟩
        replace hf := ltE hf x2 ex2
        refine lv_iinc (v := x2) (lv' := [(3, .int x2), (0, .ref (ad v0)), (1, .int v1), (2, .int v2)]) hx hb dX9_byteSum_46 hl (k := 3) rfl (by rw [ex2]; rfl) (by decide) rfl (fun ls hl => ?_)
        refine lv_goto (tgt := 4) hx hb dX9_byteSum_49 (by decide) ?_
        exact ih4 S0 v0 v1 v2 x2 tv0 _ _ _ hf hW hS (lv_sub hl [1, 2, 3, 0] rfl)
      have L35 : ∀ (S0 : St) (v0 : Nat) (v1 : Int32) (v2 : Int32) (v3 : Int32) (tv0 : v0 < n ∧ K v0 = 8) (H : Heap) (locs : List Loc) (ls : Array Slot), f_X9_byteSum_L35 F (fun a0 a1 a2 a3 a4 => f_X9_byteSum_L4 F fu4 a0 a1 a2 a3 a4) S0 v0 v1 v2 v3 = some (r9, S9) → Wb g ad n K S0 (dA ad n s.heap.size) H → va_S (dA ad n s.heap.size) s.heap H locs → lv_has ls 4 [(0, .ref (ad v0)), (1, .int v1), (2, .int v2), (3, .int v3)] → W p l e (headSpec wsX9_byteSum { frames := 3, cells := 0, slots := 0, locals := 63 }).room s m (List.toArray [.ref (ad p0), .int p1]) below meth c H locs 0 0 (MQ below (QR (some (.int r9)) (QB g ad n K S9 (dA ad n s.heap.size) (True)) (dA ad n s.heap.size)) (List.toArray [.ref (ad p0), .int p1]) s 0 0 (dA ad n s.heap.size)) (F0 m 35 ls []) := by
        intro S0 v0 v1 v2 v3 tv0 H locs ls hf hW hS hl
        unfold f_X9_byteSum_L35 at hf
        refine lv_iload_n hx hb dX9_byteSum_35 rfl (lv_at hl 2 rfl) ?_
        refine lv_aload_n hx hb dX9_byteSum_36 rfl (lv_at hl 0 rfl) ?_
        refine lv_iload_n hx hb dX9_byteSum_37 rfl (lv_at hl 3 rfl) ?_
        replace hf := obE hf
        obtain ⟨z9, hz9, hf⟩ := hf
        obtain ⟨r11, S10⟩ := z9
        replace hf := ltE (ltE hf r11 rfl) S10 rfl
        refine x_callV (As := [.int v3]) (rest := [.int v2]) (o := (some (va_re ad r11))) (S1 := S10) hC hl.1 hW hS hGs hA tv0 rfl (show vwCl[8]? = some (RX9, TX9, 8) ∧ ob 8 from ⟨rfl, by decide⟩) (c_X9_bytesOf l g ad n K H.size F S0 v0 v3 tv0 r11 S10 hz9) (cwV 1 hts gX9_byteSum_X9_bytesOf rfl rfl rfl (by decide +kernel) ⟨Nat.le_of_ble_eq_true rfl, Nat.le_of_ble_eq_true rfl⟩) rfl rfl (Nat.le_of_ble_eq_true rfl) dX9_byteSum_38 ⟨Nat.le_of_ble_eq_true rfl, Nat.le_of_ble_eq_true rfl⟩ (fun H locs hPz9 hW hS => ?_)
        replace hf := obE hf
        obtain ⟨j13, qj13, hf⟩ := hf
        have tj13 := hPz9 j13 qj13
        refine W.eq (g2 := F0 m 41 ls [.ref (ad j13), .int v2]) (by rw [qj13]; rfl) ?_
        refine x_getiN 1 (ci := 0) (C := RX0) (T := TX0) (N := 2) 1 hC hinX0 hW tj13 rfl rfl ⟨by decide, by decide, rfl, rfl⟩ rfl w_0 dX9_byteSum_41 ?_
        refine lv_iadd hx hb dX9_byteSum_44 ?_
        refine lv_topi (fun x14 ex14 => ?_)
        replace hf := ltE hf x14 ex14
        refine lv_istore_n (lv' := [(2, .int x14), (0, .ref (ad v0)), (1, .int v1), (3, .int v3)]) hx hb dX9_byteSum_45 rfl hl (by decide) rfl (fun ls hl => ?_)
        exact L46 S10 v0 v1 x14 v3 tv0 _ _ _ hf hW hS (lv_sub hl [1, 2, 0, 3] rfl)
      intro S0 v0 v1 v2 v3 tv0 H locs ls hf hW hS hl
      unfold f_X9_byteSum_L4 at hf
      refine lv_iload_n hx hb dX9_byteSum_4 rfl (lv_at hl 3 rfl) ?_
      refine lv_aload_n hx hb dX9_byteSum_5 rfl (lv_at hl 0 rfl) ?_
      refine x_geti 800 (ci := 8) (C := RX9) (T := TX9) (N := 8) 0 hC hinX9 hW tv0 rfl rfl ⟨by decide, by decide, rfl, rfl⟩ rfl w_1 dX9_byteSum_6 ?_
      refine lv_icmp_ge (tgt := 52) hx hb dX9_byteSum_9 (by decide) (fun c27 => ?_) (fun c27 => ?_)
      · replace hf := ifT c27 hf
        refine lv_iload_n hx hb dX9_byteSum_52 rfl (lv_at hl 2 rfl) ?_
        obtain ⟨e1, e2⟩ := so2 hf
        subst e1
        subst e2
        exact W.iret (v := v2) hx hb hr (fun t ht hWm => ⟨⟨rfl, by unfold QB; rw [ht]; exact ⟨hW, trivial⟩⟩, hS.F ht⟩) hS.2.2 dX9_byteSum_53 hlk
      · replace hf := ifF c27 hf
        refine lv_iload_n hx hb dX9_byteSum_12 rfl (lv_at hl 1 rfl) ?_
        refine lv_if_eq (tgt := 27) hx hb dX9_byteSum_13 (by decide) (fun c28 => ?_) (fun c28 => ?_)
        · replace hf := ifT c28 hf
          refine lv_aload_n hx hb dX9_byteSum_27 rfl (lv_at hl 0 rfl) ?_
          refine lv_iload_n hx hb dX9_byteSum_28 rfl (lv_at hl 3 rfl) ?_
          replace hf := obE hf
          obtain ⟨z29, hz29, hf⟩ := hf
          obtain ⟨r31, S30⟩ := z29
          replace hf := ltE (ltE hf r31 rfl) S30 rfl
          refine x_callV (As := [.int v3]) (rest := []) (o := (some (.int r31))) (S1 := S30) hC hl.1 hW hS hGs hA tv0 rfl (show vwCl[8]? = some (RX9, TX9, 8) ∧ ob 8 from ⟨rfl, by decide⟩) (c_X9_isStored l g ad n K H.size F S0 v0 v3 tv0 r31 S30 hz29) (cwV 1 hts gX9_byteSum_X9_isStored rfl rfl rfl (by decide +kernel) ⟨Nat.le_of_ble_eq_true rfl, Nat.le_of_ble_eq_true rfl⟩) rfl rfl (Nat.le_of_ble_eq_true rfl) dX9_byteSum_29 ⟨Nat.le_of_ble_eq_true rfl, Nat.le_of_ble_eq_true rfl⟩ (fun H locs hPz29 hW hS => ?_)
          refine W.eq (g2 := F0 m 32 ls [.int r31]) rfl ?_
          refine lv_if_eq (tgt := 46) hx hb dX9_byteSum_32 (by decide) (fun c33 => ?_) (fun c33 => ?_)
          · replace hf := ifT c33 hf
            exact L46 S30 v0 v1 v2 v3 tv0 _ _ _ hf hW hS (lv_sub hl [0, 1, 2, 3] rfl)
          · replace hf := ifF c33 hf
            exact L35 S30 v0 v1 v2 v3 tv0 _ _ _ hf hW hS (lv_sub hl [0, 1, 2, 3] rfl)
        · replace hf := ifF c28 hf
          refine lv_aload_n hx hb dX9_byteSum_16 rfl (lv_at hl 0 rfl) ?_
          refine lv_iload_n hx hb dX9_byteSum_17 rfl (lv_at hl 3 rfl) ?_
          replace hf := obE hf
          obtain ⟨z34, hz34, hf⟩ := hf
          obtain ⟨r36, S35⟩ := z34
          replace hf := ltE (ltE hf r36 rfl) S35 rfl
          refine x_callV (As := [.int v3]) (rest := []) (o := (some (.int r36))) (S1 := S35) hC hl.1 hW hS hGs hA tv0 rfl (show vwCl[8]? = some (RX9, TX9, 8) ∧ ob 8 from ⟨rfl, by decide⟩) (c_X9_isDead l g ad n K H.size F S0 v0 v3 tv0 r36 S35 hz34) (cwV 1 hts gX9_byteSum_X9_isDead rfl rfl rfl (by decide +kernel) ⟨Nat.le_of_ble_eq_true rfl, Nat.le_of_ble_eq_true rfl⟩) rfl rfl (Nat.le_of_ble_eq_true rfl) dX9_byteSum_18 ⟨Nat.le_of_ble_eq_true rfl, Nat.le_of_ble_eq_true rfl⟩ (fun H locs hPz34 hW hS => ?_)
          refine W.eq (g2 := F0 m 21 ls [.int r36]) rfl ?_
          refine lv_if_eq (tgt := 46) hx hb dX9_byteSum_21 (by decide) (fun c38 => ?_) (fun c38 => ?_)
          · replace hf := ifT c38 hf
            exact L46 S35 v0 v1 v2 v3 tv0 _ _ _ hf hW hS (lv_sub hl [0, 1, 2, 3] rfl)
          · replace hf := ifF c38 hf
            refine lv_goto (tgt := 35) hx hb dX9_byteSum_24 (by decide) ?_
            exact L35 S35 v0 v1 v2 v3 tv0 _ _ _ hf hW hS (lv_sub hl [0, 1, 2, 3] rfl)
  unfold f_X9_byteSum at hf
  refine lv_iconst (v := 0) hx hb dX9_byteSum_0 (by decide) ?_
  refine lv_istore_n (lv' := [(2, .int 0), (0, .ref (ad p0)), (1, .int p1)]) hx hb dX9_byteSum_1 rfl hl (by decide) rfl (fun ls hl => ?_)
  refine lv_iconst (v := 0) hx hb dX9_byteSum_2 (by decide) ?_
  refine lv_istore_n (lv' := [(3, .int 0), (2, .int 0), (0, .ref (ad p0)), (1, .int p1)]) hx hb dX9_byteSum_3 rfl hl (by decide) rfl (fun ls hl => ?_)
  exact L4 F S0 p0 p1 0 0 tp0 _ _ _ hf hW hS (lv_sub hl [2, 3, 1, 0] rfl)
set_option maxHeartbeats 4000000 in
set_option maxRecDepth 100000 in
theorem c_X1_sizeAt (l : Launch) (g : GP) (ad : Nat → Nat) (n : Nat) (K : Nat → Nat) (sz F : Nat) (S0 : St) (p0 : Nat) (p1 : Int32) (tp0 : p0 < n ∧ K p0 = 1) (r9 : Int32) (S9 : St) (hf : f_X1_sizeAt F S0 p0 p1 = some (r9, S9)) : Met l yX1_sizeAt wsX1_sizeAt { frames := 1, cells := 0, slots := 0, locals := 21 } (va_Pc [.ref (ad p0), .int p1] (PB g ad n K S0 sz)) (QR (some (.int r9)) (QB g ad n K S9 (dA ad n sz) (True)) (dA ad n sz)) 0 0 (dA ad n sz) := by
  refine Met.ofW (cc := cX1_sizeAt) (maxL := 2) (ret := (some .int)) (by decide) rfl ?_
  intro p e s m args below meth c s₁ B hml hv
  obtain ⟨rfl, hsz, hW, hK, hGs⟩ := x_start hv
  subst hsz
  have hx := B.exec
  have hb := B.bytes
  have hr := B.returns
  have hts := atoms_spec (ws := wsX1_sizeAt) B.pre
  have hown : s.vm.findClass RX1 = some m.cls := findClass_of_methodNamed B.named
  have hlk := B.notSynchronized
  have hC : Cx g p s m _ c cX1_sizeAt RX1 wsX1_sizeAt 2 := ⟨hx, hb, hml, hown, hts, hK⟩
  have hA : ∀ q : Nat, s.heap.size ≤ q → dA ad n s.heap.size q := fun q h => Or.inr h
  have hS : va_S (dA ad n s.heap.size) s.heap s.heap [] := va_S.rf
  have hl := lv_entry ([.ref (ad p0), .int p1]) (n := 2) (Nat.le_of_ble_eq_true rfl)
  rw [lg_entry_eq]
  generalize (lg_sl ([.ref (ad p0), .int p1]) ++ List.replicate (2 - (lg_sl ([.ref (ad p0), .int p1])).length) Slot.unset).toArray = ls at hl ⊢
  have hl : lv_has ls 2 [(0, .ref (ad p0)), (1, .int p1)] := hl
  have hinX1 : ∀ w ∈ wsX10, w ∈ wsX1_sizeAt := by decide +kernel
  have w_0 := hts (.fieldLink RX1 19 "MailSpool$Content" "ends" "[I") (by decide +kernel)
  have w_1 := va_Nw.use (A := (List.toArray [.ref (ad p0), .int p1])) rfl (hGs.1 (.methodLinkNest RX1 39 yX10_at "MailSpool") (by decide +kernel))
  have w_2 := hts (.initialized RX10) (by decide +kernel)
  have w_3 := hts (.static yX10_at) (by decide +kernel)
  have w_4 := hts (.fieldLink RX1 15 "MailSpool$Content" "starts" "[I") (by decide +kernel)
  have hGE := hGs.2.2.2.1
  have hGM := hGs.2.2.2.2
  unfold f_X1_sizeAt at hf
  refine lv_aload_n hx hb dX1_sizeAt_0 rfl (lv_at hl 0 rfl) ?_
  replace hf := obE hf
  obtain ⟨j1, qj1, hf⟩ := hf
  have tj1 := x_rt hW qj1 12 ⟨by decide, rfl⟩
  refine x_getr 102 (ci := 1) (C := RX1) (T := TX1) (N := 4) 2 hC hinX1 hW tp0 rfl rfl ⟨by decide, by decide, rfl, rfl⟩ rfl w_0 dX1_sizeAt_1 qj1 ?_
  refine lv_iload_n hx hb dX1_sizeAt_4 rfl (lv_at hl 1 rfl) ?_
  replace hf := obE hf
  obtain ⟨z2, hz2, hf⟩ := hf
  obtain ⟨r4, S3⟩ := z2
  replace hf := ltE (ltE hf r4 rfl) S3 rfl
  refine x_callSN (As := [.ref (ad j1), .int p1]) (rest := []) (o := (some (.int r4))) (S1 := S3) hC hl.1 hW hS hGs hA (c_X10_at l g ad n K s.heap.size F S0 j1 p1 tj1 r4 S3 hz2) ⟨va_cnB 2 hts gX1_sizeAt_X10_at_n39 rfl rfl rfl (va_Nw.of rfl w_1) w_2 (by decide +kernel) ⟨Nat.le_of_ble_eq_true rfl, Nat.le_of_ble_eq_true rfl⟩, w_3, trivial⟩ rfl rfl (Nat.le_of_ble_eq_true rfl) dX1_sizeAt_5 ⟨Nat.le_of_ble_eq_true rfl, Nat.le_of_ble_eq_true rfl⟩ (fun H locs hPz2 hW hS => ?_)
  refine W.eq (g2 := F0 m 8 ls [.int r4]) rfl ?_
  refine lv_aload_n hx hb dX1_sizeAt_8 rfl (lv_at hl 0 rfl) ?_
  replace hf := obE hf
  obtain ⟨j6, qj6, hf⟩ := hf
  have tj6 := x_rt hW qj6 12 ⟨by decide, rfl⟩
  refine x_getr 101 (ci := 1) (C := RX1) (T := TX1) (N := 4) 1 hC hinX1 hW tp0 rfl rfl ⟨by decide, by decide, rfl, rfl⟩ rfl w_4 dX1_sizeAt_9 qj6 ?_
  refine lv_iload_n hx hb dX1_sizeAt_12 rfl (lv_at hl 1 rfl) ?_
  replace hf := obE hf
  obtain ⟨z7, hz7, hf⟩ := hf
  obtain ⟨r9, S8⟩ := z7
  replace hf := ltE (ltE hf r9 rfl) S8 rfl
  refine x_callSN (As := [.ref (ad j6), .int p1]) (rest := [.int r4]) (o := (some (.int r9))) (S1 := S8) hC hl.1 hW hS hGs hA (c_X10_at l g ad n K H.size F S3 j6 p1 tj6 r9 S8 hz7) ⟨va_cnB 2 hts gX1_sizeAt_X10_at_n39 rfl rfl rfl (va_Nw.of rfl w_1) w_2 (by decide +kernel) ⟨Nat.le_of_ble_eq_true rfl, Nat.le_of_ble_eq_true rfl⟩, w_3, trivial⟩ rfl rfl (Nat.le_of_ble_eq_true rfl) dX1_sizeAt_13 ⟨Nat.le_of_ble_eq_true rfl, Nat.le_of_ble_eq_true rfl⟩ (fun H locs hPz7 hW hS => ?_)
  refine W.eq (g2 := F0 m 16 ls [.int r9, .int r4]) rfl ?_
  refine lv_isub hx hb dX1_sizeAt_16 ?_
  obtain ⟨e1, e2⟩ := so2 hf
  subst e1
  subst e2
  exact W.iret (v := r4 - r9) hx hb hr (fun t ht hWm => ⟨⟨rfl, by unfold QB; rw [ht]; exact ⟨hW, trivial⟩⟩, hS.F ht⟩) hS.2.2 dX1_sizeAt_17 hlk
set_option maxHeartbeats 4000000 in
set_option maxRecDepth 100000 in
theorem c_X1_areEqual (l : Launch) (g : GP) (ad : Nat → Nat) (n : Nat) (K : Nat → Nat) (sz F : Nat) (S0 : St) (p0 : Nat) (p1 : Int32) (p2 : Int32) (tp0 : p0 < n ∧ K p0 = 1) (r9 : Int32) (S9 : St) (hf : f_X1_areEqual F S0 p0 p1 p2 = some (r9, S9)) : Met l yX1_areEqual wsX1_areEqual { frames := 2, cells := 0, slots := 0, locals := 42 } (va_Pc [.ref (ad p0), .int p1, .int p2] (PB g ad n K S0 sz)) (QR (some (.int r9)) (QB g ad n K S9 (dA ad n sz) (True)) (dA ad n sz)) 0 0 (dA ad n sz) := by
  refine Met.ofW (cc := cX1_areEqual) (maxL := 4) (ret := (some .boolean)) (by decide) rfl ?_
  intro p e s m args below meth c s₁ B hml hv
  obtain ⟨rfl, hsz, hW, hK, hGs⟩ := x_start hv
  subst hsz
  have hx := B.exec
  have hb := B.bytes
  have hr := B.returns
  have hts := atoms_spec (ws := wsX1_areEqual) B.pre
  have hown : s.vm.findClass RX1 = some m.cls := findClass_of_methodNamed B.named
  have hlk := B.notSynchronized
  have hC : Cx g p s m _ c cX1_areEqual RX1 wsX1_areEqual 4 := ⟨hx, hb, hml, hown, hts, hK⟩
  have hA : ∀ q : Nat, s.heap.size ≤ q → dA ad n s.heap.size q := fun q h => Or.inr h
  have hS : va_S (dA ad n s.heap.size) s.heap s.heap [] := va_S.rf
  have hl := lv_entry ([.ref (ad p0), .int p1, .int p2]) (n := 4) (Nat.le_of_ble_eq_true rfl)
  rw [lg_entry_eq]
  generalize (lg_sl ([.ref (ad p0), .int p1, .int p2]) ++ List.replicate (4 - (lg_sl ([.ref (ad p0), .int p1, .int p2])).length) Slot.unset).toArray = ls at hl ⊢
  have hl : lv_has ls 4 [(0, .ref (ad p0)), (1, .int p1), (2, .int p2)] := hl
  have hinX1 : ∀ w ∈ wsX10, w ∈ wsX1_areEqual := by decide +kernel
  have w_0 := hts (.fieldLink RX1 9 "MailSpool$Content" "text" "LMailSpool$Bytes;") (by decide +kernel)
  have w_1 := hts (.fieldLink RX1 15 "MailSpool$Content" "starts" "[I") (by decide +kernel)
  have w_2 := va_Nw.use (A := (List.toArray [.ref (ad p0), .int p1, .int p2])) rfl (hGs.1 (.methodLinkNest RX1 39 yX10_at "MailSpool") (by decide +kernel))
  have w_3 := hts (.initialized RX10) (by decide +kernel)
  have w_4 := hts (.static yX10_at) (by decide +kernel)
  have hGE := hGs.2.2.2.1
  have hGM := hGs.2.2.2.2
  have L17 : ∀ (fu17 : Nat) (S0 : St) (v0 : Nat) (v1 : Int32) (v2 : Int32) (v3 : Int32) (tv0 : v0 < n ∧ K v0 = 1) (H : Heap) (locs : List Loc) (ls : Array Slot), f_X1_areEqual_L17 F fu17 S0 v0 v1 v2 v3 = some (r9, S9) → Wb g ad n K S0 (dA ad n s.heap.size) H → va_S (dA ad n s.heap.size) s.heap H locs → lv_has ls 4 [(0, .ref (ad v0)), (1, .int v1), (2, .int v2), (3, .int v3)] → W p l e (headSpec wsX1_areEqual { frames := 2, cells := 0, slots := 0, locals := 42 }).room s m (List.toArray [.ref (ad p0), .int p1, .int p2]) below meth c H locs 0 0 (MQ below (QR (some (.int r9)) (QB g ad n K S9 (dA ad n s.heap.size) (True)) (dA ad n s.heap.size)) (List.toArray [.ref (ad p0), .int p1, .int p2]) s 0 0 (dA ad n s.heap.size)) (F0 m 17 ls []) := by
    intro fu17
    induction fu17 with
    | zero =>
      intro S0 v0 v1 v2 v3 tv0 H locs ls hf
      cases hf
    | succ fu17 ih17 =>
      intro S0 v0 v1 v2 v3 tv0 H locs ls hf hW hS hl
      unfold f_X1_areEqual_L17 at hf
      refine lv_iload_n hx hb dX1_areEqual_17 rfl (lv_at hl 3 rfl) ?_
      refine lv_aload_n hx hb dX1_areEqual_18 rfl (lv_at hl 0 rfl) ?_
      refine lv_iload_n hx hb dX1_areEqual_19 rfl (lv_at hl 1 rfl) ?_
      replace hf := obE hf
      obtain ⟨z28, hz28, hf⟩ := hf
      obtain ⟨r30, S29⟩ := z28
      replace hf := ltE (ltE hf r30 rfl) S29 rfl
      refine x_callV (As := [.int v1]) (rest := [.int v3]) (o := (some (.int r30))) (S1 := S29) hC hl.1 hW hS hGs hA tv0 rfl (show vwCl[1]? = some (RX1, TX1, 4) ∧ ob 1 from ⟨rfl, by decide⟩) (c_X1_sizeAt l g ad n K H.size F S0 v0 v1 tv0 r30 S29 hz28) (cwV 1 hts gX1_areEqual_X1_sizeAt rfl rfl rfl (by decide +kernel) ⟨Nat.le_of_ble_eq_true rfl, Nat.le_of_ble_eq_true rfl⟩) rfl rfl (Nat.le_of_ble_eq_true rfl) dX1_areEqual_20 ⟨Nat.le_of_ble_eq_true rfl, Nat.le_of_ble_eq_true rfl⟩ (fun H locs hPz28 hW hS => ?_)
      refine W.eq (g2 := F0 m 23 ls [.int r30, .int v3]) rfl ?_
      refine lv_icmp_ge (tgt := 71) hx hb dX1_areEqual_23 (by decide) (fun c32 => ?_) (fun c32 => ?_)
      · replace hf := ifT c32 hf
        refine lv_iconst (v := 1) hx hb dX1_areEqual_71 (by decide) ?_
        obtain ⟨e1, e2⟩ := so2 hf
        subst e1
        subst e2
        exact W.zret (v := 1) hx hb hr rfl (fun t ht hWm => ⟨⟨rfl, by unfold QB; rw [ht]; exact ⟨hW, trivial⟩⟩, hS.F ht⟩) hS.2.2 dX1_areEqual_72 hlk
      · replace hf := ifF c32 hf
        refine lv_aload_n hx hb dX1_areEqual_26 rfl (lv_at hl 0 rfl) ?_
        replace hf := obE hf
        obtain ⟨j33, qj33, hf⟩ := hf
        have tj33 := x_rt hW qj33 0 ⟨by decide, rfl⟩
        refine x_getr 100 (ci := 1) (C := RX1) (T := TX1) (N := 4) 0 hC hinX1 hW tv0 rfl rfl ⟨by decide, by decide, rfl, rfl⟩ rfl w_0 dX1_areEqual_27 qj33 ?_
        refine lv_aload_n hx hb dX1_areEqual_30 rfl (lv_at hl 0 rfl) ?_
        replace hf := obE hf
        obtain ⟨j34, qj34, hf⟩ := hf
        have tj34 := x_rt hW qj34 12 ⟨by decide, rfl⟩
        refine x_getr 101 (ci := 1) (C := RX1) (T := TX1) (N := 4) 1 hC hinX1 hW tv0 rfl rfl ⟨by decide, by decide, rfl, rfl⟩ rfl w_1 dX1_areEqual_31 qj34 ?_
        refine lv_iload_n hx hb dX1_areEqual_34 rfl (lv_at hl 1 rfl) ?_
        replace hf := obE hf
        obtain ⟨z35, hz35, hf⟩ := hf
        obtain ⟨r37, S36⟩ := z35
        replace hf := ltE (ltE hf r37 rfl) S36 rfl
        refine x_callSN (As := [.ref (ad j34), .int v1]) (rest := [.ref (ad j33)]) (o := (some (.int r37))) (S1 := S36) hC hl.1 hW hS hGs hA (c_X10_at l g ad n K H.size F S29 j34 v1 tj34 r37 S36 hz35) ⟨va_cnB 2 hts gX1_areEqual_X10_at_n39 rfl rfl rfl (va_Nw.of rfl w_2) w_3 (by decide +kernel) ⟨Nat.le_of_ble_eq_true rfl, Nat.le_of_ble_eq_true rfl⟩, w_4, trivial⟩ rfl rfl (Nat.le_of_ble_eq_true rfl) dX1_areEqual_35 ⟨Nat.le_of_ble_eq_true rfl, Nat.le_of_ble_eq_true rfl⟩ (fun H locs hPz35 hW hS => ?_)
        refine W.eq (g2 := F0 m 38 ls [.int r37, .ref (ad j33)]) rfl ?_
        refine lv_iload_n hx hb dX1_areEqual_38 rfl (lv_at hl 3 rfl) ?_
        refine lv_iadd hx hb dX1_areEqual_39 ?_
        replace hf := obE hf
        obtain ⟨z39, hz39, hf⟩ := hf
        obtain ⟨r41, S40⟩ := z39
        replace hf := ltE (ltE hf r41 rfl) S40 rfl
        refine x_callV (As := [.int (r37 + v3)]) (rest := []) (o := (some (.int r41))) (S1 := S40) hC hl.1 hW hS hGs hA tj33 rfl (show vwCl[0]? = some (RX0, TX0, 2) ∧ ob 0 from ⟨rfl, by decide⟩) (c_X0_byteAt l g ad n K H.size F S36 j33 (r37 + v3) tj33 r41 S40 hz39) (cwV 1 hts gX1_areEqual_X0_byteAt rfl rfl rfl (by decide +kernel) ⟨Nat.le_of_ble_eq_true rfl, Nat.le_of_ble_eq_true rfl⟩) rfl rfl (Nat.le_of_ble_eq_true rfl) dX1_areEqual_40 ⟨Nat.le_of_ble_eq_true rfl, Nat.le_of_ble_eq_true rfl⟩ (fun H locs hPz39 hW hS => ?_)
        refine W.eq (g2 := F0 m 43 ls [.int r41]) rfl ?_
        refine lv_aload_n hx hb dX1_areEqual_43 rfl (lv_at hl 0 rfl) ?_
        replace hf := obE hf
        obtain ⟨j43, qj43, hf⟩ := hf
        have tj43 := x_rt hW qj43 0 ⟨by decide, rfl⟩
        refine x_getr 100 (ci := 1) (C := RX1) (T := TX1) (N := 4) 0 hC hinX1 hW tv0 rfl rfl ⟨by decide, by decide, rfl, rfl⟩ rfl w_0 dX1_areEqual_44 qj43 ?_
        refine lv_aload_n hx hb dX1_areEqual_47 rfl (lv_at hl 0 rfl) ?_
        replace hf := obE hf
        obtain ⟨j44, qj44, hf⟩ := hf
        have tj44 := x_rt hW qj44 12 ⟨by decide, rfl⟩
        refine x_getr 101 (ci := 1) (C := RX1) (T := TX1) (N := 4) 1 hC hinX1 hW tv0 rfl rfl ⟨by decide, by decide, rfl, rfl⟩ rfl w_1 dX1_areEqual_48 qj44 ?_
        refine lv_iload_n hx hb dX1_areEqual_51 rfl (lv_at hl 2 rfl) ?_
        replace hf := obE hf
        obtain ⟨z45, hz45, hf⟩ := hf
        obtain ⟨r47, S46⟩ := z45
        replace hf := ltE (ltE hf r47 rfl) S46 rfl
        refine x_callSN (As := [.ref (ad j44), .int v2]) (rest := [.ref (ad j43), .int r41]) (o := (some (.int r47))) (S1 := S46) hC hl.1 hW hS hGs hA (c_X10_at l g ad n K H.size F S40 j44 v2 tj44 r47 S46 hz45) ⟨va_cnB 2 hts gX1_areEqual_X10_at_n39 rfl rfl rfl (va_Nw.of rfl w_2) w_3 (by decide +kernel) ⟨Nat.le_of_ble_eq_true rfl, Nat.le_of_ble_eq_true rfl⟩, w_4, trivial⟩ rfl rfl (Nat.le_of_ble_eq_true rfl) dX1_areEqual_52 ⟨Nat.le_of_ble_eq_true rfl, Nat.le_of_ble_eq_true rfl⟩ (fun H locs hPz45 hW hS => ?_)
        refine W.eq (g2 := F0 m 55 ls [.int r47, .ref (ad j43), .int r41]) rfl ?_
        refine lv_iload_n hx hb dX1_areEqual_55 rfl (lv_at hl 3 rfl) ?_
        refine lv_iadd hx hb dX1_areEqual_56 ?_
        replace hf := obE hf
        obtain ⟨z49, hz49, hf⟩ := hf
        obtain ⟨r51, S50⟩ := z49
        replace hf := ltE (ltE hf r51 rfl) S50 rfl
        refine x_callV (As := [.int (r47 + v3)]) (rest := [.int r41]) (o := (some (.int r51))) (S1 := S50) hC hl.1 hW hS hGs hA tj43 rfl (show vwCl[0]? = some (RX0, TX0, 2) ∧ ob 0 from ⟨rfl, by decide⟩) (c_X0_byteAt l g ad n K H.size F S46 j43 (r47 + v3) tj43 r51 S50 hz49) (cwV 1 hts gX1_areEqual_X0_byteAt rfl rfl rfl (by decide +kernel) ⟨Nat.le_of_ble_eq_true rfl, Nat.le_of_ble_eq_true rfl⟩) rfl rfl (Nat.le_of_ble_eq_true rfl) dX1_areEqual_57 ⟨Nat.le_of_ble_eq_true rfl, Nat.le_of_ble_eq_true rfl⟩ (fun H locs hPz49 hW hS => ?_)
        refine W.eq (g2 := F0 m 60 ls [.int r51, .int r41]) rfl ?_
        refine lv_icmp_eq (tgt := 65) hx hb dX1_areEqual_60 (by decide) (fun c53 => ?_) (fun c53 => ?_)
        · replace hf := ifT c53 hf
          obtain ⟨x54, ex54⟩ : ∃ z : Int32, z = v3 + 1 := ⟨_, rfl⟩
          replace hf := ltE hf x54 ex54
          refine lv_iinc (v := x54) (lv' := [(3, .int x54), (0, .ref (ad v0)), (1, .int v1), (2, .int v2)]) hx hb dX1_areEqual_65 hl (k := 3) rfl (by rw [ex54]; rfl) (by decide) rfl (fun ls hl => ?_)
          refine lv_goto (tgt := 17) hx hb dX1_areEqual_68 (by decide) ?_
          exact ih17 S50 v0 v1 v2 x54 tv0 _ _ _ hf hW hS (lv_sub hl [1, 2, 3, 0] rfl)
        · replace hf := ifF c53 hf
          refine lv_iconst (v := 0) hx hb dX1_areEqual_63 (by decide) ?_
          obtain ⟨e1, e2⟩ := so2 hf
          subst e1
          subst e2
          exact W.zret (v := 0) hx hb hr rfl (fun t ht hWm => ⟨⟨rfl, by unfold QB; rw [ht]; exact ⟨hW, trivial⟩⟩, hS.F ht⟩) hS.2.2 dX1_areEqual_64 hlk
  unfold f_X1_areEqual at hf
  refine lv_aload_n hx hb dX1_areEqual_0 rfl (lv_at hl 0 rfl) ?_
  refine lv_iload_n hx hb dX1_areEqual_1 rfl (lv_at hl 1 rfl) ?_
  replace hf := obE hf
  obtain ⟨z55, hz55, hf⟩ := hf
  obtain ⟨r57, S56⟩ := z55
  replace hf := ltE (ltE hf r57 rfl) S56 rfl
  refine x_callV (As := [.int p1]) (rest := []) (o := (some (.int r57))) (S1 := S56) hC hl.1 hW hS hGs hA tp0 rfl (show vwCl[1]? = some (RX1, TX1, 4) ∧ ob 1 from ⟨rfl, by decide⟩) (c_X1_sizeAt l g ad n K s.heap.size F S0 p0 p1 tp0 r57 S56 hz55) (cwV 1 hts gX1_areEqual_X1_sizeAt rfl rfl rfl (by decide +kernel) ⟨Nat.le_of_ble_eq_true rfl, Nat.le_of_ble_eq_true rfl⟩) rfl rfl (Nat.le_of_ble_eq_true rfl) dX1_areEqual_2 ⟨Nat.le_of_ble_eq_true rfl, Nat.le_of_ble_eq_true rfl⟩ (fun H locs hPz55 hW hS => ?_)
  refine W.eq (g2 := F0 m 5 ls [.int r57]) rfl ?_
  refine lv_aload_n hx hb dX1_areEqual_5 rfl (lv_at hl 0 rfl) ?_
  refine lv_iload_n hx hb dX1_areEqual_6 rfl (lv_at hl 2 rfl) ?_
  replace hf := obE hf
  obtain ⟨z59, hz59, hf⟩ := hf
  obtain ⟨r61, S60⟩ := z59
  replace hf := ltE (ltE hf r61 rfl) S60 rfl
  refine x_callV (As := [.int p2]) (rest := [.int r57]) (o := (some (.int r61))) (S1 := S60) hC hl.1 hW hS hGs hA tp0 rfl (show vwCl[1]? = some (RX1, TX1, 4) ∧ ob 1 from ⟨rfl, by decide⟩) (c_X1_sizeAt l g ad n K H.size F S56 p0 p2 tp0 r61 S60 hz59) (cwV 1 hts gX1_areEqual_X1_sizeAt rfl rfl rfl (by decide +kernel) ⟨Nat.le_of_ble_eq_true rfl, Nat.le_of_ble_eq_true rfl⟩) rfl rfl (Nat.le_of_ble_eq_true rfl) dX1_areEqual_7 ⟨Nat.le_of_ble_eq_true rfl, Nat.le_of_ble_eq_true rfl⟩ (fun H locs hPz59 hW hS => ?_)
  refine W.eq (g2 := F0 m 10 ls [.int r61, .int r57]) rfl ?_
  refine lv_icmp_eq (tgt := 15) hx hb dX1_areEqual_10 (by decide) (fun c63 => ?_) (fun c63 => ?_)
  · replace hf := ifT c63 hf
    refine lv_iconst (v := 0) hx hb dX1_areEqual_15 (by decide) ?_
    refine lv_istore_n (lv' := [(3, .int 0), (0, .ref (ad p0)), (1, .int p1), (2, .int p2)]) hx hb dX1_areEqual_16 rfl hl (by decide) rfl (fun ls hl => ?_)
    exact L17 F S60 p0 p1 p2 0 tp0 _ _ _ hf hW hS (lv_sub hl [1, 2, 3, 0] rfl)
  · replace hf := ifF c63 hf
    refine lv_iconst (v := 0) hx hb dX1_areEqual_13 (by decide) ?_
    obtain ⟨e1, e2⟩ := so2 hf
    subst e1
    subst e2
    exact W.zret (v := 0) hx hb hr rfl (fun t ht hWm => ⟨⟨rfl, by unfold QB; rw [ht]; exact ⟨hW, trivial⟩⟩, hS.F ht⟩) hS.2.2 dX1_areEqual_14 hlk
set_option maxHeartbeats 4000000 in
set_option maxRecDepth 100000 in
theorem c_X1_isFirstOfItsKind (l : Launch) (g : GP) (ad : Nat → Nat) (n : Nat) (K : Nat → Nat) (sz F : Nat) (S0 : St) (p0 : Nat) (p1 : Int32) (tp0 : p0 < n ∧ K p0 = 1) (r9 : Int32) (S9 : St) (hf : f_X1_isFirstOfItsKind F S0 p0 p1 = some (r9, S9)) : Met l yX1_isFirstOfItsKind wsX1_isFirstOfItsKind { frames := 3, cells := 0, slots := 0, locals := 65 } (va_Pc [.ref (ad p0), .int p1] (PB g ad n K S0 sz)) (QR (some (.int r9)) (QB g ad n K S9 (dA ad n sz) (True)) (dA ad n sz)) 0 0 (dA ad n sz) := by
  refine Met.ofW (cc := cX1_isFirstOfItsKind) (maxL := 3) (ret := (some .boolean)) (by decide) rfl ?_
  intro p e s m args below meth c s₁ B hml hv
  obtain ⟨rfl, hsz, hW, hK, hGs⟩ := x_start hv
  subst hsz
  have hx := B.exec
  have hb := B.bytes
  have hr := B.returns
  have hts := atoms_spec (ws := wsX1_isFirstOfItsKind) B.pre
  have hown : s.vm.findClass RX1 = some m.cls := findClass_of_methodNamed B.named
  have hlk := B.notSynchronized
  have hC : Cx g p s m _ c cX1_isFirstOfItsKind RX1 wsX1_isFirstOfItsKind 3 := ⟨hx, hb, hml, hown, hts, hK⟩
  have hA : ∀ q : Nat, s.heap.size ≤ q → dA ad n s.heap.size q := fun q h => Or.inr h
  have hS : va_S (dA ad n s.heap.size) s.heap s.heap [] := va_S.rf
  have hl := lv_entry ([.ref (ad p0), .int p1]) (n := 3) (Nat.le_of_ble_eq_true rfl)
  rw [lg_entry_eq]
  generalize (lg_sl ([.ref (ad p0), .int p1]) ++ List.replicate (3 - (lg_sl ([.ref (ad p0), .int p1])).length) Slot.unset).toArray = ls at hl ⊢
  have hl : lv_has ls 3 [(0, .ref (ad p0)), (1, .int p1)] := hl
  have hGE := hGs.2.2.2.1
  have hGM := hGs.2.2.2.2
  have L2 : ∀ (fu2 : Nat) (S0 : St) (v0 : Nat) (v1 : Int32) (v2 : Int32) (tv0 : v0 < n ∧ K v0 = 1) (H : Heap) (locs : List Loc) (ls : Array Slot), f_X1_isFirstOfItsKind_L2 F fu2 S0 v0 v1 v2 = some (r9, S9) → Wb g ad n K S0 (dA ad n s.heap.size) H → va_S (dA ad n s.heap.size) s.heap H locs → lv_has ls 3 [(0, .ref (ad v0)), (1, .int v1), (2, .int v2)] → W p l e (headSpec wsX1_isFirstOfItsKind { frames := 3, cells := 0, slots := 0, locals := 65 }).room s m (List.toArray [.ref (ad p0), .int p1]) below meth c H locs 0 0 (MQ below (QR (some (.int r9)) (QB g ad n K S9 (dA ad n s.heap.size) (True)) (dA ad n s.heap.size)) (List.toArray [.ref (ad p0), .int p1]) s 0 0 (dA ad n s.heap.size)) (F0 m 2 ls []) := by
    intro fu2
    induction fu2 with
    | zero =>
      intro S0 v0 v1 v2 tv0 H locs ls hf
      cases hf
    | succ fu2 ih2 =>
      intro S0 v0 v1 v2 tv0 H locs ls hf hW hS hl
      unfold f_X1_isFirstOfItsKind_L2 at hf
      refine lv_iload_n hx hb dX1_isFirstOfItsKind_2 rfl (lv_at hl 2 rfl) ?_
      refine lv_iload_n hx hb dX1_isFirstOfItsKind_3 rfl (lv_at hl 1 rfl) ?_
      refine lv_icmp_ge (tgt := 24) hx hb dX1_isFirstOfItsKind_4 (by decide) (fun c8 => ?_) (fun c8 => ?_)
      · replace hf := ifT c8 hf
        refine lv_iconst (v := 1) hx hb dX1_isFirstOfItsKind_24 (by decide) ?_
        obtain ⟨e1, e2⟩ := so2 hf
        subst e1
        subst e2
        exact W.zret (v := 1) hx hb hr rfl (fun t ht hWm => ⟨⟨rfl, by unfold QB; rw [ht]; exact ⟨hW, trivial⟩⟩, hS.F ht⟩) hS.2.2 dX1_isFirstOfItsKind_25 hlk
      · replace hf := ifF c8 hf
        refine lv_aload_n hx hb dX1_isFirstOfItsKind_7 rfl (lv_at hl 0 rfl) ?_
        refine lv_iload_n hx hb dX1_isFirstOfItsKind_8 rfl (lv_at hl 2 rfl) ?_
        refine lv_iload_n hx hb dX1_isFirstOfItsKind_9 rfl (lv_at hl 1 rfl) ?_
        replace hf := obE hf
        obtain ⟨z9, hz9, hf⟩ := hf
        obtain ⟨r11, S10⟩ := z9
        replace hf := ltE (ltE hf r11 rfl) S10 rfl
        refine x_callV (As := [.int v2, .int v1]) (rest := []) (o := (some (.int r11))) (S1 := S10) hC hl.1 hW hS hGs hA tv0 rfl (show vwCl[1]? = some (RX1, TX1, 4) ∧ ob 1 from ⟨rfl, by decide⟩) (c_X1_areEqual l g ad n K H.size F S0 v0 v2 v1 tv0 r11 S10 hz9) (cwV 2 hts gX1_isFirstOfItsKind_X1_areEqual rfl rfl rfl (by decide +kernel) ⟨Nat.le_of_ble_eq_true rfl, Nat.le_of_ble_eq_true rfl⟩) rfl rfl (Nat.le_of_ble_eq_true rfl) dX1_isFirstOfItsKind_10 ⟨Nat.le_of_ble_eq_true rfl, Nat.le_of_ble_eq_true rfl⟩ (fun H locs hPz9 hW hS => ?_)
        refine W.eq (g2 := F0 m 13 ls [.int r11]) rfl ?_
        refine lv_if_eq (tgt := 18) hx hb dX1_isFirstOfItsKind_13 (by decide) (fun c13 => ?_) (fun c13 => ?_)
        · replace hf := ifT c13 hf
          obtain ⟨x14, ex14⟩ : ∃ z : Int32, z = v2 + 1 := ⟨_, rfl⟩
          replace hf := ltE hf x14 ex14
          refine lv_iinc (v := x14) (lv' := [(2, .int x14), (0, .ref (ad v0)), (1, .int v1)]) hx hb dX1_isFirstOfItsKind_18 hl (k := 2) rfl (by rw [ex14]; rfl) (by decide) rfl (fun ls hl => ?_)
          refine lv_goto (tgt := 2) hx hb dX1_isFirstOfItsKind_21 (by decide) ?_
          exact ih2 S10 v0 v1 x14 tv0 _ _ _ hf hW hS (lv_sub hl [1, 2, 0] rfl)
        · replace hf := ifF c13 hf
          refine lv_iconst (v := 0) hx hb dX1_isFirstOfItsKind_16 (by decide) ?_
          obtain ⟨e1, e2⟩ := so2 hf
          subst e1
          subst e2
          exact W.zret (v := 0) hx hb hr rfl (fun t ht hWm => ⟨⟨rfl, by unfold QB; rw [ht]; exact ⟨hW, trivial⟩⟩, hS.F ht⟩) hS.2.2 dX1_isFirstOfItsKind_17 hlk
  unfold f_X1_isFirstOfItsKind at hf
  refine lv_iconst (v := 0) hx hb dX1_isFirstOfItsKind_0 (by decide) ?_
  refine lv_istore_n (lv' := [(2, .int 0), (0, .ref (ad p0)), (1, .int p1)]) hx hb dX1_isFirstOfItsKind_1 rfl hl (by decide) rfl (fun ls hl => ?_)
  exact L2 F S0 p0 p1 0 tp0 _ _ _ hf hW hS (lv_sub hl [1, 2, 0] rfl)
set_option maxHeartbeats 4000000 in
set_option maxRecDepth 100000 in
theorem c_X0_isRange (l : Launch) (g : GP) (ad : Nat → Nat) (n : Nat) (K : Nat → Nat) (sz F : Nat) (S0 : St) (p0 : Nat) (p1 : Nat) (p2 : Int32) (p3 : Int32) (tp0 : p0 < n ∧ K p0 = 0) (tp1 : p1 < n ∧ K p1 = 0) (r9 : Int32) (S9 : St) (hf : f_X0_isRange F S0 p0 p1 p2 p3 = some (r9, S9)) : Met l yX0_isRange wsX0_isRange { frames := 1, cells := 0, slots := 0, locals := 21 } (va_Pc [.ref (ad p0), .ref (ad p1), .int p2, .int p3] (PB g ad n K S0 sz)) (QR (some (.int r9)) (QB g ad n K S9 (dA ad n sz) (True)) (dA ad n sz)) 0 0 (dA ad n sz) := by
  refine Met.ofW (cc := cX0_isRange) (maxL := 5) (ret := (some .boolean)) (by decide) rfl ?_
  intro p e s m args below meth c s₁ B hml hv
  obtain ⟨rfl, hsz, hW, hK, hGs⟩ := x_start hv
  subst hsz
  have hx := B.exec
  have hb := B.bytes
  have hr := B.returns
  have hts := atoms_spec (ws := wsX0_isRange) B.pre
  have hown : s.vm.findClass RX0 = some m.cls := findClass_of_methodNamed B.named
  have hlk := B.notSynchronized
  have hC : Cx g p s m _ c cX0_isRange RX0 wsX0_isRange 5 := ⟨hx, hb, hml, hown, hts, hK⟩
  have hA : ∀ q : Nat, s.heap.size ≤ q → dA ad n s.heap.size q := fun q h => Or.inr h
  have hS : va_S (dA ad n s.heap.size) s.heap s.heap [] := va_S.rf
  have hl := lv_entry ([.ref (ad p0), .ref (ad p1), .int p2, .int p3]) (n := 5) (Nat.le_of_ble_eq_true rfl)
  rw [lg_entry_eq]
  generalize (lg_sl ([.ref (ad p0), .ref (ad p1), .int p2, .int p3]) ++ List.replicate (5 - (lg_sl ([.ref (ad p0), .ref (ad p1), .int p2, .int p3])).length) Slot.unset).toArray = ls at hl ⊢
  have hl : lv_has ls 5 [(0, .ref (ad p0)), (1, .ref (ad p1)), (2, .int p2), (3, .int p3)] := hl
  have hinX0 : ∀ w ∈ wsX00, w ∈ wsX0_isRange := by decide +kernel
  have w_0 := hts (.fieldLink RX0 21 "MailSpool$Bytes" "size" "I") (by decide +kernel)
  have hGE := hGs.2.2.2.1
  have hGM := hGs.2.2.2.2
  have L15 : ∀ (fu15 : Nat) (S0 : St) (v0 : Nat) (v1 : Nat) (v2 : Int32) (v4 : Int32) (tv0 : v0 < n ∧ K v0 = 0) (tv1 : v1 < n ∧ K v1 = 0) (H : Heap) (locs : List Loc) (ls : Array Slot), f_X0_isRange_L15 F fu15 S0 v0 v1 v2 v4 = some (r9, S9) → Wb g ad n K S0 (dA ad n s.heap.size) H → va_S (dA ad n s.heap.size) s.heap H locs → lv_has ls 5 [(0, .ref (ad v0)), (1, .ref (ad v1)), (2, .int v2), (4, .int v4)] → W p l e (headSpec wsX0_isRange { frames := 1, cells := 0, slots := 0, locals := 21 }).room s m (List.toArray [.ref (ad p0), .ref (ad p1), .int p2, .int p3]) below meth c H locs 0 0 (MQ below (QR (some (.int r9)) (QB g ad n K S9 (dA ad n s.heap.size) (True)) (dA ad n s.heap.size)) (List.toArray [.ref (ad p0), .ref (ad p1), .int p2, .int p3]) s 0 0 (dA ad n s.heap.size)) (F0 m 15 ls []) := by
    intro fu15
    induction fu15 with
    | zero =>
      intro S0 v0 v1 v2 v4 tv0 tv1 H locs ls hf
      cases hf
    | succ fu15 ih15 =>
      intro S0 v0 v1 v2 v4 tv0 tv1 H locs ls hf hW hS hl
      unfold f_X0_isRange_L15 at hf
      refine lv_iload hx hb dX0_isRange_15 (lv_at hl 3 rfl) ?_
      refine lv_aload_n hx hb dX0_isRange_17 rfl (lv_at hl 0 rfl) ?_
      refine x_geti 1 (ci := 0) (C := RX0) (T := TX0) (N := 2) 1 hC hinX0 hW tv0 rfl rfl ⟨by decide, by decide, rfl, rfl⟩ rfl w_0 dX0_isRange_18 ?_
      refine lv_icmp_ge (tgt := 49) hx hb dX0_isRange_21 (by decide) (fun c12 => ?_) (fun c12 => ?_)
      · replace hf := ifT c12 hf
        refine lv_iconst (v := 1) hx hb dX0_isRange_49 (by decide) ?_
        obtain ⟨e1, e2⟩ := so2 hf
        subst e1
        subst e2
        exact W.zret (v := 1) hx hb hr rfl (fun t ht hWm => ⟨⟨rfl, by unfold QB; rw [ht]; exact ⟨hW, trivial⟩⟩, hS.F ht⟩) hS.2.2 dX0_isRange_50 hlk
      · replace hf := ifF c12 hf
        refine lv_aload_n hx hb dX0_isRange_24 rfl (lv_at hl 0 rfl) ?_
        refine lv_iload hx hb dX0_isRange_25 (lv_at hl 3 rfl) ?_
        replace hf := obE hf
        obtain ⟨z13, hz13, hf⟩ := hf
        obtain ⟨r15, S14⟩ := z13
        replace hf := ltE (ltE hf r15 rfl) S14 rfl
        refine x_callV (As := [.int v4]) (rest := []) (o := (some (.int r15))) (S1 := S14) hC hl.1 hW hS hGs hA tv0 rfl (show vwCl[0]? = some (RX0, TX0, 2) ∧ ob 0 from ⟨rfl, by decide⟩) (c_X0_byteAt l g ad n K H.size F S0 v0 v4 tv0 r15 S14 hz13) (cwV 1 hts gX0_isRange_X0_byteAt rfl rfl rfl (by decide +kernel) ⟨Nat.le_of_ble_eq_true rfl, Nat.le_of_ble_eq_true rfl⟩) rfl rfl (Nat.le_of_ble_eq_true rfl) dX0_isRange_27 ⟨Nat.le_of_ble_eq_true rfl, Nat.le_of_ble_eq_true rfl⟩ (fun H locs hPz13 hW hS => ?_)
        refine W.eq (g2 := F0 m 30 ls [.int r15]) rfl ?_
        refine lv_aload_n hx hb dX0_isRange_30 rfl (lv_at hl 1 rfl) ?_
        refine lv_iload_n hx hb dX0_isRange_31 rfl (lv_at hl 2 rfl) ?_
        refine lv_iload hx hb dX0_isRange_32 (lv_at hl 3 rfl) ?_
        refine lv_iadd hx hb dX0_isRange_34 ?_
        replace hf := obE hf
        obtain ⟨z17, hz17, hf⟩ := hf
        obtain ⟨r19, S18⟩ := z17
        replace hf := ltE (ltE hf r19 rfl) S18 rfl
        refine x_callV (As := [.int (v2 + v4)]) (rest := [.int r15]) (o := (some (.int r19))) (S1 := S18) hC hl.1 hW hS hGs hA tv1 rfl (show vwCl[0]? = some (RX0, TX0, 2) ∧ ob 0 from ⟨rfl, by decide⟩) (c_X0_byteAt l g ad n K H.size F S14 v1 (v2 + v4) tv1 r19 S18 hz17) (cwV 1 hts gX0_isRange_X0_byteAt rfl rfl rfl (by decide +kernel) ⟨Nat.le_of_ble_eq_true rfl, Nat.le_of_ble_eq_true rfl⟩) rfl rfl (Nat.le_of_ble_eq_true rfl) dX0_isRange_35 ⟨Nat.le_of_ble_eq_true rfl, Nat.le_of_ble_eq_true rfl⟩ (fun H locs hPz17 hW hS => ?_)
        refine W.eq (g2 := F0 m 38 ls [.int r19, .int r15]) rfl ?_
        refine lv_icmp_eq (tgt := 43) hx hb dX0_isRange_38 (by decide) (fun c21 => ?_) (fun c21 => ?_)
        · replace hf := ifT c21 hf
          obtain ⟨x22, ex22⟩ : ∃ z : Int32, z = v4 + 1 := ⟨_, rfl⟩
          replace hf := ltE hf x22 ex22
          refine lv_iinc (v := x22) (lv' := [(4, .int x22), (0, .ref (ad v0)), (1, .ref (ad v1)), (2, .int v2)]) hx hb dX0_isRange_43 hl (k := 3) rfl (by rw [ex22]; rfl) (by decide) rfl (fun ls hl => ?_)
          refine lv_goto (tgt := 15) hx hb dX0_isRange_46 (by decide) ?_
          exact ih15 S18 v0 v1 v2 x22 tv0 tv1 _ _ _ hf hW hS (lv_sub hl [1, 2, 3, 0] rfl)
        · replace hf := ifF c21 hf
          refine lv_iconst (v := 0) hx hb dX0_isRange_41 (by decide) ?_
          obtain ⟨e1, e2⟩ := so2 hf
          subst e1
          subst e2
          exact W.zret (v := 0) hx hb hr rfl (fun t ht hWm => ⟨⟨rfl, by unfold QB; rw [ht]; exact ⟨hW, trivial⟩⟩, hS.F ht⟩) hS.2.2 dX0_isRange_42 hlk
  unfold f_X0_isRange at hf
  refine lv_iload_n hx hb dX0_isRange_0 rfl (lv_at hl 3 rfl) ?_
  refine lv_iload_n hx hb dX0_isRange_1 rfl (lv_at hl 2 rfl) ?_
  refine lv_isub hx hb dX0_isRange_2 ?_
  refine lv_aload_n hx hb dX0_isRange_3 rfl (lv_at hl 0 rfl) ?_
  refine x_geti 1 (ci := 0) (C := RX0) (T := TX0) (N := 2) 1 hC hinX0 hW tp0 rfl rfl ⟨by decide, by decide, rfl, rfl⟩ rfl w_0 dX0_isRange_4 ?_
  refine lv_icmp_eq (tgt := 12) hx hb dX0_isRange_7 (by decide) (fun c23 => ?_) (fun c23 => ?_)
  · replace hf := ifT c23 hf
    refine lv_iconst (v := 0) hx hb dX0_isRange_12 (by decide) ?_
    refine lv_istore (lv' := [(4, .int 0), (0, .ref (ad p0)), (1, .ref (ad p1)), (2, .int p2), (3, .int p3)]) hx hb dX0_isRange_13 hl (by decide) rfl (fun ls hl => ?_)
    exact L15 F S0 p0 p1 p2 0 tp0 tp1 _ _ _ hf hW hS (lv_sub hl [1, 2, 3, 0] rfl)
  · replace hf := ifF c23 hf
    refine lv_iconst (v := 0) hx hb dX0_isRange_10 (by decide) ?_
    obtain ⟨e1, e2⟩ := so2 hf
    subst e1
    subst e2
    exact W.zret (v := 0) hx hb hr rfl (fun t ht hWm => ⟨⟨rfl, by unfold QB; rw [ht]; exact ⟨hW, trivial⟩⟩, hS.F ht⟩) hS.2.2 dX0_isRange_11 hlk
set_option maxHeartbeats 4000000 in
set_option maxRecDepth 100000 in
theorem c_X1_isEqualTo (l : Launch) (g : GP) (ad : Nat → Nat) (n : Nat) (K : Nat → Nat) (sz F : Nat) (S0 : St) (p0 : Nat) (p1 : Nat) (p2 : Int32) (tp0 : p0 < n ∧ K p0 = 1) (tp1 : p1 < n ∧ K p1 = 0) (r9 : Int32) (S9 : St) (hf : f_X1_isEqualTo F S0 p0 p1 p2 = some (r9, S9)) : Met l yX1_isEqualTo wsX1_isEqualTo { frames := 2, cells := 0, slots := 0, locals := 45 } (va_Pc [.ref (ad p0), .ref (ad p1), .int p2] (PB g ad n K S0 sz)) (QR (some (.int r9)) (QB g ad n K S9 (dA ad n sz) (True)) (dA ad n sz)) 0 0 (dA ad n sz) := by
  refine Met.ofW (cc := cX1_isEqualTo) (maxL := 3) (ret := (some .boolean)) (by decide) rfl ?_
  intro p e s m args below meth c s₁ B hml hv
  obtain ⟨rfl, hsz, hW, hK, hGs⟩ := x_start hv
  subst hsz
  have hx := B.exec
  have hb := B.bytes
  have hr := B.returns
  have hts := atoms_spec (ws := wsX1_isEqualTo) B.pre
  have hown : s.vm.findClass RX1 = some m.cls := findClass_of_methodNamed B.named
  have hlk := B.notSynchronized
  have hC : Cx g p s m _ c cX1_isEqualTo RX1 wsX1_isEqualTo 3 := ⟨hx, hb, hml, hown, hts, hK⟩
  have hA : ∀ q : Nat, s.heap.size ≤ q → dA ad n s.heap.size q := fun q h => Or.inr h
  have hS : va_S (dA ad n s.heap.size) s.heap s.heap [] := va_S.rf
  have hl := lv_entry ([.ref (ad p0), .ref (ad p1), .int p2]) (n := 3) (Nat.le_of_ble_eq_true rfl)
  rw [lg_entry_eq]
  generalize (lg_sl ([.ref (ad p0), .ref (ad p1), .int p2]) ++ List.replicate (3 - (lg_sl ([.ref (ad p0), .ref (ad p1), .int p2])).length) Slot.unset).toArray = ls at hl ⊢
  have hl : lv_has ls 3 [(0, .ref (ad p0)), (1, .ref (ad p1)), (2, .int p2)] := hl
  have hinX1 : ∀ w ∈ wsX10, w ∈ wsX1_isEqualTo := by decide +kernel
  have w_0 := hts (.fieldLink RX1 9 "MailSpool$Content" "text" "LMailSpool$Bytes;") (by decide +kernel)
  have w_1 := hts (.fieldLink RX1 15 "MailSpool$Content" "starts" "[I") (by decide +kernel)
  have w_2 := va_Nw.use (A := (List.toArray [.ref (ad p0), .ref (ad p1), .int p2])) rfl (hGs.1 (.methodLinkNest RX1 39 yX10_at "MailSpool") (by decide +kernel))
  have w_3 := hts (.initialized RX10) (by decide +kernel)
  have w_4 := hts (.static yX10_at) (by decide +kernel)
  have w_5 := hts (.fieldLink RX1 19 "MailSpool$Content" "ends" "[I") (by decide +kernel)
  have hGE := hGs.2.2.2.1
  have hGM := hGs.2.2.2.2
  unfold f_X1_isEqualTo at hf
  refine lv_aload_n hx hb dX1_isEqualTo_0 rfl (lv_at hl 1 rfl) ?_
  refine lv_aload_n hx hb dX1_isEqualTo_1 rfl (lv_at hl 0 rfl) ?_
  replace hf := obE hf
  obtain ⟨j1, qj1, hf⟩ := hf
  have tj1 := x_rt hW qj1 0 ⟨by decide, rfl⟩
  refine x_getr 100 (ci := 1) (C := RX1) (T := TX1) (N := 4) 0 hC hinX1 hW tp0 rfl rfl ⟨by decide, by decide, rfl, rfl⟩ rfl w_0 dX1_isEqualTo_2 qj1 ?_
  refine lv_aload_n hx hb dX1_isEqualTo_5 rfl (lv_at hl 0 rfl) ?_
  replace hf := obE hf
  obtain ⟨j2, qj2, hf⟩ := hf
  have tj2 := x_rt hW qj2 12 ⟨by decide, rfl⟩
  refine x_getr 101 (ci := 1) (C := RX1) (T := TX1) (N := 4) 1 hC hinX1 hW tp0 rfl rfl ⟨by decide, by decide, rfl, rfl⟩ rfl w_1 dX1_isEqualTo_6 qj2 ?_
  refine lv_iload_n hx hb dX1_isEqualTo_9 rfl (lv_at hl 2 rfl) ?_
  replace hf := obE hf
  obtain ⟨z3, hz3, hf⟩ := hf
  obtain ⟨r5, S4⟩ := z3
  replace hf := ltE (ltE hf r5 rfl) S4 rfl
  refine x_callSN (As := [.ref (ad j2), .int p2]) (rest := [.ref (ad j1), .ref (ad p1)]) (o := (some (.int r5))) (S1 := S4) hC hl.1 hW hS hGs hA (c_X10_at l g ad n K s.heap.size F S0 j2 p2 tj2 r5 S4 hz3) ⟨va_cnB 2 hts gX1_isEqualTo_X10_at_n39 rfl rfl rfl (va_Nw.of rfl w_2) w_3 (by decide +kernel) ⟨Nat.le_of_ble_eq_true rfl, Nat.le_of_ble_eq_true rfl⟩, w_4, trivial⟩ rfl rfl (Nat.le_of_ble_eq_true rfl) dX1_isEqualTo_10 ⟨Nat.le_of_ble_eq_true rfl, Nat.le_of_ble_eq_true rfl⟩ (fun H locs hPz3 hW hS => ?_)
  refine W.eq (g2 := F0 m 13 ls [.int r5, .ref (ad j1), .ref (ad p1)]) rfl ?_
  refine lv_aload_n hx hb dX1_isEqualTo_13 rfl (lv_at hl 0 rfl) ?_
  replace hf := obE hf
  obtain ⟨j7, qj7, hf⟩ := hf
  have tj7 := x_rt hW qj7 12 ⟨by decide, rfl⟩
  refine x_getr 102 (ci := 1) (C := RX1) (T := TX1) (N := 4) 2 hC hinX1 hW tp0 rfl rfl ⟨by decide, by decide, rfl, rfl⟩ rfl w_5 dX1_isEqualTo_14 qj7 ?_
  refine lv_iload_n hx hb dX1_isEqualTo_17 rfl (lv_at hl 2 rfl) ?_
  replace hf := obE hf
  obtain ⟨z8, hz8, hf⟩ := hf
  obtain ⟨r10, S9⟩ := z8
  replace hf := ltE (ltE hf r10 rfl) S9 rfl
  refine x_callSN (As := [.ref (ad j7), .int p2]) (rest := [.int r5, .ref (ad j1), .ref (ad p1)]) (o := (some (.int r10))) (S1 := S9) hC hl.1 hW hS hGs hA (c_X10_at l g ad n K H.size F S4 j7 p2 tj7 r10 S9 hz8) ⟨va_cnB 2 hts gX1_isEqualTo_X10_at_n39 rfl rfl rfl (va_Nw.of rfl w_2) w_3 (by decide +kernel) ⟨Nat.le_of_ble_eq_true rfl, Nat.le_of_ble_eq_true rfl⟩, w_4, trivial⟩ rfl rfl (Nat.le_of_ble_eq_true rfl) dX1_isEqualTo_18 ⟨Nat.le_of_ble_eq_true rfl, Nat.le_of_ble_eq_true rfl⟩ (fun H locs hPz8 hW hS => ?_)
  refine W.eq (g2 := F0 m 21 ls [.int r10, .int r5, .ref (ad j1), .ref (ad p1)]) rfl ?_
  replace hf := obE hf
  obtain ⟨z12, hz12, hf⟩ := hf
  obtain ⟨r14, S13⟩ := z12
  replace hf := ltE (ltE hf r14 rfl) S13 rfl
  refine x_callV (As := [.ref (ad j1), .int r5, .int r10]) (rest := []) (o := (some (.int r14))) (S1 := S13) hC hl.1 hW hS hGs hA tp1 rfl (show vwCl[0]? = some (RX0, TX0, 2) ∧ ob 0 from ⟨rfl, by decide⟩) (c_X0_isRange l g ad n K H.size F S9 p1 j1 r5 r10 tp1 tj1 r14 S13 hz12) (cwV 3 hts gX1_isEqualTo_X0_isRange rfl rfl rfl (by decide +kernel) ⟨Nat.le_of_ble_eq_true rfl, Nat.le_of_ble_eq_true rfl⟩) rfl rfl (Nat.le_of_ble_eq_true rfl) dX1_isEqualTo_21 ⟨Nat.le_of_ble_eq_true rfl, Nat.le_of_ble_eq_true rfl⟩ (fun H locs hPz12 hW hS => ?_)
  refine W.eq (g2 := F0 m 24 ls [.int r14]) rfl ?_
  replace hf := ckE hf
  obtain ⟨h16, hf⟩ := hf
  obtain ⟨e1, e2⟩ := so2 hf
  subst e1
  subst e2
  exact W.zret (v := r14) hx hb hr (zn h16) (fun t ht hWm => ⟨⟨rfl, by unfold QB; rw [ht]; exact ⟨hW, trivial⟩⟩, hS.F ht⟩) hS.2.2 dX1_isEqualTo_24 hlk
