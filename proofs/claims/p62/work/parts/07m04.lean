set_option maxHeartbeats 4000000 in
set_option maxRecDepth 100000 in
theorem c_X10_deliver (l : Launch) (g : GP) (ad : Nat → Nat) (n : Nat) (K : Nat → Nat) (sz F : Nat) (S0 : St) (p0 : Nat) (p1 : Int32) (p2 : Int32) (p3 : Int32) (tp0 : p0 < n ∧ K p0 = 9) (r9 : Int32) (S9 : St) (n9 : Nat) (hf : f_X10_deliver F S0 n p0 p1 p2 p3 = some (.inr r9, S9, n9)) : Met l yX10_deliver wsX10_deliver { frames := 6, cells := 10, slots := 8177, locals := 143 } (va_Pc [.ref (ad p0), .int p1, .int p2, .int p3] (PB g ad n K S0 sz)) (QA ad K n (fun _ => (some (.int r9))) g n9 S9 (dA ad n sz) (fun _ => True)) 10 8177 (dA ad n sz) := by
  refine Met.ofW (cc := cX10_deliver) (maxL := 5) (ret := (some .int)) (by decide) rfl ?_
  intro p e s m args below meth c s₁ B hml hv
  obtain ⟨rfl, hsz, hW, hK, hGs⟩ := x_start hv
  subst hsz
  have hx := B.exec
  have hb := B.bytes
  have hr := B.returns
  have hts := atoms_spec (ws := wsX10_deliver) B.pre
  have hown : s.vm.findClass RX10 = some m.cls := findClass_of_methodNamed B.named
  have hlk := B.notSynchronized
  have hC : Cx g p s m _ c cX10_deliver RX10 wsX10_deliver 5 := ⟨hx, hb, hml, hown, hts, hK⟩
  have hA : ∀ q : Nat, s.heap.size ≤ q → dA ad n s.heap.size q := fun q h => Or.inr h
  have hS : va_S (dA ad n s.heap.size) s.heap s.heap [] := va_S.rf
  have hl := lv_entry ([.ref (ad p0), .int p1, .int p2, .int p3]) (n := 5) (Nat.le_of_ble_eq_true rfl)
  rw [lg_entry_eq]
  generalize (lg_sl ([.ref (ad p0), .int p1, .int p2, .int p3]) ++ List.replicate (5 - (lg_sl ([.ref (ad p0), .int p1, .int p2, .int p3])).length) Slot.unset).toArray = ls at hl ⊢
  have hl : lv_has ls 5 [(0, .ref (ad p0)), (1, .int p1), (2, .int p2), (3, .int p3)] := hl
  have hinX10 : ∀ w ∈ wsX100, w ∈ wsX10_deliver := by decide +kernel
  have hinX8 : ∀ w ∈ wsX80, w ∈ wsX10_deliver := by decide +kernel
  have w_0 := hts (.fieldLink RX10 42 "MailSpool" "now" "LMailSpool$Spool;") (by decide +kernel)
  have w_1 := va_Nw.use (A := (List.toArray [.ref (ad p0), .int p1, .int p2, .int p3])) rfl (hGs.1 (.fieldLinkNest RX10 104 "MailSpool$Spool" "rules" "LMailSpool$Rules;" "MailSpool") (by decide +kernel))
  have w_2 := hts (.fieldLink RX10 29 "MailSpool" "content" "LMailSpool$Content;") (by decide +kernel)
  have w_3 := va_Nw.use (A := (List.toArray [.ref (ad p0), .int p1, .int p2, .int p3])) rfl (hGs.1 (.fieldLinkNest RX10 183 "MailSpool$Spool" "messageCount" "I" "MailSpool") (by decide +kernel))
  have w_4 := va_Nw.use (A := (List.toArray [.ref (ad p0), .int p1, .int p2, .int p3])) rfl (hGs.1 (.fieldLinkNest RX10 186 "MailSpool$Spool" "store" "LMailSpool$Store;" "MailSpool") (by decide +kernel))
  have w_5 := hts (.fieldLink RX10 17 "MailSpool" "input" "LMailSpool$Bytes;") (by decide +kernel)
  have hGE := hGs.2.2.2.1
  have hGM := hGs.2.2.2.2
  have L98 : ∀ (adL KL : Nat → Nat) (nL : Nat) (hagL : Ag ad K n adL KL nL) (S0 : St)   (H : Heap) (locs : List Loc) (ls : Array Slot), f_X10_deliver_L98 F S0 nL  = some (.inr r9, S9, n9) → Wb g adL nL KL S0 (dA ad n s.heap.size) H → va_S (dA ad n s.heap.size) s.heap H locs → lv_has ls 5 [] → W p l e (headSpec wsX10_deliver { frames := 6, cells := 10, slots := 8177, locals := 143 }).room s m (List.toArray [.ref (ad p0), .int p1, .int p2, .int p3]) below meth c H locs 0 0 (MQ below (QA ad K n (fun _ => (some (.int r9))) g n9 S9 (dA ad n s.heap.size) (fun _ => True)) (List.toArray [.ref (ad p0), .int p1, .int p2, .int p3]) s 10 8177 (dA ad n s.heap.size)) (F0 m 98 ls []) := by
    intro adL KL nL hagL S0  H locs ls hf hW hS hl
    unfold f_X10_deliver_L98 at hf
    exact nomatch (Prod.mk.inj (Option.some.inj hf)).1
  have L56 : ∀ (adL KL : Nat → Nat) (nL : Nat) (hagL : Ag ad K n adL KL nL) (S0 : St)   (H : Heap) (locs : List Loc) (ls : Array Slot), f_X10_deliver_L56 F S0 nL  = some (.inr r9, S9, n9) → Wb g adL nL KL S0 (dA ad n s.heap.size) H → va_S (dA ad n s.heap.size) s.heap H locs → lv_has ls 5 [] → W p l e (headSpec wsX10_deliver { frames := 6, cells := 10, slots := 8177, locals := 143 }).room s m (List.toArray [.ref (ad p0), .int p1, .int p2, .int p3]) below meth c H locs 0 0 (MQ below (QA ad K n (fun _ => (some (.int r9))) g n9 S9 (dA ad n s.heap.size) (fun _ => True)) (List.toArray [.ref (ad p0), .int p1, .int p2, .int p3]) s 10 8177 (dA ad n s.heap.size)) (F0 m 56 ls []) := by
    intro adL KL nL hagL S0  H locs ls hf hW hS hl
    unfold f_X10_deliver_L56 at hf
    exact nomatch (Prod.mk.inj (Option.some.inj hf)).1
  have L15 : ∀ (adL KL : Nat → Nat) (nL : Nat) (hagL : Ag ad K n adL KL nL) (S0 : St) (v0 : Nat) (v1 : Int32) (v2 : Int32) (v3 : Int32) (tv0 : v0 < nL ∧ KL v0 = 9) (H : Heap) (locs : List Loc) (ls : Array Slot), f_X10_deliver_L15 F S0 nL v0 v1 v2 v3 = some (.inr r9, S9, n9) → Wb g adL nL KL S0 (dA ad n s.heap.size) H → va_S (dA ad n s.heap.size) s.heap H locs → lv_has ls 5 [(0, .ref (adL v0)), (1, .int v1), (2, .int v2), (3, .int v3)] → W p l e (headSpec wsX10_deliver { frames := 6, cells := 10, slots := 8177, locals := 143 }).room s m (List.toArray [.ref (ad p0), .int p1, .int p2, .int p3]) below meth c H locs 0 0 (MQ below (QA ad K n (fun _ => (some (.int r9))) g n9 S9 (dA ad n s.heap.size) (fun _ => True)) (List.toArray [.ref (ad p0), .int p1, .int p2, .int p3]) s 10 8177 (dA ad n s.heap.size)) (F0 m 15 ls []) := by
    intro adL KL nL hagL S0 v0 v1 v2 v3 tv0 H locs ls hf hW hS hl
    unfold f_X10_deliver_L15 at hf
    refine lv_iload_n hx hb dX10_deliver_15 rfl (lv_at hl 2 rfl) ?_
    refine lv_aload_n hx hb dX10_deliver_16 rfl (lv_at hl 0 rfl) ?_
    replace hf := obE hf
    obtain ⟨j46, qj46, hf⟩ := hf
    have tj46 := x_rt hW qj46 7 ⟨by decide, rfl⟩
    refine x_getr 905 (ci := 9) (C := RX10) (T := TX10) (N := 11) 5 hC hinX10 hW tv0 rfl rfl ⟨by decide, by decide, rfl, rfl⟩ rfl w_0 dX10_deliver_17 qj46 ?_
    replace hf := obE hf
    obtain ⟨j47, qj47, hf⟩ := hf
    have tj47 := x_rt hW qj47 6 ⟨by decide, rfl⟩
    refine x_getrN 700 (ci := 7) (C := RX8) (T := TX8) (N := 16) 0 hC hinX8 hW tj46 rfl rfl ⟨by decide, by decide, rfl, rfl⟩ rfl w_1 dX10_deliver_20 qj47 ?_
    replace hf := obE hf
    obtain ⟨z48, hz48, hf⟩ := hf
    obtain ⟨r50, S49⟩ := z48
    replace hf := ltE (ltE hf r50 rfl) S49 rfl
    refine x_callV (As := []) (rest := [.int v2]) (o := (some (.int r50))) (S1 := S49) hC hl.1 hW hS hGs hA tj47 rfl (show vwCl[6]? = some (RX7, TX7, 16) ∧ ob 6 from ⟨rfl, by decide⟩) (c_X7_allUsers l g adL nL KL H.size F S0 j47 tj47 r50 S49 hz48) (cwV 0 hts gX10_deliver_X7_allUsers rfl rfl rfl (by decide +kernel) ⟨Nat.le_of_ble_eq_true rfl, Nat.le_of_ble_eq_true rfl⟩) rfl rfl (Nat.le_of_ble_eq_true rfl) dX10_deliver_23 ⟨Nat.le_of_ble_eq_true rfl, Nat.le_of_ble_eq_true rfl⟩ (fun H locs hPz48 hW hS => ?_)
    refine W.eq (g2 := F0 m 26 ls [.int r50, .int v2]) rfl ?_
    refine lv_iconst (v := -1) hx hb dX10_deliver_26 (by decide) ?_
    refine lv_ixor hx hb dX10_deliver_27 ?_
    refine lv_iand hx hb dX10_deliver_28 ?_
    refine lv_if_eq (tgt := 42) hx hb dX10_deliver_29 (by decide) (fun c52 => ?_) (fun c52 => ?_)
    · replace hf := ifT c52 hf
      refine lv_iload_n hx hb dX10_deliver_42 rfl (lv_at hl 2 rfl) ?_
      refine lv_if_eq (tgt := 56) hx hb dX10_deliver_43 (by decide) (fun c53 => ?_) (fun c53 => ?_)
      · replace hf := ifT c53 hf
        exact L56 adL KL nL hagL S49 _ _ _ hf hW hS (lv_sub hl [] rfl)
      · replace hf := ifF c53 hf
        refine lv_aload_n hx hb dX10_deliver_46 rfl (lv_at hl 0 rfl) ?_
        replace hf := obE hf
        obtain ⟨j54, qj54, hf⟩ := hf
        have tj54 := x_rt hW qj54 1 ⟨by decide, rfl⟩
        refine x_getr 902 (ci := 9) (C := RX10) (T := TX10) (N := 11) 2 hC hinX10 hW tv0 rfl rfl ⟨by decide, by decide, rfl, rfl⟩ rfl w_2 dX10_deliver_47 qj54 ?_
        replace hf := obE hf
        obtain ⟨z55, hz55, hf⟩ := hf
        obtain ⟨r57, S56⟩ := z55
        replace hf := ltE (ltE hf r57 rfl) S56 rfl
        refine x_callV (As := []) (rest := []) (o := (some (.int r57))) (S1 := S56) hC hl.1 hW hS hGs hA tj54 rfl (show vwCl[1]? = some (RX1, TX1, 4) ∧ ob 1 from ⟨rfl, by decide⟩) (c_X1_cut l g adL nL KL H.size F S49 j54 tj54 r57 S56 hz55) (cwV 0 hts gX10_deliver_X1_cut rfl rfl rfl (by decide +kernel) ⟨Nat.le_of_ble_eq_true rfl, Nat.le_of_ble_eq_true rfl⟩) rfl rfl (Nat.le_of_ble_eq_true rfl) dX10_deliver_50 ⟨Nat.le_of_ble_eq_true rfl, Nat.le_of_ble_eq_true rfl⟩ (fun H locs hPz55 hW hS => ?_)
        refine W.eq (g2 := F0 m 53 ls [.int r57]) rfl ?_
        refine lv_if_ne (tgt := 66) hx hb dX10_deliver_53 (by decide) (fun c59 => ?_) (fun c59 => ?_)
        · replace hf := ifT c59 hf
          refine lv_aload_n hx hb dX10_deliver_66 rfl (lv_at hl 0 rfl) ?_
          replace hf := obE hf
          obtain ⟨j60, qj60, hf⟩ := hf
          have tj60 := x_rt hW qj60 7 ⟨by decide, rfl⟩
          refine x_getr 905 (ci := 9) (C := RX10) (T := TX10) (N := 11) 5 hC hinX10 hW tv0 rfl rfl ⟨by decide, by decide, rfl, rfl⟩ rfl w_0 dX10_deliver_67 qj60 ?_
          refine x_getiN 705 (ci := 7) (C := RX8) (T := TX8) (N := 16) 5 hC hinX8 hW tj60 rfl rfl ⟨by decide, by decide, rfl, rfl⟩ rfl w_3 dX10_deliver_70 ?_
          refine lv_bipush (v := 120) hx hb dX10_deliver_73 (by decide) ?_
          refine lv_icmp_ge (tgt := 98) hx hb dX10_deliver_75 (by decide) (fun c61 => ?_) (fun c61 => ?_)
          · replace hf := ifT c61 hf
            exact L98 adL KL nL hagL S56 _ _ _ hf hW hS (lv_sub hl [] rfl)
          · replace hf := ifF c61 hf
            refine lv_aload_n hx hb dX10_deliver_78 rfl (lv_at hl 0 rfl) ?_
            replace hf := obE hf
            obtain ⟨j62, qj62, hf⟩ := hf
            have tj62 := x_rt hW qj62 7 ⟨by decide, rfl⟩
            refine x_getr 905 (ci := 9) (C := RX10) (T := TX10) (N := 11) 5 hC hinX10 hW tv0 rfl rfl ⟨by decide, by decide, rfl, rfl⟩ rfl w_0 dX10_deliver_79 qj62 ?_
            replace hf := obE hf
            obtain ⟨j63, qj63, hf⟩ := hf
            have tj63 := x_rt hW qj63 8 ⟨by decide, rfl⟩
            refine x_getrN 710 (ci := 7) (C := RX8) (T := TX8) (N := 16) 10 hC hinX8 hW tj62 rfl rfl ⟨by decide, by decide, rfl, rfl⟩ rfl w_4 dX10_deliver_82 qj63 ?_
            refine lv_aload_n hx hb dX10_deliver_85 rfl (lv_at hl 0 rfl) ?_
            replace hf := obE hf
            obtain ⟨j64, qj64, hf⟩ := hf
            have tj64 := x_rt hW qj64 1 ⟨by decide, rfl⟩
            refine x_getr 902 (ci := 9) (C := RX10) (T := TX10) (N := 11) 2 hC hinX10 hW tv0 rfl rfl ⟨by decide, by decide, rfl, rfl⟩ rfl w_2 dX10_deliver_86 qj64 ?_
            replace hf := obE hf
            obtain ⟨z65, hz65, hf⟩ := hf
            obtain ⟨r67, S66⟩ := z65
            replace hf := ltE (ltE hf r67 rfl) S66 rfl
            refine x_callV (As := [.ref (adL j64)]) (rest := []) (o := (some (.int r67))) (S1 := S66) hC hl.1 hW hS hGs hA tj63 rfl (show vwCl[8]? = some (RX9, TX9, 8) ∧ ob 8 from ⟨rfl, by decide⟩) (c_X9_bytesWith l g adL nL KL H.size F S56 j63 j64 tj63 tj64 r67 S66 hz65) (cwV 1 hts gX10_deliver_X9_bytesWith rfl rfl rfl (by decide +kernel) ⟨Nat.le_of_ble_eq_true rfl, Nat.le_of_ble_eq_true rfl⟩) rfl rfl (Nat.le_of_ble_eq_true rfl) dX10_deliver_89 ⟨Nat.le_of_ble_eq_true rfl, Nat.le_of_ble_eq_true rfl⟩ (fun H locs hPz65 hW hS => ?_)
            refine W.eq (g2 := F0 m 92 ls [.int r67]) rfl ?_
            refine lv_sipush (v := 8000) hx hb dX10_deliver_92 (by decide) ?_
            refine lv_icmp_le (tgt := 108) hx hb dX10_deliver_95 (by decide) (fun c69 => ?_) (fun c69 => ?_)
            · replace hf := ifT c69 hf
              refine lv_aload_n hx hb dX10_deliver_108 rfl (lv_at hl 0 rfl) ?_
              replace hf := obE hf
              obtain ⟨S71, hz70, hf⟩ := hf
              refine x_callV (As := []) (rest := []) (o := none) (S1 := S71) hC hl.1 hW hS hGs hA tv0 rfl (show vwCl[9]? = some (RX10, TX10, 11) ∧ ob 9 from ⟨rfl, by decide⟩) (c_X10_remember l g adL nL KL H.size F S66 v0 tv0 S71 hz70) (cwV 0 hts gX10_deliver_X10_remember rfl rfl rfl (by decide +kernel) ⟨Nat.le_of_ble_eq_true rfl, Nat.le_of_ble_eq_true rfl⟩) rfl rfl (Nat.le_of_ble_eq_true rfl) dX10_deliver_109 ⟨Nat.le_of_ble_eq_true rfl, Nat.le_of_ble_eq_true rfl⟩ (fun H locs hPz70 hW hS => ?_)
              refine W.eq (g2 := F0 m 112 ls []) rfl ?_
              refine lv_aload_n hx hb dX10_deliver_112 rfl (lv_at hl 0 rfl) ?_
              replace hf := obE hf
              obtain ⟨j74, qj74, hf⟩ := hf
              have tj74 := x_rt hW qj74 7 ⟨by decide, rfl⟩
              refine x_getr 905 (ci := 9) (C := RX10) (T := TX10) (N := 11) 5 hC hinX10 hW tv0 rfl rfl ⟨by decide, by decide, rfl, rfl⟩ rfl w_0 dX10_deliver_113 qj74 ?_
              refine lv_aload_n hx hb dX10_deliver_116 rfl (lv_at hl 0 rfl) ?_
              replace hf := obE hf
              obtain ⟨j75, qj75, hf⟩ := hf
              have tj75 := x_rt hW qj75 1 ⟨by decide, rfl⟩
              refine x_getr 902 (ci := 9) (C := RX10) (T := TX10) (N := 11) 2 hC hinX10 hW tv0 rfl rfl ⟨by decide, by decide, rfl, rfl⟩ rfl w_2 dX10_deliver_117 qj75 ?_
              refine lv_iload_n hx hb dX10_deliver_120 rfl (lv_at hl 1 rfl) ?_
              refine lv_iload_n hx hb dX10_deliver_121 rfl (lv_at hl 2 rfl) ?_
              refine lv_iload_n hx hb dX10_deliver_122 rfl (lv_at hl 3 rfl) ?_
              replace hf := obE hf
              obtain ⟨z76, hz76, hf⟩ := hf
              obtain ⟨r78, S77, n79⟩ := z76
              replace hf := ltE (ltE (ltE hf r78 rfl) S77 rfl) n79 rfl
              refine x_acallV (As := [.ref (adL j75), .int v1, .int v2, .int v3]) (rest := []) (S1 := S77) (n1 := n79) (o := (fun _ => some (.int r78))) (P := (fun _ => True)) hC hl.1 hW hS hGs hA tj74 rfl (show vwCl[7]? = some (RX8, TX8, 16) ∧ ob 7 from ⟨rfl, by decide⟩) (c_X8_receive l g adL nL KL H.size F S71 j74 j75 v1 v2 v3 tj74 tj75 r78 S77 n79 hz76) (cwV 4 hts gX10_deliver_X8_receive rfl rfl rfl (by decide +kernel) ⟨Nat.le_of_ble_eq_true rfl, Nat.le_of_ble_eq_true rfl⟩) rfl rfl (Nat.le_of_ble_eq_true rfl) dX10_deliver_123 ⟨(Nat.le_of_ble_eq_true rfl), (Nat.le_of_ble_eq_true rfl)⟩ (fun ad80 K81 H locs hag82 hPz76 hW hS => ?_)
              have g83 := hag82.t tv0
              have g84 := hag82.e tv0 rfl
              have ag85 := (hagL).tr hag82
              refine W.widen (k := 10) (n := 8177) (by omega) (by omega) ?_
              refine W.eq (g2 := F0 m 126 ls [.int r78]) rfl ?_
              refine lv_istore (lv' := [(4, .int r78), (0, .ref (adL v0)), (1, .int v1), (2, .int v2), (3, .int v3)]) hx hb dX10_deliver_126 hl (by decide) rfl (fun ls hl => ?_)
              refine lv_aload_n hx hb dX10_deliver_128 rfl (lv_at hl 1 rfl) ?_
              replace hf := obE hf
              obtain ⟨j86, qj86, hf⟩ := hf
              have tj86 := x_rt hW qj86 0 ⟨by decide, rfl⟩
              refine x_getr 900 (ci := 9) (C := RX10) (T := TX10) (N := 11) 0 hC hinX10 hW g83 g84 rfl ⟨by decide, by decide, rfl, rfl⟩ rfl w_5 dX10_deliver_129 qj86 ?_
              refine lv_iconst (v := 0) hx hb dX10_deliver_132 (by decide) ?_
              replace hf := obE hf
              obtain ⟨S88, hz87, hf⟩ := hf
              refine x_callV (As := [.int 0]) (rest := []) (o := none) (S1 := S88) hC hl.1 hW hS hGs hA tj86 rfl (show vwCl[0]? = some (RX0, TX0, 2) ∧ ob 0 from ⟨rfl, by decide⟩) (c_X0_cutTo l g ad80 n79 K81 H.size F S77 j86 ((0 : Int32)) tj86 S88 hz87) (cwV 1 hts gX10_deliver_X0_cutTo rfl rfl rfl (by decide +kernel) ⟨Nat.le_of_ble_eq_true rfl, Nat.le_of_ble_eq_true rfl⟩) rfl rfl (Nat.le_of_ble_eq_true rfl) dX10_deliver_133 ⟨Nat.le_of_ble_eq_true rfl, Nat.le_of_ble_eq_true rfl⟩ (fun H locs hPz87 hW hS => ?_)
              refine W.eq (g2 := F0 m 136 ls []) rfl ?_
              refine lv_iload hx hb dX10_deliver_136 (lv_at hl 0 rfl) ?_
              obtain ⟨e1, e2, e3⟩ := so3 hf
              replace e1 := Sum.inr.inj e1; subst e1
              subst e2
              subst e3
              exact W.iret (v := r78) hx hb hr (fun t ht hWm => ⟨⟨ad80, K81, rfl, ag85, trivial, by rw [ht]; exact hW⟩, hS.F ht⟩) hS.2.2 dX10_deliver_138 hlk
            · replace hf := ifF c69 hf
              exact L98 adL KL nL hagL S66 _ _ _ hf hW hS (lv_sub hl [] rfl)
        · replace hf := ifF (fun q => q c59) hf
          exact L56 adL KL nL hagL S56 _ _ _ hf hW hS (lv_sub hl [] rfl)
    · replace hf := ifF c52 hf
      exact nomatch (Prod.mk.inj (Option.some.inj hf)).1
  unfold f_X10_deliver at hf
  refine lv_aload_n hx hb dX10_deliver_0 rfl (lv_at hl 0 rfl) ?_
  refine lv_iload_n hx hb dX10_deliver_1 rfl (lv_at hl 1 rfl) ?_
  replace hf := obE hf
  obtain ⟨z91, hz91, hf⟩ := hf
  obtain ⟨oz91, S92⟩ := z91
  replace hf := ltE hf S92 rfl
  cases oz91 with
  | inl x =>
    replace hf := smL rfl hf
    exact nomatch (Prod.mk.inj (Option.some.inj hf)).1
  | inr r93 =>
    replace hf := smR rfl hf
    refine x_callV (As := [.int p1]) (rest := []) (o := none) (S1 := S92) (P := True) hC hl.1 hW hS hGs hA tp0 rfl (show vwCl[9]? = some (RX10, TX10, 11) ∧ ob 9 from ⟨rfl, by decide⟩) (c_X10_needUser l g ad n K s.heap.size F S0 p0 p1 tp0 r93 S92 hz91) (cwV 1 hts gX10_deliver_X10_needUser rfl rfl rfl (by decide +kernel) ⟨Nat.le_of_ble_eq_true rfl, Nat.le_of_ble_eq_true rfl⟩) rfl rfl (Nat.le_of_ble_eq_true rfl) dX10_deliver_2 ⟨Nat.le_of_ble_eq_true rfl, Nat.le_of_ble_eq_true rfl⟩ (fun H locs hPz91 hW hS => ?_)
    refine W.eq (g2 := F0 m 5 ls []) rfl ?_
    refine lv_iload_n hx hb dX10_deliver_5 rfl (lv_at hl 3 rfl) ?_
    refine lv_iconst (v := -1) hx hb dX10_deliver_6 (by decide) ?_
    refine lv_icmp_eq (tgt := 15) hx hb dX10_deliver_7 (by decide) (fun c95 => ?_) (fun c95 => ?_)
    · replace hf := ifT c95 hf
      exact L15 ad K n Ag.rf S92 p0 p1 p2 p3 tp0 _ _ _ hf hW hS (lv_sub hl [0, 1, 2, 3] rfl)
    · replace hf := ifF c95 hf
      refine lv_aload_n hx hb dX10_deliver_10 rfl (lv_at hl 0 rfl) ?_
      refine lv_iload_n hx hb dX10_deliver_11 rfl (lv_at hl 3 rfl) ?_
      replace hf := obE hf
      obtain ⟨z96, hz96, hf⟩ := hf
      obtain ⟨oz96, S97⟩ := z96
      replace hf := ltE hf S97 rfl
      cases oz96 with
      | inl x =>
        replace hf := smL rfl hf
        exact nomatch (Prod.mk.inj (Option.some.inj hf)).1
      | inr r98 =>
        replace hf := smR rfl hf
        refine x_callV (As := [.int p3]) (rest := []) (o := none) (S1 := S97) (P := True) hC hl.1 hW hS hGs hA tp0 rfl (show vwCl[9]? = some (RX10, TX10, 11) ∧ ob 9 from ⟨rfl, by decide⟩) (c_X10_needClass l g ad n K H.size F S92 p0 p3 tp0 r98 S97 hz96) (cwV 1 hts gX10_deliver_X10_needClass rfl rfl rfl (by decide +kernel) ⟨Nat.le_of_ble_eq_true rfl, Nat.le_of_ble_eq_true rfl⟩) rfl rfl (Nat.le_of_ble_eq_true rfl) dX10_deliver_12 ⟨Nat.le_of_ble_eq_true rfl, Nat.le_of_ble_eq_true rfl⟩ (fun H locs hPz96 hW hS => ?_)
        refine W.eq (g2 := F0 m 15 ls []) rfl ?_
        exact L15 ad K n Ag.rf S97 p0 p1 p2 p3 tp0 _ _ _ hf hW hS (lv_sub hl [0, 1, 2, 3] rfl)
set_option maxHeartbeats 4000000 in
set_option maxRecDepth 100000 in
theorem c_X10_bounced (l : Launch) (g : GP) (ad : Nat → Nat) (n : Nat) (K : Nat → Nat) (sz F : Nat) (S0 : St) (p0 : Nat) (tp0 : p0 < n ∧ K p0 = 9) (r9 : Int32) (S9 : St) (hf : f_X10_bounced F S0 p0 = some (r9, S9)) : Met l yX10_bounced wsX10_bounced { frames := 0, cells := 0, slots := 0, locals := 0 } (va_Pc [.ref (ad p0)] (PB g ad n K S0 sz)) (QR (some (.int r9)) (QB g ad n K S9 (dA ad n sz) (True)) (dA ad n sz)) 0 0 (dA ad n sz) := by
  refine Met.ofW (cc := cX10_bounced) (maxL := 1) (ret := (some .int)) (by decide) rfl ?_
  intro p e s m args below meth c s₁ B hml hv
  obtain ⟨rfl, hsz, hW, hK, hGs⟩ := x_start hv
  subst hsz
  have hx := B.exec
  have hb := B.bytes
  have hr := B.returns
  have hts := atoms_spec (ws := wsX10_bounced) B.pre
  have hown : s.vm.findClass RX10 = some m.cls := findClass_of_methodNamed B.named
  have hlk := B.notSynchronized
  have hC : Cx g p s m _ c cX10_bounced RX10 wsX10_bounced 1 := ⟨hx, hb, hml, hown, hts, hK⟩
  have hA : ∀ q : Nat, s.heap.size ≤ q → dA ad n s.heap.size q := fun q h => Or.inr h
  have hS : va_S (dA ad n s.heap.size) s.heap s.heap [] := va_S.rf
  have hl := lv_entry ([.ref (ad p0)]) (n := 1) (Nat.le_of_ble_eq_true rfl)
  rw [lg_entry_eq]
  generalize (lg_sl ([.ref (ad p0)]) ++ List.replicate (1 - (lg_sl ([.ref (ad p0)])).length) Slot.unset).toArray = ls at hl ⊢
  have hl : lv_has ls 1 [(0, .ref (ad p0))] := hl
  have hinX10 : ∀ w ∈ wsX100, w ∈ wsX10_bounced := by decide +kernel
  have hinX8 : ∀ w ∈ wsX80, w ∈ wsX10_bounced := by decide +kernel
  have w_0 := hts (.fieldLink RX10 42 "MailSpool" "now" "LMailSpool$Spool;") (by decide +kernel)
  have w_1 := va_Nw.use (A := (List.toArray [.ref (ad p0)])) rfl (hGs.1 (.fieldLinkNest RX10 202 "MailSpool$Spool" "bouncedUsers" "I" "MailSpool") (by decide +kernel))
  have hGE := hGs.2.2.2.1
  have hGM := hGs.2.2.2.2
  unfold f_X10_bounced at hf
  refine lv_aload_n hx hb dX10_bounced_0 rfl (lv_at hl 0 rfl) ?_
  replace hf := obE hf
  obtain ⟨j1, qj1, hf⟩ := hf
  have tj1 := x_rt hW qj1 7 ⟨by decide, rfl⟩
  refine x_getr 905 (ci := 9) (C := RX10) (T := TX10) (N := 11) 5 hC hinX10 hW tp0 rfl rfl ⟨by decide, by decide, rfl, rfl⟩ rfl w_0 dX10_bounced_1 qj1 ?_
  refine x_getiN 702 (ci := 7) (C := RX8) (T := TX8) (N := 16) 2 hC hinX8 hW tj1 rfl rfl ⟨by decide, by decide, rfl, rfl⟩ rfl w_1 dX10_bounced_4 ?_
  obtain ⟨e1, e2⟩ := so2 hf
  subst e1
  subst e2
  exact W.iret (v := si S0 702 j1) hx hb hr (fun t ht hWm => ⟨⟨rfl, by unfold QB; rw [ht]; exact ⟨hW, trivial⟩⟩, hS.F ht⟩) hS.2.2 dX10_bounced_7 hlk
set_option maxHeartbeats 4000000 in
set_option maxRecDepth 100000 in
theorem c_X10_messageCount (l : Launch) (g : GP) (ad : Nat → Nat) (n : Nat) (K : Nat → Nat) (sz F : Nat) (S0 : St) (p0 : Nat) (tp0 : p0 < n ∧ K p0 = 9) (r9 : Int32) (S9 : St) (hf : f_X10_messageCount F S0 p0 = some (r9, S9)) : Met l yX10_messageCount wsX10_messageCount { frames := 0, cells := 0, slots := 0, locals := 0 } (va_Pc [.ref (ad p0)] (PB g ad n K S0 sz)) (QR (some (.int r9)) (QB g ad n K S9 (dA ad n sz) (True)) (dA ad n sz)) 0 0 (dA ad n sz) := by
  refine Met.ofW (cc := cX10_messageCount) (maxL := 1) (ret := (some .int)) (by decide) rfl ?_
  intro p e s m args below meth c s₁ B hml hv
  obtain ⟨rfl, hsz, hW, hK, hGs⟩ := x_start hv
  subst hsz
  have hx := B.exec
  have hb := B.bytes
  have hr := B.returns
  have hts := atoms_spec (ws := wsX10_messageCount) B.pre
  have hown : s.vm.findClass RX10 = some m.cls := findClass_of_methodNamed B.named
  have hlk := B.notSynchronized
  have hC : Cx g p s m _ c cX10_messageCount RX10 wsX10_messageCount 1 := ⟨hx, hb, hml, hown, hts, hK⟩
  have hA : ∀ q : Nat, s.heap.size ≤ q → dA ad n s.heap.size q := fun q h => Or.inr h
  have hS : va_S (dA ad n s.heap.size) s.heap s.heap [] := va_S.rf
  have hl := lv_entry ([.ref (ad p0)]) (n := 1) (Nat.le_of_ble_eq_true rfl)
  rw [lg_entry_eq]
  generalize (lg_sl ([.ref (ad p0)]) ++ List.replicate (1 - (lg_sl ([.ref (ad p0)])).length) Slot.unset).toArray = ls at hl ⊢
  have hl : lv_has ls 1 [(0, .ref (ad p0))] := hl
  have hinX10 : ∀ w ∈ wsX100, w ∈ wsX10_messageCount := by decide +kernel
  have hinX8 : ∀ w ∈ wsX80, w ∈ wsX10_messageCount := by decide +kernel
  have w_0 := hts (.fieldLink RX10 42 "MailSpool" "now" "LMailSpool$Spool;") (by decide +kernel)
  have w_1 := va_Nw.use (A := (List.toArray [.ref (ad p0)])) rfl (hGs.1 (.fieldLinkNest RX10 183 "MailSpool$Spool" "messageCount" "I" "MailSpool") (by decide +kernel))
  have hGE := hGs.2.2.2.1
  have hGM := hGs.2.2.2.2
  unfold f_X10_messageCount at hf
  refine lv_aload_n hx hb dX10_messageCount_0 rfl (lv_at hl 0 rfl) ?_
  replace hf := obE hf
  obtain ⟨j1, qj1, hf⟩ := hf
  have tj1 := x_rt hW qj1 7 ⟨by decide, rfl⟩
  refine x_getr 905 (ci := 9) (C := RX10) (T := TX10) (N := 11) 5 hC hinX10 hW tp0 rfl rfl ⟨by decide, by decide, rfl, rfl⟩ rfl w_0 dX10_messageCount_1 qj1 ?_
  refine x_getiN 705 (ci := 7) (C := RX8) (T := TX8) (N := 16) 5 hC hinX8 hW tj1 rfl rfl ⟨by decide, by decide, rfl, rfl⟩ rfl w_1 dX10_messageCount_4 ?_
  obtain ⟨e1, e2⟩ := so2 hf
  subst e1
  subst e2
  exact W.iret (v := si S0 705 j1) hx hb hr (fun t ht hWm => ⟨⟨rfl, by unfold QB; rw [ht]; exact ⟨hW, trivial⟩⟩, hS.F ht⟩) hS.2.2 dX10_messageCount_7 hlk
set_option maxHeartbeats 4000000 in
set_option maxRecDepth 100000 in
theorem c_X10_needMessage (l : Launch) (g : GP) (ad : Nat → Nat) (n : Nat) (K : Nat → Nat) (sz F : Nat) (S0 : St) (p0 : Nat) (p1 : Int32) (tp0 : p0 < n ∧ K p0 = 9) (r9 : Unit) (S9 : St) (hf : f_X10_needMessage F S0 p0 p1 = some (.inr r9, S9)) : Met l yX10_needMessage wsX10_needMessage { frames := 0, cells := 0, slots := 0, locals := 0 } (va_Pc [.ref (ad p0), .int p1] (PB g ad n K S0 sz)) (QR none (QB g ad n K S9 (dA ad n sz) (True)) (dA ad n sz)) 0 0 (dA ad n sz) := by
  refine Met.ofW (cc := cX10_needMessage) (maxL := 2) (ret := none) (by decide) rfl ?_
  intro p e s m args below meth c s₁ B hml hv
  obtain ⟨rfl, hsz, hW, hK, hGs⟩ := x_start hv
  subst hsz
  have hx := B.exec
  have hb := B.bytes
  have hr := B.returns
  have hts := atoms_spec (ws := wsX10_needMessage) B.pre
  have hown : s.vm.findClass RX10 = some m.cls := findClass_of_methodNamed B.named
  have hlk := B.notSynchronized
  have hC : Cx g p s m _ c cX10_needMessage RX10 wsX10_needMessage 2 := ⟨hx, hb, hml, hown, hts, hK⟩
  have hA : ∀ q : Nat, s.heap.size ≤ q → dA ad n s.heap.size q := fun q h => Or.inr h
  have hS : va_S (dA ad n s.heap.size) s.heap s.heap [] := va_S.rf
  have hl := lv_entry ([.ref (ad p0), .int p1]) (n := 2) (Nat.le_of_ble_eq_true rfl)
  rw [lg_entry_eq]
  generalize (lg_sl ([.ref (ad p0), .int p1]) ++ List.replicate (2 - (lg_sl ([.ref (ad p0), .int p1])).length) Slot.unset).toArray = ls at hl ⊢
  have hl : lv_has ls 2 [(0, .ref (ad p0)), (1, .int p1)] := hl
  have hinX10 : ∀ w ∈ wsX100, w ∈ wsX10_needMessage := by decide +kernel
  have hinX8 : ∀ w ∈ wsX80, w ∈ wsX10_needMessage := by decide +kernel
  have w_0 := hts (.fieldLink RX10 42 "MailSpool" "now" "LMailSpool$Spool;") (by decide +kernel)
  have w_1 := va_Nw.use (A := (List.toArray [.ref (ad p0), .int p1])) rfl (hGs.1 (.fieldLinkNest RX10 183 "MailSpool$Spool" "messageCount" "I" "MailSpool") (by decide +kernel))
  have hGE := hGs.2.2.2.1
  have hGM := hGs.2.2.2.2
  have L15 : ∀ (S0 : St)   (H : Heap) (locs : List Loc) (ls : Array Slot), f_X10_needMessage_L15 F S0  = some (.inr r9, S9) → Wb g ad n K S0 (dA ad n s.heap.size) H → va_S (dA ad n s.heap.size) s.heap H locs → lv_has ls 2 [] → W p l e (headSpec wsX10_needMessage { frames := 0, cells := 0, slots := 0, locals := 0 }).room s m (List.toArray [.ref (ad p0), .int p1]) below meth c H locs 0 0 (MQ below (QR none (QB g ad n K S9 (dA ad n s.heap.size) (True)) (dA ad n s.heap.size)) (List.toArray [.ref (ad p0), .int p1]) s 0 0 (dA ad n s.heap.size)) (F0 m 15 ls []) := by
    intro S0  H locs ls hf hW hS hl
    unfold f_X10_needMessage_L15 at hf
    exact nomatch (Prod.mk.inj (Option.some.inj hf)).1
  unfold f_X10_needMessage at hf
  refine lv_iload_n hx hb dX10_needMessage_0 rfl (lv_at hl 1 rfl) ?_
  refine lv_if_lt (tgt := 15) hx hb dX10_needMessage_1 (by decide) (fun c1 => ?_) (fun c1 => ?_)
  · replace hf := ifT c1 hf
    exact L15 S0 _ _ _ hf hW hS (lv_sub hl [] rfl)
  · replace hf := ifF c1 hf
    refine lv_iload_n hx hb dX10_needMessage_4 rfl (lv_at hl 1 rfl) ?_
    refine lv_aload_n hx hb dX10_needMessage_5 rfl (lv_at hl 0 rfl) ?_
    replace hf := obE hf
    obtain ⟨j2, qj2, hf⟩ := hf
    have tj2 := x_rt hW qj2 7 ⟨by decide, rfl⟩
    refine x_getr 905 (ci := 9) (C := RX10) (T := TX10) (N := 11) 5 hC hinX10 hW tp0 rfl rfl ⟨by decide, by decide, rfl, rfl⟩ rfl w_0 dX10_needMessage_6 qj2 ?_
    refine x_getiN 705 (ci := 7) (C := RX8) (T := TX8) (N := 16) 5 hC hinX8 hW tj2 rfl rfl ⟨by decide, by decide, rfl, rfl⟩ rfl w_1 dX10_needMessage_9 ?_
    refine lv_icmp_lt (tgt := 26) hx hb dX10_needMessage_12 (by decide) (fun c3 => ?_) (fun c3 => ?_)
    · replace hf := ifT c3 hf
      obtain ⟨e1, e2⟩ := so2 hf
      replace e1 := Sum.inr.inj e1; subst e1
      subst e2
      exact W.vret hx hb hr (fun t ht hWm => ⟨⟨rfl, by unfold QB; rw [ht]; exact ⟨hW, trivial⟩⟩, hS.F ht⟩) hS.2.2 dX10_needMessage_26 hlk
    · replace hf := ifF c3 hf
      exact L15 S0 _ _ _ hf hW hS (lv_sub hl [] rfl)
set_option maxHeartbeats 4000000 in
set_option maxRecDepth 100000 in
theorem c_X10_needWhat (l : Launch) (g : GP) (ad : Nat → Nat) (n : Nat) (K : Nat → Nat) (sz F : Nat) (S0 : St) (p0 : Int32) (p1 : Int32) (r9 : Unit) (S9 : St) (hf : f_X10_needWhat F S0 p0 p1 = some (.inr r9, S9)) : Met l yX10_needWhat wsX10_needWhat { frames := 0, cells := 0, slots := 0, locals := 0 } (va_Pc [.int p0, .int p1] (PB g ad n K S0 sz)) (QR none (QB g ad n K S9 (dA ad n sz) (True)) (dA ad n sz)) 0 0 (dA ad n sz) := by
  refine Met.ofW (cc := cX10_needWhat) (maxL := 2) (ret := none) (by decide) rfl ?_
  intro p e s m args below meth c s₁ B hml hv
  obtain ⟨rfl, hsz, hW, hK, hGs⟩ := x_start hv
  subst hsz
  have hx := B.exec
  have hb := B.bytes
  have hr := B.returns
  have hts := atoms_spec (ws := wsX10_needWhat) B.pre
  have hown : s.vm.findClass RX10 = some m.cls := findClass_of_methodNamed B.named
  have hlk := B.notSynchronized
  have hC : Cx g p s m _ c cX10_needWhat RX10 wsX10_needWhat 2 := ⟨hx, hb, hml, hown, hts, hK⟩
  have hA : ∀ q : Nat, s.heap.size ≤ q → dA ad n s.heap.size q := fun q h => Or.inr h
  have hS : va_S (dA ad n s.heap.size) s.heap s.heap [] := va_S.rf
  have hl := lv_entry ([.int p0, .int p1]) (n := 2) (Nat.le_of_ble_eq_true rfl)
  rw [lg_entry_eq]
  generalize (lg_sl ([.int p0, .int p1]) ++ List.replicate (2 - (lg_sl ([.int p0, .int p1])).length) Slot.unset).toArray = ls at hl ⊢
  have hl : lv_has ls 2 [(0, .int p0), (1, .int p1)] := hl
  have hGE := hGs.2.2.2.1
  have hGM := hGs.2.2.2.2
  have L9 : ∀ (S0 : St)   (H : Heap) (locs : List Loc) (ls : Array Slot), f_X10_needWhat_L9 F S0  = some (.inr r9, S9) → Wb g ad n K S0 (dA ad n s.heap.size) H → va_S (dA ad n s.heap.size) s.heap H locs → lv_has ls 2 [] → W p l e (headSpec wsX10_needWhat { frames := 0, cells := 0, slots := 0, locals := 0 }).room s m (List.toArray [.int p0, .int p1]) below meth c H locs 0 0 (MQ below (QR none (QB g ad n K S9 (dA ad n s.heap.size) (True)) (dA ad n s.heap.size)) (List.toArray [.int p0, .int p1]) s 0 0 (dA ad n s.heap.size)) (F0 m 9 ls []) := by
    intro S0  H locs ls hf hW hS hl
    unfold f_X10_needWhat_L9 at hf
    exact nomatch (Prod.mk.inj (Option.some.inj hf)).1
  unfold f_X10_needWhat at hf
  refine lv_iload_n hx hb dX10_needWhat_0 rfl (lv_at hl 0 rfl) ?_
  refine lv_if_lt (tgt := 9) hx hb dX10_needWhat_1 (by decide) (fun c1 => ?_) (fun c1 => ?_)
  · replace hf := ifT c1 hf
    exact L9 S0 _ _ _ hf hW hS (lv_sub hl [] rfl)
  · replace hf := ifF c1 hf
    refine lv_iload_n hx hb dX10_needWhat_4 rfl (lv_at hl 0 rfl) ?_
    refine lv_iload_n hx hb dX10_needWhat_5 rfl (lv_at hl 1 rfl) ?_
    refine lv_icmp_le (tgt := 20) hx hb dX10_needWhat_6 (by decide) (fun c2 => ?_) (fun c2 => ?_)
    · replace hf := ifT c2 hf
      obtain ⟨e1, e2⟩ := so2 hf
      replace e1 := Sum.inr.inj e1; subst e1
      subst e2
      exact W.vret hx hb hr (fun t ht hWm => ⟨⟨rfl, by unfold QB; rw [ht]; exact ⟨hW, trivial⟩⟩, hS.F ht⟩) hS.2.2 dX10_needWhat_20 hlk
    · replace hf := ifF c2 hf
      exact L9 S0 _ _ _ hf hW hS (lv_sub hl [] rfl)
set_option maxHeartbeats 4000000 in
set_option maxRecDepth 100000 in
theorem c_X8_keepsMessage (l : Launch) (g : GP) (ad : Nat → Nat) (n : Nat) (K : Nat → Nat) (sz F : Nat) (S0 : St) (p0 : Nat) (p1 : Int32) (tp0 : p0 < n ∧ K p0 = 7) (r9 : Int32) (S9 : St) (hf : f_X8_keepsMessage F S0 p0 p1 = some (r9, S9)) : Met l yX8_keepsMessage wsX8_keepsMessage { frames := 2, cells := 0, slots := 0, locals := 43 } (va_Pc [.ref (ad p0), .int p1] (PB g ad n K S0 sz)) (QR (some (.int r9)) (QB g ad n K S9 (dA ad n sz) (True)) (dA ad n sz)) 0 0 (dA ad n sz) := by
  refine Met.ofW (cc := cX8_keepsMessage) (maxL := 4) (ret := (some .boolean)) (by decide) rfl ?_
  intro p e s m args below meth c s₁ B hml hv
  obtain ⟨rfl, hsz, hW, hK, hGs⟩ := x_start hv
  subst hsz
  have hx := B.exec
  have hb := B.bytes
  have hr := B.returns
  have hts := atoms_spec (ws := wsX8_keepsMessage) B.pre
  have hown : s.vm.findClass RX8 = some m.cls := findClass_of_methodNamed B.named
  have hlk := B.notSynchronized
  have hC : Cx g p s m _ c cX8_keepsMessage RX8 wsX8_keepsMessage 4 := ⟨hx, hb, hml, hown, hts, hK⟩
  have hA : ∀ q : Nat, s.heap.size ≤ q → dA ad n s.heap.size q := fun q h => Or.inr h
  have hS : va_S (dA ad n s.heap.size) s.heap s.heap [] := va_S.rf
  have hl := lv_entry ([.ref (ad p0), .int p1]) (n := 4) (Nat.le_of_ble_eq_true rfl)
  rw [lg_entry_eq]
  generalize (lg_sl ([.ref (ad p0), .int p1]) ++ List.replicate (4 - (lg_sl ([.ref (ad p0), .int p1])).length) Slot.unset).toArray = ls at hl ⊢
  have hl : lv_has ls 4 [(0, .ref (ad p0)), (1, .int p1)] := hl
  have hinX5 : ∀ w ∈ wsX50, w ∈ wsX8_keepsMessage := by decide +kernel
  have hinX7 : ∀ w ∈ wsX70, w ∈ wsX8_keepsMessage := by decide +kernel
  have hinX8 : ∀ w ∈ wsX80, w ∈ wsX8_keepsMessage := by decide +kernel
  have w_0 := hts (.fieldLink RX8 9 "MailSpool$Spool" "rules" "LMailSpool$Rules;") (by decide +kernel)
  have w_1 := va_Nw.use (A := (List.toArray [.ref (ad p0), .int p1])) rfl (hGs.1 (.fieldLinkNest RX8 102 "MailSpool$Rules" "users" "LMailSpool$Names;" "MailSpool") (by decide +kernel))
  have w_2 := va_Nw.use (A := (List.toArray [.ref (ad p0), .int p1])) rfl (hGs.1 (.fieldLinkNest RX8 120 "MailSpool$Names" "size" "I" "MailSpool") (by decide +kernel))
  have hGE := hGs.2.2.2.1
  have hGM := hGs.2.2.2.2
  have L2 : ∀ (fu2 : Nat) (S0 : St) (v0 : Nat) (v1 : Int32) (v2 : Int32) (tv0 : v0 < n ∧ K v0 = 7) (H : Heap) (locs : List Loc) (ls : Array Slot), f_X8_keepsMessage_L2 F fu2 S0 v0 v1 v2 = some (r9, S9) → Wb g ad n K S0 (dA ad n s.heap.size) H → va_S (dA ad n s.heap.size) s.heap H locs → lv_has ls 4 [(0, .ref (ad v0)), (1, .int v1), (2, .int v2)] → W p l e (headSpec wsX8_keepsMessage { frames := 2, cells := 0, slots := 0, locals := 43 }).room s m (List.toArray [.ref (ad p0), .int p1]) below meth c H locs 0 0 (MQ below (QR (some (.int r9)) (QB g ad n K S9 (dA ad n s.heap.size) (True)) (dA ad n s.heap.size)) (List.toArray [.ref (ad p0), .int p1]) s 0 0 (dA ad n s.heap.size)) (F0 m 2 ls []) := by
    intro fu2
    induction fu2 with
    | zero =>
      intro S0 v0 v1 v2 tv0 H locs ls hf
      cases hf
    | succ fu2 ih2 =>
      have L34 : ∀ (S0 : St) (v0 : Nat) (v1 : Int32) (v2 : Int32) (tv0 : v0 < n ∧ K v0 = 7) (H : Heap) (locs : List Loc) (ls : Array Slot), f_X8_keepsMessage_L34 F (fun a0 a1 a2 a3 => f_X8_keepsMessage_L2 F fu2 a0 a1 a2 a3) S0 v0 v1 v2 = some (r9, S9) → Wb g ad n K S0 (dA ad n s.heap.size) H → va_S (dA ad n s.heap.size) s.heap H locs → lv_has ls 4 [(0, .ref (ad v0)), (1, .int v1), (2, .int v2)] → W p l e (headSpec wsX8_keepsMessage { frames := 2, cells := 0, slots := 0, locals := 43 }).room s m (List.toArray [.ref (ad p0), .int p1]) below meth c H locs 0 0 (MQ below (QR (some (.int r9)) (QB g ad n K S9 (dA ad n s.heap.size) (True)) (dA ad n s.heap.size)) (List.toArray [.ref (ad p0), .int p1]) s 0 0 (dA ad n s.heap.size)) (F0 m 34 ls []) := by
        intro S0 v0 v1 v2 tv0 H locs ls hf hW hS hl
        unfold f_X8_keepsMessage_L34 at hf
        obtain ⟨x2, ex2⟩ : ∃ z : Int32, z = v2 + 1 := ⟨_, rfl⟩
        replace hf := ltE hf x2 ex2
        refine lv_iinc (v := x2) (lv' := [(2, .int x2), (0, .ref (ad v0)), (1, .int v1)]) hx hb dX8_keepsMessage_34 hl (k := 2) rfl (by rw [ex2]; rfl) (by decide) rfl (fun ls hl => ?_)
        refine lv_goto (tgt := 2) hx hb dX8_keepsMessage_37 (by decide) ?_
        exact ih2 S0 v0 v1 x2 tv0 _ _ _ hf hW hS (lv_sub hl [1, 2, 0] rfl)
      intro S0 v0 v1 v2 tv0 H locs ls hf hW hS hl
      unfold f_X8_keepsMessage_L2 at hf
      refine lv_iload_n hx hb dX8_keepsMessage_2 rfl (lv_at hl 2 rfl) ?_
      refine lv_aload_n hx hb dX8_keepsMessage_3 rfl (lv_at hl 0 rfl) ?_
      replace hf := obE hf
      obtain ⟨j12, qj12, hf⟩ := hf
      have tj12 := x_rt hW qj12 6 ⟨by decide, rfl⟩
      refine x_getr 700 (ci := 7) (C := RX8) (T := TX8) (N := 16) 0 hC hinX8 hW tv0 rfl rfl ⟨by decide, by decide, rfl, rfl⟩ rfl w_0 dX8_keepsMessage_4 qj12 ?_
      replace hf := obE hf
      obtain ⟨j13, qj13, hf⟩ := hf
      have tj13 := x_rt hW qj13 4 ⟨by decide, rfl⟩
      refine x_getrN 606 (ci := 6) (C := RX7) (T := TX7) (N := 16) 6 hC hinX7 hW tj12 rfl rfl ⟨by decide, by decide, rfl, rfl⟩ rfl w_1 dX8_keepsMessage_7 qj13 ?_
      refine x_getiN 401 (ci := 4) (C := RX5) (T := TX5) (N := 2) 1 hC hinX5 hW tj13 rfl rfl ⟨by decide, by decide, rfl, rfl⟩ rfl w_2 dX8_keepsMessage_10 ?_
      refine lv_icmp_ge (tgt := 40) hx hb dX8_keepsMessage_13 (by decide) (fun c14 => ?_) (fun c14 => ?_)
      · replace hf := ifT c14 hf
        refine lv_iconst (v := 0) hx hb dX8_keepsMessage_40 (by decide) ?_
        obtain ⟨e1, e2⟩ := so2 hf
        subst e1
        subst e2
        exact W.zret (v := 0) hx hb hr rfl (fun t ht hWm => ⟨⟨rfl, by unfold QB; rw [ht]; exact ⟨hW, trivial⟩⟩, hS.F ht⟩) hS.2.2 dX8_keepsMessage_41 hlk
      · replace hf := ifF c14 hf
        refine lv_aload_n hx hb dX8_keepsMessage_16 rfl (lv_at hl 0 rfl) ?_
        refine lv_iload_n hx hb dX8_keepsMessage_17 rfl (lv_at hl 1 rfl) ?_
        refine lv_iload_n hx hb dX8_keepsMessage_18 rfl (lv_at hl 2 rfl) ?_
        replace hf := obE hf
        obtain ⟨z15, hz15, hf⟩ := hf
        obtain ⟨r17, S16⟩ := z15
        replace hf := ltE (ltE hf r17 rfl) S16 rfl
        refine x_callV (As := [.int v1, .int v2]) (rest := []) (o := (some (.int r17))) (S1 := S16) hC hl.1 hW hS hGs hA tv0 rfl (show vwCl[7]? = some (RX8, TX8, 16) ∧ ob 7 from ⟨rfl, by decide⟩) (c_X8_stateOf l g ad n K H.size F S0 v0 v1 v2 tv0 r17 S16 hz15) (cwV 2 hts gX8_keepsMessage_X8_stateOf rfl rfl rfl (by decide +kernel) ⟨Nat.le_of_ble_eq_true rfl, Nat.le_of_ble_eq_true rfl⟩) rfl rfl (Nat.le_of_ble_eq_true rfl) dX8_keepsMessage_19 ⟨Nat.le_of_ble_eq_true rfl, Nat.le_of_ble_eq_true rfl⟩ (fun H locs hPz15 hW hS => ?_)
        refine W.eq (g2 := F0 m 22 ls [.int r17]) rfl ?_
        refine lv_istore_n (lv' := [(3, .int r17), (0, .ref (ad v0)), (1, .int v1), (2, .int v2)]) hx hb dX8_keepsMessage_22 rfl hl (by decide) rfl (fun ls hl => ?_)
        refine lv_iload_n hx hb dX8_keepsMessage_23 rfl (lv_at hl 0 rfl) ?_
        refine lv_if_lt (tgt := 34) hx hb dX8_keepsMessage_24 (by decide) (fun c19 => ?_) (fun c19 => ?_)
        · replace hf := ifT c19 hf
          exact L34 S16 v0 v1 v2 tv0 _ _ _ hf hW hS (lv_sub hl [1, 2, 3] rfl)
        · replace hf := ifF c19 hf
          refine lv_iload_n hx hb dX8_keepsMessage_27 rfl (lv_at hl 0 rfl) ?_
          refine lv_iconst (v := 2) hx hb dX8_keepsMessage_28 (by decide) ?_
          refine lv_icmp_gt (tgt := 34) hx hb dX8_keepsMessage_29 (by decide) (fun c20 => ?_) (fun c20 => ?_)
          · replace hf := ifT c20 hf
            exact L34 S16 v0 v1 v2 tv0 _ _ _ hf hW hS (lv_sub hl [1, 2, 3] rfl)
          · replace hf := ifF c20 hf
            refine lv_iconst (v := 1) hx hb dX8_keepsMessage_32 (by decide) ?_
            obtain ⟨e1, e2⟩ := so2 hf
            subst e1
            subst e2
            exact W.zret (v := 1) hx hb hr rfl (fun t ht hWm => ⟨⟨rfl, by unfold QB; rw [ht]; exact ⟨hW, trivial⟩⟩, hS.F ht⟩) hS.2.2 dX8_keepsMessage_33 hlk
  unfold f_X8_keepsMessage at hf
  refine lv_iconst (v := 0) hx hb dX8_keepsMessage_0 (by decide) ?_
  refine lv_istore_n (lv' := [(2, .int 0), (0, .ref (ad p0)), (1, .int p1)]) hx hb dX8_keepsMessage_1 rfl hl (by decide) rfl (fun ls hl => ?_)
  exact L2 F S0 p0 p1 0 tp0 _ _ _ hf hW hS (lv_sub hl [1, 2, 0] rfl)
set_option maxHeartbeats 4000000 in
set_option maxRecDepth 100000 in
theorem c_X10_message (l : Launch) (g : GP) (ad : Nat → Nat) (n : Nat) (K : Nat → Nat) (sz F : Nat) (S0 : St) (p0 : Nat) (p1 : Int32) (p2 : Int32) (tp0 : p0 < n ∧ K p0 = 9) (r9 : Int32) (S9 : St) (hf : f_X10_message F S0 p0 p1 p2 = some (.inr r9, S9)) : Met l yX10_message wsX10_message { frames := 3, cells := 0, slots := 0, locals := 66 } (va_Pc [.ref (ad p0), .int p1, .int p2] (PB g ad n K S0 sz)) (QR (some (.int r9)) (QB g ad n K S9 (dA ad n sz) (True)) (dA ad n sz)) 0 0 (dA ad n sz) := by
  refine Met.ofW (cc := cX10_message) (maxL := 4) (ret := (some .int)) (by decide) rfl ?_
  intro p e s m args below meth c s₁ B hml hv
  obtain ⟨rfl, hsz, hW, hK, hGs⟩ := x_start hv
  subst hsz
  have hx := B.exec
  have hb := B.bytes
  have hr := B.returns
  have hts := atoms_spec (ws := wsX10_message) B.pre
  have hown : s.vm.findClass RX10 = some m.cls := findClass_of_methodNamed B.named
  have hlk := B.notSynchronized
  have hC : Cx g p s m _ c cX10_message RX10 wsX10_message 4 := ⟨hx, hb, hml, hown, hts, hK⟩
  have hA : ∀ q : Nat, s.heap.size ≤ q → dA ad n s.heap.size q := fun q h => Or.inr h
  have hS : va_S (dA ad n s.heap.size) s.heap s.heap [] := va_S.rf
  have hl := lv_entry ([.ref (ad p0), .int p1, .int p2]) (n := 4) (Nat.le_of_ble_eq_true rfl)
  rw [lg_entry_eq]
  generalize (lg_sl ([.ref (ad p0), .int p1, .int p2]) ++ List.replicate (4 - (lg_sl ([.ref (ad p0), .int p1, .int p2])).length) Slot.unset).toArray = ls at hl ⊢
  have hl : lv_has ls 4 [(0, .ref (ad p0)), (1, .int p1), (2, .int p2)] := hl
  have hinX10 : ∀ w ∈ wsX100, w ∈ wsX10_message := by decide +kernel
  have hinX4 : ∀ w ∈ wsX40, w ∈ wsX10_message := by decide +kernel
  have w_0 := hts (.fieldLink RX10 42 "MailSpool" "now" "LMailSpool$Spool;") (by decide +kernel)
  have w_1 := va_Nw.use (A := (List.toArray [.ref (ad p0), .int p1, .int p2])) rfl (hGs.1 (.fieldLinkNest RX10 212 "MailSpool$Message" "sender" "I" "MailSpool") (by decide +kernel))
  have w_2 := va_Nw.use (A := (List.toArray [.ref (ad p0), .int p1, .int p2])) rfl (hGs.1 (.fieldLinkNest RX10 217 "MailSpool$Message" "day" "I" "MailSpool") (by decide +kernel))
  have w_3 := va_Nw.use (A := (List.toArray [.ref (ad p0), .int p1, .int p2])) rfl (hGs.1 (.fieldLinkNest RX10 218 "MailSpool$Message" "parts" "[I" "MailSpool") (by decide +kernel))
  have w_4 := va_Nw.use (A := (List.toArray [.ref (ad p0), .int p1, .int p2])) rfl (hGs.1 (.fieldLinkNest RX10 221 "MailSpool$Message" "size" "I" "MailSpool") (by decide +kernel))
  have hGE := hGs.2.2.2.1
  have hGM := hGs.2.2.2.2
  unfold f_X10_message at hf
  refine lv_aload_n hx hb dX10_message_0 rfl (lv_at hl 0 rfl) ?_
  refine lv_iload_n hx hb dX10_message_1 rfl (lv_at hl 1 rfl) ?_
  replace hf := obE hf
  obtain ⟨z1, hz1, hf⟩ := hf
  obtain ⟨oz1, S2⟩ := z1
  replace hf := ltE hf S2 rfl
  cases oz1 with
  | inl x =>
    replace hf := smL rfl hf
    exact nomatch (Prod.mk.inj (Option.some.inj hf)).1
  | inr r3 =>
    replace hf := smR rfl hf
    refine x_callV (As := [.int p1]) (rest := []) (o := none) (S1 := S2) (P := True) hC hl.1 hW hS hGs hA tp0 rfl (show vwCl[9]? = some (RX10, TX10, 11) ∧ ob 9 from ⟨rfl, by decide⟩) (c_X10_needMessage l g ad n K s.heap.size F S0 p0 p1 tp0 r3 S2 hz1) (cwV 1 hts gX10_message_X10_needMessage rfl rfl rfl (by decide +kernel) ⟨Nat.le_of_ble_eq_true rfl, Nat.le_of_ble_eq_true rfl⟩) rfl rfl (Nat.le_of_ble_eq_true rfl) dX10_message_2 ⟨Nat.le_of_ble_eq_true rfl, Nat.le_of_ble_eq_true rfl⟩ (fun H locs hPz1 hW hS => ?_)
    refine W.eq (g2 := F0 m 5 ls []) rfl ?_
    refine lv_iload_n hx hb dX10_message_5 rfl (lv_at hl 2 rfl) ?_
    refine lv_iconst (v := 4) hx hb dX10_message_6 (by decide) ?_
    replace hf := obE hf
    obtain ⟨z5, hz5, hf⟩ := hf
    obtain ⟨oz5, S6⟩ := z5
    replace hf := ltE hf S6 rfl
    cases oz5 with
    | inl x =>
      replace hf := smL rfl hf
      exact nomatch (Prod.mk.inj (Option.some.inj hf)).1
    | inr r7 =>
      replace hf := smR rfl hf
      refine x_callS (As := [.int p2, .int 4]) (rest := []) (o := none) (S1 := S6) (P := True) hC hl.1 hW hS hGs hA (c_X10_needWhat l g ad n K H.size F S2 p2 ((4 : Int32)) r7 S6 hz5) (va_cwS 2 hts gX10_message_X10_needWhat rfl rfl rfl (by decide +kernel) ⟨Nat.le_of_ble_eq_true rfl, Nat.le_of_ble_eq_true rfl⟩) rfl rfl (Nat.le_of_ble_eq_true rfl) dX10_message_7 ⟨Nat.le_of_ble_eq_true rfl, Nat.le_of_ble_eq_true rfl⟩ (fun H locs hPz5 hW hS => ?_)
      refine W.eq (g2 := F0 m 10 ls []) rfl ?_
      refine lv_aload_n hx hb dX10_message_10 rfl (lv_at hl 0 rfl) ?_
      replace hf := obE hf
      obtain ⟨j9, qj9, hf⟩ := hf
      have tj9 := x_rt hW qj9 7 ⟨by decide, rfl⟩
      refine x_getr 905 (ci := 9) (C := RX10) (T := TX10) (N := 11) 5 hC hinX10 hW tp0 rfl rfl ⟨by decide, by decide, rfl, rfl⟩ rfl w_0 dX10_message_11 qj9 ?_
      refine lv_iload_n hx hb dX10_message_14 rfl (lv_at hl 1 rfl) ?_
      replace hf := obE hf
      obtain ⟨z10, hz10, hf⟩ := hf
      obtain ⟨r12, S11⟩ := z10
      replace hf := ltE (ltE hf r12 rfl) S11 rfl
      refine x_callV (As := [.int p1]) (rest := []) (o := (some (va_re ad r12))) (S1 := S11) hC hl.1 hW hS hGs hA tj9 rfl (show vwCl[7]? = some (RX8, TX8, 16) ∧ ob 7 from ⟨rfl, by decide⟩) (c_X8_messageAt l g ad n K H.size F S6 j9 p1 tj9 r12 S11 hz10) (cwV 1 hts gX10_message_X8_messageAt rfl rfl rfl (by decide +kernel) ⟨Nat.le_of_ble_eq_true rfl, Nat.le_of_ble_eq_true rfl⟩) rfl rfl (Nat.le_of_ble_eq_true rfl) dX10_message_15 ⟨Nat.le_of_ble_eq_true rfl, Nat.le_of_ble_eq_true rfl⟩ (fun H locs hPz10 hW hS => ?_)
      replace hf := obE hf
      obtain ⟨j14, qj14, hf⟩ := hf
      have tj14 := hPz10 j14 qj14
      refine W.eq (g2 := F0 m 18 ls [.ref (ad j14)]) (by rw [qj14]; rfl) ?_
      refine lv_astore_n (lv' := [(3, .ref (ad j14)), (0, .ref (ad p0)), (1, .int p1), (2, .int p2)]) hx hb dX10_message_18 rfl hl (by decide) rfl (fun ls hl => ?_)
      refine lv_iload_n hx hb dX10_message_19 rfl (lv_at hl 3 rfl) ?_
      by_cases c15 : p2 = 0
      · replace hf := ifT c15 hf
        refine lv_tableIn (tgt := 52) hx hb dX10_message_20 (by rw [c15]; decide) (by rw [c15]; decide) (by rw [c15]; rfl) (by decide) ?_
        refine lv_aload_n hx hb dX10_message_52 rfl (lv_at hl 0 rfl) ?_
        refine x_getiN 300 (ci := 3) (C := RX4) (T := TX4) (N := 5) 0 hC hinX4 hW tj14 rfl rfl ⟨by decide, by decide, rfl, rfl⟩ rfl w_1 dX10_message_53 ?_
        obtain ⟨e1, e2⟩ := so2 hf
        replace e1 := Sum.inr.inj e1; subst e1
        subst e2
        exact W.iret (v := si S11 300 j14) hx hb hr (fun t ht hWm => ⟨⟨rfl, by unfold QB; rw [ht]; exact ⟨hW, trivial⟩⟩, hS.F ht⟩) hS.2.2 dX10_message_56 hlk
      · replace hf := ifF c15 hf
        by_cases c16 : p2 = 1
        · replace hf := ifT c16 hf
          refine lv_tableIn (tgt := 57) hx hb dX10_message_20 (by rw [c16]; decide) (by rw [c16]; decide) (by rw [c16]; rfl) (by decide) ?_
          refine lv_aload_n hx hb dX10_message_57 rfl (lv_at hl 0 rfl) ?_
          refine x_getiN 301 (ci := 3) (C := RX4) (T := TX4) (N := 5) 1 hC hinX4 hW tj14 rfl rfl ⟨by decide, by decide, rfl, rfl⟩ rfl w_2 dX10_message_58 ?_
          obtain ⟨e1, e2⟩ := so2 hf
          replace e1 := Sum.inr.inj e1; subst e1
          subst e2
          exact W.iret (v := si S11 301 j14) hx hb hr (fun t ht hWm => ⟨⟨rfl, by unfold QB; rw [ht]; exact ⟨hW, trivial⟩⟩, hS.F ht⟩) hS.2.2 dX10_message_61 hlk
        · replace hf := ifF c16 hf
          by_cases c17 : p2 = 2
          · replace hf := ifT c17 hf
            refine lv_tableIn (tgt := 62) hx hb dX10_message_20 (by rw [c17]; decide) (by rw [c17]; decide) (by rw [c17]; rfl) (by decide) ?_
            refine lv_aload_n hx hb dX10_message_62 rfl (lv_at hl 0 rfl) ?_
            replace hf := obE hf
            obtain ⟨j18, qj18, hf⟩ := hf
            have tj18 := x_rt hW qj18 12 ⟨by decide, rfl⟩
            refine x_getrN 303 (ci := 3) (C := RX4) (T := TX4) (N := 5) 3 hC hinX4 hW tj14 rfl rfl ⟨by decide, by decide, rfl, rfl⟩ rfl w_3 dX10_message_63 qj18 ?_
            refine x_alen hC hW tj18 rfl ⟨by decide, by decide⟩ dX10_message_66 ?_
            obtain ⟨e1, e2⟩ := so2 hf
            replace e1 := Sum.inr.inj e1; subst e1
            subst e2
            exact W.iret (v := nI (ln S11 j18)) hx hb hr (fun t ht hWm => ⟨⟨rfl, by unfold QB; rw [ht]; exact ⟨hW, trivial⟩⟩, hS.F ht⟩) hS.2.2 dX10_message_67 hlk
          · replace hf := ifF c17 hf
            by_cases c19 : p2 = 3
            · replace hf := ifT c19 hf
              refine lv_tableIn (tgt := 68) hx hb dX10_message_20 (by rw [c19]; decide) (by rw [c19]; decide) (by rw [c19]; rfl) (by decide) ?_
              refine lv_aload_n hx hb dX10_message_68 rfl (lv_at hl 0 rfl) ?_
              refine x_getiN 302 (ci := 3) (C := RX4) (T := TX4) (N := 5) 2 hC hinX4 hW tj14 rfl rfl ⟨by decide, by decide, rfl, rfl⟩ rfl w_4 dX10_message_69 ?_
              obtain ⟨e1, e2⟩ := so2 hf
              replace e1 := Sum.inr.inj e1; subst e1
              subst e2
              exact W.iret (v := si S11 302 j14) hx hb hr (fun t ht hWm => ⟨⟨rfl, by unfold QB; rw [ht]; exact ⟨hW, trivial⟩⟩, hS.F ht⟩) hS.2.2 dX10_message_72 hlk
            · replace hf := ifF c19 hf
              refine lv_tableOut (tgt := 73) hx hb dX10_message_20 (sw_out4 c15 c16 c17 c19) (by decide) ?_
              refine lv_aload_n hx hb dX10_message_73 rfl (lv_at hl 1 rfl) ?_
              replace hf := obE hf
              obtain ⟨j20, qj20, hf⟩ := hf
              have tj20 := x_rt hW qj20 7 ⟨by decide, rfl⟩
              refine x_getr 905 (ci := 9) (C := RX10) (T := TX10) (N := 11) 5 hC hinX10 hW tp0 rfl rfl ⟨by decide, by decide, rfl, rfl⟩ rfl w_0 dX10_message_74 qj20 ?_
              refine lv_iload_n hx hb dX10_message_77 rfl (lv_at hl 2 rfl) ?_
              replace hf := obE hf
              obtain ⟨z21, hz21, hf⟩ := hf
              obtain ⟨r23, S22⟩ := z21
              replace hf := ltE (ltE hf r23 rfl) S22 rfl
              refine x_callV (As := [.int p1]) (rest := []) (o := (some (.int r23))) (S1 := S22) hC hl.1 hW hS hGs hA tj20 rfl (show vwCl[7]? = some (RX8, TX8, 16) ∧ ob 7 from ⟨rfl, by decide⟩) (c_X8_keepsMessage l g ad n K H.size F S11 j20 p1 tj20 r23 S22 hz21) (cwV 1 hts gX10_message_X8_keepsMessage rfl rfl rfl (by decide +kernel) ⟨Nat.le_of_ble_eq_true rfl, Nat.le_of_ble_eq_true rfl⟩) rfl rfl (Nat.le_of_ble_eq_true rfl) dX10_message_78 ⟨Nat.le_of_ble_eq_true rfl, Nat.le_of_ble_eq_true rfl⟩ (fun H locs hPz21 hW hS => ?_)
              refine W.eq (g2 := F0 m 81 ls [.int r23]) rfl ?_
              refine lv_if_eq (tgt := 88) hx hb dX10_message_81 (by decide) (fun c25 => ?_) (fun c25 => ?_)
              · replace hf := ifT c25 hf
                refine lv_iconst (v := 0) hx hb dX10_message_88 (by decide) ?_
                obtain ⟨e1, e2⟩ := so2 hf
                replace e1 := Sum.inr.inj e1; subst e1
                subst e2
                exact W.iret (v := 0) hx hb hr (fun t ht hWm => ⟨⟨rfl, by unfold QB; rw [ht]; exact ⟨hW, trivial⟩⟩, hS.F ht⟩) hS.2.2 dX10_message_89 hlk
              · replace hf := ifF c25 hf
                refine lv_iconst (v := 1) hx hb dX10_message_84 (by decide) ?_
                refine lv_goto (tgt := 89) hx hb dX10_message_85 (by decide) ?_
                obtain ⟨e1, e2⟩ := so2 hf
                replace e1 := Sum.inr.inj e1; subst e1
                subst e2
                exact W.iret (v := 1) hx hb hr (fun t ht hWm => ⟨⟨rfl, by unfold QB; rw [ht]; exact ⟨hW, trivial⟩⟩, hS.F ht⟩) hS.2.2 dX10_message_89 hlk
set_option maxHeartbeats 4000000 in
set_option maxRecDepth 100000 in
theorem c_X10_partOf (l : Launch) (g : GP) (ad : Nat → Nat) (n : Nat) (K : Nat → Nat) (sz F : Nat) (S0 : St) (p0 : Nat) (p1 : Int32) (p2 : Int32) (tp0 : p0 < n ∧ K p0 = 9) (r9 : Int32) (S9 : St) (hf : f_X10_partOf F S0 p0 p1 p2 = some (.inr r9, S9)) : Met l yX10_partOf wsX10_partOf { frames := 1, cells := 0, slots := 0, locals := 23 } (va_Pc [.ref (ad p0), .int p1, .int p2] (PB g ad n K S0 sz)) (QR (some (.int r9)) (QB g ad n K S9 (dA ad n sz) (True)) (dA ad n sz)) 0 0 (dA ad n sz) := by
  refine Met.ofW (cc := cX10_partOf) (maxL := 4) (ret := (some .int)) (by decide) rfl ?_
  intro p e s m args below meth c s₁ B hml hv
  obtain ⟨rfl, hsz, hW, hK, hGs⟩ := x_start hv
  subst hsz
  have hx := B.exec
  have hb := B.bytes
  have hr := B.returns
  have hts := atoms_spec (ws := wsX10_partOf) B.pre
  have hown : s.vm.findClass RX10 = some m.cls := findClass_of_methodNamed B.named
  have hlk := B.notSynchronized
  have hC : Cx g p s m _ c cX10_partOf RX10 wsX10_partOf 4 := ⟨hx, hb, hml, hown, hts, hK⟩
  have hA : ∀ q : Nat, s.heap.size ≤ q → dA ad n s.heap.size q := fun q h => Or.inr h
  have hS : va_S (dA ad n s.heap.size) s.heap s.heap [] := va_S.rf
  have hl := lv_entry ([.ref (ad p0), .int p1, .int p2]) (n := 4) (Nat.le_of_ble_eq_true rfl)
  rw [lg_entry_eq]
  generalize (lg_sl ([.ref (ad p0), .int p1, .int p2]) ++ List.replicate (4 - (lg_sl ([.ref (ad p0), .int p1, .int p2])).length) Slot.unset).toArray = ls at hl ⊢
  have hl : lv_has ls 4 [(0, .ref (ad p0)), (1, .int p1), (2, .int p2)] := hl
  have hinX10 : ∀ w ∈ wsX100, w ∈ wsX10_partOf := by decide +kernel
  have hinX4 : ∀ w ∈ wsX40, w ∈ wsX10_partOf := by decide +kernel
  have w_0 := hts (.fieldLink RX10 42 "MailSpool" "now" "LMailSpool$Spool;") (by decide +kernel)
  have w_1 := va_Nw.use (A := (List.toArray [.ref (ad p0), .int p1, .int p2])) rfl (hGs.1 (.fieldLinkNest RX10 218 "MailSpool$Message" "parts" "[I" "MailSpool") (by decide +kernel))
  have hGE := hGs.2.2.2.1
  have hGM := hGs.2.2.2.2
  have L27 : ∀ (S0 : St)   (H : Heap) (locs : List Loc) (ls : Array Slot), f_X10_partOf_L27 F S0  = some (.inr r9, S9) → Wb g ad n K S0 (dA ad n s.heap.size) H → va_S (dA ad n s.heap.size) s.heap H locs → lv_has ls 4 [] → W p l e (headSpec wsX10_partOf { frames := 1, cells := 0, slots := 0, locals := 23 }).room s m (List.toArray [.ref (ad p0), .int p1, .int p2]) below meth c H locs 0 0 (MQ below (QR (some (.int r9)) (QB g ad n K S9 (dA ad n s.heap.size) (True)) (dA ad n s.heap.size)) (List.toArray [.ref (ad p0), .int p1, .int p2]) s 0 0 (dA ad n s.heap.size)) (F0 m 27 ls []) := by
    intro S0  H locs ls hf hW hS hl
    unfold f_X10_partOf_L27 at hf
    exact nomatch (Prod.mk.inj (Option.some.inj hf)).1
  unfold f_X10_partOf at hf
  refine lv_aload_n hx hb dX10_partOf_0 rfl (lv_at hl 0 rfl) ?_
  refine lv_iload_n hx hb dX10_partOf_1 rfl (lv_at hl 1 rfl) ?_
  replace hf := obE hf
  obtain ⟨z1, hz1, hf⟩ := hf
  obtain ⟨oz1, S2⟩ := z1
  replace hf := ltE hf S2 rfl
  cases oz1 with
  | inl x =>
    replace hf := smL rfl hf
    exact nomatch (Prod.mk.inj (Option.some.inj hf)).1
  | inr r3 =>
    replace hf := smR rfl hf
    refine x_callV (As := [.int p1]) (rest := []) (o := none) (S1 := S2) (P := True) hC hl.1 hW hS hGs hA tp0 rfl (show vwCl[9]? = some (RX10, TX10, 11) ∧ ob 9 from ⟨rfl, by decide⟩) (c_X10_needMessage l g ad n K s.heap.size F S0 p0 p1 tp0 r3 S2 hz1) (cwV 1 hts gX10_partOf_X10_needMessage rfl rfl rfl (by decide +kernel) ⟨Nat.le_of_ble_eq_true rfl, Nat.le_of_ble_eq_true rfl⟩) rfl rfl (Nat.le_of_ble_eq_true rfl) dX10_partOf_2 ⟨Nat.le_of_ble_eq_true rfl, Nat.le_of_ble_eq_true rfl⟩ (fun H locs hPz1 hW hS => ?_)
    refine W.eq (g2 := F0 m 5 ls []) rfl ?_
    refine lv_aload_n hx hb dX10_partOf_5 rfl (lv_at hl 0 rfl) ?_
    replace hf := obE hf
    obtain ⟨j5, qj5, hf⟩ := hf
    have tj5 := x_rt hW qj5 7 ⟨by decide, rfl⟩
    refine x_getr 905 (ci := 9) (C := RX10) (T := TX10) (N := 11) 5 hC hinX10 hW tp0 rfl rfl ⟨by decide, by decide, rfl, rfl⟩ rfl w_0 dX10_partOf_6 qj5 ?_
    refine lv_iload_n hx hb dX10_partOf_9 rfl (lv_at hl 1 rfl) ?_
    replace hf := obE hf
    obtain ⟨z6, hz6, hf⟩ := hf
    obtain ⟨r8, S7⟩ := z6
    replace hf := ltE (ltE hf r8 rfl) S7 rfl
    refine x_callV (As := [.int p1]) (rest := []) (o := (some (va_re ad r8))) (S1 := S7) hC hl.1 hW hS hGs hA tj5 rfl (show vwCl[7]? = some (RX8, TX8, 16) ∧ ob 7 from ⟨rfl, by decide⟩) (c_X8_messageAt l g ad n K H.size F S2 j5 p1 tj5 r8 S7 hz6) (cwV 1 hts gX10_partOf_X8_messageAt rfl rfl rfl (by decide +kernel) ⟨Nat.le_of_ble_eq_true rfl, Nat.le_of_ble_eq_true rfl⟩) rfl rfl (Nat.le_of_ble_eq_true rfl) dX10_partOf_10 ⟨Nat.le_of_ble_eq_true rfl, Nat.le_of_ble_eq_true rfl⟩ (fun H locs hPz6 hW hS => ?_)
    replace hf := obE hf
    obtain ⟨j10, qj10, hf⟩ := hf
    have tj10 := hPz6 j10 qj10
    refine W.eq (g2 := F0 m 13 ls [.ref (ad j10)]) (by rw [qj10]; rfl) ?_
    refine lv_astore_n (lv' := [(3, .ref (ad j10)), (0, .ref (ad p0)), (1, .int p1), (2, .int p2)]) hx hb dX10_partOf_13 rfl hl (by decide) rfl (fun ls hl => ?_)
    refine lv_iload_n hx hb dX10_partOf_14 rfl (lv_at hl 3 rfl) ?_
    refine lv_if_lt (tgt := 27) hx hb dX10_partOf_15 (by decide) (fun c11 => ?_) (fun c11 => ?_)
    · replace hf := ifT c11 hf
      exact L27 S7 _ _ _ hf hW hS (lv_sub hl [] rfl)
    · replace hf := ifF c11 hf
      refine lv_iload_n hx hb dX10_partOf_18 rfl (lv_at hl 3 rfl) ?_
      refine lv_aload_n hx hb dX10_partOf_19 rfl (lv_at hl 0 rfl) ?_
      replace hf := obE hf
      obtain ⟨j12, qj12, hf⟩ := hf
      have tj12 := x_rt hW qj12 12 ⟨by decide, rfl⟩
      refine x_getrN 303 (ci := 3) (C := RX4) (T := TX4) (N := 5) 3 hC hinX4 hW tj10 rfl rfl ⟨by decide, by decide, rfl, rfl⟩ rfl w_1 dX10_partOf_20 qj12 ?_
      refine x_alen hC hW tj12 rfl ⟨by decide, by decide⟩ dX10_partOf_23 ?_
      refine lv_icmp_lt (tgt := 37) hx hb dX10_partOf_24 (by decide) (fun c13 => ?_) (fun c13 => ?_)
      · replace hf := ifT c13 hf
        refine lv_aload_n hx hb dX10_partOf_37 rfl (lv_at hl 0 rfl) ?_
        replace hf := obE hf
        obtain ⟨j14, qj14, hf⟩ := hf
        have tj14 := x_rt hW qj14 12 ⟨by decide, rfl⟩
        refine x_getrN 303 (ci := 3) (C := RX4) (T := TX4) (N := 5) 3 hC hinX4 hW tj10 rfl rfl ⟨by decide, by decide, rfl, rfl⟩ rfl w_1 dX10_partOf_38 qj14 ?_
        refine lv_iload_n hx hb dX10_partOf_41 rfl (lv_at hl 3 rfl) ?_
        replace hf := obE hf
        obtain ⟨z15, hz15, hf⟩ := hf
        obtain ⟨r17, S16⟩ := z15
        replace hf := ltE (ltE hf r17 rfl) S16 rfl
        refine x_callS (As := [.ref (ad j14), .int p2]) (rest := []) (o := (some (.int r17))) (S1 := S16) hC hl.1 hW hS hGs hA (c_X10_at l g ad n K H.size F S7 j14 p2 tj14 r17 S16 hz15) (va_cwS 2 hts gX10_partOf_X10_at rfl rfl rfl (by decide +kernel) ⟨Nat.le_of_ble_eq_true rfl, Nat.le_of_ble_eq_true rfl⟩) rfl rfl (Nat.le_of_ble_eq_true rfl) dX10_partOf_42 ⟨Nat.le_of_ble_eq_true rfl, Nat.le_of_ble_eq_true rfl⟩ (fun H locs hPz15 hW hS => ?_)
        refine W.eq (g2 := F0 m 45 ls [.int r17]) rfl ?_
        obtain ⟨e1, e2⟩ := so2 hf
        replace e1 := Sum.inr.inj e1; subst e1
        subst e2
        exact W.iret (v := r17) hx hb hr (fun t ht hWm => ⟨⟨rfl, by unfold QB; rw [ht]; exact ⟨hW, trivial⟩⟩, hS.F ht⟩) hS.2.2 dX10_partOf_45 hlk
      · replace hf := ifF c13 hf
        exact L27 S7 _ _ _ hf hW hS (lv_sub hl [] rfl)
set_option maxHeartbeats 4000000 in
set_option maxRecDepth 100000 in
theorem c_X8_usersIn (l : Launch) (g : GP) (ad : Nat → Nat) (n : Nat) (K : Nat → Nat) (sz F : Nat) (S0 : St) (p0 : Nat) (p1 : Int32) (p2 : Int32) (p3 : Int32) (tp0 : p0 < n ∧ K p0 = 7) (r9 : Int32) (S9 : St) (hf : f_X8_usersIn F S0 p0 p1 p2 p3 = some (r9, S9)) : Met l yX8_usersIn wsX8_usersIn { frames := 2, cells := 0, slots := 0, locals := 43 } (va_Pc [.ref (ad p0), .int p1, .int p2, .int p3] (PB g ad n K S0 sz)) (QR (some (.int r9)) (QB g ad n K S9 (dA ad n sz) (True)) (dA ad n sz)) 0 0 (dA ad n sz) := by
  refine Met.ofW (cc := cX8_usersIn) (maxL := 7) (ret := (some .int)) (by decide) rfl ?_
  intro p e s m args below meth c s₁ B hml hv
  obtain ⟨rfl, hsz, hW, hK, hGs⟩ := x_start hv
  subst hsz
  have hx := B.exec
  have hb := B.bytes
  have hr := B.returns
  have hts := atoms_spec (ws := wsX8_usersIn) B.pre
  have hown : s.vm.findClass RX8 = some m.cls := findClass_of_methodNamed B.named
  have hlk := B.notSynchronized
  have hC : Cx g p s m _ c cX8_usersIn RX8 wsX8_usersIn 7 := ⟨hx, hb, hml, hown, hts, hK⟩
  have hA : ∀ q : Nat, s.heap.size ≤ q → dA ad n s.heap.size q := fun q h => Or.inr h
  have hS : va_S (dA ad n s.heap.size) s.heap s.heap [] := va_S.rf
  have hl := lv_entry ([.ref (ad p0), .int p1, .int p2, .int p3]) (n := 7) (Nat.le_of_ble_eq_true rfl)
  rw [lg_entry_eq]
  generalize (lg_sl ([.ref (ad p0), .int p1, .int p2, .int p3]) ++ List.replicate (7 - (lg_sl ([.ref (ad p0), .int p1, .int p2, .int p3])).length) Slot.unset).toArray = ls at hl ⊢
  have hl : lv_has ls 7 [(0, .ref (ad p0)), (1, .int p1), (2, .int p2), (3, .int p3)] := hl
  have hinX5 : ∀ w ∈ wsX50, w ∈ wsX8_usersIn := by decide +kernel
  have hinX7 : ∀ w ∈ wsX70, w ∈ wsX8_usersIn := by decide +kernel
  have hinX8 : ∀ w ∈ wsX80, w ∈ wsX8_usersIn := by decide +kernel
  have w_0 := hts (.fieldLink RX8 9 "MailSpool$Spool" "rules" "LMailSpool$Rules;") (by decide +kernel)
  have w_1 := va_Nw.use (A := (List.toArray [.ref (ad p0), .int p1, .int p2, .int p3])) rfl (hGs.1 (.fieldLinkNest RX8 102 "MailSpool$Rules" "users" "LMailSpool$Names;" "MailSpool") (by decide +kernel))
  have w_2 := va_Nw.use (A := (List.toArray [.ref (ad p0), .int p1, .int p2, .int p3])) rfl (hGs.1 (.fieldLinkNest RX8 120 "MailSpool$Names" "size" "I" "MailSpool") (by decide +kernel))
  have hGE := hGs.2.2.2.1
  have hGM := hGs.2.2.2.2
  have L6 : ∀ (fu6 : Nat) (S0 : St) (v0 : Nat) (v1 : Int32) (v2 : Int32) (v3 : Int32) (v4 : Int32) (v5 : Int32) (tv0 : v0 < n ∧ K v0 = 7) (H : Heap) (locs : List Loc) (ls : Array Slot), f_X8_usersIn_L6 F fu6 S0 v0 v1 v2 v3 v4 v5 = some (r9, S9) → Wb g ad n K S0 (dA ad n s.heap.size) H → va_S (dA ad n s.heap.size) s.heap H locs → lv_has ls 7 [(0, .ref (ad v0)), (1, .int v1), (2, .int v2), (3, .int v3), (4, .int v4), (5, .int v5)] → W p l e (headSpec wsX8_usersIn { frames := 2, cells := 0, slots := 0, locals := 43 }).room s m (List.toArray [.ref (ad p0), .int p1, .int p2, .int p3]) below meth c H locs 0 0 (MQ below (QR (some (.int r9)) (QB g ad n K S9 (dA ad n s.heap.size) (True)) (dA ad n s.heap.size)) (List.toArray [.ref (ad p0), .int p1, .int p2, .int p3]) s 0 0 (dA ad n s.heap.size)) (F0 m 6 ls []) := by
    intro fu6
    induction fu6 with
    | zero =>
      intro S0 v0 v1 v2 v3 v4 v5 tv0 H locs ls hf
      cases hf
    | succ fu6 ih6 =>
      have L51 : ∀ (S0 : St) (v0 : Nat) (v1 : Int32) (v2 : Int32) (v3 : Int32) (v4 : Int32) (v5 : Int32) (tv0 : v0 < n ∧ K v0 = 7) (H : Heap) (locs : List Loc) (ls : Array Slot), f_X8_usersIn_L51 F (fun a0 a1 a2 a3 a4 a5 a6 => f_X8_usersIn_L6 F fu6 a0 a1 a2 a3 a4 a5 a6) S0 v0 v1 v2 v3 v4 v5 = some (r9, S9) → Wb g ad n K S0 (dA ad n s.heap.size) H → va_S (dA ad n s.heap.size) s.heap H locs → lv_has ls 7 [(0, .ref (ad v0)), (1, .int v1), (2, .int v2), (3, .int v3), (4, .int v4), (5, .int v5)] → W p l e (headSpec wsX8_usersIn { frames := 2, cells := 0, slots := 0, locals := 43 }).room s m (List.toArray [.ref (ad p0), .int p1, .int p2, .int p3]) below meth c H locs 0 0 (MQ below (QR (some (.int r9)) (QB g ad n K S9 (dA ad n s.heap.size) (True)) (dA ad n s.heap.size)) (List.toArray [.ref (ad p0), .int p1, .int p2, .int p3]) s 0 0 (dA ad n s.heap.size)) (F0 m 51 ls []) := by
        intro S0 v0 v1 v2 v3 v4 v5 tv0 H locs ls hf hW hS hl
        unfold f_X8_usersIn_L51 at hf
        obtain ⟨x2, ex2⟩ : ∃ z : Int32, z = v5 + 1 := ⟨_, rfl⟩
        replace hf := ltE hf x2 ex2
        refine lv_iinc (v := x2) (lv' := [(5, .int x2), (0, .ref (ad v0)), (1, .int v1), (2, .int v2), (3, .int v3), (4, .int v4)]) hx hb dX8_usersIn_51 hl (k := 5) rfl (by rw [ex2]; rfl) (by decide) rfl (fun ls hl => ?_)
        refine lv_goto (tgt := 6) hx hb dX8_usersIn_54 (by decide) ?_
        exact ih6 S0 v0 v1 v2 v3 v4 x2 tv0 _ _ _ hf hW hS (lv_sub hl [1, 2, 3, 4, 5, 0] rfl)
      intro S0 v0 v1 v2 v3 v4 v5 tv0 H locs ls hf hW hS hl
      unfold f_X8_usersIn_L6 at hf
      refine lv_iload hx hb dX8_usersIn_6 (lv_at hl 5 rfl) ?_
      refine lv_aload_n hx hb dX8_usersIn_8 rfl (lv_at hl 0 rfl) ?_
      replace hf := obE hf
      obtain ⟨j13, qj13, hf⟩ := hf
      have tj13 := x_rt hW qj13 6 ⟨by decide, rfl⟩
      refine x_getr 700 (ci := 7) (C := RX8) (T := TX8) (N := 16) 0 hC hinX8 hW tv0 rfl rfl ⟨by decide, by decide, rfl, rfl⟩ rfl w_0 dX8_usersIn_9 qj13 ?_
      replace hf := obE hf
      obtain ⟨j14, qj14, hf⟩ := hf
      have tj14 := x_rt hW qj14 4 ⟨by decide, rfl⟩
      refine x_getrN 606 (ci := 6) (C := RX7) (T := TX7) (N := 16) 6 hC hinX7 hW tj13 rfl rfl ⟨by decide, by decide, rfl, rfl⟩ rfl w_1 dX8_usersIn_12 qj14 ?_
      refine x_getiN 401 (ci := 4) (C := RX5) (T := TX5) (N := 2) 1 hC hinX5 hW tj14 rfl rfl ⟨by decide, by decide, rfl, rfl⟩ rfl w_2 dX8_usersIn_15 ?_
      refine lv_icmp_ge (tgt := 57) hx hb dX8_usersIn_18 (by decide) (fun c15 => ?_) (fun c15 => ?_)
      · replace hf := ifT c15 hf
        refine lv_iload hx hb dX8_usersIn_57 (lv_at hl 4 rfl) ?_
        obtain ⟨e1, e2⟩ := so2 hf
        subst e1
        subst e2
        exact W.iret (v := v4) hx hb hr (fun t ht hWm => ⟨⟨rfl, by unfold QB; rw [ht]; exact ⟨hW, trivial⟩⟩, hS.F ht⟩) hS.2.2 dX8_usersIn_59 hlk
      · replace hf := ifF c15 hf
        refine lv_aload_n hx hb dX8_usersIn_21 rfl (lv_at hl 0 rfl) ?_
        refine lv_iload_n hx hb dX8_usersIn_22 rfl (lv_at hl 1 rfl) ?_
        refine lv_iload hx hb dX8_usersIn_23 (lv_at hl 5 rfl) ?_
        replace hf := obE hf
        obtain ⟨z16, hz16, hf⟩ := hf
        obtain ⟨r18, S17⟩ := z16
        replace hf := ltE (ltE hf r18 rfl) S17 rfl
        refine x_callV (As := [.int v1, .int v5]) (rest := []) (o := (some (.int r18))) (S1 := S17) hC hl.1 hW hS hGs hA tv0 rfl (show vwCl[7]? = some (RX8, TX8, 16) ∧ ob 7 from ⟨rfl, by decide⟩) (c_X8_stateOf l g ad n K H.size F S0 v0 v1 v5 tv0 r18 S17 hz16) (cwV 2 hts gX8_usersIn_X8_stateOf rfl rfl rfl (by decide +kernel) ⟨Nat.le_of_ble_eq_true rfl, Nat.le_of_ble_eq_true rfl⟩) rfl rfl (Nat.le_of_ble_eq_true rfl) dX8_usersIn_25 ⟨Nat.le_of_ble_eq_true rfl, Nat.le_of_ble_eq_true rfl⟩ (fun H locs hPz16 hW hS => ?_)
        refine W.eq (g2 := F0 m 28 ls [.int r18]) rfl ?_
        refine lv_istore (lv' := [(6, .int r18), (0, .ref (ad v0)), (1, .int v1), (2, .int v2), (3, .int v3), (4, .int v4), (5, .int v5)]) hx hb dX8_usersIn_28 hl (by decide) rfl (fun ls hl => ?_)
        refine lv_iload hx hb dX8_usersIn_30 (lv_at hl 0 rfl) ?_
        refine lv_iload_n hx hb dX8_usersIn_32 rfl (lv_at hl 3 rfl) ?_
        refine lv_icmp_lt (tgt := 51) hx hb dX8_usersIn_33 (by decide) (fun c20 => ?_) (fun c20 => ?_)
        · replace hf := ifT c20 hf
          exact L51 S17 v0 v1 v2 v3 v4 v5 tv0 _ _ _ hf hW hS (lv_sub hl [1, 2, 3, 4, 5, 6] rfl)
        · replace hf := ifF c20 hf
          refine lv_iload hx hb dX8_usersIn_36 (lv_at hl 0 rfl) ?_
          refine lv_iload_n hx hb dX8_usersIn_38 rfl (lv_at hl 4 rfl) ?_
          refine lv_icmp_gt (tgt := 51) hx hb dX8_usersIn_39 (by decide) (fun c21 => ?_) (fun c21 => ?_)
          · replace hf := ifT c21 hf
            exact L51 S17 v0 v1 v2 v3 v4 v5 tv0 _ _ _ hf hW hS (lv_sub hl [1, 2, 3, 4, 5, 6] rfl)
          · replace hf := ifF c21 hf
            refine lv_iload hx hb dX8_usersIn_42 (lv_at hl 5 rfl) ?_
            refine lv_iconst (v := 1) hx hb dX8_usersIn_44 (by decide) ?_
            refine lv_iload hx hb dX8_usersIn_45 (lv_at hl 6 rfl) ?_
            refine lv_ishl hx hb dX8_usersIn_47 ?_
            refine lv_ior hx hb dX8_usersIn_48 ?_
            refine lv_topi (fun x22 ex22 => ?_)
            replace hf := ltE hf x22 ex22
            refine lv_istore (lv' := [(4, .int x22), (6, .int r18), (0, .ref (ad v0)), (1, .int v1), (2, .int v2), (3, .int v3), (5, .int v5)]) hx hb dX8_usersIn_49 hl (by decide) rfl (fun ls hl => ?_)
            exact L51 S17 v0 v1 v2 v3 x22 v5 tv0 _ _ _ hf hW hS (lv_sub hl [2, 3, 4, 5, 0, 6] rfl)
  unfold f_X8_usersIn at hf
  refine lv_iconst (v := 0) hx hb dX8_usersIn_0 (by decide) ?_
  refine lv_istore (lv' := [(4, .int 0), (0, .ref (ad p0)), (1, .int p1), (2, .int p2), (3, .int p3)]) hx hb dX8_usersIn_1 hl (by decide) rfl (fun ls hl => ?_)
  refine lv_iconst (v := 0) hx hb dX8_usersIn_3 (by decide) ?_
  refine lv_istore (lv' := [(5, .int 0), (4, .int 0), (0, .ref (ad p0)), (1, .int p1), (2, .int p2), (3, .int p3)]) hx hb dX8_usersIn_4 hl (by decide) rfl (fun ls hl => ?_)
  exact L6 F S0 p0 p1 p2 p3 0 0 tp0 _ _ _ hf hW hS (lv_sub hl [2, 3, 4, 5, 1, 0] rfl)
set_option maxHeartbeats 4000000 in
set_option maxRecDepth 100000 in
theorem c_X10_readers (l : Launch) (g : GP) (ad : Nat → Nat) (n : Nat) (K : Nat → Nat) (sz F : Nat) (S0 : St) (p0 : Nat) (p1 : Int32) (tp0 : p0 < n ∧ K p0 = 9) (r9 : Int32) (S9 : St) (hf : f_X10_readers F S0 p0 p1 = some (.inr r9, S9)) : Met l yX10_readers wsX10_readers { frames := 3, cells := 0, slots := 0, locals := 69 } (va_Pc [.ref (ad p0), .int p1] (PB g ad n K S0 sz)) (QR (some (.int r9)) (QB g ad n K S9 (dA ad n sz) (True)) (dA ad n sz)) 0 0 (dA ad n sz) := by
  refine Met.ofW (cc := cX10_readers) (maxL := 2) (ret := (some .int)) (by decide) rfl ?_
  intro p e s m args below meth c s₁ B hml hv
  obtain ⟨rfl, hsz, hW, hK, hGs⟩ := x_start hv
  subst hsz
  have hx := B.exec
  have hb := B.bytes
  have hr := B.returns
  have hts := atoms_spec (ws := wsX10_readers) B.pre
  have hown : s.vm.findClass RX10 = some m.cls := findClass_of_methodNamed B.named
  have hlk := B.notSynchronized
  have hC : Cx g p s m _ c cX10_readers RX10 wsX10_readers 2 := ⟨hx, hb, hml, hown, hts, hK⟩
  have hA : ∀ q : Nat, s.heap.size ≤ q → dA ad n s.heap.size q := fun q h => Or.inr h
  have hS : va_S (dA ad n s.heap.size) s.heap s.heap [] := va_S.rf
  have hl := lv_entry ([.ref (ad p0), .int p1]) (n := 2) (Nat.le_of_ble_eq_true rfl)
  rw [lg_entry_eq]
  generalize (lg_sl ([.ref (ad p0), .int p1]) ++ List.replicate (2 - (lg_sl ([.ref (ad p0), .int p1])).length) Slot.unset).toArray = ls at hl ⊢
  have hl : lv_has ls 2 [(0, .ref (ad p0)), (1, .int p1)] := hl
  have hinX10 : ∀ w ∈ wsX100, w ∈ wsX10_readers := by decide +kernel
  have w_0 := hts (.fieldLink RX10 42 "MailSpool" "now" "LMailSpool$Spool;") (by decide +kernel)
  have hGE := hGs.2.2.2.1
  have hGM := hGs.2.2.2.2
  unfold f_X10_readers at hf
  refine lv_aload_n hx hb dX10_readers_0 rfl (lv_at hl 0 rfl) ?_
  refine lv_iload_n hx hb dX10_readers_1 rfl (lv_at hl 1 rfl) ?_
  replace hf := obE hf
  obtain ⟨z1, hz1, hf⟩ := hf
  obtain ⟨oz1, S2⟩ := z1
  replace hf := ltE hf S2 rfl
  cases oz1 with
  | inl x =>
    replace hf := smL rfl hf
    exact nomatch (Prod.mk.inj (Option.some.inj hf)).1
  | inr r3 =>
    replace hf := smR rfl hf
    refine x_callV (As := [.int p1]) (rest := []) (o := none) (S1 := S2) (P := True) hC hl.1 hW hS hGs hA tp0 rfl (show vwCl[9]? = some (RX10, TX10, 11) ∧ ob 9 from ⟨rfl, by decide⟩) (c_X10_needMessage l g ad n K s.heap.size F S0 p0 p1 tp0 r3 S2 hz1) (cwV 1 hts gX10_readers_X10_needMessage rfl rfl rfl (by decide +kernel) ⟨Nat.le_of_ble_eq_true rfl, Nat.le_of_ble_eq_true rfl⟩) rfl rfl (Nat.le_of_ble_eq_true rfl) dX10_readers_2 ⟨Nat.le_of_ble_eq_true rfl, Nat.le_of_ble_eq_true rfl⟩ (fun H locs hPz1 hW hS => ?_)
    refine W.eq (g2 := F0 m 5 ls []) rfl ?_
    refine lv_aload_n hx hb dX10_readers_5 rfl (lv_at hl 0 rfl) ?_
    replace hf := obE hf
    obtain ⟨j5, qj5, hf⟩ := hf
    have tj5 := x_rt hW qj5 7 ⟨by decide, rfl⟩
    refine x_getr 905 (ci := 9) (C := RX10) (T := TX10) (N := 11) 5 hC hinX10 hW tp0 rfl rfl ⟨by decide, by decide, rfl, rfl⟩ rfl w_0 dX10_readers_6 qj5 ?_
    refine lv_iload_n hx hb dX10_readers_9 rfl (lv_at hl 1 rfl) ?_
    refine lv_iconst (v := 0) hx hb dX10_readers_10 (by decide) ?_
    refine lv_iconst (v := 0) hx hb dX10_readers_11 (by decide) ?_
    replace hf := obE hf
    obtain ⟨z6, hz6, hf⟩ := hf
    obtain ⟨r8, S7⟩ := z6
    replace hf := ltE (ltE hf r8 rfl) S7 rfl
    refine x_callV (As := [.int p1, .int 0, .int 0]) (rest := []) (o := (some (.int r8))) (S1 := S7) hC hl.1 hW hS hGs hA tj5 rfl (show vwCl[7]? = some (RX8, TX8, 16) ∧ ob 7 from ⟨rfl, by decide⟩) (c_X8_usersIn l g ad n K H.size F S2 j5 p1 ((0 : Int32)) ((0 : Int32)) tj5 r8 S7 hz6) (cwV 3 hts gX10_readers_X8_usersIn rfl rfl rfl (by decide +kernel) ⟨Nat.le_of_ble_eq_true rfl, Nat.le_of_ble_eq_true rfl⟩) rfl rfl (Nat.le_of_ble_eq_true rfl) dX10_readers_12 ⟨Nat.le_of_ble_eq_true rfl, Nat.le_of_ble_eq_true rfl⟩ (fun H locs hPz6 hW hS => ?_)
    refine W.eq (g2 := F0 m 15 ls [.int r8]) rfl ?_
    obtain ⟨e1, e2⟩ := so2 hf
    replace e1 := Sum.inr.inj e1; subst e1
    subst e2
    exact W.iret (v := r8) hx hb hr (fun t ht hWm => ⟨⟨rfl, by unfold QB; rw [ht]; exact ⟨hW, trivial⟩⟩, hS.F ht⟩) hS.2.2 dX10_readers_15 hlk
set_option maxHeartbeats 4000000 in
set_option maxRecDepth 100000 in
theorem c_X10_needReference (l : Launch) (g : GP) (ad : Nat → Nat) (n : Nat) (K : Nat → Nat) (sz F : Nat) (S0 : St) (p0 : Nat) (p1 : Int32) (p2 : Int32) (tp0 : p0 < n ∧ K p0 = 9) (r9 : Unit) (S9 : St) (hf : f_X10_needReference F S0 p0 p1 p2 = some (.inr r9, S9)) : Met l yX10_needReference wsX10_needReference { frames := 2, cells := 0, slots := 0, locals := 43 } (va_Pc [.ref (ad p0), .int p1, .int p2] (PB g ad n K S0 sz)) (QR none (QB g ad n K S9 (dA ad n sz) (True)) (dA ad n sz)) 0 0 (dA ad n sz) := by
  refine Met.ofW (cc := cX10_needReference) (maxL := 3) (ret := none) (by decide) rfl ?_
  intro p e s m args below meth c s₁ B hml hv
  obtain ⟨rfl, hsz, hW, hK, hGs⟩ := x_start hv
  subst hsz
  have hx := B.exec
  have hb := B.bytes
  have hr := B.returns
  have hts := atoms_spec (ws := wsX10_needReference) B.pre
  have hown : s.vm.findClass RX10 = some m.cls := findClass_of_methodNamed B.named
  have hlk := B.notSynchronized
  have hC : Cx g p s m _ c cX10_needReference RX10 wsX10_needReference 3 := ⟨hx, hb, hml, hown, hts, hK⟩
  have hA : ∀ q : Nat, s.heap.size ≤ q → dA ad n s.heap.size q := fun q h => Or.inr h
  have hS : va_S (dA ad n s.heap.size) s.heap s.heap [] := va_S.rf
  have hl := lv_entry ([.ref (ad p0), .int p1, .int p2]) (n := 3) (Nat.le_of_ble_eq_true rfl)
  rw [lg_entry_eq]
  generalize (lg_sl ([.ref (ad p0), .int p1, .int p2]) ++ List.replicate (3 - (lg_sl ([.ref (ad p0), .int p1, .int p2])).length) Slot.unset).toArray = ls at hl ⊢
  have hl : lv_has ls 3 [(0, .ref (ad p0)), (1, .int p1), (2, .int p2)] := hl
  have hinX10 : ∀ w ∈ wsX100, w ∈ wsX10_needReference := by decide +kernel
  have w_0 := hts (.fieldLink RX10 42 "MailSpool" "now" "LMailSpool$Spool;") (by decide +kernel)
  have hGE := hGs.2.2.2.1
  have hGM := hGs.2.2.2.2
  unfold f_X10_needReference at hf
  refine lv_aload_n hx hb dX10_needReference_0 rfl (lv_at hl 0 rfl) ?_
  replace hf := obE hf
  obtain ⟨j1, qj1, hf⟩ := hf
  have tj1 := x_rt hW qj1 7 ⟨by decide, rfl⟩
  refine x_getr 905 (ci := 9) (C := RX10) (T := TX10) (N := 11) 5 hC hinX10 hW tp0 rfl rfl ⟨by decide, by decide, rfl, rfl⟩ rfl w_0 dX10_needReference_1 qj1 ?_
  refine lv_iload_n hx hb dX10_needReference_4 rfl (lv_at hl 1 rfl) ?_
  refine lv_iload_n hx hb dX10_needReference_5 rfl (lv_at hl 2 rfl) ?_
  replace hf := obE hf
  obtain ⟨z2, hz2, hf⟩ := hf
  obtain ⟨r4, S3⟩ := z2
  replace hf := ltE (ltE hf r4 rfl) S3 rfl
  refine x_callV (As := [.int p1, .int p2]) (rest := []) (o := (some (.int r4))) (S1 := S3) hC hl.1 hW hS hGs hA tj1 rfl (show vwCl[7]? = some (RX8, TX8, 16) ∧ ob 7 from ⟨rfl, by decide⟩) (c_X8_stateOf l g ad n K s.heap.size F S0 j1 p1 p2 tj1 r4 S3 hz2) (cwV 2 hts gX10_needReference_X8_stateOf rfl rfl rfl (by decide +kernel) ⟨Nat.le_of_ble_eq_true rfl, Nat.le_of_ble_eq_true rfl⟩) rfl rfl (Nat.le_of_ble_eq_true rfl) dX10_needReference_6 ⟨Nat.le_of_ble_eq_true rfl, Nat.le_of_ble_eq_true rfl⟩ (fun H locs hPz2 hW hS => ?_)
  refine W.eq (g2 := F0 m 9 ls [.int r4]) rfl ?_
  refine lv_iconst (v := -1) hx hb dX10_needReference_9 (by decide) ?_
  refine lv_icmp_ne (tgt := 24) hx hb dX10_needReference_10 (by decide) (fun c6 => ?_) (fun c6 => ?_)
  · replace hf := ifT c6 hf
    obtain ⟨e1, e2⟩ := so2 hf
    replace e1 := Sum.inr.inj e1; subst e1
    subst e2
    exact W.vret hx hb hr (fun t ht hWm => ⟨⟨rfl, by unfold QB; rw [ht]; exact ⟨hW, trivial⟩⟩, hS.F ht⟩) hS.2.2 dX10_needReference_24 hlk
  · replace hf := ifF (fun q => q c6) hf
    exact nomatch (Prod.mk.inj (Option.some.inj hf)).1
set_option maxHeartbeats 4000000 in
set_option maxRecDepth 100000 in
theorem c_X10_state (l : Launch) (g : GP) (ad : Nat → Nat) (n : Nat) (K : Nat → Nat) (sz F : Nat) (S0 : St) (p0 : Nat) (p1 : Int32) (p2 : Int32) (tp0 : p0 < n ∧ K p0 = 9) (r9 : Int32) (S9 : St) (hf : f_X10_state F S0 p0 p1 p2 = some (.inr r9, S9)) : Met l yX10_state wsX10_state { frames := 3, cells := 0, slots := 0, locals := 65 } (va_Pc [.ref (ad p0), .int p1, .int p2] (PB g ad n K S0 sz)) (QR (some (.int r9)) (QB g ad n K S9 (dA ad n sz) (True)) (dA ad n sz)) 0 0 (dA ad n sz) := by
  refine Met.ofW (cc := cX10_state) (maxL := 3) (ret := (some .int)) (by decide) rfl ?_
  intro p e s m args below meth c s₁ B hml hv
  obtain ⟨rfl, hsz, hW, hK, hGs⟩ := x_start hv
  subst hsz
  have hx := B.exec
  have hb := B.bytes
  have hr := B.returns
  have hts := atoms_spec (ws := wsX10_state) B.pre
  have hown : s.vm.findClass RX10 = some m.cls := findClass_of_methodNamed B.named
  have hlk := B.notSynchronized
  have hC : Cx g p s m _ c cX10_state RX10 wsX10_state 3 := ⟨hx, hb, hml, hown, hts, hK⟩
  have hA : ∀ q : Nat, s.heap.size ≤ q → dA ad n s.heap.size q := fun q h => Or.inr h
  have hS : va_S (dA ad n s.heap.size) s.heap s.heap [] := va_S.rf
  have hl := lv_entry ([.ref (ad p0), .int p1, .int p2]) (n := 3) (Nat.le_of_ble_eq_true rfl)
  rw [lg_entry_eq]
  generalize (lg_sl ([.ref (ad p0), .int p1, .int p2]) ++ List.replicate (3 - (lg_sl ([.ref (ad p0), .int p1, .int p2])).length) Slot.unset).toArray = ls at hl ⊢
  have hl : lv_has ls 3 [(0, .ref (ad p0)), (1, .int p1), (2, .int p2)] := hl
  have hinX10 : ∀ w ∈ wsX100, w ∈ wsX10_state := by decide +kernel
  have w_0 := hts (.fieldLink RX10 42 "MailSpool" "now" "LMailSpool$Spool;") (by decide +kernel)
  have hGE := hGs.2.2.2.1
  have hGM := hGs.2.2.2.2
  unfold f_X10_state at hf
  refine lv_aload_n hx hb dX10_state_0 rfl (lv_at hl 0 rfl) ?_
  refine lv_iload_n hx hb dX10_state_1 rfl (lv_at hl 1 rfl) ?_
  refine lv_iload_n hx hb dX10_state_2 rfl (lv_at hl 2 rfl) ?_
  replace hf := obE hf
  obtain ⟨z1, hz1, hf⟩ := hf
  obtain ⟨oz1, S2⟩ := z1
  replace hf := ltE hf S2 rfl
  cases oz1 with
  | inl x =>
    replace hf := smL rfl hf
    exact nomatch (Prod.mk.inj (Option.some.inj hf)).1
  | inr r3 =>
    replace hf := smR rfl hf
    refine x_callV (As := [.int p1, .int p2]) (rest := []) (o := none) (S1 := S2) (P := True) hC hl.1 hW hS hGs hA tp0 rfl (show vwCl[9]? = some (RX10, TX10, 11) ∧ ob 9 from ⟨rfl, by decide⟩) (c_X10_needReference l g ad n K s.heap.size F S0 p0 p1 p2 tp0 r3 S2 hz1) (cwV 2 hts gX10_state_X10_needReference rfl rfl rfl (by decide +kernel) ⟨Nat.le_of_ble_eq_true rfl, Nat.le_of_ble_eq_true rfl⟩) rfl rfl (Nat.le_of_ble_eq_true rfl) dX10_state_3 ⟨Nat.le_of_ble_eq_true rfl, Nat.le_of_ble_eq_true rfl⟩ (fun H locs hPz1 hW hS => ?_)
    refine W.eq (g2 := F0 m 6 ls []) rfl ?_
    refine lv_aload_n hx hb dX10_state_6 rfl (lv_at hl 0 rfl) ?_
    replace hf := obE hf
    obtain ⟨j5, qj5, hf⟩ := hf
    have tj5 := x_rt hW qj5 7 ⟨by decide, rfl⟩
    refine x_getr 905 (ci := 9) (C := RX10) (T := TX10) (N := 11) 5 hC hinX10 hW tp0 rfl rfl ⟨by decide, by decide, rfl, rfl⟩ rfl w_0 dX10_state_7 qj5 ?_
    refine lv_iload_n hx hb dX10_state_10 rfl (lv_at hl 1 rfl) ?_
    refine lv_iload_n hx hb dX10_state_11 rfl (lv_at hl 2 rfl) ?_
    replace hf := obE hf
    obtain ⟨z6, hz6, hf⟩ := hf
    obtain ⟨r8, S7⟩ := z6
    replace hf := ltE (ltE hf r8 rfl) S7 rfl
    refine x_callV (As := [.int p1, .int p2]) (rest := []) (o := (some (.int r8))) (S1 := S7) hC hl.1 hW hS hGs hA tj5 rfl (show vwCl[7]? = some (RX8, TX8, 16) ∧ ob 7 from ⟨rfl, by decide⟩) (c_X8_stateOf l g ad n K H.size F S2 j5 p1 p2 tj5 r8 S7 hz6) (cwV 2 hts gX10_state_X8_stateOf rfl rfl rfl (by decide +kernel) ⟨Nat.le_of_ble_eq_true rfl, Nat.le_of_ble_eq_true rfl⟩) rfl rfl (Nat.le_of_ble_eq_true rfl) dX10_state_12 ⟨Nat.le_of_ble_eq_true rfl, Nat.le_of_ble_eq_true rfl⟩ (fun H locs hPz6 hW hS => ?_)
    refine W.eq (g2 := F0 m 15 ls [.int r8]) rfl ?_
    obtain ⟨e1, e2⟩ := so2 hf
    replace e1 := Sum.inr.inj e1; subst e1
    subst e2
    exact W.iret (v := r8) hx hb hr (fun t ht hWm => ⟨⟨rfl, by unfold QB; rw [ht]; exact ⟨hW, trivial⟩⟩, hS.F ht⟩) hS.2.2 dX10_state_15 hlk
set_option maxHeartbeats 4000000 in
set_option maxRecDepth 100000 in
theorem c_X8_retentionOf (l : Launch) (g : GP) (ad : Nat → Nat) (n : Nat) (K : Nat → Nat) (sz F : Nat) (S0 : St) (p0 : Nat) (p1 : Int32) (p2 : Int32) (tp0 : p0 < n ∧ K p0 = 7) (r9 : Int32) (S9 : St) (hf : f_X8_retentionOf F S0 p0 p1 p2 = some (r9, S9)) : Met l yX8_retentionOf wsX8_retentionOf { frames := 1, cells := 0, slots := 0, locals := 21 } (va_Pc [.ref (ad p0), .int p1, .int p2] (PB g ad n K S0 sz)) (QR (some (.int r9)) (QB g ad n K S9 (dA ad n sz) (True)) (dA ad n sz)) 0 0 (dA ad n sz) := by
  refine Met.ofW (cc := cX8_retentionOf) (maxL := 3) (ret := (some .int)) (by decide) rfl ?_
  intro p e s m args below meth c s₁ B hml hv
  obtain ⟨rfl, hsz, hW, hK, hGs⟩ := x_start hv
  subst hsz
  have hx := B.exec
  have hb := B.bytes
  have hr := B.returns
  have hts := atoms_spec (ws := wsX8_retentionOf) B.pre
  have hown : s.vm.findClass RX8 = some m.cls := findClass_of_methodNamed B.named
  have hlk := B.notSynchronized
  have hC : Cx g p s m _ c cX8_retentionOf RX8 wsX8_retentionOf 3 := ⟨hx, hb, hml, hown, hts, hK⟩
  have hA : ∀ q : Nat, s.heap.size ≤ q → dA ad n s.heap.size q := fun q h => Or.inr h
  have hS : va_S (dA ad n s.heap.size) s.heap s.heap [] := va_S.rf
  have hl := lv_entry ([.ref (ad p0), .int p1, .int p2]) (n := 3) (Nat.le_of_ble_eq_true rfl)
  rw [lg_entry_eq]
  generalize (lg_sl ([.ref (ad p0), .int p1, .int p2]) ++ List.replicate (3 - (lg_sl ([.ref (ad p0), .int p1, .int p2])).length) Slot.unset).toArray = ls at hl ⊢
  have hl : lv_has ls 3 [(0, .ref (ad p0)), (1, .int p1), (2, .int p2)] := hl
  have hinX8 : ∀ w ∈ wsX80, w ∈ wsX8_retentionOf := by decide +kernel
  have w_0 := hts (.fieldLink RX8 28 "MailSpool$Spool" "retentions" "[I") (by decide +kernel)
  have w_1 := va_Nw.use (A := (List.toArray [.ref (ad p0), .int p1, .int p2])) rfl (hGs.1 (.methodLinkNest RX8 112 yX10_at "MailSpool") (by decide +kernel))
  have w_2 := hts (.initialized RX10) (by decide +kernel)
  have w_3 := hts (.static yX10_at) (by decide +kernel)
  have hGE := hGs.2.2.2.1
  have hGM := hGs.2.2.2.2
  unfold f_X8_retentionOf at hf
  refine lv_aload_n hx hb dX8_retentionOf_0 rfl (lv_at hl 0 rfl) ?_
  replace hf := obE hf
  obtain ⟨j1, qj1, hf⟩ := hf
  have tj1 := x_rt hW qj1 12 ⟨by decide, rfl⟩
  refine x_getr 708 (ci := 7) (C := RX8) (T := TX8) (N := 16) 8 hC hinX8 hW tp0 rfl rfl ⟨by decide, by decide, rfl, rfl⟩ rfl w_0 dX8_retentionOf_1 qj1 ?_
  refine lv_iload_n hx hb dX8_retentionOf_4 rfl (lv_at hl 1 rfl) ?_
  refine lv_bipush (v := 10) hx hb dX8_retentionOf_5 (by decide) ?_
  refine lv_imul hx hb dX8_retentionOf_7 ?_
  refine lv_iload_n hx hb dX8_retentionOf_8 rfl (lv_at hl 2 rfl) ?_
  refine lv_iadd hx hb dX8_retentionOf_9 ?_
  replace hf := obE hf
  obtain ⟨z2, hz2, hf⟩ := hf
  obtain ⟨r4, S3⟩ := z2
  replace hf := ltE (ltE hf r4 rfl) S3 rfl
  refine x_callSN (As := [.ref (ad j1), .int ((p1 * 10) + p2)]) (rest := []) (o := (some (.int r4))) (S1 := S3) hC hl.1 hW hS hGs hA (c_X10_at l g ad n K s.heap.size F S0 j1 ((p1 * 10) + p2) tj1 r4 S3 hz2) ⟨va_cnB 2 hts gX8_retentionOf_X10_at_n112 rfl rfl rfl (va_Nw.of rfl w_1) w_2 (by decide +kernel) ⟨Nat.le_of_ble_eq_true rfl, Nat.le_of_ble_eq_true rfl⟩, w_3, trivial⟩ rfl rfl (Nat.le_of_ble_eq_true rfl) dX8_retentionOf_10 ⟨Nat.le_of_ble_eq_true rfl, Nat.le_of_ble_eq_true rfl⟩ (fun H locs hPz2 hW hS => ?_)
  refine W.eq (g2 := F0 m 13 ls [.int r4]) rfl ?_
  obtain ⟨e1, e2⟩ := so2 hf
  subst e1
  subst e2
  exact W.iret (v := r4) hx hb hr (fun t ht hWm => ⟨⟨rfl, by unfold QB; rw [ht]; exact ⟨hW, trivial⟩⟩, hS.F ht⟩) hS.2.2 dX8_retentionOf_13 hlk
set_option maxHeartbeats 4000000 in
set_option maxRecDepth 100000 in
theorem c_X10_classOf (l : Launch) (g : GP) (ad : Nat → Nat) (n : Nat) (K : Nat → Nat) (sz F : Nat) (S0 : St) (p0 : Nat) (p1 : Int32) (p2 : Int32) (tp0 : p0 < n ∧ K p0 = 9) (r9 : Int32) (S9 : St) (hf : f_X10_classOf F S0 p0 p1 p2 = some (.inr r9, S9)) : Met l yX10_classOf wsX10_classOf { frames := 3, cells := 0, slots := 0, locals := 65 } (va_Pc [.ref (ad p0), .int p1, .int p2] (PB g ad n K S0 sz)) (QR (some (.int r9)) (QB g ad n K S9 (dA ad n sz) (True)) (dA ad n sz)) 0 0 (dA ad n sz) := by
  refine Met.ofW (cc := cX10_classOf) (maxL := 3) (ret := (some .int)) (by decide) rfl ?_
  intro p e s m args below meth c s₁ B hml hv
  obtain ⟨rfl, hsz, hW, hK, hGs⟩ := x_start hv
  subst hsz
  have hx := B.exec
  have hb := B.bytes
  have hr := B.returns
  have hts := atoms_spec (ws := wsX10_classOf) B.pre
  have hown : s.vm.findClass RX10 = some m.cls := findClass_of_methodNamed B.named
  have hlk := B.notSynchronized
  have hC : Cx g p s m _ c cX10_classOf RX10 wsX10_classOf 3 := ⟨hx, hb, hml, hown, hts, hK⟩
  have hA : ∀ q : Nat, s.heap.size ≤ q → dA ad n s.heap.size q := fun q h => Or.inr h
  have hS : va_S (dA ad n s.heap.size) s.heap s.heap [] := va_S.rf
  have hl := lv_entry ([.ref (ad p0), .int p1, .int p2]) (n := 3) (Nat.le_of_ble_eq_true rfl)
  rw [lg_entry_eq]
  generalize (lg_sl ([.ref (ad p0), .int p1, .int p2]) ++ List.replicate (3 - (lg_sl ([.ref (ad p0), .int p1, .int p2])).length) Slot.unset).toArray = ls at hl ⊢
  have hl : lv_has ls 3 [(0, .ref (ad p0)), (1, .int p1), (2, .int p2)] := hl
  have hinX10 : ∀ w ∈ wsX100, w ∈ wsX10_classOf := by decide +kernel
  have w_0 := hts (.fieldLink RX10 42 "MailSpool" "now" "LMailSpool$Spool;") (by decide +kernel)
  have hGE := hGs.2.2.2.1
  have hGM := hGs.2.2.2.2
  unfold f_X10_classOf at hf
  refine lv_aload_n hx hb dX10_classOf_0 rfl (lv_at hl 0 rfl) ?_
  refine lv_iload_n hx hb dX10_classOf_1 rfl (lv_at hl 1 rfl) ?_
  refine lv_iload_n hx hb dX10_classOf_2 rfl (lv_at hl 2 rfl) ?_
  replace hf := obE hf
  obtain ⟨z1, hz1, hf⟩ := hf
  obtain ⟨oz1, S2⟩ := z1
  replace hf := ltE hf S2 rfl
  cases oz1 with
  | inl x =>
    replace hf := smL rfl hf
    exact nomatch (Prod.mk.inj (Option.some.inj hf)).1
  | inr r3 =>
    replace hf := smR rfl hf
    refine x_callV (As := [.int p1, .int p2]) (rest := []) (o := none) (S1 := S2) (P := True) hC hl.1 hW hS hGs hA tp0 rfl (show vwCl[9]? = some (RX10, TX10, 11) ∧ ob 9 from ⟨rfl, by decide⟩) (c_X10_needReference l g ad n K s.heap.size F S0 p0 p1 p2 tp0 r3 S2 hz1) (cwV 2 hts gX10_classOf_X10_needReference rfl rfl rfl (by decide +kernel) ⟨Nat.le_of_ble_eq_true rfl, Nat.le_of_ble_eq_true rfl⟩) rfl rfl (Nat.le_of_ble_eq_true rfl) dX10_classOf_3 ⟨Nat.le_of_ble_eq_true rfl, Nat.le_of_ble_eq_true rfl⟩ (fun H locs hPz1 hW hS => ?_)
    refine W.eq (g2 := F0 m 6 ls []) rfl ?_
    refine lv_aload_n hx hb dX10_classOf_6 rfl (lv_at hl 0 rfl) ?_
    replace hf := obE hf
    obtain ⟨j5, qj5, hf⟩ := hf
    have tj5 := x_rt hW qj5 7 ⟨by decide, rfl⟩
    refine x_getr 905 (ci := 9) (C := RX10) (T := TX10) (N := 11) 5 hC hinX10 hW tp0 rfl rfl ⟨by decide, by decide, rfl, rfl⟩ rfl w_0 dX10_classOf_7 qj5 ?_
    refine lv_iload_n hx hb dX10_classOf_10 rfl (lv_at hl 1 rfl) ?_
    refine lv_iload_n hx hb dX10_classOf_11 rfl (lv_at hl 2 rfl) ?_
    replace hf := obE hf
    obtain ⟨z6, hz6, hf⟩ := hf
    obtain ⟨r8, S7⟩ := z6
    replace hf := ltE (ltE hf r8 rfl) S7 rfl
    refine x_callV (As := [.int p1, .int p2]) (rest := []) (o := (some (.int r8))) (S1 := S7) hC hl.1 hW hS hGs hA tj5 rfl (show vwCl[7]? = some (RX8, TX8, 16) ∧ ob 7 from ⟨rfl, by decide⟩) (c_X8_retentionOf l g ad n K H.size F S2 j5 p1 p2 tj5 r8 S7 hz6) (cwV 2 hts gX10_classOf_X8_retentionOf rfl rfl rfl (by decide +kernel) ⟨Nat.le_of_ble_eq_true rfl, Nat.le_of_ble_eq_true rfl⟩) rfl rfl (Nat.le_of_ble_eq_true rfl) dX10_classOf_12 ⟨Nat.le_of_ble_eq_true rfl, Nat.le_of_ble_eq_true rfl⟩ (fun H locs hPz6 hW hS => ?_)
    refine W.eq (g2 := F0 m 15 ls [.int r8]) rfl ?_
    obtain ⟨e1, e2⟩ := so2 hf
    replace e1 := Sum.inr.inj e1; subst e1
    subst e2
    exact W.iret (v := r8) hx hb hr (fun t ht hWm => ⟨⟨rfl, by unfold QB; rw [ht]; exact ⟨hW, trivial⟩⟩, hS.F ht⟩) hS.2.2 dX10_classOf_15 hlk
set_option maxHeartbeats 4000000 in
set_option maxRecDepth 100000 in
theorem c_X10_enteredOn (l : Launch) (g : GP) (ad : Nat → Nat) (n : Nat) (K : Nat → Nat) (sz F : Nat) (S0 : St) (p0 : Nat) (p1 : Int32) (p2 : Int32) (tp0 : p0 < n ∧ K p0 = 9) (r9 : Int32) (S9 : St) (hf : f_X10_enteredOn F S0 p0 p1 p2 = some (.inr r9, S9)) : Met l yX10_enteredOn wsX10_enteredOn { frames := 3, cells := 0, slots := 0, locals := 65 } (va_Pc [.ref (ad p0), .int p1, .int p2] (PB g ad n K S0 sz)) (QR (some (.int r9)) (QB g ad n K S9 (dA ad n sz) (True)) (dA ad n sz)) 0 0 (dA ad n sz) := by
  refine Met.ofW (cc := cX10_enteredOn) (maxL := 3) (ret := (some .int)) (by decide) rfl ?_
  intro p e s m args below meth c s₁ B hml hv
  obtain ⟨rfl, hsz, hW, hK, hGs⟩ := x_start hv
  subst hsz
  have hx := B.exec
  have hb := B.bytes
  have hr := B.returns
  have hts := atoms_spec (ws := wsX10_enteredOn) B.pre
  have hown : s.vm.findClass RX10 = some m.cls := findClass_of_methodNamed B.named
  have hlk := B.notSynchronized
  have hC : Cx g p s m _ c cX10_enteredOn RX10 wsX10_enteredOn 3 := ⟨hx, hb, hml, hown, hts, hK⟩
  have hA : ∀ q : Nat, s.heap.size ≤ q → dA ad n s.heap.size q := fun q h => Or.inr h
  have hS : va_S (dA ad n s.heap.size) s.heap s.heap [] := va_S.rf
  have hl := lv_entry ([.ref (ad p0), .int p1, .int p2]) (n := 3) (Nat.le_of_ble_eq_true rfl)
  rw [lg_entry_eq]
  generalize (lg_sl ([.ref (ad p0), .int p1, .int p2]) ++ List.replicate (3 - (lg_sl ([.ref (ad p0), .int p1, .int p2])).length) Slot.unset).toArray = ls at hl ⊢
  have hl : lv_has ls 3 [(0, .ref (ad p0)), (1, .int p1), (2, .int p2)] := hl
  have hinX10 : ∀ w ∈ wsX100, w ∈ wsX10_enteredOn := by decide +kernel
  have hinX8 : ∀ w ∈ wsX80, w ∈ wsX10_enteredOn := by decide +kernel
  have w_0 := hts (.fieldLink RX10 42 "MailSpool" "now" "LMailSpool$Spool;") (by decide +kernel)
  have w_1 := va_Nw.use (A := (List.toArray [.ref (ad p0), .int p1, .int p2])) rfl (hGs.1 (.fieldLinkNest RX10 241 "MailSpool$Spool" "entered" "[I" "MailSpool") (by decide +kernel))
  have hGE := hGs.2.2.2.1
  have hGM := hGs.2.2.2.2
  unfold f_X10_enteredOn at hf
  refine lv_aload_n hx hb dX10_enteredOn_0 rfl (lv_at hl 0 rfl) ?_
  refine lv_iload_n hx hb dX10_enteredOn_1 rfl (lv_at hl 1 rfl) ?_
  refine lv_iload_n hx hb dX10_enteredOn_2 rfl (lv_at hl 2 rfl) ?_
  replace hf := obE hf
  obtain ⟨z1, hz1, hf⟩ := hf
  obtain ⟨oz1, S2⟩ := z1
  replace hf := ltE hf S2 rfl
  cases oz1 with
  | inl x =>
    replace hf := smL rfl hf
    exact nomatch (Prod.mk.inj (Option.some.inj hf)).1
  | inr r3 =>
    replace hf := smR rfl hf
    refine x_callV (As := [.int p1, .int p2]) (rest := []) (o := none) (S1 := S2) (P := True) hC hl.1 hW hS hGs hA tp0 rfl (show vwCl[9]? = some (RX10, TX10, 11) ∧ ob 9 from ⟨rfl, by decide⟩) (c_X10_needReference l g ad n K s.heap.size F S0 p0 p1 p2 tp0 r3 S2 hz1) (cwV 2 hts gX10_enteredOn_X10_needReference rfl rfl rfl (by decide +kernel) ⟨Nat.le_of_ble_eq_true rfl, Nat.le_of_ble_eq_true rfl⟩) rfl rfl (Nat.le_of_ble_eq_true rfl) dX10_enteredOn_3 ⟨Nat.le_of_ble_eq_true rfl, Nat.le_of_ble_eq_true rfl⟩ (fun H locs hPz1 hW hS => ?_)
    refine W.eq (g2 := F0 m 6 ls []) rfl ?_
    refine lv_aload_n hx hb dX10_enteredOn_6 rfl (lv_at hl 0 rfl) ?_
    replace hf := obE hf
    obtain ⟨j5, qj5, hf⟩ := hf
    have tj5 := x_rt hW qj5 7 ⟨by decide, rfl⟩
    refine x_getr 905 (ci := 9) (C := RX10) (T := TX10) (N := 11) 5 hC hinX10 hW tp0 rfl rfl ⟨by decide, by decide, rfl, rfl⟩ rfl w_0 dX10_enteredOn_7 qj5 ?_
    replace hf := obE hf
    obtain ⟨j6, qj6, hf⟩ := hf
    have tj6 := x_rt hW qj6 12 ⟨by decide, rfl⟩
    refine x_getrN 709 (ci := 7) (C := RX8) (T := TX8) (N := 16) 9 hC hinX8 hW tj5 rfl rfl ⟨by decide, by decide, rfl, rfl⟩ rfl w_1 dX10_enteredOn_10 qj6 ?_
    refine lv_iload_n hx hb dX10_enteredOn_13 rfl (lv_at hl 1 rfl) ?_
    refine lv_bipush (v := 10) hx hb dX10_enteredOn_14 (by decide) ?_
    refine lv_imul hx hb dX10_enteredOn_16 ?_
    refine lv_iload_n hx hb dX10_enteredOn_17 rfl (lv_at hl 2 rfl) ?_
    refine lv_iadd hx hb dX10_enteredOn_18 ?_
    replace hf := obE hf
    obtain ⟨z7, hz7, hf⟩ := hf
    obtain ⟨r9, S8⟩ := z7
    replace hf := ltE (ltE hf r9 rfl) S8 rfl
    refine x_callS (As := [.ref (ad j6), .int ((p1 * 10) + p2)]) (rest := []) (o := (some (.int r9))) (S1 := S8) hC hl.1 hW hS hGs hA (c_X10_at l g ad n K H.size F S2 j6 ((p1 * 10) + p2) tj6 r9 S8 hz7) (va_cwS 2 hts gX10_enteredOn_X10_at rfl rfl rfl (by decide +kernel) ⟨Nat.le_of_ble_eq_true rfl, Nat.le_of_ble_eq_true rfl⟩) rfl rfl (Nat.le_of_ble_eq_true rfl) dX10_enteredOn_19 ⟨Nat.le_of_ble_eq_true rfl, Nat.le_of_ble_eq_true rfl⟩ (fun H locs hPz7 hW hS => ?_)
    refine W.eq (g2 := F0 m 22 ls [.int r9]) rfl ?_
    obtain ⟨e1, e2⟩ := so2 hf
    replace e1 := Sum.inr.inj e1; subst e1
    subst e2
    exact W.iret (v := r9) hx hb hr (fun t ht hWm => ⟨⟨rfl, by unfold QB; rw [ht]; exact ⟨hW, trivial⟩⟩, hS.F ht⟩) hS.2.2 dX10_enteredOn_22 hlk
set_option maxHeartbeats 4000000 in
set_option maxRecDepth 100000 in
theorem c_X10_storedParts (l : Launch) (g : GP) (ad : Nat → Nat) (n : Nat) (K : Nat → Nat) (sz F : Nat) (S0 : St) (p0 : Nat) (tp0 : p0 < n ∧ K p0 = 9) (r9 : Int32) (S9 : St) (hf : f_X10_storedParts F S0 p0 = some (r9, S9)) : Met l yX10_storedParts wsX10_storedParts { frames := 0, cells := 0, slots := 0, locals := 0 } (va_Pc [.ref (ad p0)] (PB g ad n K S0 sz)) (QR (some (.int r9)) (QB g ad n K S9 (dA ad n sz) (True)) (dA ad n sz)) 0 0 (dA ad n sz) := by
  refine Met.ofW (cc := cX10_storedParts) (maxL := 1) (ret := (some .int)) (by decide) rfl ?_
  intro p e s m args below meth c s₁ B hml hv
  obtain ⟨rfl, hsz, hW, hK, hGs⟩ := x_start hv
  subst hsz
  have hx := B.exec
  have hb := B.bytes
  have hr := B.returns
  have hts := atoms_spec (ws := wsX10_storedParts) B.pre
  have hown : s.vm.findClass RX10 = some m.cls := findClass_of_methodNamed B.named
  have hlk := B.notSynchronized
  have hC : Cx g p s m _ c cX10_storedParts RX10 wsX10_storedParts 1 := ⟨hx, hb, hml, hown, hts, hK⟩
  have hA : ∀ q : Nat, s.heap.size ≤ q → dA ad n s.heap.size q := fun q h => Or.inr h
  have hS : va_S (dA ad n s.heap.size) s.heap s.heap [] := va_S.rf
  have hl := lv_entry ([.ref (ad p0)]) (n := 1) (Nat.le_of_ble_eq_true rfl)
  rw [lg_entry_eq]
  generalize (lg_sl ([.ref (ad p0)]) ++ List.replicate (1 - (lg_sl ([.ref (ad p0)])).length) Slot.unset).toArray = ls at hl ⊢
  have hl : lv_has ls 1 [(0, .ref (ad p0))] := hl
  have hinX10 : ∀ w ∈ wsX100, w ∈ wsX10_storedParts := by decide +kernel
  have hinX8 : ∀ w ∈ wsX80, w ∈ wsX10_storedParts := by decide +kernel
  have hinX9 : ∀ w ∈ wsX90, w ∈ wsX10_storedParts := by decide +kernel
  have w_0 := hts (.fieldLink RX10 42 "MailSpool" "now" "LMailSpool$Spool;") (by decide +kernel)
  have w_1 := va_Nw.use (A := (List.toArray [.ref (ad p0)])) rfl (hGs.1 (.fieldLinkNest RX10 186 "MailSpool$Spool" "store" "LMailSpool$Store;" "MailSpool") (by decide +kernel))
  have w_2 := va_Nw.use (A := (List.toArray [.ref (ad p0)])) rfl (hGs.1 (.fieldLinkNest RX10 254 "MailSpool$Store" "stored" "I" "MailSpool") (by decide +kernel))
  have hGE := hGs.2.2.2.1
  have hGM := hGs.2.2.2.2
  unfold f_X10_storedParts at hf
  refine lv_aload_n hx hb dX10_storedParts_0 rfl (lv_at hl 0 rfl) ?_
  replace hf := obE hf
  obtain ⟨j1, qj1, hf⟩ := hf
  have tj1 := x_rt hW qj1 7 ⟨by decide, rfl⟩
  refine x_getr 905 (ci := 9) (C := RX10) (T := TX10) (N := 11) 5 hC hinX10 hW tp0 rfl rfl ⟨by decide, by decide, rfl, rfl⟩ rfl w_0 dX10_storedParts_1 qj1 ?_
  replace hf := obE hf
  obtain ⟨j2, qj2, hf⟩ := hf
  have tj2 := x_rt hW qj2 8 ⟨by decide, rfl⟩
  refine x_getrN 710 (ci := 7) (C := RX8) (T := TX8) (N := 16) 10 hC hinX8 hW tj1 rfl rfl ⟨by decide, by decide, rfl, rfl⟩ rfl w_1 dX10_storedParts_4 qj2 ?_
  refine x_getiN 801 (ci := 8) (C := RX9) (T := TX9) (N := 8) 1 hC hinX9 hW tj2 rfl rfl ⟨by decide, by decide, rfl, rfl⟩ rfl w_2 dX10_storedParts_7 ?_
  obtain ⟨e1, e2⟩ := so2 hf
  subst e1
  subst e2
  exact W.iret (v := si S0 801 j2) hx hb hr (fun t ht hWm => ⟨⟨rfl, by unfold QB; rw [ht]; exact ⟨hW, trivial⟩⟩, hS.F ht⟩) hS.2.2 dX10_storedParts_10 hlk
set_option maxHeartbeats 4000000 in
set_option maxRecDepth 100000 in
theorem c_X10_needPart (l : Launch) (g : GP) (ad : Nat → Nat) (n : Nat) (K : Nat → Nat) (sz F : Nat) (S0 : St) (p0 : Nat) (p1 : Int32) (tp0 : p0 < n ∧ K p0 = 9) (r9 : Unit) (S9 : St) (hf : f_X10_needPart F S0 p0 p1 = some (.inr r9, S9)) : Met l yX10_needPart wsX10_needPart { frames := 2, cells := 0, slots := 0, locals := 42 } (va_Pc [.ref (ad p0), .int p1] (PB g ad n K S0 sz)) (QR none (QB g ad n K S9 (dA ad n sz) (True)) (dA ad n sz)) 0 0 (dA ad n sz) := by
  refine Met.ofW (cc := cX10_needPart) (maxL := 2) (ret := none) (by decide) rfl ?_
  intro p e s m args below meth c s₁ B hml hv
  obtain ⟨rfl, hsz, hW, hK, hGs⟩ := x_start hv
  subst hsz
  have hx := B.exec
  have hb := B.bytes
  have hr := B.returns
  have hts := atoms_spec (ws := wsX10_needPart) B.pre
  have hown : s.vm.findClass RX10 = some m.cls := findClass_of_methodNamed B.named
  have hlk := B.notSynchronized
  have hC : Cx g p s m _ c cX10_needPart RX10 wsX10_needPart 2 := ⟨hx, hb, hml, hown, hts, hK⟩
  have hA : ∀ q : Nat, s.heap.size ≤ q → dA ad n s.heap.size q := fun q h => Or.inr h
  have hS : va_S (dA ad n s.heap.size) s.heap s.heap [] := va_S.rf
  have hl := lv_entry ([.ref (ad p0), .int p1]) (n := 2) (Nat.le_of_ble_eq_true rfl)
  rw [lg_entry_eq]
  generalize (lg_sl ([.ref (ad p0), .int p1]) ++ List.replicate (2 - (lg_sl ([.ref (ad p0), .int p1])).length) Slot.unset).toArray = ls at hl ⊢
  have hl : lv_has ls 2 [(0, .ref (ad p0)), (1, .int p1)] := hl
  have hinX10 : ∀ w ∈ wsX100, w ∈ wsX10_needPart := by decide +kernel
  have hinX8 : ∀ w ∈ wsX80, w ∈ wsX10_needPart := by decide +kernel
  have w_0 := hts (.fieldLink RX10 42 "MailSpool" "now" "LMailSpool$Spool;") (by decide +kernel)
  have w_1 := va_Nw.use (A := (List.toArray [.ref (ad p0), .int p1])) rfl (hGs.1 (.fieldLinkNest RX10 186 "MailSpool$Spool" "store" "LMailSpool$Store;" "MailSpool") (by decide +kernel))
  have hGE := hGs.2.2.2.1
  have hGM := hGs.2.2.2.2
  unfold f_X10_needPart at hf
  refine lv_aload_n hx hb dX10_needPart_0 rfl (lv_at hl 0 rfl) ?_
  replace hf := obE hf
  obtain ⟨j1, qj1, hf⟩ := hf
  have tj1 := x_rt hW qj1 7 ⟨by decide, rfl⟩
  refine x_getr 905 (ci := 9) (C := RX10) (T := TX10) (N := 11) 5 hC hinX10 hW tp0 rfl rfl ⟨by decide, by decide, rfl, rfl⟩ rfl w_0 dX10_needPart_1 qj1 ?_
  replace hf := obE hf
  obtain ⟨j2, qj2, hf⟩ := hf
  have tj2 := x_rt hW qj2 8 ⟨by decide, rfl⟩
  refine x_getrN 710 (ci := 7) (C := RX8) (T := TX8) (N := 16) 10 hC hinX8 hW tj1 rfl rfl ⟨by decide, by decide, rfl, rfl⟩ rfl w_1 dX10_needPart_4 qj2 ?_
  refine lv_iload_n hx hb dX10_needPart_7 rfl (lv_at hl 1 rfl) ?_
  replace hf := obE hf
  obtain ⟨z3, hz3, hf⟩ := hf
  obtain ⟨r5, S4⟩ := z3
  replace hf := ltE (ltE hf r5 rfl) S4 rfl
  refine x_callV (As := [.int p1]) (rest := []) (o := (some (.int r5))) (S1 := S4) hC hl.1 hW hS hGs hA tj2 rfl (show vwCl[8]? = some (RX9, TX9, 8) ∧ ob 8 from ⟨rfl, by decide⟩) (c_X9_isStored l g ad n K s.heap.size F S0 j2 p1 tj2 r5 S4 hz3) (cwV 1 hts gX10_needPart_X9_isStored rfl rfl rfl (by decide +kernel) ⟨Nat.le_of_ble_eq_true rfl, Nat.le_of_ble_eq_true rfl⟩) rfl rfl (Nat.le_of_ble_eq_true rfl) dX10_needPart_8 ⟨Nat.le_of_ble_eq_true rfl, Nat.le_of_ble_eq_true rfl⟩ (fun H locs hPz3 hW hS => ?_)
  refine W.eq (g2 := F0 m 11 ls [.int r5]) rfl ?_
  refine lv_if_ne (tgt := 25) hx hb dX10_needPart_11 (by decide) (fun c7 => ?_) (fun c7 => ?_)
  · replace hf := ifT c7 hf
    obtain ⟨e1, e2⟩ := so2 hf
    replace e1 := Sum.inr.inj e1; subst e1
    subst e2
    exact W.vret hx hb hr (fun t ht hWm => ⟨⟨rfl, by unfold QB; rw [ht]; exact ⟨hW, trivial⟩⟩, hS.F ht⟩) hS.2.2 dX10_needPart_25 hlk
  · replace hf := ifF (fun q => q c7) hf
    exact nomatch (Prod.mk.inj (Option.some.inj hf)).1
set_option maxHeartbeats 4000000 in
set_option maxRecDepth 100000 in
theorem c_X10_part (l : Launch) (g : GP) (ad : Nat → Nat) (n : Nat) (K : Nat → Nat) (sz F : Nat) (S0 : St) (p0 : Nat) (p1 : Int32) (p2 : Int32) (tp0 : p0 < n ∧ K p0 = 9) (r9 : Int32) (S9 : St) (hf : f_X10_part F S0 p0 p1 p2 = some (.inr r9, S9)) : Met l yX10_part wsX10_part { frames := 3, cells := 0, slots := 0, locals := 63 } (va_Pc [.ref (ad p0), .int p1, .int p2] (PB g ad n K S0 sz)) (QR (some (.int r9)) (QB g ad n K S9 (dA ad n sz) (True)) (dA ad n sz)) 0 0 (dA ad n sz) := by
  refine Met.ofW (cc := cX10_part) (maxL := 3) (ret := (some .int)) (by decide) rfl ?_
  intro p e s m args below meth c s₁ B hml hv
  obtain ⟨rfl, hsz, hW, hK, hGs⟩ := x_start hv
  subst hsz
  have hx := B.exec
  have hb := B.bytes
  have hr := B.returns
  have hts := atoms_spec (ws := wsX10_part) B.pre
  have hown : s.vm.findClass RX10 = some m.cls := findClass_of_methodNamed B.named
  have hlk := B.notSynchronized
  have hC : Cx g p s m _ c cX10_part RX10 wsX10_part 3 := ⟨hx, hb, hml, hown, hts, hK⟩
  have hA : ∀ q : Nat, s.heap.size ≤ q → dA ad n s.heap.size q := fun q h => Or.inr h
  have hS : va_S (dA ad n s.heap.size) s.heap s.heap [] := va_S.rf
  have hl := lv_entry ([.ref (ad p0), .int p1, .int p2]) (n := 3) (Nat.le_of_ble_eq_true rfl)
  rw [lg_entry_eq]
  generalize (lg_sl ([.ref (ad p0), .int p1, .int p2]) ++ List.replicate (3 - (lg_sl ([.ref (ad p0), .int p1, .int p2])).length) Slot.unset).toArray = ls at hl ⊢
  have hl : lv_has ls 3 [(0, .ref (ad p0)), (1, .int p1), (2, .int p2)] := hl
  have hinX0 : ∀ w ∈ wsX00, w ∈ wsX10_part := by decide +kernel
  have hinX10 : ∀ w ∈ wsX100, w ∈ wsX10_part := by decide +kernel
  have hinX8 : ∀ w ∈ wsX80, w ∈ wsX10_part := by decide +kernel
  have hinX9 : ∀ w ∈ wsX90, w ∈ wsX10_part := by decide +kernel
  have w_0 := hts (.fieldLink RX10 42 "MailSpool" "now" "LMailSpool$Spool;") (by decide +kernel)
  have w_1 := va_Nw.use (A := (List.toArray [.ref (ad p0), .int p1, .int p2])) rfl (hGs.1 (.fieldLinkNest RX10 186 "MailSpool$Spool" "store" "LMailSpool$Store;" "MailSpool") (by decide +kernel))
  have w_2 := va_Nw.use (A := (List.toArray [.ref (ad p0), .int p1, .int p2])) rfl (hGs.1 (.fieldLinkNest RX10 57 "MailSpool$Bytes" "size" "I" "MailSpool") (by decide +kernel))
  have w_3 := va_Nw.use (A := (List.toArray [.ref (ad p0), .int p1, .int p2])) rfl (hGs.1 (.fieldLinkNest RX10 269 "MailSpool$Store" "keepers" "[I" "MailSpool") (by decide +kernel))
  have w_4 := va_Nw.use (A := (List.toArray [.ref (ad p0), .int p1, .int p2])) rfl (hGs.1 (.fieldLinkNest RX10 272 "MailSpool$Store" "deadSince" "[I" "MailSpool") (by decide +kernel))
  have w_5 := va_Nw.use (A := (List.toArray [.ref (ad p0), .int p1, .int p2])) rfl (hGs.1 (.fieldLinkNest RX10 275 "MailSpool$Store" "firstMessage" "[I" "MailSpool") (by decide +kernel))
  have hGE := hGs.2.2.2.1
  have hGM := hGs.2.2.2.2
  unfold f_X10_part at hf
  refine lv_aload_n hx hb dX10_part_0 rfl (lv_at hl 0 rfl) ?_
  refine lv_iload_n hx hb dX10_part_1 rfl (lv_at hl 1 rfl) ?_
  replace hf := obE hf
  obtain ⟨z1, hz1, hf⟩ := hf
  obtain ⟨oz1, S2⟩ := z1
  replace hf := ltE hf S2 rfl
  cases oz1 with
  | inl x =>
    replace hf := smL rfl hf
    exact nomatch (Prod.mk.inj (Option.some.inj hf)).1
  | inr r3 =>
    replace hf := smR rfl hf
    refine x_callV (As := [.int p1]) (rest := []) (o := none) (S1 := S2) (P := True) hC hl.1 hW hS hGs hA tp0 rfl (show vwCl[9]? = some (RX10, TX10, 11) ∧ ob 9 from ⟨rfl, by decide⟩) (c_X10_needPart l g ad n K s.heap.size F S0 p0 p1 tp0 r3 S2 hz1) (cwV 1 hts gX10_part_X10_needPart rfl rfl rfl (by decide +kernel) ⟨Nat.le_of_ble_eq_true rfl, Nat.le_of_ble_eq_true rfl⟩) rfl rfl (Nat.le_of_ble_eq_true rfl) dX10_part_2 ⟨Nat.le_of_ble_eq_true rfl, Nat.le_of_ble_eq_true rfl⟩ (fun H locs hPz1 hW hS => ?_)
    refine W.eq (g2 := F0 m 5 ls []) rfl ?_
    refine lv_iload_n hx hb dX10_part_5 rfl (lv_at hl 2 rfl) ?_
    refine lv_iconst (v := 3) hx hb dX10_part_6 (by decide) ?_
    replace hf := obE hf
    obtain ⟨z5, hz5, hf⟩ := hf
    obtain ⟨oz5, S6⟩ := z5
    replace hf := ltE hf S6 rfl
    cases oz5 with
    | inl x =>
      replace hf := smL rfl hf
      exact nomatch (Prod.mk.inj (Option.some.inj hf)).1
    | inr r7 =>
      replace hf := smR rfl hf
      refine x_callS (As := [.int p2, .int 3]) (rest := []) (o := none) (S1 := S6) (P := True) hC hl.1 hW hS hGs hA (c_X10_needWhat l g ad n K H.size F S2 p2 ((3 : Int32)) r7 S6 hz5) (va_cwS 2 hts gX10_part_X10_needWhat rfl rfl rfl (by decide +kernel) ⟨Nat.le_of_ble_eq_true rfl, Nat.le_of_ble_eq_true rfl⟩) rfl rfl (Nat.le_of_ble_eq_true rfl) dX10_part_7 ⟨Nat.le_of_ble_eq_true rfl, Nat.le_of_ble_eq_true rfl⟩ (fun H locs hPz5 hW hS => ?_)
      refine W.eq (g2 := F0 m 10 ls []) rfl ?_
      refine lv_iload_n hx hb dX10_part_10 rfl (lv_at hl 2 rfl) ?_
      by_cases c9 : p2 = 0
      · replace hf := ifT c9 hf
        refine lv_tableIn (tgt := 36) hx hb dX10_part_11 (by rw [c9]; decide) (by rw [c9]; decide) (by rw [c9]; rfl) (by decide) ?_
        refine lv_aload_n hx hb dX10_part_36 rfl (lv_at hl 0 rfl) ?_
        replace hf := obE hf
        obtain ⟨j10, qj10, hf⟩ := hf
        have tj10 := x_rt hW qj10 7 ⟨by decide, rfl⟩
        refine x_getr 905 (ci := 9) (C := RX10) (T := TX10) (N := 11) 5 hC hinX10 hW tp0 rfl rfl ⟨by decide, by decide, rfl, rfl⟩ rfl w_0 dX10_part_37 qj10 ?_
        replace hf := obE hf
        obtain ⟨j11, qj11, hf⟩ := hf
        have tj11 := x_rt hW qj11 8 ⟨by decide, rfl⟩
        refine x_getrN 710 (ci := 7) (C := RX8) (T := TX8) (N := 16) 10 hC hinX8 hW tj10 rfl rfl ⟨by decide, by decide, rfl, rfl⟩ rfl w_1 dX10_part_40 qj11 ?_
        refine lv_iload_n hx hb dX10_part_43 rfl (lv_at hl 1 rfl) ?_
        replace hf := obE hf
        obtain ⟨z12, hz12, hf⟩ := hf
        obtain ⟨r14, S13⟩ := z12
        replace hf := ltE (ltE hf r14 rfl) S13 rfl
        refine x_callV (As := [.int p1]) (rest := []) (o := (some (va_re ad r14))) (S1 := S13) hC hl.1 hW hS hGs hA tj11 rfl (show vwCl[8]? = some (RX9, TX9, 8) ∧ ob 8 from ⟨rfl, by decide⟩) (c_X9_bytesOf l g ad n K H.size F S6 j11 p1 tj11 r14 S13 hz12) (cwV 1 hts gX10_part_X9_bytesOf rfl rfl rfl (by decide +kernel) ⟨Nat.le_of_ble_eq_true rfl, Nat.le_of_ble_eq_true rfl⟩) rfl rfl (Nat.le_of_ble_eq_true rfl) dX10_part_44 ⟨Nat.le_of_ble_eq_true rfl, Nat.le_of_ble_eq_true rfl⟩ (fun H locs hPz12 hW hS => ?_)
        replace hf := obE hf
        obtain ⟨j16, qj16, hf⟩ := hf
        have tj16 := hPz12 j16 qj16
        refine W.eq (g2 := F0 m 47 ls [.ref (ad j16)]) (by rw [qj16]; rfl) ?_
        refine x_getiN 1 (ci := 0) (C := RX0) (T := TX0) (N := 2) 1 hC hinX0 hW tj16 rfl rfl ⟨by decide, by decide, rfl, rfl⟩ rfl w_2 dX10_part_47 ?_
        obtain ⟨e1, e2⟩ := so2 hf
        replace e1 := Sum.inr.inj e1; subst e1
        subst e2
        exact W.iret (v := si S13 1 j16) hx hb hr (fun t ht hWm => ⟨⟨rfl, by unfold QB; rw [ht]; exact ⟨hW, trivial⟩⟩, hS.F ht⟩) hS.2.2 dX10_part_50 hlk
      · replace hf := ifF c9 hf
        by_cases c17 : p2 = 1
        · replace hf := ifT c17 hf
          refine lv_tableIn (tgt := 51) hx hb dX10_part_11 (by rw [c17]; decide) (by rw [c17]; decide) (by rw [c17]; rfl) (by decide) ?_
          refine lv_aload_n hx hb dX10_part_51 rfl (lv_at hl 0 rfl) ?_
          replace hf := obE hf
          obtain ⟨j18, qj18, hf⟩ := hf
          have tj18 := x_rt hW qj18 7 ⟨by decide, rfl⟩
          refine x_getr 905 (ci := 9) (C := RX10) (T := TX10) (N := 11) 5 hC hinX10 hW tp0 rfl rfl ⟨by decide, by decide, rfl, rfl⟩ rfl w_0 dX10_part_52 qj18 ?_
          replace hf := obE hf
          obtain ⟨j19, qj19, hf⟩ := hf
          have tj19 := x_rt hW qj19 8 ⟨by decide, rfl⟩
          refine x_getrN 710 (ci := 7) (C := RX8) (T := TX8) (N := 16) 10 hC hinX8 hW tj18 rfl rfl ⟨by decide, by decide, rfl, rfl⟩ rfl w_1 dX10_part_55 qj19 ?_
          replace hf := obE hf
          obtain ⟨j20, qj20, hf⟩ := hf
          have tj20 := x_rt hW qj20 12 ⟨by decide, rfl⟩
          refine x_getrN 805 (ci := 8) (C := RX9) (T := TX9) (N := 8) 5 hC hinX9 hW tj19 rfl rfl ⟨by decide, by decide, rfl, rfl⟩ rfl w_3 dX10_part_58 qj20 ?_
          refine lv_iload_n hx hb dX10_part_61 rfl (lv_at hl 1 rfl) ?_
          replace hf := obE hf
          obtain ⟨z21, hz21, hf⟩ := hf
          obtain ⟨r23, S22⟩ := z21
          replace hf := ltE (ltE hf r23 rfl) S22 rfl
          refine x_callS (As := [.ref (ad j20), .int p1]) (rest := []) (o := (some (.int r23))) (S1 := S22) hC hl.1 hW hS hGs hA (c_X10_at l g ad n K H.size F S6 j20 p1 tj20 r23 S22 hz21) (va_cwS 2 hts gX10_part_X10_at rfl rfl rfl (by decide +kernel) ⟨Nat.le_of_ble_eq_true rfl, Nat.le_of_ble_eq_true rfl⟩) rfl rfl (Nat.le_of_ble_eq_true rfl) dX10_part_62 ⟨Nat.le_of_ble_eq_true rfl, Nat.le_of_ble_eq_true rfl⟩ (fun H locs hPz21 hW hS => ?_)
          refine W.eq (g2 := F0 m 65 ls [.int r23]) rfl ?_
          obtain ⟨e1, e2⟩ := so2 hf
          replace e1 := Sum.inr.inj e1; subst e1
          subst e2
          exact W.iret (v := r23) hx hb hr (fun t ht hWm => ⟨⟨rfl, by unfold QB; rw [ht]; exact ⟨hW, trivial⟩⟩, hS.F ht⟩) hS.2.2 dX10_part_65 hlk
        · replace hf := ifF c17 hf
          by_cases c25 : p2 = 2
          · replace hf := ifT c25 hf
            refine lv_tableIn (tgt := 66) hx hb dX10_part_11 (by rw [c25]; decide) (by rw [c25]; decide) (by rw [c25]; rfl) (by decide) ?_
            refine lv_aload_n hx hb dX10_part_66 rfl (lv_at hl 0 rfl) ?_
            replace hf := obE hf
            obtain ⟨j26, qj26, hf⟩ := hf
            have tj26 := x_rt hW qj26 7 ⟨by decide, rfl⟩
            refine x_getr 905 (ci := 9) (C := RX10) (T := TX10) (N := 11) 5 hC hinX10 hW tp0 rfl rfl ⟨by decide, by decide, rfl, rfl⟩ rfl w_0 dX10_part_67 qj26 ?_
            replace hf := obE hf
            obtain ⟨j27, qj27, hf⟩ := hf
            have tj27 := x_rt hW qj27 8 ⟨by decide, rfl⟩
            refine x_getrN 710 (ci := 7) (C := RX8) (T := TX8) (N := 16) 10 hC hinX8 hW tj26 rfl rfl ⟨by decide, by decide, rfl, rfl⟩ rfl w_1 dX10_part_70 qj27 ?_
            replace hf := obE hf
            obtain ⟨j28, qj28, hf⟩ := hf
            have tj28 := x_rt hW qj28 12 ⟨by decide, rfl⟩
            refine x_getrN 806 (ci := 8) (C := RX9) (T := TX9) (N := 8) 6 hC hinX9 hW tj27 rfl rfl ⟨by decide, by decide, rfl, rfl⟩ rfl w_4 dX10_part_73 qj28 ?_
            refine lv_iload_n hx hb dX10_part_76 rfl (lv_at hl 1 rfl) ?_
            replace hf := obE hf
            obtain ⟨z29, hz29, hf⟩ := hf
            obtain ⟨r31, S30⟩ := z29
            replace hf := ltE (ltE hf r31 rfl) S30 rfl
            refine x_callS (As := [.ref (ad j28), .int p1]) (rest := []) (o := (some (.int r31))) (S1 := S30) hC hl.1 hW hS hGs hA (c_X10_at l g ad n K H.size F S6 j28 p1 tj28 r31 S30 hz29) (va_cwS 2 hts gX10_part_X10_at rfl rfl rfl (by decide +kernel) ⟨Nat.le_of_ble_eq_true rfl, Nat.le_of_ble_eq_true rfl⟩) rfl rfl (Nat.le_of_ble_eq_true rfl) dX10_part_77 ⟨Nat.le_of_ble_eq_true rfl, Nat.le_of_ble_eq_true rfl⟩ (fun H locs hPz29 hW hS => ?_)
            refine W.eq (g2 := F0 m 80 ls [.int r31]) rfl ?_
            obtain ⟨e1, e2⟩ := so2 hf
            replace e1 := Sum.inr.inj e1; subst e1
            subst e2
            exact W.iret (v := r31) hx hb hr (fun t ht hWm => ⟨⟨rfl, by unfold QB; rw [ht]; exact ⟨hW, trivial⟩⟩, hS.F ht⟩) hS.2.2 dX10_part_80 hlk
          · replace hf := ifF c25 hf
            refine lv_tableOut (tgt := 81) hx hb dX10_part_11 (sw_out3 c9 c17 c25) (by decide) ?_
            refine lv_aload_n hx hb dX10_part_81 rfl (lv_at hl 0 rfl) ?_
            replace hf := obE hf
            obtain ⟨j33, qj33, hf⟩ := hf
            have tj33 := x_rt hW qj33 7 ⟨by decide, rfl⟩
            refine x_getr 905 (ci := 9) (C := RX10) (T := TX10) (N := 11) 5 hC hinX10 hW tp0 rfl rfl ⟨by decide, by decide, rfl, rfl⟩ rfl w_0 dX10_part_82 qj33 ?_
            replace hf := obE hf
            obtain ⟨j34, qj34, hf⟩ := hf
            have tj34 := x_rt hW qj34 8 ⟨by decide, rfl⟩
            refine x_getrN 710 (ci := 7) (C := RX8) (T := TX8) (N := 16) 10 hC hinX8 hW tj33 rfl rfl ⟨by decide, by decide, rfl, rfl⟩ rfl w_1 dX10_part_85 qj34 ?_
            replace hf := obE hf
            obtain ⟨j35, qj35, hf⟩ := hf
            have tj35 := x_rt hW qj35 12 ⟨by decide, rfl⟩
            refine x_getrN 804 (ci := 8) (C := RX9) (T := TX9) (N := 8) 4 hC hinX9 hW tj34 rfl rfl ⟨by decide, by decide, rfl, rfl⟩ rfl w_5 dX10_part_88 qj35 ?_
            refine lv_iload_n hx hb dX10_part_91 rfl (lv_at hl 1 rfl) ?_
            replace hf := obE hf
            obtain ⟨z36, hz36, hf⟩ := hf
            obtain ⟨r38, S37⟩ := z36
            replace hf := ltE (ltE hf r38 rfl) S37 rfl
            refine x_callS (As := [.ref (ad j35), .int p1]) (rest := []) (o := (some (.int r38))) (S1 := S37) hC hl.1 hW hS hGs hA (c_X10_at l g ad n K H.size F S6 j35 p1 tj35 r38 S37 hz36) (va_cwS 2 hts gX10_part_X10_at rfl rfl rfl (by decide +kernel) ⟨Nat.le_of_ble_eq_true rfl, Nat.le_of_ble_eq_true rfl⟩) rfl rfl (Nat.le_of_ble_eq_true rfl) dX10_part_92 ⟨Nat.le_of_ble_eq_true rfl, Nat.le_of_ble_eq_true rfl⟩ (fun H locs hPz36 hW hS => ?_)
            refine W.eq (g2 := F0 m 95 ls [.int r38]) rfl ?_
            obtain ⟨e1, e2⟩ := so2 hf
            replace e1 := Sum.inr.inj e1; subst e1
            subst e2
            exact W.iret (v := r38) hx hb hr (fun t ht hWm => ⟨⟨rfl, by unfold QB; rw [ht]; exact ⟨hW, trivial⟩⟩, hS.F ht⟩) hS.2.2 dX10_part_95 hlk
set_option maxHeartbeats 4000000 in
set_option maxRecDepth 100000 in
theorem c_X0_hash (l : Launch) (g : GP) (ad : Nat → Nat) (n : Nat) (K : Nat → Nat) (sz F : Nat) (S0 : St) (p0 : Nat) (tp0 : p0 < n ∧ K p0 = 0) (r9 : Int64) (S9 : St) (hf : f_X0_hash F S0 p0 = some (r9, S9)) : Met l yX0_hash wsX0_hash { frames := 1, cells := 0, slots := 0, locals := 21 } (va_Pc [.ref (ad p0)] (PB g ad n K S0 sz)) (QR (some (.long r9)) (QB g ad n K S9 (dA ad n sz) (True)) (dA ad n sz)) 0 0 (dA ad n sz) := by
  refine Met.ofW (cc := cX0_hash) (maxL := 4) (ret := (some .long)) (by decide) rfl ?_
  intro p e s m args below meth c s₁ B hml hv
  obtain ⟨rfl, hsz, hW, hK, hGs⟩ := x_start hv
  subst hsz
  have hx := B.exec
  have hb := B.bytes
  have hr := B.returns
  have hts := atoms_spec (ws := wsX0_hash) B.pre
  have hown : s.vm.findClass RX0 = some m.cls := findClass_of_methodNamed B.named
  have hlk := B.notSynchronized
  have hC : Cx g p s m _ c cX0_hash RX0 wsX0_hash 4 := ⟨hx, hb, hml, hown, hts, hK⟩
  have hA : ∀ q : Nat, s.heap.size ≤ q → dA ad n s.heap.size q := fun q h => Or.inr h
  have hS : va_S (dA ad n s.heap.size) s.heap s.heap [] := va_S.rf
  have hl := lv_entry ([.ref (ad p0)]) (n := 4) (Nat.le_of_ble_eq_true rfl)
  rw [lg_entry_eq]
  generalize (lg_sl ([.ref (ad p0)]) ++ List.replicate (4 - (lg_sl ([.ref (ad p0)])).length) Slot.unset).toArray = ls at hl ⊢
  have hl : lv_has ls 4 [(0, .ref (ad p0))] := hl
  have hinX0 : ∀ w ∈ wsX00, w ∈ wsX0_hash := by decide +kernel
  have w_0 := hts (.fieldLink RX0 21 "MailSpool$Bytes" "size" "I") (by decide +kernel)
  have w_1 := hts (.constantLong RX0 49 (1099511628211)) (by decide +kernel)
  have w_2 := hts (.constantLong RX0 47 (-3750763034362895579)) (by decide +kernel)
  have hGE := hGs.2.2.2.1
  have hGM := hGs.2.2.2.2
  have L6 : ∀ (fu6 : Nat) (S0 : St) (v0 : Nat) (v1 : Int64) (v3 : Int32) (tv0 : v0 < n ∧ K v0 = 0) (H : Heap) (locs : List Loc) (ls : Array Slot), f_X0_hash_L6 F fu6 S0 v0 v1 v3 = some (r9, S9) → Wb g ad n K S0 (dA ad n s.heap.size) H → va_S (dA ad n s.heap.size) s.heap H locs → lv_has ls 4 [(0, .ref (ad v0)), (1, .long (v1)), (3, .int v3)] → W p l e (headSpec wsX0_hash { frames := 1, cells := 0, slots := 0, locals := 21 }).room s m (List.toArray [.ref (ad p0)]) below meth c H locs 0 0 (MQ below (QR (some (.long r9)) (QB g ad n K S9 (dA ad n s.heap.size) (True)) (dA ad n s.heap.size)) (List.toArray [.ref (ad p0)]) s 0 0 (dA ad n s.heap.size)) (F0 m 6 ls []) := by
    intro fu6
    induction fu6 with
    | zero =>
      intro S0 v0 v1 v3 tv0 H locs ls hf
      cases hf
    | succ fu6 ih6 =>
      intro S0 v0 v1 v3 tv0 H locs ls hf hW hS hl
      unfold f_X0_hash_L6 at hf
      refine lv_iload_n hx hb dX0_hash_6 rfl (lv_at hl 2 rfl) ?_
      refine lv_aload_n hx hb dX0_hash_7 rfl (lv_at hl 0 rfl) ?_
      refine x_geti 1 (ci := 0) (C := RX0) (T := TX0) (N := 2) 1 hC hinX0 hW tv0 rfl rfl ⟨by decide, by decide, rfl, rfl⟩ rfl w_0 dX0_hash_8 ?_
      refine lv_icmp_ge (tgt := 33) hx hb dX0_hash_11 (by decide) (fun c8 => ?_) (fun c8 => ?_)
      · replace hf := ifT c8 hf
        refine lv_lload_n hx hb dX0_hash_33 rfl (lv_at hl 1 rfl) ?_
        obtain ⟨e1, e2⟩ := so2 hf
        subst e1
        subst e2
        exact W.lret (v := v1) hx hb hr (fun t ht hWm => ⟨⟨rfl, by unfold QB; rw [ht]; exact ⟨hW, trivial⟩⟩, hS.F ht⟩) hS.2.2 dX0_hash_34 hlk
      · replace hf := ifF c8 hf
        refine lv_lload_n hx hb dX0_hash_14 rfl (lv_at hl 1 rfl) ?_
        refine lv_aload_n hx hb dX0_hash_15 rfl (lv_at hl 0 rfl) ?_
        refine lv_iload_n hx hb dX0_hash_16 rfl (lv_at hl 2 rfl) ?_
        replace hf := obE hf
        obtain ⟨z9, hz9, hf⟩ := hf
        obtain ⟨r11, S10⟩ := z9
        replace hf := ltE (ltE hf r11 rfl) S10 rfl
        refine x_callV (As := [.int v3]) (rest := [.long (v1)]) (o := (some (.int r11))) (S1 := S10) hC hl.1 hW hS hGs hA tv0 rfl (show vwCl[0]? = some (RX0, TX0, 2) ∧ ob 0 from ⟨rfl, by decide⟩) (c_X0_byteAt l g ad n K H.size F S0 v0 v3 tv0 r11 S10 hz9) (cwV 1 hts gX0_hash_X0_byteAt rfl rfl rfl (by decide +kernel) ⟨Nat.le_of_ble_eq_true rfl, Nat.le_of_ble_eq_true rfl⟩) rfl rfl (Nat.le_of_ble_eq_true rfl) dX0_hash_17 ⟨Nat.le_of_ble_eq_true rfl, Nat.le_of_ble_eq_true rfl⟩ (fun H locs hPz9 hW hS => ?_)
        refine W.eq (g2 := F0 m 20 ls [.int r11, .long (v1)]) rfl ?_
        refine lv_i2l (v := r11.toInt64) hx hb dX0_hash_20 rfl ?_
        refine lv_lxor hx hb dX0_hash_21 ?_
        refine lv_ldc2 (v := (1099511628211)) hx hb hown w_1 dX0_hash_22 ?_
        refine lv_lmul hx hb dX0_hash_25 ?_
        refine lv_topl (fun x13 ex13 => ?_)
        replace hf := ltE hf x13 ex13
        refine lv_lstore_n (lv' := [(1, .long (x13)), (0, .ref (ad v0)), (3, .int v3)]) hx hb dX0_hash_26 rfl hl (by decide) rfl (fun ls hl => ?_)
        obtain ⟨x14, ex14⟩ : ∃ z : Int32, z = v3 + 1 := ⟨_, rfl⟩
        replace hf := ltE hf x14 ex14
        refine lv_iinc (v := x14) (lv' := [(3, .int x14), (1, .long (x13)), (0, .ref (ad v0))]) hx hb dX0_hash_27 hl (k := 2) rfl (by rw [ex14]; rfl) (by decide) rfl (fun ls hl => ?_)
        refine lv_goto (tgt := 6) hx hb dX0_hash_30 (by decide) ?_
        exact ih6 S10 v0 x13 x14 tv0 _ _ _ hf hW hS (lv_sub hl [2, 1, 0] rfl)
  unfold f_X0_hash at hf
  refine lv_ldc2 (v := (-3750763034362895579)) hx hb hown w_2 dX0_hash_0 ?_
  refine lv_topl (fun x15 ex15 => ?_)
  replace hf := ltE hf x15 ex15
  refine lv_lstore_n (lv' := [(1, .long (x15)), (0, .ref (ad p0))]) hx hb dX0_hash_3 rfl hl (by decide) rfl (fun ls hl => ?_)
  refine lv_iconst (v := 0) hx hb dX0_hash_4 (by decide) ?_
  refine lv_istore_n (lv' := [(3, .int 0), (1, .long (x15)), (0, .ref (ad p0))]) hx hb dX0_hash_5 rfl hl (by decide) rfl (fun ls hl => ?_)
  exact L6 F S0 p0 x15 0 tp0 _ _ _ hf hW hS (lv_sub hl [2, 1, 0] rfl)
set_option maxHeartbeats 4000000 in
set_option maxRecDepth 100000 in
theorem c_X10_digest (l : Launch) (g : GP) (ad : Nat → Nat) (n : Nat) (K : Nat → Nat) (sz F : Nat) (S0 : St) (p0 : Nat) (p1 : Int32) (tp0 : p0 < n ∧ K p0 = 9) (r9 : Int64) (S9 : St) (hf : f_X10_digest F S0 p0 p1 = some (.inr r9, S9)) : Met l yX10_digest wsX10_digest { frames := 3, cells := 0, slots := 0, locals := 63 } (va_Pc [.ref (ad p0), .int p1] (PB g ad n K S0 sz)) (QR (some (.long r9)) (QB g ad n K S9 (dA ad n sz) (True)) (dA ad n sz)) 0 0 (dA ad n sz) := by
  refine Met.ofW (cc := cX10_digest) (maxL := 2) (ret := (some .long)) (by decide) rfl ?_
  intro p e s m args below meth c s₁ B hml hv
  obtain ⟨rfl, hsz, hW, hK, hGs⟩ := x_start hv
  subst hsz
  have hx := B.exec
  have hb := B.bytes
  have hr := B.returns
  have hts := atoms_spec (ws := wsX10_digest) B.pre
  have hown : s.vm.findClass RX10 = some m.cls := findClass_of_methodNamed B.named
  have hlk := B.notSynchronized
  have hC : Cx g p s m _ c cX10_digest RX10 wsX10_digest 2 := ⟨hx, hb, hml, hown, hts, hK⟩
  have hA : ∀ q : Nat, s.heap.size ≤ q → dA ad n s.heap.size q := fun q h => Or.inr h
  have hS : va_S (dA ad n s.heap.size) s.heap s.heap [] := va_S.rf
  have hl := lv_entry ([.ref (ad p0), .int p1]) (n := 2) (Nat.le_of_ble_eq_true rfl)
  rw [lg_entry_eq]
  generalize (lg_sl ([.ref (ad p0), .int p1]) ++ List.replicate (2 - (lg_sl ([.ref (ad p0), .int p1])).length) Slot.unset).toArray = ls at hl ⊢
  have hl : lv_has ls 2 [(0, .ref (ad p0)), (1, .int p1)] := hl
  have hinX10 : ∀ w ∈ wsX100, w ∈ wsX10_digest := by decide +kernel
  have hinX8 : ∀ w ∈ wsX80, w ∈ wsX10_digest := by decide +kernel
  have w_0 := hts (.fieldLink RX10 42 "MailSpool" "now" "LMailSpool$Spool;") (by decide +kernel)
  have w_1 := va_Nw.use (A := (List.toArray [.ref (ad p0), .int p1])) rfl (hGs.1 (.fieldLinkNest RX10 186 "MailSpool$Spool" "store" "LMailSpool$Store;" "MailSpool") (by decide +kernel))
  have hGE := hGs.2.2.2.1
  have hGM := hGs.2.2.2.2
  unfold f_X10_digest at hf
  refine lv_aload_n hx hb dX10_digest_0 rfl (lv_at hl 0 rfl) ?_
  refine lv_iload_n hx hb dX10_digest_1 rfl (lv_at hl 1 rfl) ?_
  replace hf := obE hf
  obtain ⟨z1, hz1, hf⟩ := hf
  obtain ⟨oz1, S2⟩ := z1
  replace hf := ltE hf S2 rfl
  cases oz1 with
  | inl x =>
    replace hf := smL rfl hf
    exact nomatch (Prod.mk.inj (Option.some.inj hf)).1
  | inr r3 =>
    replace hf := smR rfl hf
    refine x_callV (As := [.int p1]) (rest := []) (o := none) (S1 := S2) (P := True) hC hl.1 hW hS hGs hA tp0 rfl (show vwCl[9]? = some (RX10, TX10, 11) ∧ ob 9 from ⟨rfl, by decide⟩) (c_X10_needPart l g ad n K s.heap.size F S0 p0 p1 tp0 r3 S2 hz1) (cwV 1 hts gX10_digest_X10_needPart rfl rfl rfl (by decide +kernel) ⟨Nat.le_of_ble_eq_true rfl, Nat.le_of_ble_eq_true rfl⟩) rfl rfl (Nat.le_of_ble_eq_true rfl) dX10_digest_2 ⟨Nat.le_of_ble_eq_true rfl, Nat.le_of_ble_eq_true rfl⟩ (fun H locs hPz1 hW hS => ?_)
    refine W.eq (g2 := F0 m 5 ls []) rfl ?_
    refine lv_aload_n hx hb dX10_digest_5 rfl (lv_at hl 0 rfl) ?_
    replace hf := obE hf
    obtain ⟨j5, qj5, hf⟩ := hf
    have tj5 := x_rt hW qj5 7 ⟨by decide, rfl⟩
    refine x_getr 905 (ci := 9) (C := RX10) (T := TX10) (N := 11) 5 hC hinX10 hW tp0 rfl rfl ⟨by decide, by decide, rfl, rfl⟩ rfl w_0 dX10_digest_6 qj5 ?_
    replace hf := obE hf
    obtain ⟨j6, qj6, hf⟩ := hf
    have tj6 := x_rt hW qj6 8 ⟨by decide, rfl⟩
    refine x_getrN 710 (ci := 7) (C := RX8) (T := TX8) (N := 16) 10 hC hinX8 hW tj5 rfl rfl ⟨by decide, by decide, rfl, rfl⟩ rfl w_1 dX10_digest_9 qj6 ?_
    refine lv_iload_n hx hb dX10_digest_12 rfl (lv_at hl 1 rfl) ?_
    replace hf := obE hf
    obtain ⟨z7, hz7, hf⟩ := hf
    obtain ⟨r9, S8⟩ := z7
    replace hf := ltE (ltE hf r9 rfl) S8 rfl
    refine x_callV (As := [.int p1]) (rest := []) (o := (some (va_re ad r9))) (S1 := S8) hC hl.1 hW hS hGs hA tj6 rfl (show vwCl[8]? = some (RX9, TX9, 8) ∧ ob 8 from ⟨rfl, by decide⟩) (c_X9_bytesOf l g ad n K H.size F S2 j6 p1 tj6 r9 S8 hz7) (cwV 1 hts gX10_digest_X9_bytesOf rfl rfl rfl (by decide +kernel) ⟨Nat.le_of_ble_eq_true rfl, Nat.le_of_ble_eq_true rfl⟩) rfl rfl (Nat.le_of_ble_eq_true rfl) dX10_digest_13 ⟨Nat.le_of_ble_eq_true rfl, Nat.le_of_ble_eq_true rfl⟩ (fun H locs hPz7 hW hS => ?_)
    replace hf := obE hf
    obtain ⟨j11, qj11, hf⟩ := hf
    have tj11 := hPz7 j11 qj11
    refine W.eq (g2 := F0 m 16 ls [.ref (ad j11)]) (by rw [qj11]; rfl) ?_
    replace hf := obE hf
    obtain ⟨z12, hz12, hf⟩ := hf
    obtain ⟨r14, S13⟩ := z12
    replace hf := ltE (ltE hf r14 rfl) S13 rfl
    refine x_callV (As := []) (rest := []) (o := (some (.long (r14)))) (S1 := S13) hC hl.1 hW hS hGs hA tj11 rfl (show vwCl[0]? = some (RX0, TX0, 2) ∧ ob 0 from ⟨rfl, by decide⟩) (c_X0_hash l g ad n K H.size F S8 j11 tj11 r14 S13 hz12) (cwV 0 hts gX10_digest_X0_hash rfl rfl rfl (by decide +kernel) ⟨Nat.le_of_ble_eq_true rfl, Nat.le_of_ble_eq_true rfl⟩) rfl rfl (Nat.le_of_ble_eq_true rfl) dX10_digest_16 ⟨Nat.le_of_ble_eq_true rfl, Nat.le_of_ble_eq_true rfl⟩ (fun H locs hPz12 hW hS => ?_)
    refine W.eq (g2 := F0 m 19 ls [.long (r14)]) rfl ?_
    obtain ⟨e1, e2⟩ := so2 hf
    replace e1 := Sum.inr.inj e1; subst e1
    subst e2
    exact W.lret (v := r14) hx hb hr (fun t ht hWm => ⟨⟨rfl, by unfold QB; rw [ht]; exact ⟨hW, trivial⟩⟩, hS.F ht⟩) hS.2.2 dX10_digest_19 hlk
set_option maxHeartbeats 4000000 in
set_option maxRecDepth 100000 in
theorem c_X10_storedBytes (l : Launch) (g : GP) (ad : Nat → Nat) (n : Nat) (K : Nat → Nat) (sz F : Nat) (S0 : St) (p0 : Nat) (tp0 : p0 < n ∧ K p0 = 9) (r9 : Int32) (S9 : St) (hf : f_X10_storedBytes F S0 p0 = some (r9, S9)) : Met l yX10_storedBytes wsX10_storedBytes { frames := 4, cells := 0, slots := 0, locals := 86 } (va_Pc [.ref (ad p0)] (PB g ad n K S0 sz)) (QR (some (.int r9)) (QB g ad n K S9 (dA ad n sz) (True)) (dA ad n sz)) 0 0 (dA ad n sz) := by
  refine Met.ofW (cc := cX10_storedBytes) (maxL := 1) (ret := (some .int)) (by decide) rfl ?_
  intro p e s m args below meth c s₁ B hml hv
  obtain ⟨rfl, hsz, hW, hK, hGs⟩ := x_start hv
  subst hsz
  have hx := B.exec
  have hb := B.bytes
  have hr := B.returns
  have hts := atoms_spec (ws := wsX10_storedBytes) B.pre
  have hown : s.vm.findClass RX10 = some m.cls := findClass_of_methodNamed B.named
  have hlk := B.notSynchronized
  have hC : Cx g p s m _ c cX10_storedBytes RX10 wsX10_storedBytes 1 := ⟨hx, hb, hml, hown, hts, hK⟩
  have hA : ∀ q : Nat, s.heap.size ≤ q → dA ad n s.heap.size q := fun q h => Or.inr h
  have hS : va_S (dA ad n s.heap.size) s.heap s.heap [] := va_S.rf
  have hl := lv_entry ([.ref (ad p0)]) (n := 1) (Nat.le_of_ble_eq_true rfl)
  rw [lg_entry_eq]
  generalize (lg_sl ([.ref (ad p0)]) ++ List.replicate (1 - (lg_sl ([.ref (ad p0)])).length) Slot.unset).toArray = ls at hl ⊢
  have hl : lv_has ls 1 [(0, .ref (ad p0))] := hl
  have hinX10 : ∀ w ∈ wsX100, w ∈ wsX10_storedBytes := by decide +kernel
  have hinX8 : ∀ w ∈ wsX80, w ∈ wsX10_storedBytes := by decide +kernel
  have w_0 := hts (.fieldLink RX10 42 "MailSpool" "now" "LMailSpool$Spool;") (by decide +kernel)
  have w_1 := va_Nw.use (A := (List.toArray [.ref (ad p0)])) rfl (hGs.1 (.fieldLinkNest RX10 186 "MailSpool$Spool" "store" "LMailSpool$Store;" "MailSpool") (by decide +kernel))
  have hGE := hGs.2.2.2.1
  have hGM := hGs.2.2.2.2
  unfold f_X10_storedBytes at hf
  refine lv_aload_n hx hb dX10_storedBytes_0 rfl (lv_at hl 0 rfl) ?_
  replace hf := obE hf
  obtain ⟨j1, qj1, hf⟩ := hf
  have tj1 := x_rt hW qj1 7 ⟨by decide, rfl⟩
  refine x_getr 905 (ci := 9) (C := RX10) (T := TX10) (N := 11) 5 hC hinX10 hW tp0 rfl rfl ⟨by decide, by decide, rfl, rfl⟩ rfl w_0 dX10_storedBytes_1 qj1 ?_
  replace hf := obE hf
  obtain ⟨j2, qj2, hf⟩ := hf
  have tj2 := x_rt hW qj2 8 ⟨by decide, rfl⟩
  refine x_getrN 710 (ci := 7) (C := RX8) (T := TX8) (N := 16) 10 hC hinX8 hW tj1 rfl rfl ⟨by decide, by decide, rfl, rfl⟩ rfl w_1 dX10_storedBytes_4 qj2 ?_
  refine lv_iconst (v := 0) hx hb dX10_storedBytes_7 (by decide) ?_
  replace hf := obE hf
  obtain ⟨z3, hz3, hf⟩ := hf
  obtain ⟨r5, S4⟩ := z3
  replace hf := ltE (ltE hf r5 rfl) S4 rfl
  refine x_callV (As := [.int 0]) (rest := []) (o := (some (.int r5))) (S1 := S4) hC hl.1 hW hS hGs hA tj2 rfl (show vwCl[8]? = some (RX9, TX9, 8) ∧ ob 8 from ⟨rfl, by decide⟩) (c_X9_byteSum l g ad n K s.heap.size F S0 j2 ((0 : Int32)) tj2 r5 S4 hz3) (cwV 1 hts gX10_storedBytes_X9_byteSum rfl rfl rfl (by decide +kernel) ⟨Nat.le_of_ble_eq_true rfl, Nat.le_of_ble_eq_true rfl⟩) rfl rfl (Nat.le_of_ble_eq_true rfl) dX10_storedBytes_8 ⟨Nat.le_of_ble_eq_true rfl, Nat.le_of_ble_eq_true rfl⟩ (fun H locs hPz3 hW hS => ?_)
  refine W.eq (g2 := F0 m 11 ls [.int r5]) rfl ?_
  obtain ⟨e1, e2⟩ := so2 hf
  subst e1
  subst e2
  exact W.iret (v := r5) hx hb hr (fun t ht hWm => ⟨⟨rfl, by unfold QB; rw [ht]; exact ⟨hW, trivial⟩⟩, hS.F ht⟩) hS.2.2 dX10_storedBytes_11 hlk
set_option maxHeartbeats 4000000 in
set_option maxRecDepth 100000 in
theorem c_X10_deadBytes (l : Launch) (g : GP) (ad : Nat → Nat) (n : Nat) (K : Nat → Nat) (sz F : Nat) (S0 : St) (p0 : Nat) (tp0 : p0 < n ∧ K p0 = 9) (r9 : Int32) (S9 : St) (hf : f_X10_deadBytes F S0 p0 = some (r9, S9)) : Met l yX10_deadBytes wsX10_deadBytes { frames := 4, cells := 0, slots := 0, locals := 86 } (va_Pc [.ref (ad p0)] (PB g ad n K S0 sz)) (QR (some (.int r9)) (QB g ad n K S9 (dA ad n sz) (True)) (dA ad n sz)) 0 0 (dA ad n sz) := by
  refine Met.ofW (cc := cX10_deadBytes) (maxL := 1) (ret := (some .int)) (by decide) rfl ?_
  intro p e s m args below meth c s₁ B hml hv
  obtain ⟨rfl, hsz, hW, hK, hGs⟩ := x_start hv
  subst hsz
  have hx := B.exec
  have hb := B.bytes
  have hr := B.returns
  have hts := atoms_spec (ws := wsX10_deadBytes) B.pre
  have hown : s.vm.findClass RX10 = some m.cls := findClass_of_methodNamed B.named
  have hlk := B.notSynchronized
  have hC : Cx g p s m _ c cX10_deadBytes RX10 wsX10_deadBytes 1 := ⟨hx, hb, hml, hown, hts, hK⟩
  have hA : ∀ q : Nat, s.heap.size ≤ q → dA ad n s.heap.size q := fun q h => Or.inr h
  have hS : va_S (dA ad n s.heap.size) s.heap s.heap [] := va_S.rf
  have hl := lv_entry ([.ref (ad p0)]) (n := 1) (Nat.le_of_ble_eq_true rfl)
  rw [lg_entry_eq]
  generalize (lg_sl ([.ref (ad p0)]) ++ List.replicate (1 - (lg_sl ([.ref (ad p0)])).length) Slot.unset).toArray = ls at hl ⊢
  have hl : lv_has ls 1 [(0, .ref (ad p0))] := hl
  have hinX10 : ∀ w ∈ wsX100, w ∈ wsX10_deadBytes := by decide +kernel
  have hinX8 : ∀ w ∈ wsX80, w ∈ wsX10_deadBytes := by decide +kernel
  have w_0 := hts (.fieldLink RX10 42 "MailSpool" "now" "LMailSpool$Spool;") (by decide +kernel)
  have w_1 := va_Nw.use (A := (List.toArray [.ref (ad p0)])) rfl (hGs.1 (.fieldLinkNest RX10 186 "MailSpool$Spool" "store" "LMailSpool$Store;" "MailSpool") (by decide +kernel))
  have hGE := hGs.2.2.2.1
  have hGM := hGs.2.2.2.2
  unfold f_X10_deadBytes at hf
  refine lv_aload_n hx hb dX10_deadBytes_0 rfl (lv_at hl 0 rfl) ?_
  replace hf := obE hf
  obtain ⟨j1, qj1, hf⟩ := hf
  have tj1 := x_rt hW qj1 7 ⟨by decide, rfl⟩
  refine x_getr 905 (ci := 9) (C := RX10) (T := TX10) (N := 11) 5 hC hinX10 hW tp0 rfl rfl ⟨by decide, by decide, rfl, rfl⟩ rfl w_0 dX10_deadBytes_1 qj1 ?_
  replace hf := obE hf
  obtain ⟨j2, qj2, hf⟩ := hf
  have tj2 := x_rt hW qj2 8 ⟨by decide, rfl⟩
  refine x_getrN 710 (ci := 7) (C := RX8) (T := TX8) (N := 16) 10 hC hinX8 hW tj1 rfl rfl ⟨by decide, by decide, rfl, rfl⟩ rfl w_1 dX10_deadBytes_4 qj2 ?_
  refine lv_iconst (v := 1) hx hb dX10_deadBytes_7 (by decide) ?_
  replace hf := obE hf
  obtain ⟨z3, hz3, hf⟩ := hf
  obtain ⟨r5, S4⟩ := z3
  replace hf := ltE (ltE hf r5 rfl) S4 rfl
  refine x_callV (As := [.int 1]) (rest := []) (o := (some (.int r5))) (S1 := S4) hC hl.1 hW hS hGs hA tj2 rfl (show vwCl[8]? = some (RX9, TX9, 8) ∧ ob 8 from ⟨rfl, by decide⟩) (c_X9_byteSum l g ad n K s.heap.size F S0 j2 ((1 : Int32)) tj2 r5 S4 hz3) (cwV 1 hts gX10_deadBytes_X9_byteSum rfl rfl rfl (by decide +kernel) ⟨Nat.le_of_ble_eq_true rfl, Nat.le_of_ble_eq_true rfl⟩) rfl rfl (Nat.le_of_ble_eq_true rfl) dX10_deadBytes_8 ⟨Nat.le_of_ble_eq_true rfl, Nat.le_of_ble_eq_true rfl⟩ (fun H locs hPz3 hW hS => ?_)
  refine W.eq (g2 := F0 m 11 ls [.int r5]) rfl ?_
  obtain ⟨e1, e2⟩ := so2 hf
  subst e1
  subst e2
  exact W.iret (v := r5) hx hb hr (fun t ht hWm => ⟨⟨rfl, by unfold QB; rw [ht]; exact ⟨hW, trivial⟩⟩, hS.F ht⟩) hS.2.2 dX10_deadBytes_11 hlk
set_option maxHeartbeats 4000000 in
set_option maxRecDepth 100000 in
theorem c_X10_logicalBytes (l : Launch) (g : GP) (ad : Nat → Nat) (n : Nat) (K : Nat → Nat) (sz F : Nat) (S0 : St) (p0 : Nat) (tp0 : p0 < n ∧ K p0 = 9) (r9 : Int32) (S9 : St) (hf : f_X10_logicalBytes F S0 p0 = some (r9, S9)) : Met l yX10_logicalBytes wsX10_logicalBytes { frames := 3, cells := 0, slots := 0, locals := 66 } (va_Pc [.ref (ad p0)] (PB g ad n K S0 sz)) (QR (some (.int r9)) (QB g ad n K S9 (dA ad n sz) (True)) (dA ad n sz)) 0 0 (dA ad n sz) := by
  refine Met.ofW (cc := cX10_logicalBytes) (maxL := 3) (ret := (some .int)) (by decide) rfl ?_
  intro p e s m args below meth c s₁ B hml hv
  obtain ⟨rfl, hsz, hW, hK, hGs⟩ := x_start hv
  subst hsz
  have hx := B.exec
  have hb := B.bytes
  have hr := B.returns
  have hts := atoms_spec (ws := wsX10_logicalBytes) B.pre
  have hown : s.vm.findClass RX10 = some m.cls := findClass_of_methodNamed B.named
  have hlk := B.notSynchronized
  have hC : Cx g p s m _ c cX10_logicalBytes RX10 wsX10_logicalBytes 3 := ⟨hx, hb, hml, hown, hts, hK⟩
  have hA : ∀ q : Nat, s.heap.size ≤ q → dA ad n s.heap.size q := fun q h => Or.inr h
  have hS : va_S (dA ad n s.heap.size) s.heap s.heap [] := va_S.rf
  have hl := lv_entry ([.ref (ad p0)]) (n := 3) (Nat.le_of_ble_eq_true rfl)
  rw [lg_entry_eq]
  generalize (lg_sl ([.ref (ad p0)]) ++ List.replicate (3 - (lg_sl ([.ref (ad p0)])).length) Slot.unset).toArray = ls at hl ⊢
  have hl : lv_has ls 3 [(0, .ref (ad p0))] := hl
  have hinX10 : ∀ w ∈ wsX100, w ∈ wsX10_logicalBytes := by decide +kernel
  have hinX5 : ∀ w ∈ wsX50, w ∈ wsX10_logicalBytes := by decide +kernel
  have hinX7 : ∀ w ∈ wsX70, w ∈ wsX10_logicalBytes := by decide +kernel
  have hinX8 : ∀ w ∈ wsX80, w ∈ wsX10_logicalBytes := by decide +kernel
  have w_0 := hts (.fieldLink RX10 42 "MailSpool" "now" "LMailSpool$Spool;") (by decide +kernel)
  have w_1 := va_Nw.use (A := (List.toArray [.ref (ad p0)])) rfl (hGs.1 (.fieldLinkNest RX10 104 "MailSpool$Spool" "rules" "LMailSpool$Rules;" "MailSpool") (by decide +kernel))
  have w_2 := va_Nw.use (A := (List.toArray [.ref (ad p0)])) rfl (hGs.1 (.fieldLinkNest RX10 105 "MailSpool$Rules" "users" "LMailSpool$Names;" "MailSpool") (by decide +kernel))
  have w_3 := va_Nw.use (A := (List.toArray [.ref (ad p0)])) rfl (hGs.1 (.fieldLinkNest RX10 109 "MailSpool$Names" "size" "I" "MailSpool") (by decide +kernel))
  have hGE := hGs.2.2.2.1
  have hGM := hGs.2.2.2.2
  have L4 : ∀ (fu4 : Nat) (S0 : St) (v0 : Nat) (v1 : Int32) (v2 : Int32) (tv0 : v0 < n ∧ K v0 = 9) (H : Heap) (locs : List Loc) (ls : Array Slot), f_X10_logicalBytes_L4 F fu4 S0 v0 v1 v2 = some (r9, S9) → Wb g ad n K S0 (dA ad n s.heap.size) H → va_S (dA ad n s.heap.size) s.heap H locs → lv_has ls 3 [(0, .ref (ad v0)), (1, .int v1), (2, .int v2)] → W p l e (headSpec wsX10_logicalBytes { frames := 3, cells := 0, slots := 0, locals := 66 }).room s m (List.toArray [.ref (ad p0)]) below meth c H locs 0 0 (MQ below (QR (some (.int r9)) (QB g ad n K S9 (dA ad n s.heap.size) (True)) (dA ad n s.heap.size)) (List.toArray [.ref (ad p0)]) s 0 0 (dA ad n s.heap.size)) (F0 m 4 ls []) := by
    intro fu4
    induction fu4 with
    | zero =>
      intro S0 v0 v1 v2 tv0 H locs ls hf
      cases hf
    | succ fu4 ih4 =>
      intro S0 v0 v1 v2 tv0 H locs ls hf hW hS hl
      unfold f_X10_logicalBytes_L4 at hf
      refine lv_iload_n hx hb dX10_logicalBytes_4 rfl (lv_at hl 2 rfl) ?_
      refine lv_aload_n hx hb dX10_logicalBytes_5 rfl (lv_at hl 0 rfl) ?_
      replace hf := obE hf
      obtain ⟨j12, qj12, hf⟩ := hf
      have tj12 := x_rt hW qj12 7 ⟨by decide, rfl⟩
      refine x_getr 905 (ci := 9) (C := RX10) (T := TX10) (N := 11) 5 hC hinX10 hW tv0 rfl rfl ⟨by decide, by decide, rfl, rfl⟩ rfl w_0 dX10_logicalBytes_6 qj12 ?_
      replace hf := obE hf
      obtain ⟨j13, qj13, hf⟩ := hf
      have tj13 := x_rt hW qj13 6 ⟨by decide, rfl⟩
      refine x_getrN 700 (ci := 7) (C := RX8) (T := TX8) (N := 16) 0 hC hinX8 hW tj12 rfl rfl ⟨by decide, by decide, rfl, rfl⟩ rfl w_1 dX10_logicalBytes_9 qj13 ?_
      replace hf := obE hf
      obtain ⟨j14, qj14, hf⟩ := hf
      have tj14 := x_rt hW qj14 4 ⟨by decide, rfl⟩
      refine x_getrN 606 (ci := 6) (C := RX7) (T := TX7) (N := 16) 6 hC hinX7 hW tj13 rfl rfl ⟨by decide, by decide, rfl, rfl⟩ rfl w_2 dX10_logicalBytes_12 qj14 ?_
      refine x_getiN 401 (ci := 4) (C := RX5) (T := TX5) (N := 2) 1 hC hinX5 hW tj14 rfl rfl ⟨by decide, by decide, rfl, rfl⟩ rfl w_3 dX10_logicalBytes_15 ?_
      refine lv_icmp_ge (tgt := 38) hx hb dX10_logicalBytes_18 (by decide) (fun c15 => ?_) (fun c15 => ?_)
      · replace hf := ifT c15 hf
        refine lv_iload_n hx hb dX10_logicalBytes_38 rfl (lv_at hl 1 rfl) ?_
        obtain ⟨e1, e2⟩ := so2 hf
        subst e1
        subst e2
        exact W.iret (v := v1) hx hb hr (fun t ht hWm => ⟨⟨rfl, by unfold QB; rw [ht]; exact ⟨hW, trivial⟩⟩, hS.F ht⟩) hS.2.2 dX10_logicalBytes_39 hlk
      · replace hf := ifF c15 hf
        refine lv_iload_n hx hb dX10_logicalBytes_21 rfl (lv_at hl 1 rfl) ?_
        refine lv_aload_n hx hb dX10_logicalBytes_22 rfl (lv_at hl 0 rfl) ?_
        replace hf := obE hf
        obtain ⟨j16, qj16, hf⟩ := hf
        have tj16 := x_rt hW qj16 7 ⟨by decide, rfl⟩
        refine x_getr 905 (ci := 9) (C := RX10) (T := TX10) (N := 11) 5 hC hinX10 hW tv0 rfl rfl ⟨by decide, by decide, rfl, rfl⟩ rfl w_0 dX10_logicalBytes_23 qj16 ?_
        refine lv_iload_n hx hb dX10_logicalBytes_26 rfl (lv_at hl 2 rfl) ?_
        replace hf := obE hf
        obtain ⟨z17, hz17, hf⟩ := hf
        obtain ⟨r19, S18⟩ := z17
        replace hf := ltE (ltE hf r19 rfl) S18 rfl
        refine x_callV (As := [.int v2]) (rest := [.int v1]) (o := (some (.int r19))) (S1 := S18) hC hl.1 hW hS hGs hA tj16 rfl (show vwCl[7]? = some (RX8, TX8, 16) ∧ ob 7 from ⟨rfl, by decide⟩) (c_X8_usageOf l g ad n K H.size F S0 j16 v2 tj16 r19 S18 hz17) (cwV 1 hts gX10_logicalBytes_X8_usageOf rfl rfl rfl (by decide +kernel) ⟨Nat.le_of_ble_eq_true rfl, Nat.le_of_ble_eq_true rfl⟩) rfl rfl (Nat.le_of_ble_eq_true rfl) dX10_logicalBytes_27 ⟨Nat.le_of_ble_eq_true rfl, Nat.le_of_ble_eq_true rfl⟩ (fun H locs hPz17 hW hS => ?_)
        refine W.eq (g2 := F0 m 30 ls [.int r19, .int v1]) rfl ?_
        refine lv_iadd hx hb dX10_logicalBytes_30 ?_
        refine lv_topi (fun x21 ex21 => ?_)
        replace hf := ltE hf x21 ex21
        refine lv_istore_n (lv' := [(1, .int x21), (0, .ref (ad v0)), (2, .int v2)]) hx hb dX10_logicalBytes_31 rfl hl (by decide) rfl (fun ls hl => ?_)
        obtain ⟨x22, ex22⟩ : ∃ z : Int32, z = v2 + 1 := ⟨_, rfl⟩
        replace hf := ltE hf x22 ex22
        refine lv_iinc (v := x22) (lv' := [(2, .int x22), (1, .int x21), (0, .ref (ad v0))]) hx hb dX10_logicalBytes_32 hl (k := 2) rfl (by rw [ex22]; rfl) (by decide) rfl (fun ls hl => ?_)
        refine lv_goto (tgt := 4) hx hb dX10_logicalBytes_35 (by decide) ?_
        exact ih4 S18 v0 x21 x22 tv0 _ _ _ hf hW hS (lv_sub hl [2, 1, 0] rfl)
  unfold f_X10_logicalBytes at hf
  refine lv_iconst (v := 0) hx hb dX10_logicalBytes_0 (by decide) ?_
  refine lv_istore_n (lv' := [(1, .int 0), (0, .ref (ad p0))]) hx hb dX10_logicalBytes_1 rfl hl (by decide) rfl (fun ls hl => ?_)
  refine lv_iconst (v := 0) hx hb dX10_logicalBytes_2 (by decide) ?_
  refine lv_istore_n (lv' := [(2, .int 0), (1, .int 0), (0, .ref (ad p0))]) hx hb dX10_logicalBytes_3 rfl hl (by decide) rfl (fun ls hl => ?_)
  exact L4 F S0 p0 0 0 tp0 _ _ _ hf hW hS (lv_sub hl [2, 1, 0] rfl)
set_option maxHeartbeats 4000000 in
set_option maxRecDepth 100000 in
theorem c_X10_usage (l : Launch) (g : GP) (ad : Nat → Nat) (n : Nat) (K : Nat → Nat) (sz F : Nat) (S0 : St) (p0 : Nat) (p1 : Int32) (tp0 : p0 < n ∧ K p0 = 9) (r9 : Int32) (S9 : St) (hf : f_X10_usage F S0 p0 p1 = some (.inr r9, S9)) : Met l yX10_usage wsX10_usage { frames := 3, cells := 0, slots := 0, locals := 66 } (va_Pc [.ref (ad p0), .int p1] (PB g ad n K S0 sz)) (QR (some (.int r9)) (QB g ad n K S9 (dA ad n sz) (True)) (dA ad n sz)) 0 0 (dA ad n sz) := by
  refine Met.ofW (cc := cX10_usage) (maxL := 2) (ret := (some .int)) (by decide) rfl ?_
  intro p e s m args below meth c s₁ B hml hv
  obtain ⟨rfl, hsz, hW, hK, hGs⟩ := x_start hv
  subst hsz
  have hx := B.exec
  have hb := B.bytes
  have hr := B.returns
  have hts := atoms_spec (ws := wsX10_usage) B.pre
  have hown : s.vm.findClass RX10 = some m.cls := findClass_of_methodNamed B.named
  have hlk := B.notSynchronized
  have hC : Cx g p s m _ c cX10_usage RX10 wsX10_usage 2 := ⟨hx, hb, hml, hown, hts, hK⟩
  have hA : ∀ q : Nat, s.heap.size ≤ q → dA ad n s.heap.size q := fun q h => Or.inr h
  have hS : va_S (dA ad n s.heap.size) s.heap s.heap [] := va_S.rf
  have hl := lv_entry ([.ref (ad p0), .int p1]) (n := 2) (Nat.le_of_ble_eq_true rfl)
  rw [lg_entry_eq]
  generalize (lg_sl ([.ref (ad p0), .int p1]) ++ List.replicate (2 - (lg_sl ([.ref (ad p0), .int p1])).length) Slot.unset).toArray = ls at hl ⊢
  have hl : lv_has ls 2 [(0, .ref (ad p0)), (1, .int p1)] := hl
  have hinX10 : ∀ w ∈ wsX100, w ∈ wsX10_usage := by decide +kernel
  have w_0 := hts (.fieldLink RX10 42 "MailSpool" "now" "LMailSpool$Spool;") (by decide +kernel)
  have hGE := hGs.2.2.2.1
  have hGM := hGs.2.2.2.2
  unfold f_X10_usage at hf
  refine lv_aload_n hx hb dX10_usage_0 rfl (lv_at hl 0 rfl) ?_
  refine lv_iload_n hx hb dX10_usage_1 rfl (lv_at hl 1 rfl) ?_
  replace hf := obE hf
  obtain ⟨z1, hz1, hf⟩ := hf
  obtain ⟨oz1, S2⟩ := z1
  replace hf := ltE hf S2 rfl
  cases oz1 with
  | inl x =>
    replace hf := smL rfl hf
    exact nomatch (Prod.mk.inj (Option.some.inj hf)).1
  | inr r3 =>
    replace hf := smR rfl hf
    refine x_callV (As := [.int p1]) (rest := []) (o := none) (S1 := S2) (P := True) hC hl.1 hW hS hGs hA tp0 rfl (show vwCl[9]? = some (RX10, TX10, 11) ∧ ob 9 from ⟨rfl, by decide⟩) (c_X10_needUser l g ad n K s.heap.size F S0 p0 p1 tp0 r3 S2 hz1) (cwV 1 hts gX10_usage_X10_needUser rfl rfl rfl (by decide +kernel) ⟨Nat.le_of_ble_eq_true rfl, Nat.le_of_ble_eq_true rfl⟩) rfl rfl (Nat.le_of_ble_eq_true rfl) dX10_usage_2 ⟨Nat.le_of_ble_eq_true rfl, Nat.le_of_ble_eq_true rfl⟩ (fun H locs hPz1 hW hS => ?_)
    refine W.eq (g2 := F0 m 5 ls []) rfl ?_
    refine lv_aload_n hx hb dX10_usage_5 rfl (lv_at hl 0 rfl) ?_
    replace hf := obE hf
    obtain ⟨j5, qj5, hf⟩ := hf
    have tj5 := x_rt hW qj5 7 ⟨by decide, rfl⟩
    refine x_getr 905 (ci := 9) (C := RX10) (T := TX10) (N := 11) 5 hC hinX10 hW tp0 rfl rfl ⟨by decide, by decide, rfl, rfl⟩ rfl w_0 dX10_usage_6 qj5 ?_
    refine lv_iload_n hx hb dX10_usage_9 rfl (lv_at hl 1 rfl) ?_
    replace hf := obE hf
    obtain ⟨z6, hz6, hf⟩ := hf
    obtain ⟨r8, S7⟩ := z6
    replace hf := ltE (ltE hf r8 rfl) S7 rfl
    refine x_callV (As := [.int p1]) (rest := []) (o := (some (.int r8))) (S1 := S7) hC hl.1 hW hS hGs hA tj5 rfl (show vwCl[7]? = some (RX8, TX8, 16) ∧ ob 7 from ⟨rfl, by decide⟩) (c_X8_usageOf l g ad n K H.size F S2 j5 p1 tj5 r8 S7 hz6) (cwV 1 hts gX10_usage_X8_usageOf rfl rfl rfl (by decide +kernel) ⟨Nat.le_of_ble_eq_true rfl, Nat.le_of_ble_eq_true rfl⟩) rfl rfl (Nat.le_of_ble_eq_true rfl) dX10_usage_10 ⟨Nat.le_of_ble_eq_true rfl, Nat.le_of_ble_eq_true rfl⟩ (fun H locs hPz6 hW hS => ?_)
    refine W.eq (g2 := F0 m 13 ls [.int r8]) rfl ?_
    obtain ⟨e1, e2⟩ := so2 hf
    replace e1 := Sum.inr.inj e1; subst e1
    subst e2
    exact W.iret (v := r8) hx hb hr (fun t ht hWm => ⟨⟨rfl, by unfold QB; rw [ht]; exact ⟨hW, trivial⟩⟩, hS.F ht⟩) hS.2.2 dX10_usage_13 hlk
set_option maxHeartbeats 4000000 in
set_option maxRecDepth 100000 in
theorem c_X8_gatherReaders (l : Launch) (g : GP) (ad : Nat → Nat) (n : Nat) (K : Nat → Nat) (sz F : Nat) (S0 : St) (p0 : Nat) (p1 : Nat) (tp0 : p0 < n ∧ K p0 = 7) (tp1 : p1 < n ∧ K p1 = 12) (S9 : St) (hf : f_X8_gatherReaders F S0 p0 p1 = some S9) : Met l yX8_gatherReaders wsX8_gatherReaders { frames := 3, cells := 0, slots := 0, locals := 69 } (va_Pc [.ref (ad p0), .ref (ad p1)] (PB g ad n K S0 sz)) (QR none (QB g ad n K S9 (dA ad n sz) (True)) (dA ad n sz)) 0 0 (dA ad n sz) := by
  refine Met.ofW (cc := cX8_gatherReaders) (maxL := 8) (ret := none) (by decide) rfl ?_
  intro p e s m args below meth c s₁ B hml hv
  obtain ⟨rfl, hsz, hW, hK, hGs⟩ := x_start hv
  subst hsz
  have hx := B.exec
  have hb := B.bytes
  have hr := B.returns
  have hts := atoms_spec (ws := wsX8_gatherReaders) B.pre
  have hown : s.vm.findClass RX8 = some m.cls := findClass_of_methodNamed B.named
  have hlk := B.notSynchronized
  have hC : Cx g p s m _ c cX8_gatherReaders RX8 wsX8_gatherReaders 8 := ⟨hx, hb, hml, hown, hts, hK⟩
  have hA : ∀ q : Nat, s.heap.size ≤ q → dA ad n s.heap.size q := fun q h => Or.inr h
  have hS : va_S (dA ad n s.heap.size) s.heap s.heap [] := va_S.rf
  have hl := lv_entry ([.ref (ad p0), .ref (ad p1)]) (n := 8) (Nat.le_of_ble_eq_true rfl)
  rw [lg_entry_eq]
  generalize (lg_sl ([.ref (ad p0), .ref (ad p1)]) ++ List.replicate (8 - (lg_sl ([.ref (ad p0), .ref (ad p1)])).length) Slot.unset).toArray = ls at hl ⊢
  have hl : lv_has ls 8 [(0, .ref (ad p0)), (1, .ref (ad p1))] := hl
  have hinX4 : ∀ w ∈ wsX40, w ∈ wsX8_gatherReaders := by decide +kernel
  have hinX8 : ∀ w ∈ wsX80, w ∈ wsX8_gatherReaders := by decide +kernel
  have w_0 := va_Nw.use (A := (List.toArray [.ref (ad p0), .ref (ad p1)])) rfl (hGs.1 (.methodLinkNest RX8 112 yX10_at "MailSpool") (by decide +kernel))
  have w_1 := hts (.initialized RX10) (by decide +kernel)
  have w_2 := hts (.static yX10_at) (by decide +kernel)
  have w_3 := va_Nw.use (A := (List.toArray [.ref (ad p0), .ref (ad p1)])) rfl (hGs.1 (.methodLinkNest RX8 181 yX10_put "MailSpool") (by decide +kernel))
  have w_4 := hts (.static yX10_put) (by decide +kernel)
  have w_5 := hts (.fieldLink RX8 88 "MailSpool$Spool" "messageCount" "I") (by decide +kernel)
  have w_6 := va_Nw.use (A := (List.toArray [.ref (ad p0), .ref (ad p1)])) rfl (hGs.1 (.fieldLinkNest RX8 156 "MailSpool$Message" "parts" "[I" "MailSpool") (by decide +kernel))
  have hGE := hGs.2.2.2.1
  have hGM := hGs.2.2.2.2
  have L7 : ∀ (fu7 : Nat) (S0 : St) (v0 : Nat) (v1 : Nat) (v2 : Int32) (tv0 : v0 < n ∧ K v0 = 7) (tv1 : v1 < n ∧ K v1 = 12) (H : Heap) (locs : List Loc) (ls : Array Slot), f_X8_gatherReaders_L7 F fu7 S0 v0 v1 v2 = some S9 → Wb g ad n K S0 (dA ad n s.heap.size) H → va_S (dA ad n s.heap.size) s.heap H locs → lv_has ls 8 [(0, .ref (ad v0)), (1, .ref (ad v1)), (2, .int v2)] → W p l e (headSpec wsX8_gatherReaders { frames := 3, cells := 0, slots := 0, locals := 69 }).room s m (List.toArray [.ref (ad p0), .ref (ad p1)]) below meth c H locs 0 0 (MQ below (QR none (QB g ad n K S9 (dA ad n s.heap.size) (True)) (dA ad n s.heap.size)) (List.toArray [.ref (ad p0), .ref (ad p1)]) s 0 0 (dA ad n s.heap.size)) (F0 m 7 ls []) := by
    intro fu7
    induction fu7 with
    | zero =>
      intro S0 v0 v1 v2 tv0 tv1 H locs ls hf
      cases hf
    | succ fu7 ih7 =>
      have L41 : ∀ (fu41 : Nat) (S0 : St) (v0 : Nat) (v1 : Nat) (v2 : Int32) (v3 : Int32) (v4 : Nat) (v5 : Int32) (v6 : Int32) (tv0 : v0 < n ∧ K v0 = 7) (tv1 : v1 < n ∧ K v1 = 12) (tv4 : v4 < n ∧ K v4 = 12) (H : Heap) (locs : List Loc) (ls : Array Slot), f_X8_gatherReaders_L41 F (fun a0 a1 a2 a3 => f_X8_gatherReaders_L7 F fu7 a0 a1 a2 a3) fu41 S0 v0 v1 v2 v3 v4 v5 v6 = some S9 → Wb g ad n K S0 (dA ad n s.heap.size) H → va_S (dA ad n s.heap.size) s.heap H locs → lv_has ls 8 [(0, .ref (ad v0)), (1, .ref (ad v1)), (2, .int v2), (3, .int v3), (4, .ref (ad v4)), (5, .int v5), (6, .int v6)] → W p l e (headSpec wsX8_gatherReaders { frames := 3, cells := 0, slots := 0, locals := 69 }).room s m (List.toArray [.ref (ad p0), .ref (ad p1)]) below meth c H locs 0 0 (MQ below (QR none (QB g ad n K S9 (dA ad n s.heap.size) (True)) (dA ad n s.heap.size)) (List.toArray [.ref (ad p0), .ref (ad p1)]) s 0 0 (dA ad n s.heap.size)) (F0 m 41 ls []) := by
        intro fu41
        induction fu41 with
        | zero =>
          intro S0 v0 v1 v2 v3 v4 v5 v6 tv0 tv1 tv4 H locs ls hf
          cases hf
        | succ fu41 ih41 =>
          intro S0 v0 v1 v2 v3 v4 v5 v6 tv0 tv1 tv4 H locs ls hf hW hS hl
          unfold f_X8_gatherReaders_L41 at hf
          refine lv_iload hx hb dX8_gatherReaders_41 (lv_at hl 6 rfl) ?_
          refine lv_iload hx hb dX8_gatherReaders_43 (lv_at hl 5 rfl) ?_
          refine lv_icmp_ge (tgt := 75) hx hb dX8_gatherReaders_45 (by decide) (fun c14 => ?_) (fun c14 => ?_)
          · replace hf := ifT c14 hf
            obtain ⟨x15, ex15⟩ : ∃ z : Int32, z = v2 + 1 := ⟨_, rfl⟩
            replace hf := ltE hf x15 ex15
            refine lv_iinc (v := x15) (lv' := [(2, .int x15), (0, .ref (ad v0)), (1, .ref (ad v1)), (3, .int v3), (4, .ref (ad v4)), (5, .int v5), (6, .int v6)]) hx hb dX8_gatherReaders_75 hl (k := 2) rfl (by rw [ex15]; rfl) (by decide) rfl (fun ls hl => ?_)
            refine lv_goto (tgt := 7) hx hb dX8_gatherReaders_78 (by decide) ?_
            exact ih7 S0 v0 v1 x15 tv0 tv1 _ _ _ hf hW hS (lv_sub hl [1, 2, 0] rfl)
          · replace hf := ifF c14 hf
            refine lv_aload hx hb dX8_gatherReaders_48 (lv_at hl 4 rfl) ?_
            refine lv_iload hx hb dX8_gatherReaders_50 (lv_at hl 6 rfl) ?_
            replace hf := ckiE hf
            obtain ⟨h16, hf⟩ := hf
            refine x_iald hC hW tv4 rfl rfl h16 dX8_gatherReaders_52 ?_
            refine lv_topi (fun x17 ex17 => ?_)
            replace hf := ltE hf x17 ex17
            refine lv_istore (lv' := [(7, .int x17), (0, .ref (ad v0)), (1, .ref (ad v1)), (2, .int v2), (3, .int v3), (4, .ref (ad v4)), (5, .int v5), (6, .int v6)]) hx hb dX8_gatherReaders_53 hl (by decide) rfl (fun ls hl => ?_)
            refine lv_aload_n hx hb dX8_gatherReaders_55 rfl (lv_at hl 2 rfl) ?_
            refine lv_iload hx hb dX8_gatherReaders_56 (lv_at hl 0 rfl) ?_
            refine lv_aload_n hx hb dX8_gatherReaders_58 rfl (lv_at hl 2 rfl) ?_
            refine lv_iload hx hb dX8_gatherReaders_59 (lv_at hl 0 rfl) ?_
            replace hf := obE hf
            obtain ⟨z18, hz18, hf⟩ := hf
            obtain ⟨r20, S19⟩ := z18
            replace hf := ltE (ltE hf r20 rfl) S19 rfl
            refine x_callSN (As := [.ref (ad v1), .int x17]) (rest := [.int x17, .ref (ad v1)]) (o := (some (.int r20))) (S1 := S19) hC hl.1 hW hS hGs hA (c_X10_at l g ad n K H.size F S0 v1 x17 tv1 r20 S19 hz18) ⟨va_cnB 2 hts gX8_gatherReaders_X10_at_n112 rfl rfl rfl (va_Nw.of rfl w_0) w_1 (by decide +kernel) ⟨Nat.le_of_ble_eq_true rfl, Nat.le_of_ble_eq_true rfl⟩, w_2, trivial⟩ rfl rfl (Nat.le_of_ble_eq_true rfl) dX8_gatherReaders_61 ⟨Nat.le_of_ble_eq_true rfl, Nat.le_of_ble_eq_true rfl⟩ (fun H locs hPz18 hW hS => ?_)
            refine W.eq (g2 := F0 m 64 ls [.int r20, .int x17, .ref (ad v1)]) rfl ?_
            refine lv_iload_n hx hb dX8_gatherReaders_64 rfl (lv_at hl 4 rfl) ?_
            refine lv_ior hx hb dX8_gatherReaders_65 ?_
            replace hf := obE hf
            obtain ⟨S23, hz22, hf⟩ := hf
            refine x_callSN (As := [.ref (ad v1), .int x17, .int (r20 ||| v3)]) (rest := []) (o := none) (S1 := S23) hC hl.1 hW hS hGs hA (c_X10_put l g ad n K H.size F S19 v1 x17 (r20 ||| v3) tv1 S23 hz22) ⟨va_cnB 3 hts gX8_gatherReaders_X10_put_n181 rfl rfl rfl (va_Nw.of rfl w_3) w_1 (by decide +kernel) ⟨Nat.le_of_ble_eq_true rfl, Nat.le_of_ble_eq_true rfl⟩, w_4, trivial⟩ rfl rfl (Nat.le_of_ble_eq_true rfl) dX8_gatherReaders_66 ⟨Nat.le_of_ble_eq_true rfl, Nat.le_of_ble_eq_true rfl⟩ (fun H locs hPz22 hW hS => ?_)
            refine W.eq (g2 := F0 m 69 ls []) rfl ?_
            obtain ⟨x26, ex26⟩ : ∃ z : Int32, z = v6 + 1 := ⟨_, rfl⟩
            replace hf := ltE hf x26 ex26
            refine lv_iinc (v := x26) (lv' := [(6, .int x26), (7, .int x17), (0, .ref (ad v0)), (1, .ref (ad v1)), (2, .int v2), (3, .int v3), (4, .ref (ad v4)), (5, .int v5)]) hx hb dX8_gatherReaders_69 hl (k := 7) rfl (by rw [ex26]; rfl) (by decide) rfl (fun ls hl => ?_)
            refine lv_goto (tgt := 41) hx hb dX8_gatherReaders_72 (by decide) ?_
            exact ih41 S23 v0 v1 v2 v3 v4 v5 x26 tv0 tv1 tv4 _ _ _ hf hW hS (lv_sub hl [2, 3, 4, 5, 6, 7, 0] rfl)
      intro S0 v0 v1 v2 tv0 tv1 H locs ls hf hW hS hl
      unfold f_X8_gatherReaders_L7 at hf
      refine lv_iload_n hx hb dX8_gatherReaders_7 rfl (lv_at hl 2 rfl) ?_
      refine lv_aload_n hx hb dX8_gatherReaders_8 rfl (lv_at hl 0 rfl) ?_
      refine x_geti 705 (ci := 7) (C := RX8) (T := TX8) (N := 16) 5 hC hinX8 hW tv0 rfl rfl ⟨by decide, by decide, rfl, rfl⟩ rfl w_5 dX8_gatherReaders_9 ?_
      refine lv_icmp_ge (tgt := 81) hx hb dX8_gatherReaders_12 (by decide) (fun c39 => ?_) (fun c39 => ?_)
      · replace hf := ifT c39 hf
        have e1 := Option.some.inj hf
        subst e1
        exact W.vret hx hb hr (fun t ht hWm => ⟨⟨rfl, by unfold QB; rw [ht]; exact ⟨hW, trivial⟩⟩, hS.F ht⟩) hS.2.2 dX8_gatherReaders_81 hlk
      · replace hf := ifF c39 hf
        refine lv_aload_n hx hb dX8_gatherReaders_15 rfl (lv_at hl 0 rfl) ?_
        refine lv_iload_n hx hb dX8_gatherReaders_16 rfl (lv_at hl 2 rfl) ?_
        refine lv_iconst (v := 0) hx hb dX8_gatherReaders_17 (by decide) ?_
        refine lv_iconst (v := 0) hx hb dX8_gatherReaders_18 (by decide) ?_
        replace hf := obE hf
        obtain ⟨z40, hz40, hf⟩ := hf
        obtain ⟨r42, S41⟩ := z40
        replace hf := ltE (ltE hf r42 rfl) S41 rfl
        refine x_callV (As := [.int v2, .int 0, .int 0]) (rest := []) (o := (some (.int r42))) (S1 := S41) hC hl.1 hW hS hGs hA tv0 rfl (show vwCl[7]? = some (RX8, TX8, 16) ∧ ob 7 from ⟨rfl, by decide⟩) (c_X8_usersIn l g ad n K H.size F S0 v0 v2 ((0 : Int32)) ((0 : Int32)) tv0 r42 S41 hz40) (cwV 3 hts gX8_gatherReaders_X8_usersIn rfl rfl rfl (by decide +kernel) ⟨Nat.le_of_ble_eq_true rfl, Nat.le_of_ble_eq_true rfl⟩) rfl rfl (Nat.le_of_ble_eq_true rfl) dX8_gatherReaders_19 ⟨Nat.le_of_ble_eq_true rfl, Nat.le_of_ble_eq_true rfl⟩ (fun H locs hPz40 hW hS => ?_)
        refine W.eq (g2 := F0 m 22 ls [.int r42]) rfl ?_
        refine lv_istore_n (lv' := [(3, .int r42), (0, .ref (ad v0)), (1, .ref (ad v1)), (2, .int v2)]) hx hb dX8_gatherReaders_22 rfl hl (by decide) rfl (fun ls hl => ?_)
        refine lv_aload_n hx hb dX8_gatherReaders_23 rfl (lv_at hl 1 rfl) ?_
        refine lv_iload_n hx hb dX8_gatherReaders_24 rfl (lv_at hl 3 rfl) ?_
        replace hf := obE hf
        obtain ⟨z44, hz44, hf⟩ := hf
        obtain ⟨r46, S45⟩ := z44
        replace hf := ltE (ltE hf r46 rfl) S45 rfl
        refine x_callV (As := [.int v2]) (rest := []) (o := (some (va_re ad r46))) (S1 := S45) hC hl.1 hW hS hGs hA tv0 rfl (show vwCl[7]? = some (RX8, TX8, 16) ∧ ob 7 from ⟨rfl, by decide⟩) (c_X8_messageAt l g ad n K H.size F S41 v0 v2 tv0 r46 S45 hz44) (cwV 1 hts gX8_gatherReaders_X8_messageAt rfl rfl rfl (by decide +kernel) ⟨Nat.le_of_ble_eq_true rfl, Nat.le_of_ble_eq_true rfl⟩) rfl rfl (Nat.le_of_ble_eq_true rfl) dX8_gatherReaders_25 ⟨Nat.le_of_ble_eq_true rfl, Nat.le_of_ble_eq_true rfl⟩ (fun H locs hPz44 hW hS => ?_)
        replace hf := obE hf
        obtain ⟨j48, qj48, hf⟩ := hf
        have tj48 := hPz44 j48 qj48
        refine W.eq (g2 := F0 m 28 ls [.ref (ad j48)]) (by rw [qj48]; rfl) ?_
        replace hf := obE hf
        obtain ⟨j49, qj49, hf⟩ := hf
        have tj49 := x_rt hW qj49 12 ⟨by decide, rfl⟩
        refine x_getrN 303 (ci := 3) (C := RX4) (T := TX4) (N := 5) 3 hC hinX4 hW tj48 rfl rfl ⟨by decide, by decide, rfl, rfl⟩ rfl w_6 dX8_gatherReaders_28 qj49 ?_
        refine lv_astore (lv' := [(4, .ref (ad j49)), (3, .int r42), (0, .ref (ad v0)), (1, .ref (ad v1)), (2, .int v2)]) hx hb dX8_gatherReaders_31 hl (by decide) rfl (fun ls hl => ?_)
        refine lv_aload hx hb dX8_gatherReaders_33 (lv_at hl 0 rfl) ?_
        refine x_alen hC hW tj49 rfl ⟨by decide, by decide⟩ dX8_gatherReaders_35 ?_
        refine lv_topi (fun x50 ex50 => ?_)
        replace hf := ltE hf x50 ex50
        refine lv_istore (lv' := [(5, .int x50), (4, .ref (ad j49)), (3, .int r42), (0, .ref (ad v0)), (1, .ref (ad v1)), (2, .int v2)]) hx hb dX8_gatherReaders_36 hl (by decide) rfl (fun ls hl => ?_)
        refine lv_iconst (v := 0) hx hb dX8_gatherReaders_38 (by decide) ?_
        refine lv_istore (lv' := [(6, .int 0), (5, .int x50), (4, .ref (ad j49)), (3, .int r42), (0, .ref (ad v0)), (1, .ref (ad v1)), (2, .int v2)]) hx hb dX8_gatherReaders_39 hl (by decide) rfl (fun ls hl => ?_)
        exact L41 F S45 v0 v1 v2 r42 j49 x50 0 tv0 tv1 tj49 _ _ _ hf hW hS (lv_sub hl [4, 5, 6, 3, 2, 1, 0] rfl)
  unfold f_X8_gatherReaders at hf
  refine lv_aload_n hx hb dX8_gatherReaders_0 rfl (lv_at hl 1 rfl) ?_
  refine lv_iconst (v := 0) hx hb dX8_gatherReaders_1 (by decide) ?_
  replace hf := obE hf
  obtain ⟨S52, hz51, hf⟩ := hf
  refine x_callS (As := [.ref (ad p1), .int 0]) (rest := []) (o := none) (S1 := S52) hC hl.1 hW hS hGs hA (c_J7_fill_53178 l g ad n K s.heap.size F S0 p1 ((0 : Int32)) tp1 S52 hz51) (va_cwS 2 hts gX8_gatherReaders_J7_fill_53178 rfl rfl rfl (by decide +kernel) ⟨Nat.le_of_ble_eq_true rfl, Nat.le_of_ble_eq_true rfl⟩) rfl rfl (Nat.le_of_ble_eq_true rfl) dX8_gatherReaders_2 ⟨Nat.le_of_ble_eq_true rfl, Nat.le_of_ble_eq_true rfl⟩ (fun H locs hPz51 hW hS => ?_)
  refine W.eq (g2 := F0 m 5 ls []) rfl ?_
  refine lv_iconst (v := 0) hx hb dX8_gatherReaders_5 (by decide) ?_
  refine lv_istore_n (lv' := [(2, .int 0), (0, .ref (ad p0)), (1, .ref (ad p1))]) hx hb dX8_gatherReaders_6 rfl hl (by decide) rfl (fun ls hl => ?_)
  exact L7 F S52 p0 p1 0 tp0 tp1 _ _ _ hf hW hS (lv_sub hl [1, 2, 0] rfl)
set_option maxHeartbeats 4000000 in
set_option maxRecDepth 100000 in
theorem c_X10_fairShare (l : Launch) (g : GP) (ad : Nat → Nat) (n : Nat) (K : Nat → Nat) (sz F : Nat) (S0 : St) (p0 : Nat) (p1 : Int32) (tp0 : p0 < n ∧ K p0 = 9) (r9 : UInt64) (S9 : St) (hf : f_X10_fairShare F S0 p0 p1 = some (.inr r9, S9)) : Met l yX10_fairShare wsX10_fairShare { frames := 4, cells := 0, slots := 0, locals := 96 } (va_Pc [.ref (ad p0), .int p1] (PB g ad n K S0 sz)) (QR (some (.double r9)) (QB g ad n K S9 (dA ad n sz) (True)) (dA ad n sz)) 0 0 (dA ad n sz) := by
  refine Met.ofW (cc := cX10_fairShare) (maxL := 6) (ret := (some .double)) (by decide) rfl ?_
  intro p e s m args below meth c s₁ B hml hv
  obtain ⟨rfl, hsz, hW, hK, hGs⟩ := x_start hv
  subst hsz
  have hx := B.exec
  have hb := B.bytes
  have hr := B.returns
  have hts := atoms_spec (ws := wsX10_fairShare) B.pre
  have hown : s.vm.findClass RX10 = some m.cls := findClass_of_methodNamed B.named
  have hlk := B.notSynchronized
  have hC : Cx g p s m _ c cX10_fairShare RX10 wsX10_fairShare 6 := ⟨hx, hb, hml, hown, hts, hK⟩
  have hA : ∀ q : Nat, s.heap.size ≤ q → dA ad n s.heap.size q := fun q h => Or.inr h
  have hS : va_S (dA ad n s.heap.size) s.heap s.heap [] := va_S.rf
  have hl := lv_entry ([.ref (ad p0), .int p1]) (n := 6) (Nat.le_of_ble_eq_true rfl)
  rw [lg_entry_eq]
  generalize (lg_sl ([.ref (ad p0), .int p1]) ++ List.replicate (6 - (lg_sl ([.ref (ad p0), .int p1])).length) Slot.unset).toArray = ls at hl ⊢
  have hl : lv_has ls 6 [(0, .ref (ad p0)), (1, .int p1)] := hl
  have hinX0 : ∀ w ∈ wsX00, w ∈ wsX10_fairShare := by decide +kernel
  have hinX10 : ∀ w ∈ wsX100, w ∈ wsX10_fairShare := by decide +kernel
  have hinX8 : ∀ w ∈ wsX80, w ∈ wsX10_fairShare := by decide +kernel
  have w_0 := hts (.fieldLink RX10 53 "MailSpool" "partReaders" "[I") (by decide +kernel)
  have w_1 := hts (.fieldLink RX10 42 "MailSpool" "now" "LMailSpool$Spool;") (by decide +kernel)
  have w_2 := va_Nw.use (A := (List.toArray [.ref (ad p0), .int p1])) rfl (hGs.1 (.fieldLinkNest RX10 186 "MailSpool$Spool" "store" "LMailSpool$Store;" "MailSpool") (by decide +kernel))
  have w_3 := va_Nw.use (A := (List.toArray [.ref (ad p0), .int p1])) rfl (hGs.1 (.fieldLinkNest RX10 57 "MailSpool$Bytes" "size" "I" "MailSpool") (by decide +kernel))
  have hGE := hGs.2.2.2.1
  have hGM := hGs.2.2.2.2
  have L21 : ∀ (fu21 : Nat) (S0 : St) (v0 : Nat) (v1 : Int32) (v2 : UInt64) (v4 : Int32) (tv0 : v0 < n ∧ K v0 = 9) (H : Heap) (locs : List Loc) (ls : Array Slot), f_X10_fairShare_L21 F fu21 S0 v0 v1 v2 v4 = some (.inr r9, S9) → Wb g ad n K S0 (dA ad n s.heap.size) H → va_S (dA ad n s.heap.size) s.heap H locs → lv_has ls 6 [(0, .ref (ad v0)), (1, .int v1), (2, .double (v2)), (4, .int v4)] → W p l e (headSpec wsX10_fairShare { frames := 4, cells := 0, slots := 0, locals := 96 }).room s m (List.toArray [.ref (ad p0), .int p1]) below meth c H locs 0 0 (MQ below (QR (some (.double r9)) (QB g ad n K S9 (dA ad n s.heap.size) (True)) (dA ad n s.heap.size)) (List.toArray [.ref (ad p0), .int p1]) s 0 0 (dA ad n s.heap.size)) (F0 m 21 ls []) := by
    intro fu21
    induction fu21 with
    | zero =>
      intro S0 v0 v1 v2 v4 tv0 H locs ls hf
      cases hf
    | succ fu21 ih21 =>
      have L85 : ∀ (S0 : St) (v0 : Nat) (v1 : Int32) (v2 : UInt64) (v4 : Int32) (tv0 : v0 < n ∧ K v0 = 9) (H : Heap) (locs : List Loc) (ls : Array Slot), f_X10_fairShare_L85 F (fun a0 a1 a2 a3 a4 => f_X10_fairShare_L21 F fu21 a0 a1 a2 a3 a4) S0 v0 v1 v2 v4 = some (.inr r9, S9) → Wb g ad n K S0 (dA ad n s.heap.size) H → va_S (dA ad n s.heap.size) s.heap H locs → lv_has ls 6 [(0, .ref (ad v0)), (1, .int v1), (2, .double (v2)), (4, .int v4)] → W p l e (headSpec wsX10_fairShare { frames := 4, cells := 0, slots := 0, locals := 96 }).room s m (List.toArray [.ref (ad p0), .int p1]) below meth c H locs 0 0 (MQ below (QR (some (.double r9)) (QB g ad n K S9 (dA ad n s.heap.size) (True)) (dA ad n s.heap.size)) (List.toArray [.ref (ad p0), .int p1]) s 0 0 (dA ad n s.heap.size)) (F0 m 85 ls []) := by
        intro S0 v0 v1 v2 v4 tv0 H locs ls hf hW hS hl
        unfold f_X10_fairShare_L85 at hf
        obtain ⟨x2, ex2⟩ : ∃ z : Int32, z = v4 + 1 := ⟨_, rfl⟩
        replace hf := ltE hf x2 ex2
        refine lv_iinc (v := x2) (lv' := [(4, .int x2), (0, .ref (ad v0)), (1, .int v1), (2, .double (v2))]) hx hb dX10_fairShare_85 hl (k := 3) rfl (by rw [ex2]; rfl) (by decide) rfl (fun ls hl => ?_)
        refine lv_goto (tgt := 21) hx hb dX10_fairShare_88 (by decide) ?_
        exact ih21 S0 v0 v1 v2 x2 tv0 _ _ _ hf hW hS (lv_sub hl [1, 2, 3, 0] rfl)
      intro S0 v0 v1 v2 v4 tv0 H locs ls hf hW hS hl
      unfold f_X10_fairShare_L21 at hf
      refine lv_iload hx hb dX10_fairShare_21 (lv_at hl 3 rfl) ?_
      refine lv_aload_n hx hb dX10_fairShare_23 rfl (lv_at hl 0 rfl) ?_
      replace hf := obE hf
      obtain ⟨j29, qj29, hf⟩ := hf
      have tj29 := x_rt hW qj29 12 ⟨by decide, rfl⟩
      refine x_getr 910 (ci := 9) (C := RX10) (T := TX10) (N := 11) 10 hC hinX10 hW tv0 rfl rfl ⟨by decide, by decide, rfl, rfl⟩ rfl w_0 dX10_fairShare_24 qj29 ?_
      refine x_alen hC hW tj29 rfl ⟨by decide, by decide⟩ dX10_fairShare_27 ?_
      refine lv_icmp_ge (tgt := 91) hx hb dX10_fairShare_28 (by decide) (fun c30 => ?_) (fun c30 => ?_)
      · replace hf := ifT c30 hf
        refine lv_dload_n hx hb dX10_fairShare_91 rfl (lv_at hl 2 rfl) ?_
        obtain ⟨e1, e2⟩ := so2 hf
        replace e1 := Sum.inr.inj e1; subst e1
        subst e2
        exact W.dret (v := v2) hx hb hr (fun t ht hWm => ⟨⟨rfl, by unfold QB; rw [ht]; exact ⟨hW, trivial⟩⟩, hS.F ht⟩) hS.2.2 dX10_fairShare_92 hlk
      · replace hf := ifF c30 hf
        refine lv_aload_n hx hb dX10_fairShare_31 rfl (lv_at hl 0 rfl) ?_
        replace hf := obE hf
        obtain ⟨j31, qj31, hf⟩ := hf
        have tj31 := x_rt hW qj31 12 ⟨by decide, rfl⟩
        refine x_getr 910 (ci := 9) (C := RX10) (T := TX10) (N := 11) 10 hC hinX10 hW tv0 rfl rfl ⟨by decide, by decide, rfl, rfl⟩ rfl w_0 dX10_fairShare_32 qj31 ?_
        refine lv_iload hx hb dX10_fairShare_35 (lv_at hl 3 rfl) ?_
        replace hf := ckiE hf
        obtain ⟨h32, hf⟩ := hf
        refine x_iald hC hW tj31 rfl rfl h32 dX10_fairShare_37 ?_
        replace hf := obE hf
        obtain ⟨z33, hz33, hf⟩ := hf
        obtain ⟨r35, S34⟩ := z33
        replace hf := ltE (ltE hf r35 rfl) S34 rfl
        refine x_callS (As := [.int (ai S0 j31 (Int32.toNatClampNeg v4))]) (rest := []) (o := (some (.int r35))) (S1 := S34) hC hl.1 hW hS hGs hA (c_J6_bitCount_0f7a4 l g ad n K H.size F S0 (ai S0 j31 (Int32.toNatClampNeg v4)) r35 S34 hz33) (va_cwS 1 hts gX10_fairShare_J6_bitCount_0f7a4 rfl rfl rfl (by decide +kernel) ⟨Nat.le_of_ble_eq_true rfl, Nat.le_of_ble_eq_true rfl⟩) rfl rfl (Nat.le_of_ble_eq_true rfl) dX10_fairShare_38 ⟨Nat.le_of_ble_eq_true rfl, Nat.le_of_ble_eq_true rfl⟩ (fun H locs hPz33 hW hS => ?_)
        refine W.eq (g2 := F0 m 41 ls [.int r35]) rfl ?_
        refine lv_istore (lv' := [(5, .int r35), (0, .ref (ad v0)), (1, .int v1), (2, .double (v2)), (4, .int v4)]) hx hb dX10_fairShare_41 hl (by decide) rfl (fun ls hl => ?_)
        refine lv_iload hx hb dX10_fairShare_43 (lv_at hl 0 rfl) ?_
        refine lv_if_le (tgt := 85) hx hb dX10_fairShare_45 (by decide) (fun c37 => ?_) (fun c37 => ?_)
        · replace hf := ifT c37 hf
          exact L85 S34 v0 v1 v2 v4 tv0 _ _ _ hf hW hS (lv_sub hl [1, 2, 3, 4] rfl)
        · replace hf := ifF c37 hf
          refine lv_aload_n hx hb dX10_fairShare_48 rfl (lv_at hl 1 rfl) ?_
          replace hf := obE hf
          obtain ⟨j38, qj38, hf⟩ := hf
          have tj38 := x_rt hW qj38 12 ⟨by decide, rfl⟩
          refine x_getr 910 (ci := 9) (C := RX10) (T := TX10) (N := 11) 10 hC hinX10 hW tv0 rfl rfl ⟨by decide, by decide, rfl, rfl⟩ rfl w_0 dX10_fairShare_49 qj38 ?_
          refine lv_iload hx hb dX10_fairShare_52 (lv_at hl 4 rfl) ?_
          replace hf := ckiE hf
          obtain ⟨h39, hf⟩ := hf
          refine x_iald hC hW tj38 rfl rfl h39 dX10_fairShare_54 ?_
          refine lv_iload_n hx hb dX10_fairShare_55 rfl (lv_at hl 2 rfl) ?_
          replace hf := obE hf
          obtain ⟨z40, hz40, hf⟩ := hf
          obtain ⟨r42, S41⟩ := z40
          replace hf := ltE (ltE hf r42 rfl) S41 rfl
          refine x_callS (As := [.int (ai S34 j38 (Int32.toNatClampNeg v4)), .int v1]) (rest := []) (o := (some (.int r42))) (S1 := S41) hC hl.1 hW hS hGs hA (c_X10_hasBit l g ad n K H.size F S34 (ai S34 j38 (Int32.toNatClampNeg v4)) v1 r42 S41 hz40) (va_cwS 2 hts gX10_fairShare_X10_hasBit rfl rfl rfl (by decide +kernel) ⟨Nat.le_of_ble_eq_true rfl, Nat.le_of_ble_eq_true rfl⟩) rfl rfl (Nat.le_of_ble_eq_true rfl) dX10_fairShare_56 ⟨Nat.le_of_ble_eq_true rfl, Nat.le_of_ble_eq_true rfl⟩ (fun H locs hPz40 hW hS => ?_)
          refine W.eq (g2 := F0 m 59 ls [.int r42]) rfl ?_
          refine lv_if_eq (tgt := 85) hx hb dX10_fairShare_59 (by decide) (fun c44 => ?_) (fun c44 => ?_)
          · replace hf := ifT c44 hf
            exact L85 S41 v0 v1 v2 v4 tv0 _ _ _ hf hW hS (lv_sub hl [1, 2, 3, 4] rfl)
          · replace hf := ifF c44 hf
            refine lv_dload_n hx hb dX10_fairShare_62 rfl (lv_at hl 3 rfl) ?_
            refine lv_aload_n hx hb dX10_fairShare_63 rfl (lv_at hl 1 rfl) ?_
            replace hf := obE hf
            obtain ⟨j45, qj45, hf⟩ := hf
            have tj45 := x_rt hW qj45 7 ⟨by decide, rfl⟩
            refine x_getr 905 (ci := 9) (C := RX10) (T := TX10) (N := 11) 5 hC hinX10 hW tv0 rfl rfl ⟨by decide, by decide, rfl, rfl⟩ rfl w_1 dX10_fairShare_64 qj45 ?_
            replace hf := obE hf
            obtain ⟨j46, qj46, hf⟩ := hf
            have tj46 := x_rt hW qj46 8 ⟨by decide, rfl⟩
            refine x_getrN 710 (ci := 7) (C := RX8) (T := TX8) (N := 16) 10 hC hinX8 hW tj45 rfl rfl ⟨by decide, by decide, rfl, rfl⟩ rfl w_2 dX10_fairShare_67 qj46 ?_
            refine lv_iload hx hb dX10_fairShare_70 (lv_at hl 4 rfl) ?_
            replace hf := obE hf
            obtain ⟨z47, hz47, hf⟩ := hf
            obtain ⟨r49, S48⟩ := z47
            replace hf := ltE (ltE hf r49 rfl) S48 rfl
            refine x_callV (As := [.int v4]) (rest := [.double (v2)]) (o := (some (va_re ad r49))) (S1 := S48) hC hl.1 hW hS hGs hA tj46 rfl (show vwCl[8]? = some (RX9, TX9, 8) ∧ ob 8 from ⟨rfl, by decide⟩) (c_X9_bytesOf l g ad n K H.size F S41 j46 v4 tj46 r49 S48 hz47) (cwV 1 hts gX10_fairShare_X9_bytesOf rfl rfl rfl (by decide +kernel) ⟨Nat.le_of_ble_eq_true rfl, Nat.le_of_ble_eq_true rfl⟩) rfl rfl (Nat.le_of_ble_eq_true rfl) dX10_fairShare_72 ⟨Nat.le_of_ble_eq_true rfl, Nat.le_of_ble_eq_true rfl⟩ (fun H locs hPz47 hW hS => ?_)
            replace hf := obE hf
            obtain ⟨j51, qj51, hf⟩ := hf
            have tj51 := hPz47 j51 qj51
            refine W.eq (g2 := F0 m 75 ls [.ref (ad j51), .double (v2)]) (by rw [qj51]; rfl) ?_
            refine x_getiN 1 (ci := 0) (C := RX0) (T := TX0) (N := 2) 1 hC hinX0 hW tj51 rfl rfl ⟨by decide, by decide, rfl, rfl⟩ rfl w_3 dX10_fairShare_75 ?_
            refine lv_i2d hx hb dX10_fairShare_78 ?_
            refine lv_iload hx hb dX10_fairShare_79 (lv_at hl 0 rfl) ?_
            refine lv_i2d hx hb dX10_fairShare_81 ?_
            replace hf := cknE hf
            obtain ⟨h52, hf⟩ := hf
            refine lv_ddiv hx hb dX10_fairShare_82 h52 ?_
            replace hf := cknE hf
            obtain ⟨h53, hf⟩ := hf
            refine lv_dadd hx hb dX10_fairShare_83 h53 ?_
            refine lv_topd (fun x54 ex54 => ?_)
            replace hf := ltE hf x54 ex54
            refine lv_dstore_n (lv' := [(2, .double (x54)), (5, .int r35), (0, .ref (ad v0)), (1, .int v1), (4, .int v4)]) hx hb dX10_fairShare_84 rfl hl (by decide) rfl (fun ls hl => ?_)
            exact L85 S48 v0 v1 x54 v4 tv0 _ _ _ hf hW hS (lv_sub hl [2, 3, 0, 4] rfl)
  unfold f_X10_fairShare at hf
  refine lv_aload_n hx hb dX10_fairShare_0 rfl (lv_at hl 0 rfl) ?_
  refine lv_iload_n hx hb dX10_fairShare_1 rfl (lv_at hl 1 rfl) ?_
  replace hf := obE hf
  obtain ⟨z55, hz55, hf⟩ := hf
  obtain ⟨oz55, S56⟩ := z55
  replace hf := ltE hf S56 rfl
  cases oz55 with
  | inl x =>
    replace hf := smL rfl hf
    exact nomatch (Prod.mk.inj (Option.some.inj hf)).1
  | inr r57 =>
    replace hf := smR rfl hf
    refine x_callV (As := [.int p1]) (rest := []) (o := none) (S1 := S56) (P := True) hC hl.1 hW hS hGs hA tp0 rfl (show vwCl[9]? = some (RX10, TX10, 11) ∧ ob 9 from ⟨rfl, by decide⟩) (c_X10_needUser l g ad n K s.heap.size F S0 p0 p1 tp0 r57 S56 hz55) (cwV 1 hts gX10_fairShare_X10_needUser rfl rfl rfl (by decide +kernel) ⟨Nat.le_of_ble_eq_true rfl, Nat.le_of_ble_eq_true rfl⟩) rfl rfl (Nat.le_of_ble_eq_true rfl) dX10_fairShare_2 ⟨Nat.le_of_ble_eq_true rfl, Nat.le_of_ble_eq_true rfl⟩ (fun H locs hPz55 hW hS => ?_)
    refine W.eq (g2 := F0 m 5 ls []) rfl ?_
    refine lv_aload_n hx hb dX10_fairShare_5 rfl (lv_at hl 0 rfl) ?_
    replace hf := obE hf
    obtain ⟨j59, qj59, hf⟩ := hf
    have tj59 := x_rt hW qj59 7 ⟨by decide, rfl⟩
    refine x_getr 905 (ci := 9) (C := RX10) (T := TX10) (N := 11) 5 hC hinX10 hW tp0 rfl rfl ⟨by decide, by decide, rfl, rfl⟩ rfl w_1 dX10_fairShare_6 qj59 ?_
    refine lv_aload_n hx hb dX10_fairShare_9 rfl (lv_at hl 0 rfl) ?_
    replace hf := obE hf
    obtain ⟨j60, qj60, hf⟩ := hf
    have tj60 := x_rt hW qj60 12 ⟨by decide, rfl⟩
    refine x_getr 910 (ci := 9) (C := RX10) (T := TX10) (N := 11) 10 hC hinX10 hW tp0 rfl rfl ⟨by decide, by decide, rfl, rfl⟩ rfl w_0 dX10_fairShare_10 qj60 ?_
    replace hf := obE hf
    obtain ⟨S62, hz61, hf⟩ := hf
    refine x_callV (As := [.ref (ad j60)]) (rest := []) (o := none) (S1 := S62) hC hl.1 hW hS hGs hA tj59 rfl (show vwCl[7]? = some (RX8, TX8, 16) ∧ ob 7 from ⟨rfl, by decide⟩) (c_X8_gatherReaders l g ad n K H.size F S56 j59 j60 tj59 tj60 S62 hz61) (cwV 1 hts gX10_fairShare_X8_gatherReaders rfl rfl rfl (by decide +kernel) ⟨Nat.le_of_ble_eq_true rfl, Nat.le_of_ble_eq_true rfl⟩) rfl rfl (Nat.le_of_ble_eq_true rfl) dX10_fairShare_13 ⟨Nat.le_of_ble_eq_true rfl, Nat.le_of_ble_eq_true rfl⟩ (fun H locs hPz61 hW hS => ?_)
    refine W.eq (g2 := F0 m 16 ls []) rfl ?_
    refine lv_dconst0 hx hb dX10_fairShare_16 ?_
    refine lv_topd (fun x65 ex65 => ?_)
    replace hf := ltE hf x65 ex65
    refine lv_dstore_n (lv' := [(2, .double (x65)), (0, .ref (ad p0)), (1, .int p1)]) hx hb dX10_fairShare_17 rfl hl (by decide) rfl (fun ls hl => ?_)
    refine lv_iconst (v := 0) hx hb dX10_fairShare_18 (by decide) ?_
    refine lv_istore (lv' := [(4, .int 0), (2, .double (x65)), (0, .ref (ad p0)), (1, .int p1)]) hx hb dX10_fairShare_19 hl (by decide) rfl (fun ls hl => ?_)
    exact L21 F S62 p0 p1 x65 0 tp0 _ _ _ hf hW hS (lv_sub hl [2, 3, 1, 0] rfl)
set_option maxHeartbeats 4000000 in
set_option maxRecDepth 100000 in
theorem c_X0_wholeWord (l : Launch) (g : GP) (ad : Nat → Nat) (n : Nat) (K : Nat → Nat) (sz F : Nat) (S0 : St) (p0 : Nat) (tp0 : p0 < n ∧ K p0 = 0) (r9 : Int64) (S9 : St) (hf : f_X0_wholeWord F S0 p0 = some (r9, S9)) : Met l yX0_wholeWord wsX0_wholeWord { frames := 1, cells := 0, slots := 0, locals := 22 } (va_Pc [.ref (ad p0)] (PB g ad n K S0 sz)) (QR (some (.long r9)) (QB g ad n K S9 (dA ad n sz) (True)) (dA ad n sz)) 0 0 (dA ad n sz) := by
  refine Met.ofW (cc := cX0_wholeWord) (maxL := 5) (ret := (some .long)) (by decide) rfl ?_
  intro p e s m args below meth c s₁ B hml hv
  obtain ⟨rfl, hsz, hW, hK, hGs⟩ := x_start hv
  subst hsz
  have hx := B.exec
  have hb := B.bytes
  have hr := B.returns
  have hts := atoms_spec (ws := wsX0_wholeWord) B.pre
  have hown : s.vm.findClass RX0 = some m.cls := findClass_of_methodNamed B.named
  have hlk := B.notSynchronized
  have hC : Cx g p s m _ c cX0_wholeWord RX0 wsX0_wholeWord 5 := ⟨hx, hb, hml, hown, hts, hK⟩
  have hA : ∀ q : Nat, s.heap.size ≤ q → dA ad n s.heap.size q := fun q h => Or.inr h
  have hS : va_S (dA ad n s.heap.size) s.heap s.heap [] := va_S.rf
  have hl := lv_entry ([.ref (ad p0)]) (n := 5) (Nat.le_of_ble_eq_true rfl)
  rw [lg_entry_eq]
  generalize (lg_sl ([.ref (ad p0)]) ++ List.replicate (5 - (lg_sl ([.ref (ad p0)])).length) Slot.unset).toArray = ls at hl ⊢
  have hl : lv_has ls 5 [(0, .ref (ad p0))] := hl
  have hinX0 : ∀ w ∈ wsX00, w ∈ wsX0_wholeWord := by decide +kernel
  have w_0 := hts (.fieldLink RX0 21 "MailSpool$Bytes" "size" "I") (by decide +kernel)
  have w_1 := hts (.constantLong RX0 45 (-1)) (by decide +kernel)
  have w_2 := va_Nw.use (A := (List.toArray [.ref (ad p0)])) rfl (hGs.1 (.methodLinkNest RX0 37 yX10_isLetter "MailSpool") (by decide +kernel))
  have w_3 := hts (.initialized RX10) (by decide +kernel)
  have w_4 := hts (.static yX10_isLetter) (by decide +kernel)
  have w_5 := va_Nw.use (A := (List.toArray [.ref (ad p0)])) rfl (hGs.1 (.methodLinkNest RX0 41 yX10_withLetter "MailSpool") (by decide +kernel))
  have w_6 := hts (.static yX10_withLetter) (by decide +kernel)
  have hGE := hGs.2.2.2.1
  have hGM := hGs.2.2.2.2
  have L4 : ∀ (fu4 : Nat) (S0 : St) (v0 : Nat) (v1 : Int64) (v3 : Int32) (tv0 : v0 < n ∧ K v0 = 0) (H : Heap) (locs : List Loc) (ls : Array Slot), f_X0_wholeWord_L4 F fu4 S0 v0 v1 v3 = some (r9, S9) → Wb g ad n K S0 (dA ad n s.heap.size) H → va_S (dA ad n s.heap.size) s.heap H locs → lv_has ls 5 [(0, .ref (ad v0)), (1, .long (v1)), (3, .int v3)] → W p l e (headSpec wsX0_wholeWord { frames := 1, cells := 0, slots := 0, locals := 22 }).room s m (List.toArray [.ref (ad p0)]) below meth c H locs 0 0 (MQ below (QR (some (.long r9)) (QB g ad n K S9 (dA ad n s.heap.size) (True)) (dA ad n s.heap.size)) (List.toArray [.ref (ad p0)]) s 0 0 (dA ad n s.heap.size)) (F0 m 4 ls []) := by
    intro fu4
    induction fu4 with
    | zero =>
      intro S0 v0 v1 v3 tv0 H locs ls hf
      cases hf
    | succ fu4 ih4 =>
      intro S0 v0 v1 v3 tv0 H locs ls hf hW hS hl
      unfold f_X0_wholeWord_L4 at hf
      refine lv_iload_n hx hb dX0_wholeWord_4 rfl (lv_at hl 2 rfl) ?_
      refine lv_aload_n hx hb dX0_wholeWord_5 rfl (lv_at hl 0 rfl) ?_
      refine x_geti 1 (ci := 0) (C := RX0) (T := TX0) (N := 2) 1 hC hinX0 hW tv0 rfl rfl ⟨by decide, by decide, rfl, rfl⟩ rfl w_0 dX0_wholeWord_6 ?_
      refine lv_icmp_ge (tgt := 42) hx hb dX0_wholeWord_9 (by decide) (fun c17 => ?_) (fun c17 => ?_)
      · replace hf := ifT c17 hf
        refine lv_lload_n hx hb dX0_wholeWord_42 rfl (lv_at hl 1 rfl) ?_
        refine lv_ldc2 (v := (-1)) hx hb hown w_1 dX0_wholeWord_43 ?_
        refine W.lcmp hx hb dX0_wholeWord_46 ?_
        refine lv_if_ne (tgt := 54) hx hb dX0_wholeWord_47 (by decide) (fun c18 => ?_) (fun c18 => ?_)
        · replace hf := ifT c18 hf
          refine lv_lload_n hx hb dX0_wholeWord_54 rfl (lv_at hl 1 rfl) ?_
          obtain ⟨e1, e2⟩ := so2 hf
          subst e1
          subst e2
          exact W.lret (v := v1) hx hb hr (fun t ht hWm => ⟨⟨rfl, by unfold QB; rw [ht]; exact ⟨hW, trivial⟩⟩, hS.F ht⟩) hS.2.2 dX0_wholeWord_55 hlk
        · replace hf := ifF (fun q => q c18) hf
          refine lv_lconst (v := 0) hx hb dX0_wholeWord_50 (by decide) ?_
          refine lv_goto (tgt := 55) hx hb dX0_wholeWord_51 (by decide) ?_
          obtain ⟨e1, e2⟩ := so2 hf
          subst e1
          subst e2
          exact W.lret (v := 0) hx hb hr (fun t ht hWm => ⟨⟨rfl, by unfold QB; rw [ht]; exact ⟨hW, trivial⟩⟩, hS.F ht⟩) hS.2.2 dX0_wholeWord_55 hlk
      · replace hf := ifF c17 hf
        refine lv_aload_n hx hb dX0_wholeWord_12 rfl (lv_at hl 0 rfl) ?_
        refine lv_iload_n hx hb dX0_wholeWord_13 rfl (lv_at hl 2 rfl) ?_
        replace hf := obE hf
        obtain ⟨z19, hz19, hf⟩ := hf
        obtain ⟨r21, S20⟩ := z19
        replace hf := ltE (ltE hf r21 rfl) S20 rfl
        refine x_callV (As := [.int v3]) (rest := []) (o := (some (.int r21))) (S1 := S20) hC hl.1 hW hS hGs hA tv0 rfl (show vwCl[0]? = some (RX0, TX0, 2) ∧ ob 0 from ⟨rfl, by decide⟩) (c_X0_byteAt l g ad n K H.size F S0 v0 v3 tv0 r21 S20 hz19) (cwV 1 hts gX0_wholeWord_X0_byteAt rfl rfl rfl (by decide +kernel) ⟨Nat.le_of_ble_eq_true rfl, Nat.le_of_ble_eq_true rfl⟩) rfl rfl (Nat.le_of_ble_eq_true rfl) dX0_wholeWord_14 ⟨Nat.le_of_ble_eq_true rfl, Nat.le_of_ble_eq_true rfl⟩ (fun H locs hPz19 hW hS => ?_)
        refine W.eq (g2 := F0 m 17 ls [.int r21]) rfl ?_
        refine lv_istore (lv' := [(4, .int r21), (0, .ref (ad v0)), (1, .long (v1)), (3, .int v3)]) hx hb dX0_wholeWord_17 hl (by decide) rfl (fun ls hl => ?_)
        refine lv_iload hx hb dX0_wholeWord_19 (lv_at hl 0 rfl) ?_
        replace hf := obE hf
        obtain ⟨z23, hz23, hf⟩ := hf
        obtain ⟨r25, S24⟩ := z23
        replace hf := ltE (ltE hf r25 rfl) S24 rfl
        refine x_callSN (As := [.int r21]) (rest := []) (o := (some (.int r25))) (S1 := S24) hC hl.1 hW hS hGs hA (c_X10_isLetter l g ad n K H.size F S20 r21 r25 S24 hz23) ⟨va_cnB 1 hts gX0_wholeWord_X10_isLetter_n37 rfl rfl rfl (va_Nw.of rfl w_2) w_3 (by decide +kernel) ⟨Nat.le_of_ble_eq_true rfl, Nat.le_of_ble_eq_true rfl⟩, w_4, trivial⟩ rfl rfl (Nat.le_of_ble_eq_true rfl) dX0_wholeWord_21 ⟨Nat.le_of_ble_eq_true rfl, Nat.le_of_ble_eq_true rfl⟩ (fun H locs hPz23 hW hS => ?_)
        refine W.eq (g2 := F0 m 24 ls [.int r25]) rfl ?_
        refine lv_if_ne (tgt := 29) hx hb dX0_wholeWord_24 (by decide) (fun c27 => ?_) (fun c27 => ?_)
        · replace hf := ifT c27 hf
          refine lv_lload_n hx hb dX0_wholeWord_29 rfl (lv_at hl 2 rfl) ?_
          refine lv_iload hx hb dX0_wholeWord_30 (lv_at hl 0 rfl) ?_
          replace hf := obE hf
          obtain ⟨z28, hz28, hf⟩ := hf
          obtain ⟨r30, S29⟩ := z28
          replace hf := ltE (ltE hf r30 rfl) S29 rfl
          refine x_callSN (As := [.long (v1), .int r21]) (rest := []) (o := (some (.long (r30)))) (S1 := S29) hC hl.1 hW hS hGs hA (c_X10_withLetter l g ad n K H.size F S24 v1 r21 r30 S29 hz28) ⟨va_cnB 2 hts gX0_wholeWord_X10_withLetter_n41 rfl rfl rfl (va_Nw.of rfl w_5) w_3 (by decide +kernel) ⟨Nat.le_of_ble_eq_true rfl, Nat.le_of_ble_eq_true rfl⟩, w_6, trivial⟩ rfl rfl (Nat.le_of_ble_eq_true rfl) dX0_wholeWord_32 ⟨Nat.le_of_ble_eq_true rfl, Nat.le_of_ble_eq_true rfl⟩ (fun H locs hPz28 hW hS => ?_)
          refine W.eq (g2 := F0 m 35 ls [.long (r30)]) rfl ?_
          refine lv_lstore_n (lv' := [(1, .long (r30)), (4, .int r21), (0, .ref (ad v0)), (3, .int v3)]) hx hb dX0_wholeWord_35 rfl hl (by decide) rfl (fun ls hl => ?_)
          obtain ⟨x32, ex32⟩ : ∃ z : Int32, z = v3 + 1 := ⟨_, rfl⟩
          replace hf := ltE hf x32 ex32
          refine lv_iinc (v := x32) (lv' := [(3, .int x32), (1, .long (r30)), (4, .int r21), (0, .ref (ad v0))]) hx hb dX0_wholeWord_36 hl (k := 3) rfl (by rw [ex32]; rfl) (by decide) rfl (fun ls hl => ?_)
          refine lv_goto (tgt := 4) hx hb dX0_wholeWord_39 (by decide) ?_
          exact ih4 S29 v0 r30 x32 tv0 _ _ _ hf hW hS (lv_sub hl [3, 1, 0] rfl)
        · replace hf := ifF (fun q => q c27) hf
          refine lv_lconst (v := 0) hx hb dX0_wholeWord_27 (by decide) ?_
          obtain ⟨e1, e2⟩ := so2 hf
          subst e1
          subst e2
          exact W.lret (v := 0) hx hb hr (fun t ht hWm => ⟨⟨rfl, by unfold QB; rw [ht]; exact ⟨hW, trivial⟩⟩, hS.F ht⟩) hS.2.2 dX0_wholeWord_28 hlk
  unfold f_X0_wholeWord at hf
  refine lv_lconst (v := 0) hx hb dX0_wholeWord_0 (by decide) ?_
  refine lv_lstore_n (lv' := [(1, .long (0)), (0, .ref (ad p0))]) hx hb dX0_wholeWord_1 rfl hl (by decide) rfl (fun ls hl => ?_)
  refine lv_iconst (v := 0) hx hb dX0_wholeWord_2 (by decide) ?_
  refine lv_istore_n (lv' := [(3, .int 0), (1, .long (0)), (0, .ref (ad p0))]) hx hb dX0_wholeWord_3 rfl hl (by decide) rfl (fun ls hl => ?_)
  exact L4 F S0 p0 0 0 tp0 _ _ _ hf hW hS (lv_sub hl [2, 1, 0] rfl)
set_option maxHeartbeats 4000000 in
set_option maxRecDepth 100000 in
theorem c_X8_liveWithWord (l : Launch) (g : GP) (ad : Nat → Nat) (n : Nat) (K : Nat → Nat) (sz F : Nat) (S0 : St) (p0 : Nat) (p1 : Int32) (p2 : Int64) (tp0 : p0 < n ∧ K p0 = 7) (r9 : Int32) (S9 : St) (hf : f_X8_liveWithWord F S0 p0 p1 p2 = some (r9, S9)) : Met l yX8_liveWithWord wsX8_liveWithWord { frames := 3, cells := 0, slots := 0, locals := 75 } (va_Pc [.ref (ad p0), .int p1, .long (p2)] (PB g ad n K S0 sz)) (QR (some (.int r9)) (QB g ad n K S9 (dA ad n sz) (True)) (dA ad n sz)) 0 0 (dA ad n sz) := by
  refine Met.ofW (cc := cX8_liveWithWord) (maxL := 6) (ret := (some .int)) (by decide) rfl ?_
  intro p e s m args below meth c s₁ B hml hv
  obtain ⟨rfl, hsz, hW, hK, hGs⟩ := x_start hv
  subst hsz
  have hx := B.exec
  have hb := B.bytes
  have hr := B.returns
  have hts := atoms_spec (ws := wsX8_liveWithWord) B.pre
  have hown : s.vm.findClass RX8 = some m.cls := findClass_of_methodNamed B.named
  have hlk := B.notSynchronized
  have hC : Cx g p s m _ c cX8_liveWithWord RX8 wsX8_liveWithWord 6 := ⟨hx, hb, hml, hown, hts, hK⟩
  have hA : ∀ q : Nat, s.heap.size ≤ q → dA ad n s.heap.size q := fun q h => Or.inr h
  have hS : va_S (dA ad n s.heap.size) s.heap s.heap [] := va_S.rf
  have hl := lv_entry ([.ref (ad p0), .int p1, .long (p2)]) (n := 6) (Nat.le_of_ble_eq_true rfl)
  rw [lg_entry_eq]
  generalize (lg_sl ([.ref (ad p0), .int p1, .long (p2)]) ++ List.replicate (6 - (lg_sl ([.ref (ad p0), .int p1, .long (p2)])).length) Slot.unset).toArray = ls at hl ⊢
  have hl : lv_has ls 6 [(0, .ref (ad p0)), (1, .int p1), (2, .long (p2))] := hl
  have hinX8 : ∀ w ∈ wsX80, w ∈ wsX8_liveWithWord := by decide +kernel
  have w_0 := hts (.fieldLink RX8 88 "MailSpool$Spool" "messageCount" "I") (by decide +kernel)
  have hGE := hGs.2.2.2.1
  have hGM := hGs.2.2.2.2
  have L6 : ∀ (fu6 : Nat) (S0 : St) (v0 : Nat) (v1 : Int32) (v2 : Int64) (v4 : Int32) (v5 : Int32) (tv0 : v0 < n ∧ K v0 = 7) (H : Heap) (locs : List Loc) (ls : Array Slot), f_X8_liveWithWord_L6 F fu6 S0 v0 v1 v2 v4 v5 = some (r9, S9) → Wb g ad n K S0 (dA ad n s.heap.size) H → va_S (dA ad n s.heap.size) s.heap H locs → lv_has ls 6 [(0, .ref (ad v0)), (1, .int v1), (2, .long (v2)), (4, .int v4), (5, .int v5)] → W p l e (headSpec wsX8_liveWithWord { frames := 3, cells := 0, slots := 0, locals := 75 }).room s m (List.toArray [.ref (ad p0), .int p1, .long (p2)]) below meth c H locs 0 0 (MQ below (QR (some (.int r9)) (QB g ad n K S9 (dA ad n s.heap.size) (True)) (dA ad n s.heap.size)) (List.toArray [.ref (ad p0), .int p1, .long (p2)]) s 0 0 (dA ad n s.heap.size)) (F0 m 6 ls []) := by
    intro fu6
    induction fu6 with
    | zero =>
      intro S0 v0 v1 v2 v4 v5 tv0 H locs ls hf
      cases hf
    | succ fu6 ih6 =>
      have L38 : ∀ (S0 : St) (v0 : Nat) (v1 : Int32) (v2 : Int64) (v4 : Int32) (v5 : Int32) (tv0 : v0 < n ∧ K v0 = 7) (H : Heap) (locs : List Loc) (ls : Array Slot), f_X8_liveWithWord_L38 F (fun a0 a1 a2 a3 a4 a5 => f_X8_liveWithWord_L6 F fu6 a0 a1 a2 a3 a4 a5) S0 v0 v1 v2 v4 v5 = some (r9, S9) → Wb g ad n K S0 (dA ad n s.heap.size) H → va_S (dA ad n s.heap.size) s.heap H locs → lv_has ls 6 [(0, .ref (ad v0)), (1, .int v1), (2, .long (v2)), (4, .int v4), (5, .int v5)] → W p l e (headSpec wsX8_liveWithWord { frames := 3, cells := 0, slots := 0, locals := 75 }).room s m (List.toArray [.ref (ad p0), .int p1, .long (p2)]) below meth c H locs 0 0 (MQ below (QR (some (.int r9)) (QB g ad n K S9 (dA ad n s.heap.size) (True)) (dA ad n s.heap.size)) (List.toArray [.ref (ad p0), .int p1, .long (p2)]) s 0 0 (dA ad n s.heap.size)) (F0 m 38 ls []) := by
        intro S0 v0 v1 v2 v4 v5 tv0 H locs ls hf hW hS hl
        unfold f_X8_liveWithWord_L38 at hf
        obtain ⟨x2, ex2⟩ : ∃ z : Int32, z = v5 + 1 := ⟨_, rfl⟩
        replace hf := ltE hf x2 ex2
        refine lv_iinc (v := x2) (lv' := [(5, .int x2), (0, .ref (ad v0)), (1, .int v1), (2, .long (v2)), (4, .int v4)]) hx hb dX8_liveWithWord_38 hl (k := 4) rfl (by rw [ex2]; rfl) (by decide) rfl (fun ls hl => ?_)
        refine lv_goto (tgt := 6) hx hb dX8_liveWithWord_41 (by decide) ?_
        exact ih6 S0 v0 v1 v2 v4 x2 tv0 _ _ _ hf hW hS (lv_sub hl [1, 2, 3, 4, 0] rfl)
      intro S0 v0 v1 v2 v4 v5 tv0 H locs ls hf hW hS hl
      unfold f_X8_liveWithWord_L6 at hf
      refine lv_iload hx hb dX8_liveWithWord_6 (lv_at hl 4 rfl) ?_
      refine lv_aload_n hx hb dX8_liveWithWord_8 rfl (lv_at hl 0 rfl) ?_
      refine x_geti 705 (ci := 7) (C := RX8) (T := TX8) (N := 16) 5 hC hinX8 hW tv0 rfl rfl ⟨by decide, by decide, rfl, rfl⟩ rfl w_0 dX8_liveWithWord_9 ?_
      refine lv_icmp_ge (tgt := 44) hx hb dX8_liveWithWord_12 (by decide) (fun c15 => ?_) (fun c15 => ?_)
      · replace hf := ifT c15 hf
        refine lv_iload hx hb dX8_liveWithWord_44 (lv_at hl 3 rfl) ?_
        obtain ⟨e1, e2⟩ := so2 hf
        subst e1
        subst e2
        exact W.iret (v := v4) hx hb hr (fun t ht hWm => ⟨⟨rfl, by unfold QB; rw [ht]; exact ⟨hW, trivial⟩⟩, hS.F ht⟩) hS.2.2 dX8_liveWithWord_46 hlk
      · replace hf := ifF c15 hf
        refine lv_aload_n hx hb dX8_liveWithWord_15 rfl (lv_at hl 0 rfl) ?_
        refine lv_iload hx hb dX8_liveWithWord_16 (lv_at hl 4 rfl) ?_
        refine lv_iload_n hx hb dX8_liveWithWord_18 rfl (lv_at hl 1 rfl) ?_
        replace hf := obE hf
        obtain ⟨z16, hz16, hf⟩ := hf
        obtain ⟨r18, S17⟩ := z16
        replace hf := ltE (ltE hf r18 rfl) S17 rfl
        refine x_callV (As := [.int v5, .int v1]) (rest := []) (o := (some (.int r18))) (S1 := S17) hC hl.1 hW hS hGs hA tv0 rfl (show vwCl[7]? = some (RX8, TX8, 16) ∧ ob 7 from ⟨rfl, by decide⟩) (c_X8_stateOf l g ad n K H.size F S0 v0 v5 v1 tv0 r18 S17 hz16) (cwV 2 hts gX8_liveWithWord_X8_stateOf rfl rfl rfl (by decide +kernel) ⟨Nat.le_of_ble_eq_true rfl, Nat.le_of_ble_eq_true rfl⟩) rfl rfl (Nat.le_of_ble_eq_true rfl) dX8_liveWithWord_19 ⟨Nat.le_of_ble_eq_true rfl, Nat.le_of_ble_eq_true rfl⟩ (fun H locs hPz16 hW hS => ?_)
        refine W.eq (g2 := F0 m 22 ls [.int r18]) rfl ?_
        refine lv_if_ne (tgt := 38) hx hb dX8_liveWithWord_22 (by decide) (fun c20 => ?_) (fun c20 => ?_)
        · replace hf := ifT c20 hf
          exact L38 S17 v0 v1 v2 v4 v5 tv0 _ _ _ hf hW hS (lv_sub hl [0, 1, 2, 3, 4] rfl)
        · replace hf := ifF (fun q => q c20) hf
          refine lv_aload_n hx hb dX8_liveWithWord_25 rfl (lv_at hl 0 rfl) ?_
          refine lv_iload hx hb dX8_liveWithWord_26 (lv_at hl 4 rfl) ?_
          refine lv_lload_n hx hb dX8_liveWithWord_28 rfl (lv_at hl 2 rfl) ?_
          replace hf := obE hf
          obtain ⟨z21, hz21, hf⟩ := hf
          obtain ⟨r23, S22⟩ := z21
          replace hf := ltE (ltE hf r23 rfl) S22 rfl
          refine x_callV (As := [.int v5, .long (v2)]) (rest := []) (o := (some (.int r23))) (S1 := S22) hC hl.1 hW hS hGs hA tv0 rfl (show vwCl[7]? = some (RX8, TX8, 16) ∧ ob 7 from ⟨rfl, by decide⟩) (c_X8_hasWord l g ad n K H.size F S17 v0 v5 v2 tv0 r23 S22 hz21) (cwV 2 hts gX8_liveWithWord_X8_hasWord rfl rfl rfl (by decide +kernel) ⟨Nat.le_of_ble_eq_true rfl, Nat.le_of_ble_eq_true rfl⟩) rfl rfl (Nat.le_of_ble_eq_true rfl) dX8_liveWithWord_29 ⟨Nat.le_of_ble_eq_true rfl, Nat.le_of_ble_eq_true rfl⟩ (fun H locs hPz21 hW hS => ?_)
          refine W.eq (g2 := F0 m 32 ls [.int r23]) rfl ?_
          refine lv_if_eq (tgt := 38) hx hb dX8_liveWithWord_32 (by decide) (fun c25 => ?_) (fun c25 => ?_)
          · replace hf := ifT c25 hf
            exact L38 S22 v0 v1 v2 v4 v5 tv0 _ _ _ hf hW hS (lv_sub hl [0, 1, 2, 3, 4] rfl)
          · replace hf := ifF c25 hf
            obtain ⟨x26, ex26⟩ : ∃ z : Int32, z = v4 + 1 := ⟨_, rfl⟩
            replace hf := ltE hf x26 ex26
            refine lv_iinc (v := x26) (lv' := [(4, .int x26), (0, .ref (ad v0)), (1, .int v1), (2, .long (v2)), (5, .int v5)]) hx hb dX8_liveWithWord_35 hl (k := 3) rfl (by rw [ex26]; rfl) (by decide) rfl (fun ls hl => ?_)
            exact L38 S22 v0 v1 v2 x26 v5 tv0 _ _ _ hf hW hS (lv_sub hl [1, 2, 3, 0, 4] rfl)
  unfold f_X8_liveWithWord at hf
  refine lv_iconst (v := 0) hx hb dX8_liveWithWord_0 (by decide) ?_
  refine lv_istore (lv' := [(4, .int 0), (0, .ref (ad p0)), (1, .int p1), (2, .long (p2))]) hx hb dX8_liveWithWord_1 hl (by decide) rfl (fun ls hl => ?_)
  refine lv_iconst (v := 0) hx hb dX8_liveWithWord_3 (by decide) ?_
  refine lv_istore (lv' := [(5, .int 0), (4, .int 0), (0, .ref (ad p0)), (1, .int p1), (2, .long (p2))]) hx hb dX8_liveWithWord_4 hl (by decide) rfl (fun ls hl => ?_)
  exact L6 F S0 p0 p1 p2 0 0 tp0 _ _ _ hf hW hS (lv_sub hl [2, 3, 4, 1, 0] rfl)
set_option maxHeartbeats 4000000 in
set_option maxRecDepth 100000 in
theorem c_X10_matches (l : Launch) (g : GP) (ad : Nat → Nat) (n : Nat) (K : Nat → Nat) (sz F : Nat) (S0 : St) (p0 : Nat) (p1 : Int32) (tp0 : p0 < n ∧ K p0 = 9) (r9 : Int32) (S9 : St) (hf : f_X10_matches F S0 p0 p1 = some (.inr r9, S9)) : Met l yX10_matches wsX10_matches { frames := 4, cells := 0, slots := 0, locals := 100 } (va_Pc [.ref (ad p0), .int p1] (PB g ad n K S0 sz)) (QR (some (.int r9)) (QB g ad n K S9 (dA ad n sz) (True)) (dA ad n sz)) 0 0 (dA ad n sz) := by
  refine Met.ofW (cc := cX10_matches) (maxL := 4) (ret := (some .int)) (by decide) rfl ?_
  intro p e s m args below meth c s₁ B hml hv
  obtain ⟨rfl, hsz, hW, hK, hGs⟩ := x_start hv
  subst hsz
  have hx := B.exec
  have hb := B.bytes
  have hr := B.returns
  have hts := atoms_spec (ws := wsX10_matches) B.pre
  have hown : s.vm.findClass RX10 = some m.cls := findClass_of_methodNamed B.named
  have hlk := B.notSynchronized
  have hC : Cx g p s m _ c cX10_matches RX10 wsX10_matches 4 := ⟨hx, hb, hml, hown, hts, hK⟩
  have hA : ∀ q : Nat, s.heap.size ≤ q → dA ad n s.heap.size q := fun q h => Or.inr h
  have hS : va_S (dA ad n s.heap.size) s.heap s.heap [] := va_S.rf
  have hl := lv_entry ([.ref (ad p0), .int p1]) (n := 4) (Nat.le_of_ble_eq_true rfl)
  rw [lg_entry_eq]
  generalize (lg_sl ([.ref (ad p0), .int p1]) ++ List.replicate (4 - (lg_sl ([.ref (ad p0), .int p1])).length) Slot.unset).toArray = ls at hl ⊢
  have hl : lv_has ls 4 [(0, .ref (ad p0)), (1, .int p1)] := hl
  have hinX10 : ∀ w ∈ wsX100, w ∈ wsX10_matches := by decide +kernel
  have w_0 := hts (.fieldLink RX10 17 "MailSpool" "input" "LMailSpool$Bytes;") (by decide +kernel)
  have w_1 := hts (.fieldLink RX10 42 "MailSpool" "now" "LMailSpool$Spool;") (by decide +kernel)
  have hGE := hGs.2.2.2.1
  have hGM := hGs.2.2.2.2
  unfold f_X10_matches at hf
  refine lv_aload_n hx hb dX10_matches_0 rfl (lv_at hl 0 rfl) ?_
  refine lv_iload_n hx hb dX10_matches_1 rfl (lv_at hl 1 rfl) ?_
  replace hf := obE hf
  obtain ⟨z1, hz1, hf⟩ := hf
  obtain ⟨oz1, S2⟩ := z1
  replace hf := ltE hf S2 rfl
  cases oz1 with
  | inl x =>
    replace hf := smL rfl hf
    exact nomatch (Prod.mk.inj (Option.some.inj hf)).1
  | inr r3 =>
    replace hf := smR rfl hf
    refine x_callV (As := [.int p1]) (rest := []) (o := none) (S1 := S2) (P := True) hC hl.1 hW hS hGs hA tp0 rfl (show vwCl[9]? = some (RX10, TX10, 11) ∧ ob 9 from ⟨rfl, by decide⟩) (c_X10_needUser l g ad n K s.heap.size F S0 p0 p1 tp0 r3 S2 hz1) (cwV 1 hts gX10_matches_X10_needUser rfl rfl rfl (by decide +kernel) ⟨Nat.le_of_ble_eq_true rfl, Nat.le_of_ble_eq_true rfl⟩) rfl rfl (Nat.le_of_ble_eq_true rfl) dX10_matches_2 ⟨Nat.le_of_ble_eq_true rfl, Nat.le_of_ble_eq_true rfl⟩ (fun H locs hPz1 hW hS => ?_)
    refine W.eq (g2 := F0 m 5 ls []) rfl ?_
    refine lv_aload_n hx hb dX10_matches_5 rfl (lv_at hl 0 rfl) ?_
    replace hf := obE hf
    obtain ⟨j5, qj5, hf⟩ := hf
    have tj5 := x_rt hW qj5 0 ⟨by decide, rfl⟩
    refine x_getr 900 (ci := 9) (C := RX10) (T := TX10) (N := 11) 0 hC hinX10 hW tp0 rfl rfl ⟨by decide, by decide, rfl, rfl⟩ rfl w_0 dX10_matches_6 qj5 ?_
    replace hf := obE hf
    obtain ⟨z6, hz6, hf⟩ := hf
    obtain ⟨r8, S7⟩ := z6
    replace hf := ltE (ltE hf r8 rfl) S7 rfl
    refine x_callV (As := []) (rest := []) (o := (some (.long (r8)))) (S1 := S7) hC hl.1 hW hS hGs hA tj5 rfl (show vwCl[0]? = some (RX0, TX0, 2) ∧ ob 0 from ⟨rfl, by decide⟩) (c_X0_wholeWord l g ad n K H.size F S2 j5 tj5 r8 S7 hz6) (cwV 0 hts gX10_matches_X0_wholeWord rfl rfl rfl (by decide +kernel) ⟨Nat.le_of_ble_eq_true rfl, Nat.le_of_ble_eq_true rfl⟩) rfl rfl (Nat.le_of_ble_eq_true rfl) dX10_matches_9 ⟨Nat.le_of_ble_eq_true rfl, Nat.le_of_ble_eq_true rfl⟩ (fun H locs hPz6 hW hS => ?_)
    refine W.eq (g2 := F0 m 12 ls [.long (r8)]) rfl ?_
    refine lv_lstore_n (lv' := [(2, .long (r8)), (0, .ref (ad p0)), (1, .int p1)]) hx hb dX10_matches_12 rfl hl (by decide) rfl (fun ls hl => ?_)
    refine lv_lload_n hx hb dX10_matches_13 rfl (lv_at hl 0 rfl) ?_
    refine lv_lconst (v := 0) hx hb dX10_matches_14 (by decide) ?_
    refine W.lcmp hx hb dX10_matches_15 ?_
    refine lv_if_ne (tgt := 30) hx hb dX10_matches_16 (by decide) (fun c10 => ?_) (fun c10 => ?_)
    · replace hf := ifT c10 hf
      refine lv_aload_n hx hb dX10_matches_30 rfl (lv_at hl 1 rfl) ?_
      replace hf := obE hf
      obtain ⟨j11, qj11, hf⟩ := hf
      have tj11 := x_rt hW qj11 0 ⟨by decide, rfl⟩
      refine x_getr 900 (ci := 9) (C := RX10) (T := TX10) (N := 11) 0 hC hinX10 hW tp0 rfl rfl ⟨by decide, by decide, rfl, rfl⟩ rfl w_0 dX10_matches_31 qj11 ?_
      refine lv_iconst (v := 0) hx hb dX10_matches_34 (by decide) ?_
      replace hf := obE hf
      obtain ⟨S13, hz12, hf⟩ := hf
      refine x_callV (As := [.int 0]) (rest := []) (o := none) (S1 := S13) hC hl.1 hW hS hGs hA tj11 rfl (show vwCl[0]? = some (RX0, TX0, 2) ∧ ob 0 from ⟨rfl, by decide⟩) (c_X0_cutTo l g ad n K H.size F S7 j11 ((0 : Int32)) tj11 S13 hz12) (cwV 1 hts gX10_matches_X0_cutTo rfl rfl rfl (by decide +kernel) ⟨Nat.le_of_ble_eq_true rfl, Nat.le_of_ble_eq_true rfl⟩) rfl rfl (Nat.le_of_ble_eq_true rfl) dX10_matches_35 ⟨Nat.le_of_ble_eq_true rfl, Nat.le_of_ble_eq_true rfl⟩ (fun H locs hPz12 hW hS => ?_)
      refine W.eq (g2 := F0 m 38 ls []) rfl ?_
      refine lv_aload_n hx hb dX10_matches_38 rfl (lv_at hl 1 rfl) ?_
      replace hf := obE hf
      obtain ⟨j16, qj16, hf⟩ := hf
      have tj16 := x_rt hW qj16 7 ⟨by decide, rfl⟩
      refine x_getr 905 (ci := 9) (C := RX10) (T := TX10) (N := 11) 5 hC hinX10 hW tp0 rfl rfl ⟨by decide, by decide, rfl, rfl⟩ rfl w_1 dX10_matches_39 qj16 ?_
      refine lv_iload_n hx hb dX10_matches_42 rfl (lv_at hl 2 rfl) ?_
      refine lv_lload_n hx hb dX10_matches_43 rfl (lv_at hl 0 rfl) ?_
      replace hf := obE hf
      obtain ⟨z17, hz17, hf⟩ := hf
      obtain ⟨r19, S18⟩ := z17
      replace hf := ltE (ltE hf r19 rfl) S18 rfl
      refine x_callV (As := [.int p1, .long (r8)]) (rest := []) (o := (some (.int r19))) (S1 := S18) hC hl.1 hW hS hGs hA tj16 rfl (show vwCl[7]? = some (RX8, TX8, 16) ∧ ob 7 from ⟨rfl, by decide⟩) (c_X8_liveWithWord l g ad n K H.size F S13 j16 p1 r8 tj16 r19 S18 hz17) (cwV 2 hts gX10_matches_X8_liveWithWord rfl rfl rfl (by decide +kernel) ⟨Nat.le_of_ble_eq_true rfl, Nat.le_of_ble_eq_true rfl⟩) rfl rfl (Nat.le_of_ble_eq_true rfl) dX10_matches_44 ⟨Nat.le_of_ble_eq_true rfl, Nat.le_of_ble_eq_true rfl⟩ (fun H locs hPz17 hW hS => ?_)
      refine W.eq (g2 := F0 m 47 ls [.int r19]) rfl ?_
      obtain ⟨e1, e2⟩ := so2 hf
      replace e1 := Sum.inr.inj e1; subst e1
      subst e2
      exact W.iret (v := r19) hx hb hr (fun t ht hWm => ⟨⟨rfl, by unfold QB; rw [ht]; exact ⟨hW, trivial⟩⟩, hS.F ht⟩) hS.2.2 dX10_matches_47 hlk
    · replace hf := ifF (fun q => q c10) hf
      exact nomatch (Prod.mk.inj (Option.some.inj hf)).1
set_option maxHeartbeats 4000000 in
set_option maxRecDepth 100000 in
theorem c_X10_commonBytes (l : Launch) (g : GP) (ad : Nat → Nat) (n : Nat) (K : Nat → Nat) (sz F : Nat) (S0 : St) (p0 : Nat) (p1 : Int32) (p2 : Int32) (tp0 : p0 < n ∧ K p0 = 9) (r9 : Int32) (S9 : St) (hf : f_X10_commonBytes F S0 p0 p1 p2 = some (.inr r9, S9)) : Met l yX10_commonBytes wsX10_commonBytes { frames := 4, cells := 0, slots := 0, locals := 96 } (va_Pc [.ref (ad p0), .int p1, .int p2] (PB g ad n K S0 sz)) (QR (some (.int r9)) (QB g ad n K S9 (dA ad n sz) (True)) (dA ad n sz)) 0 0 (dA ad n sz) := by
  refine Met.ofW (cc := cX10_commonBytes) (maxL := 5) (ret := (some .int)) (by decide) rfl ?_
  intro p e s m args below meth c s₁ B hml hv
  obtain ⟨rfl, hsz, hW, hK, hGs⟩ := x_start hv
  subst hsz
  have hx := B.exec
  have hb := B.bytes
  have hr := B.returns
  have hts := atoms_spec (ws := wsX10_commonBytes) B.pre
  have hown : s.vm.findClass RX10 = some m.cls := findClass_of_methodNamed B.named
  have hlk := B.notSynchronized
  have hC : Cx g p s m _ c cX10_commonBytes RX10 wsX10_commonBytes 5 := ⟨hx, hb, hml, hown, hts, hK⟩
  have hA : ∀ q : Nat, s.heap.size ≤ q → dA ad n s.heap.size q := fun q h => Or.inr h
  have hS : va_S (dA ad n s.heap.size) s.heap s.heap [] := va_S.rf
  have hl := lv_entry ([.ref (ad p0), .int p1, .int p2]) (n := 5) (Nat.le_of_ble_eq_true rfl)
  rw [lg_entry_eq]
  generalize (lg_sl ([.ref (ad p0), .int p1, .int p2]) ++ List.replicate (5 - (lg_sl ([.ref (ad p0), .int p1, .int p2])).length) Slot.unset).toArray = ls at hl ⊢
  have hl : lv_has ls 5 [(0, .ref (ad p0)), (1, .int p1), (2, .int p2)] := hl
  have hinX0 : ∀ w ∈ wsX00, w ∈ wsX10_commonBytes := by decide +kernel
  have hinX10 : ∀ w ∈ wsX100, w ∈ wsX10_commonBytes := by decide +kernel
  have hinX8 : ∀ w ∈ wsX80, w ∈ wsX10_commonBytes := by decide +kernel
  have w_0 := hts (.fieldLink RX10 53 "MailSpool" "partReaders" "[I") (by decide +kernel)
  have w_1 := hts (.fieldLink RX10 42 "MailSpool" "now" "LMailSpool$Spool;") (by decide +kernel)
  have w_2 := va_Nw.use (A := (List.toArray [.ref (ad p0), .int p1, .int p2])) rfl (hGs.1 (.fieldLinkNest RX10 186 "MailSpool$Spool" "store" "LMailSpool$Store;" "MailSpool") (by decide +kernel))
  have w_3 := va_Nw.use (A := (List.toArray [.ref (ad p0), .int p1, .int p2])) rfl (hGs.1 (.fieldLinkNest RX10 57 "MailSpool$Bytes" "size" "I" "MailSpool") (by decide +kernel))
  have hGE := hGs.2.2.2.1
  have hGM := hGs.2.2.2.2
  have L26 : ∀ (fu26 : Nat) (S0 : St) (v0 : Nat) (v1 : Int32) (v2 : Int32) (v3 : Int32) (v4 : Int32) (tv0 : v0 < n ∧ K v0 = 9) (H : Heap) (locs : List Loc) (ls : Array Slot), f_X10_commonBytes_L26 F fu26 S0 v0 v1 v2 v3 v4 = some (.inr r9, S9) → Wb g ad n K S0 (dA ad n s.heap.size) H → va_S (dA ad n s.heap.size) s.heap H locs → lv_has ls 5 [(0, .ref (ad v0)), (1, .int v1), (2, .int v2), (3, .int v3), (4, .int v4)] → W p l e (headSpec wsX10_commonBytes { frames := 4, cells := 0, slots := 0, locals := 96 }).room s m (List.toArray [.ref (ad p0), .int p1, .int p2]) below meth c H locs 0 0 (MQ below (QR (some (.int r9)) (QB g ad n K S9 (dA ad n s.heap.size) (True)) (dA ad n s.heap.size)) (List.toArray [.ref (ad p0), .int p1, .int p2]) s 0 0 (dA ad n s.heap.size)) (F0 m 26 ls []) := by
    intro fu26
    induction fu26 with
    | zero =>
      intro S0 v0 v1 v2 v3 v4 tv0 H locs ls hf
      cases hf
    | succ fu26 ih26 =>
      have L82 : ∀ (S0 : St) (v0 : Nat) (v1 : Int32) (v2 : Int32) (v3 : Int32) (v4 : Int32) (tv0 : v0 < n ∧ K v0 = 9) (H : Heap) (locs : List Loc) (ls : Array Slot), f_X10_commonBytes_L82 F (fun a0 a1 a2 a3 a4 a5 => f_X10_commonBytes_L26 F fu26 a0 a1 a2 a3 a4 a5) S0 v0 v1 v2 v3 v4 = some (.inr r9, S9) → Wb g ad n K S0 (dA ad n s.heap.size) H → va_S (dA ad n s.heap.size) s.heap H locs → lv_has ls 5 [(0, .ref (ad v0)), (1, .int v1), (2, .int v2), (3, .int v3), (4, .int v4)] → W p l e (headSpec wsX10_commonBytes { frames := 4, cells := 0, slots := 0, locals := 96 }).room s m (List.toArray [.ref (ad p0), .int p1, .int p2]) below meth c H locs 0 0 (MQ below (QR (some (.int r9)) (QB g ad n K S9 (dA ad n s.heap.size) (True)) (dA ad n s.heap.size)) (List.toArray [.ref (ad p0), .int p1, .int p2]) s 0 0 (dA ad n s.heap.size)) (F0 m 82 ls []) := by
        intro S0 v0 v1 v2 v3 v4 tv0 H locs ls hf hW hS hl
        unfold f_X10_commonBytes_L82 at hf
        obtain ⟨x2, ex2⟩ : ∃ z : Int32, z = v4 + 1 := ⟨_, rfl⟩
        replace hf := ltE hf x2 ex2
        refine lv_iinc (v := x2) (lv' := [(4, .int x2), (0, .ref (ad v0)), (1, .int v1), (2, .int v2), (3, .int v3)]) hx hb dX10_commonBytes_82 hl (k := 4) rfl (by rw [ex2]; rfl) (by decide) rfl (fun ls hl => ?_)
        refine lv_goto (tgt := 26) hx hb dX10_commonBytes_85 (by decide) ?_
        exact ih26 S0 v0 v1 v2 v3 x2 tv0 _ _ _ hf hW hS (lv_sub hl [1, 2, 3, 4, 0] rfl)
      intro S0 v0 v1 v2 v3 v4 tv0 H locs ls hf hW hS hl
      unfold f_X10_commonBytes_L26 at hf
      refine lv_iload hx hb dX10_commonBytes_26 (lv_at hl 4 rfl) ?_
      refine lv_aload_n hx hb dX10_commonBytes_28 rfl (lv_at hl 0 rfl) ?_
      replace hf := obE hf
      obtain ⟨j27, qj27, hf⟩ := hf
      have tj27 := x_rt hW qj27 12 ⟨by decide, rfl⟩
      refine x_getr 910 (ci := 9) (C := RX10) (T := TX10) (N := 11) 10 hC hinX10 hW tv0 rfl rfl ⟨by decide, by decide, rfl, rfl⟩ rfl w_0 dX10_commonBytes_29 qj27 ?_
      refine x_alen hC hW tj27 rfl ⟨by decide, by decide⟩ dX10_commonBytes_32 ?_
      refine lv_icmp_ge (tgt := 88) hx hb dX10_commonBytes_33 (by decide) (fun c28 => ?_) (fun c28 => ?_)
      · replace hf := ifT c28 hf
        refine lv_iload_n hx hb dX10_commonBytes_88 rfl (lv_at hl 3 rfl) ?_
        obtain ⟨e1, e2⟩ := so2 hf
        replace e1 := Sum.inr.inj e1; subst e1
        subst e2
        exact W.iret (v := v3) hx hb hr (fun t ht hWm => ⟨⟨rfl, by unfold QB; rw [ht]; exact ⟨hW, trivial⟩⟩, hS.F ht⟩) hS.2.2 dX10_commonBytes_89 hlk
      · replace hf := ifF c28 hf
        refine lv_aload_n hx hb dX10_commonBytes_36 rfl (lv_at hl 0 rfl) ?_
        replace hf := obE hf
        obtain ⟨j29, qj29, hf⟩ := hf
        have tj29 := x_rt hW qj29 12 ⟨by decide, rfl⟩
        refine x_getr 910 (ci := 9) (C := RX10) (T := TX10) (N := 11) 10 hC hinX10 hW tv0 rfl rfl ⟨by decide, by decide, rfl, rfl⟩ rfl w_0 dX10_commonBytes_37 qj29 ?_
        refine lv_iload hx hb dX10_commonBytes_40 (lv_at hl 4 rfl) ?_
        replace hf := ckiE hf
        obtain ⟨h30, hf⟩ := hf
        refine x_iald hC hW tj29 rfl rfl h30 dX10_commonBytes_42 ?_
        refine lv_iload_n hx hb dX10_commonBytes_43 rfl (lv_at hl 1 rfl) ?_
        replace hf := obE hf
        obtain ⟨z31, hz31, hf⟩ := hf
        obtain ⟨r33, S32⟩ := z31
        replace hf := ltE (ltE hf r33 rfl) S32 rfl
        refine x_callS (As := [.int (ai S0 j29 (Int32.toNatClampNeg v4)), .int v1]) (rest := []) (o := (some (.int r33))) (S1 := S32) hC hl.1 hW hS hGs hA (c_X10_hasBit l g ad n K H.size F S0 (ai S0 j29 (Int32.toNatClampNeg v4)) v1 r33 S32 hz31) (va_cwS 2 hts gX10_commonBytes_X10_hasBit rfl rfl rfl (by decide +kernel) ⟨Nat.le_of_ble_eq_true rfl, Nat.le_of_ble_eq_true rfl⟩) rfl rfl (Nat.le_of_ble_eq_true rfl) dX10_commonBytes_44 ⟨Nat.le_of_ble_eq_true rfl, Nat.le_of_ble_eq_true rfl⟩ (fun H locs hPz31 hW hS => ?_)
        refine W.eq (g2 := F0 m 47 ls [.int r33]) rfl ?_
        refine lv_if_eq (tgt := 82) hx hb dX10_commonBytes_47 (by decide) (fun c35 => ?_) (fun c35 => ?_)
        · replace hf := ifT c35 hf
          exact L82 S32 v0 v1 v2 v3 v4 tv0 _ _ _ hf hW hS (lv_sub hl [0, 1, 2, 3, 4] rfl)
        · replace hf := ifF c35 hf
          refine lv_aload_n hx hb dX10_commonBytes_50 rfl (lv_at hl 0 rfl) ?_
          replace hf := obE hf
          obtain ⟨j36, qj36, hf⟩ := hf
          have tj36 := x_rt hW qj36 12 ⟨by decide, rfl⟩
          refine x_getr 910 (ci := 9) (C := RX10) (T := TX10) (N := 11) 10 hC hinX10 hW tv0 rfl rfl ⟨by decide, by decide, rfl, rfl⟩ rfl w_0 dX10_commonBytes_51 qj36 ?_
          refine lv_iload hx hb dX10_commonBytes_54 (lv_at hl 4 rfl) ?_
          replace hf := ckiE hf
          obtain ⟨h37, hf⟩ := hf
          refine x_iald hC hW tj36 rfl rfl h37 dX10_commonBytes_56 ?_
          refine lv_iload_n hx hb dX10_commonBytes_57 rfl (lv_at hl 2 rfl) ?_
          replace hf := obE hf
          obtain ⟨z38, hz38, hf⟩ := hf
          obtain ⟨r40, S39⟩ := z38
          replace hf := ltE (ltE hf r40 rfl) S39 rfl
          refine x_callS (As := [.int (ai S32 j36 (Int32.toNatClampNeg v4)), .int v2]) (rest := []) (o := (some (.int r40))) (S1 := S39) hC hl.1 hW hS hGs hA (c_X10_hasBit l g ad n K H.size F S32 (ai S32 j36 (Int32.toNatClampNeg v4)) v2 r40 S39 hz38) (va_cwS 2 hts gX10_commonBytes_X10_hasBit rfl rfl rfl (by decide +kernel) ⟨Nat.le_of_ble_eq_true rfl, Nat.le_of_ble_eq_true rfl⟩) rfl rfl (Nat.le_of_ble_eq_true rfl) dX10_commonBytes_58 ⟨Nat.le_of_ble_eq_true rfl, Nat.le_of_ble_eq_true rfl⟩ (fun H locs hPz38 hW hS => ?_)
          refine W.eq (g2 := F0 m 61 ls [.int r40]) rfl ?_
          refine lv_if_eq (tgt := 82) hx hb dX10_commonBytes_61 (by decide) (fun c42 => ?_) (fun c42 => ?_)
          · replace hf := ifT c42 hf
            exact L82 S39 v0 v1 v2 v3 v4 tv0 _ _ _ hf hW hS (lv_sub hl [0, 1, 2, 3, 4] rfl)
          · replace hf := ifF c42 hf
            refine lv_iload_n hx hb dX10_commonBytes_64 rfl (lv_at hl 3 rfl) ?_
            refine lv_aload_n hx hb dX10_commonBytes_65 rfl (lv_at hl 0 rfl) ?_
            replace hf := obE hf
            obtain ⟨j43, qj43, hf⟩ := hf
            have tj43 := x_rt hW qj43 7 ⟨by decide, rfl⟩
            refine x_getr 905 (ci := 9) (C := RX10) (T := TX10) (N := 11) 5 hC hinX10 hW tv0 rfl rfl ⟨by decide, by decide, rfl, rfl⟩ rfl w_1 dX10_commonBytes_66 qj43 ?_
            replace hf := obE hf
            obtain ⟨j44, qj44, hf⟩ := hf
            have tj44 := x_rt hW qj44 8 ⟨by decide, rfl⟩
            refine x_getrN 710 (ci := 7) (C := RX8) (T := TX8) (N := 16) 10 hC hinX8 hW tj43 rfl rfl ⟨by decide, by decide, rfl, rfl⟩ rfl w_2 dX10_commonBytes_69 qj44 ?_
            refine lv_iload hx hb dX10_commonBytes_72 (lv_at hl 4 rfl) ?_
            replace hf := obE hf
            obtain ⟨z45, hz45, hf⟩ := hf
            obtain ⟨r47, S46⟩ := z45
            replace hf := ltE (ltE hf r47 rfl) S46 rfl
            refine x_callV (As := [.int v4]) (rest := [.int v3]) (o := (some (va_re ad r47))) (S1 := S46) hC hl.1 hW hS hGs hA tj44 rfl (show vwCl[8]? = some (RX9, TX9, 8) ∧ ob 8 from ⟨rfl, by decide⟩) (c_X9_bytesOf l g ad n K H.size F S39 j44 v4 tj44 r47 S46 hz45) (cwV 1 hts gX10_commonBytes_X9_bytesOf rfl rfl rfl (by decide +kernel) ⟨Nat.le_of_ble_eq_true rfl, Nat.le_of_ble_eq_true rfl⟩) rfl rfl (Nat.le_of_ble_eq_true rfl) dX10_commonBytes_74 ⟨Nat.le_of_ble_eq_true rfl, Nat.le_of_ble_eq_true rfl⟩ (fun H locs hPz45 hW hS => ?_)
            replace hf := obE hf
            obtain ⟨j49, qj49, hf⟩ := hf
            have tj49 := hPz45 j49 qj49
            refine W.eq (g2 := F0 m 77 ls [.ref (ad j49), .int v3]) (by rw [qj49]; rfl) ?_
            refine x_getiN 1 (ci := 0) (C := RX0) (T := TX0) (N := 2) 1 hC hinX0 hW tj49 rfl rfl ⟨by decide, by decide, rfl, rfl⟩ rfl w_3 dX10_commonBytes_77 ?_
            refine lv_iadd hx hb dX10_commonBytes_80 ?_
            refine lv_topi (fun x50 ex50 => ?_)
            replace hf := ltE hf x50 ex50
            refine lv_istore_n (lv' := [(3, .int x50), (0, .ref (ad v0)), (1, .int v1), (2, .int v2), (4, .int v4)]) hx hb dX10_commonBytes_81 rfl hl (by decide) rfl (fun ls hl => ?_)
            exact L82 S46 v0 v1 v2 x50 v4 tv0 _ _ _ hf hW hS (lv_sub hl [1, 2, 3, 0, 4] rfl)
  unfold f_X10_commonBytes at hf
  refine lv_aload_n hx hb dX10_commonBytes_0 rfl (lv_at hl 0 rfl) ?_
  refine lv_iload_n hx hb dX10_commonBytes_1 rfl (lv_at hl 1 rfl) ?_
  replace hf := obE hf
  obtain ⟨z51, hz51, hf⟩ := hf
  obtain ⟨oz51, S52⟩ := z51
  replace hf := ltE hf S52 rfl
  cases oz51 with
  | inl x =>
    replace hf := smL rfl hf
    exact nomatch (Prod.mk.inj (Option.some.inj hf)).1
  | inr r53 =>
    replace hf := smR rfl hf
    refine x_callV (As := [.int p1]) (rest := []) (o := none) (S1 := S52) (P := True) hC hl.1 hW hS hGs hA tp0 rfl (show vwCl[9]? = some (RX10, TX10, 11) ∧ ob 9 from ⟨rfl, by decide⟩) (c_X10_needUser l g ad n K s.heap.size F S0 p0 p1 tp0 r53 S52 hz51) (cwV 1 hts gX10_commonBytes_X10_needUser rfl rfl rfl (by decide +kernel) ⟨Nat.le_of_ble_eq_true rfl, Nat.le_of_ble_eq_true rfl⟩) rfl rfl (Nat.le_of_ble_eq_true rfl) dX10_commonBytes_2 ⟨Nat.le_of_ble_eq_true rfl, Nat.le_of_ble_eq_true rfl⟩ (fun H locs hPz51 hW hS => ?_)
    refine W.eq (g2 := F0 m 5 ls []) rfl ?_
    refine lv_aload_n hx hb dX10_commonBytes_5 rfl (lv_at hl 0 rfl) ?_
    refine lv_iload_n hx hb dX10_commonBytes_6 rfl (lv_at hl 2 rfl) ?_
    replace hf := obE hf
    obtain ⟨z55, hz55, hf⟩ := hf
    obtain ⟨oz55, S56⟩ := z55
    replace hf := ltE hf S56 rfl
    cases oz55 with
    | inl x =>
      replace hf := smL rfl hf
      exact nomatch (Prod.mk.inj (Option.some.inj hf)).1
    | inr r57 =>
      replace hf := smR rfl hf
      refine x_callV (As := [.int p2]) (rest := []) (o := none) (S1 := S56) (P := True) hC hl.1 hW hS hGs hA tp0 rfl (show vwCl[9]? = some (RX10, TX10, 11) ∧ ob 9 from ⟨rfl, by decide⟩) (c_X10_needUser l g ad n K H.size F S52 p0 p2 tp0 r57 S56 hz55) (cwV 1 hts gX10_commonBytes_X10_needUser rfl rfl rfl (by decide +kernel) ⟨Nat.le_of_ble_eq_true rfl, Nat.le_of_ble_eq_true rfl⟩) rfl rfl (Nat.le_of_ble_eq_true rfl) dX10_commonBytes_7 ⟨Nat.le_of_ble_eq_true rfl, Nat.le_of_ble_eq_true rfl⟩ (fun H locs hPz55 hW hS => ?_)
      refine W.eq (g2 := F0 m 10 ls []) rfl ?_
      refine lv_aload_n hx hb dX10_commonBytes_10 rfl (lv_at hl 0 rfl) ?_
      replace hf := obE hf
      obtain ⟨j59, qj59, hf⟩ := hf
      have tj59 := x_rt hW qj59 7 ⟨by decide, rfl⟩
      refine x_getr 905 (ci := 9) (C := RX10) (T := TX10) (N := 11) 5 hC hinX10 hW tp0 rfl rfl ⟨by decide, by decide, rfl, rfl⟩ rfl w_1 dX10_commonBytes_11 qj59 ?_
      refine lv_aload_n hx hb dX10_commonBytes_14 rfl (lv_at hl 0 rfl) ?_
      replace hf := obE hf
      obtain ⟨j60, qj60, hf⟩ := hf
      have tj60 := x_rt hW qj60 12 ⟨by decide, rfl⟩
      refine x_getr 910 (ci := 9) (C := RX10) (T := TX10) (N := 11) 10 hC hinX10 hW tp0 rfl rfl ⟨by decide, by decide, rfl, rfl⟩ rfl w_0 dX10_commonBytes_15 qj60 ?_
      replace hf := obE hf
      obtain ⟨S62, hz61, hf⟩ := hf
      refine x_callV (As := [.ref (ad j60)]) (rest := []) (o := none) (S1 := S62) hC hl.1 hW hS hGs hA tj59 rfl (show vwCl[7]? = some (RX8, TX8, 16) ∧ ob 7 from ⟨rfl, by decide⟩) (c_X8_gatherReaders l g ad n K H.size F S56 j59 j60 tj59 tj60 S62 hz61) (cwV 1 hts gX10_commonBytes_X8_gatherReaders rfl rfl rfl (by decide +kernel) ⟨Nat.le_of_ble_eq_true rfl, Nat.le_of_ble_eq_true rfl⟩) rfl rfl (Nat.le_of_ble_eq_true rfl) dX10_commonBytes_18 ⟨Nat.le_of_ble_eq_true rfl, Nat.le_of_ble_eq_true rfl⟩ (fun H locs hPz61 hW hS => ?_)
      refine W.eq (g2 := F0 m 21 ls []) rfl ?_
      refine lv_iconst (v := 0) hx hb dX10_commonBytes_21 (by decide) ?_
      refine lv_istore_n (lv' := [(3, .int 0), (0, .ref (ad p0)), (1, .int p1), (2, .int p2)]) hx hb dX10_commonBytes_22 rfl hl (by decide) rfl (fun ls hl => ?_)
      refine lv_iconst (v := 0) hx hb dX10_commonBytes_23 (by decide) ?_
      refine lv_istore (lv' := [(4, .int 0), (3, .int 0), (0, .ref (ad p0)), (1, .int p1), (2, .int p2)]) hx hb dX10_commonBytes_24 hl (by decide) rfl (fun ls hl => ?_)
      exact L26 F S62 p0 p1 p2 0 0 tp0 _ _ _ hf hW hS (lv_sub hl [2, 3, 4, 1, 0] rfl)
set_option maxHeartbeats 4000000 in
set_option maxRecDepth 100000 in
theorem c_X10_eventCount (l : Launch) (g : GP) (ad : Nat → Nat) (n : Nat) (K : Nat → Nat) (sz F : Nat) (S0 : St) (p0 : Nat) (tp0 : p0 < n ∧ K p0 = 9) (r9 : Int32) (S9 : St) (hf : f_X10_eventCount F S0 p0 = some (r9, S9)) : Met l yX10_eventCount wsX10_eventCount { frames := 0, cells := 0, slots := 0, locals := 0 } (va_Pc [.ref (ad p0)] (PB g ad n K S0 sz)) (QR (some (.int r9)) (QB g ad n K S9 (dA ad n sz) (True)) (dA ad n sz)) 0 0 (dA ad n sz) := by
  refine Met.ofW (cc := cX10_eventCount) (maxL := 1) (ret := (some .int)) (by decide) rfl ?_
  intro p e s m args below meth c s₁ B hml hv
  obtain ⟨rfl, hsz, hW, hK, hGs⟩ := x_start hv
  subst hsz
  have hx := B.exec
  have hb := B.bytes
  have hr := B.returns
  have hts := atoms_spec (ws := wsX10_eventCount) B.pre
  have hown : s.vm.findClass RX10 = some m.cls := findClass_of_methodNamed B.named
  have hlk := B.notSynchronized
  have hC : Cx g p s m _ c cX10_eventCount RX10 wsX10_eventCount 1 := ⟨hx, hb, hml, hown, hts, hK⟩
  have hA : ∀ q : Nat, s.heap.size ≤ q → dA ad n s.heap.size q := fun q h => Or.inr h
  have hS : va_S (dA ad n s.heap.size) s.heap s.heap [] := va_S.rf
  have hl := lv_entry ([.ref (ad p0)]) (n := 1) (Nat.le_of_ble_eq_true rfl)
  rw [lg_entry_eq]
  generalize (lg_sl ([.ref (ad p0)]) ++ List.replicate (1 - (lg_sl ([.ref (ad p0)])).length) Slot.unset).toArray = ls at hl ⊢
  have hl : lv_has ls 1 [(0, .ref (ad p0))] := hl
  have hinX10 : ∀ w ∈ wsX100, w ∈ wsX10_eventCount := by decide +kernel
  have hinX2 : ∀ w ∈ wsX20, w ∈ wsX10_eventCount := by decide +kernel
  have hinX8 : ∀ w ∈ wsX80, w ∈ wsX10_eventCount := by decide +kernel
  have w_0 := hts (.fieldLink RX10 42 "MailSpool" "now" "LMailSpool$Spool;") (by decide +kernel)
  have w_1 := va_Nw.use (A := (List.toArray [.ref (ad p0)])) rfl (hGs.1 (.fieldLinkNest RX10 388 "MailSpool$Spool" "journal" "LMailSpool$Journal;" "MailSpool") (by decide +kernel))
  have w_2 := va_Nw.use (A := (List.toArray [.ref (ad p0)])) rfl (hGs.1 (.fieldLinkNest RX10 392 "MailSpool$Journal" "size" "I" "MailSpool") (by decide +kernel))
  have hGE := hGs.2.2.2.1
  have hGM := hGs.2.2.2.2
  unfold f_X10_eventCount at hf
  refine lv_aload_n hx hb dX10_eventCount_0 rfl (lv_at hl 0 rfl) ?_
  replace hf := obE hf
  obtain ⟨j1, qj1, hf⟩ := hf
  have tj1 := x_rt hW qj1 7 ⟨by decide, rfl⟩
  refine x_getr 905 (ci := 9) (C := RX10) (T := TX10) (N := 11) 5 hC hinX10 hW tp0 rfl rfl ⟨by decide, by decide, rfl, rfl⟩ rfl w_0 dX10_eventCount_1 qj1 ?_
  replace hf := obE hf
  obtain ⟨j2, qj2, hf⟩ := hf
  have tj2 := x_rt hW qj2 2 ⟨by decide, rfl⟩
  refine x_getrN 711 (ci := 7) (C := RX8) (T := TX8) (N := 16) 11 hC hinX8 hW tj1 rfl rfl ⟨by decide, by decide, rfl, rfl⟩ rfl w_1 dX10_eventCount_4 qj2 ?_
  refine x_getiN 204 (ci := 2) (C := RX2) (T := TX2) (N := 5) 4 hC hinX2 hW tj2 rfl rfl ⟨by decide, by decide, rfl, rfl⟩ rfl w_2 dX10_eventCount_7 ?_
  obtain ⟨e1, e2⟩ := so2 hf
  subst e1
  subst e2
  exact W.iret (v := si S0 204 j2) hx hb hr (fun t ht hWm => ⟨⟨rfl, by unfold QB; rw [ht]; exact ⟨hW, trivial⟩⟩, hS.F ht⟩) hS.2.2 dX10_eventCount_10 hlk
set_option maxHeartbeats 4000000 in
set_option maxRecDepth 100000 in
theorem c_X10_undoCount (l : Launch) (g : GP) (ad : Nat → Nat) (n : Nat) (K : Nat → Nat) (sz F : Nat) (S0 : St) (p0 : Nat) (tp0 : p0 < n ∧ K p0 = 9) (r9 : Int32) (S9 : St) (hf : f_X10_undoCount F S0 p0 = some (r9, S9)) : Met l yX10_undoCount wsX10_undoCount { frames := 0, cells := 0, slots := 0, locals := 0 } (va_Pc [.ref (ad p0)] (PB g ad n K S0 sz)) (QR (some (.int r9)) (QB g ad n K S9 (dA ad n sz) (True)) (dA ad n sz)) 0 0 (dA ad n sz) := by
  refine Met.ofW (cc := cX10_undoCount) (maxL := 1) (ret := (some .int)) (by decide) rfl ?_
  intro p e s m args below meth c s₁ B hml hv
  obtain ⟨rfl, hsz, hW, hK, hGs⟩ := x_start hv
  subst hsz
  have hx := B.exec
  have hb := B.bytes
  have hr := B.returns
  have hts := atoms_spec (ws := wsX10_undoCount) B.pre
  have hown : s.vm.findClass RX10 = some m.cls := findClass_of_methodNamed B.named
  have hlk := B.notSynchronized
  have hC : Cx g p s m _ c cX10_undoCount RX10 wsX10_undoCount 1 := ⟨hx, hb, hml, hown, hts, hK⟩
  have hA : ∀ q : Nat, s.heap.size ≤ q → dA ad n s.heap.size q := fun q h => Or.inr h
  have hS : va_S (dA ad n s.heap.size) s.heap s.heap [] := va_S.rf
  have hl := lv_entry ([.ref (ad p0)]) (n := 1) (Nat.le_of_ble_eq_true rfl)
  rw [lg_entry_eq]
  generalize (lg_sl ([.ref (ad p0)]) ++ List.replicate (1 - (lg_sl ([.ref (ad p0)])).length) Slot.unset).toArray = ls at hl ⊢
  have hl : lv_has ls 1 [(0, .ref (ad p0))] := hl
  have hinX10 : ∀ w ∈ wsX100, w ∈ wsX10_undoCount := by decide +kernel
  have w_0 := hts (.fieldLink RX10 402 "MailSpool" "pastSize" "I") (by decide +kernel)
  have hGE := hGs.2.2.2.1
  have hGM := hGs.2.2.2.2
  unfold f_X10_undoCount at hf
  refine lv_aload_n hx hb dX10_undoCount_0 rfl (lv_at hl 0 rfl) ?_
  refine x_geti 909 (ci := 9) (C := RX10) (T := TX10) (N := 11) 9 hC hinX10 hW tp0 rfl rfl ⟨by decide, by decide, rfl, rfl⟩ rfl w_0 dX10_undoCount_1 ?_
  obtain ⟨e1, e2⟩ := so2 hf
  subst e1
  subst e2
  exact W.iret (v := si S0 909 p0) hx hb hr (fun t ht hWm => ⟨⟨rfl, by unfold QB; rw [ht]; exact ⟨hW, trivial⟩⟩, hS.F ht⟩) hS.2.2 dX10_undoCount_4 hlk
