set_option maxHeartbeats 4000000 in
set_option maxRecDepth 100000 in
theorem c_X6_fail (l : Launch) (g : GP) (ad : Nat → Nat) (n : Nat) (K : Nat → Nat) (sz F : Nat) (S0 : St) (p0 : Nat) (p1 : Int32) (tp0 : p0 < n ∧ K p0 = 5) (r9 : Int32) (S9 : St) (hf : f_X6_fail F S0 p0 p1 = some (r9, S9)) : Met l yX6_fail wsX6_fail { frames := 0, cells := 0, slots := 0, locals := 0 } (va_Pc [.ref (ad p0), .int p1] (PB g ad n K S0 sz)) (QR (some (.int r9)) (QB g ad n K S9 (dA ad n sz) (True)) (dA ad n sz)) 0 0 (dA ad n sz) := by
  refine Met.ofW (cc := cX6_fail) (maxL := 2) (ret := (some .boolean)) (by decide) rfl ?_
  intro p e s m args below meth c s₁ B hml hv
  obtain ⟨rfl, hsz, hW, hK, hGs⟩ := x_start hv
  subst hsz
  have hx := B.exec
  have hb := B.bytes
  have hr := B.returns
  have hts := atoms_spec (ws := wsX6_fail) B.pre
  have hown : s.vm.findClass RX6 = some m.cls := findClass_of_methodNamed B.named
  have hlk := B.notSynchronized
  have hC : Cx g p s m _ c cX6_fail RX6 wsX6_fail 2 := ⟨hx, hb, hml, hown, hts, hK⟩
  have hA : ∀ q : Nat, s.heap.size ≤ q → dA ad n s.heap.size q := fun q h => Or.inr h
  have hS : va_S (dA ad n s.heap.size) s.heap s.heap [] := va_S.rf
  have hl := lv_entry ([.ref (ad p0), .int p1]) (n := 2) (Nat.le_of_ble_eq_true rfl)
  rw [lg_entry_eq]
  generalize (lg_sl ([.ref (ad p0), .int p1]) ++ List.replicate (2 - (lg_sl ([.ref (ad p0), .int p1])).length) Slot.unset).toArray = ls at hl ⊢
  have hl : lv_has ls 2 [(0, .ref (ad p0)), (1, .int p1)] := hl
  have hinX6 : ∀ w ∈ wsX60, w ∈ wsX6_fail := by decide +kernel
  have w_0 := hts (.fieldLink RX6 181 "MailSpool$Parser" "errorCode" "I") (by decide +kernel)
  have w_1 := hts (.fieldLink RX6 184 "MailSpool$Parser" "start" "I") (by decide +kernel)
  have w_2 := hts (.fieldLink RX6 22 "MailSpool$Parser" "errorPosition" "I") (by decide +kernel)
  have hGE := hGs.2.2.2.1
  have hGM := hGs.2.2.2.2
  unfold f_X6_fail at hf
  refine lv_aload_n hx hb dX6_fail_0 rfl (lv_at hl 0 rfl) ?_
  refine lv_iload_n hx hb dX6_fail_1 rfl (lv_at hl 1 rfl) ?_
  refine x_puti 502 (ci := 5) (C := RX6) (T := TX6) (N := 10) (v := p1) (ty := .int) 2 hC hinX6 tyX6_ok nmX6 hW hS tp0 rfl rfl ⟨by decide, by decide, rfl, rfl⟩ rfl w_0 rfl (by decide +kernel) rfl rfl dX6_fail_2 (fun S1 H locs eS1 hW hS => ?_)
  replace hf := ltE hf S1 eS1
  refine lv_aload_n hx hb dX6_fail_5 rfl (lv_at hl 0 rfl) ?_
  refine lv_aload_n hx hb dX6_fail_6 rfl (lv_at hl 0 rfl) ?_
  refine x_geti 505 (ci := 5) (C := RX6) (T := TX6) (N := 10) 5 hC hinX6 hW tp0 rfl rfl ⟨by decide, by decide, rfl, rfl⟩ rfl w_1 dX6_fail_7 ?_
  refine x_puti 503 (ci := 5) (C := RX6) (T := TX6) (N := 10) (v := si S1 505 p0) (ty := .int) 3 hC hinX6 tyX6_ok nmX6 hW hS tp0 rfl rfl ⟨by decide, by decide, rfl, rfl⟩ rfl w_2 rfl (by decide +kernel) rfl rfl dX6_fail_10 (fun S2 H locs eS2 hW hS => ?_)
  replace hf := ltE hf S2 eS2
  refine lv_iconst (v := 0) hx hb dX6_fail_13 (by decide) ?_
  obtain ⟨e1, e2⟩ := so2 hf
  subst e1
  subst e2
  exact W.zret (v := 0) hx hb hr rfl (fun t ht hWm => ⟨⟨rfl, by unfold QB; rw [ht]; exact ⟨hW, trivial⟩⟩, hS.F ht⟩) hS.2.2 dX6_fail_14 hlk
set_option maxHeartbeats 4000000 in
set_option maxRecDepth 100000 in
theorem c_X6_take (l : Launch) (g : GP) (ad : Nat → Nat) (n : Nat) (K : Nat → Nat) (sz F : Nat) (S0 : St) (p0 : Nat) (p1 : Nat) (tp0 : p0 < n ∧ K p0 = 5) (tp1 : p1 < 15) (r9 : Int32) (S9 : St) (hf : f_X6_take F S0 p0 p1 = some (r9, S9)) : Met l yX6_take wsX6_take { frames := 3, cells := 0, slots := 0, locals := 67 } (va_Pc [.ref (ad p0), .ref (gen g p1)] (PB g ad n K S0 sz)) (QR (some (.int r9)) (QB g ad n K S9 (dA ad n sz) (True)) (dA ad n sz)) 0 0 (dA ad n sz) := by
  refine Met.ofW (cc := cX6_take) (maxL := 2) (ret := (some .boolean)) (by decide) rfl ?_
  intro p e s m args below meth c s₁ B hml hv
  obtain ⟨rfl, hsz, hW, hK, hGs⟩ := x_start hv
  subst hsz
  have hx := B.exec
  have hb := B.bytes
  have hr := B.returns
  have hts := atoms_spec (ws := wsX6_take) B.pre
  have hown : s.vm.findClass RX6 = some m.cls := findClass_of_methodNamed B.named
  have hlk := B.notSynchronized
  have hC : Cx g p s m _ c cX6_take RX6 wsX6_take 2 := ⟨hx, hb, hml, hown, hts, hK⟩
  have hA : ∀ q : Nat, s.heap.size ≤ q → dA ad n s.heap.size q := fun q h => Or.inr h
  have hS : va_S (dA ad n s.heap.size) s.heap s.heap [] := va_S.rf
  have hl := lv_entry ([.ref (ad p0), .ref (gen g p1)]) (n := 2) (Nat.le_of_ble_eq_true rfl)
  rw [lg_entry_eq]
  generalize (lg_sl ([.ref (ad p0), .ref (gen g p1)]) ++ List.replicate (2 - (lg_sl ([.ref (ad p0), .ref (gen g p1)])).length) Slot.unset).toArray = ls at hl ⊢
  have hl : lv_has ls 2 [(0, .ref (ad p0)), (1, .ref (gen g p1))] := hl
  have hinX6 : ∀ w ∈ wsX60, w ∈ wsX6_take := by decide +kernel
  have w_0 := hts (.fieldLink RX6 41 "MailSpool$Parser" "keyword" "LMailSpool$Keyword;") (by decide +kernel)
  have hGE := hGs.2.2.2.1
  have hGM := hGs.2.2.2.2
  unfold f_X6_take at hf
  refine lv_aload_n hx hb dX6_take_0 rfl (lv_at hl 0 rfl) ?_
  refine x_gete 508 (ci := 5) (C := RX6) (T := TX6) (N := 10) 8 hC hinX6 hW tp0 rfl rfl ⟨by decide, by decide, rfl, rfl⟩ rfl w_0 dX6_take_1 ?_
  refine lv_aload_n hx hb dX6_take_4 rfl (lv_at hl 1 rfl) ?_
  replace hf := ckE hf
  obtain ⟨h2, hf⟩ := hf
  refine x_acmpE_eq (tgt := 14) hC hGE h2 tp1 dX6_take_5 (by decide) (fun c1 => ?_) (fun c1 => ?_)
  · replace hf := ifT c1 hf
    refine lv_aload_n hx hb dX6_take_14 rfl (lv_at hl 0 rfl) ?_
    replace hf := obE hf
    obtain ⟨S4, hz3, hf⟩ := hf
    refine x_callV (As := []) (rest := []) (o := none) (S1 := S4) hC hl.1 hW hS hGs hA tp0 rfl (show vwCl[5]? = some (RX6, TX6, 10) ∧ ob 5 from ⟨rfl, by decide⟩) (c_X6_nextToken l g ad n K s.heap.size F S0 p0 tp0 S4 hz3) (cwV 0 hts gX6_take_X6_nextToken rfl rfl rfl (by decide +kernel) ⟨Nat.le_of_ble_eq_true rfl, Nat.le_of_ble_eq_true rfl⟩) rfl rfl (Nat.le_of_ble_eq_true rfl) dX6_take_15 ⟨Nat.le_of_ble_eq_true rfl, Nat.le_of_ble_eq_true rfl⟩ (fun H locs hPz3 hW hS => ?_)
    refine W.eq (g2 := F0 m 18 ls []) rfl ?_
    refine lv_iconst (v := 1) hx hb dX6_take_18 (by decide) ?_
    obtain ⟨e1, e2⟩ := so2 hf
    subst e1
    subst e2
    exact W.zret (v := 1) hx hb hr rfl (fun t ht hWm => ⟨⟨rfl, by unfold QB; rw [ht]; exact ⟨hW, trivial⟩⟩, hS.F ht⟩) hS.2.2 dX6_take_19 hlk
  · replace hf := ifF c1 hf
    refine lv_aload_n hx hb dX6_take_8 rfl (lv_at hl 0 rfl) ?_
    refine lv_iconst (v := 1) hx hb dX6_take_9 (by decide) ?_
    replace hf := obE hf
    obtain ⟨z7, hz7, hf⟩ := hf
    obtain ⟨r9, S8⟩ := z7
    replace hf := ltE (ltE hf r9 rfl) S8 rfl
    refine x_callV (As := [.int 1]) (rest := []) (o := (some (.int r9))) (S1 := S8) hC hl.1 hW hS hGs hA tp0 rfl (show vwCl[5]? = some (RX6, TX6, 10) ∧ ob 5 from ⟨rfl, by decide⟩) (c_X6_fail l g ad n K s.heap.size F S0 p0 ((1 : Int32)) tp0 r9 S8 hz7) (cwV 1 hts gX6_take_X6_fail rfl rfl rfl (by decide +kernel) ⟨Nat.le_of_ble_eq_true rfl, Nat.le_of_ble_eq_true rfl⟩) rfl rfl (Nat.le_of_ble_eq_true rfl) dX6_take_10 ⟨Nat.le_of_ble_eq_true rfl, Nat.le_of_ble_eq_true rfl⟩ (fun H locs hPz7 hW hS => ?_)
    refine W.eq (g2 := F0 m 13 ls [.int r9]) rfl ?_
    replace hf := ckE hf
    obtain ⟨h11, hf⟩ := hf
    obtain ⟨e1, e2⟩ := so2 hf
    subst e1
    subst e2
    exact W.zret (v := r9) hx hb hr (zn h11) (fun t ht hWm => ⟨⟨rfl, by unfold QB; rw [ht]; exact ⟨hW, trivial⟩⟩, hS.F ht⟩) hS.2.2 dX6_take_13 hlk
set_option maxHeartbeats 4000000 in
set_option maxRecDepth 100000 in
theorem c_X6_takeNumber (l : Launch) (g : GP) (ad : Nat → Nat) (n : Nat) (K : Nat → Nat) (sz F : Nat) (S0 : St) (p0 : Nat) (p1 : Int32) (p2 : Int32) (tp0 : p0 < n ∧ K p0 = 5) (r9 : Int32) (S9 : St) (hf : f_X6_takeNumber F S0 p0 p1 p2 = some (r9, S9)) : Met l yX6_takeNumber wsX6_takeNumber { frames := 3, cells := 0, slots := 0, locals := 67 } (va_Pc [.ref (ad p0), .int p1, .int p2] (PB g ad n K S0 sz)) (QR (some (.int r9)) (QB g ad n K S9 (dA ad n sz) (True)) (dA ad n sz)) 0 0 (dA ad n sz) := by
  refine Met.ofW (cc := cX6_takeNumber) (maxL := 4) (ret := (some .int)) (by decide) rfl ?_
  intro p e s m args below meth c s₁ B hml hv
  obtain ⟨rfl, hsz, hW, hK, hGs⟩ := x_start hv
  subst hsz
  have hx := B.exec
  have hb := B.bytes
  have hr := B.returns
  have hts := atoms_spec (ws := wsX6_takeNumber) B.pre
  have hown : s.vm.findClass RX6 = some m.cls := findClass_of_methodNamed B.named
  have hlk := B.notSynchronized
  have hC : Cx g p s m _ c cX6_takeNumber RX6 wsX6_takeNumber 4 := ⟨hx, hb, hml, hown, hts, hK⟩
  have hA : ∀ q : Nat, s.heap.size ≤ q → dA ad n s.heap.size q := fun q h => Or.inr h
  have hS : va_S (dA ad n s.heap.size) s.heap s.heap [] := va_S.rf
  have hl := lv_entry ([.ref (ad p0), .int p1, .int p2]) (n := 4) (Nat.le_of_ble_eq_true rfl)
  rw [lg_entry_eq]
  generalize (lg_sl ([.ref (ad p0), .int p1, .int p2]) ++ List.replicate (4 - (lg_sl ([.ref (ad p0), .int p1, .int p2])).length) Slot.unset).toArray = ls at hl ⊢
  have hl : lv_has ls 4 [(0, .ref (ad p0)), (1, .int p1), (2, .int p2)] := hl
  have hinX6 : ∀ w ∈ wsX60, w ∈ wsX6_takeNumber := by decide +kernel
  have w_0 := hts (.fieldLink RX6 38 "MailSpool$Parser" "kind" "I") (by decide +kernel)
  have w_1 := hts (.fieldLink RX6 187 "MailSpool$Parser" "value" "I") (by decide +kernel)
  have hGE := hGs.2.2.2.1
  have hGM := hGs.2.2.2.2
  have L38 : ∀ (S0 : St) (s0 : Int32) (s1 : Nat) (ts1 : s1 < n ∧ K s1 = 5) (H : Heap) (locs : List Loc) (ls : Array Slot), f_X6_takeNumber_L38 F S0 s0 s1 = some (r9, S9) → Wb g ad n K S0 (dA ad n s.heap.size) H → va_S (dA ad n s.heap.size) s.heap H locs → lv_has ls 4 [] → W p l e (headSpec wsX6_takeNumber { frames := 3, cells := 0, slots := 0, locals := 67 }).room s m (List.toArray [.ref (ad p0), .int p1, .int p2]) below meth c H locs 0 0 (MQ below (QR (some (.int r9)) (QB g ad n K S9 (dA ad n s.heap.size) (True)) (dA ad n s.heap.size)) (List.toArray [.ref (ad p0), .int p1, .int p2]) s 0 0 (dA ad n s.heap.size)) (F0 m 38 ls [.int s0, .ref (ad s1)]) := by
    intro S0 s0 s1 ts1 H locs ls hf hW hS hl
    unfold f_X6_takeNumber_L38 at hf
    replace hf := obE hf
    obtain ⟨z5, hz5, hf⟩ := hf
    obtain ⟨r7, S6⟩ := z5
    replace hf := ltE (ltE hf r7 rfl) S6 rfl
    refine x_callV (As := [.int s0]) (rest := []) (o := (some (.int r7))) (S1 := S6) hC hl.1 hW hS hGs hA ts1 rfl (show vwCl[5]? = some (RX6, TX6, 10) ∧ ob 5 from ⟨rfl, by decide⟩) (c_X6_fail l g ad n K H.size F S0 s1 s0 ts1 r7 S6 hz5) (cwV 1 hts gX6_takeNumber_X6_fail rfl rfl rfl (by decide +kernel) ⟨Nat.le_of_ble_eq_true rfl, Nat.le_of_ble_eq_true rfl⟩) rfl rfl (Nat.le_of_ble_eq_true rfl) dX6_takeNumber_38 ⟨Nat.le_of_ble_eq_true rfl, Nat.le_of_ble_eq_true rfl⟩ (fun H locs hPz5 hW hS => ?_)
    refine W.eq (g2 := F0 m 41 ls [.int r7]) rfl ?_
    refine lv_pop hx hb dX6_takeNumber_41 rfl ?_
    refine lv_iconst (v := -1) hx hb dX6_takeNumber_42 (by decide) ?_
    obtain ⟨e1, e2⟩ := so2 hf
    subst e1
    subst e2
    exact W.iret (v := (-1)) hx hb hr (fun t ht hWm => ⟨⟨rfl, by unfold QB; rw [ht]; exact ⟨hW, trivial⟩⟩, hS.F ht⟩) hS.2.2 dX6_takeNumber_43 hlk
  have L24 : ∀ (S0 : St) (v0 : Nat) (tv0 : v0 < n ∧ K v0 = 5) (H : Heap) (locs : List Loc) (ls : Array Slot), f_X6_takeNumber_L24 F S0 v0 = some (r9, S9) → Wb g ad n K S0 (dA ad n s.heap.size) H → va_S (dA ad n s.heap.size) s.heap H locs → lv_has ls 4 [(0, .ref (ad v0))] → W p l e (headSpec wsX6_takeNumber { frames := 3, cells := 0, slots := 0, locals := 67 }).room s m (List.toArray [.ref (ad p0), .int p1, .int p2]) below meth c H locs 0 0 (MQ below (QR (some (.int r9)) (QB g ad n K S9 (dA ad n s.heap.size) (True)) (dA ad n s.heap.size)) (List.toArray [.ref (ad p0), .int p1, .int p2]) s 0 0 (dA ad n s.heap.size)) (F0 m 24 ls []) := by
    intro S0 v0 tv0 H locs ls hf hW hS hl
    unfold f_X6_takeNumber_L24 at hf
    refine lv_aload_n hx hb dX6_takeNumber_24 rfl (lv_at hl 0 rfl) ?_
    refine lv_aload_n hx hb dX6_takeNumber_25 rfl (lv_at hl 0 rfl) ?_
    refine x_geti 506 (ci := 5) (C := RX6) (T := TX6) (N := 10) 6 hC hinX6 hW tv0 rfl rfl ⟨by decide, by decide, rfl, rfl⟩ rfl w_0 dX6_takeNumber_26 ?_
    refine lv_iconst (v := 2) hx hb dX6_takeNumber_29 (by decide) ?_
    refine lv_icmp_ne (tgt := 37) hx hb dX6_takeNumber_30 (by decide) (fun c10 => ?_) (fun c10 => ?_)
    · replace hf := ifT c10 hf
      refine lv_iconst (v := 1) hx hb dX6_takeNumber_37 (by decide) ?_
      exact L38 S0 1 v0 tv0 _ _ _ hf hW hS (lv_sub hl [] rfl)
    · replace hf := ifF (fun q => q c10) hf
      refine lv_iconst (v := 2) hx hb dX6_takeNumber_33 (by decide) ?_
      refine lv_goto (tgt := 38) hx hb dX6_takeNumber_34 (by decide) ?_
      exact L38 S0 2 v0 tv0 _ _ _ hf hW hS (lv_sub hl [] rfl)
  unfold f_X6_takeNumber at hf
  refine lv_aload_n hx hb dX6_takeNumber_0 rfl (lv_at hl 0 rfl) ?_
  refine x_geti 506 (ci := 5) (C := RX6) (T := TX6) (N := 10) 6 hC hinX6 hW tp0 rfl rfl ⟨by decide, by decide, rfl, rfl⟩ rfl w_0 dX6_takeNumber_1 ?_
  refine lv_iconst (v := 2) hx hb dX6_takeNumber_4 (by decide) ?_
  refine lv_icmp_ne (tgt := 24) hx hb dX6_takeNumber_5 (by decide) (fun c11 => ?_) (fun c11 => ?_)
  · replace hf := ifT c11 hf
    exact L24 S0 p0 tp0 _ _ _ hf hW hS (lv_sub hl [0] rfl)
  · replace hf := ifF (fun q => q c11) hf
    refine lv_aload_n hx hb dX6_takeNumber_8 rfl (lv_at hl 0 rfl) ?_
    refine x_geti 509 (ci := 5) (C := RX6) (T := TX6) (N := 10) 9 hC hinX6 hW tp0 rfl rfl ⟨by decide, by decide, rfl, rfl⟩ rfl w_1 dX6_takeNumber_9 ?_
    refine lv_iload_n hx hb dX6_takeNumber_12 rfl (lv_at hl 1 rfl) ?_
    refine lv_icmp_lt (tgt := 24) hx hb dX6_takeNumber_13 (by decide) (fun c12 => ?_) (fun c12 => ?_)
    · replace hf := ifT c12 hf
      exact L24 S0 p0 tp0 _ _ _ hf hW hS (lv_sub hl [0] rfl)
    · replace hf := ifF c12 hf
      refine lv_aload_n hx hb dX6_takeNumber_16 rfl (lv_at hl 0 rfl) ?_
      refine x_geti 509 (ci := 5) (C := RX6) (T := TX6) (N := 10) 9 hC hinX6 hW tp0 rfl rfl ⟨by decide, by decide, rfl, rfl⟩ rfl w_1 dX6_takeNumber_17 ?_
      refine lv_iload_n hx hb dX6_takeNumber_20 rfl (lv_at hl 2 rfl) ?_
      refine lv_icmp_le (tgt := 44) hx hb dX6_takeNumber_21 (by decide) (fun c13 => ?_) (fun c13 => ?_)
      · replace hf := ifT c13 hf
        refine lv_aload_n hx hb dX6_takeNumber_44 rfl (lv_at hl 0 rfl) ?_
        refine x_geti 509 (ci := 5) (C := RX6) (T := TX6) (N := 10) 9 hC hinX6 hW tp0 rfl rfl ⟨by decide, by decide, rfl, rfl⟩ rfl w_1 dX6_takeNumber_45 ?_
        refine lv_topi (fun x14 ex14 => ?_)
        replace hf := ltE hf x14 ex14
        refine lv_istore_n (lv' := [(3, .int x14), (0, .ref (ad p0)), (1, .int p1), (2, .int p2)]) hx hb dX6_takeNumber_48 rfl hl (by decide) rfl (fun ls hl => ?_)
        refine lv_aload_n hx hb dX6_takeNumber_49 rfl (lv_at hl 1 rfl) ?_
        replace hf := obE hf
        obtain ⟨S16, hz15, hf⟩ := hf
        refine x_callV (As := []) (rest := []) (o := none) (S1 := S16) hC hl.1 hW hS hGs hA tp0 rfl (show vwCl[5]? = some (RX6, TX6, 10) ∧ ob 5 from ⟨rfl, by decide⟩) (c_X6_nextToken l g ad n K s.heap.size F S0 p0 tp0 S16 hz15) (cwV 0 hts gX6_takeNumber_X6_nextToken rfl rfl rfl (by decide +kernel) ⟨Nat.le_of_ble_eq_true rfl, Nat.le_of_ble_eq_true rfl⟩) rfl rfl (Nat.le_of_ble_eq_true rfl) dX6_takeNumber_50 ⟨Nat.le_of_ble_eq_true rfl, Nat.le_of_ble_eq_true rfl⟩ (fun H locs hPz15 hW hS => ?_)
        refine W.eq (g2 := F0 m 53 ls []) rfl ?_
        refine lv_iload_n hx hb dX6_takeNumber_53 rfl (lv_at hl 0 rfl) ?_
        obtain ⟨e1, e2⟩ := so2 hf
        subst e1
        subst e2
        exact W.iret (v := x14) hx hb hr (fun t ht hWm => ⟨⟨rfl, by unfold QB; rw [ht]; exact ⟨hW, trivial⟩⟩, hS.F ht⟩) hS.2.2 dX6_takeNumber_54 hlk
      · replace hf := ifF c13 hf
        exact L24 S0 p0 tp0 _ _ _ hf hW hS (lv_sub hl [0] rfl)
set_option maxHeartbeats 4000000 in
set_option maxRecDepth 100000 in
theorem c_X6_isSymbol (l : Launch) (g : GP) (ad : Nat → Nat) (n : Nat) (K : Nat → Nat) (sz F : Nat) (S0 : St) (p0 : Nat) (p1 : Int32) (tp0 : p0 < n ∧ K p0 = 5) (r9 : Int32) (S9 : St) (hf : f_X6_isSymbol F S0 p0 p1 = some (r9, S9)) : Met l yX6_isSymbol wsX6_isSymbol { frames := 0, cells := 0, slots := 0, locals := 0 } (va_Pc [.ref (ad p0), .int p1] (PB g ad n K S0 sz)) (QR (some (.int r9)) (QB g ad n K S9 (dA ad n sz) (True)) (dA ad n sz)) 0 0 (dA ad n sz) := by
  refine Met.ofW (cc := cX6_isSymbol) (maxL := 2) (ret := (some .boolean)) (by decide) rfl ?_
  intro p e s m args below meth c s₁ B hml hv
  obtain ⟨rfl, hsz, hW, hK, hGs⟩ := x_start hv
  subst hsz
  have hx := B.exec
  have hb := B.bytes
  have hr := B.returns
  have hts := atoms_spec (ws := wsX6_isSymbol) B.pre
  have hown : s.vm.findClass RX6 = some m.cls := findClass_of_methodNamed B.named
  have hlk := B.notSynchronized
  have hC : Cx g p s m _ c cX6_isSymbol RX6 wsX6_isSymbol 2 := ⟨hx, hb, hml, hown, hts, hK⟩
  have hA : ∀ q : Nat, s.heap.size ≤ q → dA ad n s.heap.size q := fun q h => Or.inr h
  have hS : va_S (dA ad n s.heap.size) s.heap s.heap [] := va_S.rf
  have hl := lv_entry ([.ref (ad p0), .int p1]) (n := 2) (Nat.le_of_ble_eq_true rfl)
  rw [lg_entry_eq]
  generalize (lg_sl ([.ref (ad p0), .int p1]) ++ List.replicate (2 - (lg_sl ([.ref (ad p0), .int p1])).length) Slot.unset).toArray = ls at hl ⊢
  have hl : lv_has ls 2 [(0, .ref (ad p0)), (1, .int p1)] := hl
  have hinX6 : ∀ w ∈ wsX60, w ∈ wsX6_isSymbol := by decide +kernel
  have w_0 := hts (.fieldLink RX6 38 "MailSpool$Parser" "kind" "I") (by decide +kernel)
  have w_1 := hts (.fieldLink RX6 187 "MailSpool$Parser" "value" "I") (by decide +kernel)
  have hGE := hGs.2.2.2.1
  have hGM := hGs.2.2.2.2
  unfold f_X6_isSymbol at hf
  refine lv_aload_n hx hb dX6_isSymbol_0 rfl (lv_at hl 0 rfl) ?_
  refine x_geti 506 (ci := 5) (C := RX6) (T := TX6) (N := 10) 6 hC hinX6 hW tp0 rfl rfl ⟨by decide, by decide, rfl, rfl⟩ rfl w_0 dX6_isSymbol_1 ?_
  refine lv_iconst (v := 3) hx hb dX6_isSymbol_4 (by decide) ?_
  refine lv_icmp_ne (tgt := 20) hx hb dX6_isSymbol_5 (by decide) (fun c1 => ?_) (fun c1 => ?_)
  · replace hf := ifT c1 hf
    refine lv_iconst (v := 0) hx hb dX6_isSymbol_20 (by decide) ?_
    obtain ⟨e1, e2⟩ := so2 hf
    subst e1
    subst e2
    exact W.zret (v := 0) hx hb hr rfl (fun t ht hWm => ⟨⟨rfl, by unfold QB; rw [ht]; exact ⟨hW, trivial⟩⟩, hS.F ht⟩) hS.2.2 dX6_isSymbol_21 hlk
  · replace hf := ifF (fun q => q c1) hf
    refine lv_aload_n hx hb dX6_isSymbol_8 rfl (lv_at hl 0 rfl) ?_
    refine x_geti 509 (ci := 5) (C := RX6) (T := TX6) (N := 10) 9 hC hinX6 hW tp0 rfl rfl ⟨by decide, by decide, rfl, rfl⟩ rfl w_1 dX6_isSymbol_9 ?_
    refine lv_iload_n hx hb dX6_isSymbol_12 rfl (lv_at hl 1 rfl) ?_
    refine lv_icmp_ne (tgt := 20) hx hb dX6_isSymbol_13 (by decide) (fun c2 => ?_) (fun c2 => ?_)
    · replace hf := ifT c2 hf
      refine lv_iconst (v := 0) hx hb dX6_isSymbol_20 (by decide) ?_
      obtain ⟨e1, e2⟩ := so2 hf
      subst e1
      subst e2
      exact W.zret (v := 0) hx hb hr rfl (fun t ht hWm => ⟨⟨rfl, by unfold QB; rw [ht]; exact ⟨hW, trivial⟩⟩, hS.F ht⟩) hS.2.2 dX6_isSymbol_21 hlk
    · replace hf := ifF (fun q => q c2) hf
      refine lv_iconst (v := 1) hx hb dX6_isSymbol_16 (by decide) ?_
      refine lv_goto (tgt := 21) hx hb dX6_isSymbol_17 (by decide) ?_
      obtain ⟨e1, e2⟩ := so2 hf
      subst e1
      subst e2
      exact W.zret (v := 1) hx hb hr rfl (fun t ht hWm => ⟨⟨rfl, by unfold QB; rw [ht]; exact ⟨hW, trivial⟩⟩, hS.F ht⟩) hS.2.2 dX6_isSymbol_21 hlk
set_option maxHeartbeats 4000000 in
set_option maxRecDepth 100000 in
theorem c_X6_takeSymbol (l : Launch) (g : GP) (ad : Nat → Nat) (n : Nat) (K : Nat → Nat) (sz F : Nat) (S0 : St) (p0 : Nat) (p1 : Int32) (tp0 : p0 < n ∧ K p0 = 5) (r9 : Int32) (S9 : St) (hf : f_X6_takeSymbol F S0 p0 p1 = some (r9, S9)) : Met l yX6_takeSymbol wsX6_takeSymbol { frames := 3, cells := 0, slots := 0, locals := 67 } (va_Pc [.ref (ad p0), .int p1] (PB g ad n K S0 sz)) (QR (some (.int r9)) (QB g ad n K S9 (dA ad n sz) (True)) (dA ad n sz)) 0 0 (dA ad n sz) := by
  refine Met.ofW (cc := cX6_takeSymbol) (maxL := 2) (ret := (some .boolean)) (by decide) rfl ?_
  intro p e s m args below meth c s₁ B hml hv
  obtain ⟨rfl, hsz, hW, hK, hGs⟩ := x_start hv
  subst hsz
  have hx := B.exec
  have hb := B.bytes
  have hr := B.returns
  have hts := atoms_spec (ws := wsX6_takeSymbol) B.pre
  have hown : s.vm.findClass RX6 = some m.cls := findClass_of_methodNamed B.named
  have hlk := B.notSynchronized
  have hC : Cx g p s m _ c cX6_takeSymbol RX6 wsX6_takeSymbol 2 := ⟨hx, hb, hml, hown, hts, hK⟩
  have hA : ∀ q : Nat, s.heap.size ≤ q → dA ad n s.heap.size q := fun q h => Or.inr h
  have hS : va_S (dA ad n s.heap.size) s.heap s.heap [] := va_S.rf
  have hl := lv_entry ([.ref (ad p0), .int p1]) (n := 2) (Nat.le_of_ble_eq_true rfl)
  rw [lg_entry_eq]
  generalize (lg_sl ([.ref (ad p0), .int p1]) ++ List.replicate (2 - (lg_sl ([.ref (ad p0), .int p1])).length) Slot.unset).toArray = ls at hl ⊢
  have hl : lv_has ls 2 [(0, .ref (ad p0)), (1, .int p1)] := hl
  have hGE := hGs.2.2.2.1
  have hGM := hGs.2.2.2.2
  unfold f_X6_takeSymbol at hf
  refine lv_aload_n hx hb dX6_takeSymbol_0 rfl (lv_at hl 0 rfl) ?_
  refine lv_iload_n hx hb dX6_takeSymbol_1 rfl (lv_at hl 1 rfl) ?_
  replace hf := obE hf
  obtain ⟨z1, hz1, hf⟩ := hf
  obtain ⟨r3, S2⟩ := z1
  replace hf := ltE (ltE hf r3 rfl) S2 rfl
  refine x_callV (As := [.int p1]) (rest := []) (o := (some (.int r3))) (S1 := S2) hC hl.1 hW hS hGs hA tp0 rfl (show vwCl[5]? = some (RX6, TX6, 10) ∧ ob 5 from ⟨rfl, by decide⟩) (c_X6_isSymbol l g ad n K s.heap.size F S0 p0 p1 tp0 r3 S2 hz1) (cwV 1 hts gX6_takeSymbol_X6_isSymbol rfl rfl rfl (by decide +kernel) ⟨Nat.le_of_ble_eq_true rfl, Nat.le_of_ble_eq_true rfl⟩) rfl rfl (Nat.le_of_ble_eq_true rfl) dX6_takeSymbol_2 ⟨Nat.le_of_ble_eq_true rfl, Nat.le_of_ble_eq_true rfl⟩ (fun H locs hPz1 hW hS => ?_)
  refine W.eq (g2 := F0 m 5 ls [.int r3]) rfl ?_
  refine lv_if_ne (tgt := 14) hx hb dX6_takeSymbol_5 (by decide) (fun c5 => ?_) (fun c5 => ?_)
  · replace hf := ifT c5 hf
    refine lv_aload_n hx hb dX6_takeSymbol_14 rfl (lv_at hl 0 rfl) ?_
    replace hf := obE hf
    obtain ⟨S7, hz6, hf⟩ := hf
    refine x_callV (As := []) (rest := []) (o := none) (S1 := S7) hC hl.1 hW hS hGs hA tp0 rfl (show vwCl[5]? = some (RX6, TX6, 10) ∧ ob 5 from ⟨rfl, by decide⟩) (c_X6_nextToken l g ad n K H.size F S2 p0 tp0 S7 hz6) (cwV 0 hts gX6_takeSymbol_X6_nextToken rfl rfl rfl (by decide +kernel) ⟨Nat.le_of_ble_eq_true rfl, Nat.le_of_ble_eq_true rfl⟩) rfl rfl (Nat.le_of_ble_eq_true rfl) dX6_takeSymbol_15 ⟨Nat.le_of_ble_eq_true rfl, Nat.le_of_ble_eq_true rfl⟩ (fun H locs hPz6 hW hS => ?_)
    refine W.eq (g2 := F0 m 18 ls []) rfl ?_
    refine lv_iconst (v := 1) hx hb dX6_takeSymbol_18 (by decide) ?_
    obtain ⟨e1, e2⟩ := so2 hf
    subst e1
    subst e2
    exact W.zret (v := 1) hx hb hr rfl (fun t ht hWm => ⟨⟨rfl, by unfold QB; rw [ht]; exact ⟨hW, trivial⟩⟩, hS.F ht⟩) hS.2.2 dX6_takeSymbol_19 hlk
  · replace hf := ifF (fun q => q c5) hf
    refine lv_aload_n hx hb dX6_takeSymbol_8 rfl (lv_at hl 0 rfl) ?_
    refine lv_iconst (v := 1) hx hb dX6_takeSymbol_9 (by decide) ?_
    replace hf := obE hf
    obtain ⟨z10, hz10, hf⟩ := hf
    obtain ⟨r12, S11⟩ := z10
    replace hf := ltE (ltE hf r12 rfl) S11 rfl
    refine x_callV (As := [.int 1]) (rest := []) (o := (some (.int r12))) (S1 := S11) hC hl.1 hW hS hGs hA tp0 rfl (show vwCl[5]? = some (RX6, TX6, 10) ∧ ob 5 from ⟨rfl, by decide⟩) (c_X6_fail l g ad n K H.size F S2 p0 ((1 : Int32)) tp0 r12 S11 hz10) (cwV 1 hts gX6_takeSymbol_X6_fail rfl rfl rfl (by decide +kernel) ⟨Nat.le_of_ble_eq_true rfl, Nat.le_of_ble_eq_true rfl⟩) rfl rfl (Nat.le_of_ble_eq_true rfl) dX6_takeSymbol_10 ⟨Nat.le_of_ble_eq_true rfl, Nat.le_of_ble_eq_true rfl⟩ (fun H locs hPz10 hW hS => ?_)
    refine W.eq (g2 := F0 m 13 ls [.int r12]) rfl ?_
    replace hf := ckE hf
    obtain ⟨h14, hf⟩ := hf
    obtain ⟨e1, e2⟩ := so2 hf
    subst e1
    subst e2
    exact W.zret (v := r12) hx hb hr (zn h14) (fun t ht hWm => ⟨⟨rfl, by unfold QB; rw [ht]; exact ⟨hW, trivial⟩⟩, hS.F ht⟩) hS.2.2 dX6_takeSymbol_13 hlk
set_option maxHeartbeats 4000000 in
set_option maxRecDepth 100000 in
theorem c_X6_spoolStatement (l : Launch) (g : GP) (ad : Nat → Nat) (n : Nat) (K : Nat → Nat) (sz F : Nat) (S0 : St) (p0 : Nat) (tp0 : p0 < n ∧ K p0 = 5) (r9 : Int32) (S9 : St) (hf : f_X6_spoolStatement F S0 p0 = some (r9, S9)) : Met l yX6_spoolStatement wsX6_spoolStatement { frames := 4, cells := 0, slots := 0, locals := 90 } (va_Pc [.ref (ad p0)] (PB g ad n K S0 sz)) (QR (some (.int r9)) (QB g ad n K S9 (dA ad n sz) (True)) (dA ad n sz)) 0 0 (dA ad n sz) := by
  refine Met.ofW (cc := cX6_spoolStatement) (maxL := 1) (ret := (some .boolean)) (by decide) rfl ?_
  intro p e s m args below meth c s₁ B hml hv
  obtain ⟨rfl, hsz, hW, hK, hGs⟩ := x_start hv
  subst hsz
  have hx := B.exec
  have hb := B.bytes
  have hr := B.returns
  have hts := atoms_spec (ws := wsX6_spoolStatement) B.pre
  have hown : s.vm.findClass RX6 = some m.cls := findClass_of_methodNamed B.named
  have hlk := B.notSynchronized
  have hC : Cx g p s m _ c cX6_spoolStatement RX6 wsX6_spoolStatement 1 := ⟨hx, hb, hml, hown, hts, hK⟩
  have hA : ∀ q : Nat, s.heap.size ≤ q → dA ad n s.heap.size q := fun q h => Or.inr h
  have hS : va_S (dA ad n s.heap.size) s.heap s.heap [] := va_S.rf
  have hl := lv_entry ([.ref (ad p0)]) (n := 1) (Nat.le_of_ble_eq_true rfl)
  rw [lg_entry_eq]
  generalize (lg_sl ([.ref (ad p0)]) ++ List.replicate (1 - (lg_sl ([.ref (ad p0)])).length) Slot.unset).toArray = ls at hl ⊢
  have hl : lv_has ls 1 [(0, .ref (ad p0))] := hl
  have hinX6 : ∀ w ∈ wsX60, w ∈ wsX6_spoolStatement := by decide +kernel
  have hinX7 : ∀ w ∈ wsX70, w ∈ wsX6_spoolStatement := by decide +kernel
  have w_0 := hts (.fieldLink RX6 75 "MailSpool$Keyword" "SPOOL" "LMailSpool$Keyword;") (by decide +kernel)
  have w_1 := hts (.fieldLink RX6 82 "MailSpool$Keyword" "GRACE" "LMailSpool$Keyword;") (by decide +kernel)
  have w_2 := hts (.fieldLink RX6 18 "MailSpool$Parser" "rules" "LMailSpool$Rules;") (by decide +kernel)
  have w_3 := va_Nw.use (A := (List.toArray [.ref (ad p0)])) rfl (hGs.1 (.fieldLinkNest RX6 89 "MailSpool$Rules" "grace" "I" "MailSpool") (by decide +kernel))
  have w_4 := hts (.fieldLink RX6 92 "MailSpool$Keyword" "ROUND" "LMailSpool$Keyword;") (by decide +kernel)
  have w_5 := va_Nw.use (A := (List.toArray [.ref (ad p0)])) rfl (hGs.1 (.fieldLinkNest RX6 95 "MailSpool$Rules" "interval" "I" "MailSpool") (by decide +kernel))
  have hGE := hGs.2.2.2.1
  have hGM := hGs.2.2.2.2
  unfold f_X6_spoolStatement at hf
  refine lv_aload_n hx hb dX6_spoolStatement_0 rfl (lv_at hl 0 rfl) ?_
  refine x_getsE 0 (nm := "SPOOL") hC hGE hS ⟨by decide, rfl⟩ w_0 dX6_spoolStatement_1 ?_
  replace hf := obE hf
  obtain ⟨z1, hz1, hf⟩ := hf
  obtain ⟨r3, S2⟩ := z1
  replace hf := ltE (ltE hf r3 rfl) S2 rfl
  refine x_callV (As := [.ref (gen g 0)]) (rest := []) (o := (some (.int r3))) (S1 := S2) hC hl.1 hW hS hGs hA tp0 rfl (show vwCl[5]? = some (RX6, TX6, 10) ∧ ob 5 from ⟨rfl, by decide⟩) (c_X6_take l g ad n K s.heap.size F S0 p0 0 tp0 (by decide) r3 S2 hz1) (cwV 1 hts gX6_spoolStatement_X6_take rfl rfl rfl (by decide +kernel) ⟨Nat.le_of_ble_eq_true rfl, Nat.le_of_ble_eq_true rfl⟩) rfl rfl (Nat.le_of_ble_eq_true rfl) dX6_spoolStatement_4 ⟨Nat.le_of_ble_eq_true rfl, Nat.le_of_ble_eq_true rfl⟩ (fun H locs hPz1 hW hS => ?_)
  refine W.eq (g2 := F0 m 7 ls [.int r3]) rfl ?_
  refine lv_if_eq (tgt := 20) hx hb dX6_spoolStatement_7 (by decide) (fun c5 => ?_) (fun c5 => ?_)
  · replace hf := ifT c5 hf
    refine lv_iconst (v := 0) hx hb dX6_spoolStatement_20 (by decide) ?_
    obtain ⟨e1, e2⟩ := so2 hf
    subst e1
    subst e2
    exact W.zret (v := 0) hx hb hr rfl (fun t ht hWm => ⟨⟨rfl, by unfold QB; rw [ht]; exact ⟨hW, trivial⟩⟩, hS.F ht⟩) hS.2.2 dX6_spoolStatement_21 hlk
  · replace hf := ifF c5 hf
    refine lv_aload_n hx hb dX6_spoolStatement_10 rfl (lv_at hl 0 rfl) ?_
    refine x_getsE 1 (nm := "GRACE") hC hGE hS ⟨by decide, rfl⟩ w_1 dX6_spoolStatement_11 ?_
    replace hf := obE hf
    obtain ⟨z6, hz6, hf⟩ := hf
    obtain ⟨r8, S7⟩ := z6
    replace hf := ltE (ltE hf r8 rfl) S7 rfl
    refine x_callV (As := [.ref (gen g 1)]) (rest := []) (o := (some (.int r8))) (S1 := S7) hC hl.1 hW hS hGs hA tp0 rfl (show vwCl[5]? = some (RX6, TX6, 10) ∧ ob 5 from ⟨rfl, by decide⟩) (c_X6_take l g ad n K H.size F S2 p0 1 tp0 (by decide) r8 S7 hz6) (cwV 1 hts gX6_spoolStatement_X6_take rfl rfl rfl (by decide +kernel) ⟨Nat.le_of_ble_eq_true rfl, Nat.le_of_ble_eq_true rfl⟩) rfl rfl (Nat.le_of_ble_eq_true rfl) dX6_spoolStatement_14 ⟨Nat.le_of_ble_eq_true rfl, Nat.le_of_ble_eq_true rfl⟩ (fun H locs hPz6 hW hS => ?_)
    refine W.eq (g2 := F0 m 17 ls [.int r8]) rfl ?_
    refine lv_if_ne (tgt := 22) hx hb dX6_spoolStatement_17 (by decide) (fun c10 => ?_) (fun c10 => ?_)
    · replace hf := ifT c10 hf
      refine lv_aload_n hx hb dX6_spoolStatement_22 rfl (lv_at hl 0 rfl) ?_
      replace hf := obE hf
      obtain ⟨j11, qj11, hf⟩ := hf
      have tj11 := x_rt hW qj11 6 ⟨by decide, rfl⟩
      refine x_getr 501 (ci := 5) (C := RX6) (T := TX6) (N := 10) 1 hC hinX6 hW tp0 rfl rfl ⟨by decide, by decide, rfl, rfl⟩ rfl w_2 dX6_spoolStatement_23 qj11 ?_
      refine lv_aload_n hx hb dX6_spoolStatement_26 rfl (lv_at hl 0 rfl) ?_
      refine lv_iconst (v := 0) hx hb dX6_spoolStatement_27 (by decide) ?_
      refine lv_bipush (v := 30) hx hb dX6_spoolStatement_28 (by decide) ?_
      replace hf := obE hf
      obtain ⟨z12, hz12, hf⟩ := hf
      obtain ⟨r14, S13⟩ := z12
      replace hf := ltE (ltE hf r14 rfl) S13 rfl
      refine x_callV (As := [.int 0, .int 30]) (rest := [.ref (ad j11)]) (o := (some (.int r14))) (S1 := S13) hC hl.1 hW hS hGs hA tp0 rfl (show vwCl[5]? = some (RX6, TX6, 10) ∧ ob 5 from ⟨rfl, by decide⟩) (c_X6_takeNumber l g ad n K H.size F S7 p0 ((0 : Int32)) ((30 : Int32)) tp0 r14 S13 hz12) (cwV 2 hts gX6_spoolStatement_X6_takeNumber rfl rfl rfl (by decide +kernel) ⟨Nat.le_of_ble_eq_true rfl, Nat.le_of_ble_eq_true rfl⟩) rfl rfl (Nat.le_of_ble_eq_true rfl) dX6_spoolStatement_30 ⟨Nat.le_of_ble_eq_true rfl, Nat.le_of_ble_eq_true rfl⟩ (fun H locs hPz12 hW hS => ?_)
      refine W.eq (g2 := F0 m 33 ls [.int r14, .ref (ad j11)]) rfl ?_
      refine x_putiN 600 (ci := 6) (C := RX7) (T := TX7) (N := 16) (v := r14) (ty := .int) 0 hC hinX7 tyX7_ok nmX7 hW hS tj11 rfl rfl ⟨by decide, by decide, rfl, rfl⟩ rfl w_3 rfl (by decide +kernel) rfl rfl dX6_spoolStatement_33 (fun S16 H locs eS16 hW hS => ?_)
      replace hf := ltE hf S16 eS16
      refine lv_aload_n hx hb dX6_spoolStatement_36 rfl (lv_at hl 0 rfl) ?_
      replace hf := obE hf
      obtain ⟨j17, qj17, hf⟩ := hf
      have tj17 := x_rt hW qj17 6 ⟨by decide, rfl⟩
      refine x_getr 501 (ci := 5) (C := RX6) (T := TX6) (N := 10) 1 hC hinX6 hW tp0 rfl rfl ⟨by decide, by decide, rfl, rfl⟩ rfl w_2 dX6_spoolStatement_37 qj17 ?_
      refine x_getiN 600 (ci := 6) (C := RX7) (T := TX7) (N := 16) 0 hC hinX7 hW tj17 rfl rfl ⟨by decide, by decide, rfl, rfl⟩ rfl w_3 dX6_spoolStatement_40 ?_
      refine lv_iconst (v := -1) hx hb dX6_spoolStatement_43 (by decide) ?_
      refine lv_icmp_eq (tgt := 57) hx hb dX6_spoolStatement_44 (by decide) (fun c18 => ?_) (fun c18 => ?_)
      · replace hf := ifT c18 hf
        refine lv_iconst (v := 0) hx hb dX6_spoolStatement_57 (by decide) ?_
        obtain ⟨e1, e2⟩ := so2 hf
        subst e1
        subst e2
        exact W.zret (v := 0) hx hb hr rfl (fun t ht hWm => ⟨⟨rfl, by unfold QB; rw [ht]; exact ⟨hW, trivial⟩⟩, hS.F ht⟩) hS.2.2 dX6_spoolStatement_58 hlk
      · replace hf := ifF c18 hf
        refine lv_aload_n hx hb dX6_spoolStatement_47 rfl (lv_at hl 0 rfl) ?_
        refine x_getsE 2 (nm := "ROUND") hC hGE hS ⟨by decide, rfl⟩ w_4 dX6_spoolStatement_48 ?_
        replace hf := obE hf
        obtain ⟨z19, hz19, hf⟩ := hf
        obtain ⟨r21, S20⟩ := z19
        replace hf := ltE (ltE hf r21 rfl) S20 rfl
        refine x_callV (As := [.ref (gen g 2)]) (rest := []) (o := (some (.int r21))) (S1 := S20) hC hl.1 hW hS hGs hA tp0 rfl (show vwCl[5]? = some (RX6, TX6, 10) ∧ ob 5 from ⟨rfl, by decide⟩) (c_X6_take l g ad n K H.size F S16 p0 2 tp0 (by decide) r21 S20 hz19) (cwV 1 hts gX6_spoolStatement_X6_take rfl rfl rfl (by decide +kernel) ⟨Nat.le_of_ble_eq_true rfl, Nat.le_of_ble_eq_true rfl⟩) rfl rfl (Nat.le_of_ble_eq_true rfl) dX6_spoolStatement_51 ⟨Nat.le_of_ble_eq_true rfl, Nat.le_of_ble_eq_true rfl⟩ (fun H locs hPz19 hW hS => ?_)
        refine W.eq (g2 := F0 m 54 ls [.int r21]) rfl ?_
        refine lv_if_ne (tgt := 59) hx hb dX6_spoolStatement_54 (by decide) (fun c23 => ?_) (fun c23 => ?_)
        · replace hf := ifT c23 hf
          refine lv_aload_n hx hb dX6_spoolStatement_59 rfl (lv_at hl 0 rfl) ?_
          replace hf := obE hf
          obtain ⟨j24, qj24, hf⟩ := hf
          have tj24 := x_rt hW qj24 6 ⟨by decide, rfl⟩
          refine x_getr 501 (ci := 5) (C := RX6) (T := TX6) (N := 10) 1 hC hinX6 hW tp0 rfl rfl ⟨by decide, by decide, rfl, rfl⟩ rfl w_2 dX6_spoolStatement_60 qj24 ?_
          refine lv_aload_n hx hb dX6_spoolStatement_63 rfl (lv_at hl 0 rfl) ?_
          refine lv_iconst (v := 1) hx hb dX6_spoolStatement_64 (by decide) ?_
          refine lv_bipush (v := 30) hx hb dX6_spoolStatement_65 (by decide) ?_
          replace hf := obE hf
          obtain ⟨z25, hz25, hf⟩ := hf
          obtain ⟨r27, S26⟩ := z25
          replace hf := ltE (ltE hf r27 rfl) S26 rfl
          refine x_callV (As := [.int 1, .int 30]) (rest := [.ref (ad j24)]) (o := (some (.int r27))) (S1 := S26) hC hl.1 hW hS hGs hA tp0 rfl (show vwCl[5]? = some (RX6, TX6, 10) ∧ ob 5 from ⟨rfl, by decide⟩) (c_X6_takeNumber l g ad n K H.size F S20 p0 ((1 : Int32)) ((30 : Int32)) tp0 r27 S26 hz25) (cwV 2 hts gX6_spoolStatement_X6_takeNumber rfl rfl rfl (by decide +kernel) ⟨Nat.le_of_ble_eq_true rfl, Nat.le_of_ble_eq_true rfl⟩) rfl rfl (Nat.le_of_ble_eq_true rfl) dX6_spoolStatement_67 ⟨Nat.le_of_ble_eq_true rfl, Nat.le_of_ble_eq_true rfl⟩ (fun H locs hPz25 hW hS => ?_)
          refine W.eq (g2 := F0 m 70 ls [.int r27, .ref (ad j24)]) rfl ?_
          refine x_putiN 601 (ci := 6) (C := RX7) (T := TX7) (N := 16) (v := r27) (ty := .int) 1 hC hinX7 tyX7_ok nmX7 hW hS tj24 rfl rfl ⟨by decide, by decide, rfl, rfl⟩ rfl w_5 rfl (by decide +kernel) rfl rfl dX6_spoolStatement_70 (fun S29 H locs eS29 hW hS => ?_)
          replace hf := ltE hf S29 eS29
          refine lv_aload_n hx hb dX6_spoolStatement_73 rfl (lv_at hl 0 rfl) ?_
          replace hf := obE hf
          obtain ⟨j30, qj30, hf⟩ := hf
          have tj30 := x_rt hW qj30 6 ⟨by decide, rfl⟩
          refine x_getr 501 (ci := 5) (C := RX6) (T := TX6) (N := 10) 1 hC hinX6 hW tp0 rfl rfl ⟨by decide, by decide, rfl, rfl⟩ rfl w_2 dX6_spoolStatement_74 qj30 ?_
          refine x_getiN 601 (ci := 6) (C := RX7) (T := TX7) (N := 16) 1 hC hinX7 hW tj30 rfl rfl ⟨by decide, by decide, rfl, rfl⟩ rfl w_5 dX6_spoolStatement_77 ?_
          refine lv_iconst (v := -1) hx hb dX6_spoolStatement_80 (by decide) ?_
          refine lv_icmp_eq (tgt := 97) hx hb dX6_spoolStatement_81 (by decide) (fun c31 => ?_) (fun c31 => ?_)
          · replace hf := ifT c31 hf
            refine lv_iconst (v := 0) hx hb dX6_spoolStatement_97 (by decide) ?_
            obtain ⟨e1, e2⟩ := so2 hf
            subst e1
            subst e2
            exact W.zret (v := 0) hx hb hr rfl (fun t ht hWm => ⟨⟨rfl, by unfold QB; rw [ht]; exact ⟨hW, trivial⟩⟩, hS.F ht⟩) hS.2.2 dX6_spoolStatement_98 hlk
          · replace hf := ifF c31 hf
            refine lv_aload_n hx hb dX6_spoolStatement_84 rfl (lv_at hl 0 rfl) ?_
            refine lv_bipush (v := 59) hx hb dX6_spoolStatement_85 (by decide) ?_
            replace hf := obE hf
            obtain ⟨z32, hz32, hf⟩ := hf
            obtain ⟨r34, S33⟩ := z32
            replace hf := ltE (ltE hf r34 rfl) S33 rfl
            refine x_callV (As := [.int 59]) (rest := []) (o := (some (.int r34))) (S1 := S33) hC hl.1 hW hS hGs hA tp0 rfl (show vwCl[5]? = some (RX6, TX6, 10) ∧ ob 5 from ⟨rfl, by decide⟩) (c_X6_takeSymbol l g ad n K H.size F S29 p0 ((59 : Int32)) tp0 r34 S33 hz32) (cwV 1 hts gX6_spoolStatement_X6_takeSymbol rfl rfl rfl (by decide +kernel) ⟨Nat.le_of_ble_eq_true rfl, Nat.le_of_ble_eq_true rfl⟩) rfl rfl (Nat.le_of_ble_eq_true rfl) dX6_spoolStatement_87 ⟨Nat.le_of_ble_eq_true rfl, Nat.le_of_ble_eq_true rfl⟩ (fun H locs hPz32 hW hS => ?_)
            refine W.eq (g2 := F0 m 90 ls [.int r34]) rfl ?_
            refine lv_if_eq (tgt := 97) hx hb dX6_spoolStatement_90 (by decide) (fun c36 => ?_) (fun c36 => ?_)
            · replace hf := ifT c36 hf
              refine lv_iconst (v := 0) hx hb dX6_spoolStatement_97 (by decide) ?_
              obtain ⟨e1, e2⟩ := so2 hf
              subst e1
              subst e2
              exact W.zret (v := 0) hx hb hr rfl (fun t ht hWm => ⟨⟨rfl, by unfold QB; rw [ht]; exact ⟨hW, trivial⟩⟩, hS.F ht⟩) hS.2.2 dX6_spoolStatement_98 hlk
            · replace hf := ifF c36 hf
              refine lv_iconst (v := 1) hx hb dX6_spoolStatement_93 (by decide) ?_
              refine lv_goto (tgt := 98) hx hb dX6_spoolStatement_94 (by decide) ?_
              obtain ⟨e1, e2⟩ := so2 hf
              subst e1
              subst e2
              exact W.zret (v := 1) hx hb hr rfl (fun t ht hWm => ⟨⟨rfl, by unfold QB; rw [ht]; exact ⟨hW, trivial⟩⟩, hS.F ht⟩) hS.2.2 dX6_spoolStatement_98 hlk
        · replace hf := ifF (fun q => q c23) hf
          refine lv_iconst (v := 0) hx hb dX6_spoolStatement_57 (by decide) ?_
          obtain ⟨e1, e2⟩ := so2 hf
          subst e1
          subst e2
          exact W.zret (v := 0) hx hb hr rfl (fun t ht hWm => ⟨⟨rfl, by unfold QB; rw [ht]; exact ⟨hW, trivial⟩⟩, hS.F ht⟩) hS.2.2 dX6_spoolStatement_58 hlk
    · replace hf := ifF (fun q => q c10) hf
      refine lv_iconst (v := 0) hx hb dX6_spoolStatement_20 (by decide) ?_
      obtain ⟨e1, e2⟩ := so2 hf
      subst e1
      subst e2
      exact W.zret (v := 0) hx hb hr rfl (fun t ht hWm => ⟨⟨rfl, by unfold QB; rw [ht]; exact ⟨hW, trivial⟩⟩, hS.F ht⟩) hS.2.2 dX6_spoolStatement_21 hlk
set_option maxHeartbeats 4000000 in
set_option maxRecDepth 100000 in
theorem c_X5_isFull (l : Launch) (g : GP) (ad : Nat → Nat) (n : Nat) (K : Nat → Nat) (sz F : Nat) (S0 : St) (p0 : Nat) (tp0 : p0 < n ∧ K p0 = 4) (r9 : Int32) (S9 : St) (hf : f_X5_isFull F S0 p0 = some (r9, S9)) : Met l yX5_isFull wsX5_isFull { frames := 0, cells := 0, slots := 0, locals := 0 } (va_Pc [.ref (ad p0)] (PB g ad n K S0 sz)) (QR (some (.int r9)) (QB g ad n K S9 (dA ad n sz) (True)) (dA ad n sz)) 0 0 (dA ad n sz) := by
  refine Met.ofW (cc := cX5_isFull) (maxL := 1) (ret := (some .boolean)) (by decide) rfl ?_
  intro p e s m args below meth c s₁ B hml hv
  obtain ⟨rfl, hsz, hW, hK, hGs⟩ := x_start hv
  subst hsz
  have hx := B.exec
  have hb := B.bytes
  have hr := B.returns
  have hts := atoms_spec (ws := wsX5_isFull) B.pre
  have hown : s.vm.findClass RX5 = some m.cls := findClass_of_methodNamed B.named
  have hlk := B.notSynchronized
  have hC : Cx g p s m _ c cX5_isFull RX5 wsX5_isFull 1 := ⟨hx, hb, hml, hown, hts, hK⟩
  have hA : ∀ q : Nat, s.heap.size ≤ q → dA ad n s.heap.size q := fun q h => Or.inr h
  have hS : va_S (dA ad n s.heap.size) s.heap s.heap [] := va_S.rf
  have hl := lv_entry ([.ref (ad p0)]) (n := 1) (Nat.le_of_ble_eq_true rfl)
  rw [lg_entry_eq]
  generalize (lg_sl ([.ref (ad p0)]) ++ List.replicate (1 - (lg_sl ([.ref (ad p0)])).length) Slot.unset).toArray = ls at hl ⊢
  have hl : lv_has ls 1 [(0, .ref (ad p0))] := hl
  have hinX5 : ∀ w ∈ wsX50, w ∈ wsX5_isFull := by decide +kernel
  have w_0 := hts (.fieldLink RX5 21 "MailSpool$Names" "size" "I") (by decide +kernel)
  have w_1 := hts (.fieldLink RX5 15 "MailSpool$Names" "words" "[J") (by decide +kernel)
  have hGE := hGs.2.2.2.1
  have hGM := hGs.2.2.2.2
  unfold f_X5_isFull at hf
  refine lv_aload_n hx hb dX5_isFull_0 rfl (lv_at hl 0 rfl) ?_
  refine x_geti 401 (ci := 4) (C := RX5) (T := TX5) (N := 2) 1 hC hinX5 hW tp0 rfl rfl ⟨by decide, by decide, rfl, rfl⟩ rfl w_0 dX5_isFull_1 ?_
  refine lv_aload_n hx hb dX5_isFull_4 rfl (lv_at hl 0 rfl) ?_
  replace hf := obE hf
  obtain ⟨j1, qj1, hf⟩ := hf
  have tj1 := x_rt hW qj1 13 ⟨by decide, rfl⟩
  refine x_getr 400 (ci := 4) (C := RX5) (T := TX5) (N := 2) 0 hC hinX5 hW tp0 rfl rfl ⟨by decide, by decide, rfl, rfl⟩ rfl w_1 dX5_isFull_5 qj1 ?_
  refine x_alen hC hW tj1 rfl ⟨by decide, by decide⟩ dX5_isFull_8 ?_
  refine lv_icmp_lt (tgt := 16) hx hb dX5_isFull_9 (by decide) (fun c2 => ?_) (fun c2 => ?_)
  · replace hf := ifT c2 hf
    refine lv_iconst (v := 0) hx hb dX5_isFull_16 (by decide) ?_
    obtain ⟨e1, e2⟩ := so2 hf
    subst e1
    subst e2
    exact W.zret (v := 0) hx hb hr rfl (fun t ht hWm => ⟨⟨rfl, by unfold QB; rw [ht]; exact ⟨hW, trivial⟩⟩, hS.F ht⟩) hS.2.2 dX5_isFull_17 hlk
  · replace hf := ifF c2 hf
    refine lv_iconst (v := 1) hx hb dX5_isFull_12 (by decide) ?_
    refine lv_goto (tgt := 17) hx hb dX5_isFull_13 (by decide) ?_
    obtain ⟨e1, e2⟩ := so2 hf
    subst e1
    subst e2
    exact W.zret (v := 1) hx hb hr rfl (fun t ht hWm => ⟨⟨rfl, by unfold QB; rw [ht]; exact ⟨hW, trivial⟩⟩, hS.F ht⟩) hS.2.2 dX5_isFull_17 hlk
set_option maxHeartbeats 4000000 in
set_option maxRecDepth 100000 in
theorem c_X6_isName (l : Launch) (g : GP) (ad : Nat → Nat) (n : Nat) (K : Nat → Nat) (sz F : Nat) (S0 : St) (p0 : Nat) (tp0 : p0 < n ∧ K p0 = 5) (r9 : Int32) (S9 : St) (hf : f_X6_isName F S0 p0 = some (r9, S9)) : Met l yX6_isName wsX6_isName { frames := 0, cells := 0, slots := 0, locals := 0 } (va_Pc [.ref (ad p0)] (PB g ad n K S0 sz)) (QR (some (.int r9)) (QB g ad n K S9 (dA ad n sz) (True)) (dA ad n sz)) 0 0 (dA ad n sz) := by
  refine Met.ofW (cc := cX6_isName) (maxL := 1) (ret := (some .boolean)) (by decide) rfl ?_
  intro p e s m args below meth c s₁ B hml hv
  obtain ⟨rfl, hsz, hW, hK, hGs⟩ := x_start hv
  subst hsz
  have hx := B.exec
  have hb := B.bytes
  have hr := B.returns
  have hts := atoms_spec (ws := wsX6_isName) B.pre
  have hown : s.vm.findClass RX6 = some m.cls := findClass_of_methodNamed B.named
  have hlk := B.notSynchronized
  have hC : Cx g p s m _ c cX6_isName RX6 wsX6_isName 1 := ⟨hx, hb, hml, hown, hts, hK⟩
  have hA : ∀ q : Nat, s.heap.size ≤ q → dA ad n s.heap.size q := fun q h => Or.inr h
  have hS : va_S (dA ad n s.heap.size) s.heap s.heap [] := va_S.rf
  have hl := lv_entry ([.ref (ad p0)]) (n := 1) (Nat.le_of_ble_eq_true rfl)
  rw [lg_entry_eq]
  generalize (lg_sl ([.ref (ad p0)]) ++ List.replicate (1 - (lg_sl ([.ref (ad p0)])).length) Slot.unset).toArray = ls at hl ⊢
  have hl : lv_has ls 1 [(0, .ref (ad p0))] := hl
  have hinX6 : ∀ w ∈ wsX60, w ∈ wsX6_isName := by decide +kernel
  have w_0 := hts (.fieldLink RX6 38 "MailSpool$Parser" "kind" "I") (by decide +kernel)
  have w_1 := hts (.fieldLink RX6 41 "MailSpool$Parser" "keyword" "LMailSpool$Keyword;") (by decide +kernel)
  have w_2 := hts (.fieldLink RX6 190 "MailSpool$Parser" "word" "J") (by decide +kernel)
  have w_3 := hts (.constantLong RX6 194 (387420489)) (by decide +kernel)
  have hGE := hGs.2.2.2.1
  have hGM := hGs.2.2.2.2
  unfold f_X6_isName at hf
  refine lv_aload_n hx hb dX6_isName_0 rfl (lv_at hl 0 rfl) ?_
  refine x_geti 506 (ci := 5) (C := RX6) (T := TX6) (N := 10) 6 hC hinX6 hW tp0 rfl rfl ⟨by decide, by decide, rfl, rfl⟩ rfl w_0 dX6_isName_1 ?_
  refine lv_iconst (v := 1) hx hb dX6_isName_4 (by decide) ?_
  refine lv_icmp_ne (tgt := 39) hx hb dX6_isName_5 (by decide) (fun c1 => ?_) (fun c1 => ?_)
  · replace hf := ifT c1 hf
    refine lv_iconst (v := 0) hx hb dX6_isName_39 (by decide) ?_
    obtain ⟨e1, e2⟩ := so2 hf
    subst e1
    subst e2
    exact W.zret (v := 0) hx hb hr rfl (fun t ht hWm => ⟨⟨rfl, by unfold QB; rw [ht]; exact ⟨hW, trivial⟩⟩, hS.F ht⟩) hS.2.2 dX6_isName_40 hlk
  · replace hf := ifF (fun q => q c1) hf
    refine lv_aload_n hx hb dX6_isName_8 rfl (lv_at hl 0 rfl) ?_
    refine x_gete 508 (ci := 5) (C := RX6) (T := TX6) (N := 10) 8 hC hinX6 hW tp0 rfl rfl ⟨by decide, by decide, rfl, rfl⟩ rfl w_1 dX6_isName_9 ?_
    refine x_ifnonnullE (tgt := 39) hC dX6_isName_12 (by decide) (fun c2 => ?_) (fun c2 => ?_)
    · replace hf := ifT c2 hf
      refine lv_iconst (v := 0) hx hb dX6_isName_39 (by decide) ?_
      obtain ⟨e1, e2⟩ := so2 hf
      subst e1
      subst e2
      exact W.zret (v := 0) hx hb hr rfl (fun t ht hWm => ⟨⟨rfl, by unfold QB; rw [ht]; exact ⟨hW, trivial⟩⟩, hS.F ht⟩) hS.2.2 dX6_isName_40 hlk
    · replace hf := ifF (fun q => q c2) hf
      refine lv_aload_n hx hb dX6_isName_15 rfl (lv_at hl 0 rfl) ?_
      refine x_getl 507 (ci := 5) (C := RX6) (T := TX6) (N := 10) 7 hC hinX6 hW tp0 rfl rfl ⟨by decide, by decide, rfl, rfl⟩ rfl w_2 dX6_isName_16 ?_
      refine lv_lconst (v := 0) hx hb dX6_isName_19 (by decide) ?_
      refine W.lcmp hx hb dX6_isName_20 ?_
      refine lv_if_le (tgt := 39) hx hb dX6_isName_21 (by decide) (fun c3 => ?_) (fun c3 => ?_)
      · replace hf := ifT c3 hf
        refine lv_iconst (v := 0) hx hb dX6_isName_39 (by decide) ?_
        obtain ⟨e1, e2⟩ := so2 hf
        subst e1
        subst e2
        exact W.zret (v := 0) hx hb hr rfl (fun t ht hWm => ⟨⟨rfl, by unfold QB; rw [ht]; exact ⟨hW, trivial⟩⟩, hS.F ht⟩) hS.2.2 dX6_isName_40 hlk
      · replace hf := ifF c3 hf
        refine lv_aload_n hx hb dX6_isName_24 rfl (lv_at hl 0 rfl) ?_
        refine x_getl 507 (ci := 5) (C := RX6) (T := TX6) (N := 10) 7 hC hinX6 hW tp0 rfl rfl ⟨by decide, by decide, rfl, rfl⟩ rfl w_2 dX6_isName_25 ?_
        refine lv_ldc2 (v := (387420489)) hx hb hown w_3 dX6_isName_28 ?_
        refine W.lcmp hx hb dX6_isName_31 ?_
        refine lv_if_ge (tgt := 39) hx hb dX6_isName_32 (by decide) (fun c4 => ?_) (fun c4 => ?_)
        · replace hf := ifT c4 hf
          refine lv_iconst (v := 0) hx hb dX6_isName_39 (by decide) ?_
          obtain ⟨e1, e2⟩ := so2 hf
          subst e1
          subst e2
          exact W.zret (v := 0) hx hb hr rfl (fun t ht hWm => ⟨⟨rfl, by unfold QB; rw [ht]; exact ⟨hW, trivial⟩⟩, hS.F ht⟩) hS.2.2 dX6_isName_40 hlk
        · replace hf := ifF c4 hf
          refine lv_iconst (v := 1) hx hb dX6_isName_35 (by decide) ?_
          refine lv_goto (tgt := 40) hx hb dX6_isName_36 (by decide) ?_
          obtain ⟨e1, e2⟩ := so2 hf
          subst e1
          subst e2
          exact W.zret (v := 1) hx hb hr rfl (fun t ht hWm => ⟨⟨rfl, by unfold QB; rw [ht]; exact ⟨hW, trivial⟩⟩, hS.F ht⟩) hS.2.2 dX6_isName_40 hlk
set_option maxHeartbeats 4000000 in
set_option maxRecDepth 100000 in
theorem c_X5_numberOf (l : Launch) (g : GP) (ad : Nat → Nat) (n : Nat) (K : Nat → Nat) (sz F : Nat) (S0 : St) (p0 : Nat) (p1 : Int64) (tp0 : p0 < n ∧ K p0 = 4) (r9 : Int32) (S9 : St) (hf : f_X5_numberOf F S0 p0 p1 = some (r9, S9)) : Met l yX5_numberOf wsX5_numberOf { frames := 0, cells := 0, slots := 0, locals := 0 } (va_Pc [.ref (ad p0), .long (p1)] (PB g ad n K S0 sz)) (QR (some (.int r9)) (QB g ad n K S9 (dA ad n sz) (True)) (dA ad n sz)) 0 0 (dA ad n sz) := by
  refine Met.ofW (cc := cX5_numberOf) (maxL := 4) (ret := (some .int)) (by decide) rfl ?_
  intro p e s m args below meth c s₁ B hml hv
  obtain ⟨rfl, hsz, hW, hK, hGs⟩ := x_start hv
  subst hsz
  have hx := B.exec
  have hb := B.bytes
  have hr := B.returns
  have hts := atoms_spec (ws := wsX5_numberOf) B.pre
  have hown : s.vm.findClass RX5 = some m.cls := findClass_of_methodNamed B.named
  have hlk := B.notSynchronized
  have hC : Cx g p s m _ c cX5_numberOf RX5 wsX5_numberOf 4 := ⟨hx, hb, hml, hown, hts, hK⟩
  have hA : ∀ q : Nat, s.heap.size ≤ q → dA ad n s.heap.size q := fun q h => Or.inr h
  have hS : va_S (dA ad n s.heap.size) s.heap s.heap [] := va_S.rf
  have hl := lv_entry ([.ref (ad p0), .long (p1)]) (n := 4) (Nat.le_of_ble_eq_true rfl)
  rw [lg_entry_eq]
  generalize (lg_sl ([.ref (ad p0), .long (p1)]) ++ List.replicate (4 - (lg_sl ([.ref (ad p0), .long (p1)])).length) Slot.unset).toArray = ls at hl ⊢
  have hl : lv_has ls 4 [(0, .ref (ad p0)), (1, .long (p1))] := hl
  have hinX5 : ∀ w ∈ wsX50, w ∈ wsX5_numberOf := by decide +kernel
  have w_0 := hts (.fieldLink RX5 21 "MailSpool$Names" "size" "I") (by decide +kernel)
  have w_1 := hts (.fieldLink RX5 15 "MailSpool$Names" "words" "[J") (by decide +kernel)
  have hGE := hGs.2.2.2.1
  have hGM := hGs.2.2.2.2
  have L2 : ∀ (fu2 : Nat) (S0 : St) (v0 : Nat) (v1 : Int64) (v3 : Int32) (tv0 : v0 < n ∧ K v0 = 4) (H : Heap) (locs : List Loc) (ls : Array Slot), f_X5_numberOf_L2 F fu2 S0 v0 v1 v3 = some (r9, S9) → Wb g ad n K S0 (dA ad n s.heap.size) H → va_S (dA ad n s.heap.size) s.heap H locs → lv_has ls 4 [(0, .ref (ad v0)), (1, .long (v1)), (3, .int v3)] → W p l e (headSpec wsX5_numberOf { frames := 0, cells := 0, slots := 0, locals := 0 }).room s m (List.toArray [.ref (ad p0), .long (p1)]) below meth c H locs 0 0 (MQ below (QR (some (.int r9)) (QB g ad n K S9 (dA ad n s.heap.size) (True)) (dA ad n s.heap.size)) (List.toArray [.ref (ad p0), .long (p1)]) s 0 0 (dA ad n s.heap.size)) (F0 m 2 ls []) := by
    intro fu2
    induction fu2 with
    | zero =>
      intro S0 v0 v1 v3 tv0 H locs ls hf
      cases hf
    | succ fu2 ih2 =>
      intro S0 v0 v1 v3 tv0 H locs ls hf hW hS hl
      unfold f_X5_numberOf_L2 at hf
      refine lv_iload_n hx hb dX5_numberOf_2 rfl (lv_at hl 2 rfl) ?_
      refine lv_aload_n hx hb dX5_numberOf_3 rfl (lv_at hl 0 rfl) ?_
      refine x_geti 401 (ci := 4) (C := RX5) (T := TX5) (N := 2) 1 hC hinX5 hW tv0 rfl rfl ⟨by decide, by decide, rfl, rfl⟩ rfl w_0 dX5_numberOf_4 ?_
      refine lv_icmp_ge (tgt := 38) hx hb dX5_numberOf_7 (by decide) (fun c8 => ?_) (fun c8 => ?_)
      · replace hf := ifT c8 hf
        refine lv_iconst (v := -1) hx hb dX5_numberOf_38 (by decide) ?_
        obtain ⟨e1, e2⟩ := so2 hf
        subst e1
        subst e2
        exact W.iret (v := (-1)) hx hb hr (fun t ht hWm => ⟨⟨rfl, by unfold QB; rw [ht]; exact ⟨hW, trivial⟩⟩, hS.F ht⟩) hS.2.2 dX5_numberOf_39 hlk
      · replace hf := ifF c8 hf
        refine lv_iload_n hx hb dX5_numberOf_10 rfl (lv_at hl 2 rfl) ?_
        refine lv_aload_n hx hb dX5_numberOf_11 rfl (lv_at hl 0 rfl) ?_
        replace hf := obE hf
        obtain ⟨j9, qj9, hf⟩ := hf
        have tj9 := x_rt hW qj9 13 ⟨by decide, rfl⟩
        refine x_getr 400 (ci := 4) (C := RX5) (T := TX5) (N := 2) 0 hC hinX5 hW tv0 rfl rfl ⟨by decide, by decide, rfl, rfl⟩ rfl w_1 dX5_numberOf_12 qj9 ?_
        refine x_alen hC hW tj9 rfl ⟨by decide, by decide⟩ dX5_numberOf_15 ?_
        refine lv_icmp_ge (tgt := 38) hx hb dX5_numberOf_16 (by decide) (fun c10 => ?_) (fun c10 => ?_)
        · replace hf := ifT c10 hf
          refine lv_iconst (v := -1) hx hb dX5_numberOf_38 (by decide) ?_
          obtain ⟨e1, e2⟩ := so2 hf
          subst e1
          subst e2
          exact W.iret (v := (-1)) hx hb hr (fun t ht hWm => ⟨⟨rfl, by unfold QB; rw [ht]; exact ⟨hW, trivial⟩⟩, hS.F ht⟩) hS.2.2 dX5_numberOf_39 hlk
        · replace hf := ifF c10 hf
          refine lv_aload_n hx hb dX5_numberOf_19 rfl (lv_at hl 0 rfl) ?_
          replace hf := obE hf
          obtain ⟨j11, qj11, hf⟩ := hf
          have tj11 := x_rt hW qj11 13 ⟨by decide, rfl⟩
          refine x_getr 400 (ci := 4) (C := RX5) (T := TX5) (N := 2) 0 hC hinX5 hW tv0 rfl rfl ⟨by decide, by decide, rfl, rfl⟩ rfl w_1 dX5_numberOf_20 qj11 ?_
          refine lv_iload_n hx hb dX5_numberOf_23 rfl (lv_at hl 2 rfl) ?_
          replace hf := ckiE hf
          obtain ⟨h12, hf⟩ := hf
          refine x_lald hC hW tj11 rfl rfl h12 dX5_numberOf_24 ?_
          refine lv_lload_n hx hb dX5_numberOf_25 rfl (lv_at hl 1 rfl) ?_
          refine W.lcmp hx hb dX5_numberOf_26 ?_
          refine lv_if_ne (tgt := 32) hx hb dX5_numberOf_27 (by decide) (fun c13 => ?_) (fun c13 => ?_)
          · replace hf := ifT c13 hf
            obtain ⟨x14, ex14⟩ : ∃ z : Int32, z = v3 + 1 := ⟨_, rfl⟩
            replace hf := ltE hf x14 ex14
            refine lv_iinc (v := x14) (lv' := [(3, .int x14), (0, .ref (ad v0)), (1, .long (v1))]) hx hb dX5_numberOf_32 hl (k := 2) rfl (by rw [ex14]; rfl) (by decide) rfl (fun ls hl => ?_)
            refine lv_goto (tgt := 2) hx hb dX5_numberOf_35 (by decide) ?_
            exact ih2 S0 v0 v1 x14 tv0 _ _ _ hf hW hS (lv_sub hl [1, 2, 0] rfl)
          · replace hf := ifF (fun q => q c13) hf
            refine lv_iload_n hx hb dX5_numberOf_30 rfl (lv_at hl 2 rfl) ?_
            obtain ⟨e1, e2⟩ := so2 hf
            subst e1
            subst e2
            exact W.iret (v := v3) hx hb hr (fun t ht hWm => ⟨⟨rfl, by unfold QB; rw [ht]; exact ⟨hW, trivial⟩⟩, hS.F ht⟩) hS.2.2 dX5_numberOf_31 hlk
  unfold f_X5_numberOf at hf
  refine lv_iconst (v := 0) hx hb dX5_numberOf_0 (by decide) ?_
  refine lv_istore_n (lv' := [(3, .int 0), (0, .ref (ad p0)), (1, .long (p1))]) hx hb dX5_numberOf_1 rfl hl (by decide) rfl (fun ls hl => ?_)
  exact L2 F S0 p0 p1 0 tp0 _ _ _ hf hW hS (lv_sub hl [1, 2, 0] rfl)
set_option maxHeartbeats 4000000 in
set_option maxRecDepth 100000 in
theorem c_X6_takeNewName (l : Launch) (g : GP) (ad : Nat → Nat) (n : Nat) (K : Nat → Nat) (sz F : Nat) (S0 : St) (p0 : Nat) (p1 : Nat) (p2 : Nat) (tp0 : p0 < n ∧ K p0 = 5) (tp1 : p1 < n ∧ K p1 = 4) (tp2 : p2 < n ∧ K p2 = 4) (r9 : Int64) (S9 : St) (hf : f_X6_takeNewName F S0 p0 p1 p2 = some (r9, S9)) : Met l yX6_takeNewName wsX6_takeNewName { frames := 3, cells := 0, slots := 0, locals := 67 } (va_Pc [.ref (ad p0), .ref (ad p1), .ref (ad p2)] (PB g ad n K S0 sz)) (QR (some (.long r9)) (QB g ad n K S9 (dA ad n sz) (True)) (dA ad n sz)) 0 0 (dA ad n sz) := by
  refine Met.ofW (cc := cX6_takeNewName) (maxL := 5) (ret := (some .long)) (by decide) rfl ?_
  intro p e s m args below meth c s₁ B hml hv
  obtain ⟨rfl, hsz, hW, hK, hGs⟩ := x_start hv
  subst hsz
  have hx := B.exec
  have hb := B.bytes
  have hr := B.returns
  have hts := atoms_spec (ws := wsX6_takeNewName) B.pre
  have hown : s.vm.findClass RX6 = some m.cls := findClass_of_methodNamed B.named
  have hlk := B.notSynchronized
  have hC : Cx g p s m _ c cX6_takeNewName RX6 wsX6_takeNewName 5 := ⟨hx, hb, hml, hown, hts, hK⟩
  have hA : ∀ q : Nat, s.heap.size ≤ q → dA ad n s.heap.size q := fun q h => Or.inr h
  have hS : va_S (dA ad n s.heap.size) s.heap s.heap [] := va_S.rf
  have hl := lv_entry ([.ref (ad p0), .ref (ad p1), .ref (ad p2)]) (n := 5) (Nat.le_of_ble_eq_true rfl)
  rw [lg_entry_eq]
  generalize (lg_sl ([.ref (ad p0), .ref (ad p1), .ref (ad p2)]) ++ List.replicate (5 - (lg_sl ([.ref (ad p0), .ref (ad p1), .ref (ad p2)])).length) Slot.unset).toArray = ls at hl ⊢
  have hl : lv_has ls 5 [(0, .ref (ad p0)), (1, .ref (ad p1)), (2, .ref (ad p2))] := hl
  have hinX6 : ∀ w ∈ wsX60, w ∈ wsX6_takeNewName := by decide +kernel
  have w_0 := hts (.fieldLink RX6 190 "MailSpool$Parser" "word" "J") (by decide +kernel)
  have hGE := hGs.2.2.2.1
  have hGM := hGs.2.2.2.2
  have L39 : ∀ (S0 : St) (v0 : Nat) (tv0 : v0 < n ∧ K v0 = 5) (H : Heap) (locs : List Loc) (ls : Array Slot), f_X6_takeNewName_L39 F S0 v0 = some (r9, S9) → Wb g ad n K S0 (dA ad n s.heap.size) H → va_S (dA ad n s.heap.size) s.heap H locs → lv_has ls 5 [(0, .ref (ad v0))] → W p l e (headSpec wsX6_takeNewName { frames := 3, cells := 0, slots := 0, locals := 67 }).room s m (List.toArray [.ref (ad p0), .ref (ad p1), .ref (ad p2)]) below meth c H locs 0 0 (MQ below (QR (some (.long r9)) (QB g ad n K S9 (dA ad n s.heap.size) (True)) (dA ad n s.heap.size)) (List.toArray [.ref (ad p0), .ref (ad p1), .ref (ad p2)]) s 0 0 (dA ad n s.heap.size)) (F0 m 39 ls []) := by
    intro S0 v0 tv0 H locs ls hf hW hS hl
    unfold f_X6_takeNewName_L39 at hf
    refine lv_aload_n hx hb dX6_takeNewName_39 rfl (lv_at hl 0 rfl) ?_
    refine lv_iconst (v := 3) hx hb dX6_takeNewName_40 (by decide) ?_
    replace hf := obE hf
    obtain ⟨z5, hz5, hf⟩ := hf
    obtain ⟨r7, S6⟩ := z5
    replace hf := ltE (ltE hf r7 rfl) S6 rfl
    refine x_callV (As := [.int 3]) (rest := []) (o := (some (.int r7))) (S1 := S6) hC hl.1 hW hS hGs hA tv0 rfl (show vwCl[5]? = some (RX6, TX6, 10) ∧ ob 5 from ⟨rfl, by decide⟩) (c_X6_fail l g ad n K H.size F S0 v0 ((3 : Int32)) tv0 r7 S6 hz5) (cwV 1 hts gX6_takeNewName_X6_fail rfl rfl rfl (by decide +kernel) ⟨Nat.le_of_ble_eq_true rfl, Nat.le_of_ble_eq_true rfl⟩) rfl rfl (Nat.le_of_ble_eq_true rfl) dX6_takeNewName_41 ⟨Nat.le_of_ble_eq_true rfl, Nat.le_of_ble_eq_true rfl⟩ (fun H locs hPz5 hW hS => ?_)
    refine W.eq (g2 := F0 m 44 ls [.int r7]) rfl ?_
    refine lv_pop hx hb dX6_takeNewName_44 rfl ?_
    refine lv_lconst (v := 0) hx hb dX6_takeNewName_45 (by decide) ?_
    obtain ⟨e1, e2⟩ := so2 hf
    subst e1
    subst e2
    exact W.lret (v := 0) hx hb hr (fun t ht hWm => ⟨⟨rfl, by unfold QB; rw [ht]; exact ⟨hW, trivial⟩⟩, hS.F ht⟩) hS.2.2 dX6_takeNewName_46 hlk
  unfold f_X6_takeNewName at hf
  refine lv_aload_n hx hb dX6_takeNewName_0 rfl (lv_at hl 0 rfl) ?_
  replace hf := obE hf
  obtain ⟨z9, hz9, hf⟩ := hf
  obtain ⟨r11, S10⟩ := z9
  replace hf := ltE (ltE hf r11 rfl) S10 rfl
  refine x_callV (As := []) (rest := []) (o := (some (.int r11))) (S1 := S10) hC hl.1 hW hS hGs hA tp0 rfl (show vwCl[5]? = some (RX6, TX6, 10) ∧ ob 5 from ⟨rfl, by decide⟩) (c_X6_isName l g ad n K s.heap.size F S0 p0 tp0 r11 S10 hz9) (cwV 0 hts gX6_takeNewName_X6_isName rfl rfl rfl (by decide +kernel) ⟨Nat.le_of_ble_eq_true rfl, Nat.le_of_ble_eq_true rfl⟩) rfl rfl (Nat.le_of_ble_eq_true rfl) dX6_takeNewName_1 ⟨Nat.le_of_ble_eq_true rfl, Nat.le_of_ble_eq_true rfl⟩ (fun H locs hPz9 hW hS => ?_)
  refine W.eq (g2 := F0 m 4 ls [.int r11]) rfl ?_
  refine lv_if_ne (tgt := 15) hx hb dX6_takeNewName_4 (by decide) (fun c13 => ?_) (fun c13 => ?_)
  · replace hf := ifT c13 hf
    refine lv_aload_n hx hb dX6_takeNewName_15 rfl (lv_at hl 1 rfl) ?_
    refine lv_aload_n hx hb dX6_takeNewName_16 rfl (lv_at hl 0 rfl) ?_
    refine x_getl 507 (ci := 5) (C := RX6) (T := TX6) (N := 10) 7 hC hinX6 hW tp0 rfl rfl ⟨by decide, by decide, rfl, rfl⟩ rfl w_0 dX6_takeNewName_17 ?_
    replace hf := obE hf
    obtain ⟨z14, hz14, hf⟩ := hf
    obtain ⟨r16, S15⟩ := z14
    replace hf := ltE (ltE hf r16 rfl) S15 rfl
    refine x_callV (As := [.long (sl S10 507 p0)]) (rest := []) (o := (some (.int r16))) (S1 := S15) hC hl.1 hW hS hGs hA tp1 rfl (show vwCl[4]? = some (RX5, TX5, 2) ∧ ob 4 from ⟨rfl, by decide⟩) (c_X5_numberOf l g ad n K H.size F S10 p1 (sl S10 507 p0) tp1 r16 S15 hz14) (cwV 1 hts gX6_takeNewName_X5_numberOf rfl rfl rfl (by decide +kernel) ⟨Nat.le_of_ble_eq_true rfl, Nat.le_of_ble_eq_true rfl⟩) rfl rfl (Nat.le_of_ble_eq_true rfl) dX6_takeNewName_20 ⟨Nat.le_of_ble_eq_true rfl, Nat.le_of_ble_eq_true rfl⟩ (fun H locs hPz14 hW hS => ?_)
    refine W.eq (g2 := F0 m 23 ls [.int r16]) rfl ?_
    refine lv_iconst (v := -1) hx hb dX6_takeNewName_23 (by decide) ?_
    refine lv_icmp_ne (tgt := 39) hx hb dX6_takeNewName_24 (by decide) (fun c18 => ?_) (fun c18 => ?_)
    · replace hf := ifT c18 hf
      exact L39 S15 p0 tp0 _ _ _ hf hW hS (lv_sub hl [0] rfl)
    · replace hf := ifF (fun q => q c18) hf
      refine lv_aload_n hx hb dX6_takeNewName_27 rfl (lv_at hl 2 rfl) ?_
      refine lv_aload_n hx hb dX6_takeNewName_28 rfl (lv_at hl 0 rfl) ?_
      refine x_getl 507 (ci := 5) (C := RX6) (T := TX6) (N := 10) 7 hC hinX6 hW tp0 rfl rfl ⟨by decide, by decide, rfl, rfl⟩ rfl w_0 dX6_takeNewName_29 ?_
      replace hf := obE hf
      obtain ⟨z19, hz19, hf⟩ := hf
      obtain ⟨r21, S20⟩ := z19
      replace hf := ltE (ltE hf r21 rfl) S20 rfl
      refine x_callV (As := [.long (sl S15 507 p0)]) (rest := []) (o := (some (.int r21))) (S1 := S20) hC hl.1 hW hS hGs hA tp2 rfl (show vwCl[4]? = some (RX5, TX5, 2) ∧ ob 4 from ⟨rfl, by decide⟩) (c_X5_numberOf l g ad n K H.size F S15 p2 (sl S15 507 p0) tp2 r21 S20 hz19) (cwV 1 hts gX6_takeNewName_X5_numberOf rfl rfl rfl (by decide +kernel) ⟨Nat.le_of_ble_eq_true rfl, Nat.le_of_ble_eq_true rfl⟩) rfl rfl (Nat.le_of_ble_eq_true rfl) dX6_takeNewName_32 ⟨Nat.le_of_ble_eq_true rfl, Nat.le_of_ble_eq_true rfl⟩ (fun H locs hPz19 hW hS => ?_)
      refine W.eq (g2 := F0 m 35 ls [.int r21]) rfl ?_
      refine lv_iconst (v := -1) hx hb dX6_takeNewName_35 (by decide) ?_
      refine lv_icmp_eq (tgt := 47) hx hb dX6_takeNewName_36 (by decide) (fun c23 => ?_) (fun c23 => ?_)
      · replace hf := ifT c23 hf
        refine lv_aload_n hx hb dX6_takeNewName_47 rfl (lv_at hl 0 rfl) ?_
        refine x_getl 507 (ci := 5) (C := RX6) (T := TX6) (N := 10) 7 hC hinX6 hW tp0 rfl rfl ⟨by decide, by decide, rfl, rfl⟩ rfl w_0 dX6_takeNewName_48 ?_
        refine lv_topl (fun x24 ex24 => ?_)
        replace hf := ltE hf x24 ex24
        refine lv_lstore_n (lv' := [(3, .long (x24)), (0, .ref (ad p0)), (1, .ref (ad p1)), (2, .ref (ad p2))]) hx hb dX6_takeNewName_51 rfl hl (by decide) rfl (fun ls hl => ?_)
        refine lv_aload_n hx hb dX6_takeNewName_52 rfl (lv_at hl 1 rfl) ?_
        replace hf := obE hf
        obtain ⟨S26, hz25, hf⟩ := hf
        refine x_callV (As := []) (rest := []) (o := none) (S1 := S26) hC hl.1 hW hS hGs hA tp0 rfl (show vwCl[5]? = some (RX6, TX6, 10) ∧ ob 5 from ⟨rfl, by decide⟩) (c_X6_nextToken l g ad n K H.size F S20 p0 tp0 S26 hz25) (cwV 0 hts gX6_takeNewName_X6_nextToken rfl rfl rfl (by decide +kernel) ⟨Nat.le_of_ble_eq_true rfl, Nat.le_of_ble_eq_true rfl⟩) rfl rfl (Nat.le_of_ble_eq_true rfl) dX6_takeNewName_53 ⟨Nat.le_of_ble_eq_true rfl, Nat.le_of_ble_eq_true rfl⟩ (fun H locs hPz25 hW hS => ?_)
        refine W.eq (g2 := F0 m 56 ls []) rfl ?_
        refine lv_lload_n hx hb dX6_takeNewName_56 rfl (lv_at hl 0 rfl) ?_
        obtain ⟨e1, e2⟩ := so2 hf
        subst e1
        subst e2
        exact W.lret (v := x24) hx hb hr (fun t ht hWm => ⟨⟨rfl, by unfold QB; rw [ht]; exact ⟨hW, trivial⟩⟩, hS.F ht⟩) hS.2.2 dX6_takeNewName_57 hlk
      · replace hf := ifF c23 hf
        exact L39 S20 p0 tp0 _ _ _ hf hW hS (lv_sub hl [0] rfl)
  · replace hf := ifF (fun q => q c13) hf
    refine lv_aload_n hx hb dX6_takeNewName_7 rfl (lv_at hl 0 rfl) ?_
    refine lv_iconst (v := 1) hx hb dX6_takeNewName_8 (by decide) ?_
    replace hf := obE hf
    obtain ⟨z29, hz29, hf⟩ := hf
    obtain ⟨r31, S30⟩ := z29
    replace hf := ltE (ltE hf r31 rfl) S30 rfl
    refine x_callV (As := [.int 1]) (rest := []) (o := (some (.int r31))) (S1 := S30) hC hl.1 hW hS hGs hA tp0 rfl (show vwCl[5]? = some (RX6, TX6, 10) ∧ ob 5 from ⟨rfl, by decide⟩) (c_X6_fail l g ad n K H.size F S10 p0 ((1 : Int32)) tp0 r31 S30 hz29) (cwV 1 hts gX6_takeNewName_X6_fail rfl rfl rfl (by decide +kernel) ⟨Nat.le_of_ble_eq_true rfl, Nat.le_of_ble_eq_true rfl⟩) rfl rfl (Nat.le_of_ble_eq_true rfl) dX6_takeNewName_9 ⟨Nat.le_of_ble_eq_true rfl, Nat.le_of_ble_eq_true rfl⟩ (fun H locs hPz29 hW hS => ?_)
    refine W.eq (g2 := F0 m 12 ls [.int r31]) rfl ?_
    refine lv_pop hx hb dX6_takeNewName_12 rfl ?_
    refine lv_lconst (v := 0) hx hb dX6_takeNewName_13 (by decide) ?_
    obtain ⟨e1, e2⟩ := so2 hf
    subst e1
    subst e2
    exact W.lret (v := 0) hx hb hr (fun t ht hWm => ⟨⟨rfl, by unfold QB; rw [ht]; exact ⟨hW, trivial⟩⟩, hS.F ht⟩) hS.2.2 dX6_takeNewName_14 hlk
set_option maxHeartbeats 4000000 in
set_option maxRecDepth 100000 in
theorem c_X6_takeKnown (l : Launch) (g : GP) (ad : Nat → Nat) (n : Nat) (K : Nat → Nat) (sz F : Nat) (S0 : St) (p0 : Nat) (p1 : Nat) (tp0 : p0 < n ∧ K p0 = 5) (tp1 : p1 < n ∧ K p1 = 4) (r9 : Int32) (S9 : St) (hf : f_X6_takeKnown F S0 p0 p1 = some (r9, S9)) : Met l yX6_takeKnown wsX6_takeKnown { frames := 3, cells := 0, slots := 0, locals := 67 } (va_Pc [.ref (ad p0), .ref (ad p1)] (PB g ad n K S0 sz)) (QR (some (.int r9)) (QB g ad n K S9 (dA ad n sz) (True)) (dA ad n sz)) 0 0 (dA ad n sz) := by
  refine Met.ofW (cc := cX6_takeKnown) (maxL := 3) (ret := (some .int)) (by decide) rfl ?_
  intro p e s m args below meth c s₁ B hml hv
  obtain ⟨rfl, hsz, hW, hK, hGs⟩ := x_start hv
  subst hsz
  have hx := B.exec
  have hb := B.bytes
  have hr := B.returns
  have hts := atoms_spec (ws := wsX6_takeKnown) B.pre
  have hown : s.vm.findClass RX6 = some m.cls := findClass_of_methodNamed B.named
  have hlk := B.notSynchronized
  have hC : Cx g p s m _ c cX6_takeKnown RX6 wsX6_takeKnown 3 := ⟨hx, hb, hml, hown, hts, hK⟩
  have hA : ∀ q : Nat, s.heap.size ≤ q → dA ad n s.heap.size q := fun q h => Or.inr h
  have hS : va_S (dA ad n s.heap.size) s.heap s.heap [] := va_S.rf
  have hl := lv_entry ([.ref (ad p0), .ref (ad p1)]) (n := 3) (Nat.le_of_ble_eq_true rfl)
  rw [lg_entry_eq]
  generalize (lg_sl ([.ref (ad p0), .ref (ad p1)]) ++ List.replicate (3 - (lg_sl ([.ref (ad p0), .ref (ad p1)])).length) Slot.unset).toArray = ls at hl ⊢
  have hl : lv_has ls 3 [(0, .ref (ad p0)), (1, .ref (ad p1))] := hl
  have hinX6 : ∀ w ∈ wsX60, w ∈ wsX6_takeKnown := by decide +kernel
  have w_0 := hts (.fieldLink RX6 190 "MailSpool$Parser" "word" "J") (by decide +kernel)
  have hGE := hGs.2.2.2.1
  have hGM := hGs.2.2.2.2
  have L38 : ∀ (S0 : St) (s0 : Int32) (s1 : Nat) (ts1 : s1 < n ∧ K s1 = 5) (H : Heap) (locs : List Loc) (ls : Array Slot), f_X6_takeKnown_L38 F S0 s0 s1 = some (r9, S9) → Wb g ad n K S0 (dA ad n s.heap.size) H → va_S (dA ad n s.heap.size) s.heap H locs → lv_has ls 3 [] → W p l e (headSpec wsX6_takeKnown { frames := 3, cells := 0, slots := 0, locals := 67 }).room s m (List.toArray [.ref (ad p0), .ref (ad p1)]) below meth c H locs 0 0 (MQ below (QR (some (.int r9)) (QB g ad n K S9 (dA ad n s.heap.size) (True)) (dA ad n s.heap.size)) (List.toArray [.ref (ad p0), .ref (ad p1)]) s 0 0 (dA ad n s.heap.size)) (F0 m 38 ls [.int s0, .ref (ad s1)]) := by
    intro S0 s0 s1 ts1 H locs ls hf hW hS hl
    unfold f_X6_takeKnown_L38 at hf
    replace hf := obE hf
    obtain ⟨z5, hz5, hf⟩ := hf
    obtain ⟨r7, S6⟩ := z5
    replace hf := ltE (ltE hf r7 rfl) S6 rfl
    refine x_callV (As := [.int s0]) (rest := []) (o := (some (.int r7))) (S1 := S6) hC hl.1 hW hS hGs hA ts1 rfl (show vwCl[5]? = some (RX6, TX6, 10) ∧ ob 5 from ⟨rfl, by decide⟩) (c_X6_fail l g ad n K H.size F S0 s1 s0 ts1 r7 S6 hz5) (cwV 1 hts gX6_takeKnown_X6_fail rfl rfl rfl (by decide +kernel) ⟨Nat.le_of_ble_eq_true rfl, Nat.le_of_ble_eq_true rfl⟩) rfl rfl (Nat.le_of_ble_eq_true rfl) dX6_takeKnown_38 ⟨Nat.le_of_ble_eq_true rfl, Nat.le_of_ble_eq_true rfl⟩ (fun H locs hPz5 hW hS => ?_)
    refine W.eq (g2 := F0 m 41 ls [.int r7]) rfl ?_
    refine lv_pop hx hb dX6_takeKnown_41 rfl ?_
    refine lv_iconst (v := -1) hx hb dX6_takeKnown_42 (by decide) ?_
    obtain ⟨e1, e2⟩ := so2 hf
    subst e1
    subst e2
    exact W.iret (v := (-1)) hx hb hr (fun t ht hWm => ⟨⟨rfl, by unfold QB; rw [ht]; exact ⟨hW, trivial⟩⟩, hS.F ht⟩) hS.2.2 dX6_takeKnown_43 hlk
  have L19 : ∀ (S0 : St) (v0 : Nat) (s0 : Int32) (tv0 : v0 < n ∧ K v0 = 5) (H : Heap) (locs : List Loc) (ls : Array Slot), f_X6_takeKnown_L19 F S0 v0 s0 = some (r9, S9) → Wb g ad n K S0 (dA ad n s.heap.size) H → va_S (dA ad n s.heap.size) s.heap H locs → lv_has ls 3 [(0, .ref (ad v0))] → W p l e (headSpec wsX6_takeKnown { frames := 3, cells := 0, slots := 0, locals := 67 }).room s m (List.toArray [.ref (ad p0), .ref (ad p1)]) below meth c H locs 0 0 (MQ below (QR (some (.int r9)) (QB g ad n K S9 (dA ad n s.heap.size) (True)) (dA ad n s.heap.size)) (List.toArray [.ref (ad p0), .ref (ad p1)]) s 0 0 (dA ad n s.heap.size)) (F0 m 19 ls [.int s0]) := by
    intro S0 v0 s0 tv0 H locs ls hf hW hS hl
    unfold f_X6_takeKnown_L19 at hf
    refine lv_istore_n (lv' := [(2, .int s0), (0, .ref (ad v0))]) hx hb dX6_takeKnown_19 rfl hl (by decide) rfl (fun ls hl => ?_)
    refine lv_iload_n hx hb dX6_takeKnown_20 rfl (lv_at hl 0 rfl) ?_
    refine lv_iconst (v := -1) hx hb dX6_takeKnown_21 (by decide) ?_
    refine lv_icmp_ne (tgt := 44) hx hb dX6_takeKnown_22 (by decide) (fun c19 => ?_) (fun c19 => ?_)
    · replace hf := ifT c19 hf
      refine lv_aload_n hx hb dX6_takeKnown_44 rfl (lv_at hl 1 rfl) ?_
      replace hf := obE hf
      obtain ⟨S21, hz20, hf⟩ := hf
      refine x_callV (As := []) (rest := []) (o := none) (S1 := S21) hC hl.1 hW hS hGs hA tv0 rfl (show vwCl[5]? = some (RX6, TX6, 10) ∧ ob 5 from ⟨rfl, by decide⟩) (c_X6_nextToken l g ad n K H.size F S0 v0 tv0 S21 hz20) (cwV 0 hts gX6_takeKnown_X6_nextToken rfl rfl rfl (by decide +kernel) ⟨Nat.le_of_ble_eq_true rfl, Nat.le_of_ble_eq_true rfl⟩) rfl rfl (Nat.le_of_ble_eq_true rfl) dX6_takeKnown_45 ⟨Nat.le_of_ble_eq_true rfl, Nat.le_of_ble_eq_true rfl⟩ (fun H locs hPz20 hW hS => ?_)
      refine W.eq (g2 := F0 m 48 ls []) rfl ?_
      refine lv_iload_n hx hb dX6_takeKnown_48 rfl (lv_at hl 0 rfl) ?_
      obtain ⟨e1, e2⟩ := so2 hf
      subst e1
      subst e2
      exact W.iret (v := s0) hx hb hr (fun t ht hWm => ⟨⟨rfl, by unfold QB; rw [ht]; exact ⟨hW, trivial⟩⟩, hS.F ht⟩) hS.2.2 dX6_takeKnown_49 hlk
    · replace hf := ifF (fun q => q c19) hf
      refine lv_aload_n hx hb dX6_takeKnown_25 rfl (lv_at hl 1 rfl) ?_
      refine lv_aload_n hx hb dX6_takeKnown_26 rfl (lv_at hl 1 rfl) ?_
      replace hf := obE hf
      obtain ⟨z24, hz24, hf⟩ := hf
      obtain ⟨r26, S25⟩ := z24
      replace hf := ltE (ltE hf r26 rfl) S25 rfl
      refine x_callV (As := []) (rest := [.ref (ad v0)]) (o := (some (.int r26))) (S1 := S25) hC hl.1 hW hS hGs hA tv0 rfl (show vwCl[5]? = some (RX6, TX6, 10) ∧ ob 5 from ⟨rfl, by decide⟩) (c_X6_isName l g ad n K H.size F S0 v0 tv0 r26 S25 hz24) (cwV 0 hts gX6_takeKnown_X6_isName rfl rfl rfl (by decide +kernel) ⟨Nat.le_of_ble_eq_true rfl, Nat.le_of_ble_eq_true rfl⟩) rfl rfl (Nat.le_of_ble_eq_true rfl) dX6_takeKnown_27 ⟨Nat.le_of_ble_eq_true rfl, Nat.le_of_ble_eq_true rfl⟩ (fun H locs hPz24 hW hS => ?_)
      refine W.eq (g2 := F0 m 30 ls [.int r26, .ref (ad v0)]) rfl ?_
      refine lv_if_eq (tgt := 37) hx hb dX6_takeKnown_30 (by decide) (fun c28 => ?_) (fun c28 => ?_)
      · replace hf := ifT c28 hf
        refine lv_iconst (v := 1) hx hb dX6_takeKnown_37 (by decide) ?_
        exact L38 S25 1 v0 tv0 _ _ _ hf hW hS (lv_sub hl [] rfl)
      · replace hf := ifF c28 hf
        refine lv_iconst (v := 3) hx hb dX6_takeKnown_33 (by decide) ?_
        refine lv_goto (tgt := 38) hx hb dX6_takeKnown_34 (by decide) ?_
        exact L38 S25 3 v0 tv0 _ _ _ hf hW hS (lv_sub hl [] rfl)
  unfold f_X6_takeKnown at hf
  refine lv_aload_n hx hb dX6_takeKnown_0 rfl (lv_at hl 0 rfl) ?_
  replace hf := obE hf
  obtain ⟨z29, hz29, hf⟩ := hf
  obtain ⟨r31, S30⟩ := z29
  replace hf := ltE (ltE hf r31 rfl) S30 rfl
  refine x_callV (As := []) (rest := []) (o := (some (.int r31))) (S1 := S30) hC hl.1 hW hS hGs hA tp0 rfl (show vwCl[5]? = some (RX6, TX6, 10) ∧ ob 5 from ⟨rfl, by decide⟩) (c_X6_isName l g ad n K s.heap.size F S0 p0 tp0 r31 S30 hz29) (cwV 0 hts gX6_takeKnown_X6_isName rfl rfl rfl (by decide +kernel) ⟨Nat.le_of_ble_eq_true rfl, Nat.le_of_ble_eq_true rfl⟩) rfl rfl (Nat.le_of_ble_eq_true rfl) dX6_takeKnown_1 ⟨Nat.le_of_ble_eq_true rfl, Nat.le_of_ble_eq_true rfl⟩ (fun H locs hPz29 hW hS => ?_)
  refine W.eq (g2 := F0 m 4 ls [.int r31]) rfl ?_
  refine lv_if_eq (tgt := 18) hx hb dX6_takeKnown_4 (by decide) (fun c33 => ?_) (fun c33 => ?_)
  · replace hf := ifT c33 hf
    refine lv_iconst (v := -1) hx hb dX6_takeKnown_18 (by decide) ?_
    exact L19 S30 p0 ((-1)) tp0 _ _ _ hf hW hS (lv_sub hl [0] rfl)
  · replace hf := ifF c33 hf
    refine lv_aload_n hx hb dX6_takeKnown_7 rfl (lv_at hl 1 rfl) ?_
    refine lv_aload_n hx hb dX6_takeKnown_8 rfl (lv_at hl 0 rfl) ?_
    refine x_getl 507 (ci := 5) (C := RX6) (T := TX6) (N := 10) 7 hC hinX6 hW tp0 rfl rfl ⟨by decide, by decide, rfl, rfl⟩ rfl w_0 dX6_takeKnown_9 ?_
    replace hf := obE hf
    obtain ⟨z34, hz34, hf⟩ := hf
    obtain ⟨r36, S35⟩ := z34
    replace hf := ltE (ltE hf r36 rfl) S35 rfl
    refine x_callV (As := [.long (sl S30 507 p0)]) (rest := []) (o := (some (.int r36))) (S1 := S35) hC hl.1 hW hS hGs hA tp1 rfl (show vwCl[4]? = some (RX5, TX5, 2) ∧ ob 4 from ⟨rfl, by decide⟩) (c_X5_numberOf l g ad n K H.size F S30 p1 (sl S30 507 p0) tp1 r36 S35 hz34) (cwV 1 hts gX6_takeKnown_X5_numberOf rfl rfl rfl (by decide +kernel) ⟨Nat.le_of_ble_eq_true rfl, Nat.le_of_ble_eq_true rfl⟩) rfl rfl (Nat.le_of_ble_eq_true rfl) dX6_takeKnown_12 ⟨Nat.le_of_ble_eq_true rfl, Nat.le_of_ble_eq_true rfl⟩ (fun H locs hPz34 hW hS => ?_)
    refine W.eq (g2 := F0 m 15 ls [.int r36]) rfl ?_
    refine lv_goto (tgt := 19) hx hb dX6_takeKnown_15 (by decide) ?_
    exact L19 S35 p0 r36 tp0 _ _ _ hf hW hS (lv_sub hl [0] rfl)
set_option maxHeartbeats 4000000 in
set_option maxRecDepth 100000 in
theorem c_X5_add (l : Launch) (g : GP) (ad : Nat → Nat) (n : Nat) (K : Nat → Nat) (sz F : Nat) (S0 : St) (p0 : Nat) (p1 : Int64) (tp0 : p0 < n ∧ K p0 = 4) (r9 : Int32) (S9 : St) (hf : f_X5_add F S0 p0 p1 = some (r9, S9)) : Met l yX5_add wsX5_add { frames := 0, cells := 0, slots := 0, locals := 0 } (va_Pc [.ref (ad p0), .long (p1)] (PB g ad n K S0 sz)) (QR (some (.int r9)) (QB g ad n K S9 (dA ad n sz) (True)) (dA ad n sz)) 0 0 (dA ad n sz) := by
  refine Met.ofW (cc := cX5_add) (maxL := 4) (ret := (some .int)) (by decide) rfl ?_
  intro p e s m args below meth c s₁ B hml hv
  obtain ⟨rfl, hsz, hW, hK, hGs⟩ := x_start hv
  subst hsz
  have hx := B.exec
  have hb := B.bytes
  have hr := B.returns
  have hts := atoms_spec (ws := wsX5_add) B.pre
  have hown : s.vm.findClass RX5 = some m.cls := findClass_of_methodNamed B.named
  have hlk := B.notSynchronized
  have hC : Cx g p s m _ c cX5_add RX5 wsX5_add 4 := ⟨hx, hb, hml, hown, hts, hK⟩
  have hA : ∀ q : Nat, s.heap.size ≤ q → dA ad n s.heap.size q := fun q h => Or.inr h
  have hS : va_S (dA ad n s.heap.size) s.heap s.heap [] := va_S.rf
  have hl := lv_entry ([.ref (ad p0), .long (p1)]) (n := 4) (Nat.le_of_ble_eq_true rfl)
  rw [lg_entry_eq]
  generalize (lg_sl ([.ref (ad p0), .long (p1)]) ++ List.replicate (4 - (lg_sl ([.ref (ad p0), .long (p1)])).length) Slot.unset).toArray = ls at hl ⊢
  have hl : lv_has ls 4 [(0, .ref (ad p0)), (1, .long (p1))] := hl
  have hinX5 : ∀ w ∈ wsX50, w ∈ wsX5_add := by decide +kernel
  have w_0 := hts (.fieldLink RX5 21 "MailSpool$Names" "size" "I") (by decide +kernel)
  have w_1 := hts (.fieldLink RX5 15 "MailSpool$Names" "words" "[J") (by decide +kernel)
  have hGE := hGs.2.2.2.1
  have hGM := hGs.2.2.2.2
  unfold f_X5_add at hf
  refine lv_aload_n hx hb dX5_add_0 rfl (lv_at hl 0 rfl) ?_
  refine x_geti 401 (ci := 4) (C := RX5) (T := TX5) (N := 2) 1 hC hinX5 hW tp0 rfl rfl ⟨by decide, by decide, rfl, rfl⟩ rfl w_0 dX5_add_1 ?_
  refine lv_topi (fun x1 ex1 => ?_)
  replace hf := ltE hf x1 ex1
  refine lv_istore_n (lv' := [(3, .int x1), (0, .ref (ad p0)), (1, .long (p1))]) hx hb dX5_add_4 rfl hl (by decide) rfl (fun ls hl => ?_)
  refine lv_iload_n hx hb dX5_add_5 rfl (lv_at hl 0 rfl) ?_
  refine lv_if_lt (tgt := 35) hx hb dX5_add_6 (by decide) (fun c2 => ?_) (fun c2 => ?_)
  · replace hf := ifT c2 hf
    refine lv_iload_n hx hb dX5_add_35 rfl (lv_at hl 0 rfl) ?_
    obtain ⟨e1, e2⟩ := so2 hf
    subst e1
    subst e2
    exact W.iret (v := x1) hx hb hr (fun t ht hWm => ⟨⟨rfl, by unfold QB; rw [ht]; exact ⟨hW, trivial⟩⟩, hS.F ht⟩) hS.2.2 dX5_add_36 hlk
  · replace hf := ifF c2 hf
    refine lv_iload_n hx hb dX5_add_9 rfl (lv_at hl 0 rfl) ?_
    refine lv_aload_n hx hb dX5_add_10 rfl (lv_at hl 1 rfl) ?_
    replace hf := obE hf
    obtain ⟨j3, qj3, hf⟩ := hf
    have tj3 := x_rt hW qj3 13 ⟨by decide, rfl⟩
    refine x_getr 400 (ci := 4) (C := RX5) (T := TX5) (N := 2) 0 hC hinX5 hW tp0 rfl rfl ⟨by decide, by decide, rfl, rfl⟩ rfl w_1 dX5_add_11 qj3 ?_
    refine x_alen hC hW tj3 rfl ⟨by decide, by decide⟩ dX5_add_14 ?_
    refine lv_icmp_ge (tgt := 35) hx hb dX5_add_15 (by decide) (fun c4 => ?_) (fun c4 => ?_)
    · replace hf := ifT c4 hf
      refine lv_iload_n hx hb dX5_add_35 rfl (lv_at hl 0 rfl) ?_
      obtain ⟨e1, e2⟩ := so2 hf
      subst e1
      subst e2
      exact W.iret (v := x1) hx hb hr (fun t ht hWm => ⟨⟨rfl, by unfold QB; rw [ht]; exact ⟨hW, trivial⟩⟩, hS.F ht⟩) hS.2.2 dX5_add_36 hlk
    · replace hf := ifF c4 hf
      refine lv_aload_n hx hb dX5_add_18 rfl (lv_at hl 1 rfl) ?_
      replace hf := obE hf
      obtain ⟨j5, qj5, hf⟩ := hf
      have tj5 := x_rt hW qj5 13 ⟨by decide, rfl⟩
      refine x_getr 400 (ci := 4) (C := RX5) (T := TX5) (N := 2) 0 hC hinX5 hW tp0 rfl rfl ⟨by decide, by decide, rfl, rfl⟩ rfl w_1 dX5_add_19 qj5 ?_
      refine lv_iload_n hx hb dX5_add_22 rfl (lv_at hl 0 rfl) ?_
      refine lv_lload_n hx hb dX5_add_23 rfl (lv_at hl 2 rfl) ?_
      replace hf := ckiE hf
      obtain ⟨h6, hf⟩ := hf
      refine x_last hC hW hS tj5 rfl rfl h6 dX5_add_24 (fun S7 H locs eS7 hW hS => ?_)
      replace hf := ltE hf S7 eS7
      refine lv_aload_n hx hb dX5_add_25 rfl (lv_at hl 1 rfl) ?_
      refine lv_dup hx hb dX5_add_26 rfl ?_
      refine x_geti 401 (ci := 4) (C := RX5) (T := TX5) (N := 2) 1 hC hinX5 hW tp0 rfl rfl ⟨by decide, by decide, rfl, rfl⟩ rfl w_0 dX5_add_27 ?_
      refine lv_iconst (v := 1) hx hb dX5_add_30 (by decide) ?_
      refine lv_iadd hx hb dX5_add_31 ?_
      refine x_puti 401 (ci := 4) (C := RX5) (T := TX5) (N := 2) (v := (si S7 401 p0) + 1) (ty := .int) 1 hC hinX5 tyX5_ok nmX5 hW hS tp0 rfl rfl ⟨by decide, by decide, rfl, rfl⟩ rfl w_0 rfl (by decide +kernel) rfl rfl dX5_add_32 (fun S8 H locs eS8 hW hS => ?_)
      replace hf := ltE hf S8 eS8
      refine lv_iload_n hx hb dX5_add_35 rfl (lv_at hl 0 rfl) ?_
      obtain ⟨e1, e2⟩ := so2 hf
      subst e1
      subst e2
      exact W.iret (v := x1) hx hb hr (fun t ht hWm => ⟨⟨rfl, by unfold QB; rw [ht]; exact ⟨hW, trivial⟩⟩, hS.F ht⟩) hS.2.2 dX5_add_36 hlk
set_option maxHeartbeats 4000000 in
set_option maxRecDepth 100000 in
theorem c_X10_put (l : Launch) (g : GP) (ad : Nat → Nat) (n : Nat) (K : Nat → Nat) (sz F : Nat) (S0 : St) (p0 : Nat) (p1 : Int32) (p2 : Int32) (tp0 : p0 < n ∧ K p0 = 12) (S9 : St) (hf : f_X10_put F S0 p0 p1 p2 = some S9) : Met l yX10_put wsX10_put { frames := 0, cells := 0, slots := 0, locals := 0 } (va_Pc [.ref (ad p0), .int p1, .int p2] (PB g ad n K S0 sz)) (QR none (QB g ad n K S9 (dA ad n sz) (True)) (dA ad n sz)) 0 0 (dA ad n sz) := by
  refine Met.ofW (cc := cX10_put) (maxL := 3) (ret := none) (by decide) rfl ?_
  intro p e s m args below meth c s₁ B hml hv
  obtain ⟨rfl, hsz, hW, hK, hGs⟩ := x_start hv
  subst hsz
  have hx := B.exec
  have hb := B.bytes
  have hr := B.returns
  have hts := atoms_spec (ws := wsX10_put) B.pre
  have hown : s.vm.findClass RX10 = some m.cls := findClass_of_methodNamed B.named
  have hlk := B.notSynchronized
  have hC : Cx g p s m _ c cX10_put RX10 wsX10_put 3 := ⟨hx, hb, hml, hown, hts, hK⟩
  have hA : ∀ q : Nat, s.heap.size ≤ q → dA ad n s.heap.size q := fun q h => Or.inr h
  have hS : va_S (dA ad n s.heap.size) s.heap s.heap [] := va_S.rf
  have hl := lv_entry ([.ref (ad p0), .int p1, .int p2]) (n := 3) (Nat.le_of_ble_eq_true rfl)
  rw [lg_entry_eq]
  generalize (lg_sl ([.ref (ad p0), .int p1, .int p2]) ++ List.replicate (3 - (lg_sl ([.ref (ad p0), .int p1, .int p2])).length) Slot.unset).toArray = ls at hl ⊢
  have hl : lv_has ls 3 [(0, .ref (ad p0)), (1, .int p1), (2, .int p2)] := hl
  have hGE := hGs.2.2.2.1
  have hGM := hGs.2.2.2.2
  unfold f_X10_put at hf
  refine lv_iload_n hx hb dX10_put_0 rfl (lv_at hl 1 rfl) ?_
  refine lv_if_lt (tgt := 14) hx hb dX10_put_1 (by decide) (fun c1 => ?_) (fun c1 => ?_)
  · replace hf := ifT c1 hf
    have e1 := Option.some.inj hf
    subst e1
    exact W.vret hx hb hr (fun t ht hWm => ⟨⟨rfl, by unfold QB; rw [ht]; exact ⟨hW, trivial⟩⟩, hS.F ht⟩) hS.2.2 dX10_put_14 hlk
  · replace hf := ifF c1 hf
    refine lv_iload_n hx hb dX10_put_4 rfl (lv_at hl 1 rfl) ?_
    refine lv_aload_n hx hb dX10_put_5 rfl (lv_at hl 0 rfl) ?_
    refine x_alen hC hW tp0 rfl ⟨by decide, by decide⟩ dX10_put_6 ?_
    refine lv_icmp_ge (tgt := 14) hx hb dX10_put_7 (by decide) (fun c2 => ?_) (fun c2 => ?_)
    · replace hf := ifT c2 hf
      have e1 := Option.some.inj hf
      subst e1
      exact W.vret hx hb hr (fun t ht hWm => ⟨⟨rfl, by unfold QB; rw [ht]; exact ⟨hW, trivial⟩⟩, hS.F ht⟩) hS.2.2 dX10_put_14 hlk
    · replace hf := ifF c2 hf
      refine lv_aload_n hx hb dX10_put_10 rfl (lv_at hl 0 rfl) ?_
      refine lv_iload_n hx hb dX10_put_11 rfl (lv_at hl 1 rfl) ?_
      refine lv_iload_n hx hb dX10_put_12 rfl (lv_at hl 2 rfl) ?_
      replace hf := ckiE hf
      obtain ⟨h3, hf⟩ := hf
      refine x_iast hC hW hS tp0 rfl rfl h3 dX10_put_13 (fun S4 H locs eS4 hW hS => ?_)
      replace hf := ltE hf S4 eS4
      have e1 := Option.some.inj hf
      subst e1
      exact W.vret hx hb hr (fun t ht hWm => ⟨⟨rfl, by unfold QB; rw [ht]; exact ⟨hW, trivial⟩⟩, hS.F ht⟩) hS.2.2 dX10_put_14 hlk
set_option maxHeartbeats 4000000 in
set_option maxRecDepth 100000 in
theorem c_X7_addClass (l : Launch) (g : GP) (ad : Nat → Nat) (n : Nat) (K : Nat → Nat) (sz F : Nat) (S0 : St) (p0 : Nat) (p1 : Int64) (p2 : Int32) (p3 : Int32) (p4 : Int32) (tp0 : p0 < n ∧ K p0 = 6) (S9 : St) (hf : f_X7_addClass F S0 p0 p1 p2 p3 p4 = some S9) : Met l yX7_addClass wsX7_addClass { frames := 1, cells := 0, slots := 0, locals := 23 } (va_Pc [.ref (ad p0), .long (p1), .int p2, .int p3, .int p4] (PB g ad n K S0 sz)) (QR none (QB g ad n K S9 (dA ad n sz) (True)) (dA ad n sz)) 0 0 (dA ad n sz) := by
  refine Met.ofW (cc := cX7_addClass) (maxL := 7) (ret := none) (by decide) rfl ?_
  intro p e s m args below meth c s₁ B hml hv
  obtain ⟨rfl, hsz, hW, hK, hGs⟩ := x_start hv
  subst hsz
  have hx := B.exec
  have hb := B.bytes
  have hr := B.returns
  have hts := atoms_spec (ws := wsX7_addClass) B.pre
  have hown : s.vm.findClass RX7 = some m.cls := findClass_of_methodNamed B.named
  have hlk := B.notSynchronized
  have hC : Cx g p s m _ c cX7_addClass RX7 wsX7_addClass 7 := ⟨hx, hb, hml, hown, hts, hK⟩
  have hA : ∀ q : Nat, s.heap.size ≤ q → dA ad n s.heap.size q := fun q h => Or.inr h
  have hS : va_S (dA ad n s.heap.size) s.heap s.heap [] := va_S.rf
  have hl := lv_entry ([.ref (ad p0), .long (p1), .int p2, .int p3, .int p4]) (n := 7) (Nat.le_of_ble_eq_true rfl)
  rw [lg_entry_eq]
  generalize (lg_sl ([.ref (ad p0), .long (p1), .int p2, .int p3, .int p4]) ++ List.replicate (7 - (lg_sl ([.ref (ad p0), .long (p1), .int p2, .int p3, .int p4])).length) Slot.unset).toArray = ls at hl ⊢
  have hl : lv_has ls 7 [(0, .ref (ad p0)), (1, .long (p1)), (3, .int p2), (4, .int p3), (5, .int p4)] := hl
  have hinX7 : ∀ w ∈ wsX70, w ∈ wsX7_addClass := by decide +kernel
  have w_0 := hts (.fieldLink RX7 20 "MailSpool$Rules" "classes" "LMailSpool$Names;") (by decide +kernel)
  have w_1 := hts (.fieldLink RX7 24 "MailSpool$Rules" "classDays" "[I") (by decide +kernel)
  have w_2 := va_Nw.use (A := (List.toArray [.ref (ad p0), .long (p1), .int p2, .int p3, .int p4])) rfl (hGs.1 (.methodLinkNest RX7 69 yX10_put "MailSpool") (by decide +kernel))
  have w_3 := hts (.initialized RX10) (by decide +kernel)
  have w_4 := hts (.static yX10_put) (by decide +kernel)
  have w_5 := hts (.fieldLink RX7 28 "MailSpool$Rules" "classKeep" "[I") (by decide +kernel)
  have w_6 := hts (.fieldLink RX7 31 "MailSpool$Rules" "classNext" "[I") (by decide +kernel)
  have hGE := hGs.2.2.2.1
  have hGM := hGs.2.2.2.2
  unfold f_X7_addClass at hf
  refine lv_aload_n hx hb dX7_addClass_0 rfl (lv_at hl 0 rfl) ?_
  replace hf := obE hf
  obtain ⟨j1, qj1, hf⟩ := hf
  have tj1 := x_rt hW qj1 4 ⟨by decide, rfl⟩
  refine x_getr 602 (ci := 6) (C := RX7) (T := TX7) (N := 16) 2 hC hinX7 hW tp0 rfl rfl ⟨by decide, by decide, rfl, rfl⟩ rfl w_0 dX7_addClass_1 qj1 ?_
  refine lv_lload_n hx hb dX7_addClass_4 rfl (lv_at hl 1 rfl) ?_
  replace hf := obE hf
  obtain ⟨z2, hz2, hf⟩ := hf
  obtain ⟨r4, S3⟩ := z2
  replace hf := ltE (ltE hf r4 rfl) S3 rfl
  refine x_callV (As := [.long (p1)]) (rest := []) (o := (some (.int r4))) (S1 := S3) hC hl.1 hW hS hGs hA tj1 rfl (show vwCl[4]? = some (RX5, TX5, 2) ∧ ob 4 from ⟨rfl, by decide⟩) (c_X5_add l g ad n K s.heap.size F S0 j1 p1 tj1 r4 S3 hz2) (cwV 1 hts gX7_addClass_X5_add rfl rfl rfl (by decide +kernel) ⟨Nat.le_of_ble_eq_true rfl, Nat.le_of_ble_eq_true rfl⟩) rfl rfl (Nat.le_of_ble_eq_true rfl) dX7_addClass_5 ⟨Nat.le_of_ble_eq_true rfl, Nat.le_of_ble_eq_true rfl⟩ (fun H locs hPz2 hW hS => ?_)
  refine W.eq (g2 := F0 m 8 ls [.int r4]) rfl ?_
  refine lv_istore (lv' := [(6, .int r4), (0, .ref (ad p0)), (1, .long (p1)), (3, .int p2), (4, .int p3), (5, .int p4)]) hx hb dX7_addClass_8 hl (by decide) rfl (fun ls hl => ?_)
  refine lv_aload_n hx hb dX7_addClass_10 rfl (lv_at hl 1 rfl) ?_
  replace hf := obE hf
  obtain ⟨j6, qj6, hf⟩ := hf
  have tj6 := x_rt hW qj6 12 ⟨by decide, rfl⟩
  refine x_getr 603 (ci := 6) (C := RX7) (T := TX7) (N := 16) 3 hC hinX7 hW tp0 rfl rfl ⟨by decide, by decide, rfl, rfl⟩ rfl w_1 dX7_addClass_11 qj6 ?_
  refine lv_iload hx hb dX7_addClass_14 (lv_at hl 0 rfl) ?_
  refine lv_iload_n hx hb dX7_addClass_16 rfl (lv_at hl 3 rfl) ?_
  replace hf := obE hf
  obtain ⟨S8, hz7, hf⟩ := hf
  refine x_callSN (As := [.ref (ad j6), .int r4, .int p2]) (rest := []) (o := none) (S1 := S8) hC hl.1 hW hS hGs hA (c_X10_put l g ad n K H.size F S3 j6 r4 p2 tj6 S8 hz7) ⟨va_cnB 3 hts gX7_addClass_X10_put_n69 rfl rfl rfl (va_Nw.of rfl w_2) w_3 (by decide +kernel) ⟨Nat.le_of_ble_eq_true rfl, Nat.le_of_ble_eq_true rfl⟩, w_4, trivial⟩ rfl rfl (Nat.le_of_ble_eq_true rfl) dX7_addClass_17 ⟨Nat.le_of_ble_eq_true rfl, Nat.le_of_ble_eq_true rfl⟩ (fun H locs hPz7 hW hS => ?_)
  refine W.eq (g2 := F0 m 20 ls []) rfl ?_
  refine lv_aload_n hx hb dX7_addClass_20 rfl (lv_at hl 1 rfl) ?_
  replace hf := obE hf
  obtain ⟨j11, qj11, hf⟩ := hf
  have tj11 := x_rt hW qj11 12 ⟨by decide, rfl⟩
  refine x_getr 604 (ci := 6) (C := RX7) (T := TX7) (N := 16) 4 hC hinX7 hW tp0 rfl rfl ⟨by decide, by decide, rfl, rfl⟩ rfl w_5 dX7_addClass_21 qj11 ?_
  refine lv_iload hx hb dX7_addClass_24 (lv_at hl 0 rfl) ?_
  refine lv_iload hx hb dX7_addClass_26 (lv_at hl 4 rfl) ?_
  replace hf := obE hf
  obtain ⟨S13, hz12, hf⟩ := hf
  refine x_callSN (As := [.ref (ad j11), .int r4, .int p3]) (rest := []) (o := none) (S1 := S13) hC hl.1 hW hS hGs hA (c_X10_put l g ad n K H.size F S8 j11 r4 p3 tj11 S13 hz12) ⟨va_cnB 3 hts gX7_addClass_X10_put_n69 rfl rfl rfl (va_Nw.of rfl w_2) w_3 (by decide +kernel) ⟨Nat.le_of_ble_eq_true rfl, Nat.le_of_ble_eq_true rfl⟩, w_4, trivial⟩ rfl rfl (Nat.le_of_ble_eq_true rfl) dX7_addClass_28 ⟨Nat.le_of_ble_eq_true rfl, Nat.le_of_ble_eq_true rfl⟩ (fun H locs hPz12 hW hS => ?_)
  refine W.eq (g2 := F0 m 31 ls []) rfl ?_
  refine lv_aload_n hx hb dX7_addClass_31 rfl (lv_at hl 1 rfl) ?_
  replace hf := obE hf
  obtain ⟨j16, qj16, hf⟩ := hf
  have tj16 := x_rt hW qj16 12 ⟨by decide, rfl⟩
  refine x_getr 605 (ci := 6) (C := RX7) (T := TX7) (N := 16) 5 hC hinX7 hW tp0 rfl rfl ⟨by decide, by decide, rfl, rfl⟩ rfl w_6 dX7_addClass_32 qj16 ?_
  refine lv_iload hx hb dX7_addClass_35 (lv_at hl 0 rfl) ?_
  refine lv_iload hx hb dX7_addClass_37 (lv_at hl 5 rfl) ?_
  replace hf := obE hf
  obtain ⟨S18, hz17, hf⟩ := hf
  refine x_callSN (As := [.ref (ad j16), .int r4, .int p4]) (rest := []) (o := none) (S1 := S18) hC hl.1 hW hS hGs hA (c_X10_put l g ad n K H.size F S13 j16 r4 p4 tj16 S18 hz17) ⟨va_cnB 3 hts gX7_addClass_X10_put_n69 rfl rfl rfl (va_Nw.of rfl w_2) w_3 (by decide +kernel) ⟨Nat.le_of_ble_eq_true rfl, Nat.le_of_ble_eq_true rfl⟩, w_4, trivial⟩ rfl rfl (Nat.le_of_ble_eq_true rfl) dX7_addClass_39 ⟨Nat.le_of_ble_eq_true rfl, Nat.le_of_ble_eq_true rfl⟩ (fun H locs hPz17 hW hS => ?_)
  refine W.eq (g2 := F0 m 42 ls []) rfl ?_
  have e1 := Option.some.inj hf
  subst e1
  exact W.vret hx hb hr (fun t ht hWm => ⟨⟨rfl, by unfold QB; rw [ht]; exact ⟨hW, trivial⟩⟩, hS.F ht⟩) hS.2.2 dX7_addClass_42 hlk
set_option maxHeartbeats 4000000 in
set_option maxRecDepth 100000 in
theorem c_X6_classStatement (l : Launch) (g : GP) (ad : Nat → Nat) (n : Nat) (K : Nat → Nat) (sz F : Nat) (S0 : St) (p0 : Nat) (tp0 : p0 < n ∧ K p0 = 5) (r9 : Int32) (S9 : St) (hf : f_X6_classStatement F S0 p0 = some (r9, S9)) : Met l yX6_classStatement wsX6_classStatement { frames := 4, cells := 0, slots := 0, locals := 91 } (va_Pc [.ref (ad p0)] (PB g ad n K S0 sz)) (QR (some (.int r9)) (QB g ad n K S9 (dA ad n sz) (True)) (dA ad n sz)) 0 0 (dA ad n sz) := by
  refine Met.ofW (cc := cX6_classStatement) (maxL := 6) (ret := (some .boolean)) (by decide) rfl ?_
  intro p e s m args below meth c s₁ B hml hv
  obtain ⟨rfl, hsz, hW, hK, hGs⟩ := x_start hv
  subst hsz
  have hx := B.exec
  have hb := B.bytes
  have hr := B.returns
  have hts := atoms_spec (ws := wsX6_classStatement) B.pre
  have hown : s.vm.findClass RX6 = some m.cls := findClass_of_methodNamed B.named
  have hlk := B.notSynchronized
  have hC : Cx g p s m _ c cX6_classStatement RX6 wsX6_classStatement 6 := ⟨hx, hb, hml, hown, hts, hK⟩
  have hA : ∀ q : Nat, s.heap.size ≤ q → dA ad n s.heap.size q := fun q h => Or.inr h
  have hS : va_S (dA ad n s.heap.size) s.heap s.heap [] := va_S.rf
  have hl := lv_entry ([.ref (ad p0)]) (n := 6) (Nat.le_of_ble_eq_true rfl)
  rw [lg_entry_eq]
  generalize (lg_sl ([.ref (ad p0)]) ++ List.replicate (6 - (lg_sl ([.ref (ad p0)])).length) Slot.unset).toArray = ls at hl ⊢
  have hl : lv_has ls 6 [(0, .ref (ad p0))] := hl
  have hinX6 : ∀ w ∈ wsX60, w ∈ wsX6_classStatement := by decide +kernel
  have hinX7 : ∀ w ∈ wsX70, w ∈ wsX6_classStatement := by decide +kernel
  have w_0 := hts (.fieldLink RX6 18 "MailSpool$Parser" "rules" "LMailSpool$Rules;") (by decide +kernel)
  have w_1 := hts (.fieldLink RX6 41 "MailSpool$Parser" "keyword" "LMailSpool$Keyword;") (by decide +kernel)
  have w_2 := hts (.fieldLink RX6 123 "MailSpool$Keyword" "THEN" "LMailSpool$Keyword;") (by decide +kernel)
  have w_3 := va_Nw.use (A := (List.toArray [.ref (ad p0)])) rfl (hGs.1 (.fieldLinkNest RX6 101 "MailSpool$Rules" "classes" "LMailSpool$Names;" "MailSpool") (by decide +kernel))
  have w_4 := hts (.fieldLink RX6 120 "MailSpool$Keyword" "KEEP" "LMailSpool$Keyword;") (by decide +kernel)
  have w_5 := hts (.fieldLink RX6 114 "MailSpool$Keyword" "DAYS" "LMailSpool$Keyword;") (by decide +kernel)
  have w_6 := hts (.fieldLink RX6 117 "MailSpool$Keyword" "FOREVER" "LMailSpool$Keyword;") (by decide +kernel)
  have hGE := hGs.2.2.2.1
  have hGM := hGs.2.2.2.2
  have L167 : ∀ (S0 : St) (v0 : Nat) (v1 : Int64) (v3 : Int32) (v4 : Int32) (v5 : Int32) (tv0 : v0 < n ∧ K v0 = 5) (H : Heap) (locs : List Loc) (ls : Array Slot), f_X6_classStatement_L167 F S0 v0 v1 v3 v4 v5 = some (r9, S9) → Wb g ad n K S0 (dA ad n s.heap.size) H → va_S (dA ad n s.heap.size) s.heap H locs → lv_has ls 6 [(0, .ref (ad v0)), (1, .long (v1)), (3, .int v3), (4, .int v4), (5, .int v5)] → W p l e (headSpec wsX6_classStatement { frames := 4, cells := 0, slots := 0, locals := 91 }).room s m (List.toArray [.ref (ad p0)]) below meth c H locs 0 0 (MQ below (QR (some (.int r9)) (QB g ad n K S9 (dA ad n s.heap.size) (True)) (dA ad n s.heap.size)) (List.toArray [.ref (ad p0)]) s 0 0 (dA ad n s.heap.size)) (F0 m 167 ls []) := by
    intro S0 v0 v1 v3 v4 v5 tv0 H locs ls hf hW hS hl
    unfold f_X6_classStatement_L167 at hf
    refine lv_aload_n hx hb dX6_classStatement_167 rfl (lv_at hl 0 rfl) ?_
    refine lv_bipush (v := 59) hx hb dX6_classStatement_168 (by decide) ?_
    replace hf := obE hf
    obtain ⟨z11, hz11, hf⟩ := hf
    obtain ⟨r13, S12⟩ := z11
    replace hf := ltE (ltE hf r13 rfl) S12 rfl
    refine x_callV (As := [.int 59]) (rest := []) (o := (some (.int r13))) (S1 := S12) hC hl.1 hW hS hGs hA tv0 rfl (show vwCl[5]? = some (RX6, TX6, 10) ∧ ob 5 from ⟨rfl, by decide⟩) (c_X6_takeSymbol l g ad n K H.size F S0 v0 ((59 : Int32)) tv0 r13 S12 hz11) (cwV 1 hts gX6_classStatement_X6_takeSymbol rfl rfl rfl (by decide +kernel) ⟨Nat.le_of_ble_eq_true rfl, Nat.le_of_ble_eq_true rfl⟩) rfl rfl (Nat.le_of_ble_eq_true rfl) dX6_classStatement_170 ⟨Nat.le_of_ble_eq_true rfl, Nat.le_of_ble_eq_true rfl⟩ (fun H locs hPz11 hW hS => ?_)
    refine W.eq (g2 := F0 m 173 ls [.int r13]) rfl ?_
    refine lv_if_ne (tgt := 178) hx hb dX6_classStatement_173 (by decide) (fun c15 => ?_) (fun c15 => ?_)
    · replace hf := ifT c15 hf
      refine lv_aload_n hx hb dX6_classStatement_178 rfl (lv_at hl 0 rfl) ?_
      replace hf := obE hf
      obtain ⟨j16, qj16, hf⟩ := hf
      have tj16 := x_rt hW qj16 6 ⟨by decide, rfl⟩
      refine x_getr 501 (ci := 5) (C := RX6) (T := TX6) (N := 10) 1 hC hinX6 hW tv0 rfl rfl ⟨by decide, by decide, rfl, rfl⟩ rfl w_0 dX6_classStatement_179 qj16 ?_
      refine lv_lload_n hx hb dX6_classStatement_182 rfl (lv_at hl 1 rfl) ?_
      refine lv_iload_n hx hb dX6_classStatement_183 rfl (lv_at hl 2 rfl) ?_
      refine lv_iload hx hb dX6_classStatement_184 (lv_at hl 3 rfl) ?_
      refine lv_iload hx hb dX6_classStatement_186 (lv_at hl 4 rfl) ?_
      replace hf := obE hf
      obtain ⟨S18, hz17, hf⟩ := hf
      refine x_callV (As := [.long (v1), .int v3, .int v4, .int v5]) (rest := []) (o := none) (S1 := S18) hC hl.1 hW hS hGs hA tj16 rfl (show vwCl[6]? = some (RX7, TX7, 16) ∧ ob 6 from ⟨rfl, by decide⟩) (c_X7_addClass l g ad n K H.size F S12 j16 v1 v3 v4 v5 tj16 S18 hz17) (cwV 4 hts gX6_classStatement_X7_addClass rfl rfl rfl (by decide +kernel) ⟨Nat.le_of_ble_eq_true rfl, Nat.le_of_ble_eq_true rfl⟩) rfl rfl (Nat.le_of_ble_eq_true rfl) dX6_classStatement_188 ⟨Nat.le_of_ble_eq_true rfl, Nat.le_of_ble_eq_true rfl⟩ (fun H locs hPz17 hW hS => ?_)
      refine W.eq (g2 := F0 m 191 ls []) rfl ?_
      refine lv_iconst (v := 1) hx hb dX6_classStatement_191 (by decide) ?_
      obtain ⟨e1, e2⟩ := so2 hf
      subst e1
      subst e2
      exact W.zret (v := 1) hx hb hr rfl (fun t ht hWm => ⟨⟨rfl, by unfold QB; rw [ht]; exact ⟨hW, trivial⟩⟩, hS.F ht⟩) hS.2.2 dX6_classStatement_192 hlk
    · replace hf := ifF (fun q => q c15) hf
      refine lv_iconst (v := 0) hx hb dX6_classStatement_176 (by decide) ?_
      obtain ⟨e1, e2⟩ := so2 hf
      subst e1
      subst e2
      exact W.zret (v := 0) hx hb hr rfl (fun t ht hWm => ⟨⟨rfl, by unfold QB; rw [ht]; exact ⟨hW, trivial⟩⟩, hS.F ht⟩) hS.2.2 dX6_classStatement_177 hlk
  have L129 : ∀ (S0 : St) (v0 : Nat) (v1 : Int64) (v3 : Int32) (v4 : Int32) (tv0 : v0 < n ∧ K v0 = 5) (H : Heap) (locs : List Loc) (ls : Array Slot), f_X6_classStatement_L129 F S0 v0 v1 v3 v4 = some (r9, S9) → Wb g ad n K S0 (dA ad n s.heap.size) H → va_S (dA ad n s.heap.size) s.heap H locs → lv_has ls 6 [(0, .ref (ad v0)), (1, .long (v1)), (3, .int v3), (4, .int v4)] → W p l e (headSpec wsX6_classStatement { frames := 4, cells := 0, slots := 0, locals := 91 }).room s m (List.toArray [.ref (ad p0)]) below meth c H locs 0 0 (MQ below (QR (some (.int r9)) (QB g ad n K S9 (dA ad n s.heap.size) (True)) (dA ad n s.heap.size)) (List.toArray [.ref (ad p0)]) s 0 0 (dA ad n s.heap.size)) (F0 m 129 ls []) := by
    intro S0 v0 v1 v3 v4 tv0 H locs ls hf hW hS hl
    unfold f_X6_classStatement_L129 at hf
    refine lv_iconst (v := -1) hx hb dX6_classStatement_129 (by decide) ?_
    refine lv_topi (fun x35 ex35 => ?_)
    replace hf := ltE hf x35 ex35
    refine lv_istore (lv' := [(5, .int x35), (0, .ref (ad v0)), (1, .long (v1)), (3, .int v3), (4, .int v4)]) hx hb dX6_classStatement_130 hl (by decide) rfl (fun ls hl => ?_)
    refine lv_aload_n hx hb dX6_classStatement_132 rfl (lv_at hl 1 rfl) ?_
    refine x_gete 508 (ci := 5) (C := RX6) (T := TX6) (N := 10) 8 hC hinX6 hW tv0 rfl rfl ⟨by decide, by decide, rfl, rfl⟩ rfl w_1 dX6_classStatement_133 ?_
    refine x_getsE 7 (nm := "THEN") hC hGE hS ⟨by decide, rfl⟩ w_2 dX6_classStatement_136 ?_
    replace hf := ckE hf
    obtain ⟨h37, hf⟩ := hf
    refine x_acmpE_ne (tgt := 167) hC hGE h37 (by decide) dX6_classStatement_139 (by decide) (fun c36 => ?_) (fun c36 => ?_)
    · replace hf := ifT c36 hf
      exact L167 S0 v0 v1 v3 v4 x35 tv0 _ _ _ hf hW hS (lv_sub hl [1, 2, 3, 4, 0] rfl)
    · replace hf := ifF (fun q => q c36) hf
      refine lv_aload_n hx hb dX6_classStatement_142 rfl (lv_at hl 1 rfl) ?_
      replace hf := obE hf
      obtain ⟨S39, hz38, hf⟩ := hf
      refine x_callV (As := []) (rest := []) (o := none) (S1 := S39) hC hl.1 hW hS hGs hA tv0 rfl (show vwCl[5]? = some (RX6, TX6, 10) ∧ ob 5 from ⟨rfl, by decide⟩) (c_X6_nextToken l g ad n K H.size F S0 v0 tv0 S39 hz38) (cwV 0 hts gX6_classStatement_X6_nextToken rfl rfl rfl (by decide +kernel) ⟨Nat.le_of_ble_eq_true rfl, Nat.le_of_ble_eq_true rfl⟩) rfl rfl (Nat.le_of_ble_eq_true rfl) dX6_classStatement_143 ⟨Nat.le_of_ble_eq_true rfl, Nat.le_of_ble_eq_true rfl⟩ (fun H locs hPz38 hW hS => ?_)
      refine W.eq (g2 := F0 m 146 ls []) rfl ?_
      refine lv_aload_n hx hb dX6_classStatement_146 rfl (lv_at hl 1 rfl) ?_
      refine lv_aload_n hx hb dX6_classStatement_147 rfl (lv_at hl 1 rfl) ?_
      replace hf := obE hf
      obtain ⟨j42, qj42, hf⟩ := hf
      have tj42 := x_rt hW qj42 6 ⟨by decide, rfl⟩
      refine x_getr 501 (ci := 5) (C := RX6) (T := TX6) (N := 10) 1 hC hinX6 hW tv0 rfl rfl ⟨by decide, by decide, rfl, rfl⟩ rfl w_0 dX6_classStatement_148 qj42 ?_
      replace hf := obE hf
      obtain ⟨j43, qj43, hf⟩ := hf
      have tj43 := x_rt hW qj43 4 ⟨by decide, rfl⟩
      refine x_getrN 602 (ci := 6) (C := RX7) (T := TX7) (N := 16) 2 hC hinX7 hW tj42 rfl rfl ⟨by decide, by decide, rfl, rfl⟩ rfl w_3 dX6_classStatement_151 qj43 ?_
      replace hf := obE hf
      obtain ⟨z44, hz44, hf⟩ := hf
      obtain ⟨r46, S45⟩ := z44
      replace hf := ltE (ltE hf r46 rfl) S45 rfl
      refine x_callV (As := [.ref (ad j43)]) (rest := []) (o := (some (.int r46))) (S1 := S45) hC hl.1 hW hS hGs hA tv0 rfl (show vwCl[5]? = some (RX6, TX6, 10) ∧ ob 5 from ⟨rfl, by decide⟩) (c_X6_takeKnown l g ad n K H.size F S39 v0 j43 tv0 tj43 r46 S45 hz44) (cwV 1 hts gX6_classStatement_X6_takeKnown rfl rfl rfl (by decide +kernel) ⟨Nat.le_of_ble_eq_true rfl, Nat.le_of_ble_eq_true rfl⟩) rfl rfl (Nat.le_of_ble_eq_true rfl) dX6_classStatement_154 ⟨Nat.le_of_ble_eq_true rfl, Nat.le_of_ble_eq_true rfl⟩ (fun H locs hPz44 hW hS => ?_)
      refine W.eq (g2 := F0 m 157 ls [.int r46]) rfl ?_
      refine lv_istore (lv' := [(5, .int r46), (0, .ref (ad v0)), (1, .long (v1)), (3, .int v3), (4, .int v4)]) hx hb dX6_classStatement_157 hl (by decide) rfl (fun ls hl => ?_)
      refine lv_iload hx hb dX6_classStatement_159 (lv_at hl 0 rfl) ?_
      refine lv_iconst (v := -1) hx hb dX6_classStatement_161 (by decide) ?_
      refine lv_icmp_ne (tgt := 167) hx hb dX6_classStatement_162 (by decide) (fun c48 => ?_) (fun c48 => ?_)
      · replace hf := ifT c48 hf
        exact L167 S45 v0 v1 v3 v4 r46 tv0 _ _ _ hf hW hS (lv_sub hl [1, 2, 3, 4, 0] rfl)
      · replace hf := ifF (fun q => q c48) hf
        refine lv_iconst (v := 0) hx hb dX6_classStatement_165 (by decide) ?_
        obtain ⟨e1, e2⟩ := so2 hf
        subst e1
        subst e2
        exact W.zret (v := 0) hx hb hr rfl (fun t ht hWm => ⟨⟨rfl, by unfold QB; rw [ht]; exact ⟨hW, trivial⟩⟩, hS.F ht⟩) hS.2.2 dX6_classStatement_166 hlk
  have L95 : ∀ (S0 : St) (v0 : Nat) (v1 : Int64) (v3 : Int32) (tv0 : v0 < n ∧ K v0 = 5) (H : Heap) (locs : List Loc) (ls : Array Slot), f_X6_classStatement_L95 F S0 v0 v1 v3 = some (r9, S9) → Wb g ad n K S0 (dA ad n s.heap.size) H → va_S (dA ad n s.heap.size) s.heap H locs → lv_has ls 6 [(0, .ref (ad v0)), (1, .long (v1)), (3, .int v3)] → W p l e (headSpec wsX6_classStatement { frames := 4, cells := 0, slots := 0, locals := 91 }).room s m (List.toArray [.ref (ad p0)]) below meth c H locs 0 0 (MQ below (QR (some (.int r9)) (QB g ad n K S9 (dA ad n s.heap.size) (True)) (dA ad n s.heap.size)) (List.toArray [.ref (ad p0)]) s 0 0 (dA ad n s.heap.size)) (F0 m 95 ls []) := by
    intro S0 v0 v1 v3 tv0 H locs ls hf hW hS hl
    unfold f_X6_classStatement_L95 at hf
    refine lv_iconst (v := 0) hx hb dX6_classStatement_95 (by decide) ?_
    refine lv_istore (lv' := [(4, .int 0), (0, .ref (ad v0)), (1, .long (v1)), (3, .int v3)]) hx hb dX6_classStatement_96 hl (by decide) rfl (fun ls hl => ?_)
    refine lv_aload_n hx hb dX6_classStatement_98 rfl (lv_at hl 1 rfl) ?_
    refine x_gete 508 (ci := 5) (C := RX6) (T := TX6) (N := 10) 8 hC hinX6 hW tv0 rfl rfl ⟨by decide, by decide, rfl, rfl⟩ rfl w_1 dX6_classStatement_99 ?_
    refine x_getsE 6 (nm := "KEEP") hC hGE hS ⟨by decide, rfl⟩ w_4 dX6_classStatement_102 ?_
    replace hf := ckE hf
    obtain ⟨h61, hf⟩ := hf
    refine x_acmpE_ne (tgt := 129) hC hGE h61 (by decide) dX6_classStatement_105 (by decide) (fun c60 => ?_) (fun c60 => ?_)
    · replace hf := ifT c60 hf
      exact L129 S0 v0 v1 v3 0 tv0 _ _ _ hf hW hS (lv_sub hl [1, 2, 3, 0] rfl)
    · replace hf := ifF (fun q => q c60) hf
      refine lv_aload_n hx hb dX6_classStatement_108 rfl (lv_at hl 1 rfl) ?_
      replace hf := obE hf
      obtain ⟨S63, hz62, hf⟩ := hf
      refine x_callV (As := []) (rest := []) (o := none) (S1 := S63) hC hl.1 hW hS hGs hA tv0 rfl (show vwCl[5]? = some (RX6, TX6, 10) ∧ ob 5 from ⟨rfl, by decide⟩) (c_X6_nextToken l g ad n K H.size F S0 v0 tv0 S63 hz62) (cwV 0 hts gX6_classStatement_X6_nextToken rfl rfl rfl (by decide +kernel) ⟨Nat.le_of_ble_eq_true rfl, Nat.le_of_ble_eq_true rfl⟩) rfl rfl (Nat.le_of_ble_eq_true rfl) dX6_classStatement_109 ⟨Nat.le_of_ble_eq_true rfl, Nat.le_of_ble_eq_true rfl⟩ (fun H locs hPz62 hW hS => ?_)
      refine W.eq (g2 := F0 m 112 ls []) rfl ?_
      refine lv_aload_n hx hb dX6_classStatement_112 rfl (lv_at hl 1 rfl) ?_
      refine lv_iconst (v := 1) hx hb dX6_classStatement_113 (by decide) ?_
      refine lv_bipush (v := 99) hx hb dX6_classStatement_114 (by decide) ?_
      replace hf := obE hf
      obtain ⟨z66, hz66, hf⟩ := hf
      obtain ⟨r68, S67⟩ := z66
      replace hf := ltE (ltE hf r68 rfl) S67 rfl
      refine x_callV (As := [.int 1, .int 99]) (rest := []) (o := (some (.int r68))) (S1 := S67) hC hl.1 hW hS hGs hA tv0 rfl (show vwCl[5]? = some (RX6, TX6, 10) ∧ ob 5 from ⟨rfl, by decide⟩) (c_X6_takeNumber l g ad n K H.size F S63 v0 ((1 : Int32)) ((99 : Int32)) tv0 r68 S67 hz66) (cwV 2 hts gX6_classStatement_X6_takeNumber rfl rfl rfl (by decide +kernel) ⟨Nat.le_of_ble_eq_true rfl, Nat.le_of_ble_eq_true rfl⟩) rfl rfl (Nat.le_of_ble_eq_true rfl) dX6_classStatement_116 ⟨Nat.le_of_ble_eq_true rfl, Nat.le_of_ble_eq_true rfl⟩ (fun H locs hPz66 hW hS => ?_)
      refine W.eq (g2 := F0 m 119 ls [.int r68]) rfl ?_
      refine lv_istore (lv' := [(4, .int r68), (0, .ref (ad v0)), (1, .long (v1)), (3, .int v3)]) hx hb dX6_classStatement_119 hl (by decide) rfl (fun ls hl => ?_)
      refine lv_iload hx hb dX6_classStatement_121 (lv_at hl 0 rfl) ?_
      refine lv_iconst (v := -1) hx hb dX6_classStatement_123 (by decide) ?_
      refine lv_icmp_ne (tgt := 129) hx hb dX6_classStatement_124 (by decide) (fun c70 => ?_) (fun c70 => ?_)
      · replace hf := ifT c70 hf
        exact L129 S67 v0 v1 v3 r68 tv0 _ _ _ hf hW hS (lv_sub hl [1, 2, 3, 0] rfl)
      · replace hf := ifF (fun q => q c70) hf
        refine lv_iconst (v := 0) hx hb dX6_classStatement_127 (by decide) ?_
        obtain ⟨e1, e2⟩ := so2 hf
        subst e1
        subst e2
        exact W.zret (v := 0) hx hb hr rfl (fun t ht hWm => ⟨⟨rfl, by unfold QB; rw [ht]; exact ⟨hW, trivial⟩⟩, hS.F ht⟩) hS.2.2 dX6_classStatement_128 hlk
  unfold f_X6_classStatement at hf
  refine lv_aload_n hx hb dX6_classStatement_0 rfl (lv_at hl 0 rfl) ?_
  replace hf := obE hf
  obtain ⟨j71, qj71, hf⟩ := hf
  have tj71 := x_rt hW qj71 6 ⟨by decide, rfl⟩
  refine x_getr 501 (ci := 5) (C := RX6) (T := TX6) (N := 10) 1 hC hinX6 hW tp0 rfl rfl ⟨by decide, by decide, rfl, rfl⟩ rfl w_0 dX6_classStatement_1 qj71 ?_
  replace hf := obE hf
  obtain ⟨j72, qj72, hf⟩ := hf
  have tj72 := x_rt hW qj72 4 ⟨by decide, rfl⟩
  refine x_getrN 602 (ci := 6) (C := RX7) (T := TX7) (N := 16) 2 hC hinX7 hW tj71 rfl rfl ⟨by decide, by decide, rfl, rfl⟩ rfl w_3 dX6_classStatement_4 qj72 ?_
  replace hf := obE hf
  obtain ⟨z73, hz73, hf⟩ := hf
  obtain ⟨r75, S74⟩ := z73
  replace hf := ltE (ltE hf r75 rfl) S74 rfl
  refine x_callV (As := []) (rest := []) (o := (some (.int r75))) (S1 := S74) hC hl.1 hW hS hGs hA tj72 rfl (show vwCl[4]? = some (RX5, TX5, 2) ∧ ob 4 from ⟨rfl, by decide⟩) (c_X5_isFull l g ad n K s.heap.size F S0 j72 tj72 r75 S74 hz73) (cwV 0 hts gX6_classStatement_X5_isFull rfl rfl rfl (by decide +kernel) ⟨Nat.le_of_ble_eq_true rfl, Nat.le_of_ble_eq_true rfl⟩) rfl rfl (Nat.le_of_ble_eq_true rfl) dX6_classStatement_7 ⟨Nat.le_of_ble_eq_true rfl, Nat.le_of_ble_eq_true rfl⟩ (fun H locs hPz73 hW hS => ?_)
  refine W.eq (g2 := F0 m 10 ls [.int r75]) rfl ?_
  refine lv_if_eq (tgt := 19) hx hb dX6_classStatement_10 (by decide) (fun c77 => ?_) (fun c77 => ?_)
  · replace hf := ifT c77 hf
    refine lv_aload_n hx hb dX6_classStatement_19 rfl (lv_at hl 0 rfl) ?_
    replace hf := obE hf
    obtain ⟨S79, hz78, hf⟩ := hf
    refine x_callV (As := []) (rest := []) (o := none) (S1 := S79) hC hl.1 hW hS hGs hA tp0 rfl (show vwCl[5]? = some (RX6, TX6, 10) ∧ ob 5 from ⟨rfl, by decide⟩) (c_X6_nextToken l g ad n K H.size F S74 p0 tp0 S79 hz78) (cwV 0 hts gX6_classStatement_X6_nextToken rfl rfl rfl (by decide +kernel) ⟨Nat.le_of_ble_eq_true rfl, Nat.le_of_ble_eq_true rfl⟩) rfl rfl (Nat.le_of_ble_eq_true rfl) dX6_classStatement_20 ⟨Nat.le_of_ble_eq_true rfl, Nat.le_of_ble_eq_true rfl⟩ (fun H locs hPz78 hW hS => ?_)
    refine W.eq (g2 := F0 m 23 ls []) rfl ?_
    refine lv_aload_n hx hb dX6_classStatement_23 rfl (lv_at hl 0 rfl) ?_
    refine lv_aload_n hx hb dX6_classStatement_24 rfl (lv_at hl 0 rfl) ?_
    replace hf := obE hf
    obtain ⟨j82, qj82, hf⟩ := hf
    have tj82 := x_rt hW qj82 6 ⟨by decide, rfl⟩
    refine x_getr 501 (ci := 5) (C := RX6) (T := TX6) (N := 10) 1 hC hinX6 hW tp0 rfl rfl ⟨by decide, by decide, rfl, rfl⟩ rfl w_0 dX6_classStatement_25 qj82 ?_
    replace hf := obE hf
    obtain ⟨j83, qj83, hf⟩ := hf
    have tj83 := x_rt hW qj83 4 ⟨by decide, rfl⟩
    refine x_getrN 602 (ci := 6) (C := RX7) (T := TX7) (N := 16) 2 hC hinX7 hW tj82 rfl rfl ⟨by decide, by decide, rfl, rfl⟩ rfl w_3 dX6_classStatement_28 qj83 ?_
    refine lv_aload_n hx hb dX6_classStatement_31 rfl (lv_at hl 0 rfl) ?_
    replace hf := obE hf
    obtain ⟨j84, qj84, hf⟩ := hf
    have tj84 := x_rt hW qj84 6 ⟨by decide, rfl⟩
    refine x_getr 501 (ci := 5) (C := RX6) (T := TX6) (N := 10) 1 hC hinX6 hW tp0 rfl rfl ⟨by decide, by decide, rfl, rfl⟩ rfl w_0 dX6_classStatement_32 qj84 ?_
    replace hf := obE hf
    obtain ⟨j85, qj85, hf⟩ := hf
    have tj85 := x_rt hW qj85 4 ⟨by decide, rfl⟩
    refine x_getrN 602 (ci := 6) (C := RX7) (T := TX7) (N := 16) 2 hC hinX7 hW tj84 rfl rfl ⟨by decide, by decide, rfl, rfl⟩ rfl w_3 dX6_classStatement_35 qj85 ?_
    replace hf := obE hf
    obtain ⟨z86, hz86, hf⟩ := hf
    obtain ⟨r88, S87⟩ := z86
    replace hf := ltE (ltE hf r88 rfl) S87 rfl
    refine x_callV (As := [.ref (ad j83), .ref (ad j85)]) (rest := []) (o := (some (.long (r88)))) (S1 := S87) hC hl.1 hW hS hGs hA tp0 rfl (show vwCl[5]? = some (RX6, TX6, 10) ∧ ob 5 from ⟨rfl, by decide⟩) (c_X6_takeNewName l g ad n K H.size F S79 p0 j83 j85 tp0 tj83 tj85 r88 S87 hz86) (cwV 2 hts gX6_classStatement_X6_takeNewName rfl rfl rfl (by decide +kernel) ⟨Nat.le_of_ble_eq_true rfl, Nat.le_of_ble_eq_true rfl⟩) rfl rfl (Nat.le_of_ble_eq_true rfl) dX6_classStatement_38 ⟨Nat.le_of_ble_eq_true rfl, Nat.le_of_ble_eq_true rfl⟩ (fun H locs hPz86 hW hS => ?_)
    refine W.eq (g2 := F0 m 41 ls [.long (r88)]) rfl ?_
    refine lv_lstore_n (lv' := [(1, .long (r88)), (0, .ref (ad p0))]) hx hb dX6_classStatement_41 rfl hl (by decide) rfl (fun ls hl => ?_)
    refine lv_lload_n hx hb dX6_classStatement_42 rfl (lv_at hl 0 rfl) ?_
    refine lv_lconst (v := 0) hx hb dX6_classStatement_43 (by decide) ?_
    refine W.lcmp hx hb dX6_classStatement_44 ?_
    refine lv_if_eq (tgt := 58) hx hb dX6_classStatement_45 (by decide) (fun c90 => ?_) (fun c90 => ?_)
    · replace hf := ifT c90 hf
      refine lv_iconst (v := 0) hx hb dX6_classStatement_58 (by decide) ?_
      obtain ⟨e1, e2⟩ := so2 hf
      subst e1
      subst e2
      exact W.zret (v := 0) hx hb hr rfl (fun t ht hWm => ⟨⟨rfl, by unfold QB; rw [ht]; exact ⟨hW, trivial⟩⟩, hS.F ht⟩) hS.2.2 dX6_classStatement_59 hlk
    · replace hf := ifF c90 hf
      refine lv_aload_n hx hb dX6_classStatement_48 rfl (lv_at hl 1 rfl) ?_
      refine x_getsE 4 (nm := "DAYS") hC hGE hS ⟨by decide, rfl⟩ w_5 dX6_classStatement_49 ?_
      replace hf := obE hf
      obtain ⟨z91, hz91, hf⟩ := hf
      obtain ⟨r93, S92⟩ := z91
      replace hf := ltE (ltE hf r93 rfl) S92 rfl
      refine x_callV (As := [.ref (gen g 4)]) (rest := []) (o := (some (.int r93))) (S1 := S92) hC hl.1 hW hS hGs hA tp0 rfl (show vwCl[5]? = some (RX6, TX6, 10) ∧ ob 5 from ⟨rfl, by decide⟩) (c_X6_take l g ad n K H.size F S87 p0 4 tp0 (by decide) r93 S92 hz91) (cwV 1 hts gX6_classStatement_X6_take rfl rfl rfl (by decide +kernel) ⟨Nat.le_of_ble_eq_true rfl, Nat.le_of_ble_eq_true rfl⟩) rfl rfl (Nat.le_of_ble_eq_true rfl) dX6_classStatement_52 ⟨Nat.le_of_ble_eq_true rfl, Nat.le_of_ble_eq_true rfl⟩ (fun H locs hPz91 hW hS => ?_)
      refine W.eq (g2 := F0 m 55 ls [.int r93]) rfl ?_
      refine lv_if_ne (tgt := 60) hx hb dX6_classStatement_55 (by decide) (fun c95 => ?_) (fun c95 => ?_)
      · replace hf := ifT c95 hf
        refine lv_iconst (v := -1) hx hb dX6_classStatement_60 (by decide) ?_
        refine lv_topi (fun x96 ex96 => ?_)
        replace hf := ltE hf x96 ex96
        refine lv_istore_n (lv' := [(3, .int x96), (1, .long (r88)), (0, .ref (ad p0))]) hx hb dX6_classStatement_61 rfl hl (by decide) rfl (fun ls hl => ?_)
        refine lv_aload_n hx hb dX6_classStatement_62 rfl (lv_at hl 2 rfl) ?_
        refine x_gete 508 (ci := 5) (C := RX6) (T := TX6) (N := 10) 8 hC hinX6 hW tp0 rfl rfl ⟨by decide, by decide, rfl, rfl⟩ rfl w_1 dX6_classStatement_63 ?_
        refine x_getsE 5 (nm := "FOREVER") hC hGE hS ⟨by decide, rfl⟩ w_6 dX6_classStatement_66 ?_
        replace hf := ckE hf
        obtain ⟨h98, hf⟩ := hf
        refine x_acmpE_ne (tgt := 79) hC hGE h98 (by decide) dX6_classStatement_69 (by decide) (fun c97 => ?_) (fun c97 => ?_)
        · replace hf := ifT c97 hf
          refine lv_aload_n hx hb dX6_classStatement_79 rfl (lv_at hl 2 rfl) ?_
          refine lv_iconst (v := 1) hx hb dX6_classStatement_80 (by decide) ?_
          refine lv_sipush (v := 999) hx hb dX6_classStatement_81 (by decide) ?_
          replace hf := obE hf
          obtain ⟨z99, hz99, hf⟩ := hf
          obtain ⟨r101, S100⟩ := z99
          replace hf := ltE (ltE hf r101 rfl) S100 rfl
          refine x_callV (As := [.int 1, .int 999]) (rest := []) (o := (some (.int r101))) (S1 := S100) hC hl.1 hW hS hGs hA tp0 rfl (show vwCl[5]? = some (RX6, TX6, 10) ∧ ob 5 from ⟨rfl, by decide⟩) (c_X6_takeNumber l g ad n K H.size F S92 p0 ((1 : Int32)) ((999 : Int32)) tp0 r101 S100 hz99) (cwV 2 hts gX6_classStatement_X6_takeNumber rfl rfl rfl (by decide +kernel) ⟨Nat.le_of_ble_eq_true rfl, Nat.le_of_ble_eq_true rfl⟩) rfl rfl (Nat.le_of_ble_eq_true rfl) dX6_classStatement_84 ⟨Nat.le_of_ble_eq_true rfl, Nat.le_of_ble_eq_true rfl⟩ (fun H locs hPz99 hW hS => ?_)
          refine W.eq (g2 := F0 m 87 ls [.int r101]) rfl ?_
          refine lv_istore_n (lv' := [(3, .int r101), (1, .long (r88)), (0, .ref (ad p0))]) hx hb dX6_classStatement_87 rfl hl (by decide) rfl (fun ls hl => ?_)
          refine lv_iload_n hx hb dX6_classStatement_88 rfl (lv_at hl 0 rfl) ?_
          refine lv_iconst (v := -1) hx hb dX6_classStatement_89 (by decide) ?_
          refine lv_icmp_ne (tgt := 95) hx hb dX6_classStatement_90 (by decide) (fun c103 => ?_) (fun c103 => ?_)
          · replace hf := ifT c103 hf
            exact L95 S100 p0 r88 r101 tp0 _ _ _ hf hW hS (lv_sub hl [2, 1, 0] rfl)
          · replace hf := ifF (fun q => q c103) hf
            refine lv_iconst (v := 0) hx hb dX6_classStatement_93 (by decide) ?_
            obtain ⟨e1, e2⟩ := so2 hf
            subst e1
            subst e2
            exact W.zret (v := 0) hx hb hr rfl (fun t ht hWm => ⟨⟨rfl, by unfold QB; rw [ht]; exact ⟨hW, trivial⟩⟩, hS.F ht⟩) hS.2.2 dX6_classStatement_94 hlk
        · replace hf := ifF (fun q => q c97) hf
          refine lv_aload_n hx hb dX6_classStatement_72 rfl (lv_at hl 2 rfl) ?_
          replace hf := obE hf
          obtain ⟨S105, hz104, hf⟩ := hf
          refine x_callV (As := []) (rest := []) (o := none) (S1 := S105) hC hl.1 hW hS hGs hA tp0 rfl (show vwCl[5]? = some (RX6, TX6, 10) ∧ ob 5 from ⟨rfl, by decide⟩) (c_X6_nextToken l g ad n K H.size F S92 p0 tp0 S105 hz104) (cwV 0 hts gX6_classStatement_X6_nextToken rfl rfl rfl (by decide +kernel) ⟨Nat.le_of_ble_eq_true rfl, Nat.le_of_ble_eq_true rfl⟩) rfl rfl (Nat.le_of_ble_eq_true rfl) dX6_classStatement_73 ⟨Nat.le_of_ble_eq_true rfl, Nat.le_of_ble_eq_true rfl⟩ (fun H locs hPz104 hW hS => ?_)
          refine W.eq (g2 := F0 m 76 ls []) rfl ?_
          refine lv_goto (tgt := 95) hx hb dX6_classStatement_76 (by decide) ?_
          exact L95 S105 p0 r88 x96 tp0 _ _ _ hf hW hS (lv_sub hl [2, 1, 0] rfl)
      · replace hf := ifF (fun q => q c95) hf
        refine lv_iconst (v := 0) hx hb dX6_classStatement_58 (by decide) ?_
        obtain ⟨e1, e2⟩ := so2 hf
        subst e1
        subst e2
        exact W.zret (v := 0) hx hb hr rfl (fun t ht hWm => ⟨⟨rfl, by unfold QB; rw [ht]; exact ⟨hW, trivial⟩⟩, hS.F ht⟩) hS.2.2 dX6_classStatement_59 hlk
  · replace hf := ifF c77 hf
    refine lv_aload_n hx hb dX6_classStatement_13 rfl (lv_at hl 0 rfl) ?_
    refine lv_iconst (v := 4) hx hb dX6_classStatement_14 (by decide) ?_
    replace hf := obE hf
    obtain ⟨z108, hz108, hf⟩ := hf
    obtain ⟨r110, S109⟩ := z108
    replace hf := ltE (ltE hf r110 rfl) S109 rfl
    refine x_callV (As := [.int 4]) (rest := []) (o := (some (.int r110))) (S1 := S109) hC hl.1 hW hS hGs hA tp0 rfl (show vwCl[5]? = some (RX6, TX6, 10) ∧ ob 5 from ⟨rfl, by decide⟩) (c_X6_fail l g ad n K H.size F S74 p0 ((4 : Int32)) tp0 r110 S109 hz108) (cwV 1 hts gX6_classStatement_X6_fail rfl rfl rfl (by decide +kernel) ⟨Nat.le_of_ble_eq_true rfl, Nat.le_of_ble_eq_true rfl⟩) rfl rfl (Nat.le_of_ble_eq_true rfl) dX6_classStatement_15 ⟨Nat.le_of_ble_eq_true rfl, Nat.le_of_ble_eq_true rfl⟩ (fun H locs hPz108 hW hS => ?_)
    refine W.eq (g2 := F0 m 18 ls [.int r110]) rfl ?_
    replace hf := ckE hf
    obtain ⟨h112, hf⟩ := hf
    obtain ⟨e1, e2⟩ := so2 hf
    subst e1
    subst e2
    exact W.zret (v := r110) hx hb hr (zn h112) (fun t ht hWm => ⟨⟨rfl, by unfold QB; rw [ht]; exact ⟨hW, trivial⟩⟩, hS.F ht⟩) hS.2.2 dX6_classStatement_18 hlk
set_option maxHeartbeats 4000000 in
set_option maxRecDepth 100000 in
theorem c_X7_addUser (l : Launch) (g : GP) (ad : Nat → Nat) (n : Nat) (K : Nat → Nat) (sz F : Nat) (S0 : St) (p0 : Nat) (p1 : Int64) (p2 : Int32) (p3 : Int32) (tp0 : p0 < n ∧ K p0 = 6) (S9 : St) (hf : f_X7_addUser F S0 p0 p1 p2 p3 = some S9) : Met l yX7_addUser wsX7_addUser { frames := 1, cells := 0, slots := 0, locals := 23 } (va_Pc [.ref (ad p0), .long (p1), .int p2, .int p3] (PB g ad n K S0 sz)) (QR none (QB g ad n K S9 (dA ad n sz) (True)) (dA ad n sz)) 0 0 (dA ad n sz) := by
  refine Met.ofW (cc := cX7_addUser) (maxL := 6) (ret := none) (by decide) rfl ?_
  intro p e s m args below meth c s₁ B hml hv
  obtain ⟨rfl, hsz, hW, hK, hGs⟩ := x_start hv
  subst hsz
  have hx := B.exec
  have hb := B.bytes
  have hr := B.returns
  have hts := atoms_spec (ws := wsX7_addUser) B.pre
  have hown : s.vm.findClass RX7 = some m.cls := findClass_of_methodNamed B.named
  have hlk := B.notSynchronized
  have hC : Cx g p s m _ c cX7_addUser RX7 wsX7_addUser 6 := ⟨hx, hb, hml, hown, hts, hK⟩
  have hA : ∀ q : Nat, s.heap.size ≤ q → dA ad n s.heap.size q := fun q h => Or.inr h
  have hS : va_S (dA ad n s.heap.size) s.heap s.heap [] := va_S.rf
  have hl := lv_entry ([.ref (ad p0), .long (p1), .int p2, .int p3]) (n := 6) (Nat.le_of_ble_eq_true rfl)
  rw [lg_entry_eq]
  generalize (lg_sl ([.ref (ad p0), .long (p1), .int p2, .int p3]) ++ List.replicate (6 - (lg_sl ([.ref (ad p0), .long (p1), .int p2, .int p3])).length) Slot.unset).toArray = ls at hl ⊢
  have hl : lv_has ls 6 [(0, .ref (ad p0)), (1, .long (p1)), (3, .int p2), (4, .int p3)] := hl
  have hinX7 : ∀ w ∈ wsX70, w ∈ wsX7_addUser := by decide +kernel
  have w_0 := hts (.fieldLink RX7 34 "MailSpool$Rules" "users" "LMailSpool$Names;") (by decide +kernel)
  have w_1 := hts (.fieldLink RX7 37 "MailSpool$Rules" "userClass" "[I") (by decide +kernel)
  have w_2 := va_Nw.use (A := (List.toArray [.ref (ad p0), .long (p1), .int p2, .int p3])) rfl (hGs.1 (.methodLinkNest RX7 69 yX10_put "MailSpool") (by decide +kernel))
  have w_3 := hts (.initialized RX10) (by decide +kernel)
  have w_4 := hts (.static yX10_put) (by decide +kernel)
  have w_5 := hts (.fieldLink RX7 40 "MailSpool$Rules" "userQuota" "[I") (by decide +kernel)
  have hGE := hGs.2.2.2.1
  have hGM := hGs.2.2.2.2
  unfold f_X7_addUser at hf
  refine lv_aload_n hx hb dX7_addUser_0 rfl (lv_at hl 0 rfl) ?_
  replace hf := obE hf
  obtain ⟨j1, qj1, hf⟩ := hf
  have tj1 := x_rt hW qj1 4 ⟨by decide, rfl⟩
  refine x_getr 606 (ci := 6) (C := RX7) (T := TX7) (N := 16) 6 hC hinX7 hW tp0 rfl rfl ⟨by decide, by decide, rfl, rfl⟩ rfl w_0 dX7_addUser_1 qj1 ?_
  refine lv_lload_n hx hb dX7_addUser_4 rfl (lv_at hl 1 rfl) ?_
  replace hf := obE hf
  obtain ⟨z2, hz2, hf⟩ := hf
  obtain ⟨r4, S3⟩ := z2
  replace hf := ltE (ltE hf r4 rfl) S3 rfl
  refine x_callV (As := [.long (p1)]) (rest := []) (o := (some (.int r4))) (S1 := S3) hC hl.1 hW hS hGs hA tj1 rfl (show vwCl[4]? = some (RX5, TX5, 2) ∧ ob 4 from ⟨rfl, by decide⟩) (c_X5_add l g ad n K s.heap.size F S0 j1 p1 tj1 r4 S3 hz2) (cwV 1 hts gX7_addUser_X5_add rfl rfl rfl (by decide +kernel) ⟨Nat.le_of_ble_eq_true rfl, Nat.le_of_ble_eq_true rfl⟩) rfl rfl (Nat.le_of_ble_eq_true rfl) dX7_addUser_5 ⟨Nat.le_of_ble_eq_true rfl, Nat.le_of_ble_eq_true rfl⟩ (fun H locs hPz2 hW hS => ?_)
  refine W.eq (g2 := F0 m 8 ls [.int r4]) rfl ?_
  refine lv_istore (lv' := [(5, .int r4), (0, .ref (ad p0)), (1, .long (p1)), (3, .int p2), (4, .int p3)]) hx hb dX7_addUser_8 hl (by decide) rfl (fun ls hl => ?_)
  refine lv_aload_n hx hb dX7_addUser_10 rfl (lv_at hl 1 rfl) ?_
  replace hf := obE hf
  obtain ⟨j6, qj6, hf⟩ := hf
  have tj6 := x_rt hW qj6 12 ⟨by decide, rfl⟩
  refine x_getr 607 (ci := 6) (C := RX7) (T := TX7) (N := 16) 7 hC hinX7 hW tp0 rfl rfl ⟨by decide, by decide, rfl, rfl⟩ rfl w_1 dX7_addUser_11 qj6 ?_
  refine lv_iload hx hb dX7_addUser_14 (lv_at hl 0 rfl) ?_
  refine lv_iload_n hx hb dX7_addUser_16 rfl (lv_at hl 3 rfl) ?_
  replace hf := obE hf
  obtain ⟨S8, hz7, hf⟩ := hf
  refine x_callSN (As := [.ref (ad j6), .int r4, .int p2]) (rest := []) (o := none) (S1 := S8) hC hl.1 hW hS hGs hA (c_X10_put l g ad n K H.size F S3 j6 r4 p2 tj6 S8 hz7) ⟨va_cnB 3 hts gX7_addUser_X10_put_n69 rfl rfl rfl (va_Nw.of rfl w_2) w_3 (by decide +kernel) ⟨Nat.le_of_ble_eq_true rfl, Nat.le_of_ble_eq_true rfl⟩, w_4, trivial⟩ rfl rfl (Nat.le_of_ble_eq_true rfl) dX7_addUser_17 ⟨Nat.le_of_ble_eq_true rfl, Nat.le_of_ble_eq_true rfl⟩ (fun H locs hPz7 hW hS => ?_)
  refine W.eq (g2 := F0 m 20 ls []) rfl ?_
  refine lv_aload_n hx hb dX7_addUser_20 rfl (lv_at hl 1 rfl) ?_
  replace hf := obE hf
  obtain ⟨j11, qj11, hf⟩ := hf
  have tj11 := x_rt hW qj11 12 ⟨by decide, rfl⟩
  refine x_getr 608 (ci := 6) (C := RX7) (T := TX7) (N := 16) 8 hC hinX7 hW tp0 rfl rfl ⟨by decide, by decide, rfl, rfl⟩ rfl w_5 dX7_addUser_21 qj11 ?_
  refine lv_iload hx hb dX7_addUser_24 (lv_at hl 0 rfl) ?_
  refine lv_iload hx hb dX7_addUser_26 (lv_at hl 4 rfl) ?_
  replace hf := obE hf
  obtain ⟨S13, hz12, hf⟩ := hf
  refine x_callSN (As := [.ref (ad j11), .int r4, .int p3]) (rest := []) (o := none) (S1 := S13) hC hl.1 hW hS hGs hA (c_X10_put l g ad n K H.size F S8 j11 r4 p3 tj11 S13 hz12) ⟨va_cnB 3 hts gX7_addUser_X10_put_n69 rfl rfl rfl (va_Nw.of rfl w_2) w_3 (by decide +kernel) ⟨Nat.le_of_ble_eq_true rfl, Nat.le_of_ble_eq_true rfl⟩, w_4, trivial⟩ rfl rfl (Nat.le_of_ble_eq_true rfl) dX7_addUser_28 ⟨Nat.le_of_ble_eq_true rfl, Nat.le_of_ble_eq_true rfl⟩ (fun H locs hPz12 hW hS => ?_)
  refine W.eq (g2 := F0 m 31 ls []) rfl ?_
  have e1 := Option.some.inj hf
  subst e1
  exact W.vret hx hb hr (fun t ht hWm => ⟨⟨rfl, by unfold QB; rw [ht]; exact ⟨hW, trivial⟩⟩, hS.F ht⟩) hS.2.2 dX7_addUser_31 hlk
set_option maxHeartbeats 4000000 in
set_option maxRecDepth 100000 in
theorem c_X6_userStatement (l : Launch) (g : GP) (ad : Nat → Nat) (n : Nat) (K : Nat → Nat) (sz F : Nat) (S0 : St) (p0 : Nat) (tp0 : p0 < n ∧ K p0 = 5) (r9 : Int32) (S9 : St) (hf : f_X6_userStatement F S0 p0 = some (r9, S9)) : Met l yX6_userStatement wsX6_userStatement { frames := 4, cells := 0, slots := 0, locals := 91 } (va_Pc [.ref (ad p0)] (PB g ad n K S0 sz)) (QR (some (.int r9)) (QB g ad n K S9 (dA ad n sz) (True)) (dA ad n sz)) 0 0 (dA ad n sz) := by
  refine Met.ofW (cc := cX6_userStatement) (maxL := 5) (ret := (some .boolean)) (by decide) rfl ?_
  intro p e s m args below meth c s₁ B hml hv
  obtain ⟨rfl, hsz, hW, hK, hGs⟩ := x_start hv
  subst hsz
  have hx := B.exec
  have hb := B.bytes
  have hr := B.returns
  have hts := atoms_spec (ws := wsX6_userStatement) B.pre
  have hown : s.vm.findClass RX6 = some m.cls := findClass_of_methodNamed B.named
  have hlk := B.notSynchronized
  have hC : Cx g p s m _ c cX6_userStatement RX6 wsX6_userStatement 5 := ⟨hx, hb, hml, hown, hts, hK⟩
  have hA : ∀ q : Nat, s.heap.size ≤ q → dA ad n s.heap.size q := fun q h => Or.inr h
  have hS : va_S (dA ad n s.heap.size) s.heap s.heap [] := va_S.rf
  have hl := lv_entry ([.ref (ad p0)]) (n := 5) (Nat.le_of_ble_eq_true rfl)
  rw [lg_entry_eq]
  generalize (lg_sl ([.ref (ad p0)]) ++ List.replicate (5 - (lg_sl ([.ref (ad p0)])).length) Slot.unset).toArray = ls at hl ⊢
  have hl : lv_has ls 5 [(0, .ref (ad p0))] := hl
  have hinX5 : ∀ w ∈ wsX50, w ∈ wsX6_userStatement := by decide +kernel
  have hinX6 : ∀ w ∈ wsX60, w ∈ wsX6_userStatement := by decide +kernel
  have hinX7 : ∀ w ∈ wsX70, w ∈ wsX6_userStatement := by decide +kernel
  have w_0 := hts (.fieldLink RX6 18 "MailSpool$Parser" "rules" "LMailSpool$Rules;") (by decide +kernel)
  have w_1 := va_Nw.use (A := (List.toArray [.ref (ad p0)])) rfl (hGs.1 (.fieldLinkNest RX6 134 "MailSpool$Rules" "users" "LMailSpool$Names;" "MailSpool") (by decide +kernel))
  have w_2 := va_Nw.use (A := (List.toArray [.ref (ad p0)])) rfl (hGs.1 (.fieldLinkNest RX6 101 "MailSpool$Rules" "classes" "LMailSpool$Names;" "MailSpool") (by decide +kernel))
  have w_3 := va_Nw.use (A := (List.toArray [.ref (ad p0)])) rfl (hGs.1 (.fieldLinkNest RX6 137 "MailSpool$Names" "size" "I" "MailSpool") (by decide +kernel))
  have w_4 := va_Nw.use (A := (List.toArray [.ref (ad p0)])) rfl (hGs.1 (.fieldLinkNest RX6 138 "MailSpool$Rules" "groups" "LMailSpool$Names;" "MailSpool") (by decide +kernel))
  have w_5 := hts (.fieldLink RX6 45 "MailSpool$Keyword" "CLASS" "LMailSpool$Keyword;") (by decide +kernel)
  have w_6 := hts (.fieldLink RX6 141 "MailSpool$Keyword" "QUOTA" "LMailSpool$Keyword;") (by decide +kernel)
  have w_7 := hts (.constant RX6 144 (99999)) (by decide +kernel)
  have hGE := hGs.2.2.2.1
  have hGM := hGs.2.2.2.2
  have L26 : ∀ (S0 : St) (v0 : Nat) (tv0 : v0 < n ∧ K v0 = 5) (H : Heap) (locs : List Loc) (ls : Array Slot), f_X6_userStatement_L26 F S0 v0 = some (r9, S9) → Wb g ad n K S0 (dA ad n s.heap.size) H → va_S (dA ad n s.heap.size) s.heap H locs → lv_has ls 5 [(0, .ref (ad v0))] → W p l e (headSpec wsX6_userStatement { frames := 4, cells := 0, slots := 0, locals := 91 }).room s m (List.toArray [.ref (ad p0)]) below meth c H locs 0 0 (MQ below (QR (some (.int r9)) (QB g ad n K S9 (dA ad n s.heap.size) (True)) (dA ad n s.heap.size)) (List.toArray [.ref (ad p0)]) s 0 0 (dA ad n s.heap.size)) (F0 m 26 ls []) := by
    intro S0 v0 tv0 H locs ls hf hW hS hl
    unfold f_X6_userStatement_L26 at hf
    refine lv_aload_n hx hb dX6_userStatement_26 rfl (lv_at hl 0 rfl) ?_
    refine lv_iconst (v := 4) hx hb dX6_userStatement_27 (by decide) ?_
    replace hf := obE hf
    obtain ⟨z6, hz6, hf⟩ := hf
    obtain ⟨r8, S7⟩ := z6
    replace hf := ltE (ltE hf r8 rfl) S7 rfl
    refine x_callV (As := [.int 4]) (rest := []) (o := (some (.int r8))) (S1 := S7) hC hl.1 hW hS hGs hA tv0 rfl (show vwCl[5]? = some (RX6, TX6, 10) ∧ ob 5 from ⟨rfl, by decide⟩) (c_X6_fail l g ad n K H.size F S0 v0 ((4 : Int32)) tv0 r8 S7 hz6) (cwV 1 hts gX6_userStatement_X6_fail rfl rfl rfl (by decide +kernel) ⟨Nat.le_of_ble_eq_true rfl, Nat.le_of_ble_eq_true rfl⟩) rfl rfl (Nat.le_of_ble_eq_true rfl) dX6_userStatement_28 ⟨Nat.le_of_ble_eq_true rfl, Nat.le_of_ble_eq_true rfl⟩ (fun H locs hPz6 hW hS => ?_)
    refine W.eq (g2 := F0 m 31 ls [.int r8]) rfl ?_
    replace hf := ckE hf
    obtain ⟨h10, hf⟩ := hf
    obtain ⟨e1, e2⟩ := so2 hf
    subst e1
    subst e2
    exact W.zret (v := r8) hx hb hr (zn h10) (fun t ht hWm => ⟨⟨rfl, by unfold QB; rw [ht]; exact ⟨hW, trivial⟩⟩, hS.F ht⟩) hS.2.2 dX6_userStatement_31 hlk
  unfold f_X6_userStatement at hf
  refine lv_aload_n hx hb dX6_userStatement_0 rfl (lv_at hl 0 rfl) ?_
  replace hf := obE hf
  obtain ⟨j11, qj11, hf⟩ := hf
  have tj11 := x_rt hW qj11 6 ⟨by decide, rfl⟩
  refine x_getr 501 (ci := 5) (C := RX6) (T := TX6) (N := 10) 1 hC hinX6 hW tp0 rfl rfl ⟨by decide, by decide, rfl, rfl⟩ rfl w_0 dX6_userStatement_1 qj11 ?_
  replace hf := obE hf
  obtain ⟨j12, qj12, hf⟩ := hf
  have tj12 := x_rt hW qj12 4 ⟨by decide, rfl⟩
  refine x_getrN 606 (ci := 6) (C := RX7) (T := TX7) (N := 16) 6 hC hinX7 hW tj11 rfl rfl ⟨by decide, by decide, rfl, rfl⟩ rfl w_1 dX6_userStatement_4 qj12 ?_
  replace hf := obE hf
  obtain ⟨z13, hz13, hf⟩ := hf
  obtain ⟨r15, S14⟩ := z13
  replace hf := ltE (ltE hf r15 rfl) S14 rfl
  refine x_callV (As := []) (rest := []) (o := (some (.int r15))) (S1 := S14) hC hl.1 hW hS hGs hA tj12 rfl (show vwCl[4]? = some (RX5, TX5, 2) ∧ ob 4 from ⟨rfl, by decide⟩) (c_X5_isFull l g ad n K s.heap.size F S0 j12 tj12 r15 S14 hz13) (cwV 0 hts gX6_userStatement_X5_isFull rfl rfl rfl (by decide +kernel) ⟨Nat.le_of_ble_eq_true rfl, Nat.le_of_ble_eq_true rfl⟩) rfl rfl (Nat.le_of_ble_eq_true rfl) dX6_userStatement_7 ⟨Nat.le_of_ble_eq_true rfl, Nat.le_of_ble_eq_true rfl⟩ (fun H locs hPz13 hW hS => ?_)
  refine W.eq (g2 := F0 m 10 ls [.int r15]) rfl ?_
  refine lv_if_ne (tgt := 26) hx hb dX6_userStatement_10 (by decide) (fun c17 => ?_) (fun c17 => ?_)
  · replace hf := ifT c17 hf
    exact L26 S14 p0 tp0 _ _ _ hf hW hS (lv_sub hl [0] rfl)
  · replace hf := ifF (fun q => q c17) hf
    refine lv_aload_n hx hb dX6_userStatement_13 rfl (lv_at hl 0 rfl) ?_
    replace hf := obE hf
    obtain ⟨j18, qj18, hf⟩ := hf
    have tj18 := x_rt hW qj18 6 ⟨by decide, rfl⟩
    refine x_getr 501 (ci := 5) (C := RX6) (T := TX6) (N := 10) 1 hC hinX6 hW tp0 rfl rfl ⟨by decide, by decide, rfl, rfl⟩ rfl w_0 dX6_userStatement_14 qj18 ?_
    replace hf := obE hf
    obtain ⟨j19, qj19, hf⟩ := hf
    have tj19 := x_rt hW qj19 4 ⟨by decide, rfl⟩
    refine x_getrN 602 (ci := 6) (C := RX7) (T := TX7) (N := 16) 2 hC hinX7 hW tj18 rfl rfl ⟨by decide, by decide, rfl, rfl⟩ rfl w_2 dX6_userStatement_17 qj19 ?_
    refine x_getiN 401 (ci := 4) (C := RX5) (T := TX5) (N := 2) 1 hC hinX5 hW tj19 rfl rfl ⟨by decide, by decide, rfl, rfl⟩ rfl w_3 dX6_userStatement_20 ?_
    refine lv_if_ne (tgt := 32) hx hb dX6_userStatement_23 (by decide) (fun c20 => ?_) (fun c20 => ?_)
    · replace hf := ifT c20 hf
      refine lv_aload_n hx hb dX6_userStatement_32 rfl (lv_at hl 0 rfl) ?_
      replace hf := obE hf
      obtain ⟨S22, hz21, hf⟩ := hf
      refine x_callV (As := []) (rest := []) (o := none) (S1 := S22) hC hl.1 hW hS hGs hA tp0 rfl (show vwCl[5]? = some (RX6, TX6, 10) ∧ ob 5 from ⟨rfl, by decide⟩) (c_X6_nextToken l g ad n K H.size F S14 p0 tp0 S22 hz21) (cwV 0 hts gX6_userStatement_X6_nextToken rfl rfl rfl (by decide +kernel) ⟨Nat.le_of_ble_eq_true rfl, Nat.le_of_ble_eq_true rfl⟩) rfl rfl (Nat.le_of_ble_eq_true rfl) dX6_userStatement_33 ⟨Nat.le_of_ble_eq_true rfl, Nat.le_of_ble_eq_true rfl⟩ (fun H locs hPz21 hW hS => ?_)
      refine W.eq (g2 := F0 m 36 ls []) rfl ?_
      refine lv_aload_n hx hb dX6_userStatement_36 rfl (lv_at hl 0 rfl) ?_
      refine lv_aload_n hx hb dX6_userStatement_37 rfl (lv_at hl 0 rfl) ?_
      replace hf := obE hf
      obtain ⟨j25, qj25, hf⟩ := hf
      have tj25 := x_rt hW qj25 6 ⟨by decide, rfl⟩
      refine x_getr 501 (ci := 5) (C := RX6) (T := TX6) (N := 10) 1 hC hinX6 hW tp0 rfl rfl ⟨by decide, by decide, rfl, rfl⟩ rfl w_0 dX6_userStatement_38 qj25 ?_
      replace hf := obE hf
      obtain ⟨j26, qj26, hf⟩ := hf
      have tj26 := x_rt hW qj26 4 ⟨by decide, rfl⟩
      refine x_getrN 606 (ci := 6) (C := RX7) (T := TX7) (N := 16) 6 hC hinX7 hW tj25 rfl rfl ⟨by decide, by decide, rfl, rfl⟩ rfl w_1 dX6_userStatement_41 qj26 ?_
      refine lv_aload_n hx hb dX6_userStatement_44 rfl (lv_at hl 0 rfl) ?_
      replace hf := obE hf
      obtain ⟨j27, qj27, hf⟩ := hf
      have tj27 := x_rt hW qj27 6 ⟨by decide, rfl⟩
      refine x_getr 501 (ci := 5) (C := RX6) (T := TX6) (N := 10) 1 hC hinX6 hW tp0 rfl rfl ⟨by decide, by decide, rfl, rfl⟩ rfl w_0 dX6_userStatement_45 qj27 ?_
      replace hf := obE hf
      obtain ⟨j28, qj28, hf⟩ := hf
      have tj28 := x_rt hW qj28 4 ⟨by decide, rfl⟩
      refine x_getrN 609 (ci := 6) (C := RX7) (T := TX7) (N := 16) 9 hC hinX7 hW tj27 rfl rfl ⟨by decide, by decide, rfl, rfl⟩ rfl w_4 dX6_userStatement_48 qj28 ?_
      replace hf := obE hf
      obtain ⟨z29, hz29, hf⟩ := hf
      obtain ⟨r31, S30⟩ := z29
      replace hf := ltE (ltE hf r31 rfl) S30 rfl
      refine x_callV (As := [.ref (ad j26), .ref (ad j28)]) (rest := []) (o := (some (.long (r31)))) (S1 := S30) hC hl.1 hW hS hGs hA tp0 rfl (show vwCl[5]? = some (RX6, TX6, 10) ∧ ob 5 from ⟨rfl, by decide⟩) (c_X6_takeNewName l g ad n K H.size F S22 p0 j26 j28 tp0 tj26 tj28 r31 S30 hz29) (cwV 2 hts gX6_userStatement_X6_takeNewName rfl rfl rfl (by decide +kernel) ⟨Nat.le_of_ble_eq_true rfl, Nat.le_of_ble_eq_true rfl⟩) rfl rfl (Nat.le_of_ble_eq_true rfl) dX6_userStatement_51 ⟨Nat.le_of_ble_eq_true rfl, Nat.le_of_ble_eq_true rfl⟩ (fun H locs hPz29 hW hS => ?_)
      refine W.eq (g2 := F0 m 54 ls [.long (r31)]) rfl ?_
      refine lv_lstore_n (lv' := [(1, .long (r31)), (0, .ref (ad p0))]) hx hb dX6_userStatement_54 rfl hl (by decide) rfl (fun ls hl => ?_)
      refine lv_lload_n hx hb dX6_userStatement_55 rfl (lv_at hl 0 rfl) ?_
      refine lv_lconst (v := 0) hx hb dX6_userStatement_56 (by decide) ?_
      refine W.lcmp hx hb dX6_userStatement_57 ?_
      refine lv_if_eq (tgt := 71) hx hb dX6_userStatement_58 (by decide) (fun c33 => ?_) (fun c33 => ?_)
      · replace hf := ifT c33 hf
        refine lv_iconst (v := 0) hx hb dX6_userStatement_71 (by decide) ?_
        obtain ⟨e1, e2⟩ := so2 hf
        subst e1
        subst e2
        exact W.zret (v := 0) hx hb hr rfl (fun t ht hWm => ⟨⟨rfl, by unfold QB; rw [ht]; exact ⟨hW, trivial⟩⟩, hS.F ht⟩) hS.2.2 dX6_userStatement_72 hlk
      · replace hf := ifF c33 hf
        refine lv_aload_n hx hb dX6_userStatement_61 rfl (lv_at hl 1 rfl) ?_
        refine x_getsE 3 (nm := "CLASS") hC hGE hS ⟨by decide, rfl⟩ w_5 dX6_userStatement_62 ?_
        replace hf := obE hf
        obtain ⟨z34, hz34, hf⟩ := hf
        obtain ⟨r36, S35⟩ := z34
        replace hf := ltE (ltE hf r36 rfl) S35 rfl
        refine x_callV (As := [.ref (gen g 3)]) (rest := []) (o := (some (.int r36))) (S1 := S35) hC hl.1 hW hS hGs hA tp0 rfl (show vwCl[5]? = some (RX6, TX6, 10) ∧ ob 5 from ⟨rfl, by decide⟩) (c_X6_take l g ad n K H.size F S30 p0 3 tp0 (by decide) r36 S35 hz34) (cwV 1 hts gX6_userStatement_X6_take rfl rfl rfl (by decide +kernel) ⟨Nat.le_of_ble_eq_true rfl, Nat.le_of_ble_eq_true rfl⟩) rfl rfl (Nat.le_of_ble_eq_true rfl) dX6_userStatement_65 ⟨Nat.le_of_ble_eq_true rfl, Nat.le_of_ble_eq_true rfl⟩ (fun H locs hPz34 hW hS => ?_)
        refine W.eq (g2 := F0 m 68 ls [.int r36]) rfl ?_
        refine lv_if_ne (tgt := 73) hx hb dX6_userStatement_68 (by decide) (fun c38 => ?_) (fun c38 => ?_)
        · replace hf := ifT c38 hf
          refine lv_aload_n hx hb dX6_userStatement_73 rfl (lv_at hl 1 rfl) ?_
          refine lv_aload_n hx hb dX6_userStatement_74 rfl (lv_at hl 1 rfl) ?_
          replace hf := obE hf
          obtain ⟨j39, qj39, hf⟩ := hf
          have tj39 := x_rt hW qj39 6 ⟨by decide, rfl⟩
          refine x_getr 501 (ci := 5) (C := RX6) (T := TX6) (N := 10) 1 hC hinX6 hW tp0 rfl rfl ⟨by decide, by decide, rfl, rfl⟩ rfl w_0 dX6_userStatement_75 qj39 ?_
          replace hf := obE hf
          obtain ⟨j40, qj40, hf⟩ := hf
          have tj40 := x_rt hW qj40 4 ⟨by decide, rfl⟩
          refine x_getrN 602 (ci := 6) (C := RX7) (T := TX7) (N := 16) 2 hC hinX7 hW tj39 rfl rfl ⟨by decide, by decide, rfl, rfl⟩ rfl w_2 dX6_userStatement_78 qj40 ?_
          replace hf := obE hf
          obtain ⟨z41, hz41, hf⟩ := hf
          obtain ⟨r43, S42⟩ := z41
          replace hf := ltE (ltE hf r43 rfl) S42 rfl
          refine x_callV (As := [.ref (ad j40)]) (rest := []) (o := (some (.int r43))) (S1 := S42) hC hl.1 hW hS hGs hA tp0 rfl (show vwCl[5]? = some (RX6, TX6, 10) ∧ ob 5 from ⟨rfl, by decide⟩) (c_X6_takeKnown l g ad n K H.size F S35 p0 j40 tp0 tj40 r43 S42 hz41) (cwV 1 hts gX6_userStatement_X6_takeKnown rfl rfl rfl (by decide +kernel) ⟨Nat.le_of_ble_eq_true rfl, Nat.le_of_ble_eq_true rfl⟩) rfl rfl (Nat.le_of_ble_eq_true rfl) dX6_userStatement_81 ⟨Nat.le_of_ble_eq_true rfl, Nat.le_of_ble_eq_true rfl⟩ (fun H locs hPz41 hW hS => ?_)
          refine W.eq (g2 := F0 m 84 ls [.int r43]) rfl ?_
          refine lv_istore_n (lv' := [(3, .int r43), (1, .long (r31)), (0, .ref (ad p0))]) hx hb dX6_userStatement_84 rfl hl (by decide) rfl (fun ls hl => ?_)
          refine lv_iload_n hx hb dX6_userStatement_85 rfl (lv_at hl 0 rfl) ?_
          refine lv_iconst (v := -1) hx hb dX6_userStatement_86 (by decide) ?_
          refine lv_icmp_eq (tgt := 100) hx hb dX6_userStatement_87 (by decide) (fun c45 => ?_) (fun c45 => ?_)
          · replace hf := ifT c45 hf
            refine lv_iconst (v := 0) hx hb dX6_userStatement_100 (by decide) ?_
            obtain ⟨e1, e2⟩ := so2 hf
            subst e1
            subst e2
            exact W.zret (v := 0) hx hb hr rfl (fun t ht hWm => ⟨⟨rfl, by unfold QB; rw [ht]; exact ⟨hW, trivial⟩⟩, hS.F ht⟩) hS.2.2 dX6_userStatement_101 hlk
          · replace hf := ifF c45 hf
            refine lv_aload_n hx hb dX6_userStatement_90 rfl (lv_at hl 2 rfl) ?_
            refine x_getsE 9 (nm := "QUOTA") hC hGE hS ⟨by decide, rfl⟩ w_6 dX6_userStatement_91 ?_
            replace hf := obE hf
            obtain ⟨z46, hz46, hf⟩ := hf
            obtain ⟨r48, S47⟩ := z46
            replace hf := ltE (ltE hf r48 rfl) S47 rfl
            refine x_callV (As := [.ref (gen g 9)]) (rest := []) (o := (some (.int r48))) (S1 := S47) hC hl.1 hW hS hGs hA tp0 rfl (show vwCl[5]? = some (RX6, TX6, 10) ∧ ob 5 from ⟨rfl, by decide⟩) (c_X6_take l g ad n K H.size F S42 p0 9 tp0 (by decide) r48 S47 hz46) (cwV 1 hts gX6_userStatement_X6_take rfl rfl rfl (by decide +kernel) ⟨Nat.le_of_ble_eq_true rfl, Nat.le_of_ble_eq_true rfl⟩) rfl rfl (Nat.le_of_ble_eq_true rfl) dX6_userStatement_94 ⟨Nat.le_of_ble_eq_true rfl, Nat.le_of_ble_eq_true rfl⟩ (fun H locs hPz46 hW hS => ?_)
            refine W.eq (g2 := F0 m 97 ls [.int r48]) rfl ?_
            refine lv_if_ne (tgt := 102) hx hb dX6_userStatement_97 (by decide) (fun c50 => ?_) (fun c50 => ?_)
            · replace hf := ifT c50 hf
              refine lv_aload_n hx hb dX6_userStatement_102 rfl (lv_at hl 2 rfl) ?_
              refine lv_iconst (v := 1) hx hb dX6_userStatement_103 (by decide) ?_
              refine lv_ldc (v := 99999) hx hb hown w_7 dX6_userStatement_104 ?_
              replace hf := obE hf
              obtain ⟨z51, hz51, hf⟩ := hf
              obtain ⟨r53, S52⟩ := z51
              replace hf := ltE (ltE hf r53 rfl) S52 rfl
              refine x_callV (As := [.int 1, .int 99999]) (rest := []) (o := (some (.int r53))) (S1 := S52) hC hl.1 hW hS hGs hA tp0 rfl (show vwCl[5]? = some (RX6, TX6, 10) ∧ ob 5 from ⟨rfl, by decide⟩) (c_X6_takeNumber l g ad n K H.size F S47 p0 ((1 : Int32)) ((99999 : Int32)) tp0 r53 S52 hz51) (cwV 2 hts gX6_userStatement_X6_takeNumber rfl rfl rfl (by decide +kernel) ⟨Nat.le_of_ble_eq_true rfl, Nat.le_of_ble_eq_true rfl⟩) rfl rfl (Nat.le_of_ble_eq_true rfl) dX6_userStatement_106 ⟨Nat.le_of_ble_eq_true rfl, Nat.le_of_ble_eq_true rfl⟩ (fun H locs hPz51 hW hS => ?_)
              refine W.eq (g2 := F0 m 109 ls [.int r53]) rfl ?_
              refine lv_istore (lv' := [(4, .int r53), (3, .int r43), (1, .long (r31)), (0, .ref (ad p0))]) hx hb dX6_userStatement_109 hl (by decide) rfl (fun ls hl => ?_)
              refine lv_iload hx hb dX6_userStatement_111 (lv_at hl 0 rfl) ?_
              refine lv_iconst (v := -1) hx hb dX6_userStatement_113 (by decide) ?_
              refine lv_icmp_eq (tgt := 126) hx hb dX6_userStatement_114 (by decide) (fun c55 => ?_) (fun c55 => ?_)
              · replace hf := ifT c55 hf
                refine lv_iconst (v := 0) hx hb dX6_userStatement_126 (by decide) ?_
                obtain ⟨e1, e2⟩ := so2 hf
                subst e1
                subst e2
                exact W.zret (v := 0) hx hb hr rfl (fun t ht hWm => ⟨⟨rfl, by unfold QB; rw [ht]; exact ⟨hW, trivial⟩⟩, hS.F ht⟩) hS.2.2 dX6_userStatement_127 hlk
              · replace hf := ifF c55 hf
                refine lv_aload_n hx hb dX6_userStatement_117 rfl (lv_at hl 3 rfl) ?_
                refine lv_bipush (v := 59) hx hb dX6_userStatement_118 (by decide) ?_
                replace hf := obE hf
                obtain ⟨z56, hz56, hf⟩ := hf
                obtain ⟨r58, S57⟩ := z56
                replace hf := ltE (ltE hf r58 rfl) S57 rfl
                refine x_callV (As := [.int 59]) (rest := []) (o := (some (.int r58))) (S1 := S57) hC hl.1 hW hS hGs hA tp0 rfl (show vwCl[5]? = some (RX6, TX6, 10) ∧ ob 5 from ⟨rfl, by decide⟩) (c_X6_takeSymbol l g ad n K H.size F S52 p0 ((59 : Int32)) tp0 r58 S57 hz56) (cwV 1 hts gX6_userStatement_X6_takeSymbol rfl rfl rfl (by decide +kernel) ⟨Nat.le_of_ble_eq_true rfl, Nat.le_of_ble_eq_true rfl⟩) rfl rfl (Nat.le_of_ble_eq_true rfl) dX6_userStatement_120 ⟨Nat.le_of_ble_eq_true rfl, Nat.le_of_ble_eq_true rfl⟩ (fun H locs hPz56 hW hS => ?_)
                refine W.eq (g2 := F0 m 123 ls [.int r58]) rfl ?_
                refine lv_if_ne (tgt := 128) hx hb dX6_userStatement_123 (by decide) (fun c60 => ?_) (fun c60 => ?_)
                · replace hf := ifT c60 hf
                  refine lv_aload_n hx hb dX6_userStatement_128 rfl (lv_at hl 3 rfl) ?_
                  replace hf := obE hf
                  obtain ⟨j61, qj61, hf⟩ := hf
                  have tj61 := x_rt hW qj61 6 ⟨by decide, rfl⟩
                  refine x_getr 501 (ci := 5) (C := RX6) (T := TX6) (N := 10) 1 hC hinX6 hW tp0 rfl rfl ⟨by decide, by decide, rfl, rfl⟩ rfl w_0 dX6_userStatement_129 qj61 ?_
                  refine lv_lload_n hx hb dX6_userStatement_132 rfl (lv_at hl 2 rfl) ?_
                  refine lv_iload_n hx hb dX6_userStatement_133 rfl (lv_at hl 1 rfl) ?_
                  refine lv_iload hx hb dX6_userStatement_134 (lv_at hl 0 rfl) ?_
                  replace hf := obE hf
                  obtain ⟨S63, hz62, hf⟩ := hf
                  refine x_callV (As := [.long (r31), .int r43, .int r53]) (rest := []) (o := none) (S1 := S63) hC hl.1 hW hS hGs hA tj61 rfl (show vwCl[6]? = some (RX7, TX7, 16) ∧ ob 6 from ⟨rfl, by decide⟩) (c_X7_addUser l g ad n K H.size F S57 j61 r31 r43 r53 tj61 S63 hz62) (cwV 3 hts gX6_userStatement_X7_addUser rfl rfl rfl (by decide +kernel) ⟨Nat.le_of_ble_eq_true rfl, Nat.le_of_ble_eq_true rfl⟩) rfl rfl (Nat.le_of_ble_eq_true rfl) dX6_userStatement_136 ⟨Nat.le_of_ble_eq_true rfl, Nat.le_of_ble_eq_true rfl⟩ (fun H locs hPz62 hW hS => ?_)
                  refine W.eq (g2 := F0 m 139 ls []) rfl ?_
                  refine lv_iconst (v := 1) hx hb dX6_userStatement_139 (by decide) ?_
                  obtain ⟨e1, e2⟩ := so2 hf
                  subst e1
                  subst e2
                  exact W.zret (v := 1) hx hb hr rfl (fun t ht hWm => ⟨⟨rfl, by unfold QB; rw [ht]; exact ⟨hW, trivial⟩⟩, hS.F ht⟩) hS.2.2 dX6_userStatement_140 hlk
                · replace hf := ifF (fun q => q c60) hf
                  refine lv_iconst (v := 0) hx hb dX6_userStatement_126 (by decide) ?_
                  obtain ⟨e1, e2⟩ := so2 hf
                  subst e1
                  subst e2
                  exact W.zret (v := 0) hx hb hr rfl (fun t ht hWm => ⟨⟨rfl, by unfold QB; rw [ht]; exact ⟨hW, trivial⟩⟩, hS.F ht⟩) hS.2.2 dX6_userStatement_127 hlk
            · replace hf := ifF (fun q => q c50) hf
              refine lv_iconst (v := 0) hx hb dX6_userStatement_100 (by decide) ?_
              obtain ⟨e1, e2⟩ := so2 hf
              subst e1
              subst e2
              exact W.zret (v := 0) hx hb hr rfl (fun t ht hWm => ⟨⟨rfl, by unfold QB; rw [ht]; exact ⟨hW, trivial⟩⟩, hS.F ht⟩) hS.2.2 dX6_userStatement_101 hlk
        · replace hf := ifF (fun q => q c38) hf
          refine lv_iconst (v := 0) hx hb dX6_userStatement_71 (by decide) ?_
          obtain ⟨e1, e2⟩ := so2 hf
          subst e1
          subst e2
          exact W.zret (v := 0) hx hb hr rfl (fun t ht hWm => ⟨⟨rfl, by unfold QB; rw [ht]; exact ⟨hW, trivial⟩⟩, hS.F ht⟩) hS.2.2 dX6_userStatement_72 hlk
    · replace hf := ifF (fun q => q c20) hf
      exact L26 S14 p0 tp0 _ _ _ hf hW hS (lv_sub hl [0] rfl)
set_option maxHeartbeats 4000000 in
set_option maxRecDepth 100000 in
theorem c_X10_at (l : Launch) (g : GP) (ad : Nat → Nat) (n : Nat) (K : Nat → Nat) (sz F : Nat) (S0 : St) (p0 : Nat) (p1 : Int32) (tp0 : p0 < n ∧ K p0 = 12) (r9 : Int32) (S9 : St) (hf : f_X10_at F S0 p0 p1 = some (r9, S9)) : Met l yX10_at wsX10_at { frames := 0, cells := 0, slots := 0, locals := 0 } (va_Pc [.ref (ad p0), .int p1] (PB g ad n K S0 sz)) (QR (some (.int r9)) (QB g ad n K S9 (dA ad n sz) (True)) (dA ad n sz)) 0 0 (dA ad n sz) := by
  refine Met.ofW (cc := cX10_at) (maxL := 2) (ret := (some .int)) (by decide) rfl ?_
  intro p e s m args below meth c s₁ B hml hv
  obtain ⟨rfl, hsz, hW, hK, hGs⟩ := x_start hv
  subst hsz
  have hx := B.exec
  have hb := B.bytes
  have hr := B.returns
  have hts := atoms_spec (ws := wsX10_at) B.pre
  have hown : s.vm.findClass RX10 = some m.cls := findClass_of_methodNamed B.named
  have hlk := B.notSynchronized
  have hC : Cx g p s m _ c cX10_at RX10 wsX10_at 2 := ⟨hx, hb, hml, hown, hts, hK⟩
  have hA : ∀ q : Nat, s.heap.size ≤ q → dA ad n s.heap.size q := fun q h => Or.inr h
  have hS : va_S (dA ad n s.heap.size) s.heap s.heap [] := va_S.rf
  have hl := lv_entry ([.ref (ad p0), .int p1]) (n := 2) (Nat.le_of_ble_eq_true rfl)
  rw [lg_entry_eq]
  generalize (lg_sl ([.ref (ad p0), .int p1]) ++ List.replicate (2 - (lg_sl ([.ref (ad p0), .int p1])).length) Slot.unset).toArray = ls at hl ⊢
  have hl : lv_has ls 2 [(0, .ref (ad p0)), (1, .int p1)] := hl
  have hGE := hGs.2.2.2.1
  have hGM := hGs.2.2.2.2
  unfold f_X10_at at hf
  refine lv_iload_n hx hb dX10_at_0 rfl (lv_at hl 1 rfl) ?_
  refine lv_if_lt (tgt := 16) hx hb dX10_at_1 (by decide) (fun c1 => ?_) (fun c1 => ?_)
  · replace hf := ifT c1 hf
    refine lv_iconst (v := -1) hx hb dX10_at_16 (by decide) ?_
    obtain ⟨e1, e2⟩ := so2 hf
    subst e1
    subst e2
    exact W.iret (v := (-1)) hx hb hr (fun t ht hWm => ⟨⟨rfl, by unfold QB; rw [ht]; exact ⟨hW, trivial⟩⟩, hS.F ht⟩) hS.2.2 dX10_at_17 hlk
  · replace hf := ifF c1 hf
    refine lv_iload_n hx hb dX10_at_4 rfl (lv_at hl 1 rfl) ?_
    refine lv_aload_n hx hb dX10_at_5 rfl (lv_at hl 0 rfl) ?_
    refine x_alen hC hW tp0 rfl ⟨by decide, by decide⟩ dX10_at_6 ?_
    refine lv_icmp_ge (tgt := 16) hx hb dX10_at_7 (by decide) (fun c2 => ?_) (fun c2 => ?_)
    · replace hf := ifT c2 hf
      refine lv_iconst (v := -1) hx hb dX10_at_16 (by decide) ?_
      obtain ⟨e1, e2⟩ := so2 hf
      subst e1
      subst e2
      exact W.iret (v := (-1)) hx hb hr (fun t ht hWm => ⟨⟨rfl, by unfold QB; rw [ht]; exact ⟨hW, trivial⟩⟩, hS.F ht⟩) hS.2.2 dX10_at_17 hlk
    · replace hf := ifF c2 hf
      refine lv_aload_n hx hb dX10_at_10 rfl (lv_at hl 0 rfl) ?_
      refine lv_iload_n hx hb dX10_at_11 rfl (lv_at hl 1 rfl) ?_
      replace hf := ckiE hf
      obtain ⟨h3, hf⟩ := hf
      refine x_iald hC hW tp0 rfl rfl h3 dX10_at_12 ?_
      refine lv_goto (tgt := 17) hx hb dX10_at_13 (by decide) ?_
      obtain ⟨e1, e2⟩ := so2 hf
      subst e1
      subst e2
      exact W.iret (v := ai S0 p0 (Int32.toNatClampNeg p1)) hx hb hr (fun t ht hWm => ⟨⟨rfl, by unfold QB; rw [ht]; exact ⟨hW, trivial⟩⟩, hS.F ht⟩) hS.2.2 dX10_at_17 hlk
set_option maxHeartbeats 4000000 in
set_option maxRecDepth 100000 in
theorem c_X6_takeMember (l : Launch) (g : GP) (ad : Nat → Nat) (n : Nat) (K : Nat → Nat) (sz F : Nat) (S0 : St) (p0 : Nat) (tp0 : p0 < n ∧ K p0 = 5) (r9 : Int32) (S9 : St) (hf : f_X6_takeMember F S0 p0 = some (r9, S9)) : Met l yX6_takeMember wsX6_takeMember { frames := 3, cells := 0, slots := 0, locals := 67 } (va_Pc [.ref (ad p0)] (PB g ad n K S0 sz)) (QR (some (.int r9)) (QB g ad n K S9 (dA ad n sz) (True)) (dA ad n sz)) 0 0 (dA ad n sz) := by
  refine Met.ofW (cc := cX6_takeMember) (maxL := 3) (ret := (some .int)) (by decide) rfl ?_
  intro p e s m args below meth c s₁ B hml hv
  obtain ⟨rfl, hsz, hW, hK, hGs⟩ := x_start hv
  subst hsz
  have hx := B.exec
  have hb := B.bytes
  have hr := B.returns
  have hts := atoms_spec (ws := wsX6_takeMember) B.pre
  have hown : s.vm.findClass RX6 = some m.cls := findClass_of_methodNamed B.named
  have hlk := B.notSynchronized
  have hC : Cx g p s m _ c cX6_takeMember RX6 wsX6_takeMember 3 := ⟨hx, hb, hml, hown, hts, hK⟩
  have hA : ∀ q : Nat, s.heap.size ≤ q → dA ad n s.heap.size q := fun q h => Or.inr h
  have hS : va_S (dA ad n s.heap.size) s.heap s.heap [] := va_S.rf
  have hl := lv_entry ([.ref (ad p0)]) (n := 3) (Nat.le_of_ble_eq_true rfl)
  rw [lg_entry_eq]
  generalize (lg_sl ([.ref (ad p0)]) ++ List.replicate (3 - (lg_sl ([.ref (ad p0)])).length) Slot.unset).toArray = ls at hl ⊢
  have hl : lv_has ls 3 [(0, .ref (ad p0))] := hl
  have hinX6 : ∀ w ∈ wsX60, w ∈ wsX6_takeMember := by decide +kernel
  have hinX7 : ∀ w ∈ wsX70, w ∈ wsX6_takeMember := by decide +kernel
  have w_0 := hts (.fieldLink RX6 18 "MailSpool$Parser" "rules" "LMailSpool$Rules;") (by decide +kernel)
  have w_1 := va_Nw.use (A := (List.toArray [.ref (ad p0)])) rfl (hGs.1 (.fieldLinkNest RX6 203 "MailSpool$Rules" "groupMembers" "[I" "MailSpool") (by decide +kernel))
  have w_2 := va_Nw.use (A := (List.toArray [.ref (ad p0)])) rfl (hGs.1 (.methodLinkNest RX6 207 yX10_at "MailSpool") (by decide +kernel))
  have w_3 := hts (.initialized RX10) (by decide +kernel)
  have w_4 := hts (.static yX10_at) (by decide +kernel)
  have w_5 := va_Nw.use (A := (List.toArray [.ref (ad p0)])) rfl (hGs.1 (.fieldLinkNest RX6 138 "MailSpool$Rules" "groups" "LMailSpool$Names;" "MailSpool") (by decide +kernel))
  have w_6 := hts (.fieldLink RX6 190 "MailSpool$Parser" "word" "J") (by decide +kernel)
  have w_7 := va_Nw.use (A := (List.toArray [.ref (ad p0)])) rfl (hGs.1 (.fieldLinkNest RX6 134 "MailSpool$Rules" "users" "LMailSpool$Names;" "MailSpool") (by decide +kernel))
  have hGE := hGs.2.2.2.1
  have hGM := hGs.2.2.2.2
  have L81 : ∀ (S0 : St) (v0 : Nat) (v1 : Int32) (v2 : Int32) (tv0 : v0 < n ∧ K v0 = 5) (H : Heap) (locs : List Loc) (ls : Array Slot), f_X6_takeMember_L81 F S0 v0 v1 v2 = some (r9, S9) → Wb g ad n K S0 (dA ad n s.heap.size) H → va_S (dA ad n s.heap.size) s.heap H locs → lv_has ls 3 [(0, .ref (ad v0)), (1, .int v1), (2, .int v2)] → W p l e (headSpec wsX6_takeMember { frames := 3, cells := 0, slots := 0, locals := 67 }).room s m (List.toArray [.ref (ad p0)]) below meth c H locs 0 0 (MQ below (QR (some (.int r9)) (QB g ad n K S9 (dA ad n s.heap.size) (True)) (dA ad n s.heap.size)) (List.toArray [.ref (ad p0)]) s 0 0 (dA ad n s.heap.size)) (F0 m 81 ls []) := by
    intro S0 v0 v1 v2 tv0 H locs ls hf hW hS hl
    unfold f_X6_takeMember_L81 at hf
    refine lv_aload_n hx hb dX6_takeMember_81 rfl (lv_at hl 0 rfl) ?_
    replace hf := obE hf
    obtain ⟨S13, hz12, hf⟩ := hf
    refine x_callV (As := []) (rest := []) (o := none) (S1 := S13) hC hl.1 hW hS hGs hA tv0 rfl (show vwCl[5]? = some (RX6, TX6, 10) ∧ ob 5 from ⟨rfl, by decide⟩) (c_X6_nextToken l g ad n K H.size F S0 v0 tv0 S13 hz12) (cwV 0 hts gX6_takeMember_X6_nextToken rfl rfl rfl (by decide +kernel) ⟨Nat.le_of_ble_eq_true rfl, Nat.le_of_ble_eq_true rfl⟩) rfl rfl (Nat.le_of_ble_eq_true rfl) dX6_takeMember_82 ⟨Nat.le_of_ble_eq_true rfl, Nat.le_of_ble_eq_true rfl⟩ (fun H locs hPz12 hW hS => ?_)
    refine W.eq (g2 := F0 m 85 ls []) rfl ?_
    refine lv_iload_n hx hb dX6_takeMember_85 rfl (lv_at hl 1 rfl) ?_
    refine lv_iconst (v := -1) hx hb dX6_takeMember_86 (by decide) ?_
    refine lv_icmp_ne (tgt := 104) hx hb dX6_takeMember_87 (by decide) (fun c16 => ?_) (fun c16 => ?_)
    · replace hf := ifT c16 hf
      refine lv_iconst (v := 1) hx hb dX6_takeMember_104 (by decide) ?_
      refine lv_iload_n hx hb dX6_takeMember_105 rfl (lv_at hl 1 rfl) ?_
      refine lv_ishl hx hb dX6_takeMember_106 ?_
      obtain ⟨e1, e2⟩ := so2 hf
      subst e1
      subst e2
      exact W.iret (v := 1 <<< (v1 &&& 31)) hx hb hr (fun t ht hWm => ⟨⟨rfl, by unfold QB; rw [ht]; exact ⟨hW, trivial⟩⟩, hS.F ht⟩) hS.2.2 dX6_takeMember_107 hlk
    · replace hf := ifF (fun q => q c16) hf
      refine lv_aload_n hx hb dX6_takeMember_90 rfl (lv_at hl 0 rfl) ?_
      replace hf := obE hf
      obtain ⟨j17, qj17, hf⟩ := hf
      have tj17 := x_rt hW qj17 6 ⟨by decide, rfl⟩
      refine x_getr 501 (ci := 5) (C := RX6) (T := TX6) (N := 10) 1 hC hinX6 hW tv0 rfl rfl ⟨by decide, by decide, rfl, rfl⟩ rfl w_0 dX6_takeMember_91 qj17 ?_
      replace hf := obE hf
      obtain ⟨j18, qj18, hf⟩ := hf
      have tj18 := x_rt hW qj18 12 ⟨by decide, rfl⟩
      refine x_getrN 610 (ci := 6) (C := RX7) (T := TX7) (N := 16) 10 hC hinX7 hW tj17 rfl rfl ⟨by decide, by decide, rfl, rfl⟩ rfl w_1 dX6_takeMember_94 qj18 ?_
      refine lv_iload_n hx hb dX6_takeMember_97 rfl (lv_at hl 2 rfl) ?_
      replace hf := obE hf
      obtain ⟨z19, hz19, hf⟩ := hf
      obtain ⟨r21, S20⟩ := z19
      replace hf := ltE (ltE hf r21 rfl) S20 rfl
      refine x_callSN (As := [.ref (ad j18), .int v2]) (rest := []) (o := (some (.int r21))) (S1 := S20) hC hl.1 hW hS hGs hA (c_X10_at l g ad n K H.size F S13 j18 v2 tj18 r21 S20 hz19) ⟨va_cnB 2 hts gX6_takeMember_X10_at_n207 rfl rfl rfl (va_Nw.of rfl w_2) w_3 (by decide +kernel) ⟨Nat.le_of_ble_eq_true rfl, Nat.le_of_ble_eq_true rfl⟩, w_4, trivial⟩ rfl rfl (Nat.le_of_ble_eq_true rfl) dX6_takeMember_98 ⟨Nat.le_of_ble_eq_true rfl, Nat.le_of_ble_eq_true rfl⟩ (fun H locs hPz19 hW hS => ?_)
      refine W.eq (g2 := F0 m 101 ls [.int r21]) rfl ?_
      refine lv_goto (tgt := 107) hx hb dX6_takeMember_101 (by decide) ?_
      obtain ⟨e1, e2⟩ := so2 hf
      subst e1
      subst e2
      exact W.iret (v := r21) hx hb hr (fun t ht hWm => ⟨⟨rfl, by unfold QB; rw [ht]; exact ⟨hW, trivial⟩⟩, hS.F ht⟩) hS.2.2 dX6_takeMember_107 hlk
  have L75 : ∀ (S0 : St) (s0 : Int32) (s1 : Nat) (ts1 : s1 < n ∧ K s1 = 5) (H : Heap) (locs : List Loc) (ls : Array Slot), f_X6_takeMember_L75 F S0 s0 s1 = some (r9, S9) → Wb g ad n K S0 (dA ad n s.heap.size) H → va_S (dA ad n s.heap.size) s.heap H locs → lv_has ls 3 [] → W p l e (headSpec wsX6_takeMember { frames := 3, cells := 0, slots := 0, locals := 67 }).room s m (List.toArray [.ref (ad p0)]) below meth c H locs 0 0 (MQ below (QR (some (.int r9)) (QB g ad n K S9 (dA ad n s.heap.size) (True)) (dA ad n s.heap.size)) (List.toArray [.ref (ad p0)]) s 0 0 (dA ad n s.heap.size)) (F0 m 75 ls [.int s0, .ref (ad s1)]) := by
    intro S0 s0 s1 ts1 H locs ls hf hW hS hl
    unfold f_X6_takeMember_L75 at hf
    replace hf := obE hf
    obtain ⟨z27, hz27, hf⟩ := hf
    obtain ⟨r29, S28⟩ := z27
    replace hf := ltE (ltE hf r29 rfl) S28 rfl
    refine x_callV (As := [.int s0]) (rest := []) (o := (some (.int r29))) (S1 := S28) hC hl.1 hW hS hGs hA ts1 rfl (show vwCl[5]? = some (RX6, TX6, 10) ∧ ob 5 from ⟨rfl, by decide⟩) (c_X6_fail l g ad n K H.size F S0 s1 s0 ts1 r29 S28 hz27) (cwV 1 hts gX6_takeMember_X6_fail rfl rfl rfl (by decide +kernel) ⟨Nat.le_of_ble_eq_true rfl, Nat.le_of_ble_eq_true rfl⟩) rfl rfl (Nat.le_of_ble_eq_true rfl) dX6_takeMember_75 ⟨Nat.le_of_ble_eq_true rfl, Nat.le_of_ble_eq_true rfl⟩ (fun H locs hPz27 hW hS => ?_)
    refine W.eq (g2 := F0 m 78 ls [.int r29]) rfl ?_
    refine lv_pop hx hb dX6_takeMember_78 rfl ?_
    refine lv_iconst (v := 0) hx hb dX6_takeMember_79 (by decide) ?_
    obtain ⟨e1, e2⟩ := so2 hf
    subst e1
    subst e2
    exact W.iret (v := 0) hx hb hr (fun t ht hWm => ⟨⟨rfl, by unfold QB; rw [ht]; exact ⟨hW, trivial⟩⟩, hS.F ht⟩) hS.2.2 dX6_takeMember_80 hlk
  have L51 : ∀ (S0 : St) (v0 : Nat) (v1 : Int32) (s0 : Int32) (tv0 : v0 < n ∧ K v0 = 5) (H : Heap) (locs : List Loc) (ls : Array Slot), f_X6_takeMember_L51 F S0 v0 v1 s0 = some (r9, S9) → Wb g ad n K S0 (dA ad n s.heap.size) H → va_S (dA ad n s.heap.size) s.heap H locs → lv_has ls 3 [(0, .ref (ad v0)), (1, .int v1)] → W p l e (headSpec wsX6_takeMember { frames := 3, cells := 0, slots := 0, locals := 67 }).room s m (List.toArray [.ref (ad p0)]) below meth c H locs 0 0 (MQ below (QR (some (.int r9)) (QB g ad n K S9 (dA ad n s.heap.size) (True)) (dA ad n s.heap.size)) (List.toArray [.ref (ad p0)]) s 0 0 (dA ad n s.heap.size)) (F0 m 51 ls [.int s0]) := by
    intro S0 v0 v1 s0 tv0 H locs ls hf hW hS hl
    unfold f_X6_takeMember_L51 at hf
    refine lv_istore_n (lv' := [(2, .int s0), (0, .ref (ad v0)), (1, .int v1)]) hx hb dX6_takeMember_51 rfl hl (by decide) rfl (fun ls hl => ?_)
    refine lv_iload_n hx hb dX6_takeMember_52 rfl (lv_at hl 2 rfl) ?_
    refine lv_iconst (v := -1) hx hb dX6_takeMember_53 (by decide) ?_
    refine lv_icmp_ne (tgt := 81) hx hb dX6_takeMember_54 (by decide) (fun c38 => ?_) (fun c38 => ?_)
    · replace hf := ifT c38 hf
      exact L81 S0 v0 v1 s0 tv0 _ _ _ hf hW hS (lv_sub hl [1, 2, 0] rfl)
    · replace hf := ifF (fun q => q c38) hf
      refine lv_iload_n hx hb dX6_takeMember_57 rfl (lv_at hl 0 rfl) ?_
      refine lv_iconst (v := -1) hx hb dX6_takeMember_58 (by decide) ?_
      refine lv_icmp_ne (tgt := 81) hx hb dX6_takeMember_59 (by decide) (fun c39 => ?_) (fun c39 => ?_)
      · replace hf := ifT c39 hf
        exact L81 S0 v0 v1 s0 tv0 _ _ _ hf hW hS (lv_sub hl [1, 2, 0] rfl)
      · replace hf := ifF (fun q => q c39) hf
        refine lv_aload_n hx hb dX6_takeMember_62 rfl (lv_at hl 1 rfl) ?_
        refine lv_aload_n hx hb dX6_takeMember_63 rfl (lv_at hl 1 rfl) ?_
        replace hf := obE hf
        obtain ⟨z40, hz40, hf⟩ := hf
        obtain ⟨r42, S41⟩ := z40
        replace hf := ltE (ltE hf r42 rfl) S41 rfl
        refine x_callV (As := []) (rest := [.ref (ad v0)]) (o := (some (.int r42))) (S1 := S41) hC hl.1 hW hS hGs hA tv0 rfl (show vwCl[5]? = some (RX6, TX6, 10) ∧ ob 5 from ⟨rfl, by decide⟩) (c_X6_isName l g ad n K H.size F S0 v0 tv0 r42 S41 hz40) (cwV 0 hts gX6_takeMember_X6_isName rfl rfl rfl (by decide +kernel) ⟨Nat.le_of_ble_eq_true rfl, Nat.le_of_ble_eq_true rfl⟩) rfl rfl (Nat.le_of_ble_eq_true rfl) dX6_takeMember_64 ⟨Nat.le_of_ble_eq_true rfl, Nat.le_of_ble_eq_true rfl⟩ (fun H locs hPz40 hW hS => ?_)
        refine W.eq (g2 := F0 m 67 ls [.int r42, .ref (ad v0)]) rfl ?_
        refine lv_if_eq (tgt := 74) hx hb dX6_takeMember_67 (by decide) (fun c44 => ?_) (fun c44 => ?_)
        · replace hf := ifT c44 hf
          refine lv_iconst (v := 1) hx hb dX6_takeMember_74 (by decide) ?_
          exact L75 S41 1 v0 tv0 _ _ _ hf hW hS (lv_sub hl [] rfl)
        · replace hf := ifF c44 hf
          refine lv_iconst (v := 3) hx hb dX6_takeMember_70 (by decide) ?_
          refine lv_goto (tgt := 75) hx hb dX6_takeMember_71 (by decide) ?_
          exact L75 S41 3 v0 tv0 _ _ _ hf hW hS (lv_sub hl [] rfl)
  have L25 : ∀ (S0 : St) (v0 : Nat) (s0 : Int32) (tv0 : v0 < n ∧ K v0 = 5) (H : Heap) (locs : List Loc) (ls : Array Slot), f_X6_takeMember_L25 F S0 v0 s0 = some (r9, S9) → Wb g ad n K S0 (dA ad n s.heap.size) H → va_S (dA ad n s.heap.size) s.heap H locs → lv_has ls 3 [(0, .ref (ad v0))] → W p l e (headSpec wsX6_takeMember { frames := 3, cells := 0, slots := 0, locals := 67 }).room s m (List.toArray [.ref (ad p0)]) below meth c H locs 0 0 (MQ below (QR (some (.int r9)) (QB g ad n K S9 (dA ad n s.heap.size) (True)) (dA ad n s.heap.size)) (List.toArray [.ref (ad p0)]) s 0 0 (dA ad n s.heap.size)) (F0 m 25 ls [.int s0]) := by
    intro S0 v0 s0 tv0 H locs ls hf hW hS hl
    unfold f_X6_takeMember_L25 at hf
    refine lv_istore_n (lv' := [(1, .int s0), (0, .ref (ad v0))]) hx hb dX6_takeMember_25 rfl hl (by decide) rfl (fun ls hl => ?_)
    refine lv_aload_n hx hb dX6_takeMember_26 rfl (lv_at hl 1 rfl) ?_
    replace hf := obE hf
    obtain ⟨z56, hz56, hf⟩ := hf
    obtain ⟨r58, S57⟩ := z56
    replace hf := ltE (ltE hf r58 rfl) S57 rfl
    refine x_callV (As := []) (rest := []) (o := (some (.int r58))) (S1 := S57) hC hl.1 hW hS hGs hA tv0 rfl (show vwCl[5]? = some (RX6, TX6, 10) ∧ ob 5 from ⟨rfl, by decide⟩) (c_X6_isName l g ad n K H.size F S0 v0 tv0 r58 S57 hz56) (cwV 0 hts gX6_takeMember_X6_isName rfl rfl rfl (by decide +kernel) ⟨Nat.le_of_ble_eq_true rfl, Nat.le_of_ble_eq_true rfl⟩) rfl rfl (Nat.le_of_ble_eq_true rfl) dX6_takeMember_27 ⟨Nat.le_of_ble_eq_true rfl, Nat.le_of_ble_eq_true rfl⟩ (fun H locs hPz56 hW hS => ?_)
    refine W.eq (g2 := F0 m 30 ls [.int r58]) rfl ?_
    refine lv_if_eq (tgt := 50) hx hb dX6_takeMember_30 (by decide) (fun c60 => ?_) (fun c60 => ?_)
    · replace hf := ifT c60 hf
      refine lv_iconst (v := -1) hx hb dX6_takeMember_50 (by decide) ?_
      exact L51 S57 v0 s0 ((-1)) tv0 _ _ _ hf hW hS (lv_sub hl [1, 0] rfl)
    · replace hf := ifF c60 hf
      refine lv_aload_n hx hb dX6_takeMember_33 rfl (lv_at hl 1 rfl) ?_
      replace hf := obE hf
      obtain ⟨j61, qj61, hf⟩ := hf
      have tj61 := x_rt hW qj61 6 ⟨by decide, rfl⟩
      refine x_getr 501 (ci := 5) (C := RX6) (T := TX6) (N := 10) 1 hC hinX6 hW tv0 rfl rfl ⟨by decide, by decide, rfl, rfl⟩ rfl w_0 dX6_takeMember_34 qj61 ?_
      replace hf := obE hf
      obtain ⟨j62, qj62, hf⟩ := hf
      have tj62 := x_rt hW qj62 4 ⟨by decide, rfl⟩
      refine x_getrN 609 (ci := 6) (C := RX7) (T := TX7) (N := 16) 9 hC hinX7 hW tj61 rfl rfl ⟨by decide, by decide, rfl, rfl⟩ rfl w_5 dX6_takeMember_37 qj62 ?_
      refine lv_aload_n hx hb dX6_takeMember_40 rfl (lv_at hl 1 rfl) ?_
      refine x_getl 507 (ci := 5) (C := RX6) (T := TX6) (N := 10) 7 hC hinX6 hW tv0 rfl rfl ⟨by decide, by decide, rfl, rfl⟩ rfl w_6 dX6_takeMember_41 ?_
      replace hf := obE hf
      obtain ⟨z63, hz63, hf⟩ := hf
      obtain ⟨r65, S64⟩ := z63
      replace hf := ltE (ltE hf r65 rfl) S64 rfl
      refine x_callV (As := [.long (sl S57 507 v0)]) (rest := []) (o := (some (.int r65))) (S1 := S64) hC hl.1 hW hS hGs hA tj62 rfl (show vwCl[4]? = some (RX5, TX5, 2) ∧ ob 4 from ⟨rfl, by decide⟩) (c_X5_numberOf l g ad n K H.size F S57 j62 (sl S57 507 v0) tj62 r65 S64 hz63) (cwV 1 hts gX6_takeMember_X5_numberOf rfl rfl rfl (by decide +kernel) ⟨Nat.le_of_ble_eq_true rfl, Nat.le_of_ble_eq_true rfl⟩) rfl rfl (Nat.le_of_ble_eq_true rfl) dX6_takeMember_44 ⟨Nat.le_of_ble_eq_true rfl, Nat.le_of_ble_eq_true rfl⟩ (fun H locs hPz63 hW hS => ?_)
      refine W.eq (g2 := F0 m 47 ls [.int r65]) rfl ?_
      refine lv_goto (tgt := 51) hx hb dX6_takeMember_47 (by decide) ?_
      exact L51 S64 v0 s0 r65 tv0 _ _ _ hf hW hS (lv_sub hl [1, 0] rfl)
  unfold f_X6_takeMember at hf
  refine lv_aload_n hx hb dX6_takeMember_0 rfl (lv_at hl 0 rfl) ?_
  replace hf := obE hf
  obtain ⟨z67, hz67, hf⟩ := hf
  obtain ⟨r69, S68⟩ := z67
  replace hf := ltE (ltE hf r69 rfl) S68 rfl
  refine x_callV (As := []) (rest := []) (o := (some (.int r69))) (S1 := S68) hC hl.1 hW hS hGs hA tp0 rfl (show vwCl[5]? = some (RX6, TX6, 10) ∧ ob 5 from ⟨rfl, by decide⟩) (c_X6_isName l g ad n K s.heap.size F S0 p0 tp0 r69 S68 hz67) (cwV 0 hts gX6_takeMember_X6_isName rfl rfl rfl (by decide +kernel) ⟨Nat.le_of_ble_eq_true rfl, Nat.le_of_ble_eq_true rfl⟩) rfl rfl (Nat.le_of_ble_eq_true rfl) dX6_takeMember_1 ⟨Nat.le_of_ble_eq_true rfl, Nat.le_of_ble_eq_true rfl⟩ (fun H locs hPz67 hW hS => ?_)
  refine W.eq (g2 := F0 m 4 ls [.int r69]) rfl ?_
  refine lv_if_eq (tgt := 24) hx hb dX6_takeMember_4 (by decide) (fun c71 => ?_) (fun c71 => ?_)
  · replace hf := ifT c71 hf
    refine lv_iconst (v := -1) hx hb dX6_takeMember_24 (by decide) ?_
    exact L25 S68 p0 ((-1)) tp0 _ _ _ hf hW hS (lv_sub hl [0] rfl)
  · replace hf := ifF c71 hf
    refine lv_aload_n hx hb dX6_takeMember_7 rfl (lv_at hl 0 rfl) ?_
    replace hf := obE hf
    obtain ⟨j72, qj72, hf⟩ := hf
    have tj72 := x_rt hW qj72 6 ⟨by decide, rfl⟩
    refine x_getr 501 (ci := 5) (C := RX6) (T := TX6) (N := 10) 1 hC hinX6 hW tp0 rfl rfl ⟨by decide, by decide, rfl, rfl⟩ rfl w_0 dX6_takeMember_8 qj72 ?_
    replace hf := obE hf
    obtain ⟨j73, qj73, hf⟩ := hf
    have tj73 := x_rt hW qj73 4 ⟨by decide, rfl⟩
    refine x_getrN 606 (ci := 6) (C := RX7) (T := TX7) (N := 16) 6 hC hinX7 hW tj72 rfl rfl ⟨by decide, by decide, rfl, rfl⟩ rfl w_7 dX6_takeMember_11 qj73 ?_
    refine lv_aload_n hx hb dX6_takeMember_14 rfl (lv_at hl 0 rfl) ?_
    refine x_getl 507 (ci := 5) (C := RX6) (T := TX6) (N := 10) 7 hC hinX6 hW tp0 rfl rfl ⟨by decide, by decide, rfl, rfl⟩ rfl w_6 dX6_takeMember_15 ?_
    replace hf := obE hf
    obtain ⟨z74, hz74, hf⟩ := hf
    obtain ⟨r76, S75⟩ := z74
    replace hf := ltE (ltE hf r76 rfl) S75 rfl
    refine x_callV (As := [.long (sl S68 507 p0)]) (rest := []) (o := (some (.int r76))) (S1 := S75) hC hl.1 hW hS hGs hA tj73 rfl (show vwCl[4]? = some (RX5, TX5, 2) ∧ ob 4 from ⟨rfl, by decide⟩) (c_X5_numberOf l g ad n K H.size F S68 j73 (sl S68 507 p0) tj73 r76 S75 hz74) (cwV 1 hts gX6_takeMember_X5_numberOf rfl rfl rfl (by decide +kernel) ⟨Nat.le_of_ble_eq_true rfl, Nat.le_of_ble_eq_true rfl⟩) rfl rfl (Nat.le_of_ble_eq_true rfl) dX6_takeMember_18 ⟨Nat.le_of_ble_eq_true rfl, Nat.le_of_ble_eq_true rfl⟩ (fun H locs hPz74 hW hS => ?_)
    refine W.eq (g2 := F0 m 21 ls [.int r76]) rfl ?_
    refine lv_goto (tgt := 25) hx hb dX6_takeMember_21 (by decide) ?_
    exact L25 S75 p0 r76 tp0 _ _ _ hf hW hS (lv_sub hl [0] rfl)
set_option maxHeartbeats 4000000 in
set_option maxRecDepth 100000 in
theorem c_X7_addGroup (l : Launch) (g : GP) (ad : Nat → Nat) (n : Nat) (K : Nat → Nat) (sz F : Nat) (S0 : St) (p0 : Nat) (p1 : Int64) (p2 : Int32) (tp0 : p0 < n ∧ K p0 = 6) (S9 : St) (hf : f_X7_addGroup F S0 p0 p1 p2 = some S9) : Met l yX7_addGroup wsX7_addGroup { frames := 1, cells := 0, slots := 0, locals := 23 } (va_Pc [.ref (ad p0), .long (p1), .int p2] (PB g ad n K S0 sz)) (QR none (QB g ad n K S9 (dA ad n sz) (True)) (dA ad n sz)) 0 0 (dA ad n sz) := by
  refine Met.ofW (cc := cX7_addGroup) (maxL := 4) (ret := none) (by decide) rfl ?_
  intro p e s m args below meth c s₁ B hml hv
  obtain ⟨rfl, hsz, hW, hK, hGs⟩ := x_start hv
  subst hsz
  have hx := B.exec
  have hb := B.bytes
  have hr := B.returns
  have hts := atoms_spec (ws := wsX7_addGroup) B.pre
  have hown : s.vm.findClass RX7 = some m.cls := findClass_of_methodNamed B.named
  have hlk := B.notSynchronized
  have hC : Cx g p s m _ c cX7_addGroup RX7 wsX7_addGroup 4 := ⟨hx, hb, hml, hown, hts, hK⟩
  have hA : ∀ q : Nat, s.heap.size ≤ q → dA ad n s.heap.size q := fun q h => Or.inr h
  have hS : va_S (dA ad n s.heap.size) s.heap s.heap [] := va_S.rf
  have hl := lv_entry ([.ref (ad p0), .long (p1), .int p2]) (n := 4) (Nat.le_of_ble_eq_true rfl)
  rw [lg_entry_eq]
  generalize (lg_sl ([.ref (ad p0), .long (p1), .int p2]) ++ List.replicate (4 - (lg_sl ([.ref (ad p0), .long (p1), .int p2])).length) Slot.unset).toArray = ls at hl ⊢
  have hl : lv_has ls 4 [(0, .ref (ad p0)), (1, .long (p1)), (3, .int p2)] := hl
  have hinX7 : ∀ w ∈ wsX70, w ∈ wsX7_addGroup := by decide +kernel
  have w_0 := hts (.fieldLink RX7 46 "MailSpool$Rules" "groupMembers" "[I") (by decide +kernel)
  have w_1 := hts (.fieldLink RX7 43 "MailSpool$Rules" "groups" "LMailSpool$Names;") (by decide +kernel)
  have w_2 := va_Nw.use (A := (List.toArray [.ref (ad p0), .long (p1), .int p2])) rfl (hGs.1 (.methodLinkNest RX7 69 yX10_put "MailSpool") (by decide +kernel))
  have w_3 := hts (.initialized RX10) (by decide +kernel)
  have w_4 := hts (.static yX10_put) (by decide +kernel)
  have hGE := hGs.2.2.2.1
  have hGM := hGs.2.2.2.2
  unfold f_X7_addGroup at hf
  refine lv_aload_n hx hb dX7_addGroup_0 rfl (lv_at hl 0 rfl) ?_
  replace hf := obE hf
  obtain ⟨j1, qj1, hf⟩ := hf
  have tj1 := x_rt hW qj1 12 ⟨by decide, rfl⟩
  refine x_getr 610 (ci := 6) (C := RX7) (T := TX7) (N := 16) 10 hC hinX7 hW tp0 rfl rfl ⟨by decide, by decide, rfl, rfl⟩ rfl w_0 dX7_addGroup_1 qj1 ?_
  refine lv_aload_n hx hb dX7_addGroup_4 rfl (lv_at hl 0 rfl) ?_
  replace hf := obE hf
  obtain ⟨j2, qj2, hf⟩ := hf
  have tj2 := x_rt hW qj2 4 ⟨by decide, rfl⟩
  refine x_getr 609 (ci := 6) (C := RX7) (T := TX7) (N := 16) 9 hC hinX7 hW tp0 rfl rfl ⟨by decide, by decide, rfl, rfl⟩ rfl w_1 dX7_addGroup_5 qj2 ?_
  refine lv_lload_n hx hb dX7_addGroup_8 rfl (lv_at hl 1 rfl) ?_
  replace hf := obE hf
  obtain ⟨z3, hz3, hf⟩ := hf
  obtain ⟨r5, S4⟩ := z3
  replace hf := ltE (ltE hf r5 rfl) S4 rfl
  refine x_callV (As := [.long (p1)]) (rest := [.ref (ad j1)]) (o := (some (.int r5))) (S1 := S4) hC hl.1 hW hS hGs hA tj2 rfl (show vwCl[4]? = some (RX5, TX5, 2) ∧ ob 4 from ⟨rfl, by decide⟩) (c_X5_add l g ad n K s.heap.size F S0 j2 p1 tj2 r5 S4 hz3) (cwV 1 hts gX7_addGroup_X5_add rfl rfl rfl (by decide +kernel) ⟨Nat.le_of_ble_eq_true rfl, Nat.le_of_ble_eq_true rfl⟩) rfl rfl (Nat.le_of_ble_eq_true rfl) dX7_addGroup_9 ⟨Nat.le_of_ble_eq_true rfl, Nat.le_of_ble_eq_true rfl⟩ (fun H locs hPz3 hW hS => ?_)
  refine W.eq (g2 := F0 m 12 ls [.int r5, .ref (ad j1)]) rfl ?_
  refine lv_iload_n hx hb dX7_addGroup_12 rfl (lv_at hl 2 rfl) ?_
  replace hf := obE hf
  obtain ⟨S8, hz7, hf⟩ := hf
  refine x_callSN (As := [.ref (ad j1), .int r5, .int p2]) (rest := []) (o := none) (S1 := S8) hC hl.1 hW hS hGs hA (c_X10_put l g ad n K H.size F S4 j1 r5 p2 tj1 S8 hz7) ⟨va_cnB 3 hts gX7_addGroup_X10_put_n69 rfl rfl rfl (va_Nw.of rfl w_2) w_3 (by decide +kernel) ⟨Nat.le_of_ble_eq_true rfl, Nat.le_of_ble_eq_true rfl⟩, w_4, trivial⟩ rfl rfl (Nat.le_of_ble_eq_true rfl) dX7_addGroup_13 ⟨Nat.le_of_ble_eq_true rfl, Nat.le_of_ble_eq_true rfl⟩ (fun H locs hPz7 hW hS => ?_)
  refine W.eq (g2 := F0 m 16 ls []) rfl ?_
  have e1 := Option.some.inj hf
  subst e1
  exact W.vret hx hb hr (fun t ht hWm => ⟨⟨rfl, by unfold QB; rw [ht]; exact ⟨hW, trivial⟩⟩, hS.F ht⟩) hS.2.2 dX7_addGroup_16 hlk
set_option maxHeartbeats 4000000 in
set_option maxRecDepth 100000 in
theorem c_X6_groupStatement (l : Launch) (g : GP) (ad : Nat → Nat) (n : Nat) (K : Nat → Nat) (sz F : Nat) (S0 : St) (p0 : Nat) (tp0 : p0 < n ∧ K p0 = 5) (r9 : Int32) (S9 : St) (hf : f_X6_groupStatement F S0 p0 = some (r9, S9)) : Met l yX6_groupStatement wsX6_groupStatement { frames := 4, cells := 0, slots := 0, locals := 91 } (va_Pc [.ref (ad p0)] (PB g ad n K S0 sz)) (QR (some (.int r9)) (QB g ad n K S9 (dA ad n sz) (True)) (dA ad n sz)) 0 0 (dA ad n sz) := by
  refine Met.ofW (cc := cX6_groupStatement) (maxL := 6) (ret := (some .boolean)) (by decide) rfl ?_
  intro p e s m args below meth c s₁ B hml hv
  obtain ⟨rfl, hsz, hW, hK, hGs⟩ := x_start hv
  subst hsz
  have hx := B.exec
  have hb := B.bytes
  have hr := B.returns
  have hts := atoms_spec (ws := wsX6_groupStatement) B.pre
  have hown : s.vm.findClass RX6 = some m.cls := findClass_of_methodNamed B.named
  have hlk := B.notSynchronized
  have hC : Cx g p s m _ c cX6_groupStatement RX6 wsX6_groupStatement 6 := ⟨hx, hb, hml, hown, hts, hK⟩
  have hA : ∀ q : Nat, s.heap.size ≤ q → dA ad n s.heap.size q := fun q h => Or.inr h
  have hS : va_S (dA ad n s.heap.size) s.heap s.heap [] := va_S.rf
  have hl := lv_entry ([.ref (ad p0)]) (n := 6) (Nat.le_of_ble_eq_true rfl)
  rw [lg_entry_eq]
  generalize (lg_sl ([.ref (ad p0)]) ++ List.replicate (6 - (lg_sl ([.ref (ad p0)])).length) Slot.unset).toArray = ls at hl ⊢
  have hl : lv_has ls 6 [(0, .ref (ad p0))] := hl
  have hinX0 : ∀ w ∈ wsX00, w ∈ wsX6_groupStatement := by decide +kernel
  have hinX5 : ∀ w ∈ wsX50, w ∈ wsX6_groupStatement := by decide +kernel
  have hinX6 : ∀ w ∈ wsX60, w ∈ wsX6_groupStatement := by decide +kernel
  have hinX7 : ∀ w ∈ wsX70, w ∈ wsX6_groupStatement := by decide +kernel
  have w_0 := hts (.fieldLink RX6 18 "MailSpool$Parser" "rules" "LMailSpool$Rules;") (by decide +kernel)
  have w_1 := hts (.fieldLink RX6 9 "MailSpool$Parser" "text" "LMailSpool$Bytes;") (by decide +kernel)
  have w_2 := va_Nw.use (A := (List.toArray [.ref (ad p0)])) rfl (hGs.1 (.fieldLinkNest RX6 33 "MailSpool$Bytes" "size" "I" "MailSpool") (by decide +kernel))
  have w_3 := va_Nw.use (A := (List.toArray [.ref (ad p0)])) rfl (hGs.1 (.fieldLinkNest RX6 138 "MailSpool$Rules" "groups" "LMailSpool$Names;" "MailSpool") (by decide +kernel))
  have w_4 := va_Nw.use (A := (List.toArray [.ref (ad p0)])) rfl (hGs.1 (.fieldLinkNest RX6 134 "MailSpool$Rules" "users" "LMailSpool$Names;" "MailSpool") (by decide +kernel))
  have w_5 := va_Nw.use (A := (List.toArray [.ref (ad p0)])) rfl (hGs.1 (.fieldLinkNest RX6 137 "MailSpool$Names" "size" "I" "MailSpool") (by decide +kernel))
  have hGE := hGs.2.2.2.1
  have hGM := hGs.2.2.2.2
  have L126 : ∀ (S0 : St) (v0 : Nat) (v1 : Int64) (v3 : Int32) (tv0 : v0 < n ∧ K v0 = 5) (H : Heap) (locs : List Loc) (ls : Array Slot), f_X6_groupStatement_L126 F S0 v0 v1 v3 = some (r9, S9) → Wb g ad n K S0 (dA ad n s.heap.size) H → va_S (dA ad n s.heap.size) s.heap H locs → lv_has ls 6 [(0, .ref (ad v0)), (1, .long (v1)), (3, .int v3)] → W p l e (headSpec wsX6_groupStatement { frames := 4, cells := 0, slots := 0, locals := 91 }).room s m (List.toArray [.ref (ad p0)]) below meth c H locs 0 0 (MQ below (QR (some (.int r9)) (QB g ad n K S9 (dA ad n s.heap.size) (True)) (dA ad n s.heap.size)) (List.toArray [.ref (ad p0)]) s 0 0 (dA ad n s.heap.size)) (F0 m 126 ls []) := by
    intro S0 v0 v1 v3 tv0 H locs ls hf hW hS hl
    unfold f_X6_groupStatement_L126 at hf
    refine lv_aload_n hx hb dX6_groupStatement_126 rfl (lv_at hl 0 rfl) ?_
    refine lv_bipush (v := 59) hx hb dX6_groupStatement_127 (by decide) ?_
    replace hf := obE hf
    obtain ⟨z11, hz11, hf⟩ := hf
    obtain ⟨r13, S12⟩ := z11
    replace hf := ltE (ltE hf r13 rfl) S12 rfl
    refine x_callV (As := [.int 59]) (rest := []) (o := (some (.int r13))) (S1 := S12) hC hl.1 hW hS hGs hA tv0 rfl (show vwCl[5]? = some (RX6, TX6, 10) ∧ ob 5 from ⟨rfl, by decide⟩) (c_X6_takeSymbol l g ad n K H.size F S0 v0 ((59 : Int32)) tv0 r13 S12 hz11) (cwV 1 hts gX6_groupStatement_X6_takeSymbol rfl rfl rfl (by decide +kernel) ⟨Nat.le_of_ble_eq_true rfl, Nat.le_of_ble_eq_true rfl⟩) rfl rfl (Nat.le_of_ble_eq_true rfl) dX6_groupStatement_129 ⟨Nat.le_of_ble_eq_true rfl, Nat.le_of_ble_eq_true rfl⟩ (fun H locs hPz11 hW hS => ?_)
    refine W.eq (g2 := F0 m 132 ls [.int r13]) rfl ?_
    refine lv_if_ne (tgt := 137) hx hb dX6_groupStatement_132 (by decide) (fun c15 => ?_) (fun c15 => ?_)
    · replace hf := ifT c15 hf
      refine lv_aload_n hx hb dX6_groupStatement_137 rfl (lv_at hl 0 rfl) ?_
      replace hf := obE hf
      obtain ⟨j16, qj16, hf⟩ := hf
      have tj16 := x_rt hW qj16 6 ⟨by decide, rfl⟩
      refine x_getr 501 (ci := 5) (C := RX6) (T := TX6) (N := 10) 1 hC hinX6 hW tv0 rfl rfl ⟨by decide, by decide, rfl, rfl⟩ rfl w_0 dX6_groupStatement_138 qj16 ?_
      refine lv_lload_n hx hb dX6_groupStatement_141 rfl (lv_at hl 1 rfl) ?_
      refine lv_iload_n hx hb dX6_groupStatement_142 rfl (lv_at hl 2 rfl) ?_
      replace hf := obE hf
      obtain ⟨S18, hz17, hf⟩ := hf
      refine x_callV (As := [.long (v1), .int v3]) (rest := []) (o := none) (S1 := S18) hC hl.1 hW hS hGs hA tj16 rfl (show vwCl[6]? = some (RX7, TX7, 16) ∧ ob 6 from ⟨rfl, by decide⟩) (c_X7_addGroup l g ad n K H.size F S12 j16 v1 v3 tj16 S18 hz17) (cwV 2 hts gX6_groupStatement_X7_addGroup rfl rfl rfl (by decide +kernel) ⟨Nat.le_of_ble_eq_true rfl, Nat.le_of_ble_eq_true rfl⟩) rfl rfl (Nat.le_of_ble_eq_true rfl) dX6_groupStatement_143 ⟨Nat.le_of_ble_eq_true rfl, Nat.le_of_ble_eq_true rfl⟩ (fun H locs hPz17 hW hS => ?_)
      refine W.eq (g2 := F0 m 146 ls []) rfl ?_
      refine lv_iconst (v := 1) hx hb dX6_groupStatement_146 (by decide) ?_
      obtain ⟨e1, e2⟩ := so2 hf
      subst e1
      subst e2
      exact W.zret (v := 1) hx hb hr rfl (fun t ht hWm => ⟨⟨rfl, by unfold QB; rw [ht]; exact ⟨hW, trivial⟩⟩, hS.F ht⟩) hS.2.2 dX6_groupStatement_147 hlk
    · replace hf := ifF (fun q => q c15) hf
      refine lv_iconst (v := 0) hx hb dX6_groupStatement_135 (by decide) ?_
      obtain ⟨e1, e2⟩ := so2 hf
      subst e1
      subst e2
      exact W.zret (v := 0) hx hb hr rfl (fun t ht hWm => ⟨⟨rfl, by unfold QB; rw [ht]; exact ⟨hW, trivial⟩⟩, hS.F ht⟩) hS.2.2 dX6_groupStatement_136 hlk
  have L77 : ∀ (fu77 : Nat) (S0 : St) (v0 : Nat) (v1 : Int64) (v3 : Int32) (v4 : Int32) (tv0 : v0 < n ∧ K v0 = 5) (H : Heap) (locs : List Loc) (ls : Array Slot), f_X6_groupStatement_L77 F fu77 S0 v0 v1 v3 v4 = some (r9, S9) → Wb g ad n K S0 (dA ad n s.heap.size) H → va_S (dA ad n s.heap.size) s.heap H locs → lv_has ls 6 [(0, .ref (ad v0)), (1, .long (v1)), (3, .int v3), (4, .int v4)] → W p l e (headSpec wsX6_groupStatement { frames := 4, cells := 0, slots := 0, locals := 91 }).room s m (List.toArray [.ref (ad p0)]) below meth c H locs 0 0 (MQ below (QR (some (.int r9)) (QB g ad n K S9 (dA ad n s.heap.size) (True)) (dA ad n s.heap.size)) (List.toArray [.ref (ad p0)]) s 0 0 (dA ad n s.heap.size)) (F0 m 77 ls []) := by
    intro fu77
    induction fu77 with
    | zero =>
      intro S0 v0 v1 v3 v4 tv0 H locs ls hf
      cases hf
    | succ fu77 ih77 =>
      intro S0 v0 v1 v3 v4 tv0 H locs ls hf hW hS hl
      unfold f_X6_groupStatement_L77 at hf
      refine lv_iload hx hb dX6_groupStatement_77 (lv_at hl 3 rfl) ?_
      refine lv_aload_n hx hb dX6_groupStatement_79 rfl (lv_at hl 0 rfl) ?_
      replace hf := obE hf
      obtain ⟨j39, qj39, hf⟩ := hf
      have tj39 := x_rt hW qj39 0 ⟨by decide, rfl⟩
      refine x_getr 500 (ci := 5) (C := RX6) (T := TX6) (N := 10) 0 hC hinX6 hW tv0 rfl rfl ⟨by decide, by decide, rfl, rfl⟩ rfl w_1 dX6_groupStatement_80 qj39 ?_
      refine x_getiN 1 (ci := 0) (C := RX0) (T := TX0) (N := 2) 1 hC hinX0 hW tj39 rfl rfl ⟨by decide, by decide, rfl, rfl⟩ rfl w_2 dX6_groupStatement_83 ?_
      refine lv_icmp_ge (tgt := 126) hx hb dX6_groupStatement_86 (by decide) (fun c40 => ?_) (fun c40 => ?_)
      · replace hf := ifT c40 hf
        exact L126 S0 v0 v1 v3 tv0 _ _ _ hf hW hS (lv_sub hl [0, 1, 2] rfl)
      · replace hf := ifF c40 hf
        refine lv_aload_n hx hb dX6_groupStatement_89 rfl (lv_at hl 0 rfl) ?_
        refine lv_bipush (v := 44) hx hb dX6_groupStatement_90 (by decide) ?_
        replace hf := obE hf
        obtain ⟨z41, hz41, hf⟩ := hf
        obtain ⟨r43, S42⟩ := z41
        replace hf := ltE (ltE hf r43 rfl) S42 rfl
        refine x_callV (As := [.int 44]) (rest := []) (o := (some (.int r43))) (S1 := S42) hC hl.1 hW hS hGs hA tv0 rfl (show vwCl[5]? = some (RX6, TX6, 10) ∧ ob 5 from ⟨rfl, by decide⟩) (c_X6_isSymbol l g ad n K H.size F S0 v0 ((44 : Int32)) tv0 r43 S42 hz41) (cwV 1 hts gX6_groupStatement_X6_isSymbol rfl rfl rfl (by decide +kernel) ⟨Nat.le_of_ble_eq_true rfl, Nat.le_of_ble_eq_true rfl⟩) rfl rfl (Nat.le_of_ble_eq_true rfl) dX6_groupStatement_92 ⟨Nat.le_of_ble_eq_true rfl, Nat.le_of_ble_eq_true rfl⟩ (fun H locs hPz41 hW hS => ?_)
        refine W.eq (g2 := F0 m 95 ls [.int r43]) rfl ?_
        refine lv_if_eq (tgt := 126) hx hb dX6_groupStatement_95 (by decide) (fun c45 => ?_) (fun c45 => ?_)
        · replace hf := ifT c45 hf
          exact L126 S42 v0 v1 v3 tv0 _ _ _ hf hW hS (lv_sub hl [0, 1, 2] rfl)
        · replace hf := ifF c45 hf
          refine lv_aload_n hx hb dX6_groupStatement_98 rfl (lv_at hl 0 rfl) ?_
          replace hf := obE hf
          obtain ⟨S47, hz46, hf⟩ := hf
          refine x_callV (As := []) (rest := []) (o := none) (S1 := S47) hC hl.1 hW hS hGs hA tv0 rfl (show vwCl[5]? = some (RX6, TX6, 10) ∧ ob 5 from ⟨rfl, by decide⟩) (c_X6_nextToken l g ad n K H.size F S42 v0 tv0 S47 hz46) (cwV 0 hts gX6_groupStatement_X6_nextToken rfl rfl rfl (by decide +kernel) ⟨Nat.le_of_ble_eq_true rfl, Nat.le_of_ble_eq_true rfl⟩) rfl rfl (Nat.le_of_ble_eq_true rfl) dX6_groupStatement_99 ⟨Nat.le_of_ble_eq_true rfl, Nat.le_of_ble_eq_true rfl⟩ (fun H locs hPz46 hW hS => ?_)
          refine W.eq (g2 := F0 m 102 ls []) rfl ?_
          refine lv_aload_n hx hb dX6_groupStatement_102 rfl (lv_at hl 0 rfl) ?_
          replace hf := obE hf
          obtain ⟨z50, hz50, hf⟩ := hf
          obtain ⟨r52, S51⟩ := z50
          replace hf := ltE (ltE hf r52 rfl) S51 rfl
          refine x_callV (As := []) (rest := []) (o := (some (.int r52))) (S1 := S51) hC hl.1 hW hS hGs hA tv0 rfl (show vwCl[5]? = some (RX6, TX6, 10) ∧ ob 5 from ⟨rfl, by decide⟩) (c_X6_takeMember l g ad n K H.size F S47 v0 tv0 r52 S51 hz50) (cwV 0 hts gX6_groupStatement_X6_takeMember rfl rfl rfl (by decide +kernel) ⟨Nat.le_of_ble_eq_true rfl, Nat.le_of_ble_eq_true rfl⟩) rfl rfl (Nat.le_of_ble_eq_true rfl) dX6_groupStatement_103 ⟨Nat.le_of_ble_eq_true rfl, Nat.le_of_ble_eq_true rfl⟩ (fun H locs hPz50 hW hS => ?_)
          refine W.eq (g2 := F0 m 106 ls [.int r52]) rfl ?_
          refine lv_istore (lv' := [(5, .int r52), (0, .ref (ad v0)), (1, .long (v1)), (3, .int v3), (4, .int v4)]) hx hb dX6_groupStatement_106 hl (by decide) rfl (fun ls hl => ?_)
          refine lv_iload hx hb dX6_groupStatement_108 (lv_at hl 0 rfl) ?_
          refine lv_if_ne (tgt := 115) hx hb dX6_groupStatement_110 (by decide) (fun c54 => ?_) (fun c54 => ?_)
          · replace hf := ifT c54 hf
            refine lv_iload_n hx hb dX6_groupStatement_115 rfl (lv_at hl 3 rfl) ?_
            refine lv_iload hx hb dX6_groupStatement_116 (lv_at hl 0 rfl) ?_
            refine lv_ior hx hb dX6_groupStatement_118 ?_
            refine lv_topi (fun x55 ex55 => ?_)
            replace hf := ltE hf x55 ex55
            refine lv_istore_n (lv' := [(3, .int x55), (5, .int r52), (0, .ref (ad v0)), (1, .long (v1)), (4, .int v4)]) hx hb dX6_groupStatement_119 rfl hl (by decide) rfl (fun ls hl => ?_)
            obtain ⟨x56, ex56⟩ : ∃ z : Int32, z = v4 + 1 := ⟨_, rfl⟩
            replace hf := ltE hf x56 ex56
            refine lv_iinc (v := x56) (lv' := [(4, .int x56), (3, .int x55), (5, .int r52), (0, .ref (ad v0)), (1, .long (v1))]) hx hb dX6_groupStatement_120 hl (k := 4) rfl (by rw [ex56]; rfl) (by decide) rfl (fun ls hl => ?_)
            refine lv_goto (tgt := 77) hx hb dX6_groupStatement_123 (by decide) ?_
            exact ih77 S51 v0 v1 x55 x56 tv0 _ _ _ hf hW hS (lv_sub hl [3, 4, 1, 0] rfl)
          · replace hf := ifF (fun q => q c54) hf
            refine lv_iconst (v := 0) hx hb dX6_groupStatement_113 (by decide) ?_
            obtain ⟨e1, e2⟩ := so2 hf
            subst e1
            subst e2
            exact W.zret (v := 0) hx hb hr rfl (fun t ht hWm => ⟨⟨rfl, by unfold QB; rw [ht]; exact ⟨hW, trivial⟩⟩, hS.F ht⟩) hS.2.2 dX6_groupStatement_114 hlk
  have L26 : ∀ (S0 : St) (v0 : Nat) (tv0 : v0 < n ∧ K v0 = 5) (H : Heap) (locs : List Loc) (ls : Array Slot), f_X6_groupStatement_L26 F S0 v0 = some (r9, S9) → Wb g ad n K S0 (dA ad n s.heap.size) H → va_S (dA ad n s.heap.size) s.heap H locs → lv_has ls 6 [(0, .ref (ad v0))] → W p l e (headSpec wsX6_groupStatement { frames := 4, cells := 0, slots := 0, locals := 91 }).room s m (List.toArray [.ref (ad p0)]) below meth c H locs 0 0 (MQ below (QR (some (.int r9)) (QB g ad n K S9 (dA ad n s.heap.size) (True)) (dA ad n s.heap.size)) (List.toArray [.ref (ad p0)]) s 0 0 (dA ad n s.heap.size)) (F0 m 26 ls []) := by
    intro S0 v0 tv0 H locs ls hf hW hS hl
    unfold f_X6_groupStatement_L26 at hf
    refine lv_aload_n hx hb dX6_groupStatement_26 rfl (lv_at hl 0 rfl) ?_
    refine lv_iconst (v := 4) hx hb dX6_groupStatement_27 (by decide) ?_
    replace hf := obE hf
    obtain ⟨z62, hz62, hf⟩ := hf
    obtain ⟨r64, S63⟩ := z62
    replace hf := ltE (ltE hf r64 rfl) S63 rfl
    refine x_callV (As := [.int 4]) (rest := []) (o := (some (.int r64))) (S1 := S63) hC hl.1 hW hS hGs hA tv0 rfl (show vwCl[5]? = some (RX6, TX6, 10) ∧ ob 5 from ⟨rfl, by decide⟩) (c_X6_fail l g ad n K H.size F S0 v0 ((4 : Int32)) tv0 r64 S63 hz62) (cwV 1 hts gX6_groupStatement_X6_fail rfl rfl rfl (by decide +kernel) ⟨Nat.le_of_ble_eq_true rfl, Nat.le_of_ble_eq_true rfl⟩) rfl rfl (Nat.le_of_ble_eq_true rfl) dX6_groupStatement_28 ⟨Nat.le_of_ble_eq_true rfl, Nat.le_of_ble_eq_true rfl⟩ (fun H locs hPz62 hW hS => ?_)
    refine W.eq (g2 := F0 m 31 ls [.int r64]) rfl ?_
    replace hf := ckE hf
    obtain ⟨h66, hf⟩ := hf
    obtain ⟨e1, e2⟩ := so2 hf
    subst e1
    subst e2
    exact W.zret (v := r64) hx hb hr (zn h66) (fun t ht hWm => ⟨⟨rfl, by unfold QB; rw [ht]; exact ⟨hW, trivial⟩⟩, hS.F ht⟩) hS.2.2 dX6_groupStatement_31 hlk
  unfold f_X6_groupStatement at hf
  refine lv_aload_n hx hb dX6_groupStatement_0 rfl (lv_at hl 0 rfl) ?_
  replace hf := obE hf
  obtain ⟨j67, qj67, hf⟩ := hf
  have tj67 := x_rt hW qj67 6 ⟨by decide, rfl⟩
  refine x_getr 501 (ci := 5) (C := RX6) (T := TX6) (N := 10) 1 hC hinX6 hW tp0 rfl rfl ⟨by decide, by decide, rfl, rfl⟩ rfl w_0 dX6_groupStatement_1 qj67 ?_
  replace hf := obE hf
  obtain ⟨j68, qj68, hf⟩ := hf
  have tj68 := x_rt hW qj68 4 ⟨by decide, rfl⟩
  refine x_getrN 609 (ci := 6) (C := RX7) (T := TX7) (N := 16) 9 hC hinX7 hW tj67 rfl rfl ⟨by decide, by decide, rfl, rfl⟩ rfl w_3 dX6_groupStatement_4 qj68 ?_
  replace hf := obE hf
  obtain ⟨z69, hz69, hf⟩ := hf
  obtain ⟨r71, S70⟩ := z69
  replace hf := ltE (ltE hf r71 rfl) S70 rfl
  refine x_callV (As := []) (rest := []) (o := (some (.int r71))) (S1 := S70) hC hl.1 hW hS hGs hA tj68 rfl (show vwCl[4]? = some (RX5, TX5, 2) ∧ ob 4 from ⟨rfl, by decide⟩) (c_X5_isFull l g ad n K s.heap.size F S0 j68 tj68 r71 S70 hz69) (cwV 0 hts gX6_groupStatement_X5_isFull rfl rfl rfl (by decide +kernel) ⟨Nat.le_of_ble_eq_true rfl, Nat.le_of_ble_eq_true rfl⟩) rfl rfl (Nat.le_of_ble_eq_true rfl) dX6_groupStatement_7 ⟨Nat.le_of_ble_eq_true rfl, Nat.le_of_ble_eq_true rfl⟩ (fun H locs hPz69 hW hS => ?_)
  refine W.eq (g2 := F0 m 10 ls [.int r71]) rfl ?_
  refine lv_if_ne (tgt := 26) hx hb dX6_groupStatement_10 (by decide) (fun c73 => ?_) (fun c73 => ?_)
  · replace hf := ifT c73 hf
    exact L26 S70 p0 tp0 _ _ _ hf hW hS (lv_sub hl [0] rfl)
  · replace hf := ifF (fun q => q c73) hf
    refine lv_aload_n hx hb dX6_groupStatement_13 rfl (lv_at hl 0 rfl) ?_
    replace hf := obE hf
    obtain ⟨j74, qj74, hf⟩ := hf
    have tj74 := x_rt hW qj74 6 ⟨by decide, rfl⟩
    refine x_getr 501 (ci := 5) (C := RX6) (T := TX6) (N := 10) 1 hC hinX6 hW tp0 rfl rfl ⟨by decide, by decide, rfl, rfl⟩ rfl w_0 dX6_groupStatement_14 qj74 ?_
    replace hf := obE hf
    obtain ⟨j75, qj75, hf⟩ := hf
    have tj75 := x_rt hW qj75 4 ⟨by decide, rfl⟩
    refine x_getrN 606 (ci := 6) (C := RX7) (T := TX7) (N := 16) 6 hC hinX7 hW tj74 rfl rfl ⟨by decide, by decide, rfl, rfl⟩ rfl w_4 dX6_groupStatement_17 qj75 ?_
    refine x_getiN 401 (ci := 4) (C := RX5) (T := TX5) (N := 2) 1 hC hinX5 hW tj75 rfl rfl ⟨by decide, by decide, rfl, rfl⟩ rfl w_5 dX6_groupStatement_20 ?_
    refine lv_if_ne (tgt := 32) hx hb dX6_groupStatement_23 (by decide) (fun c76 => ?_) (fun c76 => ?_)
    · replace hf := ifT c76 hf
      refine lv_aload_n hx hb dX6_groupStatement_32 rfl (lv_at hl 0 rfl) ?_
      replace hf := obE hf
      obtain ⟨S78, hz77, hf⟩ := hf
      refine x_callV (As := []) (rest := []) (o := none) (S1 := S78) hC hl.1 hW hS hGs hA tp0 rfl (show vwCl[5]? = some (RX6, TX6, 10) ∧ ob 5 from ⟨rfl, by decide⟩) (c_X6_nextToken l g ad n K H.size F S70 p0 tp0 S78 hz77) (cwV 0 hts gX6_groupStatement_X6_nextToken rfl rfl rfl (by decide +kernel) ⟨Nat.le_of_ble_eq_true rfl, Nat.le_of_ble_eq_true rfl⟩) rfl rfl (Nat.le_of_ble_eq_true rfl) dX6_groupStatement_33 ⟨Nat.le_of_ble_eq_true rfl, Nat.le_of_ble_eq_true rfl⟩ (fun H locs hPz77 hW hS => ?_)
      refine W.eq (g2 := F0 m 36 ls []) rfl ?_
      refine lv_aload_n hx hb dX6_groupStatement_36 rfl (lv_at hl 0 rfl) ?_
      refine lv_aload_n hx hb dX6_groupStatement_37 rfl (lv_at hl 0 rfl) ?_
      replace hf := obE hf
      obtain ⟨j81, qj81, hf⟩ := hf
      have tj81 := x_rt hW qj81 6 ⟨by decide, rfl⟩
      refine x_getr 501 (ci := 5) (C := RX6) (T := TX6) (N := 10) 1 hC hinX6 hW tp0 rfl rfl ⟨by decide, by decide, rfl, rfl⟩ rfl w_0 dX6_groupStatement_38 qj81 ?_
      replace hf := obE hf
      obtain ⟨j82, qj82, hf⟩ := hf
      have tj82 := x_rt hW qj82 4 ⟨by decide, rfl⟩
      refine x_getrN 606 (ci := 6) (C := RX7) (T := TX7) (N := 16) 6 hC hinX7 hW tj81 rfl rfl ⟨by decide, by decide, rfl, rfl⟩ rfl w_4 dX6_groupStatement_41 qj82 ?_
      refine lv_aload_n hx hb dX6_groupStatement_44 rfl (lv_at hl 0 rfl) ?_
      replace hf := obE hf
      obtain ⟨j83, qj83, hf⟩ := hf
      have tj83 := x_rt hW qj83 6 ⟨by decide, rfl⟩
      refine x_getr 501 (ci := 5) (C := RX6) (T := TX6) (N := 10) 1 hC hinX6 hW tp0 rfl rfl ⟨by decide, by decide, rfl, rfl⟩ rfl w_0 dX6_groupStatement_45 qj83 ?_
      replace hf := obE hf
      obtain ⟨j84, qj84, hf⟩ := hf
      have tj84 := x_rt hW qj84 4 ⟨by decide, rfl⟩
      refine x_getrN 609 (ci := 6) (C := RX7) (T := TX7) (N := 16) 9 hC hinX7 hW tj83 rfl rfl ⟨by decide, by decide, rfl, rfl⟩ rfl w_3 dX6_groupStatement_48 qj84 ?_
      replace hf := obE hf
      obtain ⟨z85, hz85, hf⟩ := hf
      obtain ⟨r87, S86⟩ := z85
      replace hf := ltE (ltE hf r87 rfl) S86 rfl
      refine x_callV (As := [.ref (ad j82), .ref (ad j84)]) (rest := []) (o := (some (.long (r87)))) (S1 := S86) hC hl.1 hW hS hGs hA tp0 rfl (show vwCl[5]? = some (RX6, TX6, 10) ∧ ob 5 from ⟨rfl, by decide⟩) (c_X6_takeNewName l g ad n K H.size F S78 p0 j82 j84 tp0 tj82 tj84 r87 S86 hz85) (cwV 2 hts gX6_groupStatement_X6_takeNewName rfl rfl rfl (by decide +kernel) ⟨Nat.le_of_ble_eq_true rfl, Nat.le_of_ble_eq_true rfl⟩) rfl rfl (Nat.le_of_ble_eq_true rfl) dX6_groupStatement_51 ⟨Nat.le_of_ble_eq_true rfl, Nat.le_of_ble_eq_true rfl⟩ (fun H locs hPz85 hW hS => ?_)
      refine W.eq (g2 := F0 m 54 ls [.long (r87)]) rfl ?_
      refine lv_lstore_n (lv' := [(1, .long (r87)), (0, .ref (ad p0))]) hx hb dX6_groupStatement_54 rfl hl (by decide) rfl (fun ls hl => ?_)
      refine lv_lload_n hx hb dX6_groupStatement_55 rfl (lv_at hl 0 rfl) ?_
      refine lv_lconst (v := 0) hx hb dX6_groupStatement_56 (by decide) ?_
      refine W.lcmp hx hb dX6_groupStatement_57 ?_
      refine lv_if_ne (tgt := 63) hx hb dX6_groupStatement_58 (by decide) (fun c89 => ?_) (fun c89 => ?_)
      · replace hf := ifT c89 hf
        refine lv_aload_n hx hb dX6_groupStatement_63 rfl (lv_at hl 1 rfl) ?_
        replace hf := obE hf
        obtain ⟨z90, hz90, hf⟩ := hf
        obtain ⟨r92, S91⟩ := z90
        replace hf := ltE (ltE hf r92 rfl) S91 rfl
        refine x_callV (As := []) (rest := []) (o := (some (.int r92))) (S1 := S91) hC hl.1 hW hS hGs hA tp0 rfl (show vwCl[5]? = some (RX6, TX6, 10) ∧ ob 5 from ⟨rfl, by decide⟩) (c_X6_takeMember l g ad n K H.size F S86 p0 tp0 r92 S91 hz90) (cwV 0 hts gX6_groupStatement_X6_takeMember rfl rfl rfl (by decide +kernel) ⟨Nat.le_of_ble_eq_true rfl, Nat.le_of_ble_eq_true rfl⟩) rfl rfl (Nat.le_of_ble_eq_true rfl) dX6_groupStatement_64 ⟨Nat.le_of_ble_eq_true rfl, Nat.le_of_ble_eq_true rfl⟩ (fun H locs hPz90 hW hS => ?_)
        refine W.eq (g2 := F0 m 67 ls [.int r92]) rfl ?_
        refine lv_istore_n (lv' := [(3, .int r92), (1, .long (r87)), (0, .ref (ad p0))]) hx hb dX6_groupStatement_67 rfl hl (by decide) rfl (fun ls hl => ?_)
        refine lv_iload_n hx hb dX6_groupStatement_68 rfl (lv_at hl 0 rfl) ?_
        refine lv_if_ne (tgt := 74) hx hb dX6_groupStatement_69 (by decide) (fun c94 => ?_) (fun c94 => ?_)
        · replace hf := ifT c94 hf
          refine lv_iconst (v := 0) hx hb dX6_groupStatement_74 (by decide) ?_
          refine lv_istore (lv' := [(4, .int 0), (3, .int r92), (1, .long (r87)), (0, .ref (ad p0))]) hx hb dX6_groupStatement_75 hl (by decide) rfl (fun ls hl => ?_)
          exact L77 F S91 p0 r87 r92 0 tp0 _ _ _ hf hW hS (lv_sub hl [3, 2, 1, 0] rfl)
        · replace hf := ifF (fun q => q c94) hf
          refine lv_iconst (v := 0) hx hb dX6_groupStatement_72 (by decide) ?_
          obtain ⟨e1, e2⟩ := so2 hf
          subst e1
          subst e2
          exact W.zret (v := 0) hx hb hr rfl (fun t ht hWm => ⟨⟨rfl, by unfold QB; rw [ht]; exact ⟨hW, trivial⟩⟩, hS.F ht⟩) hS.2.2 dX6_groupStatement_73 hlk
      · replace hf := ifF (fun q => q c89) hf
        refine lv_iconst (v := 0) hx hb dX6_groupStatement_61 (by decide) ?_
        obtain ⟨e1, e2⟩ := so2 hf
        subst e1
        subst e2
        exact W.zret (v := 0) hx hb hr rfl (fun t ht hWm => ⟨⟨rfl, by unfold QB; rw [ht]; exact ⟨hW, trivial⟩⟩, hS.F ht⟩) hS.2.2 dX6_groupStatement_62 hlk
    · replace hf := ifF (fun q => q c76) hf
      exact L26 S70 p0 tp0 _ _ _ hf hW hS (lv_sub hl [0] rfl)
set_option maxHeartbeats 4000000 in
set_option maxRecDepth 100000 in
theorem c_X6_takeWord (l : Launch) (g : GP) (ad : Nat → Nat) (n : Nat) (K : Nat → Nat) (sz F : Nat) (S0 : St) (p0 : Nat) (tp0 : p0 < n ∧ K p0 = 5) (r9 : Int64) (S9 : St) (hf : f_X6_takeWord F S0 p0 = some (r9, S9)) : Met l yX6_takeWord wsX6_takeWord { frames := 3, cells := 0, slots := 0, locals := 67 } (va_Pc [.ref (ad p0)] (PB g ad n K S0 sz)) (QR (some (.long r9)) (QB g ad n K S9 (dA ad n sz) (True)) (dA ad n sz)) 0 0 (dA ad n sz) := by
  refine Met.ofW (cc := cX6_takeWord) (maxL := 3) (ret := (some .long)) (by decide) rfl ?_
  intro p e s m args below meth c s₁ B hml hv
  obtain ⟨rfl, hsz, hW, hK, hGs⟩ := x_start hv
  subst hsz
  have hx := B.exec
  have hb := B.bytes
  have hr := B.returns
  have hts := atoms_spec (ws := wsX6_takeWord) B.pre
  have hown : s.vm.findClass RX6 = some m.cls := findClass_of_methodNamed B.named
  have hlk := B.notSynchronized
  have hC : Cx g p s m _ c cX6_takeWord RX6 wsX6_takeWord 3 := ⟨hx, hb, hml, hown, hts, hK⟩
  have hA : ∀ q : Nat, s.heap.size ≤ q → dA ad n s.heap.size q := fun q h => Or.inr h
  have hS : va_S (dA ad n s.heap.size) s.heap s.heap [] := va_S.rf
  have hl := lv_entry ([.ref (ad p0)]) (n := 3) (Nat.le_of_ble_eq_true rfl)
  rw [lg_entry_eq]
  generalize (lg_sl ([.ref (ad p0)]) ++ List.replicate (3 - (lg_sl ([.ref (ad p0)])).length) Slot.unset).toArray = ls at hl ⊢
  have hl : lv_has ls 3 [(0, .ref (ad p0))] := hl
  have hinX6 : ∀ w ∈ wsX60, w ∈ wsX6_takeWord := by decide +kernel
  have w_0 := hts (.fieldLink RX6 38 "MailSpool$Parser" "kind" "I") (by decide +kernel)
  have w_1 := hts (.fieldLink RX6 190 "MailSpool$Parser" "word" "J") (by decide +kernel)
  have w_2 := hts (.constantLong RX6 211 (-1)) (by decide +kernel)
  have hGE := hGs.2.2.2.1
  have hGM := hGs.2.2.2.2
  have L19 : ∀ (S0 : St) (v0 : Nat) (tv0 : v0 < n ∧ K v0 = 5) (H : Heap) (locs : List Loc) (ls : Array Slot), f_X6_takeWord_L19 F S0 v0 = some (r9, S9) → Wb g ad n K S0 (dA ad n s.heap.size) H → va_S (dA ad n s.heap.size) s.heap H locs → lv_has ls 3 [(0, .ref (ad v0))] → W p l e (headSpec wsX6_takeWord { frames := 3, cells := 0, slots := 0, locals := 67 }).room s m (List.toArray [.ref (ad p0)]) below meth c H locs 0 0 (MQ below (QR (some (.long r9)) (QB g ad n K S9 (dA ad n s.heap.size) (True)) (dA ad n s.heap.size)) (List.toArray [.ref (ad p0)]) s 0 0 (dA ad n s.heap.size)) (F0 m 19 ls []) := by
    intro S0 v0 tv0 H locs ls hf hW hS hl
    unfold f_X6_takeWord_L19 at hf
    refine lv_aload_n hx hb dX6_takeWord_19 rfl (lv_at hl 0 rfl) ?_
    refine lv_iconst (v := 1) hx hb dX6_takeWord_20 (by decide) ?_
    replace hf := obE hf
    obtain ⟨z5, hz5, hf⟩ := hf
    obtain ⟨r7, S6⟩ := z5
    replace hf := ltE (ltE hf r7 rfl) S6 rfl
    refine x_callV (As := [.int 1]) (rest := []) (o := (some (.int r7))) (S1 := S6) hC hl.1 hW hS hGs hA tv0 rfl (show vwCl[5]? = some (RX6, TX6, 10) ∧ ob 5 from ⟨rfl, by decide⟩) (c_X6_fail l g ad n K H.size F S0 v0 ((1 : Int32)) tv0 r7 S6 hz5) (cwV 1 hts gX6_takeWord_X6_fail rfl rfl rfl (by decide +kernel) ⟨Nat.le_of_ble_eq_true rfl, Nat.le_of_ble_eq_true rfl⟩) rfl rfl (Nat.le_of_ble_eq_true rfl) dX6_takeWord_21 ⟨Nat.le_of_ble_eq_true rfl, Nat.le_of_ble_eq_true rfl⟩ (fun H locs hPz5 hW hS => ?_)
    refine W.eq (g2 := F0 m 24 ls [.int r7]) rfl ?_
    refine lv_pop hx hb dX6_takeWord_24 rfl ?_
    refine lv_lconst (v := 0) hx hb dX6_takeWord_25 (by decide) ?_
    obtain ⟨e1, e2⟩ := so2 hf
    subst e1
    subst e2
    exact W.lret (v := 0) hx hb hr (fun t ht hWm => ⟨⟨rfl, by unfold QB; rw [ht]; exact ⟨hW, trivial⟩⟩, hS.F ht⟩) hS.2.2 dX6_takeWord_26 hlk
  unfold f_X6_takeWord at hf
  refine lv_aload_n hx hb dX6_takeWord_0 rfl (lv_at hl 0 rfl) ?_
  refine x_geti 506 (ci := 5) (C := RX6) (T := TX6) (N := 10) 6 hC hinX6 hW tp0 rfl rfl ⟨by decide, by decide, rfl, rfl⟩ rfl w_0 dX6_takeWord_1 ?_
  refine lv_iconst (v := 1) hx hb dX6_takeWord_4 (by decide) ?_
  refine lv_icmp_ne (tgt := 19) hx hb dX6_takeWord_5 (by decide) (fun c9 => ?_) (fun c9 => ?_)
  · replace hf := ifT c9 hf
    exact L19 S0 p0 tp0 _ _ _ hf hW hS (lv_sub hl [0] rfl)
  · replace hf := ifF (fun q => q c9) hf
    refine lv_aload_n hx hb dX6_takeWord_8 rfl (lv_at hl 0 rfl) ?_
    refine x_getl 507 (ci := 5) (C := RX6) (T := TX6) (N := 10) 7 hC hinX6 hW tp0 rfl rfl ⟨by decide, by decide, rfl, rfl⟩ rfl w_1 dX6_takeWord_9 ?_
    refine lv_ldc2 (v := (-1)) hx hb hown w_2 dX6_takeWord_12 ?_
    refine W.lcmp hx hb dX6_takeWord_15 ?_
    refine lv_if_ne (tgt := 27) hx hb dX6_takeWord_16 (by decide) (fun c10 => ?_) (fun c10 => ?_)
    · replace hf := ifT c10 hf
      refine lv_aload_n hx hb dX6_takeWord_27 rfl (lv_at hl 0 rfl) ?_
      refine x_getl 507 (ci := 5) (C := RX6) (T := TX6) (N := 10) 7 hC hinX6 hW tp0 rfl rfl ⟨by decide, by decide, rfl, rfl⟩ rfl w_1 dX6_takeWord_28 ?_
      refine lv_topl (fun x11 ex11 => ?_)
      replace hf := ltE hf x11 ex11
      refine lv_lstore_n (lv' := [(1, .long (x11)), (0, .ref (ad p0))]) hx hb dX6_takeWord_31 rfl hl (by decide) rfl (fun ls hl => ?_)
      refine lv_aload_n hx hb dX6_takeWord_32 rfl (lv_at hl 1 rfl) ?_
      replace hf := obE hf
      obtain ⟨S13, hz12, hf⟩ := hf
      refine x_callV (As := []) (rest := []) (o := none) (S1 := S13) hC hl.1 hW hS hGs hA tp0 rfl (show vwCl[5]? = some (RX6, TX6, 10) ∧ ob 5 from ⟨rfl, by decide⟩) (c_X6_nextToken l g ad n K s.heap.size F S0 p0 tp0 S13 hz12) (cwV 0 hts gX6_takeWord_X6_nextToken rfl rfl rfl (by decide +kernel) ⟨Nat.le_of_ble_eq_true rfl, Nat.le_of_ble_eq_true rfl⟩) rfl rfl (Nat.le_of_ble_eq_true rfl) dX6_takeWord_33 ⟨Nat.le_of_ble_eq_true rfl, Nat.le_of_ble_eq_true rfl⟩ (fun H locs hPz12 hW hS => ?_)
      refine W.eq (g2 := F0 m 36 ls []) rfl ?_
      refine lv_lload_n hx hb dX6_takeWord_36 rfl (lv_at hl 0 rfl) ?_
      obtain ⟨e1, e2⟩ := so2 hf
      subst e1
      subst e2
      exact W.lret (v := x11) hx hb hr (fun t ht hWm => ⟨⟨rfl, by unfold QB; rw [ht]; exact ⟨hW, trivial⟩⟩, hS.F ht⟩) hS.2.2 dX6_takeWord_37 hlk
    · replace hf := ifF (fun q => q c10) hf
      exact L19 S0 p0 tp0 _ _ _ hf hW hS (lv_sub hl [0] rfl)
set_option maxHeartbeats 4000000 in
set_option maxRecDepth 100000 in
theorem c_X7_addHold (l : Launch) (g : GP) (ad : Nat → Nat) (n : Nat) (K : Nat → Nat) (sz F : Nat) (S0 : St) (p0 : Nat) (p1 : Int64) (p2 : Int32) (p3 : Int32) (p4 : Int32) (p5 : Int64) (tp0 : p0 < n ∧ K p0 = 6) (S9 : St) (hf : f_X7_addHold F S0 p0 p1 p2 p3 p4 p5 = some S9) : Met l yX7_addHold wsX7_addHold { frames := 1, cells := 0, slots := 0, locals := 23 } (va_Pc [.ref (ad p0), .long (p1), .int p2, .int p3, .int p4, .long (p5)] (PB g ad n K S0 sz)) (QR none (QB g ad n K S9 (dA ad n sz) (True)) (dA ad n sz)) 0 0 (dA ad n sz) := by
  refine Met.ofW (cc := cX7_addHold) (maxL := 9) (ret := none) (by decide) rfl ?_
  intro p e s m args below meth c s₁ B hml hv
  obtain ⟨rfl, hsz, hW, hK, hGs⟩ := x_start hv
  subst hsz
  have hx := B.exec
  have hb := B.bytes
  have hr := B.returns
  have hts := atoms_spec (ws := wsX7_addHold) B.pre
  have hown : s.vm.findClass RX7 = some m.cls := findClass_of_methodNamed B.named
  have hlk := B.notSynchronized
  have hC : Cx g p s m _ c cX7_addHold RX7 wsX7_addHold 9 := ⟨hx, hb, hml, hown, hts, hK⟩
  have hA : ∀ q : Nat, s.heap.size ≤ q → dA ad n s.heap.size q := fun q h => Or.inr h
  have hS : va_S (dA ad n s.heap.size) s.heap s.heap [] := va_S.rf
  have hl := lv_entry ([.ref (ad p0), .long (p1), .int p2, .int p3, .int p4, .long (p5)]) (n := 9) (Nat.le_of_ble_eq_true rfl)
  rw [lg_entry_eq]
  generalize (lg_sl ([.ref (ad p0), .long (p1), .int p2, .int p3, .int p4, .long (p5)]) ++ List.replicate (9 - (lg_sl ([.ref (ad p0), .long (p1), .int p2, .int p3, .int p4, .long (p5)])).length) Slot.unset).toArray = ls at hl ⊢
  have hl : lv_has ls 9 [(0, .ref (ad p0)), (1, .long (p1)), (3, .int p2), (4, .int p3), (5, .int p4), (6, .long (p5))] := hl
  have hinX7 : ∀ w ∈ wsX70, w ∈ wsX7_addHold := by decide +kernel
  have w_0 := hts (.fieldLink RX7 49 "MailSpool$Rules" "holds" "LMailSpool$Names;") (by decide +kernel)
  have w_1 := hts (.fieldLink RX7 52 "MailSpool$Rules" "holdUser" "[I") (by decide +kernel)
  have w_2 := va_Nw.use (A := (List.toArray [.ref (ad p0), .long (p1), .int p2, .int p3, .int p4, .long (p5)])) rfl (hGs.1 (.methodLinkNest RX7 69 yX10_put "MailSpool") (by decide +kernel))
  have w_3 := hts (.initialized RX10) (by decide +kernel)
  have w_4 := hts (.static yX10_put) (by decide +kernel)
  have w_5 := hts (.fieldLink RX7 55 "MailSpool$Rules" "holdFrom" "[I") (by decide +kernel)
  have w_6 := hts (.fieldLink RX7 58 "MailSpool$Rules" "holdTo" "[I") (by decide +kernel)
  have w_7 := hts (.fieldLink RX7 61 "MailSpool$Rules" "holdWord" "[J") (by decide +kernel)
  have hGE := hGs.2.2.2.1
  have hGM := hGs.2.2.2.2
  unfold f_X7_addHold at hf
  refine lv_aload_n hx hb dX7_addHold_0 rfl (lv_at hl 0 rfl) ?_
  replace hf := obE hf
  obtain ⟨j1, qj1, hf⟩ := hf
  have tj1 := x_rt hW qj1 4 ⟨by decide, rfl⟩
  refine x_getr 611 (ci := 6) (C := RX7) (T := TX7) (N := 16) 11 hC hinX7 hW tp0 rfl rfl ⟨by decide, by decide, rfl, rfl⟩ rfl w_0 dX7_addHold_1 qj1 ?_
  refine lv_lload_n hx hb dX7_addHold_4 rfl (lv_at hl 1 rfl) ?_
  replace hf := obE hf
  obtain ⟨z2, hz2, hf⟩ := hf
  obtain ⟨r4, S3⟩ := z2
  replace hf := ltE (ltE hf r4 rfl) S3 rfl
  refine x_callV (As := [.long (p1)]) (rest := []) (o := (some (.int r4))) (S1 := S3) hC hl.1 hW hS hGs hA tj1 rfl (show vwCl[4]? = some (RX5, TX5, 2) ∧ ob 4 from ⟨rfl, by decide⟩) (c_X5_add l g ad n K s.heap.size F S0 j1 p1 tj1 r4 S3 hz2) (cwV 1 hts gX7_addHold_X5_add rfl rfl rfl (by decide +kernel) ⟨Nat.le_of_ble_eq_true rfl, Nat.le_of_ble_eq_true rfl⟩) rfl rfl (Nat.le_of_ble_eq_true rfl) dX7_addHold_5 ⟨Nat.le_of_ble_eq_true rfl, Nat.le_of_ble_eq_true rfl⟩ (fun H locs hPz2 hW hS => ?_)
  refine W.eq (g2 := F0 m 8 ls [.int r4]) rfl ?_
  refine lv_istore (lv' := [(8, .int r4), (0, .ref (ad p0)), (1, .long (p1)), (3, .int p2), (4, .int p3), (5, .int p4), (6, .long (p5))]) hx hb dX7_addHold_8 hl (by decide) rfl (fun ls hl => ?_)
  refine lv_aload_n hx hb dX7_addHold_10 rfl (lv_at hl 1 rfl) ?_
  replace hf := obE hf
  obtain ⟨j6, qj6, hf⟩ := hf
  have tj6 := x_rt hW qj6 12 ⟨by decide, rfl⟩
  refine x_getr 612 (ci := 6) (C := RX7) (T := TX7) (N := 16) 12 hC hinX7 hW tp0 rfl rfl ⟨by decide, by decide, rfl, rfl⟩ rfl w_1 dX7_addHold_11 qj6 ?_
  refine lv_iload hx hb dX7_addHold_14 (lv_at hl 0 rfl) ?_
  refine lv_iload_n hx hb dX7_addHold_16 rfl (lv_at hl 3 rfl) ?_
  replace hf := obE hf
  obtain ⟨S8, hz7, hf⟩ := hf
  refine x_callSN (As := [.ref (ad j6), .int r4, .int p2]) (rest := []) (o := none) (S1 := S8) hC hl.1 hW hS hGs hA (c_X10_put l g ad n K H.size F S3 j6 r4 p2 tj6 S8 hz7) ⟨va_cnB 3 hts gX7_addHold_X10_put_n69 rfl rfl rfl (va_Nw.of rfl w_2) w_3 (by decide +kernel) ⟨Nat.le_of_ble_eq_true rfl, Nat.le_of_ble_eq_true rfl⟩, w_4, trivial⟩ rfl rfl (Nat.le_of_ble_eq_true rfl) dX7_addHold_17 ⟨Nat.le_of_ble_eq_true rfl, Nat.le_of_ble_eq_true rfl⟩ (fun H locs hPz7 hW hS => ?_)
  refine W.eq (g2 := F0 m 20 ls []) rfl ?_
  refine lv_aload_n hx hb dX7_addHold_20 rfl (lv_at hl 1 rfl) ?_
  replace hf := obE hf
  obtain ⟨j11, qj11, hf⟩ := hf
  have tj11 := x_rt hW qj11 12 ⟨by decide, rfl⟩
  refine x_getr 613 (ci := 6) (C := RX7) (T := TX7) (N := 16) 13 hC hinX7 hW tp0 rfl rfl ⟨by decide, by decide, rfl, rfl⟩ rfl w_5 dX7_addHold_21 qj11 ?_
  refine lv_iload hx hb dX7_addHold_24 (lv_at hl 0 rfl) ?_
  refine lv_iload hx hb dX7_addHold_26 (lv_at hl 4 rfl) ?_
  replace hf := obE hf
  obtain ⟨S13, hz12, hf⟩ := hf
  refine x_callSN (As := [.ref (ad j11), .int r4, .int p3]) (rest := []) (o := none) (S1 := S13) hC hl.1 hW hS hGs hA (c_X10_put l g ad n K H.size F S8 j11 r4 p3 tj11 S13 hz12) ⟨va_cnB 3 hts gX7_addHold_X10_put_n69 rfl rfl rfl (va_Nw.of rfl w_2) w_3 (by decide +kernel) ⟨Nat.le_of_ble_eq_true rfl, Nat.le_of_ble_eq_true rfl⟩, w_4, trivial⟩ rfl rfl (Nat.le_of_ble_eq_true rfl) dX7_addHold_28 ⟨Nat.le_of_ble_eq_true rfl, Nat.le_of_ble_eq_true rfl⟩ (fun H locs hPz12 hW hS => ?_)
  refine W.eq (g2 := F0 m 31 ls []) rfl ?_
  refine lv_aload_n hx hb dX7_addHold_31 rfl (lv_at hl 1 rfl) ?_
  replace hf := obE hf
  obtain ⟨j16, qj16, hf⟩ := hf
  have tj16 := x_rt hW qj16 12 ⟨by decide, rfl⟩
  refine x_getr 614 (ci := 6) (C := RX7) (T := TX7) (N := 16) 14 hC hinX7 hW tp0 rfl rfl ⟨by decide, by decide, rfl, rfl⟩ rfl w_6 dX7_addHold_32 qj16 ?_
  refine lv_iload hx hb dX7_addHold_35 (lv_at hl 0 rfl) ?_
  refine lv_iload hx hb dX7_addHold_37 (lv_at hl 5 rfl) ?_
  replace hf := obE hf
  obtain ⟨S18, hz17, hf⟩ := hf
  refine x_callSN (As := [.ref (ad j16), .int r4, .int p4]) (rest := []) (o := none) (S1 := S18) hC hl.1 hW hS hGs hA (c_X10_put l g ad n K H.size F S13 j16 r4 p4 tj16 S18 hz17) ⟨va_cnB 3 hts gX7_addHold_X10_put_n69 rfl rfl rfl (va_Nw.of rfl w_2) w_3 (by decide +kernel) ⟨Nat.le_of_ble_eq_true rfl, Nat.le_of_ble_eq_true rfl⟩, w_4, trivial⟩ rfl rfl (Nat.le_of_ble_eq_true rfl) dX7_addHold_39 ⟨Nat.le_of_ble_eq_true rfl, Nat.le_of_ble_eq_true rfl⟩ (fun H locs hPz17 hW hS => ?_)
  refine W.eq (g2 := F0 m 42 ls []) rfl ?_
  refine lv_iload hx hb dX7_addHold_42 (lv_at hl 0 rfl) ?_
  refine lv_if_lt (tgt := 66) hx hb dX7_addHold_44 (by decide) (fun c21 => ?_) (fun c21 => ?_)
  · replace hf := ifT c21 hf
    have e1 := Option.some.inj hf
    subst e1
    exact W.vret hx hb hr (fun t ht hWm => ⟨⟨rfl, by unfold QB; rw [ht]; exact ⟨hW, trivial⟩⟩, hS.F ht⟩) hS.2.2 dX7_addHold_66 hlk
  · replace hf := ifF c21 hf
    refine lv_iload hx hb dX7_addHold_47 (lv_at hl 0 rfl) ?_
    refine lv_aload_n hx hb dX7_addHold_49 rfl (lv_at hl 1 rfl) ?_
    replace hf := obE hf
    obtain ⟨j22, qj22, hf⟩ := hf
    have tj22 := x_rt hW qj22 13 ⟨by decide, rfl⟩
    refine x_getr 615 (ci := 6) (C := RX7) (T := TX7) (N := 16) 15 hC hinX7 hW tp0 rfl rfl ⟨by decide, by decide, rfl, rfl⟩ rfl w_7 dX7_addHold_50 qj22 ?_
    refine x_alen hC hW tj22 rfl ⟨by decide, by decide⟩ dX7_addHold_53 ?_
    refine lv_icmp_ge (tgt := 66) hx hb dX7_addHold_54 (by decide) (fun c23 => ?_) (fun c23 => ?_)
    · replace hf := ifT c23 hf
      have e1 := Option.some.inj hf
      subst e1
      exact W.vret hx hb hr (fun t ht hWm => ⟨⟨rfl, by unfold QB; rw [ht]; exact ⟨hW, trivial⟩⟩, hS.F ht⟩) hS.2.2 dX7_addHold_66 hlk
    · replace hf := ifF c23 hf
      refine lv_aload_n hx hb dX7_addHold_57 rfl (lv_at hl 1 rfl) ?_
      replace hf := obE hf
      obtain ⟨j24, qj24, hf⟩ := hf
      have tj24 := x_rt hW qj24 13 ⟨by decide, rfl⟩
      refine x_getr 615 (ci := 6) (C := RX7) (T := TX7) (N := 16) 15 hC hinX7 hW tp0 rfl rfl ⟨by decide, by decide, rfl, rfl⟩ rfl w_7 dX7_addHold_58 qj24 ?_
      refine lv_iload hx hb dX7_addHold_61 (lv_at hl 0 rfl) ?_
      refine lv_lload hx hb dX7_addHold_63 (lv_at hl 6 rfl) ?_
      replace hf := ckiE hf
      obtain ⟨h25, hf⟩ := hf
      refine x_last hC hW hS tj24 rfl rfl h25 dX7_addHold_65 (fun S26 H locs eS26 hW hS => ?_)
      replace hf := ltE hf S26 eS26
      have e1 := Option.some.inj hf
      subst e1
      exact W.vret hx hb hr (fun t ht hWm => ⟨⟨rfl, by unfold QB; rw [ht]; exact ⟨hW, trivial⟩⟩, hS.F ht⟩) hS.2.2 dX7_addHold_66 hlk
set_option maxHeartbeats 4000000 in
set_option maxRecDepth 100000 in
theorem c_X6_holdStatement (l : Launch) (g : GP) (ad : Nat → Nat) (n : Nat) (K : Nat → Nat) (sz F : Nat) (S0 : St) (p0 : Nat) (tp0 : p0 < n ∧ K p0 = 5) (r9 : Int32) (S9 : St) (hf : f_X6_holdStatement F S0 p0 = some (r9, S9)) : Met l yX6_holdStatement wsX6_holdStatement { frames := 4, cells := 0, slots := 0, locals := 91 } (va_Pc [.ref (ad p0)] (PB g ad n K S0 sz)) (QR (some (.int r9)) (QB g ad n K S9 (dA ad n sz) (True)) (dA ad n sz)) 0 0 (dA ad n sz) := by
  refine Met.ofW (cc := cX6_holdStatement) (maxL := 8) (ret := (some .boolean)) (by decide) rfl ?_
  intro p e s m args below meth c s₁ B hml hv
  obtain ⟨rfl, hsz, hW, hK, hGs⟩ := x_start hv
  subst hsz
  have hx := B.exec
  have hb := B.bytes
  have hr := B.returns
  have hts := atoms_spec (ws := wsX6_holdStatement) B.pre
  have hown : s.vm.findClass RX6 = some m.cls := findClass_of_methodNamed B.named
  have hlk := B.notSynchronized
  have hC : Cx g p s m _ c cX6_holdStatement RX6 wsX6_holdStatement 8 := ⟨hx, hb, hml, hown, hts, hK⟩
  have hA : ∀ q : Nat, s.heap.size ≤ q → dA ad n s.heap.size q := fun q h => Or.inr h
  have hS : va_S (dA ad n s.heap.size) s.heap s.heap [] := va_S.rf
  have hl := lv_entry ([.ref (ad p0)]) (n := 8) (Nat.le_of_ble_eq_true rfl)
  rw [lg_entry_eq]
  generalize (lg_sl ([.ref (ad p0)]) ++ List.replicate (8 - (lg_sl ([.ref (ad p0)])).length) Slot.unset).toArray = ls at hl ⊢
  have hl : lv_has ls 8 [(0, .ref (ad p0))] := hl
  have hinX5 : ∀ w ∈ wsX50, w ∈ wsX6_holdStatement := by decide +kernel
  have hinX6 : ∀ w ∈ wsX60, w ∈ wsX6_holdStatement := by decide +kernel
  have hinX7 : ∀ w ∈ wsX70, w ∈ wsX6_holdStatement := by decide +kernel
  have w_0 := hts (.fieldLink RX6 18 "MailSpool$Parser" "rules" "LMailSpool$Rules;") (by decide +kernel)
  have w_1 := hts (.fieldLink RX6 41 "MailSpool$Parser" "keyword" "LMailSpool$Keyword;") (by decide +kernel)
  have w_2 := hts (.fieldLink RX6 170 "MailSpool$Keyword" "WORD" "LMailSpool$Keyword;") (by decide +kernel)
  have w_3 := va_Nw.use (A := (List.toArray [.ref (ad p0)])) rfl (hGs.1 (.fieldLinkNest RX6 160 "MailSpool$Rules" "holds" "LMailSpool$Names;" "MailSpool") (by decide +kernel))
  have w_4 := va_Nw.use (A := (List.toArray [.ref (ad p0)])) rfl (hGs.1 (.fieldLinkNest RX6 134 "MailSpool$Rules" "users" "LMailSpool$Names;" "MailSpool") (by decide +kernel))
  have w_5 := va_Nw.use (A := (List.toArray [.ref (ad p0)])) rfl (hGs.1 (.fieldLinkNest RX6 137 "MailSpool$Names" "size" "I" "MailSpool") (by decide +kernel))
  have w_6 := hts (.fieldLink RX6 53 "MailSpool$Keyword" "USER" "LMailSpool$Keyword;") (by decide +kernel)
  have w_7 := hts (.constant RX6 163 (1000000000)) (by decide +kernel)
  have w_8 := hts (.fieldLink RX6 164 "MailSpool$Keyword" "FROM" "LMailSpool$Keyword;") (by decide +kernel)
  have w_9 := hts (.fieldLink RX6 167 "MailSpool$Keyword" "TO" "LMailSpool$Keyword;") (by decide +kernel)
  have hGE := hGs.2.2.2.1
  have hGM := hGs.2.2.2.2
  have L192 : ∀ (S0 : St) (v0 : Nat) (v1 : Int64) (v3 : Int32) (v4 : Int32) (v5 : Int32) (v6 : Int64) (tv0 : v0 < n ∧ K v0 = 5) (H : Heap) (locs : List Loc) (ls : Array Slot), f_X6_holdStatement_L192 F S0 v0 v1 v3 v4 v5 v6 = some (r9, S9) → Wb g ad n K S0 (dA ad n s.heap.size) H → va_S (dA ad n s.heap.size) s.heap H locs → lv_has ls 8 [(0, .ref (ad v0)), (1, .long (v1)), (3, .int v3), (4, .int v4), (5, .int v5), (6, .long (v6))] → W p l e (headSpec wsX6_holdStatement { frames := 4, cells := 0, slots := 0, locals := 91 }).room s m (List.toArray [.ref (ad p0)]) below meth c H locs 0 0 (MQ below (QR (some (.int r9)) (QB g ad n K S9 (dA ad n s.heap.size) (True)) (dA ad n s.heap.size)) (List.toArray [.ref (ad p0)]) s 0 0 (dA ad n s.heap.size)) (F0 m 192 ls []) := by
    intro S0 v0 v1 v3 v4 v5 v6 tv0 H locs ls hf hW hS hl
    unfold f_X6_holdStatement_L192 at hf
    refine lv_aload_n hx hb dX6_holdStatement_192 rfl (lv_at hl 0 rfl) ?_
    refine lv_bipush (v := 59) hx hb dX6_holdStatement_193 (by decide) ?_
    replace hf := obE hf
    obtain ⟨z11, hz11, hf⟩ := hf
    obtain ⟨r13, S12⟩ := z11
    replace hf := ltE (ltE hf r13 rfl) S12 rfl
    refine x_callV (As := [.int 59]) (rest := []) (o := (some (.int r13))) (S1 := S12) hC hl.1 hW hS hGs hA tv0 rfl (show vwCl[5]? = some (RX6, TX6, 10) ∧ ob 5 from ⟨rfl, by decide⟩) (c_X6_takeSymbol l g ad n K H.size F S0 v0 ((59 : Int32)) tv0 r13 S12 hz11) (cwV 1 hts gX6_holdStatement_X6_takeSymbol rfl rfl rfl (by decide +kernel) ⟨Nat.le_of_ble_eq_true rfl, Nat.le_of_ble_eq_true rfl⟩) rfl rfl (Nat.le_of_ble_eq_true rfl) dX6_holdStatement_195 ⟨Nat.le_of_ble_eq_true rfl, Nat.le_of_ble_eq_true rfl⟩ (fun H locs hPz11 hW hS => ?_)
    refine W.eq (g2 := F0 m 198 ls [.int r13]) rfl ?_
    refine lv_if_ne (tgt := 203) hx hb dX6_holdStatement_198 (by decide) (fun c15 => ?_) (fun c15 => ?_)
    · replace hf := ifT c15 hf
      refine lv_aload_n hx hb dX6_holdStatement_203 rfl (lv_at hl 0 rfl) ?_
      replace hf := obE hf
      obtain ⟨j16, qj16, hf⟩ := hf
      have tj16 := x_rt hW qj16 6 ⟨by decide, rfl⟩
      refine x_getr 501 (ci := 5) (C := RX6) (T := TX6) (N := 10) 1 hC hinX6 hW tv0 rfl rfl ⟨by decide, by decide, rfl, rfl⟩ rfl w_0 dX6_holdStatement_204 qj16 ?_
      refine lv_lload_n hx hb dX6_holdStatement_207 rfl (lv_at hl 1 rfl) ?_
      refine lv_iload_n hx hb dX6_holdStatement_208 rfl (lv_at hl 2 rfl) ?_
      refine lv_iload hx hb dX6_holdStatement_209 (lv_at hl 3 rfl) ?_
      refine lv_iload hx hb dX6_holdStatement_211 (lv_at hl 4 rfl) ?_
      refine lv_lload hx hb dX6_holdStatement_213 (lv_at hl 5 rfl) ?_
      replace hf := obE hf
      obtain ⟨S18, hz17, hf⟩ := hf
      refine x_callV (As := [.long (v1), .int v3, .int v4, .int v5, .long (v6)]) (rest := []) (o := none) (S1 := S18) hC hl.1 hW hS hGs hA tj16 rfl (show vwCl[6]? = some (RX7, TX7, 16) ∧ ob 6 from ⟨rfl, by decide⟩) (c_X7_addHold l g ad n K H.size F S12 j16 v1 v3 v4 v5 v6 tj16 S18 hz17) (cwV 5 hts gX6_holdStatement_X7_addHold rfl rfl rfl (by decide +kernel) ⟨Nat.le_of_ble_eq_true rfl, Nat.le_of_ble_eq_true rfl⟩) rfl rfl (Nat.le_of_ble_eq_true rfl) dX6_holdStatement_215 ⟨Nat.le_of_ble_eq_true rfl, Nat.le_of_ble_eq_true rfl⟩ (fun H locs hPz17 hW hS => ?_)
      refine W.eq (g2 := F0 m 218 ls []) rfl ?_
      refine lv_iconst (v := 1) hx hb dX6_holdStatement_218 (by decide) ?_
      obtain ⟨e1, e2⟩ := so2 hf
      subst e1
      subst e2
      exact W.zret (v := 1) hx hb hr rfl (fun t ht hWm => ⟨⟨rfl, by unfold QB; rw [ht]; exact ⟨hW, trivial⟩⟩, hS.F ht⟩) hS.2.2 dX6_holdStatement_219 hlk
    · replace hf := ifF (fun q => q c15) hf
      refine lv_iconst (v := 0) hx hb dX6_holdStatement_201 (by decide) ?_
      obtain ⟨e1, e2⟩ := so2 hf
      subst e1
      subst e2
      exact W.zret (v := 0) hx hb hr rfl (fun t ht hWm => ⟨⟨rfl, by unfold QB; rw [ht]; exact ⟨hW, trivial⟩⟩, hS.F ht⟩) hS.2.2 dX6_holdStatement_202 hlk
  have L160 : ∀ (S0 : St) (v0 : Nat) (v1 : Int64) (v3 : Int32) (v4 : Int32) (v5 : Int32) (tv0 : v0 < n ∧ K v0 = 5) (H : Heap) (locs : List Loc) (ls : Array Slot), f_X6_holdStatement_L160 F S0 v0 v1 v3 v4 v5 = some (r9, S9) → Wb g ad n K S0 (dA ad n s.heap.size) H → va_S (dA ad n s.heap.size) s.heap H locs → lv_has ls 8 [(0, .ref (ad v0)), (1, .long (v1)), (3, .int v3), (4, .int v4), (5, .int v5)] → W p l e (headSpec wsX6_holdStatement { frames := 4, cells := 0, slots := 0, locals := 91 }).room s m (List.toArray [.ref (ad p0)]) below meth c H locs 0 0 (MQ below (QR (some (.int r9)) (QB g ad n K S9 (dA ad n s.heap.size) (True)) (dA ad n s.heap.size)) (List.toArray [.ref (ad p0)]) s 0 0 (dA ad n s.heap.size)) (F0 m 160 ls []) := by
    intro S0 v0 v1 v3 v4 v5 tv0 H locs ls hf hW hS hl
    unfold f_X6_holdStatement_L160 at hf
    refine lv_lconst (v := 0) hx hb dX6_holdStatement_160 (by decide) ?_
    refine lv_lstore (lv' := [(6, .long (0)), (0, .ref (ad v0)), (1, .long (v1)), (3, .int v3), (4, .int v4), (5, .int v5)]) hx hb dX6_holdStatement_161 hl (by decide) rfl (fun ls hl => ?_)
    refine lv_aload_n hx hb dX6_holdStatement_163 rfl (lv_at hl 1 rfl) ?_
    refine x_gete 508 (ci := 5) (C := RX6) (T := TX6) (N := 10) 8 hC hinX6 hW tv0 rfl rfl ⟨by decide, by decide, rfl, rfl⟩ rfl w_1 dX6_holdStatement_164 ?_
    refine x_getsE 14 (nm := "WORD") hC hGE hS ⟨by decide, rfl⟩ w_2 dX6_holdStatement_167 ?_
    replace hf := ckE hf
    obtain ⟨h33, hf⟩ := hf
    refine x_acmpE_ne (tgt := 192) hC hGE h33 (by decide) dX6_holdStatement_170 (by decide) (fun c32 => ?_) (fun c32 => ?_)
    · replace hf := ifT c32 hf
      exact L192 S0 v0 v1 v3 v4 v5 0 tv0 _ _ _ hf hW hS (lv_sub hl [1, 2, 3, 4, 5, 0] rfl)
    · replace hf := ifF (fun q => q c32) hf
      refine lv_aload_n hx hb dX6_holdStatement_173 rfl (lv_at hl 1 rfl) ?_
      replace hf := obE hf
      obtain ⟨S35, hz34, hf⟩ := hf
      refine x_callV (As := []) (rest := []) (o := none) (S1 := S35) hC hl.1 hW hS hGs hA tv0 rfl (show vwCl[5]? = some (RX6, TX6, 10) ∧ ob 5 from ⟨rfl, by decide⟩) (c_X6_nextToken l g ad n K H.size F S0 v0 tv0 S35 hz34) (cwV 0 hts gX6_holdStatement_X6_nextToken rfl rfl rfl (by decide +kernel) ⟨Nat.le_of_ble_eq_true rfl, Nat.le_of_ble_eq_true rfl⟩) rfl rfl (Nat.le_of_ble_eq_true rfl) dX6_holdStatement_174 ⟨Nat.le_of_ble_eq_true rfl, Nat.le_of_ble_eq_true rfl⟩ (fun H locs hPz34 hW hS => ?_)
      refine W.eq (g2 := F0 m 177 ls []) rfl ?_
      refine lv_aload_n hx hb dX6_holdStatement_177 rfl (lv_at hl 1 rfl) ?_
      replace hf := obE hf
      obtain ⟨z38, hz38, hf⟩ := hf
      obtain ⟨r40, S39⟩ := z38
      replace hf := ltE (ltE hf r40 rfl) S39 rfl
      refine x_callV (As := []) (rest := []) (o := (some (.long (r40)))) (S1 := S39) hC hl.1 hW hS hGs hA tv0 rfl (show vwCl[5]? = some (RX6, TX6, 10) ∧ ob 5 from ⟨rfl, by decide⟩) (c_X6_takeWord l g ad n K H.size F S35 v0 tv0 r40 S39 hz38) (cwV 0 hts gX6_holdStatement_X6_takeWord rfl rfl rfl (by decide +kernel) ⟨Nat.le_of_ble_eq_true rfl, Nat.le_of_ble_eq_true rfl⟩) rfl rfl (Nat.le_of_ble_eq_true rfl) dX6_holdStatement_178 ⟨Nat.le_of_ble_eq_true rfl, Nat.le_of_ble_eq_true rfl⟩ (fun H locs hPz38 hW hS => ?_)
      refine W.eq (g2 := F0 m 181 ls [.long (r40)]) rfl ?_
      refine lv_lstore (lv' := [(6, .long (r40)), (0, .ref (ad v0)), (1, .long (v1)), (3, .int v3), (4, .int v4), (5, .int v5)]) hx hb dX6_holdStatement_181 hl (by decide) rfl (fun ls hl => ?_)
      refine lv_lload hx hb dX6_holdStatement_183 (lv_at hl 0 rfl) ?_
      refine lv_lconst (v := 0) hx hb dX6_holdStatement_185 (by decide) ?_
      refine W.lcmp hx hb dX6_holdStatement_186 ?_
      refine lv_if_ne (tgt := 192) hx hb dX6_holdStatement_187 (by decide) (fun c42 => ?_) (fun c42 => ?_)
      · replace hf := ifT c42 hf
        exact L192 S39 v0 v1 v3 v4 v5 r40 tv0 _ _ _ hf hW hS (lv_sub hl [1, 2, 3, 4, 5, 0] rfl)
      · replace hf := ifF (fun q => q c42) hf
        refine lv_iconst (v := 0) hx hb dX6_holdStatement_190 (by decide) ?_
        obtain ⟨e1, e2⟩ := so2 hf
        subst e1
        subst e2
        exact W.zret (v := 0) hx hb hr rfl (fun t ht hWm => ⟨⟨rfl, by unfold QB; rw [ht]; exact ⟨hW, trivial⟩⟩, hS.F ht⟩) hS.2.2 dX6_holdStatement_191 hlk
  have L26 : ∀ (S0 : St) (v0 : Nat) (tv0 : v0 < n ∧ K v0 = 5) (H : Heap) (locs : List Loc) (ls : Array Slot), f_X6_holdStatement_L26 F S0 v0 = some (r9, S9) → Wb g ad n K S0 (dA ad n s.heap.size) H → va_S (dA ad n s.heap.size) s.heap H locs → lv_has ls 8 [(0, .ref (ad v0))] → W p l e (headSpec wsX6_holdStatement { frames := 4, cells := 0, slots := 0, locals := 91 }).room s m (List.toArray [.ref (ad p0)]) below meth c H locs 0 0 (MQ below (QR (some (.int r9)) (QB g ad n K S9 (dA ad n s.heap.size) (True)) (dA ad n s.heap.size)) (List.toArray [.ref (ad p0)]) s 0 0 (dA ad n s.heap.size)) (F0 m 26 ls []) := by
    intro S0 v0 tv0 H locs ls hf hW hS hl
    unfold f_X6_holdStatement_L26 at hf
    refine lv_aload_n hx hb dX6_holdStatement_26 rfl (lv_at hl 0 rfl) ?_
    refine lv_iconst (v := 4) hx hb dX6_holdStatement_27 (by decide) ?_
    replace hf := obE hf
    obtain ⟨z48, hz48, hf⟩ := hf
    obtain ⟨r50, S49⟩ := z48
    replace hf := ltE (ltE hf r50 rfl) S49 rfl
    refine x_callV (As := [.int 4]) (rest := []) (o := (some (.int r50))) (S1 := S49) hC hl.1 hW hS hGs hA tv0 rfl (show vwCl[5]? = some (RX6, TX6, 10) ∧ ob 5 from ⟨rfl, by decide⟩) (c_X6_fail l g ad n K H.size F S0 v0 ((4 : Int32)) tv0 r50 S49 hz48) (cwV 1 hts gX6_holdStatement_X6_fail rfl rfl rfl (by decide +kernel) ⟨Nat.le_of_ble_eq_true rfl, Nat.le_of_ble_eq_true rfl⟩) rfl rfl (Nat.le_of_ble_eq_true rfl) dX6_holdStatement_28 ⟨Nat.le_of_ble_eq_true rfl, Nat.le_of_ble_eq_true rfl⟩ (fun H locs hPz48 hW hS => ?_)
    refine W.eq (g2 := F0 m 31 ls [.int r50]) rfl ?_
    replace hf := ckE hf
    obtain ⟨h52, hf⟩ := hf
    obtain ⟨e1, e2⟩ := so2 hf
    subst e1
    subst e2
    exact W.zret (v := r50) hx hb hr (zn h52) (fun t ht hWm => ⟨⟨rfl, by unfold QB; rw [ht]; exact ⟨hW, trivial⟩⟩, hS.F ht⟩) hS.2.2 dX6_holdStatement_31 hlk
  unfold f_X6_holdStatement at hf
  refine lv_aload_n hx hb dX6_holdStatement_0 rfl (lv_at hl 0 rfl) ?_
  replace hf := obE hf
  obtain ⟨j53, qj53, hf⟩ := hf
  have tj53 := x_rt hW qj53 6 ⟨by decide, rfl⟩
  refine x_getr 501 (ci := 5) (C := RX6) (T := TX6) (N := 10) 1 hC hinX6 hW tp0 rfl rfl ⟨by decide, by decide, rfl, rfl⟩ rfl w_0 dX6_holdStatement_1 qj53 ?_
  replace hf := obE hf
  obtain ⟨j54, qj54, hf⟩ := hf
  have tj54 := x_rt hW qj54 4 ⟨by decide, rfl⟩
  refine x_getrN 611 (ci := 6) (C := RX7) (T := TX7) (N := 16) 11 hC hinX7 hW tj53 rfl rfl ⟨by decide, by decide, rfl, rfl⟩ rfl w_3 dX6_holdStatement_4 qj54 ?_
  replace hf := obE hf
  obtain ⟨z55, hz55, hf⟩ := hf
  obtain ⟨r57, S56⟩ := z55
  replace hf := ltE (ltE hf r57 rfl) S56 rfl
  refine x_callV (As := []) (rest := []) (o := (some (.int r57))) (S1 := S56) hC hl.1 hW hS hGs hA tj54 rfl (show vwCl[4]? = some (RX5, TX5, 2) ∧ ob 4 from ⟨rfl, by decide⟩) (c_X5_isFull l g ad n K s.heap.size F S0 j54 tj54 r57 S56 hz55) (cwV 0 hts gX6_holdStatement_X5_isFull rfl rfl rfl (by decide +kernel) ⟨Nat.le_of_ble_eq_true rfl, Nat.le_of_ble_eq_true rfl⟩) rfl rfl (Nat.le_of_ble_eq_true rfl) dX6_holdStatement_7 ⟨Nat.le_of_ble_eq_true rfl, Nat.le_of_ble_eq_true rfl⟩ (fun H locs hPz55 hW hS => ?_)
  refine W.eq (g2 := F0 m 10 ls [.int r57]) rfl ?_
  refine lv_if_ne (tgt := 26) hx hb dX6_holdStatement_10 (by decide) (fun c59 => ?_) (fun c59 => ?_)
  · replace hf := ifT c59 hf
    exact L26 S56 p0 tp0 _ _ _ hf hW hS (lv_sub hl [0] rfl)
  · replace hf := ifF (fun q => q c59) hf
    refine lv_aload_n hx hb dX6_holdStatement_13 rfl (lv_at hl 0 rfl) ?_
    replace hf := obE hf
    obtain ⟨j60, qj60, hf⟩ := hf
    have tj60 := x_rt hW qj60 6 ⟨by decide, rfl⟩
    refine x_getr 501 (ci := 5) (C := RX6) (T := TX6) (N := 10) 1 hC hinX6 hW tp0 rfl rfl ⟨by decide, by decide, rfl, rfl⟩ rfl w_0 dX6_holdStatement_14 qj60 ?_
    replace hf := obE hf
    obtain ⟨j61, qj61, hf⟩ := hf
    have tj61 := x_rt hW qj61 4 ⟨by decide, rfl⟩
    refine x_getrN 606 (ci := 6) (C := RX7) (T := TX7) (N := 16) 6 hC hinX7 hW tj60 rfl rfl ⟨by decide, by decide, rfl, rfl⟩ rfl w_4 dX6_holdStatement_17 qj61 ?_
    refine x_getiN 401 (ci := 4) (C := RX5) (T := TX5) (N := 2) 1 hC hinX5 hW tj61 rfl rfl ⟨by decide, by decide, rfl, rfl⟩ rfl w_5 dX6_holdStatement_20 ?_
    refine lv_if_ne (tgt := 32) hx hb dX6_holdStatement_23 (by decide) (fun c62 => ?_) (fun c62 => ?_)
    · replace hf := ifT c62 hf
      refine lv_aload_n hx hb dX6_holdStatement_32 rfl (lv_at hl 0 rfl) ?_
      replace hf := obE hf
      obtain ⟨S64, hz63, hf⟩ := hf
      refine x_callV (As := []) (rest := []) (o := none) (S1 := S64) hC hl.1 hW hS hGs hA tp0 rfl (show vwCl[5]? = some (RX6, TX6, 10) ∧ ob 5 from ⟨rfl, by decide⟩) (c_X6_nextToken l g ad n K H.size F S56 p0 tp0 S64 hz63) (cwV 0 hts gX6_holdStatement_X6_nextToken rfl rfl rfl (by decide +kernel) ⟨Nat.le_of_ble_eq_true rfl, Nat.le_of_ble_eq_true rfl⟩) rfl rfl (Nat.le_of_ble_eq_true rfl) dX6_holdStatement_33 ⟨Nat.le_of_ble_eq_true rfl, Nat.le_of_ble_eq_true rfl⟩ (fun H locs hPz63 hW hS => ?_)
      refine W.eq (g2 := F0 m 36 ls []) rfl ?_
      refine lv_aload_n hx hb dX6_holdStatement_36 rfl (lv_at hl 0 rfl) ?_
      refine lv_aload_n hx hb dX6_holdStatement_37 rfl (lv_at hl 0 rfl) ?_
      replace hf := obE hf
      obtain ⟨j67, qj67, hf⟩ := hf
      have tj67 := x_rt hW qj67 6 ⟨by decide, rfl⟩
      refine x_getr 501 (ci := 5) (C := RX6) (T := TX6) (N := 10) 1 hC hinX6 hW tp0 rfl rfl ⟨by decide, by decide, rfl, rfl⟩ rfl w_0 dX6_holdStatement_38 qj67 ?_
      replace hf := obE hf
      obtain ⟨j68, qj68, hf⟩ := hf
      have tj68 := x_rt hW qj68 4 ⟨by decide, rfl⟩
      refine x_getrN 611 (ci := 6) (C := RX7) (T := TX7) (N := 16) 11 hC hinX7 hW tj67 rfl rfl ⟨by decide, by decide, rfl, rfl⟩ rfl w_3 dX6_holdStatement_41 qj68 ?_
      refine lv_aload_n hx hb dX6_holdStatement_44 rfl (lv_at hl 0 rfl) ?_
      replace hf := obE hf
      obtain ⟨j69, qj69, hf⟩ := hf
      have tj69 := x_rt hW qj69 6 ⟨by decide, rfl⟩
      refine x_getr 501 (ci := 5) (C := RX6) (T := TX6) (N := 10) 1 hC hinX6 hW tp0 rfl rfl ⟨by decide, by decide, rfl, rfl⟩ rfl w_0 dX6_holdStatement_45 qj69 ?_
      replace hf := obE hf
      obtain ⟨j70, qj70, hf⟩ := hf
      have tj70 := x_rt hW qj70 4 ⟨by decide, rfl⟩
      refine x_getrN 611 (ci := 6) (C := RX7) (T := TX7) (N := 16) 11 hC hinX7 hW tj69 rfl rfl ⟨by decide, by decide, rfl, rfl⟩ rfl w_3 dX6_holdStatement_48 qj70 ?_
      replace hf := obE hf
      obtain ⟨z71, hz71, hf⟩ := hf
      obtain ⟨r73, S72⟩ := z71
      replace hf := ltE (ltE hf r73 rfl) S72 rfl
      refine x_callV (As := [.ref (ad j68), .ref (ad j70)]) (rest := []) (o := (some (.long (r73)))) (S1 := S72) hC hl.1 hW hS hGs hA tp0 rfl (show vwCl[5]? = some (RX6, TX6, 10) ∧ ob 5 from ⟨rfl, by decide⟩) (c_X6_takeNewName l g ad n K H.size F S64 p0 j68 j70 tp0 tj68 tj70 r73 S72 hz71) (cwV 2 hts gX6_holdStatement_X6_takeNewName rfl rfl rfl (by decide +kernel) ⟨Nat.le_of_ble_eq_true rfl, Nat.le_of_ble_eq_true rfl⟩) rfl rfl (Nat.le_of_ble_eq_true rfl) dX6_holdStatement_51 ⟨Nat.le_of_ble_eq_true rfl, Nat.le_of_ble_eq_true rfl⟩ (fun H locs hPz71 hW hS => ?_)
      refine W.eq (g2 := F0 m 54 ls [.long (r73)]) rfl ?_
      refine lv_lstore_n (lv' := [(1, .long (r73)), (0, .ref (ad p0))]) hx hb dX6_holdStatement_54 rfl hl (by decide) rfl (fun ls hl => ?_)
      refine lv_lload_n hx hb dX6_holdStatement_55 rfl (lv_at hl 0 rfl) ?_
      refine lv_lconst (v := 0) hx hb dX6_holdStatement_56 (by decide) ?_
      refine W.lcmp hx hb dX6_holdStatement_57 ?_
      refine lv_if_eq (tgt := 71) hx hb dX6_holdStatement_58 (by decide) (fun c75 => ?_) (fun c75 => ?_)
      · replace hf := ifT c75 hf
        refine lv_iconst (v := 0) hx hb dX6_holdStatement_71 (by decide) ?_
        obtain ⟨e1, e2⟩ := so2 hf
        subst e1
        subst e2
        exact W.zret (v := 0) hx hb hr rfl (fun t ht hWm => ⟨⟨rfl, by unfold QB; rw [ht]; exact ⟨hW, trivial⟩⟩, hS.F ht⟩) hS.2.2 dX6_holdStatement_72 hlk
      · replace hf := ifF c75 hf
        refine lv_aload_n hx hb dX6_holdStatement_61 rfl (lv_at hl 1 rfl) ?_
        refine x_getsE 8 (nm := "USER") hC hGE hS ⟨by decide, rfl⟩ w_6 dX6_holdStatement_62 ?_
        replace hf := obE hf
        obtain ⟨z76, hz76, hf⟩ := hf
        obtain ⟨r78, S77⟩ := z76
        replace hf := ltE (ltE hf r78 rfl) S77 rfl
        refine x_callV (As := [.ref (gen g 8)]) (rest := []) (o := (some (.int r78))) (S1 := S77) hC hl.1 hW hS hGs hA tp0 rfl (show vwCl[5]? = some (RX6, TX6, 10) ∧ ob 5 from ⟨rfl, by decide⟩) (c_X6_take l g ad n K H.size F S72 p0 8 tp0 (by decide) r78 S77 hz76) (cwV 1 hts gX6_holdStatement_X6_take rfl rfl rfl (by decide +kernel) ⟨Nat.le_of_ble_eq_true rfl, Nat.le_of_ble_eq_true rfl⟩) rfl rfl (Nat.le_of_ble_eq_true rfl) dX6_holdStatement_65 ⟨Nat.le_of_ble_eq_true rfl, Nat.le_of_ble_eq_true rfl⟩ (fun H locs hPz76 hW hS => ?_)
        refine W.eq (g2 := F0 m 68 ls [.int r78]) rfl ?_
        refine lv_if_ne (tgt := 73) hx hb dX6_holdStatement_68 (by decide) (fun c80 => ?_) (fun c80 => ?_)
        · replace hf := ifT c80 hf
          refine lv_aload_n hx hb dX6_holdStatement_73 rfl (lv_at hl 1 rfl) ?_
          refine lv_aload_n hx hb dX6_holdStatement_74 rfl (lv_at hl 1 rfl) ?_
          replace hf := obE hf
          obtain ⟨j81, qj81, hf⟩ := hf
          have tj81 := x_rt hW qj81 6 ⟨by decide, rfl⟩
          refine x_getr 501 (ci := 5) (C := RX6) (T := TX6) (N := 10) 1 hC hinX6 hW tp0 rfl rfl ⟨by decide, by decide, rfl, rfl⟩ rfl w_0 dX6_holdStatement_75 qj81 ?_
          replace hf := obE hf
          obtain ⟨j82, qj82, hf⟩ := hf
          have tj82 := x_rt hW qj82 4 ⟨by decide, rfl⟩
          refine x_getrN 606 (ci := 6) (C := RX7) (T := TX7) (N := 16) 6 hC hinX7 hW tj81 rfl rfl ⟨by decide, by decide, rfl, rfl⟩ rfl w_4 dX6_holdStatement_78 qj82 ?_
          replace hf := obE hf
          obtain ⟨z83, hz83, hf⟩ := hf
          obtain ⟨r85, S84⟩ := z83
          replace hf := ltE (ltE hf r85 rfl) S84 rfl
          refine x_callV (As := [.ref (ad j82)]) (rest := []) (o := (some (.int r85))) (S1 := S84) hC hl.1 hW hS hGs hA tp0 rfl (show vwCl[5]? = some (RX6, TX6, 10) ∧ ob 5 from ⟨rfl, by decide⟩) (c_X6_takeKnown l g ad n K H.size F S77 p0 j82 tp0 tj82 r85 S84 hz83) (cwV 1 hts gX6_holdStatement_X6_takeKnown rfl rfl rfl (by decide +kernel) ⟨Nat.le_of_ble_eq_true rfl, Nat.le_of_ble_eq_true rfl⟩) rfl rfl (Nat.le_of_ble_eq_true rfl) dX6_holdStatement_81 ⟨Nat.le_of_ble_eq_true rfl, Nat.le_of_ble_eq_true rfl⟩ (fun H locs hPz83 hW hS => ?_)
          refine W.eq (g2 := F0 m 84 ls [.int r85]) rfl ?_
          refine lv_istore_n (lv' := [(3, .int r85), (1, .long (r73)), (0, .ref (ad p0))]) hx hb dX6_holdStatement_84 rfl hl (by decide) rfl (fun ls hl => ?_)
          refine lv_iload_n hx hb dX6_holdStatement_85 rfl (lv_at hl 0 rfl) ?_
          refine lv_iconst (v := -1) hx hb dX6_holdStatement_86 (by decide) ?_
          refine lv_icmp_ne (tgt := 92) hx hb dX6_holdStatement_87 (by decide) (fun c87 => ?_) (fun c87 => ?_)
          · replace hf := ifT c87 hf
            refine lv_iconst (v := 0) hx hb dX6_holdStatement_92 (by decide) ?_
            refine lv_istore (lv' := [(4, .int 0), (3, .int r85), (1, .long (r73)), (0, .ref (ad p0))]) hx hb dX6_holdStatement_93 hl (by decide) rfl (fun ls hl => ?_)
            refine lv_ldc (v := 1000000000) hx hb hown w_7 dX6_holdStatement_95 ?_
            refine lv_istore (lv' := [(5, .int 1000000000), (4, .int 0), (3, .int r85), (1, .long (r73)), (0, .ref (ad p0))]) hx hb dX6_holdStatement_97 hl (by decide) rfl (fun ls hl => ?_)
            refine lv_aload_n hx hb dX6_holdStatement_99 rfl (lv_at hl 4 rfl) ?_
            refine x_gete 508 (ci := 5) (C := RX6) (T := TX6) (N := 10) 8 hC hinX6 hW tp0 rfl rfl ⟨by decide, by decide, rfl, rfl⟩ rfl w_1 dX6_holdStatement_100 ?_
            refine x_getsE 12 (nm := "FROM") hC hGE hS ⟨by decide, rfl⟩ w_8 dX6_holdStatement_103 ?_
            replace hf := ckE hf
            obtain ⟨h89, hf⟩ := hf
            refine x_acmpE_ne (tgt := 160) hC hGE h89 (by decide) dX6_holdStatement_106 (by decide) (fun c88 => ?_) (fun c88 => ?_)
            · replace hf := ifT c88 hf
              exact L160 S84 p0 r73 r85 0 1000000000 tp0 _ _ _ hf hW hS (lv_sub hl [4, 3, 2, 1, 0] rfl)
            · replace hf := ifF (fun q => q c88) hf
              refine lv_aload_n hx hb dX6_holdStatement_109 rfl (lv_at hl 4 rfl) ?_
              replace hf := obE hf
              obtain ⟨S91, hz90, hf⟩ := hf
              refine x_callV (As := []) (rest := []) (o := none) (S1 := S91) hC hl.1 hW hS hGs hA tp0 rfl (show vwCl[5]? = some (RX6, TX6, 10) ∧ ob 5 from ⟨rfl, by decide⟩) (c_X6_nextToken l g ad n K H.size F S84 p0 tp0 S91 hz90) (cwV 0 hts gX6_holdStatement_X6_nextToken rfl rfl rfl (by decide +kernel) ⟨Nat.le_of_ble_eq_true rfl, Nat.le_of_ble_eq_true rfl⟩) rfl rfl (Nat.le_of_ble_eq_true rfl) dX6_holdStatement_110 ⟨Nat.le_of_ble_eq_true rfl, Nat.le_of_ble_eq_true rfl⟩ (fun H locs hPz90 hW hS => ?_)
              refine W.eq (g2 := F0 m 113 ls []) rfl ?_
              refine lv_aload_n hx hb dX6_holdStatement_113 rfl (lv_at hl 4 rfl) ?_
              refine lv_iconst (v := 0) hx hb dX6_holdStatement_114 (by decide) ?_
              refine lv_sipush (v := 9999) hx hb dX6_holdStatement_115 (by decide) ?_
              replace hf := obE hf
              obtain ⟨z94, hz94, hf⟩ := hf
              obtain ⟨r96, S95⟩ := z94
              replace hf := ltE (ltE hf r96 rfl) S95 rfl
              refine x_callV (As := [.int 0, .int 9999]) (rest := []) (o := (some (.int r96))) (S1 := S95) hC hl.1 hW hS hGs hA tp0 rfl (show vwCl[5]? = some (RX6, TX6, 10) ∧ ob 5 from ⟨rfl, by decide⟩) (c_X6_takeNumber l g ad n K H.size F S91 p0 ((0 : Int32)) ((9999 : Int32)) tp0 r96 S95 hz94) (cwV 2 hts gX6_holdStatement_X6_takeNumber rfl rfl rfl (by decide +kernel) ⟨Nat.le_of_ble_eq_true rfl, Nat.le_of_ble_eq_true rfl⟩) rfl rfl (Nat.le_of_ble_eq_true rfl) dX6_holdStatement_118 ⟨Nat.le_of_ble_eq_true rfl, Nat.le_of_ble_eq_true rfl⟩ (fun H locs hPz94 hW hS => ?_)
              refine W.eq (g2 := F0 m 121 ls [.int r96]) rfl ?_
              refine lv_istore (lv' := [(4, .int r96), (5, .int 1000000000), (3, .int r85), (1, .long (r73)), (0, .ref (ad p0))]) hx hb dX6_holdStatement_121 hl (by decide) rfl (fun ls hl => ?_)
              refine lv_iload hx hb dX6_holdStatement_123 (lv_at hl 0 rfl) ?_
              refine lv_iconst (v := -1) hx hb dX6_holdStatement_125 (by decide) ?_
              refine lv_icmp_eq (tgt := 139) hx hb dX6_holdStatement_126 (by decide) (fun c98 => ?_) (fun c98 => ?_)
              · replace hf := ifT c98 hf
                refine lv_iconst (v := 0) hx hb dX6_holdStatement_139 (by decide) ?_
                obtain ⟨e1, e2⟩ := so2 hf
                subst e1
                subst e2
                exact W.zret (v := 0) hx hb hr rfl (fun t ht hWm => ⟨⟨rfl, by unfold QB; rw [ht]; exact ⟨hW, trivial⟩⟩, hS.F ht⟩) hS.2.2 dX6_holdStatement_140 hlk
              · replace hf := ifF c98 hf
                refine lv_aload_n hx hb dX6_holdStatement_129 rfl (lv_at hl 4 rfl) ?_
                refine x_getsE 13 (nm := "TO") hC hGE hS ⟨by decide, rfl⟩ w_9 dX6_holdStatement_130 ?_
                replace hf := obE hf
                obtain ⟨z99, hz99, hf⟩ := hf
                obtain ⟨r101, S100⟩ := z99
                replace hf := ltE (ltE hf r101 rfl) S100 rfl
                refine x_callV (As := [.ref (gen g 13)]) (rest := []) (o := (some (.int r101))) (S1 := S100) hC hl.1 hW hS hGs hA tp0 rfl (show vwCl[5]? = some (RX6, TX6, 10) ∧ ob 5 from ⟨rfl, by decide⟩) (c_X6_take l g ad n K H.size F S95 p0 13 tp0 (by decide) r101 S100 hz99) (cwV 1 hts gX6_holdStatement_X6_take rfl rfl rfl (by decide +kernel) ⟨Nat.le_of_ble_eq_true rfl, Nat.le_of_ble_eq_true rfl⟩) rfl rfl (Nat.le_of_ble_eq_true rfl) dX6_holdStatement_133 ⟨Nat.le_of_ble_eq_true rfl, Nat.le_of_ble_eq_true rfl⟩ (fun H locs hPz99 hW hS => ?_)
                refine W.eq (g2 := F0 m 136 ls [.int r101]) rfl ?_
                refine lv_if_ne (tgt := 141) hx hb dX6_holdStatement_136 (by decide) (fun c103 => ?_) (fun c103 => ?_)
                · replace hf := ifT c103 hf
                  refine lv_aload_n hx hb dX6_holdStatement_141 rfl (lv_at hl 4 rfl) ?_
                  refine lv_iload hx hb dX6_holdStatement_142 (lv_at hl 0 rfl) ?_
                  refine lv_sipush (v := 9999) hx hb dX6_holdStatement_144 (by decide) ?_
                  replace hf := obE hf
                  obtain ⟨z104, hz104, hf⟩ := hf
                  obtain ⟨r106, S105⟩ := z104
                  replace hf := ltE (ltE hf r106 rfl) S105 rfl
                  refine x_callV (As := [.int r96, .int 9999]) (rest := []) (o := (some (.int r106))) (S1 := S105) hC hl.1 hW hS hGs hA tp0 rfl (show vwCl[5]? = some (RX6, TX6, 10) ∧ ob 5 from ⟨rfl, by decide⟩) (c_X6_takeNumber l g ad n K H.size F S100 p0 r96 ((9999 : Int32)) tp0 r106 S105 hz104) (cwV 2 hts gX6_holdStatement_X6_takeNumber rfl rfl rfl (by decide +kernel) ⟨Nat.le_of_ble_eq_true rfl, Nat.le_of_ble_eq_true rfl⟩) rfl rfl (Nat.le_of_ble_eq_true rfl) dX6_holdStatement_147 ⟨Nat.le_of_ble_eq_true rfl, Nat.le_of_ble_eq_true rfl⟩ (fun H locs hPz104 hW hS => ?_)
                  refine W.eq (g2 := F0 m 150 ls [.int r106]) rfl ?_
                  refine lv_istore (lv' := [(5, .int r106), (4, .int r96), (3, .int r85), (1, .long (r73)), (0, .ref (ad p0))]) hx hb dX6_holdStatement_150 hl (by decide) rfl (fun ls hl => ?_)
                  refine lv_iload hx hb dX6_holdStatement_152 (lv_at hl 0 rfl) ?_
                  refine lv_iconst (v := -1) hx hb dX6_holdStatement_154 (by decide) ?_
                  refine lv_icmp_ne (tgt := 160) hx hb dX6_holdStatement_155 (by decide) (fun c108 => ?_) (fun c108 => ?_)
                  · replace hf := ifT c108 hf
                    exact L160 S105 p0 r73 r85 r96 r106 tp0 _ _ _ hf hW hS (lv_sub hl [4, 3, 2, 1, 0] rfl)
                  · replace hf := ifF (fun q => q c108) hf
                    refine lv_iconst (v := 0) hx hb dX6_holdStatement_158 (by decide) ?_
                    obtain ⟨e1, e2⟩ := so2 hf
                    subst e1
                    subst e2
                    exact W.zret (v := 0) hx hb hr rfl (fun t ht hWm => ⟨⟨rfl, by unfold QB; rw [ht]; exact ⟨hW, trivial⟩⟩, hS.F ht⟩) hS.2.2 dX6_holdStatement_159 hlk
                · replace hf := ifF (fun q => q c103) hf
                  refine lv_iconst (v := 0) hx hb dX6_holdStatement_139 (by decide) ?_
                  obtain ⟨e1, e2⟩ := so2 hf
                  subst e1
                  subst e2
                  exact W.zret (v := 0) hx hb hr rfl (fun t ht hWm => ⟨⟨rfl, by unfold QB; rw [ht]; exact ⟨hW, trivial⟩⟩, hS.F ht⟩) hS.2.2 dX6_holdStatement_140 hlk
          · replace hf := ifF (fun q => q c87) hf
            refine lv_iconst (v := 0) hx hb dX6_holdStatement_90 (by decide) ?_
            obtain ⟨e1, e2⟩ := so2 hf
            subst e1
            subst e2
            exact W.zret (v := 0) hx hb hr rfl (fun t ht hWm => ⟨⟨rfl, by unfold QB; rw [ht]; exact ⟨hW, trivial⟩⟩, hS.F ht⟩) hS.2.2 dX6_holdStatement_91 hlk
        · replace hf := ifF (fun q => q c80) hf
          refine lv_iconst (v := 0) hx hb dX6_holdStatement_71 (by decide) ?_
          obtain ⟨e1, e2⟩ := so2 hf
          subst e1
          subst e2
          exact W.zret (v := 0) hx hb hr rfl (fun t ht hWm => ⟨⟨rfl, by unfold QB; rw [ht]; exact ⟨hW, trivial⟩⟩, hS.F ht⟩) hS.2.2 dX6_holdStatement_72 hlk
    · replace hf := ifF (fun q => q c62) hf
      exact L26 S56 p0 tp0 _ _ _ hf hW hS (lv_sub hl [0] rfl)
