set_option maxHeartbeats 4000000 in
set_option maxRecDepth 100000 in
theorem c_X8_receive (l : Launch) (g : GP) (ad : Nat → Nat) (n : Nat) (K : Nat → Nat) (sz F : Nat) (S0 : St) (p0 : Nat) (p1 : Nat) (p2 : Int32) (p3 : Int32) (p4 : Int32) (tp0 : p0 < n ∧ K p0 = 7) (tp1 : p1 < n ∧ K p1 = 1) (r9 : Int32) (S9 : St) (n9 : Nat) (hf : f_X8_receive F S0 n p0 p1 p2 p3 p4 = some (r9, S9, n9)) : Met l yX8_receive wsX8_receive { frames := 5, cells := 10, slots := 8177, locals := 115 } (va_Pc [.ref (ad p0), .ref (ad p1), .int p2, .int p3, .int p4] (PB g ad n K S0 sz)) (QA ad K n (fun _ => (some (.int r9))) g n9 S9 (dA ad n sz) (fun _ => True)) 10 8177 (dA ad n sz) := by
  refine Met.ofW (cc := cX8_receive) (maxL := 9) (ret := (some .int)) (by decide) rfl ?_
  intro p e s m args below meth c s₁ B hml hv
  obtain ⟨rfl, hsz, hW, hK, hGs⟩ := x_start hv
  subst hsz
  have hx := B.exec
  have hb := B.bytes
  have hr := B.returns
  have hts := atoms_spec (ws := wsX8_receive) B.pre
  have hown : s.vm.findClass RX8 = some m.cls := findClass_of_methodNamed B.named
  have hlk := B.notSynchronized
  have hC : Cx g p s m _ c cX8_receive RX8 wsX8_receive 9 := ⟨hx, hb, hml, hown, hts, hK⟩
  have hA : ∀ q : Nat, s.heap.size ≤ q → dA ad n s.heap.size q := fun q h => Or.inr h
  have hS : va_S (dA ad n s.heap.size) s.heap s.heap [] := va_S.rf
  have hl := lv_entry ([.ref (ad p0), .ref (ad p1), .int p2, .int p3, .int p4]) (n := 9) (Nat.le_of_ble_eq_true rfl)
  rw [lg_entry_eq]
  generalize (lg_sl ([.ref (ad p0), .ref (ad p1), .int p2, .int p3, .int p4]) ++ List.replicate (9 - (lg_sl ([.ref (ad p0), .ref (ad p1), .int p2, .int p3, .int p4])).length) Slot.unset).toArray = ls at hl ⊢
  have hl : lv_has ls 9 [(0, .ref (ad p0)), (1, .ref (ad p1)), (2, .int p2), (3, .int p3), (4, .int p4)] := hl
  have hin1 : ∀ w ∈ wsX10, w ∈ wsX8_receive := by decide +kernel
  have hin4 : ∀ w ∈ wsX40, w ∈ wsX8_receive := by decide +kernel
  have hin8 : ∀ w ∈ wsX80, w ∈ wsX8_receive := by decide +kernel
  have w_0 := hts (.fieldLink RX8 88 "MailSpool$Spool" "messageCount" "I") (by decide +kernel)
  have w_1 := va_Nw.use (A := (List.toArray [.ref (ad p0), .ref (ad p1), .int p2, .int p3, .int p4])) rfl (hGs.1 (.fieldLinkNest RX8 127 "MailSpool$Message" "holds" "I" "MailSpool") (by decide +kernel))
  have w_2 := hts (.fieldLink RX8 69 "MailSpool$Spool" "bouncedUsers" "I") (by decide +kernel)
  have w_3 := hts (.fieldLink RX8 44 "MailSpool$Spool" "journal" "LMailSpool$Journal;") (by decide +kernel)
  have w_4 := hts (.fieldLink RX8 66 "MailSpool$Spool" "day" "I") (by decide +kernel)
  have w_5 := hts (.fieldLink RX8 21 "MailSpool$Spool" "messages" "[LMailSpool$Message;") (by decide +kernel)
  have w_6 := va_Nw.use (A := (List.toArray [.ref (ad p0), .ref (ad p1), .int p2, .int p3, .int p4])) rfl (hGs.1 (.fieldLinkNest RX8 203 "MailSpool$Content" "places" "I" "MailSpool") (by decide +kernel))
  have w_7 := hts (.fieldLink RX8 37 "MailSpool$Spool" "store" "LMailSpool$Store;") (by decide +kernel)
  have w_8 := va_Nw.use (A := (List.toArray [.ref (ad p0), .ref (ad p1), .int p2, .int p3, .int p4])) rfl (hGs.1 (.fieldLinkNest RX8 156 "MailSpool$Message" "parts" "[I" "MailSpool") (by decide +kernel))
  have w_9 := va_Nw.use (A := (List.toArray [.ref (ad p0), .ref (ad p1), .int p2, .int p3, .int p4])) rfl (hGs.1 (.methodLinkNest RX8 181 yX10_put "MailSpool") (by decide +kernel))
  have w_10 := hts (.initialized RX10) (by decide +kernel)
  have w_11 := hts (.static yX10_put) (by decide +kernel)
  have w_12 := hts (.classLink RX8 19 RX4) (by decide +kernel)
  have w_13 := hts (.instantiable RX4 5) (by decide +kernel)
  have w_14 := hts (.initialized RX4) (by decide +kernel)
  have w_15 := hts (.methodLink RX8 59 yX4_init) (by decide +kernel)
  have w_16 := hts (.instanceMethod yX4_init) (by decide +kernel)
  have hGE := hGs.2.2.2.2.2.2.1
  have hGM := hGs.2.2.2.2.2.2.2.1
  have L600156 : ∀ (adL KL : Nat → Nat) (nL : Nat) (hagL : Ag ad K n adL KL nL) (S0 : St) (v0 : Nat) (v3 : Int32) (v4 : Int32) (v5 : Int32) (v6 : Nat) (tv0 : v0 < nL ∧ KL v0 = 7) (tv6 : v6 < nL ∧ KL v6 = 3) (H : Heap) (locs : List Loc) (ls : Array Slot), f_X8_receive_L600156 F S0 nL v0 v3 v4 v5 v6 = some (r9, S9, n9) → Wb g adL nL KL S0 (dA ad n s.heap.size) H → va_S (dA ad n s.heap.size) s.heap H locs → lv_has ls 9 [(0, .ref (adL v0)), (3, .int v3), (4, .int v4), (5, .int v5), (6, .ref (adL v6))] → W p l e (headSpec wsX8_receive { frames := 5, cells := 10, slots := 8177, locals := 115 }).room s m (List.toArray [.ref (ad p0), .ref (ad p1), .int p2, .int p3, .int p4]) below meth c H locs 10 8177 (MQ below (QA ad K n (fun _ => (some (.int r9))) g n9 S9 (dA ad n s.heap.size) (fun _ => True)) (List.toArray [.ref (ad p0), .ref (ad p1), .int p2, .int p3, .int p4]) s 10 8177 (dA ad n s.heap.size)) (F0 m 156 ls []) := by
    intro adL KL nL hagL S0 v0 v3 v4 v5 v6 tv0 tv6 H locs ls hf hW hS hl
    unfold f_X8_receive_L600156 at hf
    refine lv_aload_n hx hb dX8_receive_156 rfl (lv_at hl 0 rfl) ?_
    refine lv_dup hx hb dX8_receive_157 rfl ?_
    refine x_geti 705 (ci := 7) (C := RX8) (T := TX8) (N := 16) 5 hC hin8 hW tv0 rfl rfl ⟨by decide, by decide, rfl, rfl⟩ rfl w_0 dX8_receive_158 ?_
    refine lv_iconst (v := 1) hx hb dX8_receive_161 (by decide) ?_
    refine lv_iadd hx hb dX8_receive_162 ?_
    refine x_puti 705 (ci := 7) (C := RX8) (T := TX8) (N := 16) (v := (si S0 705 v0) + 1) (ty := .int) 5 hC hin8 tyX8_ok nmX8 hW hS tv0 rfl rfl ⟨by decide, by decide, rfl, rfl⟩ rfl w_0 rfl (by decide +kernel) rfl rfl dX8_receive_163 (fun S16 H locs eS16 hW hS => ?_)
    replace hf := ltE hf S16 eS16
    refine lv_aload hx hb dX8_receive_166 (lv_at hl 4 rfl) ?_
    refine lv_aload_n hx hb dX8_receive_168 rfl (lv_at hl 0 rfl) ?_
    refine lv_iload hx hb dX8_receive_169 (lv_at hl 3 rfl) ?_
    replace hf := obE hf
    obtain ⟨z17, hz17, hf⟩ := hf
    obtain ⟨r19, S18⟩ := z17
    replace hf := ltE (ltE hf r19 rfl) S18 rfl
    refine x_callV (As := [.int v5]) (rest := [.ref (adL v6)]) (o := (some (.int r19))) (S1 := S18) hC hl.1 hW hS hGs hA tv0 rfl (show vwCl[7]? = some (RX8, TX8, 16) ∧ 7 < 11 from ⟨rfl, by decide⟩) (c_X8_holdsAskingFor l g adL nL KL H.size F S16 v0 v5 tv0 r19 S18 hz17) (cwV 1 hts gX8_receive_X8_holdsAskingFor rfl rfl rfl (by decide +kernel) ⟨Nat.le_of_ble_eq_true rfl, Nat.le_of_ble_eq_true rfl⟩) rfl rfl (Nat.le_of_ble_eq_true rfl) dX8_receive_171 ⟨Nat.le_of_ble_eq_true rfl, Nat.le_of_ble_eq_true rfl⟩ (fun H locs hPz17 hW hS => ?_)
    refine W.eq (g2 := F0 m 174 ls [.int r19, .ref (adL v6)]) rfl ?_
    refine x_putiN 304 (ci := 3) (C := RX4) (T := TX4) (N := 5) (v := r19) (ty := .int) 4 hC hin4 tyX4_ok nmX4 hW hS tv6 rfl rfl ⟨by decide, by decide, rfl, rfl⟩ rfl w_1 rfl (by decide +kernel) rfl rfl dX8_receive_174 (fun S21 H locs eS21 hW hS => ?_)
    replace hf := ltE hf S21 eS21
    refine lv_aload_n hx hb dX8_receive_177 rfl (lv_at hl 0 rfl) ?_
    refine lv_iload hx hb dX8_receive_178 (lv_at hl 3 rfl) ?_
    refine lv_iload_n hx hb dX8_receive_180 rfl (lv_at hl 1 rfl) ?_
    refine lv_aload_n hx hb dX8_receive_181 rfl (lv_at hl 0 rfl) ?_
    refine x_geti 702 (ci := 7) (C := RX8) (T := TX8) (N := 16) 2 hC hin8 hW tv0 rfl rfl ⟨by decide, by decide, rfl, rfl⟩ rfl w_2 dX8_receive_182 ?_
    refine lv_iconst (v := -1) hx hb dX8_receive_185 (by decide) ?_
    refine lv_ixor hx hb dX8_receive_186 ?_
    refine lv_iand hx hb dX8_receive_187 ?_
    refine lv_iload hx hb dX8_receive_188 (lv_at hl 2 rfl) ?_
    replace hf := obE hf
    obtain ⟨S23, hz22, hf⟩ := hf
    refine x_callV (As := [.int v5, .int (v3 &&& ((si S21 702 v0) ^^^ ((-1)))), .int v4]) (rest := []) (o := none) (S1 := S23) hC hl.1 hW hS hGs hA tv0 rfl (show vwCl[7]? = some (RX8, TX8, 16) ∧ 7 < 11 from ⟨rfl, by decide⟩) (c_X8_addReferences l g adL nL KL H.size F S21 v0 v5 (v3 &&& ((si S21 702 v0) ^^^ ((-1)))) v4 tv0 S23 hz22) (cwV 3 hts gX8_receive_X8_addReferences rfl rfl rfl (by decide +kernel) ⟨Nat.le_of_ble_eq_true rfl, Nat.le_of_ble_eq_true rfl⟩) rfl rfl (Nat.le_of_ble_eq_true rfl) dX8_receive_190 ⟨Nat.le_of_ble_eq_true rfl, Nat.le_of_ble_eq_true rfl⟩ (fun H locs hPz22 hW hS => ?_)
    refine W.eq (g2 := F0 m 193 ls []) rfl ?_
    refine lv_aload_n hx hb dX8_receive_193 rfl (lv_at hl 0 rfl) ?_
    replace hf := obE hf
    obtain ⟨j26, qj26, hf⟩ := hf
    have tj26 := x_rt hW qj26 2 ⟨by decide, rfl⟩
    refine x_getr 711 (ci := 7) (C := RX8) (T := TX8) (N := 16) 11 hC hin8 hW tv0 rfl rfl ⟨by decide, by decide, rfl, rfl⟩ rfl w_3 dX8_receive_194 qj26 ?_
    refine lv_aload_n hx hb dX8_receive_197 rfl (lv_at hl 0 rfl) ?_
    refine x_geti 701 (ci := 7) (C := RX8) (T := TX8) (N := 16) 1 hC hin8 hW tv0 rfl rfl ⟨by decide, by decide, rfl, rfl⟩ rfl w_4 dX8_receive_198 ?_
    refine lv_iconst (v := 1) hx hb dX8_receive_201 (by decide) ?_
    refine lv_iload hx hb dX8_receive_202 (lv_at hl 3 rfl) ?_
    replace hf := obE hf
    obtain ⟨S28, hz27, hf⟩ := hf
    refine x_callV (As := [.int (si S23 701 v0), .int 1, .int v5]) (rest := []) (o := none) (S1 := S28) hC hl.1 hW hS hGs hA tj26 rfl (show vwCl[2]? = some (RX2, TX2, 5) ∧ 2 < 11 from ⟨rfl, by decide⟩) (c_X2_note l g adL nL KL H.size F S23 j26 (si S23 701 v0) ((1 : Int32)) v5 tj26 S28 hz27) (cwV 3 hts gX8_receive_X2_note rfl rfl rfl (by decide +kernel) ⟨Nat.le_of_ble_eq_true rfl, Nat.le_of_ble_eq_true rfl⟩) rfl rfl (Nat.le_of_ble_eq_true rfl) dX8_receive_204 ⟨Nat.le_of_ble_eq_true rfl, Nat.le_of_ble_eq_true rfl⟩ (fun H locs hPz27 hW hS => ?_)
    refine W.eq (g2 := F0 m 207 ls []) rfl ?_
    refine lv_iload hx hb dX8_receive_207 (lv_at hl 3 rfl) ?_
    obtain ⟨e1, e2, e3⟩ := so3 hf
    subst e1
    subst e2
    subst e3
    exact W.iret (v := v5) hx hb hr (fun t ht hWm => ⟨⟨adL, KL, rfl, hagL, trivial, by rw [ht]; exact hW⟩, hS.F ht⟩) hS.2.2 dX8_receive_209 hlk
  have L600132 : ∀ (adL KL : Nat → Nat) (nL : Nat) (hagL : Ag ad K n adL KL nL) (S0 : St) (v0 : Nat) (v3 : Int32) (v4 : Int32) (v5 : Int32) (v6 : Nat) (tv0 : v0 < nL ∧ KL v0 = 7) (tv6 : v6 < nL ∧ KL v6 = 3) (H : Heap) (locs : List Loc) (ls : Array Slot), f_X8_receive_L600132 F S0 nL v0 v3 v4 v5 v6 = some (r9, S9, n9) → Wb g adL nL KL S0 (dA ad n s.heap.size) H → va_S (dA ad n s.heap.size) s.heap H locs → lv_has ls 9 [(0, .ref (adL v0)), (3, .int v3), (4, .int v4), (5, .int v5), (6, .ref (adL v6))] → W p l e (headSpec wsX8_receive { frames := 5, cells := 10, slots := 8177, locals := 115 }).room s m (List.toArray [.ref (ad p0), .ref (ad p1), .int p2, .int p3, .int p4]) below meth c H locs 10 8177 (MQ below (QA ad K n (fun _ => (some (.int r9))) g n9 S9 (dA ad n s.heap.size) (fun _ => True)) (List.toArray [.ref (ad p0), .ref (ad p1), .int p2, .int p3, .int p4]) s 10 8177 (dA ad n s.heap.size)) (F0 m 132 ls []) := by
    intro adL KL nL hagL S0 v0 v3 v4 v5 v6 tv0 tv6 H locs ls hf hW hS hl
    unfold f_X8_receive_L600132 at hf
    refine lv_iload hx hb dX8_receive_132 (lv_at hl 3 rfl) ?_
    refine lv_if_lt (tgt := 156) hx hb dX8_receive_134 (by decide) (fun c37 => ?_) (fun c37 => ?_)
    · replace hf := ifT c37 hf
      exact L600156 adL KL nL hagL S0 v0 v3 v4 v5 v6 tv0 tv6 _ _ _ hf hW hS (lv_sub hl [0, 1, 2, 3, 4] rfl)
    · replace hf := ifF c37 hf
      refine lv_iload hx hb dX8_receive_137 (lv_at hl 3 rfl) ?_
      refine lv_aload_n hx hb dX8_receive_139 rfl (lv_at hl 0 rfl) ?_
      replace hf := obE hf
      obtain ⟨j38, qj38, hf⟩ := hf
      have tj38 := x_rt hW qj38 15 ⟨by decide, rfl⟩
      refine x_getr 706 (ci := 7) (C := RX8) (T := TX8) (N := 16) 6 hC hin8 hW tv0 rfl rfl ⟨by decide, by decide, rfl, rfl⟩ rfl w_5 dX8_receive_140 qj38 ?_
      refine x_alen hC hW tj38 rfl ⟨by decide, by decide⟩ dX8_receive_143 ?_
      refine lv_icmp_ge (tgt := 156) hx hb dX8_receive_144 (by decide) (fun c39 => ?_) (fun c39 => ?_)
      · replace hf := ifT c39 hf
        exact L600156 adL KL nL hagL S0 v0 v3 v4 v5 v6 tv0 tv6 _ _ _ hf hW hS (lv_sub hl [0, 1, 2, 3, 4] rfl)
      · replace hf := ifF c39 hf
        refine lv_aload_n hx hb dX8_receive_147 rfl (lv_at hl 0 rfl) ?_
        replace hf := obE hf
        obtain ⟨j40, qj40, hf⟩ := hf
        have tj40 := x_rt hW qj40 15 ⟨by decide, rfl⟩
        refine x_getr 706 (ci := 7) (C := RX8) (T := TX8) (N := 16) 6 hC hin8 hW tv0 rfl rfl ⟨by decide, by decide, rfl, rfl⟩ rfl w_5 dX8_receive_148 qj40 ?_
        refine lv_iload hx hb dX8_receive_151 (lv_at hl 3 rfl) ?_
        refine lv_aload hx hb dX8_receive_153 (lv_at hl 4 rfl) ?_
        replace hf := ckiE hf
        obtain ⟨h41, hf⟩ := hf
        refine x_aast (C := RX4) (T := TX4) (N := 5) (t0 := 4) hC hW hS tj40 rfl tv6 rfl ⟨by decide, rfl, rfl, rfl, by decide⟩ h41 dX8_receive_155 (fun S42 H locs eS42 hW hS => ?_)
        replace hf := ltE hf S42 eS42
        exact L600156 adL KL nL hagL S42 v0 v3 v4 v5 v6 tv0 tv6 _ _ _ hf hW hS (lv_sub hl [0, 1, 2, 3, 4] rfl)
  have L300126 : ∀ (adL KL : Nat → Nat) (nL : Nat) (hagL : Ag ad K n adL KL nL) (S0 : St) (v0 : Nat) (v1 : Nat) (v3 : Int32) (v4 : Int32) (v5 : Int32) (v6 : Nat) (v7 : Int32) (tv0 : v0 < nL ∧ KL v0 = 7) (tv1 : v1 < nL ∧ KL v1 = 1) (tv6 : v6 < nL ∧ KL v6 = 3) (H : Heap) (locs : List Loc) (ls : Array Slot), f_X8_receive_L300126 F S0 nL v0 v1 v3 v4 v5 v6 v7 = some (r9, S9, n9) → Wb g adL nL KL S0 (dA ad n s.heap.size) H → va_S (dA ad n s.heap.size) s.heap H locs → lv_has ls 9 [(0, .ref (adL v0)), (1, .ref (adL v1)), (3, .int v3), (4, .int v4), (5, .int v5), (6, .ref (adL v6)), (7, .int v7)] → W p l e (headSpec wsX8_receive { frames := 5, cells := 10, slots := 8177, locals := 115 }).room s m (List.toArray [.ref (ad p0), .ref (ad p1), .int p2, .int p3, .int p4]) below meth c H locs 10 8177 (MQ below (QA ad K n (fun _ => (some (.int r9))) g n9 S9 (dA ad n s.heap.size) (fun _ => True)) (List.toArray [.ref (ad p0), .ref (ad p1), .int p2, .int p3, .int p4]) s 10 8177 (dA ad n s.heap.size)) (F0 m 126 ls []) := by
    intro adL KL nL hagL S0 v0 v1 v3 v4 v5 v6 v7 tv0 tv1 tv6 H locs ls hf hW hS hl
    unfold f_X8_receive_L300126 at hf
    obtain ⟨x45, ex45⟩ : ∃ z : Int32, z = v7 + 1 := ⟨_, rfl⟩
    replace hf := ltE hf x45 ex45
    refine lv_iinc (v := x45) (lv' := [(7, .int x45), (0, .ref (adL v0)), (1, .ref (adL v1)), (3, .int v3), (4, .int v4), (5, .int v5), (6, .ref (adL v6))]) hx hb dX8_receive_126 hl (k := 6) rfl (by rw [ex45]; rfl) (by decide) rfl (fun ls hl => ?_)
    refine lv_goto (tgt := 55) hx hb dX8_receive_129 (by decide) ?_
    refine lv_iload hx hb dX8_receive_55 (lv_at hl 0 rfl) ?_
    refine lv_aload_n hx hb dX8_receive_57 rfl (lv_at hl 2 rfl) ?_
    refine x_getiN 103 (ci := 1) (C := RX1) (T := TX1) (N := 4) 3 hC hin1 hW tv1 rfl rfl ⟨by decide, by decide, rfl, rfl⟩ rfl w_6 dX8_receive_58 ?_
    refine lv_icmp_ge (tgt := 132) hx hb dX8_receive_61 (by decide) (fun c46 => ?_) (fun c46 => ?_)
    · replace hf := ifT c46 hf
      exact L600132 adL KL nL hagL S0 v0 v3 v4 v5 v6 tv0 tv6 _ _ _ hf hW hS (lv_sub hl [1, 3, 4, 5, 6] rfl)
    · replace hf := ifF c46 hf
      cases hf
  have L200126 : ∀ (adL KL : Nat → Nat) (nL : Nat) (hagL : Ag ad K n adL KL nL) (S0 : St) (v0 : Nat) (v1 : Nat) (v3 : Int32) (v4 : Int32) (v5 : Int32) (v6 : Nat) (v7 : Int32) (tv0 : v0 < nL ∧ KL v0 = 7) (tv1 : v1 < nL ∧ KL v1 = 1) (tv6 : v6 < nL ∧ KL v6 = 3) (H : Heap) (locs : List Loc) (ls : Array Slot), f_X8_receive_L200126 F S0 nL v0 v1 v3 v4 v5 v6 v7 = some (r9, S9, n9) → Wb g adL nL KL S0 (dA ad n s.heap.size) H → va_S (dA ad n s.heap.size) s.heap H locs → lv_has ls 9 [(0, .ref (adL v0)), (1, .ref (adL v1)), (3, .int v3), (4, .int v4), (5, .int v5), (6, .ref (adL v6)), (7, .int v7)] → W p l e (headSpec wsX8_receive { frames := 5, cells := 10, slots := 8177, locals := 115 }).room s m (List.toArray [.ref (ad p0), .ref (ad p1), .int p2, .int p3, .int p4]) below meth c H locs 8 6135 (MQ below (QA ad K n (fun _ => (some (.int r9))) g n9 S9 (dA ad n s.heap.size) (fun _ => True)) (List.toArray [.ref (ad p0), .ref (ad p1), .int p2, .int p3, .int p4]) s 10 8177 (dA ad n s.heap.size)) (F0 m 126 ls []) := by
    intro adL KL nL hagL S0 v0 v1 v3 v4 v5 v6 v7 tv0 tv1 tv6 H locs ls hf hW hS hl
    unfold f_X8_receive_L200126 at hf
    obtain ⟨x78, ex78⟩ : ∃ z : Int32, z = v7 + 1 := ⟨_, rfl⟩
    replace hf := ltE hf x78 ex78
    refine lv_iinc (v := x78) (lv' := [(7, .int x78), (0, .ref (adL v0)), (1, .ref (adL v1)), (3, .int v3), (4, .int v4), (5, .int v5), (6, .ref (adL v6))]) hx hb dX8_receive_126 hl (k := 6) rfl (by rw [ex78]; rfl) (by decide) rfl (fun ls hl => ?_)
    refine lv_goto (tgt := 55) hx hb dX8_receive_129 (by decide) ?_
    refine lv_iload hx hb dX8_receive_55 (lv_at hl 0 rfl) ?_
    refine lv_aload_n hx hb dX8_receive_57 rfl (lv_at hl 2 rfl) ?_
    refine x_getiN 103 (ci := 1) (C := RX1) (T := TX1) (N := 4) 3 hC hin1 hW tv1 rfl rfl ⟨by decide, by decide, rfl, rfl⟩ rfl w_6 dX8_receive_58 ?_
    refine lv_icmp_ge (tgt := 132) hx hb dX8_receive_61 (by decide) (fun c79 => ?_) (fun c79 => ?_)
    · replace hf := ifT c79 hf
      refine W.widen (k := 10) (n := 8177) (Nat.le_of_ble_eq_true rfl) (Nat.le_of_ble_eq_true rfl) ?_
      exact L600132 adL KL nL hagL S0 v0 v3 v4 v5 v6 tv0 tv6 _ _ _ hf hW hS (lv_sub hl [1, 3, 4, 5, 6] rfl)
    · replace hf := ifF c79 hf
      refine lv_aload_n hx hb dX8_receive_64 rfl (lv_at hl 1 rfl) ?_
      replace hf := obE hf
      obtain ⟨j80, qj80, hf⟩ := hf
      have tj80 := x_rt hW qj80 8 ⟨by decide, rfl⟩
      refine x_getr 710 (ci := 7) (C := RX8) (T := TX8) (N := 16) 10 hC hin8 hW tv0 rfl rfl ⟨by decide, by decide, rfl, rfl⟩ rfl w_7 dX8_receive_65 qj80 ?_
      refine lv_aload_n hx hb dX8_receive_68 rfl (lv_at hl 2 rfl) ?_
      refine lv_iload hx hb dX8_receive_69 (lv_at hl 0 rfl) ?_
      refine lv_iload hx hb dX8_receive_71 (lv_at hl 5 rfl) ?_
      replace hf := obE hf
      obtain ⟨z81, hz81, hf⟩ := hf
      obtain ⟨r83, S82, n84⟩ := z81
      replace hf := ltE (ltE (ltE hf r83 rfl) S82 rfl) n84 rfl
      refine x_acallV (As := [.ref (adL v1), .int x78, .int v5]) (rest := []) (S1 := S82) (n1 := n84) (o := (fun _ => some (.int r83))) (P := (fun _ => True)) hC hl.1 hW hS hGs hA tj80 rfl (show vwCl[8]? = some (RX9, TX9, 8) ∧ 8 < 11 from ⟨rfl, by decide⟩) (c_X9_numberFor l g adL nL KL H.size F S0 j80 v1 x78 v5 tj80 tv1 r83 S82 n84 hz81) (cwV 3 hts gX8_receive_X9_numberFor rfl rfl rfl (by decide +kernel) ⟨Nat.le_of_ble_eq_true rfl, Nat.le_of_ble_eq_true rfl⟩) rfl rfl (Nat.le_of_ble_eq_true rfl) dX8_receive_73 ⟨Nat.le_of_ble_eq_true rfl, Nat.le_of_ble_eq_true rfl⟩ (fun ad85 K86 H locs hag87 hPz81 hW hS => ?_)
      refine W.widen (k := 10) (n := 8177) (Nat.le_of_ble_eq_true rfl) (Nat.le_of_ble_eq_true rfl) ?_
      refine W.eq (g2 := F0 m 76 ls [.int r83]) rfl ?_
      refine lv_istore (lv' := [(8, .int r83), (7, .int x78), (0, .ref (adL v0)), (1, .ref (adL v1)), (3, .int v3), (4, .int v4), (5, .int v5), (6, .ref (adL v6))]) hx hb dX8_receive_76 hl (by decide) rfl (fun ls hl => ?_)
      refine lv_aload hx hb dX8_receive_78 (lv_at hl 7 rfl) ?_
      replace hf := obE hf
      obtain ⟨j88, qj88, hf⟩ := hf
      have tj88 := x_rt hW qj88 12 ⟨by decide, rfl⟩
      refine x_getrN 303 (ci := 3) (C := RX4) (T := TX4) (N := 5) 3 hC hin4 hW (hag87.t tv6) (hag87.e tv6 rfl) rfl ⟨by decide, by decide, rfl, rfl⟩ rfl w_8 dX8_receive_80 qj88 ?_
      refine lv_iload hx hb dX8_receive_83 (lv_at hl 1 rfl) ?_
      refine lv_iload hx hb dX8_receive_85 (lv_at hl 0 rfl) ?_
      replace hf := obE hf
      obtain ⟨S90, hz89, hf⟩ := hf
      refine x_callSN (As := [.ref (ad85 j88), .int x78, .int r83]) (rest := []) (o := none) (S1 := S90) hC hl.1 hW hS hGs hA (c_X10_put l g ad85 n84 K86 H.size F S82 j88 x78 r83 tj88 S90 hz89) ⟨va_cnB 3 hts gX8_receive_X10_put_n181 rfl rfl rfl (va_Nw.of rfl w_9) w_10 (by decide +kernel) ⟨Nat.le_of_ble_eq_true rfl, Nat.le_of_ble_eq_true rfl⟩, w_11, trivial⟩ rfl rfl (Nat.le_of_ble_eq_true rfl) dX8_receive_87 ⟨Nat.le_of_ble_eq_true rfl, Nat.le_of_ble_eq_true rfl⟩ (fun H locs hPz89 hW hS => ?_)
      refine W.eq (g2 := F0 m 90 ls []) rfl ?_
      refine lv_aload_n hx hb dX8_receive_90 rfl (lv_at hl 3 rfl) ?_
      refine lv_iload hx hb dX8_receive_91 (lv_at hl 1 rfl) ?_
      replace hf := obE hf
      obtain ⟨z93, hz93, hf⟩ := hf
      obtain ⟨r95, S94⟩ := z93
      replace hf := ltE (ltE hf r95 rfl) S94 rfl
      refine x_callV (As := [.int x78]) (rest := []) (o := (some (.int r95))) (S1 := S94) hC hl.1 hW hS hGs hA (hag87.t tv1) rfl (show vwCl[1]? = some (RX1, TX1, 4) ∧ 1 < 11 from ⟨rfl, by decide⟩) (c_X1_isFirstOfItsKind l g ad85 n84 K86 H.size F S90 v1 x78 (hag87.t tv1) r95 S94 hz93) (cwV 1 hts gX8_receive_X1_isFirstOfItsKind rfl rfl rfl (by decide +kernel) ⟨Nat.le_of_ble_eq_true rfl, Nat.le_of_ble_eq_true rfl⟩) rfl (by rw [(hag87.e tv1 rfl)] <;> rfl) (Nat.le_of_ble_eq_true rfl) dX8_receive_93 ⟨Nat.le_of_ble_eq_true rfl, Nat.le_of_ble_eq_true rfl⟩ (fun H locs hPz93 hW hS => ?_)
      refine W.eq (g2 := F0 m 96 ls [.int r95]) rfl ?_
      refine lv_if_eq (tgt := 126) hx hb dX8_receive_96 (by decide) (fun c97 => ?_) (fun c97 => ?_)
      · replace hf := ifT c97 hf
        exact L300126 ad85 K86 n84 (hagL.tr hag87) S94 v0 v1 v3 v4 v5 v6 x78 (hag87.t tv0) (hag87.t tv1) (hag87.t tv6) _ _ _ hf hW hS (lv_sub hl [2, 3, 4, 5, 6, 7, 1] (by rw [(hag87.e tv0 rfl), (hag87.e tv1 rfl), (hag87.e tv6 rfl)] <;> rfl))
      · replace hf := ifF c97 hf
        refine lv_aload_n hx hb dX8_receive_99 rfl (lv_at hl 2 rfl) ?_
        replace hf := obE hf
        obtain ⟨j98, qj98, hf⟩ := hf
        have tj98 := x_rt hW qj98 8 ⟨by decide, rfl⟩
        refine x_getr 710 (ci := 7) (C := RX8) (T := TX8) (N := 16) 10 hC hin8 hW (hag87.t tv0) (hag87.e tv0 rfl) rfl ⟨by decide, by decide, rfl, rfl⟩ rfl w_7 dX8_receive_100 qj98 ?_
        refine lv_iload hx hb dX8_receive_103 (lv_at hl 0 rfl) ?_
        replace hf := obE hf
        obtain ⟨z99, hz99, hf⟩ := hf
        obtain ⟨r101, S100⟩ := z99
        replace hf := ltE (ltE hf r101 rfl) S100 rfl
        refine x_callV (As := [.int r83]) (rest := []) (o := (some (.int r101))) (S1 := S100) hC hl.1 hW hS hGs hA tj98 rfl (show vwCl[8]? = some (RX9, TX9, 8) ∧ 8 < 11 from ⟨rfl, by decide⟩) (c_X9_addKeeper l g ad85 n84 K86 H.size F S94 j98 r83 tj98 r101 S100 hz99) (cwV 1 hts gX8_receive_X9_addKeeper rfl rfl rfl (by decide +kernel) ⟨Nat.le_of_ble_eq_true rfl, Nat.le_of_ble_eq_true rfl⟩) rfl rfl (Nat.le_of_ble_eq_true rfl) dX8_receive_105 ⟨Nat.le_of_ble_eq_true rfl, Nat.le_of_ble_eq_true rfl⟩ (fun H locs hPz99 hW hS => ?_)
        refine W.eq (g2 := F0 m 108 ls [.int r101]) rfl ?_
        refine lv_if_eq (tgt := 126) hx hb dX8_receive_108 (by decide) (fun c103 => ?_) (fun c103 => ?_)
        · replace hf := ifT c103 hf
          exact L300126 ad85 K86 n84 (hagL.tr hag87) S100 v0 v1 v3 v4 v5 v6 x78 (hag87.t tv0) (hag87.t tv1) (hag87.t tv6) _ _ _ hf hW hS (lv_sub hl [2, 3, 4, 5, 6, 7, 1] (by rw [(hag87.e tv0 rfl), (hag87.e tv1 rfl), (hag87.e tv6 rfl)] <;> rfl))
        · replace hf := ifF c103 hf
          refine lv_aload_n hx hb dX8_receive_111 rfl (lv_at hl 2 rfl) ?_
          replace hf := obE hf
          obtain ⟨j104, qj104, hf⟩ := hf
          have tj104 := x_rt hW qj104 2 ⟨by decide, rfl⟩
          refine x_getr 711 (ci := 7) (C := RX8) (T := TX8) (N := 16) 11 hC hin8 hW (hag87.t tv0) (hag87.e tv0 rfl) rfl ⟨by decide, by decide, rfl, rfl⟩ rfl w_3 dX8_receive_112 qj104 ?_
          refine lv_aload_n hx hb dX8_receive_115 rfl (lv_at hl 2 rfl) ?_
          refine x_geti 701 (ci := 7) (C := RX8) (T := TX8) (N := 16) 1 hC hin8 hW (hag87.t tv0) (hag87.e tv0 rfl) rfl ⟨by decide, by decide, rfl, rfl⟩ rfl w_4 dX8_receive_116 ?_
          refine lv_bipush (v := 7) hx hb dX8_receive_119 (by decide) ?_
          refine lv_iload hx hb dX8_receive_121 (lv_at hl 0 rfl) ?_
          replace hf := obE hf
          obtain ⟨S106, hz105, hf⟩ := hf
          refine x_callV (As := [.int (si S100 701 v0), .int 7, .int r83]) (rest := []) (o := none) (S1 := S106) hC hl.1 hW hS hGs hA tj104 rfl (show vwCl[2]? = some (RX2, TX2, 5) ∧ 2 < 11 from ⟨rfl, by decide⟩) (c_X2_note l g ad85 n84 K86 H.size F S100 j104 (si S100 701 v0) ((7 : Int32)) r83 tj104 S106 hz105) (cwV 3 hts gX8_receive_X2_note rfl rfl rfl (by decide +kernel) ⟨Nat.le_of_ble_eq_true rfl, Nat.le_of_ble_eq_true rfl⟩) rfl rfl (Nat.le_of_ble_eq_true rfl) dX8_receive_123 ⟨Nat.le_of_ble_eq_true rfl, Nat.le_of_ble_eq_true rfl⟩ (fun H locs hPz105 hW hS => ?_)
          refine W.eq (g2 := F0 m 126 ls []) rfl ?_
          exact L300126 ad85 K86 n84 (hagL.tr hag87) S106 v0 v1 v3 v4 v5 v6 x78 (hag87.t tv0) (hag87.t tv1) (hag87.t tv6) _ _ _ hf hW hS (lv_sub hl [2, 3, 4, 5, 6, 7, 1] (by rw [(hag87.e tv0 rfl), (hag87.e tv1 rfl), (hag87.e tv6 rfl)] <;> rfl))
  have L100126 : ∀ (adL KL : Nat → Nat) (nL : Nat) (hagL : Ag ad K n adL KL nL) (S0 : St) (v0 : Nat) (v1 : Nat) (v3 : Int32) (v4 : Int32) (v5 : Int32) (v6 : Nat) (v7 : Int32) (tv0 : v0 < nL ∧ KL v0 = 7) (tv1 : v1 < nL ∧ KL v1 = 1) (tv6 : v6 < nL ∧ KL v6 = 3) (H : Heap) (locs : List Loc) (ls : Array Slot), f_X8_receive_L100126 F S0 nL v0 v1 v3 v4 v5 v6 v7 = some (r9, S9, n9) → Wb g adL nL KL S0 (dA ad n s.heap.size) H → va_S (dA ad n s.heap.size) s.heap H locs → lv_has ls 9 [(0, .ref (adL v0)), (1, .ref (adL v1)), (3, .int v3), (4, .int v4), (5, .int v5), (6, .ref (adL v6)), (7, .int v7)] → W p l e (headSpec wsX8_receive { frames := 5, cells := 10, slots := 8177, locals := 115 }).room s m (List.toArray [.ref (ad p0), .ref (ad p1), .int p2, .int p3, .int p4]) below meth c H locs 6 4093 (MQ below (QA ad K n (fun _ => (some (.int r9))) g n9 S9 (dA ad n s.heap.size) (fun _ => True)) (List.toArray [.ref (ad p0), .ref (ad p1), .int p2, .int p3, .int p4]) s 10 8177 (dA ad n s.heap.size)) (F0 m 126 ls []) := by
    intro adL KL nL hagL S0 v0 v1 v3 v4 v5 v6 v7 tv0 tv1 tv6 H locs ls hf hW hS hl
    unfold f_X8_receive_L100126 at hf
    obtain ⟨x140, ex140⟩ : ∃ z : Int32, z = v7 + 1 := ⟨_, rfl⟩
    replace hf := ltE hf x140 ex140
    refine lv_iinc (v := x140) (lv' := [(7, .int x140), (0, .ref (adL v0)), (1, .ref (adL v1)), (3, .int v3), (4, .int v4), (5, .int v5), (6, .ref (adL v6))]) hx hb dX8_receive_126 hl (k := 6) rfl (by rw [ex140]; rfl) (by decide) rfl (fun ls hl => ?_)
    refine lv_goto (tgt := 55) hx hb dX8_receive_129 (by decide) ?_
    refine lv_iload hx hb dX8_receive_55 (lv_at hl 0 rfl) ?_
    refine lv_aload_n hx hb dX8_receive_57 rfl (lv_at hl 2 rfl) ?_
    refine x_getiN 103 (ci := 1) (C := RX1) (T := TX1) (N := 4) 3 hC hin1 hW tv1 rfl rfl ⟨by decide, by decide, rfl, rfl⟩ rfl w_6 dX8_receive_58 ?_
    refine lv_icmp_ge (tgt := 132) hx hb dX8_receive_61 (by decide) (fun c141 => ?_) (fun c141 => ?_)
    · replace hf := ifT c141 hf
      refine W.widen (k := 10) (n := 8177) (Nat.le_of_ble_eq_true rfl) (Nat.le_of_ble_eq_true rfl) ?_
      exact L600132 adL KL nL hagL S0 v0 v3 v4 v5 v6 tv0 tv6 _ _ _ hf hW hS (lv_sub hl [1, 3, 4, 5, 6] rfl)
    · replace hf := ifF c141 hf
      refine lv_aload_n hx hb dX8_receive_64 rfl (lv_at hl 1 rfl) ?_
      replace hf := obE hf
      obtain ⟨j142, qj142, hf⟩ := hf
      have tj142 := x_rt hW qj142 8 ⟨by decide, rfl⟩
      refine x_getr 710 (ci := 7) (C := RX8) (T := TX8) (N := 16) 10 hC hin8 hW tv0 rfl rfl ⟨by decide, by decide, rfl, rfl⟩ rfl w_7 dX8_receive_65 qj142 ?_
      refine lv_aload_n hx hb dX8_receive_68 rfl (lv_at hl 2 rfl) ?_
      refine lv_iload hx hb dX8_receive_69 (lv_at hl 0 rfl) ?_
      refine lv_iload hx hb dX8_receive_71 (lv_at hl 5 rfl) ?_
      replace hf := obE hf
      obtain ⟨z143, hz143, hf⟩ := hf
      obtain ⟨r145, S144, n146⟩ := z143
      replace hf := ltE (ltE (ltE hf r145 rfl) S144 rfl) n146 rfl
      refine x_acallV (As := [.ref (adL v1), .int x140, .int v5]) (rest := []) (S1 := S144) (n1 := n146) (o := (fun _ => some (.int r145))) (P := (fun _ => True)) hC hl.1 hW hS hGs hA tj142 rfl (show vwCl[8]? = some (RX9, TX9, 8) ∧ 8 < 11 from ⟨rfl, by decide⟩) (c_X9_numberFor l g adL nL KL H.size F S0 j142 v1 x140 v5 tj142 tv1 r145 S144 n146 hz143) (cwV 3 hts gX8_receive_X9_numberFor rfl rfl rfl (by decide +kernel) ⟨Nat.le_of_ble_eq_true rfl, Nat.le_of_ble_eq_true rfl⟩) rfl rfl (Nat.le_of_ble_eq_true rfl) dX8_receive_73 ⟨Nat.le_of_ble_eq_true rfl, Nat.le_of_ble_eq_true rfl⟩ (fun ad147 K148 H locs hag149 hPz143 hW hS => ?_)
      refine W.widen (k := 8) (n := 6135) (Nat.le_of_ble_eq_true rfl) (Nat.le_of_ble_eq_true rfl) ?_
      refine W.eq (g2 := F0 m 76 ls [.int r145]) rfl ?_
      refine lv_istore (lv' := [(8, .int r145), (7, .int x140), (0, .ref (adL v0)), (1, .ref (adL v1)), (3, .int v3), (4, .int v4), (5, .int v5), (6, .ref (adL v6))]) hx hb dX8_receive_76 hl (by decide) rfl (fun ls hl => ?_)
      refine lv_aload hx hb dX8_receive_78 (lv_at hl 7 rfl) ?_
      replace hf := obE hf
      obtain ⟨j150, qj150, hf⟩ := hf
      have tj150 := x_rt hW qj150 12 ⟨by decide, rfl⟩
      refine x_getrN 303 (ci := 3) (C := RX4) (T := TX4) (N := 5) 3 hC hin4 hW (hag149.t tv6) (hag149.e tv6 rfl) rfl ⟨by decide, by decide, rfl, rfl⟩ rfl w_8 dX8_receive_80 qj150 ?_
      refine lv_iload hx hb dX8_receive_83 (lv_at hl 1 rfl) ?_
      refine lv_iload hx hb dX8_receive_85 (lv_at hl 0 rfl) ?_
      replace hf := obE hf
      obtain ⟨S152, hz151, hf⟩ := hf
      refine x_callSN (As := [.ref (ad147 j150), .int x140, .int r145]) (rest := []) (o := none) (S1 := S152) hC hl.1 hW hS hGs hA (c_X10_put l g ad147 n146 K148 H.size F S144 j150 x140 r145 tj150 S152 hz151) ⟨va_cnB 3 hts gX8_receive_X10_put_n181 rfl rfl rfl (va_Nw.of rfl w_9) w_10 (by decide +kernel) ⟨Nat.le_of_ble_eq_true rfl, Nat.le_of_ble_eq_true rfl⟩, w_11, trivial⟩ rfl rfl (Nat.le_of_ble_eq_true rfl) dX8_receive_87 ⟨Nat.le_of_ble_eq_true rfl, Nat.le_of_ble_eq_true rfl⟩ (fun H locs hPz151 hW hS => ?_)
      refine W.eq (g2 := F0 m 90 ls []) rfl ?_
      refine lv_aload_n hx hb dX8_receive_90 rfl (lv_at hl 3 rfl) ?_
      refine lv_iload hx hb dX8_receive_91 (lv_at hl 1 rfl) ?_
      replace hf := obE hf
      obtain ⟨z155, hz155, hf⟩ := hf
      obtain ⟨r157, S156⟩ := z155
      replace hf := ltE (ltE hf r157 rfl) S156 rfl
      refine x_callV (As := [.int x140]) (rest := []) (o := (some (.int r157))) (S1 := S156) hC hl.1 hW hS hGs hA (hag149.t tv1) rfl (show vwCl[1]? = some (RX1, TX1, 4) ∧ 1 < 11 from ⟨rfl, by decide⟩) (c_X1_isFirstOfItsKind l g ad147 n146 K148 H.size F S152 v1 x140 (hag149.t tv1) r157 S156 hz155) (cwV 1 hts gX8_receive_X1_isFirstOfItsKind rfl rfl rfl (by decide +kernel) ⟨Nat.le_of_ble_eq_true rfl, Nat.le_of_ble_eq_true rfl⟩) rfl (by rw [(hag149.e tv1 rfl)] <;> rfl) (Nat.le_of_ble_eq_true rfl) dX8_receive_93 ⟨Nat.le_of_ble_eq_true rfl, Nat.le_of_ble_eq_true rfl⟩ (fun H locs hPz155 hW hS => ?_)
      refine W.eq (g2 := F0 m 96 ls [.int r157]) rfl ?_
      refine lv_if_eq (tgt := 126) hx hb dX8_receive_96 (by decide) (fun c159 => ?_) (fun c159 => ?_)
      · replace hf := ifT c159 hf
        exact L200126 ad147 K148 n146 (hagL.tr hag149) S156 v0 v1 v3 v4 v5 v6 x140 (hag149.t tv0) (hag149.t tv1) (hag149.t tv6) _ _ _ hf hW hS (lv_sub hl [2, 3, 4, 5, 6, 7, 1] (by rw [(hag149.e tv0 rfl), (hag149.e tv1 rfl), (hag149.e tv6 rfl)] <;> rfl))
      · replace hf := ifF c159 hf
        refine lv_aload_n hx hb dX8_receive_99 rfl (lv_at hl 2 rfl) ?_
        replace hf := obE hf
        obtain ⟨j160, qj160, hf⟩ := hf
        have tj160 := x_rt hW qj160 8 ⟨by decide, rfl⟩
        refine x_getr 710 (ci := 7) (C := RX8) (T := TX8) (N := 16) 10 hC hin8 hW (hag149.t tv0) (hag149.e tv0 rfl) rfl ⟨by decide, by decide, rfl, rfl⟩ rfl w_7 dX8_receive_100 qj160 ?_
        refine lv_iload hx hb dX8_receive_103 (lv_at hl 0 rfl) ?_
        replace hf := obE hf
        obtain ⟨z161, hz161, hf⟩ := hf
        obtain ⟨r163, S162⟩ := z161
        replace hf := ltE (ltE hf r163 rfl) S162 rfl
        refine x_callV (As := [.int r145]) (rest := []) (o := (some (.int r163))) (S1 := S162) hC hl.1 hW hS hGs hA tj160 rfl (show vwCl[8]? = some (RX9, TX9, 8) ∧ 8 < 11 from ⟨rfl, by decide⟩) (c_X9_addKeeper l g ad147 n146 K148 H.size F S156 j160 r145 tj160 r163 S162 hz161) (cwV 1 hts gX8_receive_X9_addKeeper rfl rfl rfl (by decide +kernel) ⟨Nat.le_of_ble_eq_true rfl, Nat.le_of_ble_eq_true rfl⟩) rfl rfl (Nat.le_of_ble_eq_true rfl) dX8_receive_105 ⟨Nat.le_of_ble_eq_true rfl, Nat.le_of_ble_eq_true rfl⟩ (fun H locs hPz161 hW hS => ?_)
        refine W.eq (g2 := F0 m 108 ls [.int r163]) rfl ?_
        refine lv_if_eq (tgt := 126) hx hb dX8_receive_108 (by decide) (fun c165 => ?_) (fun c165 => ?_)
        · replace hf := ifT c165 hf
          exact L200126 ad147 K148 n146 (hagL.tr hag149) S162 v0 v1 v3 v4 v5 v6 x140 (hag149.t tv0) (hag149.t tv1) (hag149.t tv6) _ _ _ hf hW hS (lv_sub hl [2, 3, 4, 5, 6, 7, 1] (by rw [(hag149.e tv0 rfl), (hag149.e tv1 rfl), (hag149.e tv6 rfl)] <;> rfl))
        · replace hf := ifF c165 hf
          refine lv_aload_n hx hb dX8_receive_111 rfl (lv_at hl 2 rfl) ?_
          replace hf := obE hf
          obtain ⟨j166, qj166, hf⟩ := hf
          have tj166 := x_rt hW qj166 2 ⟨by decide, rfl⟩
          refine x_getr 711 (ci := 7) (C := RX8) (T := TX8) (N := 16) 11 hC hin8 hW (hag149.t tv0) (hag149.e tv0 rfl) rfl ⟨by decide, by decide, rfl, rfl⟩ rfl w_3 dX8_receive_112 qj166 ?_
          refine lv_aload_n hx hb dX8_receive_115 rfl (lv_at hl 2 rfl) ?_
          refine x_geti 701 (ci := 7) (C := RX8) (T := TX8) (N := 16) 1 hC hin8 hW (hag149.t tv0) (hag149.e tv0 rfl) rfl ⟨by decide, by decide, rfl, rfl⟩ rfl w_4 dX8_receive_116 ?_
          refine lv_bipush (v := 7) hx hb dX8_receive_119 (by decide) ?_
          refine lv_iload hx hb dX8_receive_121 (lv_at hl 0 rfl) ?_
          replace hf := obE hf
          obtain ⟨S168, hz167, hf⟩ := hf
          refine x_callV (As := [.int (si S162 701 v0), .int 7, .int r145]) (rest := []) (o := none) (S1 := S168) hC hl.1 hW hS hGs hA tj166 rfl (show vwCl[2]? = some (RX2, TX2, 5) ∧ 2 < 11 from ⟨rfl, by decide⟩) (c_X2_note l g ad147 n146 K148 H.size F S162 j166 (si S162 701 v0) ((7 : Int32)) r145 tj166 S168 hz167) (cwV 3 hts gX8_receive_X2_note rfl rfl rfl (by decide +kernel) ⟨Nat.le_of_ble_eq_true rfl, Nat.le_of_ble_eq_true rfl⟩) rfl rfl (Nat.le_of_ble_eq_true rfl) dX8_receive_123 ⟨Nat.le_of_ble_eq_true rfl, Nat.le_of_ble_eq_true rfl⟩ (fun H locs hPz167 hW hS => ?_)
          refine W.eq (g2 := F0 m 126 ls []) rfl ?_
          exact L200126 ad147 K148 n146 (hagL.tr hag149) S168 v0 v1 v3 v4 v5 v6 x140 (hag149.t tv0) (hag149.t tv1) (hag149.t tv6) _ _ _ hf hW hS (lv_sub hl [2, 3, 4, 5, 6, 7, 1] (by rw [(hag149.e tv0 rfl), (hag149.e tv1 rfl), (hag149.e tv6 rfl)] <;> rfl))
  have L126 : ∀ (adL KL : Nat → Nat) (nL : Nat) (hagL : Ag ad K n adL KL nL) (S0 : St) (v0 : Nat) (v1 : Nat) (v3 : Int32) (v4 : Int32) (v5 : Int32) (v6 : Nat) (v7 : Int32) (tv0 : v0 < nL ∧ KL v0 = 7) (tv1 : v1 < nL ∧ KL v1 = 1) (tv6 : v6 < nL ∧ KL v6 = 3) (H : Heap) (locs : List Loc) (ls : Array Slot), f_X8_receive_L126 F S0 nL v0 v1 v3 v4 v5 v6 v7 = some (r9, S9, n9) → Wb g adL nL KL S0 (dA ad n s.heap.size) H → va_S (dA ad n s.heap.size) s.heap H locs → lv_has ls 9 [(0, .ref (adL v0)), (1, .ref (adL v1)), (3, .int v3), (4, .int v4), (5, .int v5), (6, .ref (adL v6)), (7, .int v7)] → W p l e (headSpec wsX8_receive { frames := 5, cells := 10, slots := 8177, locals := 115 }).room s m (List.toArray [.ref (ad p0), .ref (ad p1), .int p2, .int p3, .int p4]) below meth c H locs 4 2051 (MQ below (QA ad K n (fun _ => (some (.int r9))) g n9 S9 (dA ad n s.heap.size) (fun _ => True)) (List.toArray [.ref (ad p0), .ref (ad p1), .int p2, .int p3, .int p4]) s 10 8177 (dA ad n s.heap.size)) (F0 m 126 ls []) := by
    intro adL KL nL hagL S0 v0 v1 v3 v4 v5 v6 v7 tv0 tv1 tv6 H locs ls hf hW hS hl
    unfold f_X8_receive_L126 at hf
    obtain ⟨x202, ex202⟩ : ∃ z : Int32, z = v7 + 1 := ⟨_, rfl⟩
    replace hf := ltE hf x202 ex202
    refine lv_iinc (v := x202) (lv' := [(7, .int x202), (0, .ref (adL v0)), (1, .ref (adL v1)), (3, .int v3), (4, .int v4), (5, .int v5), (6, .ref (adL v6))]) hx hb dX8_receive_126 hl (k := 6) rfl (by rw [ex202]; rfl) (by decide) rfl (fun ls hl => ?_)
    refine lv_goto (tgt := 55) hx hb dX8_receive_129 (by decide) ?_
    refine lv_iload hx hb dX8_receive_55 (lv_at hl 0 rfl) ?_
    refine lv_aload_n hx hb dX8_receive_57 rfl (lv_at hl 2 rfl) ?_
    refine x_getiN 103 (ci := 1) (C := RX1) (T := TX1) (N := 4) 3 hC hin1 hW tv1 rfl rfl ⟨by decide, by decide, rfl, rfl⟩ rfl w_6 dX8_receive_58 ?_
    refine lv_icmp_ge (tgt := 132) hx hb dX8_receive_61 (by decide) (fun c203 => ?_) (fun c203 => ?_)
    · replace hf := ifT c203 hf
      refine W.widen (k := 10) (n := 8177) (Nat.le_of_ble_eq_true rfl) (Nat.le_of_ble_eq_true rfl) ?_
      exact L600132 adL KL nL hagL S0 v0 v3 v4 v5 v6 tv0 tv6 _ _ _ hf hW hS (lv_sub hl [1, 3, 4, 5, 6] rfl)
    · replace hf := ifF c203 hf
      refine lv_aload_n hx hb dX8_receive_64 rfl (lv_at hl 1 rfl) ?_
      replace hf := obE hf
      obtain ⟨j204, qj204, hf⟩ := hf
      have tj204 := x_rt hW qj204 8 ⟨by decide, rfl⟩
      refine x_getr 710 (ci := 7) (C := RX8) (T := TX8) (N := 16) 10 hC hin8 hW tv0 rfl rfl ⟨by decide, by decide, rfl, rfl⟩ rfl w_7 dX8_receive_65 qj204 ?_
      refine lv_aload_n hx hb dX8_receive_68 rfl (lv_at hl 2 rfl) ?_
      refine lv_iload hx hb dX8_receive_69 (lv_at hl 0 rfl) ?_
      refine lv_iload hx hb dX8_receive_71 (lv_at hl 5 rfl) ?_
      replace hf := obE hf
      obtain ⟨z205, hz205, hf⟩ := hf
      obtain ⟨r207, S206, n208⟩ := z205
      replace hf := ltE (ltE (ltE hf r207 rfl) S206 rfl) n208 rfl
      refine x_acallV (As := [.ref (adL v1), .int x202, .int v5]) (rest := []) (S1 := S206) (n1 := n208) (o := (fun _ => some (.int r207))) (P := (fun _ => True)) hC hl.1 hW hS hGs hA tj204 rfl (show vwCl[8]? = some (RX9, TX9, 8) ∧ 8 < 11 from ⟨rfl, by decide⟩) (c_X9_numberFor l g adL nL KL H.size F S0 j204 v1 x202 v5 tj204 tv1 r207 S206 n208 hz205) (cwV 3 hts gX8_receive_X9_numberFor rfl rfl rfl (by decide +kernel) ⟨Nat.le_of_ble_eq_true rfl, Nat.le_of_ble_eq_true rfl⟩) rfl rfl (Nat.le_of_ble_eq_true rfl) dX8_receive_73 ⟨Nat.le_of_ble_eq_true rfl, Nat.le_of_ble_eq_true rfl⟩ (fun ad209 K210 H locs hag211 hPz205 hW hS => ?_)
      refine W.widen (k := 6) (n := 4093) (Nat.le_of_ble_eq_true rfl) (Nat.le_of_ble_eq_true rfl) ?_
      refine W.eq (g2 := F0 m 76 ls [.int r207]) rfl ?_
      refine lv_istore (lv' := [(8, .int r207), (7, .int x202), (0, .ref (adL v0)), (1, .ref (adL v1)), (3, .int v3), (4, .int v4), (5, .int v5), (6, .ref (adL v6))]) hx hb dX8_receive_76 hl (by decide) rfl (fun ls hl => ?_)
      refine lv_aload hx hb dX8_receive_78 (lv_at hl 7 rfl) ?_
      replace hf := obE hf
      obtain ⟨j212, qj212, hf⟩ := hf
      have tj212 := x_rt hW qj212 12 ⟨by decide, rfl⟩
      refine x_getrN 303 (ci := 3) (C := RX4) (T := TX4) (N := 5) 3 hC hin4 hW (hag211.t tv6) (hag211.e tv6 rfl) rfl ⟨by decide, by decide, rfl, rfl⟩ rfl w_8 dX8_receive_80 qj212 ?_
      refine lv_iload hx hb dX8_receive_83 (lv_at hl 1 rfl) ?_
      refine lv_iload hx hb dX8_receive_85 (lv_at hl 0 rfl) ?_
      replace hf := obE hf
      obtain ⟨S214, hz213, hf⟩ := hf
      refine x_callSN (As := [.ref (ad209 j212), .int x202, .int r207]) (rest := []) (o := none) (S1 := S214) hC hl.1 hW hS hGs hA (c_X10_put l g ad209 n208 K210 H.size F S206 j212 x202 r207 tj212 S214 hz213) ⟨va_cnB 3 hts gX8_receive_X10_put_n181 rfl rfl rfl (va_Nw.of rfl w_9) w_10 (by decide +kernel) ⟨Nat.le_of_ble_eq_true rfl, Nat.le_of_ble_eq_true rfl⟩, w_11, trivial⟩ rfl rfl (Nat.le_of_ble_eq_true rfl) dX8_receive_87 ⟨Nat.le_of_ble_eq_true rfl, Nat.le_of_ble_eq_true rfl⟩ (fun H locs hPz213 hW hS => ?_)
      refine W.eq (g2 := F0 m 90 ls []) rfl ?_
      refine lv_aload_n hx hb dX8_receive_90 rfl (lv_at hl 3 rfl) ?_
      refine lv_iload hx hb dX8_receive_91 (lv_at hl 1 rfl) ?_
      replace hf := obE hf
      obtain ⟨z217, hz217, hf⟩ := hf
      obtain ⟨r219, S218⟩ := z217
      replace hf := ltE (ltE hf r219 rfl) S218 rfl
      refine x_callV (As := [.int x202]) (rest := []) (o := (some (.int r219))) (S1 := S218) hC hl.1 hW hS hGs hA (hag211.t tv1) rfl (show vwCl[1]? = some (RX1, TX1, 4) ∧ 1 < 11 from ⟨rfl, by decide⟩) (c_X1_isFirstOfItsKind l g ad209 n208 K210 H.size F S214 v1 x202 (hag211.t tv1) r219 S218 hz217) (cwV 1 hts gX8_receive_X1_isFirstOfItsKind rfl rfl rfl (by decide +kernel) ⟨Nat.le_of_ble_eq_true rfl, Nat.le_of_ble_eq_true rfl⟩) rfl (by rw [(hag211.e tv1 rfl)] <;> rfl) (Nat.le_of_ble_eq_true rfl) dX8_receive_93 ⟨Nat.le_of_ble_eq_true rfl, Nat.le_of_ble_eq_true rfl⟩ (fun H locs hPz217 hW hS => ?_)
      refine W.eq (g2 := F0 m 96 ls [.int r219]) rfl ?_
      refine lv_if_eq (tgt := 126) hx hb dX8_receive_96 (by decide) (fun c221 => ?_) (fun c221 => ?_)
      · replace hf := ifT c221 hf
        exact L100126 ad209 K210 n208 (hagL.tr hag211) S218 v0 v1 v3 v4 v5 v6 x202 (hag211.t tv0) (hag211.t tv1) (hag211.t tv6) _ _ _ hf hW hS (lv_sub hl [2, 3, 4, 5, 6, 7, 1] (by rw [(hag211.e tv0 rfl), (hag211.e tv1 rfl), (hag211.e tv6 rfl)] <;> rfl))
      · replace hf := ifF c221 hf
        refine lv_aload_n hx hb dX8_receive_99 rfl (lv_at hl 2 rfl) ?_
        replace hf := obE hf
        obtain ⟨j222, qj222, hf⟩ := hf
        have tj222 := x_rt hW qj222 8 ⟨by decide, rfl⟩
        refine x_getr 710 (ci := 7) (C := RX8) (T := TX8) (N := 16) 10 hC hin8 hW (hag211.t tv0) (hag211.e tv0 rfl) rfl ⟨by decide, by decide, rfl, rfl⟩ rfl w_7 dX8_receive_100 qj222 ?_
        refine lv_iload hx hb dX8_receive_103 (lv_at hl 0 rfl) ?_
        replace hf := obE hf
        obtain ⟨z223, hz223, hf⟩ := hf
        obtain ⟨r225, S224⟩ := z223
        replace hf := ltE (ltE hf r225 rfl) S224 rfl
        refine x_callV (As := [.int r207]) (rest := []) (o := (some (.int r225))) (S1 := S224) hC hl.1 hW hS hGs hA tj222 rfl (show vwCl[8]? = some (RX9, TX9, 8) ∧ 8 < 11 from ⟨rfl, by decide⟩) (c_X9_addKeeper l g ad209 n208 K210 H.size F S218 j222 r207 tj222 r225 S224 hz223) (cwV 1 hts gX8_receive_X9_addKeeper rfl rfl rfl (by decide +kernel) ⟨Nat.le_of_ble_eq_true rfl, Nat.le_of_ble_eq_true rfl⟩) rfl rfl (Nat.le_of_ble_eq_true rfl) dX8_receive_105 ⟨Nat.le_of_ble_eq_true rfl, Nat.le_of_ble_eq_true rfl⟩ (fun H locs hPz223 hW hS => ?_)
        refine W.eq (g2 := F0 m 108 ls [.int r225]) rfl ?_
        refine lv_if_eq (tgt := 126) hx hb dX8_receive_108 (by decide) (fun c227 => ?_) (fun c227 => ?_)
        · replace hf := ifT c227 hf
          exact L100126 ad209 K210 n208 (hagL.tr hag211) S224 v0 v1 v3 v4 v5 v6 x202 (hag211.t tv0) (hag211.t tv1) (hag211.t tv6) _ _ _ hf hW hS (lv_sub hl [2, 3, 4, 5, 6, 7, 1] (by rw [(hag211.e tv0 rfl), (hag211.e tv1 rfl), (hag211.e tv6 rfl)] <;> rfl))
        · replace hf := ifF c227 hf
          refine lv_aload_n hx hb dX8_receive_111 rfl (lv_at hl 2 rfl) ?_
          replace hf := obE hf
          obtain ⟨j228, qj228, hf⟩ := hf
          have tj228 := x_rt hW qj228 2 ⟨by decide, rfl⟩
          refine x_getr 711 (ci := 7) (C := RX8) (T := TX8) (N := 16) 11 hC hin8 hW (hag211.t tv0) (hag211.e tv0 rfl) rfl ⟨by decide, by decide, rfl, rfl⟩ rfl w_3 dX8_receive_112 qj228 ?_
          refine lv_aload_n hx hb dX8_receive_115 rfl (lv_at hl 2 rfl) ?_
          refine x_geti 701 (ci := 7) (C := RX8) (T := TX8) (N := 16) 1 hC hin8 hW (hag211.t tv0) (hag211.e tv0 rfl) rfl ⟨by decide, by decide, rfl, rfl⟩ rfl w_4 dX8_receive_116 ?_
          refine lv_bipush (v := 7) hx hb dX8_receive_119 (by decide) ?_
          refine lv_iload hx hb dX8_receive_121 (lv_at hl 0 rfl) ?_
          replace hf := obE hf
          obtain ⟨S230, hz229, hf⟩ := hf
          refine x_callV (As := [.int (si S224 701 v0), .int 7, .int r207]) (rest := []) (o := none) (S1 := S230) hC hl.1 hW hS hGs hA tj228 rfl (show vwCl[2]? = some (RX2, TX2, 5) ∧ 2 < 11 from ⟨rfl, by decide⟩) (c_X2_note l g ad209 n208 K210 H.size F S224 j228 (si S224 701 v0) ((7 : Int32)) r207 tj228 S230 hz229) (cwV 3 hts gX8_receive_X2_note rfl rfl rfl (by decide +kernel) ⟨Nat.le_of_ble_eq_true rfl, Nat.le_of_ble_eq_true rfl⟩) rfl rfl (Nat.le_of_ble_eq_true rfl) dX8_receive_123 ⟨Nat.le_of_ble_eq_true rfl, Nat.le_of_ble_eq_true rfl⟩ (fun H locs hPz229 hW hS => ?_)
          refine W.eq (g2 := F0 m 126 ls []) rfl ?_
          exact L100126 ad209 K210 n208 (hagL.tr hag211) S230 v0 v1 v3 v4 v5 v6 x202 (hag211.t tv0) (hag211.t tv1) (hag211.t tv6) _ _ _ hf hW hS (lv_sub hl [2, 3, 4, 5, 6, 7, 1] (by rw [(hag211.e tv0 rfl), (hag211.e tv1 rfl), (hag211.e tv6 rfl)] <;> rfl))
  unfold f_X8_receive at hf
  refine lv_aload_n hx hb dX8_receive_0 rfl (lv_at hl 0 rfl) ?_
  refine lv_aload_n hx hb dX8_receive_1 rfl (lv_at hl 0 rfl) ?_
  refine lv_iload_n hx hb dX8_receive_2 rfl (lv_at hl 3 rfl) ?_
  refine lv_aload_n hx hb dX8_receive_3 rfl (lv_at hl 1 rfl) ?_
  replace hf := obE hf
  obtain ⟨z233, hz233, hf⟩ := hf
  obtain ⟨r235, S234⟩ := z233
  replace hf := ltE (ltE hf r235 rfl) S234 rfl
  refine x_callV (As := []) (rest := [.int p3, .ref (ad p0), .ref (ad p0)]) (o := (some (.int r235))) (S1 := S234) hC hl.1 hW hS hGs hA tp1 rfl (show vwCl[1]? = some (RX1, TX1, 4) ∧ 1 < 11 from ⟨rfl, by decide⟩) (c_X1_sizeOfAll l g ad n K s.heap.size F S0 p1 tp1 r235 S234 hz233) (cwV 0 hts gX8_receive_X1_sizeOfAll rfl rfl rfl (by decide +kernel) ⟨Nat.le_of_ble_eq_true rfl, Nat.le_of_ble_eq_true rfl⟩) rfl rfl (Nat.le_of_ble_eq_true rfl) dX8_receive_4 ⟨Nat.le_of_ble_eq_true rfl, Nat.le_of_ble_eq_true rfl⟩ (fun H locs hPz233 hW hS => ?_)
  refine W.eq (g2 := F0 m 7 ls [.int r235, .int p3, .ref (ad p0), .ref (ad p0)]) rfl ?_
  replace hf := obE hf
  obtain ⟨z237, hz237, hf⟩ := hf
  obtain ⟨r239, S238⟩ := z237
  replace hf := ltE (ltE hf r239 rfl) S238 rfl
  refine x_callV (As := [.int p3, .int r235]) (rest := [.ref (ad p0)]) (o := (some (.int r239))) (S1 := S238) hC hl.1 hW hS hGs hA tp0 rfl (show vwCl[7]? = some (RX8, TX8, 16) ∧ 7 < 11 from ⟨rfl, by decide⟩) (c_X8_bounce l g ad n K H.size F S234 p0 p3 r235 tp0 r239 S238 hz237) (cwV 2 hts gX8_receive_X8_bounce rfl rfl rfl (by decide +kernel) ⟨Nat.le_of_ble_eq_true rfl, Nat.le_of_ble_eq_true rfl⟩) rfl rfl (Nat.le_of_ble_eq_true rfl) dX8_receive_7 ⟨Nat.le_of_ble_eq_true rfl, Nat.le_of_ble_eq_true rfl⟩ (fun H locs hPz237 hW hS => ?_)
  refine W.eq (g2 := F0 m 10 ls [.int r239, .ref (ad p0)]) rfl ?_
  refine x_puti 702 (ci := 7) (C := RX8) (T := TX8) (N := 16) (v := r239) (ty := .int) 2 hC hin8 tyX8_ok nmX8 hW hS tp0 rfl rfl ⟨by decide, by decide, rfl, rfl⟩ rfl w_2 rfl (by decide +kernel) rfl rfl dX8_receive_10 (fun S241 H locs eS241 hW hS => ?_)
  replace hf := ltE hf S241 eS241
  refine lv_aload_n hx hb dX8_receive_13 rfl (lv_at hl 0 rfl) ?_
  refine x_geti 702 (ci := 7) (C := RX8) (T := TX8) (N := 16) 2 hC hin8 hW tp0 rfl rfl ⟨by decide, by decide, rfl, rfl⟩ rfl w_2 dX8_receive_14 ?_
  refine lv_iload_n hx hb dX8_receive_17 rfl (lv_at hl 3 rfl) ?_
  refine lv_icmp_ne (tgt := 24) hx hb dX8_receive_18 (by decide) (fun c242 => ?_) (fun c242 => ?_)
  · replace hf := ifT c242 hf
    refine lv_aload_n hx hb dX8_receive_24 rfl (lv_at hl 0 rfl) ?_
    refine x_geti 705 (ci := 7) (C := RX8) (T := TX8) (N := 16) 5 hC hin8 hW tp0 rfl rfl ⟨by decide, by decide, rfl, rfl⟩ rfl w_0 dX8_receive_25 ?_
    refine lv_topi (fun x243 ex243 => ?_)
    replace hf := ltE hf x243 ex243
    refine lv_istore (lv' := [(5, .int x243), (0, .ref (ad p0)), (1, .ref (ad p1)), (2, .int p2), (3, .int p3), (4, .int p4)]) hx hb dX8_receive_28 hl (by decide) rfl (fun ls hl => ?_)
    refine x_new (ci := 3) (C := RX4) (T := TX4) (N := 5) hC hin4 tyX4_ok hW hS hA ⟨rfl, by decide, by decide⟩ (by decide +kernel) w_12 w_13 w_14 (Nat.le_of_ble_eq_true rfl) (Nat.le_of_ble_eq_true rfl) dX8_receive_30 (fun q244 ad245 K246 S247 H eS247 hag249 eqq244 ekq244 hW hS => ?_)
    replace hf := ltE hf S247 eS247
    obtain ⟨n248, en248⟩ : ∃ z, z = n + 1 := ⟨_, rfl⟩
    rw [← en248] at hag249 hW
    replace hf := ltE hf n248 en248
    have tq244 : n < n248 ∧ K246 n = 3 := ⟨by omega, ekq244⟩
    refine W.widen (k := 1) (n := 5) (Nat.le_of_ble_eq_true rfl) (Nat.le_of_ble_eq_true rfl) ?_
    refine lv_dup hx hb dX8_receive_33 rfl ?_
    refine lv_iload_n hx hb dX8_receive_34 rfl (lv_at hl 3 rfl) ?_
    refine lv_aload_n hx hb dX8_receive_35 rfl (lv_at hl 1 rfl) ?_
    refine x_geti 701 (ci := 7) (C := RX8) (T := TX8) (N := 16) 1 hC hin8 hW (hag249.t tp0) (hag249.e tp0 rfl) rfl ⟨by decide, by decide, rfl, rfl⟩ rfl w_4 dX8_receive_36 ?_
    refine lv_aload_n hx hb dX8_receive_39 rfl (lv_at hl 2 rfl) ?_
    replace hf := obE hf
    obtain ⟨z250, hz250, hf⟩ := hf
    obtain ⟨r252, S251⟩ := z250
    replace hf := ltE (ltE hf r252 rfl) S251 rfl
    refine x_callV (As := []) (rest := [.int (si S247 701 p0), .int p2, .ref (q244), .ref (q244)]) (o := (some (.int r252))) (S1 := S251) hC hl.1 hW hS hGs hA (hag249.t tp1) rfl (show vwCl[1]? = some (RX1, TX1, 4) ∧ 1 < 11 from ⟨rfl, by decide⟩) (c_X1_sizeOfAll l g ad245 n248 K246 H.size F S247 p1 (hag249.t tp1) r252 S251 hz250) (cwV 0 hts gX8_receive_X1_sizeOfAll rfl rfl rfl (by decide +kernel) ⟨Nat.le_of_ble_eq_true rfl, Nat.le_of_ble_eq_true rfl⟩) rfl (by rw [(hag249.e tp1 rfl)] <;> rfl) (Nat.le_of_ble_eq_true rfl) dX8_receive_40 ⟨Nat.le_of_ble_eq_true rfl, Nat.le_of_ble_eq_true rfl⟩ (fun H locs hPz250 hW hS => ?_)
    refine W.eq (g2 := F0 m 43 ls [.int r252, .int (si S247 701 p0), .int p2, .ref (q244), .ref (q244)]) rfl ?_
    refine lv_aload_n hx hb dX8_receive_43 rfl (lv_at hl 2 rfl) ?_
    refine x_getiN 103 (ci := 1) (C := RX1) (T := TX1) (N := 4) 3 hC hin1 hW (hag249.t tp1) (hag249.e tp1 rfl) rfl ⟨by decide, by decide, rfl, rfl⟩ rfl w_6 dX8_receive_44 ?_
    replace hf := obE hf
    obtain ⟨z254, hz254, hf⟩ := hf
    obtain ⟨S255, n257⟩ := z254
    replace hf := ltE (ltE hf S255 rfl) n257 rfl
    refine x_acallI (As := [.int p2, .int (si S247 701 p0), .int r252, .int (si S251 103 p1)]) (rest := [.ref (q244)]) (S1 := S255) (n1 := n257) (o := (fun _ => none)) (P := (fun _ => True)) hC hl.1 hW hS hGs hA (c_X4_init l g ad245 n248 K246 H.size F S251 n p2 (si S247 701 p0) r252 (si S251 103 p1) tq244 S255 n257 hz254) (cwI 4 hts gX8_receive_X4_init rfl rfl rfl w_14 w_15 w_16 rfl (by decide +kernel) ⟨Nat.le_of_ble_eq_true rfl, Nat.le_of_ble_eq_true rfl⟩) rfl (by rw [eqq244] <;> rfl) (Nat.le_of_ble_eq_true rfl) dX8_receive_47 ⟨Nat.le_of_ble_eq_true rfl, Nat.le_of_ble_eq_true rfl⟩ (fun ad258 K259 H locs hag260 hPz254 hW hS => ?_)
    refine W.widen (k := 2) (n := 9) (Nat.le_of_ble_eq_true rfl) (Nat.le_of_ble_eq_true rfl) ?_
    refine W.eq (g2 := F0 m 50 ls [.ref (q244)]) rfl ?_
    refine lv_astore (lv' := [(6, .ref (q244)), (5, .int x243), (0, .ref (ad p0)), (1, .ref (ad p1)), (2, .int p2), (3, .int p3), (4, .int p4)]) hx hb dX8_receive_50 hl (by decide) rfl (fun ls hl => ?_)
    refine lv_iconst (v := 0) hx hb dX8_receive_52 (by decide) ?_
    refine lv_istore (lv' := [(7, .int 0), (6, .ref (q244)), (5, .int x243), (0, .ref (ad p0)), (1, .ref (ad p1)), (2, .int p2), (3, .int p3), (4, .int p4)]) hx hb dX8_receive_53 hl (by decide) rfl (fun ls hl => ?_)
    refine lv_iload hx hb dX8_receive_55 (lv_at hl 0 rfl) ?_
    refine lv_aload_n hx hb dX8_receive_57 rfl (lv_at hl 4 rfl) ?_
    refine x_getiN 103 (ci := 1) (C := RX1) (T := TX1) (N := 4) 3 hC hin1 hW (hag260.t (hag249.t tp1)) (hag260.e (hag249.t tp1) (hag249.e tp1 rfl)) rfl ⟨by decide, by decide, rfl, rfl⟩ rfl w_6 dX8_receive_58 ?_
    refine lv_icmp_ge (tgt := 132) hx hb dX8_receive_61 (by decide) (fun c261 => ?_) (fun c261 => ?_)
    · replace hf := ifT c261 hf
      refine W.widen (k := 10) (n := 8177) (Nat.le_of_ble_eq_true rfl) (Nat.le_of_ble_eq_true rfl) ?_
      exact L600132 ad258 K259 n257 ((Ag.rf.tr hag249).tr hag260) S255 p0 p3 p4 x243 n (hag260.t (hag249.t tp0)) (hag260.t tq244) _ _ _ hf hW hS (lv_sub hl [3, 6, 7, 2, 1] (by rw [(hag260.e (hag249.t tp0) (hag249.e tp0 rfl)), (hag260.e tq244 eqq244)] <;> rfl))
    · replace hf := ifF c261 hf
      refine lv_aload_n hx hb dX8_receive_64 rfl (lv_at hl 3 rfl) ?_
      replace hf := obE hf
      obtain ⟨j262, qj262, hf⟩ := hf
      have tj262 := x_rt hW qj262 8 ⟨by decide, rfl⟩
      refine x_getr 710 (ci := 7) (C := RX8) (T := TX8) (N := 16) 10 hC hin8 hW (hag260.t (hag249.t tp0)) (hag260.e (hag249.t tp0) (hag249.e tp0 rfl)) rfl ⟨by decide, by decide, rfl, rfl⟩ rfl w_7 dX8_receive_65 qj262 ?_
      refine lv_aload_n hx hb dX8_receive_68 rfl (lv_at hl 4 rfl) ?_
      refine lv_iload hx hb dX8_receive_69 (lv_at hl 0 rfl) ?_
      refine lv_iload hx hb dX8_receive_71 (lv_at hl 2 rfl) ?_
      replace hf := obE hf
      obtain ⟨z263, hz263, hf⟩ := hf
      obtain ⟨r265, S264, n266⟩ := z263
      replace hf := ltE (ltE (ltE hf r265 rfl) S264 rfl) n266 rfl
      refine x_acallV (As := [.ref (ad258 p1), .int 0, .int x243]) (rest := []) (S1 := S264) (n1 := n266) (o := (fun _ => some (.int r265))) (P := (fun _ => True)) hC hl.1 hW hS hGs hA tj262 rfl (show vwCl[8]? = some (RX9, TX9, 8) ∧ 8 < 11 from ⟨rfl, by decide⟩) (c_X9_numberFor l g ad258 n257 K259 H.size F S255 j262 p1 ((0 : Int32)) x243 tj262 (hag260.t (hag249.t tp1)) r265 S264 n266 hz263) (cwV 3 hts gX8_receive_X9_numberFor rfl rfl rfl (by decide +kernel) ⟨Nat.le_of_ble_eq_true rfl, Nat.le_of_ble_eq_true rfl⟩) rfl (by rw [(hag260.e (hag249.t tp1) (hag249.e tp1 rfl))] <;> rfl) (Nat.le_of_ble_eq_true rfl) dX8_receive_73 ⟨Nat.le_of_ble_eq_true rfl, Nat.le_of_ble_eq_true rfl⟩ (fun ad267 K268 H locs hag269 hPz263 hW hS => ?_)
      refine W.widen (k := 4) (n := 2051) (Nat.le_of_ble_eq_true rfl) (Nat.le_of_ble_eq_true rfl) ?_
      refine W.eq (g2 := F0 m 76 ls [.int r265]) rfl ?_
      refine lv_istore (lv' := [(8, .int r265), (7, .int 0), (6, .ref (q244)), (5, .int x243), (0, .ref (ad p0)), (1, .ref (ad p1)), (2, .int p2), (3, .int p3), (4, .int p4)]) hx hb dX8_receive_76 hl (by decide) rfl (fun ls hl => ?_)
      refine lv_aload hx hb dX8_receive_78 (lv_at hl 2 rfl) ?_
      replace hf := obE hf
      obtain ⟨j270, qj270, hf⟩ := hf
      have tj270 := x_rt hW qj270 12 ⟨by decide, rfl⟩
      refine x_getrN 303 (ci := 3) (C := RX4) (T := TX4) (N := 5) 3 hC hin4 hW (hag269.t (hag260.t tq244)) (hag269.e (hag260.t tq244) (hag260.e tq244 eqq244)) rfl ⟨by decide, by decide, rfl, rfl⟩ rfl w_8 dX8_receive_80 qj270 ?_
      refine lv_iload hx hb dX8_receive_83 (lv_at hl 1 rfl) ?_
      refine lv_iload hx hb dX8_receive_85 (lv_at hl 0 rfl) ?_
      replace hf := obE hf
      obtain ⟨S272, hz271, hf⟩ := hf
      refine x_callSN (As := [.ref (ad267 j270), .int 0, .int r265]) (rest := []) (o := none) (S1 := S272) hC hl.1 hW hS hGs hA (c_X10_put l g ad267 n266 K268 H.size F S264 j270 ((0 : Int32)) r265 tj270 S272 hz271) ⟨va_cnB 3 hts gX8_receive_X10_put_n181 rfl rfl rfl (va_Nw.of rfl w_9) w_10 (by decide +kernel) ⟨Nat.le_of_ble_eq_true rfl, Nat.le_of_ble_eq_true rfl⟩, w_11, trivial⟩ rfl rfl (Nat.le_of_ble_eq_true rfl) dX8_receive_87 ⟨Nat.le_of_ble_eq_true rfl, Nat.le_of_ble_eq_true rfl⟩ (fun H locs hPz271 hW hS => ?_)
      refine W.eq (g2 := F0 m 90 ls []) rfl ?_
      refine lv_aload_n hx hb dX8_receive_90 rfl (lv_at hl 5 rfl) ?_
      refine lv_iload hx hb dX8_receive_91 (lv_at hl 1 rfl) ?_
      replace hf := obE hf
      obtain ⟨z275, hz275, hf⟩ := hf
      obtain ⟨r277, S276⟩ := z275
      replace hf := ltE (ltE hf r277 rfl) S276 rfl
      refine x_callV (As := [.int 0]) (rest := []) (o := (some (.int r277))) (S1 := S276) hC hl.1 hW hS hGs hA (hag269.t (hag260.t (hag249.t tp1))) rfl (show vwCl[1]? = some (RX1, TX1, 4) ∧ 1 < 11 from ⟨rfl, by decide⟩) (c_X1_isFirstOfItsKind l g ad267 n266 K268 H.size F S272 p1 ((0 : Int32)) (hag269.t (hag260.t (hag249.t tp1))) r277 S276 hz275) (cwV 1 hts gX8_receive_X1_isFirstOfItsKind rfl rfl rfl (by decide +kernel) ⟨Nat.le_of_ble_eq_true rfl, Nat.le_of_ble_eq_true rfl⟩) rfl (by rw [(hag269.e (hag260.t (hag249.t tp1)) (hag260.e (hag249.t tp1) (hag249.e tp1 rfl)))] <;> rfl) (Nat.le_of_ble_eq_true rfl) dX8_receive_93 ⟨Nat.le_of_ble_eq_true rfl, Nat.le_of_ble_eq_true rfl⟩ (fun H locs hPz275 hW hS => ?_)
      refine W.eq (g2 := F0 m 96 ls [.int r277]) rfl ?_
      refine lv_if_eq (tgt := 126) hx hb dX8_receive_96 (by decide) (fun c279 => ?_) (fun c279 => ?_)
      · replace hf := ifT c279 hf
        exact L126 ad267 K268 n266 (((Ag.rf.tr hag249).tr hag260).tr hag269) S276 p0 p1 p3 p4 x243 n 0 (hag269.t (hag260.t (hag249.t tp0))) (hag269.t (hag260.t (hag249.t tp1))) (hag269.t (hag260.t tq244)) _ _ _ hf hW hS (lv_sub hl [4, 5, 7, 8, 3, 2, 1] (by rw [(hag269.e (hag260.t (hag249.t tp0)) (hag260.e (hag249.t tp0) (hag249.e tp0 rfl))), (hag269.e (hag260.t (hag249.t tp1)) (hag260.e (hag249.t tp1) (hag249.e tp1 rfl))), (hag269.e (hag260.t tq244) (hag260.e tq244 eqq244))] <;> rfl))
      · replace hf := ifF c279 hf
        refine lv_aload_n hx hb dX8_receive_99 rfl (lv_at hl 4 rfl) ?_
        replace hf := obE hf
        obtain ⟨j280, qj280, hf⟩ := hf
        have tj280 := x_rt hW qj280 8 ⟨by decide, rfl⟩
        refine x_getr 710 (ci := 7) (C := RX8) (T := TX8) (N := 16) 10 hC hin8 hW (hag269.t (hag260.t (hag249.t tp0))) (hag269.e (hag260.t (hag249.t tp0)) (hag260.e (hag249.t tp0) (hag249.e tp0 rfl))) rfl ⟨by decide, by decide, rfl, rfl⟩ rfl w_7 dX8_receive_100 qj280 ?_
        refine lv_iload hx hb dX8_receive_103 (lv_at hl 0 rfl) ?_
        replace hf := obE hf
        obtain ⟨z281, hz281, hf⟩ := hf
        obtain ⟨r283, S282⟩ := z281
        replace hf := ltE (ltE hf r283 rfl) S282 rfl
        refine x_callV (As := [.int r265]) (rest := []) (o := (some (.int r283))) (S1 := S282) hC hl.1 hW hS hGs hA tj280 rfl (show vwCl[8]? = some (RX9, TX9, 8) ∧ 8 < 11 from ⟨rfl, by decide⟩) (c_X9_addKeeper l g ad267 n266 K268 H.size F S276 j280 r265 tj280 r283 S282 hz281) (cwV 1 hts gX8_receive_X9_addKeeper rfl rfl rfl (by decide +kernel) ⟨Nat.le_of_ble_eq_true rfl, Nat.le_of_ble_eq_true rfl⟩) rfl rfl (Nat.le_of_ble_eq_true rfl) dX8_receive_105 ⟨Nat.le_of_ble_eq_true rfl, Nat.le_of_ble_eq_true rfl⟩ (fun H locs hPz281 hW hS => ?_)
        refine W.eq (g2 := F0 m 108 ls [.int r283]) rfl ?_
        refine lv_if_eq (tgt := 126) hx hb dX8_receive_108 (by decide) (fun c285 => ?_) (fun c285 => ?_)
        · replace hf := ifT c285 hf
          exact L126 ad267 K268 n266 (((Ag.rf.tr hag249).tr hag260).tr hag269) S282 p0 p1 p3 p4 x243 n 0 (hag269.t (hag260.t (hag249.t tp0))) (hag269.t (hag260.t (hag249.t tp1))) (hag269.t (hag260.t tq244)) _ _ _ hf hW hS (lv_sub hl [4, 5, 7, 8, 3, 2, 1] (by rw [(hag269.e (hag260.t (hag249.t tp0)) (hag260.e (hag249.t tp0) (hag249.e tp0 rfl))), (hag269.e (hag260.t (hag249.t tp1)) (hag260.e (hag249.t tp1) (hag249.e tp1 rfl))), (hag269.e (hag260.t tq244) (hag260.e tq244 eqq244))] <;> rfl))
        · replace hf := ifF c285 hf
          refine lv_aload_n hx hb dX8_receive_111 rfl (lv_at hl 4 rfl) ?_
          replace hf := obE hf
          obtain ⟨j286, qj286, hf⟩ := hf
          have tj286 := x_rt hW qj286 2 ⟨by decide, rfl⟩
          refine x_getr 711 (ci := 7) (C := RX8) (T := TX8) (N := 16) 11 hC hin8 hW (hag269.t (hag260.t (hag249.t tp0))) (hag269.e (hag260.t (hag249.t tp0)) (hag260.e (hag249.t tp0) (hag249.e tp0 rfl))) rfl ⟨by decide, by decide, rfl, rfl⟩ rfl w_3 dX8_receive_112 qj286 ?_
          refine lv_aload_n hx hb dX8_receive_115 rfl (lv_at hl 4 rfl) ?_
          refine x_geti 701 (ci := 7) (C := RX8) (T := TX8) (N := 16) 1 hC hin8 hW (hag269.t (hag260.t (hag249.t tp0))) (hag269.e (hag260.t (hag249.t tp0)) (hag260.e (hag249.t tp0) (hag249.e tp0 rfl))) rfl ⟨by decide, by decide, rfl, rfl⟩ rfl w_4 dX8_receive_116 ?_
          refine lv_bipush (v := 7) hx hb dX8_receive_119 (by decide) ?_
          refine lv_iload hx hb dX8_receive_121 (lv_at hl 0 rfl) ?_
          replace hf := obE hf
          obtain ⟨S288, hz287, hf⟩ := hf
          refine x_callV (As := [.int (si S282 701 p0), .int 7, .int r265]) (rest := []) (o := none) (S1 := S288) hC hl.1 hW hS hGs hA tj286 rfl (show vwCl[2]? = some (RX2, TX2, 5) ∧ 2 < 11 from ⟨rfl, by decide⟩) (c_X2_note l g ad267 n266 K268 H.size F S282 j286 (si S282 701 p0) ((7 : Int32)) r265 tj286 S288 hz287) (cwV 3 hts gX8_receive_X2_note rfl rfl rfl (by decide +kernel) ⟨Nat.le_of_ble_eq_true rfl, Nat.le_of_ble_eq_true rfl⟩) rfl rfl (Nat.le_of_ble_eq_true rfl) dX8_receive_123 ⟨Nat.le_of_ble_eq_true rfl, Nat.le_of_ble_eq_true rfl⟩ (fun H locs hPz287 hW hS => ?_)
          refine W.eq (g2 := F0 m 126 ls []) rfl ?_
          exact L126 ad267 K268 n266 (((Ag.rf.tr hag249).tr hag260).tr hag269) S288 p0 p1 p3 p4 x243 n 0 (hag269.t (hag260.t (hag249.t tp0))) (hag269.t (hag260.t (hag249.t tp1))) (hag269.t (hag260.t tq244)) _ _ _ hf hW hS (lv_sub hl [4, 5, 7, 8, 3, 2, 1] (by rw [(hag269.e (hag260.t (hag249.t tp0)) (hag260.e (hag249.t tp0) (hag249.e tp0 rfl))), (hag269.e (hag260.t (hag249.t tp1)) (hag260.e (hag249.t tp1) (hag249.e tp1 rfl))), (hag269.e (hag260.t tq244) (hag260.e tq244 eqq244))] <;> rfl))
  · replace hf := ifF (fun q => q c242) hf
    refine lv_bipush (v := -2) hx hb dX8_receive_21 (by decide) ?_
    obtain ⟨e1, e2, e3⟩ := so3 hf
    subst e1
    subst e2
    subst e3
    refine W.widen (k := 10) (n := 8177) (Nat.le_of_ble_eq_true rfl) (Nat.le_of_ble_eq_true rfl) ?_
    exact W.iret (v := (-2)) hx hb hr (fun t ht hWm => ⟨⟨ad, K, rfl, Ag.rf, trivial, by rw [ht]; exact hW⟩, hS.F ht⟩) hS.2.2 dX8_receive_23 hlk
set_option maxHeartbeats 4000000 in
set_option maxRecDepth 100000 in
theorem c_X10_deliver (l : Launch) (hfl : l.stackTraces = false) (g : GP) (ad : Nat → Nat) (n : Nat) (K : Nat → Nat) (sz F : Nat) (S0 : St) (p0 : Nat) (p1 : Int32) (p2 : Int32) (p3 : Int32) (tp0 : p0 < n ∧ K p0 = 9) (o9 : Nat ⊕ Int32) (S9 : St) (n9 : Nat) (hf : f_X10_deliver F S0 n p0 p1 p2 p3 = some (o9, S9, n9)) : vx_Met l yX10_deliver wsX10_deliver { frames := 7, cells := 12, slots := 8189, locals := 143 } (va_Pc [.ref (ad p0), .int p1, .int p2, .int p3] (PB g ad n K S0 sz)) (QT o9 (fun r => some (.int r)) (fun t => ∃ ad9 K9 : Nat → Nat, Ag ad K n ad9 K9 n9 ∧ Wb g ad9 n9 K9 S9 (dA ad n sz) t.heap) (dA ad n sz)) (XT o9 (fun t => ∃ ad9 K9 : Nat → Nat, Ag ad K n ad9 K9 n9 ∧ Wb g ad9 n9 K9 S9 (dA ad n sz) t.heap) (dA ad n sz)) 12 8189 (dA ad n sz) := by
  refine vx_ofW (cc := cX10_deliver) (maxL := 5) (ret := (some .int)) (by decide) rfl ?_
  intro p e s m args below meth c s₁ B hml hno hv
  obtain ⟨rfl, hsz, hW, hK, hGs⟩ := x_start hv
  subst hsz
  have hx := B.exec
  have hb := B.bytes
  have hr := B.returns
  have hts := atoms_spec (ws := wsX10_deliver) B.pre
  have hown : s.vm.findClass RX10 = some m.cls := findClass_of_methodNamed B.named
  have hlk := B.notSynchronized
  have hC : Cx g p s m _ c cX10_deliver RX10 wsX10_deliver 5 := ⟨hx, hb, hml, hown, hts, hK⟩
  have hA : ∀ q : Nat, s.heap.size ≤ q → dA ad n s.heap.size q := fun q h => Or.inr h
  have hS : va_S (dA ad n s.heap.size) s.heap s.heap [] := va_S.rf
  have hl := lv_entry ([.ref (ad p0), .int p1, .int p2, .int p3]) (n := 5) (Nat.le_of_ble_eq_true rfl)
  rw [lg_entry_eq]
  generalize (lg_sl ([.ref (ad p0), .int p1, .int p2, .int p3]) ++ List.replicate (5 - (lg_sl ([.ref (ad p0), .int p1, .int p2, .int p3])).length) Slot.unset).toArray = ls at hl ⊢
  have hl : lv_has ls 5 [(0, .ref (ad p0)), (1, .int p1), (2, .int p2), (3, .int p3)] := hl
  have hin8 : ∀ w ∈ wsX80, w ∈ wsX10_deliver := by decide +kernel
  have hin10 : ∀ w ∈ wsX100, w ∈ wsX10_deliver := by decide +kernel
  have w_0 := hts (.classLink RX10 60 "java/lang/IllegalStateException") (by decide +kernel)
  have w_1 := hts (.initialized "java/lang/IllegalStateException") (by decide +kernel)
  have w_2 := hts (.classLink RX10 70 "java/lang/IllegalArgumentException") (by decide +kernel)
  have w_3 := hts (.initialized "java/lang/IllegalArgumentException") (by decide +kernel)
  have w_4 := hts (.fieldLink RX10 42 "MailSpool" "now" "LMailSpool$Spool;") (by decide +kernel)
  have w_5 := va_Nw.use (A := (List.toArray [.ref (ad p0), .int p1, .int p2, .int p3])) rfl (hGs.1 (.fieldLinkNest RX10 104 "MailSpool$Spool" "rules" "LMailSpool$Rules;" "MailSpool") (by decide +kernel))
  have w_6 := hts (.fieldLink RX10 29 "MailSpool" "content" "LMailSpool$Content;") (by decide +kernel)
  have w_7 := va_Nw.use (A := (List.toArray [.ref (ad p0), .int p1, .int p2, .int p3])) rfl (hGs.1 (.fieldLinkNest RX10 183 "MailSpool$Spool" "messageCount" "I" "MailSpool") (by decide +kernel))
  have w_8 := va_Nw.use (A := (List.toArray [.ref (ad p0), .int p1, .int p2, .int p3])) rfl (hGs.1 (.fieldLinkNest RX10 186 "MailSpool$Spool" "store" "LMailSpool$Store;" "MailSpool") (by decide +kernel))
  have w_9 := hts (.fieldLink RX10 17 "MailSpool" "input" "LMailSpool$Bytes;") (by decide +kernel)
  have w_10 := hts (.classLink RX10 134 "java/util/NoSuchElementException") (by decide +kernel)
  have w_11 := hts (.initialized "java/util/NoSuchElementException") (by decide +kernel)
  have hat1 : ∀ w ∈ (vx_atS RX10 64 (exn 1) exNm).filter goodWord, w.before _ s = true := fun w h => hts w ((by decide +kernel : ∀ w ∈ (vx_atS RX10 64 (exn 1) exNm).filter goodWord, w ∈ wsX10_deliver) w h)
  have hat2 : ∀ w ∈ (vx_atS RX10 74 (exn 2) exNm).filter goodWord, w.before _ s = true := fun w h => hts w ((by decide +kernel : ∀ w ∈ (vx_atS RX10 74 (exn 2) exNm).filter goodWord, w ∈ wsX10_deliver) w h)
  have hat4 : ∀ w ∈ (nsAt RX10 138).filter goodWord, w.before _ s = true := fun w h => hts w ((by decide +kernel : ∀ w ∈ (nsAt RX10 138).filter goodWord, w ∈ wsX10_deliver) w h)
  have hGE := hGs.2.2.2.2.2.2.1
  have hGM := hGs.2.2.2.2.2.2.2.1
  have L98 : ∀ (adL KL : Nat → Nat) (nL : Nat) (hagL : Ag ad K n adL KL nL) (S0 : St)   (H : Heap) (locs : List Loc) (ls : Array Slot), f_X10_deliver_L98 F S0 nL  = some (o9, S9, n9) → Wb g adL nL KL S0 (dA ad n s.heap.size) H → va_S (dA ad n s.heap.size) s.heap H locs → lv_has ls 5 [] → W p l e (headSpec wsX10_deliver { frames := 7, cells := 12, slots := 8189, locals := 143 }).room s m (List.toArray [.ref (ad p0), .int p1, .int p2, .int p3]) below meth c H locs 2 12 (vx_MQ below (QT o9 (fun r => some (.int r)) (fun t => ∃ ad9 K9 : Nat → Nat, Ag ad K n ad9 K9 n9 ∧ Wb g ad9 n9 K9 S9 (dA ad n s.heap.size) t.heap) (dA ad n s.heap.size)) (XT o9 (fun t => ∃ ad9 K9 : Nat → Nat, Ag ad K n ad9 K9 n9 ∧ Wb g ad9 n9 K9 S9 (dA ad n s.heap.size) t.heap) (dA ad n s.heap.size)) (List.toArray [.ref (ad p0), .int p1, .int p2, .int p3]) s 12 8189 (dA ad n s.heap.size)) (F0 m 98 ls []) := by
    intro adL KL nL hagL S0  H locs ls hf hW hS hl
    unfold f_X10_deliver_L98 at hf
    obtain ⟨e1, e2, e3⟩ := so3 hf
    subst e1
    subst e2
    subst e3
    exact x_throwS (x := 1) (text := "the spool is full") hC hfl hno hl.1 hGs hS hlk w_0 w_1 (by decide +kernel) hat1 ⟨by decide +kernel, by decide +kernel, by decide +kernel⟩ dX10_deliver_98 dX10_deliver_101 dX10_deliver_102 dX10_deliver_104 dX10_deliver_107 (Nat.le_of_ble_eq_true rfl) (Nat.le_of_ble_eq_true rfl) (Nat.le_of_ble_eq_true rfl) (Nat.le_of_ble_eq_true rfl) (Nat.le_of_ble_eq_true rfl) (Nat.le_of_ble_eq_true rfl) (fun t hv hq hF => ⟨⟨1, rfl, rfl, adL, KL, hagL, hW.kept hq⟩, hF⟩)
  have L56 : ∀ (adL KL : Nat → Nat) (nL : Nat) (hagL : Ag ad K n adL KL nL) (S0 : St)   (H : Heap) (locs : List Loc) (ls : Array Slot), f_X10_deliver_L56 F S0 nL  = some (o9, S9, n9) → Wb g adL nL KL S0 (dA ad n s.heap.size) H → va_S (dA ad n s.heap.size) s.heap H locs → lv_has ls 5 [] → W p l e (headSpec wsX10_deliver { frames := 7, cells := 12, slots := 8189, locals := 143 }).room s m (List.toArray [.ref (ad p0), .int p1, .int p2, .int p3]) below meth c H locs 2 12 (vx_MQ below (QT o9 (fun r => some (.int r)) (fun t => ∃ ad9 K9 : Nat → Nat, Ag ad K n ad9 K9 n9 ∧ Wb g ad9 n9 K9 S9 (dA ad n s.heap.size) t.heap) (dA ad n s.heap.size)) (XT o9 (fun t => ∃ ad9 K9 : Nat → Nat, Ag ad K n ad9 K9 n9 ∧ Wb g ad9 n9 K9 S9 (dA ad n s.heap.size) t.heap) (dA ad n s.heap.size)) (List.toArray [.ref (ad p0), .int p1, .int p2, .int p3]) s 12 8189 (dA ad n s.heap.size)) (F0 m 56 ls []) := by
    intro adL KL nL hagL S0  H locs ls hf hW hS hl
    unfold f_X10_deliver_L56 at hf
    obtain ⟨e1, e2, e3⟩ := so3 hf
    subst e1
    subst e2
    subst e3
    exact x_throwS (x := 2) (text := "no recipients, or no content of a message") hC hfl hno hl.1 hGs hS hlk w_2 w_3 (by decide +kernel) hat2 ⟨by decide +kernel, by decide +kernel, by decide +kernel⟩ dX10_deliver_56 dX10_deliver_59 dX10_deliver_60 dX10_deliver_62 dX10_deliver_65 (Nat.le_of_ble_eq_true rfl) (Nat.le_of_ble_eq_true rfl) (Nat.le_of_ble_eq_true rfl) (Nat.le_of_ble_eq_true rfl) (Nat.le_of_ble_eq_true rfl) (Nat.le_of_ble_eq_true rfl) (fun t hv hq hF => ⟨⟨2, rfl, rfl, adL, KL, hagL, hW.kept hq⟩, hF⟩)
  have L15 : ∀ (adL KL : Nat → Nat) (nL : Nat) (hagL : Ag ad K n adL KL nL) (S0 : St) (v0 : Nat) (v1 : Int32) (v2 : Int32) (v3 : Int32) (tv0 : v0 < nL ∧ KL v0 = 9) (H : Heap) (locs : List Loc) (ls : Array Slot), f_X10_deliver_L15 F S0 nL v0 v1 v2 v3 = some (o9, S9, n9) → Wb g adL nL KL S0 (dA ad n s.heap.size) H → va_S (dA ad n s.heap.size) s.heap H locs → lv_has ls 5 [(0, .ref (adL v0)), (1, .int v1), (2, .int v2), (3, .int v3)] → W p l e (headSpec wsX10_deliver { frames := 7, cells := 12, slots := 8189, locals := 143 }).room s m (List.toArray [.ref (ad p0), .int p1, .int p2, .int p3]) below meth c H locs 2 12 (vx_MQ below (QT o9 (fun r => some (.int r)) (fun t => ∃ ad9 K9 : Nat → Nat, Ag ad K n ad9 K9 n9 ∧ Wb g ad9 n9 K9 S9 (dA ad n s.heap.size) t.heap) (dA ad n s.heap.size)) (XT o9 (fun t => ∃ ad9 K9 : Nat → Nat, Ag ad K n ad9 K9 n9 ∧ Wb g ad9 n9 K9 S9 (dA ad n s.heap.size) t.heap) (dA ad n s.heap.size)) (List.toArray [.ref (ad p0), .int p1, .int p2, .int p3]) s 12 8189 (dA ad n s.heap.size)) (F0 m 15 ls []) := by
    intro adL KL nL hagL S0 v0 v1 v2 v3 tv0 H locs ls hf hW hS hl
    unfold f_X10_deliver_L15 at hf
    refine lv_iload_n hx hb dX10_deliver_15 rfl (lv_at hl 2 rfl) ?_
    refine lv_aload_n hx hb dX10_deliver_16 rfl (lv_at hl 0 rfl) ?_
    replace hf := obE hf
    obtain ⟨j43, qj43, hf⟩ := hf
    have tj43 := x_rt hW qj43 7 ⟨by decide, rfl⟩
    refine x_getr 905 (ci := 9) (C := RX10) (T := TX10) (N := 11) 5 hC hin10 hW tv0 rfl rfl ⟨by decide, by decide, rfl, rfl⟩ rfl w_4 dX10_deliver_17 qj43 ?_
    replace hf := obE hf
    obtain ⟨j44, qj44, hf⟩ := hf
    have tj44 := x_rt hW qj44 6 ⟨by decide, rfl⟩
    refine x_getrN 700 (ci := 7) (C := RX8) (T := TX8) (N := 16) 0 hC hin8 hW tj43 rfl rfl ⟨by decide, by decide, rfl, rfl⟩ rfl w_5 dX10_deliver_20 qj44 ?_
    replace hf := obE hf
    obtain ⟨z45, hz45, hf⟩ := hf
    obtain ⟨r47, S46⟩ := z45
    replace hf := ltE (ltE hf r47 rfl) S46 rfl
    refine x_callV (As := []) (rest := [.int v2]) (o := (some (.int r47))) (S1 := S46) hC hl.1 hW hS hGs hA tj44 rfl (show vwCl[6]? = some (RX7, TX7, 16) ∧ 6 < 11 from ⟨rfl, by decide⟩) (c_X7_allUsers l g adL nL KL H.size F S0 j44 tj44 r47 S46 hz45) (cwV 0 hts gX10_deliver_X7_allUsers rfl rfl rfl (by decide +kernel) ⟨Nat.le_of_ble_eq_true rfl, Nat.le_of_ble_eq_true rfl⟩) rfl rfl (Nat.le_of_ble_eq_true rfl) dX10_deliver_23 ⟨Nat.le_of_ble_eq_true rfl, Nat.le_of_ble_eq_true rfl⟩ (fun H locs hPz45 hW hS => ?_)
    refine W.eq (g2 := F0 m 26 ls [.int r47, .int v2]) rfl ?_
    refine lv_iconst (v := -1) hx hb dX10_deliver_26 (by decide) ?_
    refine lv_ixor hx hb dX10_deliver_27 ?_
    refine lv_iand hx hb dX10_deliver_28 ?_
    refine lv_if_eq (tgt := 42) hx hb dX10_deliver_29 (by decide) (fun c49 => ?_) (fun c49 => ?_)
    · replace hf := ifT c49 hf
      refine lv_iload_n hx hb dX10_deliver_42 rfl (lv_at hl 2 rfl) ?_
      refine lv_if_eq (tgt := 56) hx hb dX10_deliver_43 (by decide) (fun c50 => ?_) (fun c50 => ?_)
      · replace hf := ifT c50 hf
        exact L56 adL KL nL hagL S46 _ _ _ hf hW hS (lv_sub hl [] rfl)
      · replace hf := ifF c50 hf
        refine lv_aload_n hx hb dX10_deliver_46 rfl (lv_at hl 0 rfl) ?_
        replace hf := obE hf
        obtain ⟨j51, qj51, hf⟩ := hf
        have tj51 := x_rt hW qj51 1 ⟨by decide, rfl⟩
        refine x_getr 902 (ci := 9) (C := RX10) (T := TX10) (N := 11) 2 hC hin10 hW tv0 rfl rfl ⟨by decide, by decide, rfl, rfl⟩ rfl w_6 dX10_deliver_47 qj51 ?_
        replace hf := obE hf
        obtain ⟨z52, hz52, hf⟩ := hf
        obtain ⟨r54, S53⟩ := z52
        replace hf := ltE (ltE hf r54 rfl) S53 rfl
        refine x_callV (As := []) (rest := []) (o := (some (.int r54))) (S1 := S53) hC hl.1 hW hS hGs hA tj51 rfl (show vwCl[1]? = some (RX1, TX1, 4) ∧ 1 < 11 from ⟨rfl, by decide⟩) (c_X1_cut l g adL nL KL H.size F S46 j51 tj51 r54 S53 hz52) (cwV 0 hts gX10_deliver_X1_cut rfl rfl rfl (by decide +kernel) ⟨Nat.le_of_ble_eq_true rfl, Nat.le_of_ble_eq_true rfl⟩) rfl rfl (Nat.le_of_ble_eq_true rfl) dX10_deliver_50 ⟨Nat.le_of_ble_eq_true rfl, Nat.le_of_ble_eq_true rfl⟩ (fun H locs hPz52 hW hS => ?_)
        refine W.eq (g2 := F0 m 53 ls [.int r54]) rfl ?_
        refine lv_if_ne (tgt := 66) hx hb dX10_deliver_53 (by decide) (fun c56 => ?_) (fun c56 => ?_)
        · replace hf := ifT c56 hf
          refine lv_aload_n hx hb dX10_deliver_66 rfl (lv_at hl 0 rfl) ?_
          replace hf := obE hf
          obtain ⟨j57, qj57, hf⟩ := hf
          have tj57 := x_rt hW qj57 7 ⟨by decide, rfl⟩
          refine x_getr 905 (ci := 9) (C := RX10) (T := TX10) (N := 11) 5 hC hin10 hW tv0 rfl rfl ⟨by decide, by decide, rfl, rfl⟩ rfl w_4 dX10_deliver_67 qj57 ?_
          refine x_getiN 705 (ci := 7) (C := RX8) (T := TX8) (N := 16) 5 hC hin8 hW tj57 rfl rfl ⟨by decide, by decide, rfl, rfl⟩ rfl w_7 dX10_deliver_70 ?_
          refine lv_bipush (v := 120) hx hb dX10_deliver_73 (by decide) ?_
          refine lv_icmp_ge (tgt := 98) hx hb dX10_deliver_75 (by decide) (fun c58 => ?_) (fun c58 => ?_)
          · replace hf := ifT c58 hf
            exact L98 adL KL nL hagL S53 _ _ _ hf hW hS (lv_sub hl [] rfl)
          · replace hf := ifF c58 hf
            refine lv_aload_n hx hb dX10_deliver_78 rfl (lv_at hl 0 rfl) ?_
            replace hf := obE hf
            obtain ⟨j59, qj59, hf⟩ := hf
            have tj59 := x_rt hW qj59 7 ⟨by decide, rfl⟩
            refine x_getr 905 (ci := 9) (C := RX10) (T := TX10) (N := 11) 5 hC hin10 hW tv0 rfl rfl ⟨by decide, by decide, rfl, rfl⟩ rfl w_4 dX10_deliver_79 qj59 ?_
            replace hf := obE hf
            obtain ⟨j60, qj60, hf⟩ := hf
            have tj60 := x_rt hW qj60 8 ⟨by decide, rfl⟩
            refine x_getrN 710 (ci := 7) (C := RX8) (T := TX8) (N := 16) 10 hC hin8 hW tj59 rfl rfl ⟨by decide, by decide, rfl, rfl⟩ rfl w_8 dX10_deliver_82 qj60 ?_
            refine lv_aload_n hx hb dX10_deliver_85 rfl (lv_at hl 0 rfl) ?_
            replace hf := obE hf
            obtain ⟨j61, qj61, hf⟩ := hf
            have tj61 := x_rt hW qj61 1 ⟨by decide, rfl⟩
            refine x_getr 902 (ci := 9) (C := RX10) (T := TX10) (N := 11) 2 hC hin10 hW tv0 rfl rfl ⟨by decide, by decide, rfl, rfl⟩ rfl w_6 dX10_deliver_86 qj61 ?_
            replace hf := obE hf
            obtain ⟨z62, hz62, hf⟩ := hf
            obtain ⟨r64, S63⟩ := z62
            replace hf := ltE (ltE hf r64 rfl) S63 rfl
            refine x_callV (As := [.ref (adL j61)]) (rest := []) (o := (some (.int r64))) (S1 := S63) hC hl.1 hW hS hGs hA tj60 rfl (show vwCl[8]? = some (RX9, TX9, 8) ∧ 8 < 11 from ⟨rfl, by decide⟩) (c_X9_bytesWith l g adL nL KL H.size F S53 j60 j61 tj60 tj61 r64 S63 hz62) (cwV 1 hts gX10_deliver_X9_bytesWith rfl rfl rfl (by decide +kernel) ⟨Nat.le_of_ble_eq_true rfl, Nat.le_of_ble_eq_true rfl⟩) rfl rfl (Nat.le_of_ble_eq_true rfl) dX10_deliver_89 ⟨Nat.le_of_ble_eq_true rfl, Nat.le_of_ble_eq_true rfl⟩ (fun H locs hPz62 hW hS => ?_)
            refine W.eq (g2 := F0 m 92 ls [.int r64]) rfl ?_
            refine lv_sipush (v := 8000) hx hb dX10_deliver_92 (by decide) ?_
            refine lv_icmp_le (tgt := 108) hx hb dX10_deliver_95 (by decide) (fun c66 => ?_) (fun c66 => ?_)
            · replace hf := ifT c66 hf
              refine lv_aload_n hx hb dX10_deliver_108 rfl (lv_at hl 0 rfl) ?_
              replace hf := obE hf
              obtain ⟨S68, hz67, hf⟩ := hf
              refine x_callV (As := []) (rest := []) (o := none) (S1 := S68) hC hl.1 hW hS hGs hA tv0 rfl (show vwCl[9]? = some (RX10, TX10, 11) ∧ 9 < 11 from ⟨rfl, by decide⟩) (c_X10_remember l g adL nL KL H.size F S63 v0 tv0 S68 hz67) (cwV 0 hts gX10_deliver_X10_remember rfl rfl rfl (by decide +kernel) ⟨Nat.le_of_ble_eq_true rfl, Nat.le_of_ble_eq_true rfl⟩) rfl rfl (Nat.le_of_ble_eq_true rfl) dX10_deliver_109 ⟨Nat.le_of_ble_eq_true rfl, Nat.le_of_ble_eq_true rfl⟩ (fun H locs hPz67 hW hS => ?_)
              refine W.eq (g2 := F0 m 112 ls []) rfl ?_
              refine lv_aload_n hx hb dX10_deliver_112 rfl (lv_at hl 0 rfl) ?_
              replace hf := obE hf
              obtain ⟨j71, qj71, hf⟩ := hf
              have tj71 := x_rt hW qj71 7 ⟨by decide, rfl⟩
              refine x_getr 905 (ci := 9) (C := RX10) (T := TX10) (N := 11) 5 hC hin10 hW tv0 rfl rfl ⟨by decide, by decide, rfl, rfl⟩ rfl w_4 dX10_deliver_113 qj71 ?_
              refine lv_aload_n hx hb dX10_deliver_116 rfl (lv_at hl 0 rfl) ?_
              replace hf := obE hf
              obtain ⟨j72, qj72, hf⟩ := hf
              have tj72 := x_rt hW qj72 1 ⟨by decide, rfl⟩
              refine x_getr 902 (ci := 9) (C := RX10) (T := TX10) (N := 11) 2 hC hin10 hW tv0 rfl rfl ⟨by decide, by decide, rfl, rfl⟩ rfl w_6 dX10_deliver_117 qj72 ?_
              refine lv_iload_n hx hb dX10_deliver_120 rfl (lv_at hl 1 rfl) ?_
              refine lv_iload_n hx hb dX10_deliver_121 rfl (lv_at hl 2 rfl) ?_
              refine lv_iload_n hx hb dX10_deliver_122 rfl (lv_at hl 3 rfl) ?_
              replace hf := obE hf
              obtain ⟨z73, hz73, hf⟩ := hf
              obtain ⟨r75, S74, n76⟩ := z73
              replace hf := ltE (ltE (ltE hf r75 rfl) S74 rfl) n76 rfl
              refine x_acallV (As := [.ref (adL j72), .int v1, .int v2, .int v3]) (rest := []) (S1 := S74) (n1 := n76) (o := (fun _ => some (.int r75))) (P := (fun _ => True)) hC hl.1 hW hS hGs hA tj71 rfl (show vwCl[7]? = some (RX8, TX8, 16) ∧ 7 < 11 from ⟨rfl, by decide⟩) (c_X8_receive l g adL nL KL H.size F S68 j71 j72 v1 v2 v3 tj71 tj72 r75 S74 n76 hz73) (cwV 4 hts gX10_deliver_X8_receive rfl rfl rfl (by decide +kernel) ⟨Nat.le_of_ble_eq_true rfl, Nat.le_of_ble_eq_true rfl⟩) rfl rfl (Nat.le_of_ble_eq_true rfl) dX10_deliver_123 ⟨Nat.le_of_ble_eq_true rfl, Nat.le_of_ble_eq_true rfl⟩ (fun ad77 K78 H locs hag79 hPz73 hW hS => ?_)
              refine W.widen (k := 12) (n := 8189) (Nat.le_of_ble_eq_true rfl) (Nat.le_of_ble_eq_true rfl) ?_
              refine W.eq (g2 := F0 m 126 ls [.int r75]) rfl ?_
              refine lv_istore (lv' := [(4, .int r75), (0, .ref (adL v0)), (1, .int v1), (2, .int v2), (3, .int v3)]) hx hb dX10_deliver_126 hl (by decide) rfl (fun ls hl => ?_)
              refine lv_aload_n hx hb dX10_deliver_128 rfl (lv_at hl 1 rfl) ?_
              replace hf := obE hf
              obtain ⟨j80, qj80, hf⟩ := hf
              have tj80 := x_rt hW qj80 0 ⟨by decide, rfl⟩
              refine x_getr 900 (ci := 9) (C := RX10) (T := TX10) (N := 11) 0 hC hin10 hW (hag79.t tv0) (hag79.e tv0 rfl) rfl ⟨by decide, by decide, rfl, rfl⟩ rfl w_9 dX10_deliver_129 qj80 ?_
              refine lv_iconst (v := 0) hx hb dX10_deliver_132 (by decide) ?_
              replace hf := obE hf
              obtain ⟨S82, hz81, hf⟩ := hf
              refine x_callV (As := [.int 0]) (rest := []) (o := none) (S1 := S82) hC hl.1 hW hS hGs hA tj80 rfl (show vwCl[0]? = some (RX0, TX0, 2) ∧ 0 < 11 from ⟨rfl, by decide⟩) (c_X0_cutTo l g ad77 n76 K78 H.size F S74 j80 ((0 : Int32)) tj80 S82 hz81) (cwV 1 hts gX10_deliver_X0_cutTo rfl rfl rfl (by decide +kernel) ⟨Nat.le_of_ble_eq_true rfl, Nat.le_of_ble_eq_true rfl⟩) rfl rfl (Nat.le_of_ble_eq_true rfl) dX10_deliver_133 ⟨Nat.le_of_ble_eq_true rfl, Nat.le_of_ble_eq_true rfl⟩ (fun H locs hPz81 hW hS => ?_)
              refine W.eq (g2 := F0 m 136 ls []) rfl ?_
              refine lv_iload hx hb dX10_deliver_136 (lv_at hl 0 rfl) ?_
              obtain ⟨e1, e2, e3⟩ := so3 hf
              subst e1
              subst e2
              subst e3
              exact vx_ret (W.iret (v := r75) hx hb hr (fun t ht hWm => ⟨⟨_, rfl, rfl, ad77, K78, hagL.tr hag79, by rw [ht]; exact hW⟩, hS.F ht⟩) hS.2.2 dX10_deliver_138 hlk)
            · replace hf := ifF c66 hf
              exact L98 adL KL nL hagL S63 _ _ _ hf hW hS (lv_sub hl [] rfl)
        · replace hf := ifF (fun q => q c56) hf
          exact L56 adL KL nL hagL S53 _ _ _ hf hW hS (lv_sub hl [] rfl)
    · replace hf := ifF c49 hf
      obtain ⟨e1, e2, e3⟩ := so3 hf
      subst e1
      subst e2
      subst e3
      exact x_throwNS (text := "no such recipient") hC hfl hno hl.1 hGs hS hlk w_10 w_11 (by decide +kernel) hat4 ⟨trivial, by decide +kernel, by decide +kernel⟩ dX10_deliver_32 dX10_deliver_35 dX10_deliver_36 dX10_deliver_38 dX10_deliver_41 (Nat.le_of_ble_eq_true rfl) (Nat.le_of_ble_eq_true rfl) (Nat.le_of_ble_eq_true rfl) (Nat.le_of_ble_eq_true rfl) (Nat.le_of_ble_eq_true rfl) (Nat.le_of_ble_eq_true rfl) (fun t hv hq hF => ⟨⟨4, rfl, rfl, adL, KL, hagL, hW.kept hq⟩, hF⟩)
  unfold f_X10_deliver at hf
  refine lv_aload_n hx hb dX10_deliver_0 rfl (lv_at hl 0 rfl) ?_
  refine lv_iload_n hx hb dX10_deliver_1 rfl (lv_at hl 1 rfl) ?_
  replace hf := obE hf
  obtain ⟨z85, hz85, hf⟩ := hf
  obtain ⟨oz85, S86⟩ := z85
  replace hf := ltE hf S86 rfl
  refine x_tcallV (As := [.int p1]) (rest := []) (S1 := S86) (o := oz85) (vr := (fun _ => none)) (P := True) hC hl.1 hW hS hGs hA tp0 rfl (show vwCl[9]? = some (RX10, TX10, 11) ∧ 9 < 11 from ⟨rfl, by decide⟩) (c_X10_needUser l hfl g ad n K s.heap.size F S0 p0 p1 tp0 oz85 S86 hz85) (cwV 1 hts gX10_deliver_X10_needUser rfl rfl rfl (by decide +kernel) ⟨Nat.le_of_ble_eq_true rfl, Nat.le_of_ble_eq_true rfl⟩) rfl rfl (Nat.le_of_ble_eq_true rfl) dX10_deliver_2 ⟨Nat.le_of_ble_eq_true rfl, Nat.le_of_ble_eq_true rfl⟩ (fun x89 H locs ce q9 ho hW hS hc1 hc2 hc3 => ?_) (fun r87 H locs ho hP hW hS => ?_)
  · replace hf := smL ho hf
    obtain ⟨e1, e2, e3⟩ := so3 hf
    subst e1
    subst e2
    subst e3
    exact x_toutA hno hlk rfl Ag.rf hW hS hc1 hc2 hc3 (Nat.le_of_ble_eq_true rfl) (Nat.le_of_ble_eq_true rfl)
  · replace hf := smR ho hf
    refine W.widen (k := 1) (n := 6) (Nat.le_of_ble_eq_true rfl) (Nat.le_of_ble_eq_true rfl) ?_
    refine W.eq (g2 := F0 m 5 ls []) rfl ?_
    refine lv_iload_n hx hb dX10_deliver_5 rfl (lv_at hl 3 rfl) ?_
    refine lv_iconst (v := -1) hx hb dX10_deliver_6 (by decide) ?_
    refine lv_icmp_eq (tgt := 15) hx hb dX10_deliver_7 (by decide) (fun c93 => ?_) (fun c93 => ?_)
    · replace hf := ifT c93 hf
      refine W.widen (k := 2) (n := 12) (Nat.le_of_ble_eq_true rfl) (Nat.le_of_ble_eq_true rfl) ?_
      exact L15 ad K n Ag.rf S86 p0 p1 p2 p3 tp0 _ _ _ hf hW hS (lv_sub hl [0, 1, 2, 3] rfl)
    · replace hf := ifF c93 hf
      refine lv_aload_n hx hb dX10_deliver_10 rfl (lv_at hl 0 rfl) ?_
      refine lv_iload_n hx hb dX10_deliver_11 rfl (lv_at hl 3 rfl) ?_
      replace hf := obE hf
      obtain ⟨z94, hz94, hf⟩ := hf
      obtain ⟨oz94, S95⟩ := z94
      replace hf := ltE hf S95 rfl
      refine x_tcallV (As := [.int p3]) (rest := []) (S1 := S95) (o := oz94) (vr := (fun _ => none)) (P := True) hC hl.1 hW hS hGs hA tp0 rfl (show vwCl[9]? = some (RX10, TX10, 11) ∧ 9 < 11 from ⟨rfl, by decide⟩) (c_X10_needClass l hfl g ad n K H.size F S86 p0 p3 tp0 oz94 S95 hz94) (cwV 1 hts gX10_deliver_X10_needClass rfl rfl rfl (by decide +kernel) ⟨Nat.le_of_ble_eq_true rfl, Nat.le_of_ble_eq_true rfl⟩) rfl rfl (Nat.le_of_ble_eq_true rfl) dX10_deliver_12 ⟨Nat.le_of_ble_eq_true rfl, Nat.le_of_ble_eq_true rfl⟩ (fun x98 H locs ce q9 ho hW hS hc1 hc2 hc3 => ?_) (fun r96 H locs ho hP hW hS => ?_)
      · replace hf := smL ho hf
        obtain ⟨e1, e2, e3⟩ := so3 hf
        subst e1
        subst e2
        subst e3
        exact x_toutA hno hlk rfl Ag.rf hW hS hc1 hc2 hc3 (Nat.le_of_ble_eq_true rfl) (Nat.le_of_ble_eq_true rfl)
      · replace hf := smR ho hf
        refine W.widen (k := 2) (n := 12) (Nat.le_of_ble_eq_true rfl) (Nat.le_of_ble_eq_true rfl) ?_
        refine W.eq (g2 := F0 m 15 ls []) rfl ?_
        exact L15 ad K n Ag.rf S95 p0 p1 p2 p3 tp0 _ _ _ hf hW hS (lv_sub hl [0, 1, 2, 3] rfl)
set_option maxHeartbeats 4000000 in
set_option maxRecDepth 100000 in
theorem c_X10_bounced (l : Launch) (g : GP) (ad : Nat → Nat) (n : Nat) (K : Nat → Nat) (sz F : Nat) (S0 : St) (p0 : Nat) (tp0 : p0 < n ∧ K p0 = 9) (r9 : Int32) (S9 : St) (hf : f_X10_bounced F S0 p0 = some (r9, S9)) : Met l yX10_bounced wsX10_bounced { frames := 0, cells := 0, slots := 0, locals := 0 } (va_Pc [.ref (ad p0)] (PB g ad n K S0 sz)) (QR (some (.int r9)) (QB g ad n K S9 (dA ad n sz) (True)) (dA ad n sz)) 0 0 (dA ad n sz) := by
  refine Met.ofW (cc := cX10_bounced) (maxL := 1) (ret := (some .int)) (by decide) rfl ?_
  intro p e s m args below meth c s₁ B hml hv
  obtain ⟨rfl, hsz, hW, hK, hGs⟩ := x_start hv
  subst hsz
  have hx := B.exec
  have hb := B.bytes
  have hr := B.returns
  have hts := atoms_spec (ws := wsX10_bounced) B.pre
  have hown : s.vm.findClass RX10 = some m.cls := findClass_of_methodNamed B.named
  have hlk := B.notSynchronized
  have hC : Cx g p s m _ c cX10_bounced RX10 wsX10_bounced 1 := ⟨hx, hb, hml, hown, hts, hK⟩
  have hA : ∀ q : Nat, s.heap.size ≤ q → dA ad n s.heap.size q := fun q h => Or.inr h
  have hS : va_S (dA ad n s.heap.size) s.heap s.heap [] := va_S.rf
  have hl := lv_entry ([.ref (ad p0)]) (n := 1) (Nat.le_of_ble_eq_true rfl)
  rw [lg_entry_eq]
  generalize (lg_sl ([.ref (ad p0)]) ++ List.replicate (1 - (lg_sl ([.ref (ad p0)])).length) Slot.unset).toArray = ls at hl ⊢
  have hl : lv_has ls 1 [(0, .ref (ad p0))] := hl
  have hin8 : ∀ w ∈ wsX80, w ∈ wsX10_bounced := by decide +kernel
  have hin10 : ∀ w ∈ wsX100, w ∈ wsX10_bounced := by decide +kernel
  have w_0 := hts (.fieldLink RX10 42 "MailSpool" "now" "LMailSpool$Spool;") (by decide +kernel)
  have w_1 := va_Nw.use (A := (List.toArray [.ref (ad p0)])) rfl (hGs.1 (.fieldLinkNest RX10 202 "MailSpool$Spool" "bouncedUsers" "I" "MailSpool") (by decide +kernel))
  have hGE := hGs.2.2.2.2.2.2.1
  have hGM := hGs.2.2.2.2.2.2.2.1
  unfold f_X10_bounced at hf
  refine lv_aload_n hx hb dX10_bounced_0 rfl (lv_at hl 0 rfl) ?_
  replace hf := obE hf
  obtain ⟨j1, qj1, hf⟩ := hf
  have tj1 := x_rt hW qj1 7 ⟨by decide, rfl⟩
  refine x_getr 905 (ci := 9) (C := RX10) (T := TX10) (N := 11) 5 hC hin10 hW tp0 rfl rfl ⟨by decide, by decide, rfl, rfl⟩ rfl w_0 dX10_bounced_1 qj1 ?_
  refine x_getiN 702 (ci := 7) (C := RX8) (T := TX8) (N := 16) 2 hC hin8 hW tj1 rfl rfl ⟨by decide, by decide, rfl, rfl⟩ rfl w_1 dX10_bounced_4 ?_
  obtain ⟨e1, e2⟩ := so2 hf
  subst e1
  subst e2
  exact W.iret (v := si S0 702 j1) hx hb hr (fun t ht hWm => ⟨⟨rfl, by unfold QB; rw [ht]; exact ⟨hW, trivial⟩⟩, hS.F ht⟩) hS.2.2 dX10_bounced_7 hlk
set_option maxHeartbeats 4000000 in
set_option maxRecDepth 100000 in
theorem c_X10_messageCount (l : Launch) (g : GP) (ad : Nat → Nat) (n : Nat) (K : Nat → Nat) (sz F : Nat) (S0 : St) (p0 : Nat) (tp0 : p0 < n ∧ K p0 = 9) (r9 : Int32) (S9 : St) (hf : f_X10_messageCount F S0 p0 = some (r9, S9)) : Met l yX10_messageCount wsX10_messageCount { frames := 0, cells := 0, slots := 0, locals := 0 } (va_Pc [.ref (ad p0)] (PB g ad n K S0 sz)) (QR (some (.int r9)) (QB g ad n K S9 (dA ad n sz) (True)) (dA ad n sz)) 0 0 (dA ad n sz) := by
  refine Met.ofW (cc := cX10_messageCount) (maxL := 1) (ret := (some .int)) (by decide) rfl ?_
  intro p e s m args below meth c s₁ B hml hv
  obtain ⟨rfl, hsz, hW, hK, hGs⟩ := x_start hv
  subst hsz
  have hx := B.exec
  have hb := B.bytes
  have hr := B.returns
  have hts := atoms_spec (ws := wsX10_messageCount) B.pre
  have hown : s.vm.findClass RX10 = some m.cls := findClass_of_methodNamed B.named
  have hlk := B.notSynchronized
  have hC : Cx g p s m _ c cX10_messageCount RX10 wsX10_messageCount 1 := ⟨hx, hb, hml, hown, hts, hK⟩
  have hA : ∀ q : Nat, s.heap.size ≤ q → dA ad n s.heap.size q := fun q h => Or.inr h
  have hS : va_S (dA ad n s.heap.size) s.heap s.heap [] := va_S.rf
  have hl := lv_entry ([.ref (ad p0)]) (n := 1) (Nat.le_of_ble_eq_true rfl)
  rw [lg_entry_eq]
  generalize (lg_sl ([.ref (ad p0)]) ++ List.replicate (1 - (lg_sl ([.ref (ad p0)])).length) Slot.unset).toArray = ls at hl ⊢
  have hl : lv_has ls 1 [(0, .ref (ad p0))] := hl
  have hin8 : ∀ w ∈ wsX80, w ∈ wsX10_messageCount := by decide +kernel
  have hin10 : ∀ w ∈ wsX100, w ∈ wsX10_messageCount := by decide +kernel
  have w_0 := hts (.fieldLink RX10 42 "MailSpool" "now" "LMailSpool$Spool;") (by decide +kernel)
  have w_1 := va_Nw.use (A := (List.toArray [.ref (ad p0)])) rfl (hGs.1 (.fieldLinkNest RX10 183 "MailSpool$Spool" "messageCount" "I" "MailSpool") (by decide +kernel))
  have hGE := hGs.2.2.2.2.2.2.1
  have hGM := hGs.2.2.2.2.2.2.2.1
  unfold f_X10_messageCount at hf
  refine lv_aload_n hx hb dX10_messageCount_0 rfl (lv_at hl 0 rfl) ?_
  replace hf := obE hf
  obtain ⟨j1, qj1, hf⟩ := hf
  have tj1 := x_rt hW qj1 7 ⟨by decide, rfl⟩
  refine x_getr 905 (ci := 9) (C := RX10) (T := TX10) (N := 11) 5 hC hin10 hW tp0 rfl rfl ⟨by decide, by decide, rfl, rfl⟩ rfl w_0 dX10_messageCount_1 qj1 ?_
  refine x_getiN 705 (ci := 7) (C := RX8) (T := TX8) (N := 16) 5 hC hin8 hW tj1 rfl rfl ⟨by decide, by decide, rfl, rfl⟩ rfl w_1 dX10_messageCount_4 ?_
  obtain ⟨e1, e2⟩ := so2 hf
  subst e1
  subst e2
  exact W.iret (v := si S0 705 j1) hx hb hr (fun t ht hWm => ⟨⟨rfl, by unfold QB; rw [ht]; exact ⟨hW, trivial⟩⟩, hS.F ht⟩) hS.2.2 dX10_messageCount_7 hlk
set_option maxHeartbeats 4000000 in
set_option maxRecDepth 100000 in
theorem c_X10_needMessage (l : Launch) (hfl : l.stackTraces = false) (g : GP) (ad : Nat → Nat) (n : Nat) (K : Nat → Nat) (sz F : Nat) (S0 : St) (p0 : Nat) (p1 : Int32) (tp0 : p0 < n ∧ K p0 = 9) (o9 : Nat ⊕ Unit) (S9 : St) (hf : f_X10_needMessage F S0 p0 p1 = some (o9, S9)) : vx_Met l yX10_needMessage wsX10_needMessage { frames := 6, cells := 1, slots := 6, locals := 100 } (va_Pc [.ref (ad p0), .int p1] (PB g ad n K S0 sz)) (QT o9 (fun _ => none) (QB g ad n K S9 (dA ad n sz) True) (dA ad n sz)) (XT o9 (QB g ad n K S9 (dA ad n sz) True) (dA ad n sz)) 1 6 (dA ad n sz) := by
  refine vx_ofW (cc := cX10_needMessage) (maxL := 2) (ret := none) (by decide) rfl ?_
  intro p e s m args below meth c s₁ B hml hno hv
  obtain ⟨rfl, hsz, hW, hK, hGs⟩ := x_start hv
  subst hsz
  have hx := B.exec
  have hb := B.bytes
  have hr := B.returns
  have hts := atoms_spec (ws := wsX10_needMessage) B.pre
  have hown : s.vm.findClass RX10 = some m.cls := findClass_of_methodNamed B.named
  have hlk := B.notSynchronized
  have hC : Cx g p s m _ c cX10_needMessage RX10 wsX10_needMessage 2 := ⟨hx, hb, hml, hown, hts, hK⟩
  have hA : ∀ q : Nat, s.heap.size ≤ q → dA ad n s.heap.size q := fun q h => Or.inr h
  have hS : va_S (dA ad n s.heap.size) s.heap s.heap [] := va_S.rf
  have hl := lv_entry ([.ref (ad p0), .int p1]) (n := 2) (Nat.le_of_ble_eq_true rfl)
  rw [lg_entry_eq]
  generalize (lg_sl ([.ref (ad p0), .int p1]) ++ List.replicate (2 - (lg_sl ([.ref (ad p0), .int p1])).length) Slot.unset).toArray = ls at hl ⊢
  have hl : lv_has ls 2 [(0, .ref (ad p0)), (1, .int p1)] := hl
  have hin8 : ∀ w ∈ wsX80, w ∈ wsX10_needMessage := by decide +kernel
  have hin10 : ∀ w ∈ wsX100, w ∈ wsX10_needMessage := by decide +kernel
  have w_0 := hts (.classLink RX10 134 "java/util/NoSuchElementException") (by decide +kernel)
  have w_1 := hts (.initialized "java/util/NoSuchElementException") (by decide +kernel)
  have w_2 := hts (.fieldLink RX10 42 "MailSpool" "now" "LMailSpool$Spool;") (by decide +kernel)
  have w_3 := va_Nw.use (A := (List.toArray [.ref (ad p0), .int p1])) rfl (hGs.1 (.fieldLinkNest RX10 183 "MailSpool$Spool" "messageCount" "I" "MailSpool") (by decide +kernel))
  have hat4 : ∀ w ∈ (nsAt RX10 138).filter goodWord, w.before _ s = true := fun w h => hts w ((by decide +kernel : ∀ w ∈ (nsAt RX10 138).filter goodWord, w ∈ wsX10_needMessage) w h)
  have hGE := hGs.2.2.2.2.2.2.1
  have hGM := hGs.2.2.2.2.2.2.2.1
  have L15 : ∀ (S0 : St)   (H : Heap) (locs : List Loc) (ls : Array Slot), f_X10_needMessage_L15 F S0  = some (o9, S9) → Wb g ad n K S0 (dA ad n s.heap.size) H → va_S (dA ad n s.heap.size) s.heap H locs → lv_has ls 2 [] → W p l e (headSpec wsX10_needMessage { frames := 6, cells := 1, slots := 6, locals := 100 }).room s m (List.toArray [.ref (ad p0), .int p1]) below meth c H locs 0 0 (vx_MQ below (QT o9 (fun _ => none) (QB g ad n K S9 (dA ad n s.heap.size) True) (dA ad n s.heap.size)) (XT o9 (QB g ad n K S9 (dA ad n s.heap.size) True) (dA ad n s.heap.size)) (List.toArray [.ref (ad p0), .int p1]) s 1 6 (dA ad n s.heap.size)) (F0 m 15 ls []) := by
    intro S0  H locs ls hf hW hS hl
    unfold f_X10_needMessage_L15 at hf
    obtain ⟨e1, e2⟩ := so2 hf
    subst e1
    subst e2
    exact x_throwNSW (text := "no such message") hC hfl hno hl.1 hGs hS hlk w_0 w_1 (by decide +kernel) hat4 ⟨trivial, by decide +kernel, by decide +kernel⟩ dX10_needMessage_15 dX10_needMessage_18 dX10_needMessage_19 dX10_needMessage_22 dX10_needMessage_25 (Nat.le_of_ble_eq_true rfl) (Nat.le_of_ble_eq_true rfl) (Nat.le_of_ble_eq_true rfl) (Nat.le_of_ble_eq_true rfl) (Nat.le_of_ble_eq_true rfl) (Nat.le_of_ble_eq_true rfl) (fun t hv hq hF => ⟨⟨4, rfl, rfl, hW.kept hq, trivial⟩, hF⟩)
  unfold f_X10_needMessage at hf
  refine lv_iload_n hx hb dX10_needMessage_0 rfl (lv_at hl 1 rfl) ?_
  refine lv_if_lt (tgt := 15) hx hb dX10_needMessage_1 (by decide) (fun c1 => ?_) (fun c1 => ?_)
  · replace hf := ifT c1 hf
    exact L15 S0 _ _ _ hf hW hS (lv_sub hl [] rfl)
  · replace hf := ifF c1 hf
    refine lv_iload_n hx hb dX10_needMessage_4 rfl (lv_at hl 1 rfl) ?_
    refine lv_aload_n hx hb dX10_needMessage_5 rfl (lv_at hl 0 rfl) ?_
    replace hf := obE hf
    obtain ⟨j2, qj2, hf⟩ := hf
    have tj2 := x_rt hW qj2 7 ⟨by decide, rfl⟩
    refine x_getr 905 (ci := 9) (C := RX10) (T := TX10) (N := 11) 5 hC hin10 hW tp0 rfl rfl ⟨by decide, by decide, rfl, rfl⟩ rfl w_2 dX10_needMessage_6 qj2 ?_
    refine x_getiN 705 (ci := 7) (C := RX8) (T := TX8) (N := 16) 5 hC hin8 hW tj2 rfl rfl ⟨by decide, by decide, rfl, rfl⟩ rfl w_3 dX10_needMessage_9 ?_
    refine lv_icmp_lt (tgt := 26) hx hb dX10_needMessage_12 (by decide) (fun c3 => ?_) (fun c3 => ?_)
    · replace hf := ifT c3 hf
      obtain ⟨e1, e2⟩ := so2 hf
      subst e1
      subst e2
      refine W.widen (k := 1) (n := 6) (Nat.le_of_ble_eq_true rfl) (Nat.le_of_ble_eq_true rfl) ?_
      exact vx_ret (W.vret hx hb hr (fun t ht hWm => ⟨⟨_, rfl, rfl, by unfold QB; rw [ht]; exact ⟨hW, trivial⟩⟩, hS.F ht⟩) hS.2.2 dX10_needMessage_26 hlk)
    · replace hf := ifF c3 hf
      exact L15 S0 _ _ _ hf hW hS (lv_sub hl [] rfl)
set_option maxHeartbeats 4000000 in
set_option maxRecDepth 100000 in
theorem c_X8_keepsMessage (l : Launch) (g : GP) (ad : Nat → Nat) (n : Nat) (K : Nat → Nat) (sz F : Nat) (S0 : St) (p0 : Nat) (p1 : Int32) (tp0 : p0 < n ∧ K p0 = 7) (r9 : Int32) (S9 : St) (hf : f_X8_keepsMessage F S0 p0 p1 = some (r9, S9)) : Met l yX8_keepsMessage wsX8_keepsMessage { frames := 2, cells := 0, slots := 0, locals := 43 } (va_Pc [.ref (ad p0), .int p1] (PB g ad n K S0 sz)) (QR (some (.int r9)) (QB g ad n K S9 (dA ad n sz) (True)) (dA ad n sz)) 0 0 (dA ad n sz) := by
  refine Met.ofW (cc := cX8_keepsMessage) (maxL := 4) (ret := (some .boolean)) (by decide) rfl ?_
  intro p e s m args below meth c s₁ B hml hv
  obtain ⟨rfl, hsz, hW, hK, hGs⟩ := x_start hv
  subst hsz
  have hx := B.exec
  have hb := B.bytes
  have hr := B.returns
  have hts := atoms_spec (ws := wsX8_keepsMessage) B.pre
  have hown : s.vm.findClass RX8 = some m.cls := findClass_of_methodNamed B.named
  have hlk := B.notSynchronized
  have hC : Cx g p s m _ c cX8_keepsMessage RX8 wsX8_keepsMessage 4 := ⟨hx, hb, hml, hown, hts, hK⟩
  have hA : ∀ q : Nat, s.heap.size ≤ q → dA ad n s.heap.size q := fun q h => Or.inr h
  have hS : va_S (dA ad n s.heap.size) s.heap s.heap [] := va_S.rf
  have hl := lv_entry ([.ref (ad p0), .int p1]) (n := 4) (Nat.le_of_ble_eq_true rfl)
  rw [lg_entry_eq]
  generalize (lg_sl ([.ref (ad p0), .int p1]) ++ List.replicate (4 - (lg_sl ([.ref (ad p0), .int p1])).length) Slot.unset).toArray = ls at hl ⊢
  have hl : lv_has ls 4 [(0, .ref (ad p0)), (1, .int p1)] := hl
  have hin5 : ∀ w ∈ wsX50, w ∈ wsX8_keepsMessage := by decide +kernel
  have hin7 : ∀ w ∈ wsX70, w ∈ wsX8_keepsMessage := by decide +kernel
  have hin8 : ∀ w ∈ wsX80, w ∈ wsX8_keepsMessage := by decide +kernel
  have w_0 := hts (.fieldLink RX8 9 "MailSpool$Spool" "rules" "LMailSpool$Rules;") (by decide +kernel)
  have w_1 := va_Nw.use (A := (List.toArray [.ref (ad p0), .int p1])) rfl (hGs.1 (.fieldLinkNest RX8 102 "MailSpool$Rules" "users" "LMailSpool$Names;" "MailSpool") (by decide +kernel))
  have w_2 := va_Nw.use (A := (List.toArray [.ref (ad p0), .int p1])) rfl (hGs.1 (.fieldLinkNest RX8 120 "MailSpool$Names" "size" "I" "MailSpool") (by decide +kernel))
  have hGE := hGs.2.2.2.2.2.2.1
  have hGM := hGs.2.2.2.2.2.2.2.1
  have L2 : ∀ (fu2 : Nat) (S0 : St) (v0 : Nat) (v1 : Int32) (v2 : Int32) (tv0 : v0 < n ∧ K v0 = 7) (H : Heap) (locs : List Loc) (ls : Array Slot), f_X8_keepsMessage_L2 F fu2 S0 v0 v1 v2 = some (r9, S9) → Wb g ad n K S0 (dA ad n s.heap.size) H → va_S (dA ad n s.heap.size) s.heap H locs → lv_has ls 4 [(0, .ref (ad v0)), (1, .int v1), (2, .int v2)] → W p l e (headSpec wsX8_keepsMessage { frames := 2, cells := 0, slots := 0, locals := 43 }).room s m (List.toArray [.ref (ad p0), .int p1]) below meth c H locs 0 0 (MQ below (QR (some (.int r9)) (QB g ad n K S9 (dA ad n s.heap.size) (True)) (dA ad n s.heap.size)) (List.toArray [.ref (ad p0), .int p1]) s 0 0 (dA ad n s.heap.size)) (F0 m 2 ls []) := by
    intro fu2
    induction fu2 with
    | zero =>
      intro S0 v0 v1 v2 tv0 H locs ls hf
      cases hf
    | succ fu2 ih2 =>
      have L34 : ∀ (S0 : St) (v0 : Nat) (v1 : Int32) (v2 : Int32) (tv0 : v0 < n ∧ K v0 = 7) (H : Heap) (locs : List Loc) (ls : Array Slot), f_X8_keepsMessage_L34 F (fun a0 a1 a2 a3 => f_X8_keepsMessage_L2 F fu2 a0 a1 a2 a3) S0 v0 v1 v2 = some (r9, S9) → Wb g ad n K S0 (dA ad n s.heap.size) H → va_S (dA ad n s.heap.size) s.heap H locs → lv_has ls 4 [(0, .ref (ad v0)), (1, .int v1), (2, .int v2)] → W p l e (headSpec wsX8_keepsMessage { frames := 2, cells := 0, slots := 0, locals := 43 }).room s m (List.toArray [.ref (ad p0), .int p1]) below meth c H locs 0 0 (MQ below (QR (some (.int r9)) (QB g ad n K S9 (dA ad n s.heap.size) (True)) (dA ad n s.heap.size)) (List.toArray [.ref (ad p0), .int p1]) s 0 0 (dA ad n s.heap.size)) (F0 m 34 ls []) := by
        intro S0 v0 v1 v2 tv0 H locs ls hf hW hS hl
        unfold f_X8_keepsMessage_L34 at hf
        obtain ⟨x2, ex2⟩ : ∃ z : Int32, z = v2 + 1 := ⟨_, rfl⟩
        replace hf := ltE hf x2 ex2
        refine lv_iinc (v := x2) (lv' := [(2, .int x2), (0, .ref (ad v0)), (1, .int v1)]) hx hb dX8_keepsMessage_34 hl (k := 2) rfl (by rw [ex2]; rfl) (by decide) rfl (fun ls hl => ?_)
        refine lv_goto (tgt := 2) hx hb dX8_keepsMessage_37 (by decide) ?_
        exact ih2 S0 v0 v1 x2 tv0 _ _ _ hf hW hS (lv_sub hl [1, 2, 0] rfl)
      intro S0 v0 v1 v2 tv0 H locs ls hf hW hS hl
      unfold f_X8_keepsMessage_L2 at hf
      refine lv_iload_n hx hb dX8_keepsMessage_2 rfl (lv_at hl 2 rfl) ?_
      refine lv_aload_n hx hb dX8_keepsMessage_3 rfl (lv_at hl 0 rfl) ?_
      replace hf := obE hf
      obtain ⟨j12, qj12, hf⟩ := hf
      have tj12 := x_rt hW qj12 6 ⟨by decide, rfl⟩
      refine x_getr 700 (ci := 7) (C := RX8) (T := TX8) (N := 16) 0 hC hin8 hW tv0 rfl rfl ⟨by decide, by decide, rfl, rfl⟩ rfl w_0 dX8_keepsMessage_4 qj12 ?_
      replace hf := obE hf
      obtain ⟨j13, qj13, hf⟩ := hf
      have tj13 := x_rt hW qj13 4 ⟨by decide, rfl⟩
      refine x_getrN 606 (ci := 6) (C := RX7) (T := TX7) (N := 16) 6 hC hin7 hW tj12 rfl rfl ⟨by decide, by decide, rfl, rfl⟩ rfl w_1 dX8_keepsMessage_7 qj13 ?_
      refine x_getiN 401 (ci := 4) (C := RX5) (T := TX5) (N := 2) 1 hC hin5 hW tj13 rfl rfl ⟨by decide, by decide, rfl, rfl⟩ rfl w_2 dX8_keepsMessage_10 ?_
      refine lv_icmp_ge (tgt := 40) hx hb dX8_keepsMessage_13 (by decide) (fun c14 => ?_) (fun c14 => ?_)
      · replace hf := ifT c14 hf
        refine lv_iconst (v := 0) hx hb dX8_keepsMessage_40 (by decide) ?_
        obtain ⟨e1, e2⟩ := so2 hf
        subst e1
        subst e2
        exact W.zret (v := 0) hx hb hr rfl (fun t ht hWm => ⟨⟨rfl, by unfold QB; rw [ht]; exact ⟨hW, trivial⟩⟩, hS.F ht⟩) hS.2.2 dX8_keepsMessage_41 hlk
      · replace hf := ifF c14 hf
        refine lv_aload_n hx hb dX8_keepsMessage_16 rfl (lv_at hl 0 rfl) ?_
        refine lv_iload_n hx hb dX8_keepsMessage_17 rfl (lv_at hl 1 rfl) ?_
        refine lv_iload_n hx hb dX8_keepsMessage_18 rfl (lv_at hl 2 rfl) ?_
        replace hf := obE hf
        obtain ⟨z15, hz15, hf⟩ := hf
        obtain ⟨r17, S16⟩ := z15
        replace hf := ltE (ltE hf r17 rfl) S16 rfl
        refine x_callV (As := [.int v1, .int v2]) (rest := []) (o := (some (.int r17))) (S1 := S16) hC hl.1 hW hS hGs hA tv0 rfl (show vwCl[7]? = some (RX8, TX8, 16) ∧ 7 < 11 from ⟨rfl, by decide⟩) (c_X8_stateOf l g ad n K H.size F S0 v0 v1 v2 tv0 r17 S16 hz15) (cwV 2 hts gX8_keepsMessage_X8_stateOf rfl rfl rfl (by decide +kernel) ⟨Nat.le_of_ble_eq_true rfl, Nat.le_of_ble_eq_true rfl⟩) rfl rfl (Nat.le_of_ble_eq_true rfl) dX8_keepsMessage_19 ⟨Nat.le_of_ble_eq_true rfl, Nat.le_of_ble_eq_true rfl⟩ (fun H locs hPz15 hW hS => ?_)
        refine W.eq (g2 := F0 m 22 ls [.int r17]) rfl ?_
        refine lv_istore_n (lv' := [(3, .int r17), (0, .ref (ad v0)), (1, .int v1), (2, .int v2)]) hx hb dX8_keepsMessage_22 rfl hl (by decide) rfl (fun ls hl => ?_)
        refine lv_iload_n hx hb dX8_keepsMessage_23 rfl (lv_at hl 0 rfl) ?_
        refine lv_if_lt (tgt := 34) hx hb dX8_keepsMessage_24 (by decide) (fun c19 => ?_) (fun c19 => ?_)
        · replace hf := ifT c19 hf
          exact L34 S16 v0 v1 v2 tv0 _ _ _ hf hW hS (lv_sub hl [1, 2, 3] rfl)
        · replace hf := ifF c19 hf
          refine lv_iload_n hx hb dX8_keepsMessage_27 rfl (lv_at hl 0 rfl) ?_
          refine lv_iconst (v := 2) hx hb dX8_keepsMessage_28 (by decide) ?_
          refine lv_icmp_gt (tgt := 34) hx hb dX8_keepsMessage_29 (by decide) (fun c20 => ?_) (fun c20 => ?_)
          · replace hf := ifT c20 hf
            exact L34 S16 v0 v1 v2 tv0 _ _ _ hf hW hS (lv_sub hl [1, 2, 3] rfl)
          · replace hf := ifF c20 hf
            refine lv_iconst (v := 1) hx hb dX8_keepsMessage_32 (by decide) ?_
            obtain ⟨e1, e2⟩ := so2 hf
            subst e1
            subst e2
            exact W.zret (v := 1) hx hb hr rfl (fun t ht hWm => ⟨⟨rfl, by unfold QB; rw [ht]; exact ⟨hW, trivial⟩⟩, hS.F ht⟩) hS.2.2 dX8_keepsMessage_33 hlk
  unfold f_X8_keepsMessage at hf
  refine lv_iconst (v := 0) hx hb dX8_keepsMessage_0 (by decide) ?_
  refine lv_istore_n (lv' := [(2, .int 0), (0, .ref (ad p0)), (1, .int p1)]) hx hb dX8_keepsMessage_1 rfl hl (by decide) rfl (fun ls hl => ?_)
  exact L2 F S0 p0 p1 0 tp0 _ _ _ hf hW hS (lv_sub hl [1, 2, 0] rfl)
set_option maxHeartbeats 4000000 in
set_option maxRecDepth 100000 in
theorem c_X10_message (l : Launch) (hfl : l.stackTraces = false) (g : GP) (ad : Nat → Nat) (n : Nat) (K : Nat → Nat) (sz F : Nat) (S0 : St) (p0 : Nat) (p1 : Int32) (p2 : Int32) (tp0 : p0 < n ∧ K p0 = 9) (o9 : Nat ⊕ Int32) (S9 : St) (hf : f_X10_message F S0 p0 p1 p2 = some (o9, S9)) : vx_Met l yX10_message wsX10_message { frames := 7, cells := 2, slots := 12, locals := 121 } (va_Pc [.ref (ad p0), .int p1, .int p2] (PB g ad n K S0 sz)) (QT o9 (fun r => some (.int r)) (QB g ad n K S9 (dA ad n sz) True) (dA ad n sz)) (XT o9 (QB g ad n K S9 (dA ad n sz) True) (dA ad n sz)) 2 12 (dA ad n sz) := by
  refine vx_ofW (cc := cX10_message) (maxL := 4) (ret := (some .int)) (by decide) rfl ?_
  intro p e s m args below meth c s₁ B hml hno hv
  obtain ⟨rfl, hsz, hW, hK, hGs⟩ := x_start hv
  subst hsz
  have hx := B.exec
  have hb := B.bytes
  have hr := B.returns
  have hts := atoms_spec (ws := wsX10_message) B.pre
  have hown : s.vm.findClass RX10 = some m.cls := findClass_of_methodNamed B.named
  have hlk := B.notSynchronized
  have hC : Cx g p s m _ c cX10_message RX10 wsX10_message 4 := ⟨hx, hb, hml, hown, hts, hK⟩
  have hA : ∀ q : Nat, s.heap.size ≤ q → dA ad n s.heap.size q := fun q h => Or.inr h
  have hS : va_S (dA ad n s.heap.size) s.heap s.heap [] := va_S.rf
  have hl := lv_entry ([.ref (ad p0), .int p1, .int p2]) (n := 4) (Nat.le_of_ble_eq_true rfl)
  rw [lg_entry_eq]
  generalize (lg_sl ([.ref (ad p0), .int p1, .int p2]) ++ List.replicate (4 - (lg_sl ([.ref (ad p0), .int p1, .int p2])).length) Slot.unset).toArray = ls at hl ⊢
  have hl : lv_has ls 4 [(0, .ref (ad p0)), (1, .int p1), (2, .int p2)] := hl
  have hin4 : ∀ w ∈ wsX40, w ∈ wsX10_message := by decide +kernel
  have hin10 : ∀ w ∈ wsX100, w ∈ wsX10_message := by decide +kernel
  have w_0 := hts (.fieldLink RX10 42 "MailSpool" "now" "LMailSpool$Spool;") (by decide +kernel)
  have w_1 := va_Nw.use (A := (List.toArray [.ref (ad p0), .int p1, .int p2])) rfl (hGs.1 (.fieldLinkNest RX10 212 "MailSpool$Message" "sender" "I" "MailSpool") (by decide +kernel))
  have w_2 := va_Nw.use (A := (List.toArray [.ref (ad p0), .int p1, .int p2])) rfl (hGs.1 (.fieldLinkNest RX10 217 "MailSpool$Message" "day" "I" "MailSpool") (by decide +kernel))
  have w_3 := va_Nw.use (A := (List.toArray [.ref (ad p0), .int p1, .int p2])) rfl (hGs.1 (.fieldLinkNest RX10 218 "MailSpool$Message" "parts" "[I" "MailSpool") (by decide +kernel))
  have w_4 := va_Nw.use (A := (List.toArray [.ref (ad p0), .int p1, .int p2])) rfl (hGs.1 (.fieldLinkNest RX10 221 "MailSpool$Message" "size" "I" "MailSpool") (by decide +kernel))
  have hGE := hGs.2.2.2.2.2.2.1
  have hGM := hGs.2.2.2.2.2.2.2.1
  unfold f_X10_message at hf
  refine lv_aload_n hx hb dX10_message_0 rfl (lv_at hl 0 rfl) ?_
  refine lv_iload_n hx hb dX10_message_1 rfl (lv_at hl 1 rfl) ?_
  replace hf := obE hf
  obtain ⟨z1, hz1, hf⟩ := hf
  obtain ⟨oz1, S2⟩ := z1
  replace hf := ltE hf S2 rfl
  refine x_tcallV (As := [.int p1]) (rest := []) (S1 := S2) (o := oz1) (vr := (fun _ => none)) (P := True) hC hl.1 hW hS hGs hA tp0 rfl (show vwCl[9]? = some (RX10, TX10, 11) ∧ 9 < 11 from ⟨rfl, by decide⟩) (c_X10_needMessage l hfl g ad n K s.heap.size F S0 p0 p1 tp0 oz1 S2 hz1) (cwV 1 hts gX10_message_X10_needMessage rfl rfl rfl (by decide +kernel) ⟨Nat.le_of_ble_eq_true rfl, Nat.le_of_ble_eq_true rfl⟩) rfl rfl (Nat.le_of_ble_eq_true rfl) dX10_message_2 ⟨Nat.le_of_ble_eq_true rfl, Nat.le_of_ble_eq_true rfl⟩ (fun x5 H locs ce q9 ho hW hS hc1 hc2 hc3 => ?_) (fun r3 H locs ho hP hW hS => ?_)
  · replace hf := smL ho hf
    obtain ⟨e1, e2⟩ := so2 hf
    subst e1
    subst e2
    exact x_tout hno hlk rfl hW hS hc1 hc2 hc3 (Nat.le_of_ble_eq_true rfl) (Nat.le_of_ble_eq_true rfl)
  · replace hf := smR ho hf
    refine W.widen (k := 1) (n := 6) (Nat.le_of_ble_eq_true rfl) (Nat.le_of_ble_eq_true rfl) ?_
    refine W.eq (g2 := F0 m 5 ls []) rfl ?_
    refine lv_iload_n hx hb dX10_message_5 rfl (lv_at hl 2 rfl) ?_
    refine lv_iconst (v := 4) hx hb dX10_message_6 (by decide) ?_
    replace hf := obE hf
    obtain ⟨z9, hz9, hf⟩ := hf
    obtain ⟨oz9, S10⟩ := z9
    replace hf := ltE hf S10 rfl
    refine x_tcallS (As := [.int p2, .int 4]) (rest := []) (S1 := S10) (o := oz9) (vr := (fun _ => none)) (P := True) hC hl.1 hW hS hGs hA (c_X10_needWhat l hfl g ad n K H.size F S2 p2 ((4 : Int32)) oz9 S10 hz9) (va_cwS 2 hts gX10_message_X10_needWhat rfl rfl rfl (by decide +kernel) ⟨Nat.le_of_ble_eq_true rfl, Nat.le_of_ble_eq_true rfl⟩) rfl rfl (Nat.le_of_ble_eq_true rfl) dX10_message_7 ⟨Nat.le_of_ble_eq_true rfl, Nat.le_of_ble_eq_true rfl⟩ (fun x13 H locs ce q9 ho hW hS hc1 hc2 hc3 => ?_) (fun r11 H locs ho hP hW hS => ?_)
    · replace hf := smL ho hf
      obtain ⟨e1, e2⟩ := so2 hf
      subst e1
      subst e2
      exact x_tout hno hlk rfl hW hS hc1 hc2 hc3 (Nat.le_of_ble_eq_true rfl) (Nat.le_of_ble_eq_true rfl)
    · replace hf := smR ho hf
      refine W.widen (k := 2) (n := 12) (Nat.le_of_ble_eq_true rfl) (Nat.le_of_ble_eq_true rfl) ?_
      refine W.eq (g2 := F0 m 10 ls []) rfl ?_
      refine lv_aload_n hx hb dX10_message_10 rfl (lv_at hl 0 rfl) ?_
      replace hf := obE hf
      obtain ⟨j17, qj17, hf⟩ := hf
      have tj17 := x_rt hW qj17 7 ⟨by decide, rfl⟩
      refine x_getr 905 (ci := 9) (C := RX10) (T := TX10) (N := 11) 5 hC hin10 hW tp0 rfl rfl ⟨by decide, by decide, rfl, rfl⟩ rfl w_0 dX10_message_11 qj17 ?_
      refine lv_iload_n hx hb dX10_message_14 rfl (lv_at hl 1 rfl) ?_
      replace hf := obE hf
      obtain ⟨z18, hz18, hf⟩ := hf
      obtain ⟨r20, S19⟩ := z18
      replace hf := ltE (ltE hf r20 rfl) S19 rfl
      refine x_callV (As := [.int p1]) (rest := []) (o := (some (va_re ad r20))) (S1 := S19) hC hl.1 hW hS hGs hA tj17 rfl (show vwCl[7]? = some (RX8, TX8, 16) ∧ 7 < 11 from ⟨rfl, by decide⟩) (c_X8_messageAt l g ad n K H.size F S10 j17 p1 tj17 r20 S19 hz18) (cwV 1 hts gX10_message_X8_messageAt rfl rfl rfl (by decide +kernel) ⟨Nat.le_of_ble_eq_true rfl, Nat.le_of_ble_eq_true rfl⟩) rfl rfl (Nat.le_of_ble_eq_true rfl) dX10_message_15 ⟨Nat.le_of_ble_eq_true rfl, Nat.le_of_ble_eq_true rfl⟩ (fun H locs hPz18 hW hS => ?_)
      replace hf := obE hf
      obtain ⟨j22, qj22, hf⟩ := hf
      have tj22 := hPz18 j22 qj22
      refine W.eq (g2 := F0 m 18 ls [.ref (ad j22)]) (by rw [qj22]; rfl) ?_
      refine lv_astore_n (lv' := [(3, .ref (ad j22)), (0, .ref (ad p0)), (1, .int p1), (2, .int p2)]) hx hb dX10_message_18 rfl hl (by decide) rfl (fun ls hl => ?_)
      refine lv_iload_n hx hb dX10_message_19 rfl (lv_at hl 3 rfl) ?_
      by_cases c23 : p2 = 0
      · replace hf := ifT c23 hf
        refine lv_tableIn (tgt := 52) hx hb dX10_message_20 (by rw [c23]; decide) (by rw [c23]; decide) (by rw [c23]; rfl) (by decide) ?_
        refine lv_aload_n hx hb dX10_message_52 rfl (lv_at hl 0 rfl) ?_
        refine x_getiN 300 (ci := 3) (C := RX4) (T := TX4) (N := 5) 0 hC hin4 hW tj22 rfl rfl ⟨by decide, by decide, rfl, rfl⟩ rfl w_1 dX10_message_53 ?_
        obtain ⟨e1, e2⟩ := so2 hf
        subst e1
        subst e2
        exact vx_ret (W.iret (v := si S19 300 j22) hx hb hr (fun t ht hWm => ⟨⟨_, rfl, rfl, by unfold QB; rw [ht]; exact ⟨hW, trivial⟩⟩, hS.F ht⟩) hS.2.2 dX10_message_56 hlk)
      · replace hf := ifF c23 hf
        by_cases c24 : p2 = 1
        · replace hf := ifT c24 hf
          refine lv_tableIn (tgt := 57) hx hb dX10_message_20 (by rw [c24]; decide) (by rw [c24]; decide) (by rw [c24]; rfl) (by decide) ?_
          refine lv_aload_n hx hb dX10_message_57 rfl (lv_at hl 0 rfl) ?_
          refine x_getiN 301 (ci := 3) (C := RX4) (T := TX4) (N := 5) 1 hC hin4 hW tj22 rfl rfl ⟨by decide, by decide, rfl, rfl⟩ rfl w_2 dX10_message_58 ?_
          obtain ⟨e1, e2⟩ := so2 hf
          subst e1
          subst e2
          exact vx_ret (W.iret (v := si S19 301 j22) hx hb hr (fun t ht hWm => ⟨⟨_, rfl, rfl, by unfold QB; rw [ht]; exact ⟨hW, trivial⟩⟩, hS.F ht⟩) hS.2.2 dX10_message_61 hlk)
        · replace hf := ifF c24 hf
          by_cases c25 : p2 = 2
          · replace hf := ifT c25 hf
            refine lv_tableIn (tgt := 62) hx hb dX10_message_20 (by rw [c25]; decide) (by rw [c25]; decide) (by rw [c25]; rfl) (by decide) ?_
            refine lv_aload_n hx hb dX10_message_62 rfl (lv_at hl 0 rfl) ?_
            replace hf := obE hf
            obtain ⟨j26, qj26, hf⟩ := hf
            have tj26 := x_rt hW qj26 12 ⟨by decide, rfl⟩
            refine x_getrN 303 (ci := 3) (C := RX4) (T := TX4) (N := 5) 3 hC hin4 hW tj22 rfl rfl ⟨by decide, by decide, rfl, rfl⟩ rfl w_3 dX10_message_63 qj26 ?_
            refine x_alen hC hW tj26 rfl ⟨by decide, by decide⟩ dX10_message_66 ?_
            obtain ⟨e1, e2⟩ := so2 hf
            subst e1
            subst e2
            exact vx_ret (W.iret (v := nI (ln S19 j26)) hx hb hr (fun t ht hWm => ⟨⟨_, rfl, rfl, by unfold QB; rw [ht]; exact ⟨hW, trivial⟩⟩, hS.F ht⟩) hS.2.2 dX10_message_67 hlk)
          · replace hf := ifF c25 hf
            by_cases c27 : p2 = 3
            · replace hf := ifT c27 hf
              refine lv_tableIn (tgt := 68) hx hb dX10_message_20 (by rw [c27]; decide) (by rw [c27]; decide) (by rw [c27]; rfl) (by decide) ?_
              refine lv_aload_n hx hb dX10_message_68 rfl (lv_at hl 0 rfl) ?_
              refine x_getiN 302 (ci := 3) (C := RX4) (T := TX4) (N := 5) 2 hC hin4 hW tj22 rfl rfl ⟨by decide, by decide, rfl, rfl⟩ rfl w_4 dX10_message_69 ?_
              obtain ⟨e1, e2⟩ := so2 hf
              subst e1
              subst e2
              exact vx_ret (W.iret (v := si S19 302 j22) hx hb hr (fun t ht hWm => ⟨⟨_, rfl, rfl, by unfold QB; rw [ht]; exact ⟨hW, trivial⟩⟩, hS.F ht⟩) hS.2.2 dX10_message_72 hlk)
            · replace hf := ifF c27 hf
              refine lv_tableOut (tgt := 73) hx hb dX10_message_20 (sw_out4 c23 c24 c25 c27) (by decide) ?_
              refine lv_aload_n hx hb dX10_message_73 rfl (lv_at hl 1 rfl) ?_
              replace hf := obE hf
              obtain ⟨j28, qj28, hf⟩ := hf
              have tj28 := x_rt hW qj28 7 ⟨by decide, rfl⟩
              refine x_getr 905 (ci := 9) (C := RX10) (T := TX10) (N := 11) 5 hC hin10 hW tp0 rfl rfl ⟨by decide, by decide, rfl, rfl⟩ rfl w_0 dX10_message_74 qj28 ?_
              refine lv_iload_n hx hb dX10_message_77 rfl (lv_at hl 2 rfl) ?_
              replace hf := obE hf
              obtain ⟨z29, hz29, hf⟩ := hf
              obtain ⟨r31, S30⟩ := z29
              replace hf := ltE (ltE hf r31 rfl) S30 rfl
              refine x_callV (As := [.int p1]) (rest := []) (o := (some (.int r31))) (S1 := S30) hC hl.1 hW hS hGs hA tj28 rfl (show vwCl[7]? = some (RX8, TX8, 16) ∧ 7 < 11 from ⟨rfl, by decide⟩) (c_X8_keepsMessage l g ad n K H.size F S19 j28 p1 tj28 r31 S30 hz29) (cwV 1 hts gX10_message_X8_keepsMessage rfl rfl rfl (by decide +kernel) ⟨Nat.le_of_ble_eq_true rfl, Nat.le_of_ble_eq_true rfl⟩) rfl rfl (Nat.le_of_ble_eq_true rfl) dX10_message_78 ⟨Nat.le_of_ble_eq_true rfl, Nat.le_of_ble_eq_true rfl⟩ (fun H locs hPz29 hW hS => ?_)
              refine W.eq (g2 := F0 m 81 ls [.int r31]) rfl ?_
              refine lv_if_eq (tgt := 88) hx hb dX10_message_81 (by decide) (fun c33 => ?_) (fun c33 => ?_)
              · replace hf := ifT c33 hf
                refine lv_iconst (v := 0) hx hb dX10_message_88 (by decide) ?_
                obtain ⟨e1, e2⟩ := so2 hf
                subst e1
                subst e2
                exact vx_ret (W.iret (v := 0) hx hb hr (fun t ht hWm => ⟨⟨_, rfl, rfl, by unfold QB; rw [ht]; exact ⟨hW, trivial⟩⟩, hS.F ht⟩) hS.2.2 dX10_message_89 hlk)
              · replace hf := ifF c33 hf
                refine lv_iconst (v := 1) hx hb dX10_message_84 (by decide) ?_
                refine lv_goto (tgt := 89) hx hb dX10_message_85 (by decide) ?_
                obtain ⟨e1, e2⟩ := so2 hf
                subst e1
                subst e2
                exact vx_ret (W.iret (v := 1) hx hb hr (fun t ht hWm => ⟨⟨_, rfl, rfl, by unfold QB; rw [ht]; exact ⟨hW, trivial⟩⟩, hS.F ht⟩) hS.2.2 dX10_message_89 hlk)
set_option maxHeartbeats 4000000 in
set_option maxRecDepth 100000 in
theorem c_X10_partOf (l : Launch) (hfl : l.stackTraces = false) (g : GP) (ad : Nat → Nat) (n : Nat) (K : Nat → Nat) (sz F : Nat) (S0 : St) (p0 : Nat) (p1 : Int32) (p2 : Int32) (tp0 : p0 < n ∧ K p0 = 9) (o9 : Nat ⊕ Int32) (S9 : St) (hf : f_X10_partOf F S0 p0 p1 p2 = some (o9, S9)) : vx_Met l yX10_partOf wsX10_partOf { frames := 7, cells := 2, slots := 12, locals := 121 } (va_Pc [.ref (ad p0), .int p1, .int p2] (PB g ad n K S0 sz)) (QT o9 (fun r => some (.int r)) (QB g ad n K S9 (dA ad n sz) True) (dA ad n sz)) (XT o9 (QB g ad n K S9 (dA ad n sz) True) (dA ad n sz)) 2 12 (dA ad n sz) := by
  refine vx_ofW (cc := cX10_partOf) (maxL := 4) (ret := (some .int)) (by decide) rfl ?_
  intro p e s m args below meth c s₁ B hml hno hv
  obtain ⟨rfl, hsz, hW, hK, hGs⟩ := x_start hv
  subst hsz
  have hx := B.exec
  have hb := B.bytes
  have hr := B.returns
  have hts := atoms_spec (ws := wsX10_partOf) B.pre
  have hown : s.vm.findClass RX10 = some m.cls := findClass_of_methodNamed B.named
  have hlk := B.notSynchronized
  have hC : Cx g p s m _ c cX10_partOf RX10 wsX10_partOf 4 := ⟨hx, hb, hml, hown, hts, hK⟩
  have hA : ∀ q : Nat, s.heap.size ≤ q → dA ad n s.heap.size q := fun q h => Or.inr h
  have hS : va_S (dA ad n s.heap.size) s.heap s.heap [] := va_S.rf
  have hl := lv_entry ([.ref (ad p0), .int p1, .int p2]) (n := 4) (Nat.le_of_ble_eq_true rfl)
  rw [lg_entry_eq]
  generalize (lg_sl ([.ref (ad p0), .int p1, .int p2]) ++ List.replicate (4 - (lg_sl ([.ref (ad p0), .int p1, .int p2])).length) Slot.unset).toArray = ls at hl ⊢
  have hl : lv_has ls 4 [(0, .ref (ad p0)), (1, .int p1), (2, .int p2)] := hl
  have hin4 : ∀ w ∈ wsX40, w ∈ wsX10_partOf := by decide +kernel
  have hin10 : ∀ w ∈ wsX100, w ∈ wsX10_partOf := by decide +kernel
  have w_0 := hts (.classLink RX10 134 "java/util/NoSuchElementException") (by decide +kernel)
  have w_1 := hts (.initialized "java/util/NoSuchElementException") (by decide +kernel)
  have w_2 := hts (.fieldLink RX10 42 "MailSpool" "now" "LMailSpool$Spool;") (by decide +kernel)
  have w_3 := va_Nw.use (A := (List.toArray [.ref (ad p0), .int p1, .int p2])) rfl (hGs.1 (.fieldLinkNest RX10 218 "MailSpool$Message" "parts" "[I" "MailSpool") (by decide +kernel))
  have hat4 : ∀ w ∈ (nsAt RX10 138).filter goodWord, w.before _ s = true := fun w h => hts w ((by decide +kernel : ∀ w ∈ (nsAt RX10 138).filter goodWord, w ∈ wsX10_partOf) w h)
  have hGE := hGs.2.2.2.2.2.2.1
  have hGM := hGs.2.2.2.2.2.2.2.1
  have L27 : ∀ (S0 : St)   (H : Heap) (locs : List Loc) (ls : Array Slot), f_X10_partOf_L27 F S0  = some (o9, S9) → Wb g ad n K S0 (dA ad n s.heap.size) H → va_S (dA ad n s.heap.size) s.heap H locs → lv_has ls 4 [] → W p l e (headSpec wsX10_partOf { frames := 7, cells := 2, slots := 12, locals := 121 }).room s m (List.toArray [.ref (ad p0), .int p1, .int p2]) below meth c H locs 1 6 (vx_MQ below (QT o9 (fun r => some (.int r)) (QB g ad n K S9 (dA ad n s.heap.size) True) (dA ad n s.heap.size)) (XT o9 (QB g ad n K S9 (dA ad n s.heap.size) True) (dA ad n s.heap.size)) (List.toArray [.ref (ad p0), .int p1, .int p2]) s 2 12 (dA ad n s.heap.size)) (F0 m 27 ls []) := by
    intro S0  H locs ls hf hW hS hl
    unfold f_X10_partOf_L27 at hf
    obtain ⟨e1, e2⟩ := so2 hf
    subst e1
    subst e2
    exact x_throwNS (text := "no such place in the message") hC hfl hno hl.1 hGs hS hlk w_0 w_1 (by decide +kernel) hat4 ⟨trivial, by decide +kernel, by decide +kernel⟩ dX10_partOf_27 dX10_partOf_30 dX10_partOf_31 dX10_partOf_33 dX10_partOf_36 (Nat.le_of_ble_eq_true rfl) (Nat.le_of_ble_eq_true rfl) (Nat.le_of_ble_eq_true rfl) (Nat.le_of_ble_eq_true rfl) (Nat.le_of_ble_eq_true rfl) (Nat.le_of_ble_eq_true rfl) (fun t hv hq hF => ⟨⟨4, rfl, rfl, hW.kept hq, trivial⟩, hF⟩)
  unfold f_X10_partOf at hf
  refine lv_aload_n hx hb dX10_partOf_0 rfl (lv_at hl 0 rfl) ?_
  refine lv_iload_n hx hb dX10_partOf_1 rfl (lv_at hl 1 rfl) ?_
  replace hf := obE hf
  obtain ⟨z1, hz1, hf⟩ := hf
  obtain ⟨oz1, S2⟩ := z1
  replace hf := ltE hf S2 rfl
  refine x_tcallV (As := [.int p1]) (rest := []) (S1 := S2) (o := oz1) (vr := (fun _ => none)) (P := True) hC hl.1 hW hS hGs hA tp0 rfl (show vwCl[9]? = some (RX10, TX10, 11) ∧ 9 < 11 from ⟨rfl, by decide⟩) (c_X10_needMessage l hfl g ad n K s.heap.size F S0 p0 p1 tp0 oz1 S2 hz1) (cwV 1 hts gX10_partOf_X10_needMessage rfl rfl rfl (by decide +kernel) ⟨Nat.le_of_ble_eq_true rfl, Nat.le_of_ble_eq_true rfl⟩) rfl rfl (Nat.le_of_ble_eq_true rfl) dX10_partOf_2 ⟨Nat.le_of_ble_eq_true rfl, Nat.le_of_ble_eq_true rfl⟩ (fun x5 H locs ce q9 ho hW hS hc1 hc2 hc3 => ?_) (fun r3 H locs ho hP hW hS => ?_)
  · replace hf := smL ho hf
    obtain ⟨e1, e2⟩ := so2 hf
    subst e1
    subst e2
    exact x_tout hno hlk rfl hW hS hc1 hc2 hc3 (Nat.le_of_ble_eq_true rfl) (Nat.le_of_ble_eq_true rfl)
  · replace hf := smR ho hf
    refine W.widen (k := 1) (n := 6) (Nat.le_of_ble_eq_true rfl) (Nat.le_of_ble_eq_true rfl) ?_
    refine W.eq (g2 := F0 m 5 ls []) rfl ?_
    refine lv_aload_n hx hb dX10_partOf_5 rfl (lv_at hl 0 rfl) ?_
    replace hf := obE hf
    obtain ⟨j9, qj9, hf⟩ := hf
    have tj9 := x_rt hW qj9 7 ⟨by decide, rfl⟩
    refine x_getr 905 (ci := 9) (C := RX10) (T := TX10) (N := 11) 5 hC hin10 hW tp0 rfl rfl ⟨by decide, by decide, rfl, rfl⟩ rfl w_2 dX10_partOf_6 qj9 ?_
    refine lv_iload_n hx hb dX10_partOf_9 rfl (lv_at hl 1 rfl) ?_
    replace hf := obE hf
    obtain ⟨z10, hz10, hf⟩ := hf
    obtain ⟨r12, S11⟩ := z10
    replace hf := ltE (ltE hf r12 rfl) S11 rfl
    refine x_callV (As := [.int p1]) (rest := []) (o := (some (va_re ad r12))) (S1 := S11) hC hl.1 hW hS hGs hA tj9 rfl (show vwCl[7]? = some (RX8, TX8, 16) ∧ 7 < 11 from ⟨rfl, by decide⟩) (c_X8_messageAt l g ad n K H.size F S2 j9 p1 tj9 r12 S11 hz10) (cwV 1 hts gX10_partOf_X8_messageAt rfl rfl rfl (by decide +kernel) ⟨Nat.le_of_ble_eq_true rfl, Nat.le_of_ble_eq_true rfl⟩) rfl rfl (Nat.le_of_ble_eq_true rfl) dX10_partOf_10 ⟨Nat.le_of_ble_eq_true rfl, Nat.le_of_ble_eq_true rfl⟩ (fun H locs hPz10 hW hS => ?_)
    replace hf := obE hf
    obtain ⟨j14, qj14, hf⟩ := hf
    have tj14 := hPz10 j14 qj14
    refine W.eq (g2 := F0 m 13 ls [.ref (ad j14)]) (by rw [qj14]; rfl) ?_
    refine lv_astore_n (lv' := [(3, .ref (ad j14)), (0, .ref (ad p0)), (1, .int p1), (2, .int p2)]) hx hb dX10_partOf_13 rfl hl (by decide) rfl (fun ls hl => ?_)
    refine lv_iload_n hx hb dX10_partOf_14 rfl (lv_at hl 3 rfl) ?_
    refine lv_if_lt (tgt := 27) hx hb dX10_partOf_15 (by decide) (fun c15 => ?_) (fun c15 => ?_)
    · replace hf := ifT c15 hf
      exact L27 S11 _ _ _ hf hW hS (lv_sub hl [] rfl)
    · replace hf := ifF c15 hf
      refine lv_iload_n hx hb dX10_partOf_18 rfl (lv_at hl 3 rfl) ?_
      refine lv_aload_n hx hb dX10_partOf_19 rfl (lv_at hl 0 rfl) ?_
      replace hf := obE hf
      obtain ⟨j16, qj16, hf⟩ := hf
      have tj16 := x_rt hW qj16 12 ⟨by decide, rfl⟩
      refine x_getrN 303 (ci := 3) (C := RX4) (T := TX4) (N := 5) 3 hC hin4 hW tj14 rfl rfl ⟨by decide, by decide, rfl, rfl⟩ rfl w_3 dX10_partOf_20 qj16 ?_
      refine x_alen hC hW tj16 rfl ⟨by decide, by decide⟩ dX10_partOf_23 ?_
      refine lv_icmp_lt (tgt := 37) hx hb dX10_partOf_24 (by decide) (fun c17 => ?_) (fun c17 => ?_)
      · replace hf := ifT c17 hf
        refine lv_aload_n hx hb dX10_partOf_37 rfl (lv_at hl 0 rfl) ?_
        replace hf := obE hf
        obtain ⟨j18, qj18, hf⟩ := hf
        have tj18 := x_rt hW qj18 12 ⟨by decide, rfl⟩
        refine x_getrN 303 (ci := 3) (C := RX4) (T := TX4) (N := 5) 3 hC hin4 hW tj14 rfl rfl ⟨by decide, by decide, rfl, rfl⟩ rfl w_3 dX10_partOf_38 qj18 ?_
        refine lv_iload_n hx hb dX10_partOf_41 rfl (lv_at hl 3 rfl) ?_
        replace hf := obE hf
        obtain ⟨z19, hz19, hf⟩ := hf
        obtain ⟨r21, S20⟩ := z19
        replace hf := ltE (ltE hf r21 rfl) S20 rfl
        refine x_callS (As := [.ref (ad j18), .int p2]) (rest := []) (o := (some (.int r21))) (S1 := S20) hC hl.1 hW hS hGs hA (c_X10_at l g ad n K H.size F S11 j18 p2 tj18 r21 S20 hz19) (va_cwS 2 hts gX10_partOf_X10_at rfl rfl rfl (by decide +kernel) ⟨Nat.le_of_ble_eq_true rfl, Nat.le_of_ble_eq_true rfl⟩) rfl rfl (Nat.le_of_ble_eq_true rfl) dX10_partOf_42 ⟨Nat.le_of_ble_eq_true rfl, Nat.le_of_ble_eq_true rfl⟩ (fun H locs hPz19 hW hS => ?_)
        refine W.eq (g2 := F0 m 45 ls [.int r21]) rfl ?_
        obtain ⟨e1, e2⟩ := so2 hf
        subst e1
        subst e2
        refine W.widen (k := 2) (n := 12) (Nat.le_of_ble_eq_true rfl) (Nat.le_of_ble_eq_true rfl) ?_
        exact vx_ret (W.iret (v := r21) hx hb hr (fun t ht hWm => ⟨⟨_, rfl, rfl, by unfold QB; rw [ht]; exact ⟨hW, trivial⟩⟩, hS.F ht⟩) hS.2.2 dX10_partOf_45 hlk)
      · replace hf := ifF c17 hf
        exact L27 S11 _ _ _ hf hW hS (lv_sub hl [] rfl)
set_option maxHeartbeats 4000000 in
set_option maxRecDepth 100000 in
theorem c_X8_usersIn (l : Launch) (g : GP) (ad : Nat → Nat) (n : Nat) (K : Nat → Nat) (sz F : Nat) (S0 : St) (p0 : Nat) (p1 : Int32) (p2 : Int32) (p3 : Int32) (tp0 : p0 < n ∧ K p0 = 7) (r9 : Int32) (S9 : St) (hf : f_X8_usersIn F S0 p0 p1 p2 p3 = some (r9, S9)) : Met l yX8_usersIn wsX8_usersIn { frames := 2, cells := 0, slots := 0, locals := 43 } (va_Pc [.ref (ad p0), .int p1, .int p2, .int p3] (PB g ad n K S0 sz)) (QR (some (.int r9)) (QB g ad n K S9 (dA ad n sz) (True)) (dA ad n sz)) 0 0 (dA ad n sz) := by
  refine Met.ofW (cc := cX8_usersIn) (maxL := 7) (ret := (some .int)) (by decide) rfl ?_
  intro p e s m args below meth c s₁ B hml hv
  obtain ⟨rfl, hsz, hW, hK, hGs⟩ := x_start hv
  subst hsz
  have hx := B.exec
  have hb := B.bytes
  have hr := B.returns
  have hts := atoms_spec (ws := wsX8_usersIn) B.pre
  have hown : s.vm.findClass RX8 = some m.cls := findClass_of_methodNamed B.named
  have hlk := B.notSynchronized
  have hC : Cx g p s m _ c cX8_usersIn RX8 wsX8_usersIn 7 := ⟨hx, hb, hml, hown, hts, hK⟩
  have hA : ∀ q : Nat, s.heap.size ≤ q → dA ad n s.heap.size q := fun q h => Or.inr h
  have hS : va_S (dA ad n s.heap.size) s.heap s.heap [] := va_S.rf
  have hl := lv_entry ([.ref (ad p0), .int p1, .int p2, .int p3]) (n := 7) (Nat.le_of_ble_eq_true rfl)
  rw [lg_entry_eq]
  generalize (lg_sl ([.ref (ad p0), .int p1, .int p2, .int p3]) ++ List.replicate (7 - (lg_sl ([.ref (ad p0), .int p1, .int p2, .int p3])).length) Slot.unset).toArray = ls at hl ⊢
  have hl : lv_has ls 7 [(0, .ref (ad p0)), (1, .int p1), (2, .int p2), (3, .int p3)] := hl
  have hin5 : ∀ w ∈ wsX50, w ∈ wsX8_usersIn := by decide +kernel
  have hin7 : ∀ w ∈ wsX70, w ∈ wsX8_usersIn := by decide +kernel
  have hin8 : ∀ w ∈ wsX80, w ∈ wsX8_usersIn := by decide +kernel
  have w_0 := hts (.fieldLink RX8 9 "MailSpool$Spool" "rules" "LMailSpool$Rules;") (by decide +kernel)
  have w_1 := va_Nw.use (A := (List.toArray [.ref (ad p0), .int p1, .int p2, .int p3])) rfl (hGs.1 (.fieldLinkNest RX8 102 "MailSpool$Rules" "users" "LMailSpool$Names;" "MailSpool") (by decide +kernel))
  have w_2 := va_Nw.use (A := (List.toArray [.ref (ad p0), .int p1, .int p2, .int p3])) rfl (hGs.1 (.fieldLinkNest RX8 120 "MailSpool$Names" "size" "I" "MailSpool") (by decide +kernel))
  have hGE := hGs.2.2.2.2.2.2.1
  have hGM := hGs.2.2.2.2.2.2.2.1
  have L6 : ∀ (fu6 : Nat) (S0 : St) (v0 : Nat) (v1 : Int32) (v2 : Int32) (v3 : Int32) (v4 : Int32) (v5 : Int32) (tv0 : v0 < n ∧ K v0 = 7) (H : Heap) (locs : List Loc) (ls : Array Slot), f_X8_usersIn_L6 F fu6 S0 v0 v1 v2 v3 v4 v5 = some (r9, S9) → Wb g ad n K S0 (dA ad n s.heap.size) H → va_S (dA ad n s.heap.size) s.heap H locs → lv_has ls 7 [(0, .ref (ad v0)), (1, .int v1), (2, .int v2), (3, .int v3), (4, .int v4), (5, .int v5)] → W p l e (headSpec wsX8_usersIn { frames := 2, cells := 0, slots := 0, locals := 43 }).room s m (List.toArray [.ref (ad p0), .int p1, .int p2, .int p3]) below meth c H locs 0 0 (MQ below (QR (some (.int r9)) (QB g ad n K S9 (dA ad n s.heap.size) (True)) (dA ad n s.heap.size)) (List.toArray [.ref (ad p0), .int p1, .int p2, .int p3]) s 0 0 (dA ad n s.heap.size)) (F0 m 6 ls []) := by
    intro fu6
    induction fu6 with
    | zero =>
      intro S0 v0 v1 v2 v3 v4 v5 tv0 H locs ls hf
      cases hf
    | succ fu6 ih6 =>
      have L51 : ∀ (S0 : St) (v0 : Nat) (v1 : Int32) (v2 : Int32) (v3 : Int32) (v4 : Int32) (v5 : Int32) (tv0 : v0 < n ∧ K v0 = 7) (H : Heap) (locs : List Loc) (ls : Array Slot), f_X8_usersIn_L51 F (fun a0 a1 a2 a3 a4 a5 a6 => f_X8_usersIn_L6 F fu6 a0 a1 a2 a3 a4 a5 a6) S0 v0 v1 v2 v3 v4 v5 = some (r9, S9) → Wb g ad n K S0 (dA ad n s.heap.size) H → va_S (dA ad n s.heap.size) s.heap H locs → lv_has ls 7 [(0, .ref (ad v0)), (1, .int v1), (2, .int v2), (3, .int v3), (4, .int v4), (5, .int v5)] → W p l e (headSpec wsX8_usersIn { frames := 2, cells := 0, slots := 0, locals := 43 }).room s m (List.toArray [.ref (ad p0), .int p1, .int p2, .int p3]) below meth c H locs 0 0 (MQ below (QR (some (.int r9)) (QB g ad n K S9 (dA ad n s.heap.size) (True)) (dA ad n s.heap.size)) (List.toArray [.ref (ad p0), .int p1, .int p2, .int p3]) s 0 0 (dA ad n s.heap.size)) (F0 m 51 ls []) := by
        intro S0 v0 v1 v2 v3 v4 v5 tv0 H locs ls hf hW hS hl
        unfold f_X8_usersIn_L51 at hf
        obtain ⟨x2, ex2⟩ : ∃ z : Int32, z = v5 + 1 := ⟨_, rfl⟩
        replace hf := ltE hf x2 ex2
        refine lv_iinc (v := x2) (lv' := [(5, .int x2), (0, .ref (ad v0)), (1, .int v1), (2, .int v2), (3, .int v3), (4, .int v4)]) hx hb dX8_usersIn_51 hl (k := 5) rfl (by rw [ex2]; rfl) (by decide) rfl (fun ls hl => ?_)
        refine lv_goto (tgt := 6) hx hb dX8_usersIn_54 (by decide) ?_
        exact ih6 S0 v0 v1 v2 v3 v4 x2 tv0 _ _ _ hf hW hS (lv_sub hl [1, 2, 3, 4, 5, 0] rfl)
      intro S0 v0 v1 v2 v3 v4 v5 tv0 H locs ls hf hW hS hl
      unfold f_X8_usersIn_L6 at hf
      refine lv_iload hx hb dX8_usersIn_6 (lv_at hl 5 rfl) ?_
      refine lv_aload_n hx hb dX8_usersIn_8 rfl (lv_at hl 0 rfl) ?_
      replace hf := obE hf
      obtain ⟨j13, qj13, hf⟩ := hf
      have tj13 := x_rt hW qj13 6 ⟨by decide, rfl⟩
      refine x_getr 700 (ci := 7) (C := RX8) (T := TX8) (N := 16) 0 hC hin8 hW tv0 rfl rfl ⟨by decide, by decide, rfl, rfl⟩ rfl w_0 dX8_usersIn_9 qj13 ?_
      replace hf := obE hf
      obtain ⟨j14, qj14, hf⟩ := hf
      have tj14 := x_rt hW qj14 4 ⟨by decide, rfl⟩
      refine x_getrN 606 (ci := 6) (C := RX7) (T := TX7) (N := 16) 6 hC hin7 hW tj13 rfl rfl ⟨by decide, by decide, rfl, rfl⟩ rfl w_1 dX8_usersIn_12 qj14 ?_
      refine x_getiN 401 (ci := 4) (C := RX5) (T := TX5) (N := 2) 1 hC hin5 hW tj14 rfl rfl ⟨by decide, by decide, rfl, rfl⟩ rfl w_2 dX8_usersIn_15 ?_
      refine lv_icmp_ge (tgt := 57) hx hb dX8_usersIn_18 (by decide) (fun c15 => ?_) (fun c15 => ?_)
      · replace hf := ifT c15 hf
        refine lv_iload hx hb dX8_usersIn_57 (lv_at hl 4 rfl) ?_
        obtain ⟨e1, e2⟩ := so2 hf
        subst e1
        subst e2
        exact W.iret (v := v4) hx hb hr (fun t ht hWm => ⟨⟨rfl, by unfold QB; rw [ht]; exact ⟨hW, trivial⟩⟩, hS.F ht⟩) hS.2.2 dX8_usersIn_59 hlk
      · replace hf := ifF c15 hf
        refine lv_aload_n hx hb dX8_usersIn_21 rfl (lv_at hl 0 rfl) ?_
        refine lv_iload_n hx hb dX8_usersIn_22 rfl (lv_at hl 1 rfl) ?_
        refine lv_iload hx hb dX8_usersIn_23 (lv_at hl 5 rfl) ?_
        replace hf := obE hf
        obtain ⟨z16, hz16, hf⟩ := hf
        obtain ⟨r18, S17⟩ := z16
        replace hf := ltE (ltE hf r18 rfl) S17 rfl
        refine x_callV (As := [.int v1, .int v5]) (rest := []) (o := (some (.int r18))) (S1 := S17) hC hl.1 hW hS hGs hA tv0 rfl (show vwCl[7]? = some (RX8, TX8, 16) ∧ 7 < 11 from ⟨rfl, by decide⟩) (c_X8_stateOf l g ad n K H.size F S0 v0 v1 v5 tv0 r18 S17 hz16) (cwV 2 hts gX8_usersIn_X8_stateOf rfl rfl rfl (by decide +kernel) ⟨Nat.le_of_ble_eq_true rfl, Nat.le_of_ble_eq_true rfl⟩) rfl rfl (Nat.le_of_ble_eq_true rfl) dX8_usersIn_25 ⟨Nat.le_of_ble_eq_true rfl, Nat.le_of_ble_eq_true rfl⟩ (fun H locs hPz16 hW hS => ?_)
        refine W.eq (g2 := F0 m 28 ls [.int r18]) rfl ?_
        refine lv_istore (lv' := [(6, .int r18), (0, .ref (ad v0)), (1, .int v1), (2, .int v2), (3, .int v3), (4, .int v4), (5, .int v5)]) hx hb dX8_usersIn_28 hl (by decide) rfl (fun ls hl => ?_)
        refine lv_iload hx hb dX8_usersIn_30 (lv_at hl 0 rfl) ?_
        refine lv_iload_n hx hb dX8_usersIn_32 rfl (lv_at hl 3 rfl) ?_
        refine lv_icmp_lt (tgt := 51) hx hb dX8_usersIn_33 (by decide) (fun c20 => ?_) (fun c20 => ?_)
        · replace hf := ifT c20 hf
          exact L51 S17 v0 v1 v2 v3 v4 v5 tv0 _ _ _ hf hW hS (lv_sub hl [1, 2, 3, 4, 5, 6] rfl)
        · replace hf := ifF c20 hf
          refine lv_iload hx hb dX8_usersIn_36 (lv_at hl 0 rfl) ?_
          refine lv_iload_n hx hb dX8_usersIn_38 rfl (lv_at hl 4 rfl) ?_
          refine lv_icmp_gt (tgt := 51) hx hb dX8_usersIn_39 (by decide) (fun c21 => ?_) (fun c21 => ?_)
          · replace hf := ifT c21 hf
            exact L51 S17 v0 v1 v2 v3 v4 v5 tv0 _ _ _ hf hW hS (lv_sub hl [1, 2, 3, 4, 5, 6] rfl)
          · replace hf := ifF c21 hf
            refine lv_iload hx hb dX8_usersIn_42 (lv_at hl 5 rfl) ?_
            refine lv_iconst (v := 1) hx hb dX8_usersIn_44 (by decide) ?_
            refine lv_iload hx hb dX8_usersIn_45 (lv_at hl 6 rfl) ?_
            refine lv_ishl hx hb dX8_usersIn_47 ?_
            refine lv_ior hx hb dX8_usersIn_48 ?_
            refine lv_topi (fun x22 ex22 => ?_)
            replace hf := ltE hf x22 ex22
            refine lv_istore (lv' := [(4, .int x22), (6, .int r18), (0, .ref (ad v0)), (1, .int v1), (2, .int v2), (3, .int v3), (5, .int v5)]) hx hb dX8_usersIn_49 hl (by decide) rfl (fun ls hl => ?_)
            exact L51 S17 v0 v1 v2 v3 x22 v5 tv0 _ _ _ hf hW hS (lv_sub hl [2, 3, 4, 5, 0, 6] rfl)
  unfold f_X8_usersIn at hf
  refine lv_iconst (v := 0) hx hb dX8_usersIn_0 (by decide) ?_
  refine lv_istore (lv' := [(4, .int 0), (0, .ref (ad p0)), (1, .int p1), (2, .int p2), (3, .int p3)]) hx hb dX8_usersIn_1 hl (by decide) rfl (fun ls hl => ?_)
  refine lv_iconst (v := 0) hx hb dX8_usersIn_3 (by decide) ?_
  refine lv_istore (lv' := [(5, .int 0), (4, .int 0), (0, .ref (ad p0)), (1, .int p1), (2, .int p2), (3, .int p3)]) hx hb dX8_usersIn_4 hl (by decide) rfl (fun ls hl => ?_)
  exact L6 F S0 p0 p1 p2 p3 0 0 tp0 _ _ _ hf hW hS (lv_sub hl [2, 3, 4, 5, 1, 0] rfl)
set_option maxHeartbeats 4000000 in
set_option maxRecDepth 100000 in
theorem c_X10_readers (l : Launch) (hfl : l.stackTraces = false) (g : GP) (ad : Nat → Nat) (n : Nat) (K : Nat → Nat) (sz F : Nat) (S0 : St) (p0 : Nat) (p1 : Int32) (tp0 : p0 < n ∧ K p0 = 9) (o9 : Nat ⊕ Int32) (S9 : St) (hf : f_X10_readers F S0 p0 p1 = some (o9, S9)) : vx_Met l yX10_readers wsX10_readers { frames := 7, cells := 1, slots := 6, locals := 121 } (va_Pc [.ref (ad p0), .int p1] (PB g ad n K S0 sz)) (QT o9 (fun r => some (.int r)) (QB g ad n K S9 (dA ad n sz) True) (dA ad n sz)) (XT o9 (QB g ad n K S9 (dA ad n sz) True) (dA ad n sz)) 1 6 (dA ad n sz) := by
  refine vx_ofW (cc := cX10_readers) (maxL := 2) (ret := (some .int)) (by decide) rfl ?_
  intro p e s m args below meth c s₁ B hml hno hv
  obtain ⟨rfl, hsz, hW, hK, hGs⟩ := x_start hv
  subst hsz
  have hx := B.exec
  have hb := B.bytes
  have hr := B.returns
  have hts := atoms_spec (ws := wsX10_readers) B.pre
  have hown : s.vm.findClass RX10 = some m.cls := findClass_of_methodNamed B.named
  have hlk := B.notSynchronized
  have hC : Cx g p s m _ c cX10_readers RX10 wsX10_readers 2 := ⟨hx, hb, hml, hown, hts, hK⟩
  have hA : ∀ q : Nat, s.heap.size ≤ q → dA ad n s.heap.size q := fun q h => Or.inr h
  have hS : va_S (dA ad n s.heap.size) s.heap s.heap [] := va_S.rf
  have hl := lv_entry ([.ref (ad p0), .int p1]) (n := 2) (Nat.le_of_ble_eq_true rfl)
  rw [lg_entry_eq]
  generalize (lg_sl ([.ref (ad p0), .int p1]) ++ List.replicate (2 - (lg_sl ([.ref (ad p0), .int p1])).length) Slot.unset).toArray = ls at hl ⊢
  have hl : lv_has ls 2 [(0, .ref (ad p0)), (1, .int p1)] := hl
  have hin10 : ∀ w ∈ wsX100, w ∈ wsX10_readers := by decide +kernel
  have w_0 := hts (.fieldLink RX10 42 "MailSpool" "now" "LMailSpool$Spool;") (by decide +kernel)
  have hGE := hGs.2.2.2.2.2.2.1
  have hGM := hGs.2.2.2.2.2.2.2.1
  unfold f_X10_readers at hf
  refine lv_aload_n hx hb dX10_readers_0 rfl (lv_at hl 0 rfl) ?_
  refine lv_iload_n hx hb dX10_readers_1 rfl (lv_at hl 1 rfl) ?_
  replace hf := obE hf
  obtain ⟨z1, hz1, hf⟩ := hf
  obtain ⟨oz1, S2⟩ := z1
  replace hf := ltE hf S2 rfl
  refine x_tcallV (As := [.int p1]) (rest := []) (S1 := S2) (o := oz1) (vr := (fun _ => none)) (P := True) hC hl.1 hW hS hGs hA tp0 rfl (show vwCl[9]? = some (RX10, TX10, 11) ∧ 9 < 11 from ⟨rfl, by decide⟩) (c_X10_needMessage l hfl g ad n K s.heap.size F S0 p0 p1 tp0 oz1 S2 hz1) (cwV 1 hts gX10_readers_X10_needMessage rfl rfl rfl (by decide +kernel) ⟨Nat.le_of_ble_eq_true rfl, Nat.le_of_ble_eq_true rfl⟩) rfl rfl (Nat.le_of_ble_eq_true rfl) dX10_readers_2 ⟨Nat.le_of_ble_eq_true rfl, Nat.le_of_ble_eq_true rfl⟩ (fun x5 H locs ce q9 ho hW hS hc1 hc2 hc3 => ?_) (fun r3 H locs ho hP hW hS => ?_)
  · replace hf := smL ho hf
    obtain ⟨e1, e2⟩ := so2 hf
    subst e1
    subst e2
    exact x_tout hno hlk rfl hW hS hc1 hc2 hc3 (Nat.le_of_ble_eq_true rfl) (Nat.le_of_ble_eq_true rfl)
  · replace hf := smR ho hf
    refine W.widen (k := 1) (n := 6) (Nat.le_of_ble_eq_true rfl) (Nat.le_of_ble_eq_true rfl) ?_
    refine W.eq (g2 := F0 m 5 ls []) rfl ?_
    refine lv_aload_n hx hb dX10_readers_5 rfl (lv_at hl 0 rfl) ?_
    replace hf := obE hf
    obtain ⟨j9, qj9, hf⟩ := hf
    have tj9 := x_rt hW qj9 7 ⟨by decide, rfl⟩
    refine x_getr 905 (ci := 9) (C := RX10) (T := TX10) (N := 11) 5 hC hin10 hW tp0 rfl rfl ⟨by decide, by decide, rfl, rfl⟩ rfl w_0 dX10_readers_6 qj9 ?_
    refine lv_iload_n hx hb dX10_readers_9 rfl (lv_at hl 1 rfl) ?_
    refine lv_iconst (v := 0) hx hb dX10_readers_10 (by decide) ?_
    refine lv_iconst (v := 0) hx hb dX10_readers_11 (by decide) ?_
    replace hf := obE hf
    obtain ⟨z10, hz10, hf⟩ := hf
    obtain ⟨r12, S11⟩ := z10
    replace hf := ltE (ltE hf r12 rfl) S11 rfl
    refine x_callV (As := [.int p1, .int 0, .int 0]) (rest := []) (o := (some (.int r12))) (S1 := S11) hC hl.1 hW hS hGs hA tj9 rfl (show vwCl[7]? = some (RX8, TX8, 16) ∧ 7 < 11 from ⟨rfl, by decide⟩) (c_X8_usersIn l g ad n K H.size F S2 j9 p1 ((0 : Int32)) ((0 : Int32)) tj9 r12 S11 hz10) (cwV 3 hts gX10_readers_X8_usersIn rfl rfl rfl (by decide +kernel) ⟨Nat.le_of_ble_eq_true rfl, Nat.le_of_ble_eq_true rfl⟩) rfl rfl (Nat.le_of_ble_eq_true rfl) dX10_readers_12 ⟨Nat.le_of_ble_eq_true rfl, Nat.le_of_ble_eq_true rfl⟩ (fun H locs hPz10 hW hS => ?_)
    refine W.eq (g2 := F0 m 15 ls [.int r12]) rfl ?_
    obtain ⟨e1, e2⟩ := so2 hf
    subst e1
    subst e2
    exact vx_ret (W.iret (v := r12) hx hb hr (fun t ht hWm => ⟨⟨_, rfl, rfl, by unfold QB; rw [ht]; exact ⟨hW, trivial⟩⟩, hS.F ht⟩) hS.2.2 dX10_readers_15 hlk)
set_option maxHeartbeats 4000000 in
set_option maxRecDepth 100000 in
theorem c_X10_hidden (l : Launch) (hfl : l.stackTraces = false) (g : GP) (ad : Nat → Nat) (n : Nat) (K : Nat → Nat) (sz F : Nat) (S0 : St) (p0 : Nat) (p1 : Int32) (tp0 : p0 < n ∧ K p0 = 9) (o9 : Nat ⊕ Int32) (S9 : St) (hf : f_X10_hidden F S0 p0 p1 = some (o9, S9)) : vx_Met l yX10_hidden wsX10_hidden { frames := 7, cells := 1, slots := 6, locals := 121 } (va_Pc [.ref (ad p0), .int p1] (PB g ad n K S0 sz)) (QT o9 (fun r => some (.int r)) (QB g ad n K S9 (dA ad n sz) True) (dA ad n sz)) (XT o9 (QB g ad n K S9 (dA ad n sz) True) (dA ad n sz)) 1 6 (dA ad n sz) := by
  refine vx_ofW (cc := cX10_hidden) (maxL := 2) (ret := (some .int)) (by decide) rfl ?_
  intro p e s m args below meth c s₁ B hml hno hv
  obtain ⟨rfl, hsz, hW, hK, hGs⟩ := x_start hv
  subst hsz
  have hx := B.exec
  have hb := B.bytes
  have hr := B.returns
  have hts := atoms_spec (ws := wsX10_hidden) B.pre
  have hown : s.vm.findClass RX10 = some m.cls := findClass_of_methodNamed B.named
  have hlk := B.notSynchronized
  have hC : Cx g p s m _ c cX10_hidden RX10 wsX10_hidden 2 := ⟨hx, hb, hml, hown, hts, hK⟩
  have hA : ∀ q : Nat, s.heap.size ≤ q → dA ad n s.heap.size q := fun q h => Or.inr h
  have hS : va_S (dA ad n s.heap.size) s.heap s.heap [] := va_S.rf
  have hl := lv_entry ([.ref (ad p0), .int p1]) (n := 2) (Nat.le_of_ble_eq_true rfl)
  rw [lg_entry_eq]
  generalize (lg_sl ([.ref (ad p0), .int p1]) ++ List.replicate (2 - (lg_sl ([.ref (ad p0), .int p1])).length) Slot.unset).toArray = ls at hl ⊢
  have hl : lv_has ls 2 [(0, .ref (ad p0)), (1, .int p1)] := hl
  have hin10 : ∀ w ∈ wsX100, w ∈ wsX10_hidden := by decide +kernel
  have w_0 := hts (.fieldLink RX10 42 "MailSpool" "now" "LMailSpool$Spool;") (by decide +kernel)
  have hGE := hGs.2.2.2.2.2.2.1
  have hGM := hGs.2.2.2.2.2.2.2.1
  unfold f_X10_hidden at hf
  refine lv_aload_n hx hb dX10_hidden_0 rfl (lv_at hl 0 rfl) ?_
  refine lv_iload_n hx hb dX10_hidden_1 rfl (lv_at hl 1 rfl) ?_
  replace hf := obE hf
  obtain ⟨z1, hz1, hf⟩ := hf
  obtain ⟨oz1, S2⟩ := z1
  replace hf := ltE hf S2 rfl
  refine x_tcallV (As := [.int p1]) (rest := []) (S1 := S2) (o := oz1) (vr := (fun _ => none)) (P := True) hC hl.1 hW hS hGs hA tp0 rfl (show vwCl[9]? = some (RX10, TX10, 11) ∧ 9 < 11 from ⟨rfl, by decide⟩) (c_X10_needMessage l hfl g ad n K s.heap.size F S0 p0 p1 tp0 oz1 S2 hz1) (cwV 1 hts gX10_hidden_X10_needMessage rfl rfl rfl (by decide +kernel) ⟨Nat.le_of_ble_eq_true rfl, Nat.le_of_ble_eq_true rfl⟩) rfl rfl (Nat.le_of_ble_eq_true rfl) dX10_hidden_2 ⟨Nat.le_of_ble_eq_true rfl, Nat.le_of_ble_eq_true rfl⟩ (fun x5 H locs ce q9 ho hW hS hc1 hc2 hc3 => ?_) (fun r3 H locs ho hP hW hS => ?_)
  · replace hf := smL ho hf
    obtain ⟨e1, e2⟩ := so2 hf
    subst e1
    subst e2
    exact x_tout hno hlk rfl hW hS hc1 hc2 hc3 (Nat.le_of_ble_eq_true rfl) (Nat.le_of_ble_eq_true rfl)
  · replace hf := smR ho hf
    refine W.widen (k := 1) (n := 6) (Nat.le_of_ble_eq_true rfl) (Nat.le_of_ble_eq_true rfl) ?_
    refine W.eq (g2 := F0 m 5 ls []) rfl ?_
    refine lv_aload_n hx hb dX10_hidden_5 rfl (lv_at hl 0 rfl) ?_
    replace hf := obE hf
    obtain ⟨j9, qj9, hf⟩ := hf
    have tj9 := x_rt hW qj9 7 ⟨by decide, rfl⟩
    refine x_getr 905 (ci := 9) (C := RX10) (T := TX10) (N := 11) 5 hC hin10 hW tp0 rfl rfl ⟨by decide, by decide, rfl, rfl⟩ rfl w_0 dX10_hidden_6 qj9 ?_
    refine lv_iload_n hx hb dX10_hidden_9 rfl (lv_at hl 1 rfl) ?_
    refine lv_iconst (v := 1) hx hb dX10_hidden_10 (by decide) ?_
    refine lv_iconst (v := 2) hx hb dX10_hidden_11 (by decide) ?_
    replace hf := obE hf
    obtain ⟨z10, hz10, hf⟩ := hf
    obtain ⟨r12, S11⟩ := z10
    replace hf := ltE (ltE hf r12 rfl) S11 rfl
    refine x_callV (As := [.int p1, .int 1, .int 2]) (rest := []) (o := (some (.int r12))) (S1 := S11) hC hl.1 hW hS hGs hA tj9 rfl (show vwCl[7]? = some (RX8, TX8, 16) ∧ 7 < 11 from ⟨rfl, by decide⟩) (c_X8_usersIn l g ad n K H.size F S2 j9 p1 ((1 : Int32)) ((2 : Int32)) tj9 r12 S11 hz10) (cwV 3 hts gX10_hidden_X8_usersIn rfl rfl rfl (by decide +kernel) ⟨Nat.le_of_ble_eq_true rfl, Nat.le_of_ble_eq_true rfl⟩) rfl rfl (Nat.le_of_ble_eq_true rfl) dX10_hidden_12 ⟨Nat.le_of_ble_eq_true rfl, Nat.le_of_ble_eq_true rfl⟩ (fun H locs hPz10 hW hS => ?_)
    refine W.eq (g2 := F0 m 15 ls [.int r12]) rfl ?_
    obtain ⟨e1, e2⟩ := so2 hf
    subst e1
    subst e2
    exact vx_ret (W.iret (v := r12) hx hb hr (fun t ht hWm => ⟨⟨_, rfl, rfl, by unfold QB; rw [ht]; exact ⟨hW, trivial⟩⟩, hS.F ht⟩) hS.2.2 dX10_hidden_15 hlk)
set_option maxHeartbeats 4000000 in
set_option maxRecDepth 100000 in
theorem c_X10_needReference (l : Launch) (hfl : l.stackTraces = false) (g : GP) (ad : Nat → Nat) (n : Nat) (K : Nat → Nat) (sz F : Nat) (S0 : St) (p0 : Nat) (p1 : Int32) (p2 : Int32) (tp0 : p0 < n ∧ K p0 = 9) (o9 : Nat ⊕ Unit) (S9 : St) (hf : f_X10_needReference F S0 p0 p1 p2 = some (o9, S9)) : vx_Met l yX10_needReference wsX10_needReference { frames := 6, cells := 1, slots := 6, locals := 100 } (va_Pc [.ref (ad p0), .int p1, .int p2] (PB g ad n K S0 sz)) (QT o9 (fun _ => none) (QB g ad n K S9 (dA ad n sz) True) (dA ad n sz)) (XT o9 (QB g ad n K S9 (dA ad n sz) True) (dA ad n sz)) 1 6 (dA ad n sz) := by
  refine vx_ofW (cc := cX10_needReference) (maxL := 3) (ret := none) (by decide) rfl ?_
  intro p e s m args below meth c s₁ B hml hno hv
  obtain ⟨rfl, hsz, hW, hK, hGs⟩ := x_start hv
  subst hsz
  have hx := B.exec
  have hb := B.bytes
  have hr := B.returns
  have hts := atoms_spec (ws := wsX10_needReference) B.pre
  have hown : s.vm.findClass RX10 = some m.cls := findClass_of_methodNamed B.named
  have hlk := B.notSynchronized
  have hC : Cx g p s m _ c cX10_needReference RX10 wsX10_needReference 3 := ⟨hx, hb, hml, hown, hts, hK⟩
  have hA : ∀ q : Nat, s.heap.size ≤ q → dA ad n s.heap.size q := fun q h => Or.inr h
  have hS : va_S (dA ad n s.heap.size) s.heap s.heap [] := va_S.rf
  have hl := lv_entry ([.ref (ad p0), .int p1, .int p2]) (n := 3) (Nat.le_of_ble_eq_true rfl)
  rw [lg_entry_eq]
  generalize (lg_sl ([.ref (ad p0), .int p1, .int p2]) ++ List.replicate (3 - (lg_sl ([.ref (ad p0), .int p1, .int p2])).length) Slot.unset).toArray = ls at hl ⊢
  have hl : lv_has ls 3 [(0, .ref (ad p0)), (1, .int p1), (2, .int p2)] := hl
  have hin10 : ∀ w ∈ wsX100, w ∈ wsX10_needReference := by decide +kernel
  have w_0 := hts (.fieldLink RX10 42 "MailSpool" "now" "LMailSpool$Spool;") (by decide +kernel)
  have w_1 := hts (.classLink RX10 134 "java/util/NoSuchElementException") (by decide +kernel)
  have w_2 := hts (.initialized "java/util/NoSuchElementException") (by decide +kernel)
  have hat4 : ∀ w ∈ (nsAt RX10 138).filter goodWord, w.before _ s = true := fun w h => hts w ((by decide +kernel : ∀ w ∈ (nsAt RX10 138).filter goodWord, w ∈ wsX10_needReference) w h)
  have hGE := hGs.2.2.2.2.2.2.1
  have hGM := hGs.2.2.2.2.2.2.2.1
  unfold f_X10_needReference at hf
  refine lv_aload_n hx hb dX10_needReference_0 rfl (lv_at hl 0 rfl) ?_
  replace hf := obE hf
  obtain ⟨j1, qj1, hf⟩ := hf
  have tj1 := x_rt hW qj1 7 ⟨by decide, rfl⟩
  refine x_getr 905 (ci := 9) (C := RX10) (T := TX10) (N := 11) 5 hC hin10 hW tp0 rfl rfl ⟨by decide, by decide, rfl, rfl⟩ rfl w_0 dX10_needReference_1 qj1 ?_
  refine lv_iload_n hx hb dX10_needReference_4 rfl (lv_at hl 1 rfl) ?_
  refine lv_iload_n hx hb dX10_needReference_5 rfl (lv_at hl 2 rfl) ?_
  replace hf := obE hf
  obtain ⟨z2, hz2, hf⟩ := hf
  obtain ⟨r4, S3⟩ := z2
  replace hf := ltE (ltE hf r4 rfl) S3 rfl
  refine x_callV (As := [.int p1, .int p2]) (rest := []) (o := (some (.int r4))) (S1 := S3) hC hl.1 hW hS hGs hA tj1 rfl (show vwCl[7]? = some (RX8, TX8, 16) ∧ 7 < 11 from ⟨rfl, by decide⟩) (c_X8_stateOf l g ad n K s.heap.size F S0 j1 p1 p2 tj1 r4 S3 hz2) (cwV 2 hts gX10_needReference_X8_stateOf rfl rfl rfl (by decide +kernel) ⟨Nat.le_of_ble_eq_true rfl, Nat.le_of_ble_eq_true rfl⟩) rfl rfl (Nat.le_of_ble_eq_true rfl) dX10_needReference_6 ⟨Nat.le_of_ble_eq_true rfl, Nat.le_of_ble_eq_true rfl⟩ (fun H locs hPz2 hW hS => ?_)
  refine W.eq (g2 := F0 m 9 ls [.int r4]) rfl ?_
  refine lv_iconst (v := -1) hx hb dX10_needReference_9 (by decide) ?_
  refine lv_icmp_ne (tgt := 24) hx hb dX10_needReference_10 (by decide) (fun c6 => ?_) (fun c6 => ?_)
  · replace hf := ifT c6 hf
    obtain ⟨e1, e2⟩ := so2 hf
    subst e1
    subst e2
    refine W.widen (k := 1) (n := 6) (Nat.le_of_ble_eq_true rfl) (Nat.le_of_ble_eq_true rfl) ?_
    exact vx_ret (W.vret hx hb hr (fun t ht hWm => ⟨⟨_, rfl, rfl, by unfold QB; rw [ht]; exact ⟨hW, trivial⟩⟩, hS.F ht⟩) hS.2.2 dX10_needReference_24 hlk)
  · replace hf := ifF (fun q => q c6) hf
    obtain ⟨e1, e2⟩ := so2 hf
    subst e1
    subst e2
    exact x_throwNSW (text := "no such reference") hC hfl hno hl.1 hGs hS hlk w_1 w_2 (by decide +kernel) hat4 ⟨trivial, by decide +kernel, by decide +kernel⟩ dX10_needReference_13 dX10_needReference_16 dX10_needReference_17 dX10_needReference_20 dX10_needReference_23 (Nat.le_of_ble_eq_true rfl) (Nat.le_of_ble_eq_true rfl) (Nat.le_of_ble_eq_true rfl) (Nat.le_of_ble_eq_true rfl) (Nat.le_of_ble_eq_true rfl) (Nat.le_of_ble_eq_true rfl) (fun t hv hq hF => ⟨⟨4, rfl, rfl, hW.kept hq, trivial⟩, hF⟩)
set_option maxHeartbeats 4000000 in
set_option maxRecDepth 100000 in
theorem c_X10_state (l : Launch) (hfl : l.stackTraces = false) (g : GP) (ad : Nat → Nat) (n : Nat) (K : Nat → Nat) (sz F : Nat) (S0 : St) (p0 : Nat) (p1 : Int32) (p2 : Int32) (tp0 : p0 < n ∧ K p0 = 9) (o9 : Nat ⊕ Int32) (S9 : St) (hf : f_X10_state F S0 p0 p1 p2 = some (o9, S9)) : vx_Met l yX10_state wsX10_state { frames := 7, cells := 1, slots := 6, locals := 122 } (va_Pc [.ref (ad p0), .int p1, .int p2] (PB g ad n K S0 sz)) (QT o9 (fun r => some (.int r)) (QB g ad n K S9 (dA ad n sz) True) (dA ad n sz)) (XT o9 (QB g ad n K S9 (dA ad n sz) True) (dA ad n sz)) 1 6 (dA ad n sz) := by
  refine vx_ofW (cc := cX10_state) (maxL := 3) (ret := (some .int)) (by decide) rfl ?_
  intro p e s m args below meth c s₁ B hml hno hv
  obtain ⟨rfl, hsz, hW, hK, hGs⟩ := x_start hv
  subst hsz
  have hx := B.exec
  have hb := B.bytes
  have hr := B.returns
  have hts := atoms_spec (ws := wsX10_state) B.pre
  have hown : s.vm.findClass RX10 = some m.cls := findClass_of_methodNamed B.named
  have hlk := B.notSynchronized
  have hC : Cx g p s m _ c cX10_state RX10 wsX10_state 3 := ⟨hx, hb, hml, hown, hts, hK⟩
  have hA : ∀ q : Nat, s.heap.size ≤ q → dA ad n s.heap.size q := fun q h => Or.inr h
  have hS : va_S (dA ad n s.heap.size) s.heap s.heap [] := va_S.rf
  have hl := lv_entry ([.ref (ad p0), .int p1, .int p2]) (n := 3) (Nat.le_of_ble_eq_true rfl)
  rw [lg_entry_eq]
  generalize (lg_sl ([.ref (ad p0), .int p1, .int p2]) ++ List.replicate (3 - (lg_sl ([.ref (ad p0), .int p1, .int p2])).length) Slot.unset).toArray = ls at hl ⊢
  have hl : lv_has ls 3 [(0, .ref (ad p0)), (1, .int p1), (2, .int p2)] := hl
  have hin10 : ∀ w ∈ wsX100, w ∈ wsX10_state := by decide +kernel
  have w_0 := hts (.fieldLink RX10 42 "MailSpool" "now" "LMailSpool$Spool;") (by decide +kernel)
  have hGE := hGs.2.2.2.2.2.2.1
  have hGM := hGs.2.2.2.2.2.2.2.1
  unfold f_X10_state at hf
  refine lv_aload_n hx hb dX10_state_0 rfl (lv_at hl 0 rfl) ?_
  refine lv_iload_n hx hb dX10_state_1 rfl (lv_at hl 1 rfl) ?_
  refine lv_iload_n hx hb dX10_state_2 rfl (lv_at hl 2 rfl) ?_
  replace hf := obE hf
  obtain ⟨z1, hz1, hf⟩ := hf
  obtain ⟨oz1, S2⟩ := z1
  replace hf := ltE hf S2 rfl
  refine x_tcallV (As := [.int p1, .int p2]) (rest := []) (S1 := S2) (o := oz1) (vr := (fun _ => none)) (P := True) hC hl.1 hW hS hGs hA tp0 rfl (show vwCl[9]? = some (RX10, TX10, 11) ∧ 9 < 11 from ⟨rfl, by decide⟩) (c_X10_needReference l hfl g ad n K s.heap.size F S0 p0 p1 p2 tp0 oz1 S2 hz1) (cwV 2 hts gX10_state_X10_needReference rfl rfl rfl (by decide +kernel) ⟨Nat.le_of_ble_eq_true rfl, Nat.le_of_ble_eq_true rfl⟩) rfl rfl (Nat.le_of_ble_eq_true rfl) dX10_state_3 ⟨Nat.le_of_ble_eq_true rfl, Nat.le_of_ble_eq_true rfl⟩ (fun x5 H locs ce q9 ho hW hS hc1 hc2 hc3 => ?_) (fun r3 H locs ho hP hW hS => ?_)
  · replace hf := smL ho hf
    obtain ⟨e1, e2⟩ := so2 hf
    subst e1
    subst e2
    exact x_tout hno hlk rfl hW hS hc1 hc2 hc3 (Nat.le_of_ble_eq_true rfl) (Nat.le_of_ble_eq_true rfl)
  · replace hf := smR ho hf
    refine W.widen (k := 1) (n := 6) (Nat.le_of_ble_eq_true rfl) (Nat.le_of_ble_eq_true rfl) ?_
    refine W.eq (g2 := F0 m 6 ls []) rfl ?_
    refine lv_aload_n hx hb dX10_state_6 rfl (lv_at hl 0 rfl) ?_
    replace hf := obE hf
    obtain ⟨j9, qj9, hf⟩ := hf
    have tj9 := x_rt hW qj9 7 ⟨by decide, rfl⟩
    refine x_getr 905 (ci := 9) (C := RX10) (T := TX10) (N := 11) 5 hC hin10 hW tp0 rfl rfl ⟨by decide, by decide, rfl, rfl⟩ rfl w_0 dX10_state_7 qj9 ?_
    refine lv_iload_n hx hb dX10_state_10 rfl (lv_at hl 1 rfl) ?_
    refine lv_iload_n hx hb dX10_state_11 rfl (lv_at hl 2 rfl) ?_
    replace hf := obE hf
    obtain ⟨z10, hz10, hf⟩ := hf
    obtain ⟨r12, S11⟩ := z10
    replace hf := ltE (ltE hf r12 rfl) S11 rfl
    refine x_callV (As := [.int p1, .int p2]) (rest := []) (o := (some (.int r12))) (S1 := S11) hC hl.1 hW hS hGs hA tj9 rfl (show vwCl[7]? = some (RX8, TX8, 16) ∧ 7 < 11 from ⟨rfl, by decide⟩) (c_X8_stateOf l g ad n K H.size F S2 j9 p1 p2 tj9 r12 S11 hz10) (cwV 2 hts gX10_state_X8_stateOf rfl rfl rfl (by decide +kernel) ⟨Nat.le_of_ble_eq_true rfl, Nat.le_of_ble_eq_true rfl⟩) rfl rfl (Nat.le_of_ble_eq_true rfl) dX10_state_12 ⟨Nat.le_of_ble_eq_true rfl, Nat.le_of_ble_eq_true rfl⟩ (fun H locs hPz10 hW hS => ?_)
    refine W.eq (g2 := F0 m 15 ls [.int r12]) rfl ?_
    obtain ⟨e1, e2⟩ := so2 hf
    subst e1
    subst e2
    exact vx_ret (W.iret (v := r12) hx hb hr (fun t ht hWm => ⟨⟨_, rfl, rfl, by unfold QB; rw [ht]; exact ⟨hW, trivial⟩⟩, hS.F ht⟩) hS.2.2 dX10_state_15 hlk)
set_option maxHeartbeats 4000000 in
set_option maxRecDepth 100000 in
theorem c_X8_retentionOf (l : Launch) (g : GP) (ad : Nat → Nat) (n : Nat) (K : Nat → Nat) (sz F : Nat) (S0 : St) (p0 : Nat) (p1 : Int32) (p2 : Int32) (tp0 : p0 < n ∧ K p0 = 7) (r9 : Int32) (S9 : St) (hf : f_X8_retentionOf F S0 p0 p1 p2 = some (r9, S9)) : Met l yX8_retentionOf wsX8_retentionOf { frames := 1, cells := 0, slots := 0, locals := 21 } (va_Pc [.ref (ad p0), .int p1, .int p2] (PB g ad n K S0 sz)) (QR (some (.int r9)) (QB g ad n K S9 (dA ad n sz) (True)) (dA ad n sz)) 0 0 (dA ad n sz) := by
  refine Met.ofW (cc := cX8_retentionOf) (maxL := 3) (ret := (some .int)) (by decide) rfl ?_
  intro p e s m args below meth c s₁ B hml hv
  obtain ⟨rfl, hsz, hW, hK, hGs⟩ := x_start hv
  subst hsz
  have hx := B.exec
  have hb := B.bytes
  have hr := B.returns
  have hts := atoms_spec (ws := wsX8_retentionOf) B.pre
  have hown : s.vm.findClass RX8 = some m.cls := findClass_of_methodNamed B.named
  have hlk := B.notSynchronized
  have hC : Cx g p s m _ c cX8_retentionOf RX8 wsX8_retentionOf 3 := ⟨hx, hb, hml, hown, hts, hK⟩
  have hA : ∀ q : Nat, s.heap.size ≤ q → dA ad n s.heap.size q := fun q h => Or.inr h
  have hS : va_S (dA ad n s.heap.size) s.heap s.heap [] := va_S.rf
  have hl := lv_entry ([.ref (ad p0), .int p1, .int p2]) (n := 3) (Nat.le_of_ble_eq_true rfl)
  rw [lg_entry_eq]
  generalize (lg_sl ([.ref (ad p0), .int p1, .int p2]) ++ List.replicate (3 - (lg_sl ([.ref (ad p0), .int p1, .int p2])).length) Slot.unset).toArray = ls at hl ⊢
  have hl : lv_has ls 3 [(0, .ref (ad p0)), (1, .int p1), (2, .int p2)] := hl
  have hin8 : ∀ w ∈ wsX80, w ∈ wsX8_retentionOf := by decide +kernel
  have w_0 := hts (.fieldLink RX8 28 "MailSpool$Spool" "retentions" "[I") (by decide +kernel)
  have w_1 := va_Nw.use (A := (List.toArray [.ref (ad p0), .int p1, .int p2])) rfl (hGs.1 (.methodLinkNest RX8 112 yX10_at "MailSpool") (by decide +kernel))
  have w_2 := hts (.initialized RX10) (by decide +kernel)
  have w_3 := hts (.static yX10_at) (by decide +kernel)
  have hGE := hGs.2.2.2.2.2.2.1
  have hGM := hGs.2.2.2.2.2.2.2.1
  unfold f_X8_retentionOf at hf
  refine lv_aload_n hx hb dX8_retentionOf_0 rfl (lv_at hl 0 rfl) ?_
  replace hf := obE hf
  obtain ⟨j1, qj1, hf⟩ := hf
  have tj1 := x_rt hW qj1 12 ⟨by decide, rfl⟩
  refine x_getr 708 (ci := 7) (C := RX8) (T := TX8) (N := 16) 8 hC hin8 hW tp0 rfl rfl ⟨by decide, by decide, rfl, rfl⟩ rfl w_0 dX8_retentionOf_1 qj1 ?_
  refine lv_iload_n hx hb dX8_retentionOf_4 rfl (lv_at hl 1 rfl) ?_
  refine lv_bipush (v := 10) hx hb dX8_retentionOf_5 (by decide) ?_
  refine lv_imul hx hb dX8_retentionOf_7 ?_
  refine lv_iload_n hx hb dX8_retentionOf_8 rfl (lv_at hl 2 rfl) ?_
  refine lv_iadd hx hb dX8_retentionOf_9 ?_
  replace hf := obE hf
  obtain ⟨z2, hz2, hf⟩ := hf
  obtain ⟨r4, S3⟩ := z2
  replace hf := ltE (ltE hf r4 rfl) S3 rfl
  refine x_callSN (As := [.ref (ad j1), .int ((p1 * 10) + p2)]) (rest := []) (o := (some (.int r4))) (S1 := S3) hC hl.1 hW hS hGs hA (c_X10_at l g ad n K s.heap.size F S0 j1 ((p1 * 10) + p2) tj1 r4 S3 hz2) ⟨va_cnB 2 hts gX8_retentionOf_X10_at_n112 rfl rfl rfl (va_Nw.of rfl w_1) w_2 (by decide +kernel) ⟨Nat.le_of_ble_eq_true rfl, Nat.le_of_ble_eq_true rfl⟩, w_3, trivial⟩ rfl rfl (Nat.le_of_ble_eq_true rfl) dX8_retentionOf_10 ⟨Nat.le_of_ble_eq_true rfl, Nat.le_of_ble_eq_true rfl⟩ (fun H locs hPz2 hW hS => ?_)
  refine W.eq (g2 := F0 m 13 ls [.int r4]) rfl ?_
  obtain ⟨e1, e2⟩ := so2 hf
  subst e1
  subst e2
  exact W.iret (v := r4) hx hb hr (fun t ht hWm => ⟨⟨rfl, by unfold QB; rw [ht]; exact ⟨hW, trivial⟩⟩, hS.F ht⟩) hS.2.2 dX8_retentionOf_13 hlk
set_option maxHeartbeats 4000000 in
set_option maxRecDepth 100000 in
theorem c_X10_classOf (l : Launch) (hfl : l.stackTraces = false) (g : GP) (ad : Nat → Nat) (n : Nat) (K : Nat → Nat) (sz F : Nat) (S0 : St) (p0 : Nat) (p1 : Int32) (p2 : Int32) (tp0 : p0 < n ∧ K p0 = 9) (o9 : Nat ⊕ Int32) (S9 : St) (hf : f_X10_classOf F S0 p0 p1 p2 = some (o9, S9)) : vx_Met l yX10_classOf wsX10_classOf { frames := 7, cells := 1, slots := 6, locals := 122 } (va_Pc [.ref (ad p0), .int p1, .int p2] (PB g ad n K S0 sz)) (QT o9 (fun r => some (.int r)) (QB g ad n K S9 (dA ad n sz) True) (dA ad n sz)) (XT o9 (QB g ad n K S9 (dA ad n sz) True) (dA ad n sz)) 1 6 (dA ad n sz) := by
  refine vx_ofW (cc := cX10_classOf) (maxL := 3) (ret := (some .int)) (by decide) rfl ?_
  intro p e s m args below meth c s₁ B hml hno hv
  obtain ⟨rfl, hsz, hW, hK, hGs⟩ := x_start hv
  subst hsz
  have hx := B.exec
  have hb := B.bytes
  have hr := B.returns
  have hts := atoms_spec (ws := wsX10_classOf) B.pre
  have hown : s.vm.findClass RX10 = some m.cls := findClass_of_methodNamed B.named
  have hlk := B.notSynchronized
  have hC : Cx g p s m _ c cX10_classOf RX10 wsX10_classOf 3 := ⟨hx, hb, hml, hown, hts, hK⟩
  have hA : ∀ q : Nat, s.heap.size ≤ q → dA ad n s.heap.size q := fun q h => Or.inr h
  have hS : va_S (dA ad n s.heap.size) s.heap s.heap [] := va_S.rf
  have hl := lv_entry ([.ref (ad p0), .int p1, .int p2]) (n := 3) (Nat.le_of_ble_eq_true rfl)
  rw [lg_entry_eq]
  generalize (lg_sl ([.ref (ad p0), .int p1, .int p2]) ++ List.replicate (3 - (lg_sl ([.ref (ad p0), .int p1, .int p2])).length) Slot.unset).toArray = ls at hl ⊢
  have hl : lv_has ls 3 [(0, .ref (ad p0)), (1, .int p1), (2, .int p2)] := hl
  have hin10 : ∀ w ∈ wsX100, w ∈ wsX10_classOf := by decide +kernel
  have w_0 := hts (.fieldLink RX10 42 "MailSpool" "now" "LMailSpool$Spool;") (by decide +kernel)
  have hGE := hGs.2.2.2.2.2.2.1
  have hGM := hGs.2.2.2.2.2.2.2.1
  unfold f_X10_classOf at hf
  refine lv_aload_n hx hb dX10_classOf_0 rfl (lv_at hl 0 rfl) ?_
  refine lv_iload_n hx hb dX10_classOf_1 rfl (lv_at hl 1 rfl) ?_
  refine lv_iload_n hx hb dX10_classOf_2 rfl (lv_at hl 2 rfl) ?_
  replace hf := obE hf
  obtain ⟨z1, hz1, hf⟩ := hf
  obtain ⟨oz1, S2⟩ := z1
  replace hf := ltE hf S2 rfl
  refine x_tcallV (As := [.int p1, .int p2]) (rest := []) (S1 := S2) (o := oz1) (vr := (fun _ => none)) (P := True) hC hl.1 hW hS hGs hA tp0 rfl (show vwCl[9]? = some (RX10, TX10, 11) ∧ 9 < 11 from ⟨rfl, by decide⟩) (c_X10_needReference l hfl g ad n K s.heap.size F S0 p0 p1 p2 tp0 oz1 S2 hz1) (cwV 2 hts gX10_classOf_X10_needReference rfl rfl rfl (by decide +kernel) ⟨Nat.le_of_ble_eq_true rfl, Nat.le_of_ble_eq_true rfl⟩) rfl rfl (Nat.le_of_ble_eq_true rfl) dX10_classOf_3 ⟨Nat.le_of_ble_eq_true rfl, Nat.le_of_ble_eq_true rfl⟩ (fun x5 H locs ce q9 ho hW hS hc1 hc2 hc3 => ?_) (fun r3 H locs ho hP hW hS => ?_)
  · replace hf := smL ho hf
    obtain ⟨e1, e2⟩ := so2 hf
    subst e1
    subst e2
    exact x_tout hno hlk rfl hW hS hc1 hc2 hc3 (Nat.le_of_ble_eq_true rfl) (Nat.le_of_ble_eq_true rfl)
  · replace hf := smR ho hf
    refine W.widen (k := 1) (n := 6) (Nat.le_of_ble_eq_true rfl) (Nat.le_of_ble_eq_true rfl) ?_
    refine W.eq (g2 := F0 m 6 ls []) rfl ?_
    refine lv_aload_n hx hb dX10_classOf_6 rfl (lv_at hl 0 rfl) ?_
    replace hf := obE hf
    obtain ⟨j9, qj9, hf⟩ := hf
    have tj9 := x_rt hW qj9 7 ⟨by decide, rfl⟩
    refine x_getr 905 (ci := 9) (C := RX10) (T := TX10) (N := 11) 5 hC hin10 hW tp0 rfl rfl ⟨by decide, by decide, rfl, rfl⟩ rfl w_0 dX10_classOf_7 qj9 ?_
    refine lv_iload_n hx hb dX10_classOf_10 rfl (lv_at hl 1 rfl) ?_
    refine lv_iload_n hx hb dX10_classOf_11 rfl (lv_at hl 2 rfl) ?_
    replace hf := obE hf
    obtain ⟨z10, hz10, hf⟩ := hf
    obtain ⟨r12, S11⟩ := z10
    replace hf := ltE (ltE hf r12 rfl) S11 rfl
    refine x_callV (As := [.int p1, .int p2]) (rest := []) (o := (some (.int r12))) (S1 := S11) hC hl.1 hW hS hGs hA tj9 rfl (show vwCl[7]? = some (RX8, TX8, 16) ∧ 7 < 11 from ⟨rfl, by decide⟩) (c_X8_retentionOf l g ad n K H.size F S2 j9 p1 p2 tj9 r12 S11 hz10) (cwV 2 hts gX10_classOf_X8_retentionOf rfl rfl rfl (by decide +kernel) ⟨Nat.le_of_ble_eq_true rfl, Nat.le_of_ble_eq_true rfl⟩) rfl rfl (Nat.le_of_ble_eq_true rfl) dX10_classOf_12 ⟨Nat.le_of_ble_eq_true rfl, Nat.le_of_ble_eq_true rfl⟩ (fun H locs hPz10 hW hS => ?_)
    refine W.eq (g2 := F0 m 15 ls [.int r12]) rfl ?_
    obtain ⟨e1, e2⟩ := so2 hf
    subst e1
    subst e2
    exact vx_ret (W.iret (v := r12) hx hb hr (fun t ht hWm => ⟨⟨_, rfl, rfl, by unfold QB; rw [ht]; exact ⟨hW, trivial⟩⟩, hS.F ht⟩) hS.2.2 dX10_classOf_15 hlk)
set_option maxHeartbeats 4000000 in
set_option maxRecDepth 100000 in
theorem c_X10_enteredOn (l : Launch) (hfl : l.stackTraces = false) (g : GP) (ad : Nat → Nat) (n : Nat) (K : Nat → Nat) (sz F : Nat) (S0 : St) (p0 : Nat) (p1 : Int32) (p2 : Int32) (tp0 : p0 < n ∧ K p0 = 9) (o9 : Nat ⊕ Int32) (S9 : St) (hf : f_X10_enteredOn F S0 p0 p1 p2 = some (o9, S9)) : vx_Met l yX10_enteredOn wsX10_enteredOn { frames := 7, cells := 1, slots := 6, locals := 122 } (va_Pc [.ref (ad p0), .int p1, .int p2] (PB g ad n K S0 sz)) (QT o9 (fun r => some (.int r)) (QB g ad n K S9 (dA ad n sz) True) (dA ad n sz)) (XT o9 (QB g ad n K S9 (dA ad n sz) True) (dA ad n sz)) 1 6 (dA ad n sz) := by
  refine vx_ofW (cc := cX10_enteredOn) (maxL := 3) (ret := (some .int)) (by decide) rfl ?_
  intro p e s m args below meth c s₁ B hml hno hv
  obtain ⟨rfl, hsz, hW, hK, hGs⟩ := x_start hv
  subst hsz
  have hx := B.exec
  have hb := B.bytes
  have hr := B.returns
  have hts := atoms_spec (ws := wsX10_enteredOn) B.pre
  have hown : s.vm.findClass RX10 = some m.cls := findClass_of_methodNamed B.named
  have hlk := B.notSynchronized
  have hC : Cx g p s m _ c cX10_enteredOn RX10 wsX10_enteredOn 3 := ⟨hx, hb, hml, hown, hts, hK⟩
  have hA : ∀ q : Nat, s.heap.size ≤ q → dA ad n s.heap.size q := fun q h => Or.inr h
  have hS : va_S (dA ad n s.heap.size) s.heap s.heap [] := va_S.rf
  have hl := lv_entry ([.ref (ad p0), .int p1, .int p2]) (n := 3) (Nat.le_of_ble_eq_true rfl)
  rw [lg_entry_eq]
  generalize (lg_sl ([.ref (ad p0), .int p1, .int p2]) ++ List.replicate (3 - (lg_sl ([.ref (ad p0), .int p1, .int p2])).length) Slot.unset).toArray = ls at hl ⊢
  have hl : lv_has ls 3 [(0, .ref (ad p0)), (1, .int p1), (2, .int p2)] := hl
  have hin8 : ∀ w ∈ wsX80, w ∈ wsX10_enteredOn := by decide +kernel
  have hin10 : ∀ w ∈ wsX100, w ∈ wsX10_enteredOn := by decide +kernel
  have w_0 := hts (.fieldLink RX10 42 "MailSpool" "now" "LMailSpool$Spool;") (by decide +kernel)
  have w_1 := va_Nw.use (A := (List.toArray [.ref (ad p0), .int p1, .int p2])) rfl (hGs.1 (.fieldLinkNest RX10 241 "MailSpool$Spool" "entered" "[I" "MailSpool") (by decide +kernel))
  have hGE := hGs.2.2.2.2.2.2.1
  have hGM := hGs.2.2.2.2.2.2.2.1
  unfold f_X10_enteredOn at hf
  refine lv_aload_n hx hb dX10_enteredOn_0 rfl (lv_at hl 0 rfl) ?_
  refine lv_iload_n hx hb dX10_enteredOn_1 rfl (lv_at hl 1 rfl) ?_
  refine lv_iload_n hx hb dX10_enteredOn_2 rfl (lv_at hl 2 rfl) ?_
  replace hf := obE hf
  obtain ⟨z1, hz1, hf⟩ := hf
  obtain ⟨oz1, S2⟩ := z1
  replace hf := ltE hf S2 rfl
  refine x_tcallV (As := [.int p1, .int p2]) (rest := []) (S1 := S2) (o := oz1) (vr := (fun _ => none)) (P := True) hC hl.1 hW hS hGs hA tp0 rfl (show vwCl[9]? = some (RX10, TX10, 11) ∧ 9 < 11 from ⟨rfl, by decide⟩) (c_X10_needReference l hfl g ad n K s.heap.size F S0 p0 p1 p2 tp0 oz1 S2 hz1) (cwV 2 hts gX10_enteredOn_X10_needReference rfl rfl rfl (by decide +kernel) ⟨Nat.le_of_ble_eq_true rfl, Nat.le_of_ble_eq_true rfl⟩) rfl rfl (Nat.le_of_ble_eq_true rfl) dX10_enteredOn_3 ⟨Nat.le_of_ble_eq_true rfl, Nat.le_of_ble_eq_true rfl⟩ (fun x5 H locs ce q9 ho hW hS hc1 hc2 hc3 => ?_) (fun r3 H locs ho hP hW hS => ?_)
  · replace hf := smL ho hf
    obtain ⟨e1, e2⟩ := so2 hf
    subst e1
    subst e2
    exact x_tout hno hlk rfl hW hS hc1 hc2 hc3 (Nat.le_of_ble_eq_true rfl) (Nat.le_of_ble_eq_true rfl)
  · replace hf := smR ho hf
    refine W.widen (k := 1) (n := 6) (Nat.le_of_ble_eq_true rfl) (Nat.le_of_ble_eq_true rfl) ?_
    refine W.eq (g2 := F0 m 6 ls []) rfl ?_
    refine lv_aload_n hx hb dX10_enteredOn_6 rfl (lv_at hl 0 rfl) ?_
    replace hf := obE hf
    obtain ⟨j9, qj9, hf⟩ := hf
    have tj9 := x_rt hW qj9 7 ⟨by decide, rfl⟩
    refine x_getr 905 (ci := 9) (C := RX10) (T := TX10) (N := 11) 5 hC hin10 hW tp0 rfl rfl ⟨by decide, by decide, rfl, rfl⟩ rfl w_0 dX10_enteredOn_7 qj9 ?_
    replace hf := obE hf
    obtain ⟨j10, qj10, hf⟩ := hf
    have tj10 := x_rt hW qj10 12 ⟨by decide, rfl⟩
    refine x_getrN 709 (ci := 7) (C := RX8) (T := TX8) (N := 16) 9 hC hin8 hW tj9 rfl rfl ⟨by decide, by decide, rfl, rfl⟩ rfl w_1 dX10_enteredOn_10 qj10 ?_
    refine lv_iload_n hx hb dX10_enteredOn_13 rfl (lv_at hl 1 rfl) ?_
    refine lv_bipush (v := 10) hx hb dX10_enteredOn_14 (by decide) ?_
    refine lv_imul hx hb dX10_enteredOn_16 ?_
    refine lv_iload_n hx hb dX10_enteredOn_17 rfl (lv_at hl 2 rfl) ?_
    refine lv_iadd hx hb dX10_enteredOn_18 ?_
    replace hf := obE hf
    obtain ⟨z11, hz11, hf⟩ := hf
    obtain ⟨r13, S12⟩ := z11
    replace hf := ltE (ltE hf r13 rfl) S12 rfl
    refine x_callS (As := [.ref (ad j10), .int ((p1 * 10) + p2)]) (rest := []) (o := (some (.int r13))) (S1 := S12) hC hl.1 hW hS hGs hA (c_X10_at l g ad n K H.size F S2 j10 ((p1 * 10) + p2) tj10 r13 S12 hz11) (va_cwS 2 hts gX10_enteredOn_X10_at rfl rfl rfl (by decide +kernel) ⟨Nat.le_of_ble_eq_true rfl, Nat.le_of_ble_eq_true rfl⟩) rfl rfl (Nat.le_of_ble_eq_true rfl) dX10_enteredOn_19 ⟨Nat.le_of_ble_eq_true rfl, Nat.le_of_ble_eq_true rfl⟩ (fun H locs hPz11 hW hS => ?_)
    refine W.eq (g2 := F0 m 22 ls [.int r13]) rfl ?_
    obtain ⟨e1, e2⟩ := so2 hf
    subst e1
    subst e2
    exact vx_ret (W.iret (v := r13) hx hb hr (fun t ht hWm => ⟨⟨_, rfl, rfl, by unfold QB; rw [ht]; exact ⟨hW, trivial⟩⟩, hS.F ht⟩) hS.2.2 dX10_enteredOn_22 hlk)
set_option maxHeartbeats 4000000 in
set_option maxRecDepth 100000 in
theorem c_X8_expiryOf (l : Launch) (g : GP) (ad : Nat → Nat) (n : Nat) (K : Nat → Nat) (sz F : Nat) (S0 : St) (p0 : Nat) (p1 : Int32) (p2 : Int32) (tp0 : p0 < n ∧ K p0 = 7) (r9 : Int32) (S9 : St) (hf : f_X8_expiryOf F S0 p0 p1 p2 = some (r9, S9)) : Met l yX8_expiryOf wsX8_expiryOf { frames := 2, cells := 0, slots := 0, locals := 46 } (va_Pc [.ref (ad p0), .int p1, .int p2] (PB g ad n K S0 sz)) (QR (some (.int r9)) (QB g ad n K S9 (dA ad n sz) (True)) (dA ad n sz)) 0 0 (dA ad n sz) := by
  refine Met.ofW (cc := cX8_expiryOf) (maxL := 7) (ret := (some .int)) (by decide) rfl ?_
  intro p e s m args below meth c s₁ B hml hv
  obtain ⟨rfl, hsz, hW, hK, hGs⟩ := x_start hv
  subst hsz
  have hx := B.exec
  have hb := B.bytes
  have hr := B.returns
  have hts := atoms_spec (ws := wsX8_expiryOf) B.pre
  have hown : s.vm.findClass RX8 = some m.cls := findClass_of_methodNamed B.named
  have hlk := B.notSynchronized
  have hC : Cx g p s m _ c cX8_expiryOf RX8 wsX8_expiryOf 7 := ⟨hx, hb, hml, hown, hts, hK⟩
  have hA : ∀ q : Nat, s.heap.size ≤ q → dA ad n s.heap.size q := fun q h => Or.inr h
  have hS : va_S (dA ad n s.heap.size) s.heap s.heap [] := va_S.rf
  have hl := lv_entry ([.ref (ad p0), .int p1, .int p2]) (n := 7) (Nat.le_of_ble_eq_true rfl)
  rw [lg_entry_eq]
  generalize (lg_sl ([.ref (ad p0), .int p1, .int p2]) ++ List.replicate (7 - (lg_sl ([.ref (ad p0), .int p1, .int p2])).length) Slot.unset).toArray = ls at hl ⊢
  have hl : lv_has ls 7 [(0, .ref (ad p0)), (1, .int p1), (2, .int p2)] := hl
  have hin7 : ∀ w ∈ wsX70, w ∈ wsX8_expiryOf := by decide +kernel
  have hin8 : ∀ w ∈ wsX80, w ∈ wsX8_expiryOf := by decide +kernel
  have w_0 := hts (.fieldLink RX8 9 "MailSpool$Spool" "rules" "LMailSpool$Rules;") (by decide +kernel)
  have w_1 := va_Nw.use (A := (List.toArray [.ref (ad p0), .int p1, .int p2])) rfl (hGs.1 (.fieldLinkNest RX8 148 "MailSpool$Rules" "classDays" "[I" "MailSpool") (by decide +kernel))
  have w_2 := va_Nw.use (A := (List.toArray [.ref (ad p0), .int p1, .int p2])) rfl (hGs.1 (.methodLinkNest RX8 112 yX10_at "MailSpool") (by decide +kernel))
  have w_3 := hts (.initialized RX10) (by decide +kernel)
  have w_4 := hts (.static yX10_at) (by decide +kernel)
  have w_5 := hts (.fieldLink RX8 31 "MailSpool$Spool" "entered" "[I") (by decide +kernel)
  have w_6 := hts (.fieldLink RX8 66 "MailSpool$Spool" "day" "I") (by decide +kernel)
  have w_7 := hts (.methodLink RX8 151 Lib.Math.max.name) (by decide +kernel)
  have w_8 := hts (.static Lib.Math.max.name) (by decide +kernel)
  have w_9 := hts (.initialized "java/lang/Math") (by decide +kernel)
  have w_10 := hts (.code Lib.Math.max.name Lib.Math.max.code 2 (some .int)) (by decide +kernel)
  have hGE := hGs.2.2.2.2.2.2.1
  have hGM := hGs.2.2.2.2.2.2.2.1
  unfold f_X8_expiryOf at hf
  refine lv_aload_n hx hb dX8_expiryOf_0 rfl (lv_at hl 0 rfl) ?_
  refine lv_iload_n hx hb dX8_expiryOf_1 rfl (lv_at hl 1 rfl) ?_
  refine lv_iload_n hx hb dX8_expiryOf_2 rfl (lv_at hl 2 rfl) ?_
  replace hf := obE hf
  obtain ⟨z1, hz1, hf⟩ := hf
  obtain ⟨r3, S2⟩ := z1
  replace hf := ltE (ltE hf r3 rfl) S2 rfl
  refine x_callV (As := [.int p1, .int p2]) (rest := []) (o := (some (.int r3))) (S1 := S2) hC hl.1 hW hS hGs hA tp0 rfl (show vwCl[7]? = some (RX8, TX8, 16) ∧ 7 < 11 from ⟨rfl, by decide⟩) (c_X8_retentionOf l g ad n K s.heap.size F S0 p0 p1 p2 tp0 r3 S2 hz1) (cwV 2 hts gX8_expiryOf_X8_retentionOf rfl rfl rfl (by decide +kernel) ⟨Nat.le_of_ble_eq_true rfl, Nat.le_of_ble_eq_true rfl⟩) rfl rfl (Nat.le_of_ble_eq_true rfl) dX8_expiryOf_3 ⟨Nat.le_of_ble_eq_true rfl, Nat.le_of_ble_eq_true rfl⟩ (fun H locs hPz1 hW hS => ?_)
  refine W.eq (g2 := F0 m 6 ls [.int r3]) rfl ?_
  refine lv_istore_n (lv' := [(3, .int r3), (0, .ref (ad p0)), (1, .int p1), (2, .int p2)]) hx hb dX8_expiryOf_6 rfl hl (by decide) rfl (fun ls hl => ?_)
  refine lv_aload_n hx hb dX8_expiryOf_7 rfl (lv_at hl 1 rfl) ?_
  replace hf := obE hf
  obtain ⟨j5, qj5, hf⟩ := hf
  have tj5 := x_rt hW qj5 6 ⟨by decide, rfl⟩
  refine x_getr 700 (ci := 7) (C := RX8) (T := TX8) (N := 16) 0 hC hin8 hW tp0 rfl rfl ⟨by decide, by decide, rfl, rfl⟩ rfl w_0 dX8_expiryOf_8 qj5 ?_
  refine lv_iload_n hx hb dX8_expiryOf_11 rfl (lv_at hl 0 rfl) ?_
  replace hf := obE hf
  obtain ⟨z6, hz6, hf⟩ := hf
  obtain ⟨r8, S7⟩ := z6
  replace hf := ltE (ltE hf r8 rfl) S7 rfl
  refine x_callV (As := [.int r3]) (rest := []) (o := (some (.int r8))) (S1 := S7) hC hl.1 hW hS hGs hA tj5 rfl (show vwCl[6]? = some (RX7, TX7, 16) ∧ 6 < 11 from ⟨rfl, by decide⟩) (c_X7_ladderFrom l g ad n K H.size F S2 j5 r3 tj5 r8 S7 hz6) (cwV 1 hts gX8_expiryOf_X7_ladderFrom rfl rfl rfl (by decide +kernel) ⟨Nat.le_of_ble_eq_true rfl, Nat.le_of_ble_eq_true rfl⟩) rfl rfl (Nat.le_of_ble_eq_true rfl) dX8_expiryOf_12 ⟨Nat.le_of_ble_eq_true rfl, Nat.le_of_ble_eq_true rfl⟩ (fun H locs hPz6 hW hS => ?_)
  refine W.eq (g2 := F0 m 15 ls [.int r8]) rfl ?_
  refine lv_istore (lv' := [(4, .int r8), (3, .int r3), (0, .ref (ad p0)), (1, .int p1), (2, .int p2)]) hx hb dX8_expiryOf_15 hl (by decide) rfl (fun ls hl => ?_)
  refine lv_aload_n hx hb dX8_expiryOf_17 rfl (lv_at hl 2 rfl) ?_
  refine lv_iload_n hx hb dX8_expiryOf_18 rfl (lv_at hl 3 rfl) ?_
  refine lv_iload_n hx hb dX8_expiryOf_19 rfl (lv_at hl 4 rfl) ?_
  replace hf := obE hf
  obtain ⟨z10, hz10, hf⟩ := hf
  obtain ⟨r12, S11⟩ := z10
  replace hf := ltE (ltE hf r12 rfl) S11 rfl
  refine x_callV (As := [.int p1, .int p2]) (rest := []) (o := (some (.int r12))) (S1 := S11) hC hl.1 hW hS hGs hA tp0 rfl (show vwCl[7]? = some (RX8, TX8, 16) ∧ 7 < 11 from ⟨rfl, by decide⟩) (c_X8_stateOf l g ad n K H.size F S7 p0 p1 p2 tp0 r12 S11 hz10) (cwV 2 hts gX8_expiryOf_X8_stateOf rfl rfl rfl (by decide +kernel) ⟨Nat.le_of_ble_eq_true rfl, Nat.le_of_ble_eq_true rfl⟩) rfl rfl (Nat.le_of_ble_eq_true rfl) dX8_expiryOf_20 ⟨Nat.le_of_ble_eq_true rfl, Nat.le_of_ble_eq_true rfl⟩ (fun H locs hPz10 hW hS => ?_)
  refine W.eq (g2 := F0 m 23 ls [.int r12]) rfl ?_
  refine lv_if_ne (tgt := 32) hx hb dX8_expiryOf_23 (by decide) (fun c14 => ?_) (fun c14 => ?_)
  · replace hf := ifT c14 hf
    refine lv_iconst (v := -1) hx hb dX8_expiryOf_32 (by decide) ?_
    obtain ⟨e1, e2⟩ := so2 hf
    subst e1
    subst e2
    exact W.iret (v := (-1)) hx hb hr (fun t ht hWm => ⟨⟨rfl, by unfold QB; rw [ht]; exact ⟨hW, trivial⟩⟩, hS.F ht⟩) hS.2.2 dX8_expiryOf_33 hlk
  · replace hf := ifF (fun q => q c14) hf
    refine lv_iload hx hb dX8_expiryOf_26 (lv_at hl 0 rfl) ?_
    refine lv_iconst (v := -1) hx hb dX8_expiryOf_28 (by decide) ?_
    refine lv_icmp_ne (tgt := 34) hx hb dX8_expiryOf_29 (by decide) (fun c15 => ?_) (fun c15 => ?_)
    · replace hf := ifT c15 hf
      refine lv_aload_n hx hb dX8_expiryOf_34 rfl (lv_at hl 2 rfl) ?_
      replace hf := obE hf
      obtain ⟨j16, qj16, hf⟩ := hf
      have tj16 := x_rt hW qj16 6 ⟨by decide, rfl⟩
      refine x_getr 700 (ci := 7) (C := RX8) (T := TX8) (N := 16) 0 hC hin8 hW tp0 rfl rfl ⟨by decide, by decide, rfl, rfl⟩ rfl w_0 dX8_expiryOf_35 qj16 ?_
      replace hf := obE hf
      obtain ⟨j17, qj17, hf⟩ := hf
      have tj17 := x_rt hW qj17 12 ⟨by decide, rfl⟩
      refine x_getrN 603 (ci := 6) (C := RX7) (T := TX7) (N := 16) 3 hC hin7 hW tj16 rfl rfl ⟨by decide, by decide, rfl, rfl⟩ rfl w_1 dX8_expiryOf_38 qj17 ?_
      refine lv_iload_n hx hb dX8_expiryOf_41 rfl (lv_at hl 1 rfl) ?_
      replace hf := obE hf
      obtain ⟨z18, hz18, hf⟩ := hf
      obtain ⟨r20, S19⟩ := z18
      replace hf := ltE (ltE hf r20 rfl) S19 rfl
      refine x_callSN (As := [.ref (ad j17), .int r3]) (rest := []) (o := (some (.int r20))) (S1 := S19) hC hl.1 hW hS hGs hA (c_X10_at l g ad n K H.size F S11 j17 r3 tj17 r20 S19 hz18) ⟨va_cnB 2 hts gX8_expiryOf_X10_at_n112 rfl rfl rfl (va_Nw.of rfl w_2) w_3 (by decide +kernel) ⟨Nat.le_of_ble_eq_true rfl, Nat.le_of_ble_eq_true rfl⟩, w_4, trivial⟩ rfl rfl (Nat.le_of_ble_eq_true rfl) dX8_expiryOf_42 ⟨Nat.le_of_ble_eq_true rfl, Nat.le_of_ble_eq_true rfl⟩ (fun H locs hPz18 hW hS => ?_)
      refine W.eq (g2 := F0 m 45 ls [.int r20]) rfl ?_
      refine lv_istore (lv' := [(5, .int r20), (4, .int r8), (3, .int r3), (0, .ref (ad p0)), (1, .int p1), (2, .int p2)]) hx hb dX8_expiryOf_45 hl (by decide) rfl (fun ls hl => ?_)
      refine lv_aload_n hx hb dX8_expiryOf_47 rfl (lv_at hl 3 rfl) ?_
      replace hf := obE hf
      obtain ⟨j22, qj22, hf⟩ := hf
      have tj22 := x_rt hW qj22 12 ⟨by decide, rfl⟩
      refine x_getr 709 (ci := 7) (C := RX8) (T := TX8) (N := 16) 9 hC hin8 hW tp0 rfl rfl ⟨by decide, by decide, rfl, rfl⟩ rfl w_5 dX8_expiryOf_48 qj22 ?_
      refine lv_iload_n hx hb dX8_expiryOf_51 rfl (lv_at hl 4 rfl) ?_
      refine lv_bipush (v := 10) hx hb dX8_expiryOf_52 (by decide) ?_
      refine lv_imul hx hb dX8_expiryOf_54 ?_
      refine lv_iload_n hx hb dX8_expiryOf_55 rfl (lv_at hl 5 rfl) ?_
      refine lv_iadd hx hb dX8_expiryOf_56 ?_
      replace hf := obE hf
      obtain ⟨z23, hz23, hf⟩ := hf
      obtain ⟨r25, S24⟩ := z23
      replace hf := ltE (ltE hf r25 rfl) S24 rfl
      refine x_callSN (As := [.ref (ad j22), .int ((p1 * 10) + p2)]) (rest := []) (o := (some (.int r25))) (S1 := S24) hC hl.1 hW hS hGs hA (c_X10_at l g ad n K H.size F S19 j22 ((p1 * 10) + p2) tj22 r25 S24 hz23) ⟨va_cnB 2 hts gX8_expiryOf_X10_at_n112 rfl rfl rfl (va_Nw.of rfl w_2) w_3 (by decide +kernel) ⟨Nat.le_of_ble_eq_true rfl, Nat.le_of_ble_eq_true rfl⟩, w_4, trivial⟩ rfl rfl (Nat.le_of_ble_eq_true rfl) dX8_expiryOf_57 ⟨Nat.le_of_ble_eq_true rfl, Nat.le_of_ble_eq_true rfl⟩ (fun H locs hPz23 hW hS => ?_)
      refine W.eq (g2 := F0 m 60 ls [.int r25]) rfl ?_
      refine lv_iload hx hb dX8_expiryOf_60 (lv_at hl 0 rfl) ?_
      refine lv_iadd hx hb dX8_expiryOf_62 ?_
      refine lv_aload_n hx hb dX8_expiryOf_63 rfl (lv_at hl 3 rfl) ?_
      refine x_geti 701 (ci := 7) (C := RX8) (T := TX8) (N := 16) 1 hC hin8 hW tp0 rfl rfl ⟨by decide, by decide, rfl, rfl⟩ rfl w_6 dX8_expiryOf_64 ?_
      refine lv_iconst (v := 1) hx hb dX8_expiryOf_67 (by decide) ?_
      refine lv_iadd hx hb dX8_expiryOf_68 ?_
      refine va_mmax hx hb (hml.trans hl.1.symm) hown w_7 w_8 w_9 w_10 (Nat.le_of_ble_eq_true rfl) (Nat.le_of_ble_eq_true rfl) (Nat.zero_le _) (Nat.zero_le _) dX8_expiryOf_69 ?_
      refine lv_topi (fun x27 ex27 => ?_)
      replace hf := ltE hf x27 ex27
      refine lv_istore (lv' := [(6, .int x27), (5, .int r20), (4, .int r8), (3, .int r3), (0, .ref (ad p0)), (1, .int p1), (2, .int p2)]) hx hb dX8_expiryOf_72 hl (by decide) rfl (fun ls hl => ?_)
      refine lv_iload hx hb dX8_expiryOf_74 (lv_at hl 0 rfl) ?_
      refine lv_iload hx hb dX8_expiryOf_76 (lv_at hl 2 rfl) ?_
      refine lv_iadd hx hb dX8_expiryOf_78 ?_
      refine lv_iload hx hb dX8_expiryOf_79 (lv_at hl 1 rfl) ?_
      refine lv_isub hx hb dX8_expiryOf_81 ?_
      obtain ⟨e1, e2⟩ := so2 hf
      subst e1
      subst e2
      exact W.iret (v := (x27 + r8) - r20) hx hb hr (fun t ht hWm => ⟨⟨rfl, by unfold QB; rw [ht]; exact ⟨hW, trivial⟩⟩, hS.F ht⟩) hS.2.2 dX8_expiryOf_82 hlk
    · replace hf := ifF (fun q => q c15) hf
      refine lv_iconst (v := -1) hx hb dX8_expiryOf_32 (by decide) ?_
      obtain ⟨e1, e2⟩ := so2 hf
      subst e1
      subst e2
      exact W.iret (v := (-1)) hx hb hr (fun t ht hWm => ⟨⟨rfl, by unfold QB; rw [ht]; exact ⟨hW, trivial⟩⟩, hS.F ht⟩) hS.2.2 dX8_expiryOf_33 hlk
set_option maxHeartbeats 4000000 in
set_option maxRecDepth 100000 in
theorem c_X10_expiresOn (l : Launch) (hfl : l.stackTraces = false) (g : GP) (ad : Nat → Nat) (n : Nat) (K : Nat → Nat) (sz F : Nat) (S0 : St) (p0 : Nat) (p1 : Int32) (p2 : Int32) (tp0 : p0 < n ∧ K p0 = 9) (o9 : Nat ⊕ Int32) (S9 : St) (hf : f_X10_expiresOn F S0 p0 p1 p2 = some (o9, S9)) : vx_Met l yX10_expiresOn wsX10_expiresOn { frames := 7, cells := 1, slots := 6, locals := 122 } (va_Pc [.ref (ad p0), .int p1, .int p2] (PB g ad n K S0 sz)) (QT o9 (fun r => some (.int r)) (QB g ad n K S9 (dA ad n sz) True) (dA ad n sz)) (XT o9 (QB g ad n K S9 (dA ad n sz) True) (dA ad n sz)) 1 6 (dA ad n sz) := by
  refine vx_ofW (cc := cX10_expiresOn) (maxL := 3) (ret := (some .int)) (by decide) rfl ?_
  intro p e s m args below meth c s₁ B hml hno hv
  obtain ⟨rfl, hsz, hW, hK, hGs⟩ := x_start hv
  subst hsz
  have hx := B.exec
  have hb := B.bytes
  have hr := B.returns
  have hts := atoms_spec (ws := wsX10_expiresOn) B.pre
  have hown : s.vm.findClass RX10 = some m.cls := findClass_of_methodNamed B.named
  have hlk := B.notSynchronized
  have hC : Cx g p s m _ c cX10_expiresOn RX10 wsX10_expiresOn 3 := ⟨hx, hb, hml, hown, hts, hK⟩
  have hA : ∀ q : Nat, s.heap.size ≤ q → dA ad n s.heap.size q := fun q h => Or.inr h
  have hS : va_S (dA ad n s.heap.size) s.heap s.heap [] := va_S.rf
  have hl := lv_entry ([.ref (ad p0), .int p1, .int p2]) (n := 3) (Nat.le_of_ble_eq_true rfl)
  rw [lg_entry_eq]
  generalize (lg_sl ([.ref (ad p0), .int p1, .int p2]) ++ List.replicate (3 - (lg_sl ([.ref (ad p0), .int p1, .int p2])).length) Slot.unset).toArray = ls at hl ⊢
  have hl : lv_has ls 3 [(0, .ref (ad p0)), (1, .int p1), (2, .int p2)] := hl
  have hin10 : ∀ w ∈ wsX100, w ∈ wsX10_expiresOn := by decide +kernel
  have w_0 := hts (.fieldLink RX10 42 "MailSpool" "now" "LMailSpool$Spool;") (by decide +kernel)
  have hGE := hGs.2.2.2.2.2.2.1
  have hGM := hGs.2.2.2.2.2.2.2.1
  unfold f_X10_expiresOn at hf
  refine lv_aload_n hx hb dX10_expiresOn_0 rfl (lv_at hl 0 rfl) ?_
  refine lv_iload_n hx hb dX10_expiresOn_1 rfl (lv_at hl 1 rfl) ?_
  refine lv_iload_n hx hb dX10_expiresOn_2 rfl (lv_at hl 2 rfl) ?_
  replace hf := obE hf
  obtain ⟨z1, hz1, hf⟩ := hf
  obtain ⟨oz1, S2⟩ := z1
  replace hf := ltE hf S2 rfl
  refine x_tcallV (As := [.int p1, .int p2]) (rest := []) (S1 := S2) (o := oz1) (vr := (fun _ => none)) (P := True) hC hl.1 hW hS hGs hA tp0 rfl (show vwCl[9]? = some (RX10, TX10, 11) ∧ 9 < 11 from ⟨rfl, by decide⟩) (c_X10_needReference l hfl g ad n K s.heap.size F S0 p0 p1 p2 tp0 oz1 S2 hz1) (cwV 2 hts gX10_expiresOn_X10_needReference rfl rfl rfl (by decide +kernel) ⟨Nat.le_of_ble_eq_true rfl, Nat.le_of_ble_eq_true rfl⟩) rfl rfl (Nat.le_of_ble_eq_true rfl) dX10_expiresOn_3 ⟨Nat.le_of_ble_eq_true rfl, Nat.le_of_ble_eq_true rfl⟩ (fun x5 H locs ce q9 ho hW hS hc1 hc2 hc3 => ?_) (fun r3 H locs ho hP hW hS => ?_)
  · replace hf := smL ho hf
    obtain ⟨e1, e2⟩ := so2 hf
    subst e1
    subst e2
    exact x_tout hno hlk rfl hW hS hc1 hc2 hc3 (Nat.le_of_ble_eq_true rfl) (Nat.le_of_ble_eq_true rfl)
  · replace hf := smR ho hf
    refine W.widen (k := 1) (n := 6) (Nat.le_of_ble_eq_true rfl) (Nat.le_of_ble_eq_true rfl) ?_
    refine W.eq (g2 := F0 m 6 ls []) rfl ?_
    refine lv_aload_n hx hb dX10_expiresOn_6 rfl (lv_at hl 0 rfl) ?_
    replace hf := obE hf
    obtain ⟨j9, qj9, hf⟩ := hf
    have tj9 := x_rt hW qj9 7 ⟨by decide, rfl⟩
    refine x_getr 905 (ci := 9) (C := RX10) (T := TX10) (N := 11) 5 hC hin10 hW tp0 rfl rfl ⟨by decide, by decide, rfl, rfl⟩ rfl w_0 dX10_expiresOn_7 qj9 ?_
    refine lv_iload_n hx hb dX10_expiresOn_10 rfl (lv_at hl 1 rfl) ?_
    refine lv_iload_n hx hb dX10_expiresOn_11 rfl (lv_at hl 2 rfl) ?_
    replace hf := obE hf
    obtain ⟨z10, hz10, hf⟩ := hf
    obtain ⟨r12, S11⟩ := z10
    replace hf := ltE (ltE hf r12 rfl) S11 rfl
    refine x_callV (As := [.int p1, .int p2]) (rest := []) (o := (some (.int r12))) (S1 := S11) hC hl.1 hW hS hGs hA tj9 rfl (show vwCl[7]? = some (RX8, TX8, 16) ∧ 7 < 11 from ⟨rfl, by decide⟩) (c_X8_expiryOf l g ad n K H.size F S2 j9 p1 p2 tj9 r12 S11 hz10) (cwV 2 hts gX10_expiresOn_X8_expiryOf rfl rfl rfl (by decide +kernel) ⟨Nat.le_of_ble_eq_true rfl, Nat.le_of_ble_eq_true rfl⟩) rfl rfl (Nat.le_of_ble_eq_true rfl) dX10_expiresOn_12 ⟨Nat.le_of_ble_eq_true rfl, Nat.le_of_ble_eq_true rfl⟩ (fun H locs hPz10 hW hS => ?_)
    refine W.eq (g2 := F0 m 15 ls [.int r12]) rfl ?_
    obtain ⟨e1, e2⟩ := so2 hf
    subst e1
    subst e2
    exact vx_ret (W.iret (v := r12) hx hb hr (fun t ht hWm => ⟨⟨_, rfl, rfl, by unfold QB; rw [ht]; exact ⟨hW, trivial⟩⟩, hS.F ht⟩) hS.2.2 dX10_expiresOn_15 hlk)
set_option maxHeartbeats 4000000 in
set_option maxRecDepth 100000 in
theorem c_X8_liveInClass (l : Launch) (g : GP) (ad : Nat → Nat) (n : Nat) (K : Nat → Nat) (sz F : Nat) (S0 : St) (p0 : Nat) (p1 : Int32) (p2 : Int32) (p3 : Int32) (tp0 : p0 < n ∧ K p0 = 7) (r9 : Int32) (S9 : St) (hf : f_X8_liveInClass F S0 p0 p1 p2 p3 = some (r9, S9)) : Met l yX8_liveInClass wsX8_liveInClass { frames := 2, cells := 0, slots := 0, locals := 43 } (va_Pc [.ref (ad p0), .int p1, .int p2, .int p3] (PB g ad n K S0 sz)) (QR (some (.int r9)) (QB g ad n K S9 (dA ad n sz) (True)) (dA ad n sz)) 0 0 (dA ad n sz) := by
  refine Met.ofW (cc := cX8_liveInClass) (maxL := 6) (ret := (some .int)) (by decide) rfl ?_
  intro p e s m args below meth c s₁ B hml hv
  obtain ⟨rfl, hsz, hW, hK, hGs⟩ := x_start hv
  subst hsz
  have hx := B.exec
  have hb := B.bytes
  have hr := B.returns
  have hts := atoms_spec (ws := wsX8_liveInClass) B.pre
  have hown : s.vm.findClass RX8 = some m.cls := findClass_of_methodNamed B.named
  have hlk := B.notSynchronized
  have hC : Cx g p s m _ c cX8_liveInClass RX8 wsX8_liveInClass 6 := ⟨hx, hb, hml, hown, hts, hK⟩
  have hA : ∀ q : Nat, s.heap.size ≤ q → dA ad n s.heap.size q := fun q h => Or.inr h
  have hS : va_S (dA ad n s.heap.size) s.heap s.heap [] := va_S.rf
  have hl := lv_entry ([.ref (ad p0), .int p1, .int p2, .int p3]) (n := 6) (Nat.le_of_ble_eq_true rfl)
  rw [lg_entry_eq]
  generalize (lg_sl ([.ref (ad p0), .int p1, .int p2, .int p3]) ++ List.replicate (6 - (lg_sl ([.ref (ad p0), .int p1, .int p2, .int p3])).length) Slot.unset).toArray = ls at hl ⊢
  have hl : lv_has ls 6 [(0, .ref (ad p0)), (1, .int p1), (2, .int p2), (3, .int p3)] := hl
  have hin8 : ∀ w ∈ wsX80, w ∈ wsX8_liveInClass := by decide +kernel
  have w_0 := hts (.fieldLink RX8 88 "MailSpool$Spool" "messageCount" "I") (by decide +kernel)
  have hGE := hGs.2.2.2.2.2.2.1
  have hGM := hGs.2.2.2.2.2.2.2.1
  have L8 : ∀ (fu8 : Nat) (S0 : St) (v0 : Nat) (v1 : Int32) (v2 : Int32) (v4 : Int32) (v5 : Int32) (tv0 : v0 < n ∧ K v0 = 7) (H : Heap) (locs : List Loc) (ls : Array Slot), f_X8_liveInClass_L8 F fu8 S0 v0 v1 v2 v4 v5 = some (r9, S9) → Wb g ad n K S0 (dA ad n s.heap.size) H → va_S (dA ad n s.heap.size) s.heap H locs → lv_has ls 6 [(0, .ref (ad v0)), (1, .int v1), (2, .int v2), (4, .int v4), (5, .int v5)] → W p l e (headSpec wsX8_liveInClass { frames := 2, cells := 0, slots := 0, locals := 43 }).room s m (List.toArray [.ref (ad p0), .int p1, .int p2, .int p3]) below meth c H locs 0 0 (MQ below (QR (some (.int r9)) (QB g ad n K S9 (dA ad n s.heap.size) (True)) (dA ad n s.heap.size)) (List.toArray [.ref (ad p0), .int p1, .int p2, .int p3]) s 0 0 (dA ad n s.heap.size)) (F0 m 8 ls []) := by
    intro fu8
    induction fu8 with
    | zero =>
      intro S0 v0 v1 v2 v4 v5 tv0 H locs ls hf
      cases hf
    | succ fu8 ih8 =>
      have L41 : ∀ (S0 : St) (v0 : Nat) (v1 : Int32) (v2 : Int32) (v4 : Int32) (v5 : Int32) (tv0 : v0 < n ∧ K v0 = 7) (H : Heap) (locs : List Loc) (ls : Array Slot), f_X8_liveInClass_L41 F (fun a0 a1 a2 a3 a4 a5 => f_X8_liveInClass_L8 F fu8 a0 a1 a2 a3 a4 a5) S0 v0 v1 v2 v4 v5 = some (r9, S9) → Wb g ad n K S0 (dA ad n s.heap.size) H → va_S (dA ad n s.heap.size) s.heap H locs → lv_has ls 6 [(0, .ref (ad v0)), (1, .int v1), (2, .int v2), (4, .int v4), (5, .int v5)] → W p l e (headSpec wsX8_liveInClass { frames := 2, cells := 0, slots := 0, locals := 43 }).room s m (List.toArray [.ref (ad p0), .int p1, .int p2, .int p3]) below meth c H locs 0 0 (MQ below (QR (some (.int r9)) (QB g ad n K S9 (dA ad n s.heap.size) (True)) (dA ad n s.heap.size)) (List.toArray [.ref (ad p0), .int p1, .int p2, .int p3]) s 0 0 (dA ad n s.heap.size)) (F0 m 41 ls []) := by
        intro S0 v0 v1 v2 v4 v5 tv0 H locs ls hf hW hS hl
        unfold f_X8_liveInClass_L41 at hf
        obtain ⟨x2, ex2⟩ : ∃ z : Int32, z = v5 + 1 := ⟨_, rfl⟩
        replace hf := ltE hf x2 ex2
        refine lv_iinc (v := x2) (lv' := [(5, .int x2), (0, .ref (ad v0)), (1, .int v1), (2, .int v2), (4, .int v4)]) hx hb dX8_liveInClass_41 hl (k := 4) rfl (by rw [ex2]; rfl) (by decide) rfl (fun ls hl => ?_)
        refine lv_goto (tgt := 8) hx hb dX8_liveInClass_44 (by decide) ?_
        exact ih8 S0 v0 v1 v2 v4 x2 tv0 _ _ _ hf hW hS (lv_sub hl [1, 2, 3, 4, 0] rfl)
      intro S0 v0 v1 v2 v4 v5 tv0 H locs ls hf hW hS hl
      unfold f_X8_liveInClass_L8 at hf
      refine lv_iload hx hb dX8_liveInClass_8 (lv_at hl 4 rfl) ?_
      refine lv_aload_n hx hb dX8_liveInClass_10 rfl (lv_at hl 0 rfl) ?_
      refine x_geti 705 (ci := 7) (C := RX8) (T := TX8) (N := 16) 5 hC hin8 hW tv0 rfl rfl ⟨by decide, by decide, rfl, rfl⟩ rfl w_0 dX8_liveInClass_11 ?_
      refine lv_icmp_ge (tgt := 47) hx hb dX8_liveInClass_14 (by decide) (fun c15 => ?_) (fun c15 => ?_)
      · replace hf := ifT c15 hf
        refine lv_iload hx hb dX8_liveInClass_47 (lv_at hl 3 rfl) ?_
        obtain ⟨e1, e2⟩ := so2 hf
        subst e1
        subst e2
        exact W.iret (v := v4) hx hb hr (fun t ht hWm => ⟨⟨rfl, by unfold QB; rw [ht]; exact ⟨hW, trivial⟩⟩, hS.F ht⟩) hS.2.2 dX8_liveInClass_49 hlk
      · replace hf := ifF c15 hf
        refine lv_aload_n hx hb dX8_liveInClass_17 rfl (lv_at hl 0 rfl) ?_
        refine lv_iload hx hb dX8_liveInClass_18 (lv_at hl 4 rfl) ?_
        refine lv_iload_n hx hb dX8_liveInClass_20 rfl (lv_at hl 1 rfl) ?_
        replace hf := obE hf
        obtain ⟨z16, hz16, hf⟩ := hf
        obtain ⟨r18, S17⟩ := z16
        replace hf := ltE (ltE hf r18 rfl) S17 rfl
        refine x_callV (As := [.int v5, .int v1]) (rest := []) (o := (some (.int r18))) (S1 := S17) hC hl.1 hW hS hGs hA tv0 rfl (show vwCl[7]? = some (RX8, TX8, 16) ∧ 7 < 11 from ⟨rfl, by decide⟩) (c_X8_stateOf l g ad n K H.size F S0 v0 v5 v1 tv0 r18 S17 hz16) (cwV 2 hts gX8_liveInClass_X8_stateOf rfl rfl rfl (by decide +kernel) ⟨Nat.le_of_ble_eq_true rfl, Nat.le_of_ble_eq_true rfl⟩) rfl rfl (Nat.le_of_ble_eq_true rfl) dX8_liveInClass_21 ⟨Nat.le_of_ble_eq_true rfl, Nat.le_of_ble_eq_true rfl⟩ (fun H locs hPz16 hW hS => ?_)
        refine W.eq (g2 := F0 m 24 ls [.int r18]) rfl ?_
        refine lv_if_ne (tgt := 41) hx hb dX8_liveInClass_24 (by decide) (fun c20 => ?_) (fun c20 => ?_)
        · replace hf := ifT c20 hf
          exact L41 S17 v0 v1 v2 v4 v5 tv0 _ _ _ hf hW hS (lv_sub hl [0, 1, 2, 3, 4] rfl)
        · replace hf := ifF (fun q => q c20) hf
          refine lv_aload_n hx hb dX8_liveInClass_27 rfl (lv_at hl 0 rfl) ?_
          refine lv_iload hx hb dX8_liveInClass_28 (lv_at hl 4 rfl) ?_
          refine lv_iload_n hx hb dX8_liveInClass_30 rfl (lv_at hl 1 rfl) ?_
          replace hf := obE hf
          obtain ⟨z21, hz21, hf⟩ := hf
          obtain ⟨r23, S22⟩ := z21
          replace hf := ltE (ltE hf r23 rfl) S22 rfl
          refine x_callV (As := [.int v5, .int v1]) (rest := []) (o := (some (.int r23))) (S1 := S22) hC hl.1 hW hS hGs hA tv0 rfl (show vwCl[7]? = some (RX8, TX8, 16) ∧ 7 < 11 from ⟨rfl, by decide⟩) (c_X8_retentionOf l g ad n K H.size F S17 v0 v5 v1 tv0 r23 S22 hz21) (cwV 2 hts gX8_liveInClass_X8_retentionOf rfl rfl rfl (by decide +kernel) ⟨Nat.le_of_ble_eq_true rfl, Nat.le_of_ble_eq_true rfl⟩) rfl rfl (Nat.le_of_ble_eq_true rfl) dX8_liveInClass_31 ⟨Nat.le_of_ble_eq_true rfl, Nat.le_of_ble_eq_true rfl⟩ (fun H locs hPz21 hW hS => ?_)
          refine W.eq (g2 := F0 m 34 ls [.int r23]) rfl ?_
          refine lv_iload_n hx hb dX8_liveInClass_34 rfl (lv_at hl 2 rfl) ?_
          refine lv_icmp_ne (tgt := 41) hx hb dX8_liveInClass_35 (by decide) (fun c25 => ?_) (fun c25 => ?_)
          · replace hf := ifT c25 hf
            exact L41 S22 v0 v1 v2 v4 v5 tv0 _ _ _ hf hW hS (lv_sub hl [0, 1, 2, 3, 4] rfl)
          · replace hf := ifF (fun q => q c25) hf
            obtain ⟨x26, ex26⟩ : ∃ z : Int32, z = v4 + 1 := ⟨_, rfl⟩
            replace hf := ltE hf x26 ex26
            refine lv_iinc (v := x26) (lv' := [(4, .int x26), (0, .ref (ad v0)), (1, .int v1), (2, .int v2), (5, .int v5)]) hx hb dX8_liveInClass_38 hl (k := 3) rfl (by rw [ex26]; rfl) (by decide) rfl (fun ls hl => ?_)
            exact L41 S22 v0 v1 v2 x26 v5 tv0 _ _ _ hf hW hS (lv_sub hl [1, 2, 3, 0, 4] rfl)
  unfold f_X8_liveInClass at hf
  refine lv_iconst (v := 0) hx hb dX8_liveInClass_0 (by decide) ?_
  refine lv_istore (lv' := [(4, .int 0), (0, .ref (ad p0)), (1, .int p1), (2, .int p2), (3, .int p3)]) hx hb dX8_liveInClass_1 hl (by decide) rfl (fun ls hl => ?_)
  refine lv_iload_n hx hb dX8_liveInClass_3 rfl (lv_at hl 4 rfl) ?_
  refine lv_iconst (v := 1) hx hb dX8_liveInClass_4 (by decide) ?_
  refine lv_iadd hx hb dX8_liveInClass_5 ?_
  refine lv_topi (fun x27 ex27 => ?_)
  replace hf := ltE hf x27 ex27
  refine lv_istore (lv' := [(5, .int x27), (4, .int 0), (0, .ref (ad p0)), (1, .int p1), (2, .int p2), (3, .int p3)]) hx hb dX8_liveInClass_6 hl (by decide) rfl (fun ls hl => ?_)
  exact L8 F S0 p0 p1 p2 0 x27 tp0 _ _ _ hf hW hS (lv_sub hl [2, 3, 4, 1, 0] rfl)
set_option maxHeartbeats 4000000 in
set_option maxRecDepth 100000 in
theorem c_X8_classKeeps (l : Launch) (g : GP) (ad : Nat → Nat) (n : Nat) (K : Nat → Nat) (sz F : Nat) (S0 : St) (p0 : Nat) (p1 : Int32) (p2 : Int32) (tp0 : p0 < n ∧ K p0 = 7) (r9 : Int32) (S9 : St) (hf : f_X8_classKeeps F S0 p0 p1 p2 = some (r9, S9)) : Met l yX8_classKeeps wsX8_classKeeps { frames := 3, cells := 0, slots := 0, locals := 68 } (va_Pc [.ref (ad p0), .int p1, .int p2] (PB g ad n K S0 sz)) (QR (some (.int r9)) (QB g ad n K S9 (dA ad n sz) (True)) (dA ad n sz)) 0 0 (dA ad n sz) := by
  refine Met.ofW (cc := cX8_classKeeps) (maxL := 4) (ret := (some .boolean)) (by decide) rfl ?_
  intro p e s m args below meth c s₁ B hml hv
  obtain ⟨rfl, hsz, hW, hK, hGs⟩ := x_start hv
  subst hsz
  have hx := B.exec
  have hb := B.bytes
  have hr := B.returns
  have hts := atoms_spec (ws := wsX8_classKeeps) B.pre
  have hown : s.vm.findClass RX8 = some m.cls := findClass_of_methodNamed B.named
  have hlk := B.notSynchronized
  have hC : Cx g p s m _ c cX8_classKeeps RX8 wsX8_classKeeps 4 := ⟨hx, hb, hml, hown, hts, hK⟩
  have hA : ∀ q : Nat, s.heap.size ≤ q → dA ad n s.heap.size q := fun q h => Or.inr h
  have hS : va_S (dA ad n s.heap.size) s.heap s.heap [] := va_S.rf
  have hl := lv_entry ([.ref (ad p0), .int p1, .int p2]) (n := 4) (Nat.le_of_ble_eq_true rfl)
  rw [lg_entry_eq]
  generalize (lg_sl ([.ref (ad p0), .int p1, .int p2]) ++ List.replicate (4 - (lg_sl ([.ref (ad p0), .int p1, .int p2])).length) Slot.unset).toArray = ls at hl ⊢
  have hl : lv_has ls 4 [(0, .ref (ad p0)), (1, .int p1), (2, .int p2)] := hl
  have hin7 : ∀ w ∈ wsX70, w ∈ wsX8_classKeeps := by decide +kernel
  have hin8 : ∀ w ∈ wsX80, w ∈ wsX8_classKeeps := by decide +kernel
  have w_0 := hts (.fieldLink RX8 9 "MailSpool$Spool" "rules" "LMailSpool$Rules;") (by decide +kernel)
  have w_1 := va_Nw.use (A := (List.toArray [.ref (ad p0), .int p1, .int p2])) rfl (hGs.1 (.fieldLinkNest RX8 142 "MailSpool$Rules" "classKeep" "[I" "MailSpool") (by decide +kernel))
  have w_2 := va_Nw.use (A := (List.toArray [.ref (ad p0), .int p1, .int p2])) rfl (hGs.1 (.methodLinkNest RX8 112 yX10_at "MailSpool") (by decide +kernel))
  have w_3 := hts (.initialized RX10) (by decide +kernel)
  have w_4 := hts (.static yX10_at) (by decide +kernel)
  have hGE := hGs.2.2.2.2.2.2.1
  have hGM := hGs.2.2.2.2.2.2.2.1
  unfold f_X8_classKeeps at hf
  refine lv_aload_n hx hb dX8_classKeeps_0 rfl (lv_at hl 0 rfl) ?_
  refine lv_iload_n hx hb dX8_classKeeps_1 rfl (lv_at hl 1 rfl) ?_
  refine lv_iload_n hx hb dX8_classKeeps_2 rfl (lv_at hl 2 rfl) ?_
  replace hf := obE hf
  obtain ⟨z1, hz1, hf⟩ := hf
  obtain ⟨r3, S2⟩ := z1
  replace hf := ltE (ltE hf r3 rfl) S2 rfl
  refine x_callV (As := [.int p1, .int p2]) (rest := []) (o := (some (.int r3))) (S1 := S2) hC hl.1 hW hS hGs hA tp0 rfl (show vwCl[7]? = some (RX8, TX8, 16) ∧ 7 < 11 from ⟨rfl, by decide⟩) (c_X8_retentionOf l g ad n K s.heap.size F S0 p0 p1 p2 tp0 r3 S2 hz1) (cwV 2 hts gX8_classKeeps_X8_retentionOf rfl rfl rfl (by decide +kernel) ⟨Nat.le_of_ble_eq_true rfl, Nat.le_of_ble_eq_true rfl⟩) rfl rfl (Nat.le_of_ble_eq_true rfl) dX8_classKeeps_3 ⟨Nat.le_of_ble_eq_true rfl, Nat.le_of_ble_eq_true rfl⟩ (fun H locs hPz1 hW hS => ?_)
  refine W.eq (g2 := F0 m 6 ls [.int r3]) rfl ?_
  refine lv_istore_n (lv' := [(3, .int r3), (0, .ref (ad p0)), (1, .int p1), (2, .int p2)]) hx hb dX8_classKeeps_6 rfl hl (by decide) rfl (fun ls hl => ?_)
  refine lv_aload_n hx hb dX8_classKeeps_7 rfl (lv_at hl 1 rfl) ?_
  refine lv_iload_n hx hb dX8_classKeeps_8 rfl (lv_at hl 2 rfl) ?_
  refine lv_iload_n hx hb dX8_classKeeps_9 rfl (lv_at hl 3 rfl) ?_
  replace hf := obE hf
  obtain ⟨z5, hz5, hf⟩ := hf
  obtain ⟨r7, S6⟩ := z5
  replace hf := ltE (ltE hf r7 rfl) S6 rfl
  refine x_callV (As := [.int p1, .int p2]) (rest := []) (o := (some (.int r7))) (S1 := S6) hC hl.1 hW hS hGs hA tp0 rfl (show vwCl[7]? = some (RX8, TX8, 16) ∧ 7 < 11 from ⟨rfl, by decide⟩) (c_X8_stateOf l g ad n K H.size F S2 p0 p1 p2 tp0 r7 S6 hz5) (cwV 2 hts gX8_classKeeps_X8_stateOf rfl rfl rfl (by decide +kernel) ⟨Nat.le_of_ble_eq_true rfl, Nat.le_of_ble_eq_true rfl⟩) rfl rfl (Nat.le_of_ble_eq_true rfl) dX8_classKeeps_10 ⟨Nat.le_of_ble_eq_true rfl, Nat.le_of_ble_eq_true rfl⟩ (fun H locs hPz5 hW hS => ?_)
  refine W.eq (g2 := F0 m 13 ls [.int r7]) rfl ?_
  refine lv_if_ne (tgt := 41) hx hb dX8_classKeeps_13 (by decide) (fun c9 => ?_) (fun c9 => ?_)
  · replace hf := ifT c9 hf
    refine lv_iconst (v := 0) hx hb dX8_classKeeps_41 (by decide) ?_
    obtain ⟨e1, e2⟩ := so2 hf
    subst e1
    subst e2
    exact W.zret (v := 0) hx hb hr rfl (fun t ht hWm => ⟨⟨rfl, by unfold QB; rw [ht]; exact ⟨hW, trivial⟩⟩, hS.F ht⟩) hS.2.2 dX8_classKeeps_42 hlk
  · replace hf := ifF (fun q => q c9) hf
    refine lv_aload_n hx hb dX8_classKeeps_16 rfl (lv_at hl 1 rfl) ?_
    refine lv_iload_n hx hb dX8_classKeeps_17 rfl (lv_at hl 3 rfl) ?_
    refine lv_iload_n hx hb dX8_classKeeps_18 rfl (lv_at hl 0 rfl) ?_
    refine lv_iload_n hx hb dX8_classKeeps_19 rfl (lv_at hl 2 rfl) ?_
    replace hf := obE hf
    obtain ⟨z10, hz10, hf⟩ := hf
    obtain ⟨r12, S11⟩ := z10
    replace hf := ltE (ltE hf r12 rfl) S11 rfl
    refine x_callV (As := [.int p2, .int r3, .int p1]) (rest := []) (o := (some (.int r12))) (S1 := S11) hC hl.1 hW hS hGs hA tp0 rfl (show vwCl[7]? = some (RX8, TX8, 16) ∧ 7 < 11 from ⟨rfl, by decide⟩) (c_X8_liveInClass l g ad n K H.size F S6 p0 p2 r3 p1 tp0 r12 S11 hz10) (cwV 3 hts gX8_classKeeps_X8_liveInClass rfl rfl rfl (by decide +kernel) ⟨Nat.le_of_ble_eq_true rfl, Nat.le_of_ble_eq_true rfl⟩) rfl rfl (Nat.le_of_ble_eq_true rfl) dX8_classKeeps_20 ⟨Nat.le_of_ble_eq_true rfl, Nat.le_of_ble_eq_true rfl⟩ (fun H locs hPz10 hW hS => ?_)
    refine W.eq (g2 := F0 m 23 ls [.int r12]) rfl ?_
    refine lv_aload_n hx hb dX8_classKeeps_23 rfl (lv_at hl 1 rfl) ?_
    replace hf := obE hf
    obtain ⟨j14, qj14, hf⟩ := hf
    have tj14 := x_rt hW qj14 6 ⟨by decide, rfl⟩
    refine x_getr 700 (ci := 7) (C := RX8) (T := TX8) (N := 16) 0 hC hin8 hW tp0 rfl rfl ⟨by decide, by decide, rfl, rfl⟩ rfl w_0 dX8_classKeeps_24 qj14 ?_
    replace hf := obE hf
    obtain ⟨j15, qj15, hf⟩ := hf
    have tj15 := x_rt hW qj15 12 ⟨by decide, rfl⟩
    refine x_getrN 604 (ci := 6) (C := RX7) (T := TX7) (N := 16) 4 hC hin7 hW tj14 rfl rfl ⟨by decide, by decide, rfl, rfl⟩ rfl w_1 dX8_classKeeps_27 qj15 ?_
    refine lv_iload_n hx hb dX8_classKeeps_30 rfl (lv_at hl 0 rfl) ?_
    replace hf := obE hf
    obtain ⟨z16, hz16, hf⟩ := hf
    obtain ⟨r18, S17⟩ := z16
    replace hf := ltE (ltE hf r18 rfl) S17 rfl
    refine x_callSN (As := [.ref (ad j15), .int r3]) (rest := [.int r12]) (o := (some (.int r18))) (S1 := S17) hC hl.1 hW hS hGs hA (c_X10_at l g ad n K H.size F S11 j15 r3 tj15 r18 S17 hz16) ⟨va_cnB 2 hts gX8_classKeeps_X10_at_n112 rfl rfl rfl (va_Nw.of rfl w_2) w_3 (by decide +kernel) ⟨Nat.le_of_ble_eq_true rfl, Nat.le_of_ble_eq_true rfl⟩, w_4, trivial⟩ rfl rfl (Nat.le_of_ble_eq_true rfl) dX8_classKeeps_31 ⟨Nat.le_of_ble_eq_true rfl, Nat.le_of_ble_eq_true rfl⟩ (fun H locs hPz16 hW hS => ?_)
    refine W.eq (g2 := F0 m 34 ls [.int r18, .int r12]) rfl ?_
    refine lv_icmp_ge (tgt := 41) hx hb dX8_classKeeps_34 (by decide) (fun c20 => ?_) (fun c20 => ?_)
    · replace hf := ifT c20 hf
      refine lv_iconst (v := 0) hx hb dX8_classKeeps_41 (by decide) ?_
      obtain ⟨e1, e2⟩ := so2 hf
      subst e1
      subst e2
      exact W.zret (v := 0) hx hb hr rfl (fun t ht hWm => ⟨⟨rfl, by unfold QB; rw [ht]; exact ⟨hW, trivial⟩⟩, hS.F ht⟩) hS.2.2 dX8_classKeeps_42 hlk
    · replace hf := ifF c20 hf
      refine lv_iconst (v := 1) hx hb dX8_classKeeps_37 (by decide) ?_
      refine lv_goto (tgt := 42) hx hb dX8_classKeeps_38 (by decide) ?_
      obtain ⟨e1, e2⟩ := so2 hf
      subst e1
      subst e2
      exact W.zret (v := 1) hx hb hr rfl (fun t ht hWm => ⟨⟨rfl, by unfold QB; rw [ht]; exact ⟨hW, trivial⟩⟩, hS.F ht⟩) hS.2.2 dX8_classKeeps_42 hlk
set_option maxHeartbeats 4000000 in
set_option maxRecDepth 100000 in
theorem c_X10_isKept (l : Launch) (hfl : l.stackTraces = false) (g : GP) (ad : Nat → Nat) (n : Nat) (K : Nat → Nat) (sz F : Nat) (S0 : St) (p0 : Nat) (p1 : Int32) (p2 : Int32) (tp0 : p0 < n ∧ K p0 = 9) (o9 : Nat ⊕ Int32) (S9 : St) (hf : f_X10_isKept F S0 p0 p1 p2 = some (o9, S9)) : vx_Met l yX10_isKept wsX10_isKept { frames := 7, cells := 1, slots := 6, locals := 122 } (va_Pc [.ref (ad p0), .int p1, .int p2] (PB g ad n K S0 sz)) (QT o9 (fun r => some (.int r)) (QB g ad n K S9 (dA ad n sz) True) (dA ad n sz)) (XT o9 (QB g ad n K S9 (dA ad n sz) True) (dA ad n sz)) 1 6 (dA ad n sz) := by
  refine vx_ofW (cc := cX10_isKept) (maxL := 3) (ret := (some .boolean)) (by decide) rfl ?_
  intro p e s m args below meth c s₁ B hml hno hv
  obtain ⟨rfl, hsz, hW, hK, hGs⟩ := x_start hv
  subst hsz
  have hx := B.exec
  have hb := B.bytes
  have hr := B.returns
  have hts := atoms_spec (ws := wsX10_isKept) B.pre
  have hown : s.vm.findClass RX10 = some m.cls := findClass_of_methodNamed B.named
  have hlk := B.notSynchronized
  have hC : Cx g p s m _ c cX10_isKept RX10 wsX10_isKept 3 := ⟨hx, hb, hml, hown, hts, hK⟩
  have hA : ∀ q : Nat, s.heap.size ≤ q → dA ad n s.heap.size q := fun q h => Or.inr h
  have hS : va_S (dA ad n s.heap.size) s.heap s.heap [] := va_S.rf
  have hl := lv_entry ([.ref (ad p0), .int p1, .int p2]) (n := 3) (Nat.le_of_ble_eq_true rfl)
  rw [lg_entry_eq]
  generalize (lg_sl ([.ref (ad p0), .int p1, .int p2]) ++ List.replicate (3 - (lg_sl ([.ref (ad p0), .int p1, .int p2])).length) Slot.unset).toArray = ls at hl ⊢
  have hl : lv_has ls 3 [(0, .ref (ad p0)), (1, .int p1), (2, .int p2)] := hl
  have hin10 : ∀ w ∈ wsX100, w ∈ wsX10_isKept := by decide +kernel
  have w_0 := hts (.fieldLink RX10 42 "MailSpool" "now" "LMailSpool$Spool;") (by decide +kernel)
  have hGE := hGs.2.2.2.2.2.2.1
  have hGM := hGs.2.2.2.2.2.2.2.1
  unfold f_X10_isKept at hf
  refine lv_aload_n hx hb dX10_isKept_0 rfl (lv_at hl 0 rfl) ?_
  refine lv_iload_n hx hb dX10_isKept_1 rfl (lv_at hl 1 rfl) ?_
  refine lv_iload_n hx hb dX10_isKept_2 rfl (lv_at hl 2 rfl) ?_
  replace hf := obE hf
  obtain ⟨z1, hz1, hf⟩ := hf
  obtain ⟨oz1, S2⟩ := z1
  replace hf := ltE hf S2 rfl
  refine x_tcallV (As := [.int p1, .int p2]) (rest := []) (S1 := S2) (o := oz1) (vr := (fun _ => none)) (P := True) hC hl.1 hW hS hGs hA tp0 rfl (show vwCl[9]? = some (RX10, TX10, 11) ∧ 9 < 11 from ⟨rfl, by decide⟩) (c_X10_needReference l hfl g ad n K s.heap.size F S0 p0 p1 p2 tp0 oz1 S2 hz1) (cwV 2 hts gX10_isKept_X10_needReference rfl rfl rfl (by decide +kernel) ⟨Nat.le_of_ble_eq_true rfl, Nat.le_of_ble_eq_true rfl⟩) rfl rfl (Nat.le_of_ble_eq_true rfl) dX10_isKept_3 ⟨Nat.le_of_ble_eq_true rfl, Nat.le_of_ble_eq_true rfl⟩ (fun x5 H locs ce q9 ho hW hS hc1 hc2 hc3 => ?_) (fun r3 H locs ho hP hW hS => ?_)
  · replace hf := smL ho hf
    obtain ⟨e1, e2⟩ := so2 hf
    subst e1
    subst e2
    exact x_tout hno hlk rfl hW hS hc1 hc2 hc3 (Nat.le_of_ble_eq_true rfl) (Nat.le_of_ble_eq_true rfl)
  · replace hf := smR ho hf
    refine W.widen (k := 1) (n := 6) (Nat.le_of_ble_eq_true rfl) (Nat.le_of_ble_eq_true rfl) ?_
    refine W.eq (g2 := F0 m 6 ls []) rfl ?_
    refine lv_aload_n hx hb dX10_isKept_6 rfl (lv_at hl 0 rfl) ?_
    replace hf := obE hf
    obtain ⟨j9, qj9, hf⟩ := hf
    have tj9 := x_rt hW qj9 7 ⟨by decide, rfl⟩
    refine x_getr 905 (ci := 9) (C := RX10) (T := TX10) (N := 11) 5 hC hin10 hW tp0 rfl rfl ⟨by decide, by decide, rfl, rfl⟩ rfl w_0 dX10_isKept_7 qj9 ?_
    refine lv_iload_n hx hb dX10_isKept_10 rfl (lv_at hl 1 rfl) ?_
    refine lv_iload_n hx hb dX10_isKept_11 rfl (lv_at hl 2 rfl) ?_
    replace hf := obE hf
    obtain ⟨z10, hz10, hf⟩ := hf
    obtain ⟨r12, S11⟩ := z10
    replace hf := ltE (ltE hf r12 rfl) S11 rfl
    refine x_callV (As := [.int p1, .int p2]) (rest := []) (o := (some (.int r12))) (S1 := S11) hC hl.1 hW hS hGs hA tj9 rfl (show vwCl[7]? = some (RX8, TX8, 16) ∧ 7 < 11 from ⟨rfl, by decide⟩) (c_X8_classKeeps l g ad n K H.size F S2 j9 p1 p2 tj9 r12 S11 hz10) (cwV 2 hts gX10_isKept_X8_classKeeps rfl rfl rfl (by decide +kernel) ⟨Nat.le_of_ble_eq_true rfl, Nat.le_of_ble_eq_true rfl⟩) rfl rfl (Nat.le_of_ble_eq_true rfl) dX10_isKept_12 ⟨Nat.le_of_ble_eq_true rfl, Nat.le_of_ble_eq_true rfl⟩ (fun H locs hPz10 hW hS => ?_)
    refine W.eq (g2 := F0 m 15 ls [.int r12]) rfl ?_
    replace hf := ckE hf
    obtain ⟨h14, hf⟩ := hf
    obtain ⟨e1, e2⟩ := so2 hf
    subst e1
    subst e2
    exact vx_ret (W.zret (v := r12) hx hb hr (zn h14) (fun t ht hWm => ⟨⟨_, rfl, rfl, by unfold QB; rw [ht]; exact ⟨hW, trivial⟩⟩, hS.F ht⟩) hS.2.2 dX10_isKept_15 hlk)
set_option maxHeartbeats 4000000 in
set_option maxRecDepth 100000 in
theorem c_X7_holdsOnUser (l : Launch) (g : GP) (ad : Nat → Nat) (n : Nat) (K : Nat → Nat) (sz F : Nat) (S0 : St) (p0 : Nat) (p1 : Int32) (tp0 : p0 < n ∧ K p0 = 6) (r9 : Int32) (S9 : St) (hf : f_X7_holdsOnUser F S0 p0 p1 = some (r9, S9)) : Met l yX7_holdsOnUser wsX7_holdsOnUser { frames := 1, cells := 0, slots := 0, locals := 21 } (va_Pc [.ref (ad p0), .int p1] (PB g ad n K S0 sz)) (QR (some (.int r9)) (QB g ad n K S9 (dA ad n sz) (True)) (dA ad n sz)) 0 0 (dA ad n sz) := by
  refine Met.ofW (cc := cX7_holdsOnUser) (maxL := 4) (ret := (some .int)) (by decide) rfl ?_
  intro p e s m args below meth c s₁ B hml hv
  obtain ⟨rfl, hsz, hW, hK, hGs⟩ := x_start hv
  subst hsz
  have hx := B.exec
  have hb := B.bytes
  have hr := B.returns
  have hts := atoms_spec (ws := wsX7_holdsOnUser) B.pre
  have hown : s.vm.findClass RX7 = some m.cls := findClass_of_methodNamed B.named
  have hlk := B.notSynchronized
  have hC : Cx g p s m _ c cX7_holdsOnUser RX7 wsX7_holdsOnUser 4 := ⟨hx, hb, hml, hown, hts, hK⟩
  have hA : ∀ q : Nat, s.heap.size ≤ q → dA ad n s.heap.size q := fun q h => Or.inr h
  have hS : va_S (dA ad n s.heap.size) s.heap s.heap [] := va_S.rf
  have hl := lv_entry ([.ref (ad p0), .int p1]) (n := 4) (Nat.le_of_ble_eq_true rfl)
  rw [lg_entry_eq]
  generalize (lg_sl ([.ref (ad p0), .int p1]) ++ List.replicate (4 - (lg_sl ([.ref (ad p0), .int p1])).length) Slot.unset).toArray = ls at hl ⊢
  have hl : lv_has ls 4 [(0, .ref (ad p0)), (1, .int p1)] := hl
  have hin5 : ∀ w ∈ wsX50, w ∈ wsX7_holdsOnUser := by decide +kernel
  have hin7 : ∀ w ∈ wsX70, w ∈ wsX7_holdsOnUser := by decide +kernel
  have w_0 := hts (.fieldLink RX7 49 "MailSpool$Rules" "holds" "LMailSpool$Names;") (by decide +kernel)
  have w_1 := va_Nw.use (A := (List.toArray [.ref (ad p0), .int p1])) rfl (hGs.1 (.fieldLinkNest RX7 73 "MailSpool$Names" "size" "I" "MailSpool") (by decide +kernel))
  have w_2 := hts (.fieldLink RX7 52 "MailSpool$Rules" "holdUser" "[I") (by decide +kernel)
  have w_3 := va_Nw.use (A := (List.toArray [.ref (ad p0), .int p1])) rfl (hGs.1 (.methodLinkNest RX7 76 yX10_at "MailSpool") (by decide +kernel))
  have w_4 := hts (.initialized RX10) (by decide +kernel)
  have w_5 := hts (.static yX10_at) (by decide +kernel)
  have hGE := hGs.2.2.2.2.2.2.1
  have hGM := hGs.2.2.2.2.2.2.2.1
  have L4 : ∀ (fu4 : Nat) (S0 : St) (v0 : Nat) (v1 : Int32) (v2 : Int32) (v3 : Int32) (tv0 : v0 < n ∧ K v0 = 6) (H : Heap) (locs : List Loc) (ls : Array Slot), f_X7_holdsOnUser_L4 F fu4 S0 v0 v1 v2 v3 = some (r9, S9) → Wb g ad n K S0 (dA ad n s.heap.size) H → va_S (dA ad n s.heap.size) s.heap H locs → lv_has ls 4 [(0, .ref (ad v0)), (1, .int v1), (2, .int v2), (3, .int v3)] → W p l e (headSpec wsX7_holdsOnUser { frames := 1, cells := 0, slots := 0, locals := 21 }).room s m (List.toArray [.ref (ad p0), .int p1]) below meth c H locs 0 0 (MQ below (QR (some (.int r9)) (QB g ad n K S9 (dA ad n s.heap.size) (True)) (dA ad n s.heap.size)) (List.toArray [.ref (ad p0), .int p1]) s 0 0 (dA ad n s.heap.size)) (F0 m 4 ls []) := by
    intro fu4
    induction fu4 with
    | zero =>
      intro S0 v0 v1 v2 v3 tv0 H locs ls hf
      cases hf
    | succ fu4 ih4 =>
      have L33 : ∀ (S0 : St) (v0 : Nat) (v1 : Int32) (v2 : Int32) (v3 : Int32) (tv0 : v0 < n ∧ K v0 = 6) (H : Heap) (locs : List Loc) (ls : Array Slot), f_X7_holdsOnUser_L33 F (fun a0 a1 a2 a3 a4 => f_X7_holdsOnUser_L4 F fu4 a0 a1 a2 a3 a4) S0 v0 v1 v2 v3 = some (r9, S9) → Wb g ad n K S0 (dA ad n s.heap.size) H → va_S (dA ad n s.heap.size) s.heap H locs → lv_has ls 4 [(0, .ref (ad v0)), (1, .int v1), (2, .int v2), (3, .int v3)] → W p l e (headSpec wsX7_holdsOnUser { frames := 1, cells := 0, slots := 0, locals := 21 }).room s m (List.toArray [.ref (ad p0), .int p1]) below meth c H locs 0 0 (MQ below (QR (some (.int r9)) (QB g ad n K S9 (dA ad n s.heap.size) (True)) (dA ad n s.heap.size)) (List.toArray [.ref (ad p0), .int p1]) s 0 0 (dA ad n s.heap.size)) (F0 m 33 ls []) := by
        intro S0 v0 v1 v2 v3 tv0 H locs ls hf hW hS hl
        unfold f_X7_holdsOnUser_L33 at hf
        obtain ⟨x2, ex2⟩ : ∃ z : Int32, z = v3 + 1 := ⟨_, rfl⟩
        replace hf := ltE hf x2 ex2
        refine lv_iinc (v := x2) (lv' := [(3, .int x2), (0, .ref (ad v0)), (1, .int v1), (2, .int v2)]) hx hb dX7_holdsOnUser_33 hl (k := 3) rfl (by rw [ex2]; rfl) (by decide) rfl (fun ls hl => ?_)
        refine lv_goto (tgt := 4) hx hb dX7_holdsOnUser_36 (by decide) ?_
        exact ih4 S0 v0 v1 v2 x2 tv0 _ _ _ hf hW hS (lv_sub hl [1, 2, 3, 0] rfl)
      intro S0 v0 v1 v2 v3 tv0 H locs ls hf hW hS hl
      unfold f_X7_holdsOnUser_L4 at hf
      refine lv_iload_n hx hb dX7_holdsOnUser_4 rfl (lv_at hl 3 rfl) ?_
      refine lv_aload_n hx hb dX7_holdsOnUser_5 rfl (lv_at hl 0 rfl) ?_
      replace hf := obE hf
      obtain ⟨j12, qj12, hf⟩ := hf
      have tj12 := x_rt hW qj12 4 ⟨by decide, rfl⟩
      refine x_getr 611 (ci := 6) (C := RX7) (T := TX7) (N := 16) 11 hC hin7 hW tv0 rfl rfl ⟨by decide, by decide, rfl, rfl⟩ rfl w_0 dX7_holdsOnUser_6 qj12 ?_
      refine x_getiN 401 (ci := 4) (C := RX5) (T := TX5) (N := 2) 1 hC hin5 hW tj12 rfl rfl ⟨by decide, by decide, rfl, rfl⟩ rfl w_1 dX7_holdsOnUser_9 ?_
      refine lv_icmp_ge (tgt := 39) hx hb dX7_holdsOnUser_12 (by decide) (fun c13 => ?_) (fun c13 => ?_)
      · replace hf := ifT c13 hf
        refine lv_iload_n hx hb dX7_holdsOnUser_39 rfl (lv_at hl 2 rfl) ?_
        obtain ⟨e1, e2⟩ := so2 hf
        subst e1
        subst e2
        exact W.iret (v := v2) hx hb hr (fun t ht hWm => ⟨⟨rfl, by unfold QB; rw [ht]; exact ⟨hW, trivial⟩⟩, hS.F ht⟩) hS.2.2 dX7_holdsOnUser_40 hlk
      · replace hf := ifF c13 hf
        refine lv_aload_n hx hb dX7_holdsOnUser_15 rfl (lv_at hl 0 rfl) ?_
        replace hf := obE hf
        obtain ⟨j14, qj14, hf⟩ := hf
        have tj14 := x_rt hW qj14 12 ⟨by decide, rfl⟩
        refine x_getr 612 (ci := 6) (C := RX7) (T := TX7) (N := 16) 12 hC hin7 hW tv0 rfl rfl ⟨by decide, by decide, rfl, rfl⟩ rfl w_2 dX7_holdsOnUser_16 qj14 ?_
        refine lv_iload_n hx hb dX7_holdsOnUser_19 rfl (lv_at hl 3 rfl) ?_
        replace hf := obE hf
        obtain ⟨z15, hz15, hf⟩ := hf
        obtain ⟨r17, S16⟩ := z15
        replace hf := ltE (ltE hf r17 rfl) S16 rfl
        refine x_callSN (As := [.ref (ad j14), .int v3]) (rest := []) (o := (some (.int r17))) (S1 := S16) hC hl.1 hW hS hGs hA (c_X10_at l g ad n K H.size F S0 j14 v3 tj14 r17 S16 hz15) ⟨va_cnB 2 hts gX7_holdsOnUser_X10_at_n76 rfl rfl rfl (va_Nw.of rfl w_3) w_4 (by decide +kernel) ⟨Nat.le_of_ble_eq_true rfl, Nat.le_of_ble_eq_true rfl⟩, w_5, trivial⟩ rfl rfl (Nat.le_of_ble_eq_true rfl) dX7_holdsOnUser_20 ⟨Nat.le_of_ble_eq_true rfl, Nat.le_of_ble_eq_true rfl⟩ (fun H locs hPz15 hW hS => ?_)
        refine W.eq (g2 := F0 m 23 ls [.int r17]) rfl ?_
        refine lv_iload_n hx hb dX7_holdsOnUser_23 rfl (lv_at hl 1 rfl) ?_
        refine lv_icmp_ne (tgt := 33) hx hb dX7_holdsOnUser_24 (by decide) (fun c19 => ?_) (fun c19 => ?_)
        · replace hf := ifT c19 hf
          exact L33 S16 v0 v1 v2 v3 tv0 _ _ _ hf hW hS (lv_sub hl [0, 1, 2, 3] rfl)
        · replace hf := ifF (fun q => q c19) hf
          refine lv_iload_n hx hb dX7_holdsOnUser_27 rfl (lv_at hl 2 rfl) ?_
          refine lv_iconst (v := 1) hx hb dX7_holdsOnUser_28 (by decide) ?_
          refine lv_iload_n hx hb dX7_holdsOnUser_29 rfl (lv_at hl 3 rfl) ?_
          refine lv_ishl hx hb dX7_holdsOnUser_30 ?_
          refine lv_ior hx hb dX7_holdsOnUser_31 ?_
          refine lv_topi (fun x20 ex20 => ?_)
          replace hf := ltE hf x20 ex20
          refine lv_istore_n (lv' := [(2, .int x20), (0, .ref (ad v0)), (1, .int v1), (3, .int v3)]) hx hb dX7_holdsOnUser_32 rfl hl (by decide) rfl (fun ls hl => ?_)
          exact L33 S16 v0 v1 x20 v3 tv0 _ _ _ hf hW hS (lv_sub hl [1, 2, 0, 3] rfl)
  unfold f_X7_holdsOnUser at hf
  refine lv_iconst (v := 0) hx hb dX7_holdsOnUser_0 (by decide) ?_
  refine lv_istore_n (lv' := [(2, .int 0), (0, .ref (ad p0)), (1, .int p1)]) hx hb dX7_holdsOnUser_1 rfl hl (by decide) rfl (fun ls hl => ?_)
  refine lv_iconst (v := 0) hx hb dX7_holdsOnUser_2 (by decide) ?_
  refine lv_istore_n (lv' := [(3, .int 0), (2, .int 0), (0, .ref (ad p0)), (1, .int p1)]) hx hb dX7_holdsOnUser_3 rfl hl (by decide) rfl (fun ls hl => ?_)
  exact L4 F S0 p0 p1 0 0 tp0 _ _ _ hf hW hS (lv_sub hl [2, 3, 1, 0] rfl)
set_option maxHeartbeats 4000000 in
set_option maxRecDepth 100000 in
theorem c_X8_holdsCovering (l : Launch) (g : GP) (ad : Nat → Nat) (n : Nat) (K : Nat → Nat) (sz F : Nat) (S0 : St) (p0 : Nat) (p1 : Int32) (p2 : Int32) (tp0 : p0 < n ∧ K p0 = 7) (r9 : Int32) (S9 : St) (hf : f_X8_holdsCovering F S0 p0 p1 p2 = some (r9, S9)) : Met l yX8_holdsCovering wsX8_holdsCovering { frames := 2, cells := 0, slots := 0, locals := 44 } (va_Pc [.ref (ad p0), .int p1, .int p2] (PB g ad n K S0 sz)) (QR (some (.int r9)) (QB g ad n K S9 (dA ad n sz) (True)) (dA ad n sz)) 0 0 (dA ad n sz) := by
  refine Met.ofW (cc := cX8_holdsCovering) (maxL := 3) (ret := (some .int)) (by decide) rfl ?_
  intro p e s m args below meth c s₁ B hml hv
  obtain ⟨rfl, hsz, hW, hK, hGs⟩ := x_start hv
  subst hsz
  have hx := B.exec
  have hb := B.bytes
  have hr := B.returns
  have hts := atoms_spec (ws := wsX8_holdsCovering) B.pre
  have hown : s.vm.findClass RX8 = some m.cls := findClass_of_methodNamed B.named
  have hlk := B.notSynchronized
  have hC : Cx g p s m _ c cX8_holdsCovering RX8 wsX8_holdsCovering 3 := ⟨hx, hb, hml, hown, hts, hK⟩
  have hA : ∀ q : Nat, s.heap.size ≤ q → dA ad n s.heap.size q := fun q h => Or.inr h
  have hS : va_S (dA ad n s.heap.size) s.heap s.heap [] := va_S.rf
  have hl := lv_entry ([.ref (ad p0), .int p1, .int p2]) (n := 3) (Nat.le_of_ble_eq_true rfl)
  rw [lg_entry_eq]
  generalize (lg_sl ([.ref (ad p0), .int p1, .int p2]) ++ List.replicate (3 - (lg_sl ([.ref (ad p0), .int p1, .int p2])).length) Slot.unset).toArray = ls at hl ⊢
  have hl : lv_has ls 3 [(0, .ref (ad p0)), (1, .int p1), (2, .int p2)] := hl
  have hin4 : ∀ w ∈ wsX40, w ∈ wsX8_holdsCovering := by decide +kernel
  have hin8 : ∀ w ∈ wsX80, w ∈ wsX8_holdsCovering := by decide +kernel
  have w_0 := hts (.fieldLink RX8 78 "MailSpool$Spool" "activeHolds" "I") (by decide +kernel)
  have w_1 := va_Nw.use (A := (List.toArray [.ref (ad p0), .int p1, .int p2])) rfl (hGs.1 (.fieldLinkNest RX8 127 "MailSpool$Message" "holds" "I" "MailSpool") (by decide +kernel))
  have w_2 := hts (.fieldLink RX8 9 "MailSpool$Spool" "rules" "LMailSpool$Rules;") (by decide +kernel)
  have hGE := hGs.2.2.2.2.2.2.1
  have hGM := hGs.2.2.2.2.2.2.2.1
  unfold f_X8_holdsCovering at hf
  refine lv_aload_n hx hb dX8_holdsCovering_0 rfl (lv_at hl 0 rfl) ?_
  refine x_geti 703 (ci := 7) (C := RX8) (T := TX8) (N := 16) 3 hC hin8 hW tp0 rfl rfl ⟨by decide, by decide, rfl, rfl⟩ rfl w_0 dX8_holdsCovering_1 ?_
  refine lv_aload_n hx hb dX8_holdsCovering_4 rfl (lv_at hl 0 rfl) ?_
  refine lv_iload_n hx hb dX8_holdsCovering_5 rfl (lv_at hl 1 rfl) ?_
  replace hf := obE hf
  obtain ⟨z1, hz1, hf⟩ := hf
  obtain ⟨r3, S2⟩ := z1
  replace hf := ltE (ltE hf r3 rfl) S2 rfl
  refine x_callV (As := [.int p1]) (rest := [.int (si S0 703 p0)]) (o := (some (va_re ad r3))) (S1 := S2) hC hl.1 hW hS hGs hA tp0 rfl (show vwCl[7]? = some (RX8, TX8, 16) ∧ 7 < 11 from ⟨rfl, by decide⟩) (c_X8_messageAt l g ad n K s.heap.size F S0 p0 p1 tp0 r3 S2 hz1) (cwV 1 hts gX8_holdsCovering_X8_messageAt rfl rfl rfl (by decide +kernel) ⟨Nat.le_of_ble_eq_true rfl, Nat.le_of_ble_eq_true rfl⟩) rfl rfl (Nat.le_of_ble_eq_true rfl) dX8_holdsCovering_6 ⟨Nat.le_of_ble_eq_true rfl, Nat.le_of_ble_eq_true rfl⟩ (fun H locs hPz1 hW hS => ?_)
  replace hf := obE hf
  obtain ⟨j5, qj5, hf⟩ := hf
  have tj5 := hPz1 j5 qj5
  refine W.eq (g2 := F0 m 9 ls [.ref (ad j5), .int (si S0 703 p0)]) (by rw [qj5]; rfl) ?_
  refine x_getiN 304 (ci := 3) (C := RX4) (T := TX4) (N := 5) 4 hC hin4 hW tj5 rfl rfl ⟨by decide, by decide, rfl, rfl⟩ rfl w_1 dX8_holdsCovering_9 ?_
  refine lv_iand hx hb dX8_holdsCovering_12 ?_
  refine lv_aload_n hx hb dX8_holdsCovering_13 rfl (lv_at hl 0 rfl) ?_
  replace hf := obE hf
  obtain ⟨j6, qj6, hf⟩ := hf
  have tj6 := x_rt hW qj6 6 ⟨by decide, rfl⟩
  refine x_getr 700 (ci := 7) (C := RX8) (T := TX8) (N := 16) 0 hC hin8 hW tp0 rfl rfl ⟨by decide, by decide, rfl, rfl⟩ rfl w_2 dX8_holdsCovering_14 qj6 ?_
  refine lv_iload_n hx hb dX8_holdsCovering_17 rfl (lv_at hl 2 rfl) ?_
  replace hf := obE hf
  obtain ⟨z7, hz7, hf⟩ := hf
  obtain ⟨r9, S8⟩ := z7
  replace hf := ltE (ltE hf r9 rfl) S8 rfl
  refine x_callV (As := [.int p2]) (rest := [.int ((si S0 703 p0) &&& (si S2 304 j5))]) (o := (some (.int r9))) (S1 := S8) hC hl.1 hW hS hGs hA tj6 rfl (show vwCl[6]? = some (RX7, TX7, 16) ∧ 6 < 11 from ⟨rfl, by decide⟩) (c_X7_holdsOnUser l g ad n K H.size F S2 j6 p2 tj6 r9 S8 hz7) (cwV 1 hts gX8_holdsCovering_X7_holdsOnUser rfl rfl rfl (by decide +kernel) ⟨Nat.le_of_ble_eq_true rfl, Nat.le_of_ble_eq_true rfl⟩) rfl rfl (Nat.le_of_ble_eq_true rfl) dX8_holdsCovering_18 ⟨Nat.le_of_ble_eq_true rfl, Nat.le_of_ble_eq_true rfl⟩ (fun H locs hPz7 hW hS => ?_)
  refine W.eq (g2 := F0 m 21 ls [.int r9, .int ((si S0 703 p0) &&& (si S2 304 j5))]) rfl ?_
  refine lv_iand hx hb dX8_holdsCovering_21 ?_
  obtain ⟨e1, e2⟩ := so2 hf
  subst e1
  subst e2
  exact W.iret (v := ((si S0 703 p0) &&& (si S2 304 j5)) &&& r9) hx hb hr (fun t ht hWm => ⟨⟨rfl, by unfold QB; rw [ht]; exact ⟨hW, trivial⟩⟩, hS.F ht⟩) hS.2.2 dX8_holdsCovering_22 hlk
set_option maxHeartbeats 4000000 in
set_option maxRecDepth 100000 in
theorem c_X10_holdsOn (l : Launch) (hfl : l.stackTraces = false) (g : GP) (ad : Nat → Nat) (n : Nat) (K : Nat → Nat) (sz F : Nat) (S0 : St) (p0 : Nat) (p1 : Int32) (p2 : Int32) (tp0 : p0 < n ∧ K p0 = 9) (o9 : Nat ⊕ Int32) (S9 : St) (hf : f_X10_holdsOn F S0 p0 p1 p2 = some (o9, S9)) : vx_Met l yX10_holdsOn wsX10_holdsOn { frames := 7, cells := 1, slots := 6, locals := 122 } (va_Pc [.ref (ad p0), .int p1, .int p2] (PB g ad n K S0 sz)) (QT o9 (fun r => some (.int r)) (QB g ad n K S9 (dA ad n sz) True) (dA ad n sz)) (XT o9 (QB g ad n K S9 (dA ad n sz) True) (dA ad n sz)) 1 6 (dA ad n sz) := by
  refine vx_ofW (cc := cX10_holdsOn) (maxL := 3) (ret := (some .int)) (by decide) rfl ?_
  intro p e s m args below meth c s₁ B hml hno hv
  obtain ⟨rfl, hsz, hW, hK, hGs⟩ := x_start hv
  subst hsz
  have hx := B.exec
  have hb := B.bytes
  have hr := B.returns
  have hts := atoms_spec (ws := wsX10_holdsOn) B.pre
  have hown : s.vm.findClass RX10 = some m.cls := findClass_of_methodNamed B.named
  have hlk := B.notSynchronized
  have hC : Cx g p s m _ c cX10_holdsOn RX10 wsX10_holdsOn 3 := ⟨hx, hb, hml, hown, hts, hK⟩
  have hA : ∀ q : Nat, s.heap.size ≤ q → dA ad n s.heap.size q := fun q h => Or.inr h
  have hS : va_S (dA ad n s.heap.size) s.heap s.heap [] := va_S.rf
  have hl := lv_entry ([.ref (ad p0), .int p1, .int p2]) (n := 3) (Nat.le_of_ble_eq_true rfl)
  rw [lg_entry_eq]
  generalize (lg_sl ([.ref (ad p0), .int p1, .int p2]) ++ List.replicate (3 - (lg_sl ([.ref (ad p0), .int p1, .int p2])).length) Slot.unset).toArray = ls at hl ⊢
  have hl : lv_has ls 3 [(0, .ref (ad p0)), (1, .int p1), (2, .int p2)] := hl
  have hin10 : ∀ w ∈ wsX100, w ∈ wsX10_holdsOn := by decide +kernel
  have w_0 := hts (.fieldLink RX10 42 "MailSpool" "now" "LMailSpool$Spool;") (by decide +kernel)
  have hGE := hGs.2.2.2.2.2.2.1
  have hGM := hGs.2.2.2.2.2.2.2.1
  unfold f_X10_holdsOn at hf
  refine lv_aload_n hx hb dX10_holdsOn_0 rfl (lv_at hl 0 rfl) ?_
  refine lv_iload_n hx hb dX10_holdsOn_1 rfl (lv_at hl 1 rfl) ?_
  refine lv_iload_n hx hb dX10_holdsOn_2 rfl (lv_at hl 2 rfl) ?_
  replace hf := obE hf
  obtain ⟨z1, hz1, hf⟩ := hf
  obtain ⟨oz1, S2⟩ := z1
  replace hf := ltE hf S2 rfl
  refine x_tcallV (As := [.int p1, .int p2]) (rest := []) (S1 := S2) (o := oz1) (vr := (fun _ => none)) (P := True) hC hl.1 hW hS hGs hA tp0 rfl (show vwCl[9]? = some (RX10, TX10, 11) ∧ 9 < 11 from ⟨rfl, by decide⟩) (c_X10_needReference l hfl g ad n K s.heap.size F S0 p0 p1 p2 tp0 oz1 S2 hz1) (cwV 2 hts gX10_holdsOn_X10_needReference rfl rfl rfl (by decide +kernel) ⟨Nat.le_of_ble_eq_true rfl, Nat.le_of_ble_eq_true rfl⟩) rfl rfl (Nat.le_of_ble_eq_true rfl) dX10_holdsOn_3 ⟨Nat.le_of_ble_eq_true rfl, Nat.le_of_ble_eq_true rfl⟩ (fun x5 H locs ce q9 ho hW hS hc1 hc2 hc3 => ?_) (fun r3 H locs ho hP hW hS => ?_)
  · replace hf := smL ho hf
    obtain ⟨e1, e2⟩ := so2 hf
    subst e1
    subst e2
    exact x_tout hno hlk rfl hW hS hc1 hc2 hc3 (Nat.le_of_ble_eq_true rfl) (Nat.le_of_ble_eq_true rfl)
  · replace hf := smR ho hf
    refine W.widen (k := 1) (n := 6) (Nat.le_of_ble_eq_true rfl) (Nat.le_of_ble_eq_true rfl) ?_
    refine W.eq (g2 := F0 m 6 ls []) rfl ?_
    refine lv_aload_n hx hb dX10_holdsOn_6 rfl (lv_at hl 0 rfl) ?_
    replace hf := obE hf
    obtain ⟨j9, qj9, hf⟩ := hf
    have tj9 := x_rt hW qj9 7 ⟨by decide, rfl⟩
    refine x_getr 905 (ci := 9) (C := RX10) (T := TX10) (N := 11) 5 hC hin10 hW tp0 rfl rfl ⟨by decide, by decide, rfl, rfl⟩ rfl w_0 dX10_holdsOn_7 qj9 ?_
    refine lv_iload_n hx hb dX10_holdsOn_10 rfl (lv_at hl 1 rfl) ?_
    refine lv_iload_n hx hb dX10_holdsOn_11 rfl (lv_at hl 2 rfl) ?_
    replace hf := obE hf
    obtain ⟨z10, hz10, hf⟩ := hf
    obtain ⟨r12, S11⟩ := z10
    replace hf := ltE (ltE hf r12 rfl) S11 rfl
    refine x_callV (As := [.int p1, .int p2]) (rest := []) (o := (some (.int r12))) (S1 := S11) hC hl.1 hW hS hGs hA tj9 rfl (show vwCl[7]? = some (RX8, TX8, 16) ∧ 7 < 11 from ⟨rfl, by decide⟩) (c_X8_holdsCovering l g ad n K H.size F S2 j9 p1 p2 tj9 r12 S11 hz10) (cwV 2 hts gX10_holdsOn_X8_holdsCovering rfl rfl rfl (by decide +kernel) ⟨Nat.le_of_ble_eq_true rfl, Nat.le_of_ble_eq_true rfl⟩) rfl rfl (Nat.le_of_ble_eq_true rfl) dX10_holdsOn_12 ⟨Nat.le_of_ble_eq_true rfl, Nat.le_of_ble_eq_true rfl⟩ (fun H locs hPz10 hW hS => ?_)
    refine W.eq (g2 := F0 m 15 ls [.int r12]) rfl ?_
    obtain ⟨e1, e2⟩ := so2 hf
    subst e1
    subst e2
    exact vx_ret (W.iret (v := r12) hx hb hr (fun t ht hWm => ⟨⟨_, rfl, rfl, by unfold QB; rw [ht]; exact ⟨hW, trivial⟩⟩, hS.F ht⟩) hS.2.2 dX10_holdsOn_15 hlk)
set_option maxHeartbeats 4000000 in
set_option maxRecDepth 100000 in
theorem c_X10_storedParts (l : Launch) (g : GP) (ad : Nat → Nat) (n : Nat) (K : Nat → Nat) (sz F : Nat) (S0 : St) (p0 : Nat) (tp0 : p0 < n ∧ K p0 = 9) (r9 : Int32) (S9 : St) (hf : f_X10_storedParts F S0 p0 = some (r9, S9)) : Met l yX10_storedParts wsX10_storedParts { frames := 0, cells := 0, slots := 0, locals := 0 } (va_Pc [.ref (ad p0)] (PB g ad n K S0 sz)) (QR (some (.int r9)) (QB g ad n K S9 (dA ad n sz) (True)) (dA ad n sz)) 0 0 (dA ad n sz) := by
  refine Met.ofW (cc := cX10_storedParts) (maxL := 1) (ret := (some .int)) (by decide) rfl ?_
  intro p e s m args below meth c s₁ B hml hv
  obtain ⟨rfl, hsz, hW, hK, hGs⟩ := x_start hv
  subst hsz
  have hx := B.exec
  have hb := B.bytes
  have hr := B.returns
  have hts := atoms_spec (ws := wsX10_storedParts) B.pre
  have hown : s.vm.findClass RX10 = some m.cls := findClass_of_methodNamed B.named
  have hlk := B.notSynchronized
  have hC : Cx g p s m _ c cX10_storedParts RX10 wsX10_storedParts 1 := ⟨hx, hb, hml, hown, hts, hK⟩
  have hA : ∀ q : Nat, s.heap.size ≤ q → dA ad n s.heap.size q := fun q h => Or.inr h
  have hS : va_S (dA ad n s.heap.size) s.heap s.heap [] := va_S.rf
  have hl := lv_entry ([.ref (ad p0)]) (n := 1) (Nat.le_of_ble_eq_true rfl)
  rw [lg_entry_eq]
  generalize (lg_sl ([.ref (ad p0)]) ++ List.replicate (1 - (lg_sl ([.ref (ad p0)])).length) Slot.unset).toArray = ls at hl ⊢
  have hl : lv_has ls 1 [(0, .ref (ad p0))] := hl
  have hin8 : ∀ w ∈ wsX80, w ∈ wsX10_storedParts := by decide +kernel
  have hin9 : ∀ w ∈ wsX90, w ∈ wsX10_storedParts := by decide +kernel
  have hin10 : ∀ w ∈ wsX100, w ∈ wsX10_storedParts := by decide +kernel
  have w_0 := hts (.fieldLink RX10 42 "MailSpool" "now" "LMailSpool$Spool;") (by decide +kernel)
  have w_1 := va_Nw.use (A := (List.toArray [.ref (ad p0)])) rfl (hGs.1 (.fieldLinkNest RX10 186 "MailSpool$Spool" "store" "LMailSpool$Store;" "MailSpool") (by decide +kernel))
  have w_2 := va_Nw.use (A := (List.toArray [.ref (ad p0)])) rfl (hGs.1 (.fieldLinkNest RX10 254 "MailSpool$Store" "stored" "I" "MailSpool") (by decide +kernel))
  have hGE := hGs.2.2.2.2.2.2.1
  have hGM := hGs.2.2.2.2.2.2.2.1
  unfold f_X10_storedParts at hf
  refine lv_aload_n hx hb dX10_storedParts_0 rfl (lv_at hl 0 rfl) ?_
  replace hf := obE hf
  obtain ⟨j1, qj1, hf⟩ := hf
  have tj1 := x_rt hW qj1 7 ⟨by decide, rfl⟩
  refine x_getr 905 (ci := 9) (C := RX10) (T := TX10) (N := 11) 5 hC hin10 hW tp0 rfl rfl ⟨by decide, by decide, rfl, rfl⟩ rfl w_0 dX10_storedParts_1 qj1 ?_
  replace hf := obE hf
  obtain ⟨j2, qj2, hf⟩ := hf
  have tj2 := x_rt hW qj2 8 ⟨by decide, rfl⟩
  refine x_getrN 710 (ci := 7) (C := RX8) (T := TX8) (N := 16) 10 hC hin8 hW tj1 rfl rfl ⟨by decide, by decide, rfl, rfl⟩ rfl w_1 dX10_storedParts_4 qj2 ?_
  refine x_getiN 801 (ci := 8) (C := RX9) (T := TX9) (N := 8) 1 hC hin9 hW tj2 rfl rfl ⟨by decide, by decide, rfl, rfl⟩ rfl w_2 dX10_storedParts_7 ?_
  obtain ⟨e1, e2⟩ := so2 hf
  subst e1
  subst e2
  exact W.iret (v := si S0 801 j2) hx hb hr (fun t ht hWm => ⟨⟨rfl, by unfold QB; rw [ht]; exact ⟨hW, trivial⟩⟩, hS.F ht⟩) hS.2.2 dX10_storedParts_10 hlk
set_option maxHeartbeats 4000000 in
set_option maxRecDepth 100000 in
theorem c_X9_storedAt (l : Launch) (g : GP) (ad : Nat → Nat) (n : Nat) (K : Nat → Nat) (sz F : Nat) (S0 : St) (p0 : Nat) (p1 : Int32) (tp0 : p0 < n ∧ K p0 = 8) (r9 : Int32) (S9 : St) (hf : f_X9_storedAt F S0 p0 p1 = some (r9, S9)) : Met l yX9_storedAt wsX9_storedAt { frames := 2, cells := 0, slots := 0, locals := 42 } (va_Pc [.ref (ad p0), .int p1] (PB g ad n K S0 sz)) (QR (some (.int r9)) (QB g ad n K S9 (dA ad n sz) (True)) (dA ad n sz)) 0 0 (dA ad n sz) := by
  refine Met.ofW (cc := cX9_storedAt) (maxL := 4) (ret := (some .int)) (by decide) rfl ?_
  intro p e s m args below meth c s₁ B hml hv
  obtain ⟨rfl, hsz, hW, hK, hGs⟩ := x_start hv
  subst hsz
  have hx := B.exec
  have hb := B.bytes
  have hr := B.returns
  have hts := atoms_spec (ws := wsX9_storedAt) B.pre
  have hown : s.vm.findClass RX9 = some m.cls := findClass_of_methodNamed B.named
  have hlk := B.notSynchronized
  have hC : Cx g p s m _ c cX9_storedAt RX9 wsX9_storedAt 4 := ⟨hx, hb, hml, hown, hts, hK⟩
  have hA : ∀ q : Nat, s.heap.size ≤ q → dA ad n s.heap.size q := fun q h => Or.inr h
  have hS : va_S (dA ad n s.heap.size) s.heap s.heap [] := va_S.rf
  have hl := lv_entry ([.ref (ad p0), .int p1]) (n := 4) (Nat.le_of_ble_eq_true rfl)
  rw [lg_entry_eq]
  generalize (lg_sl ([.ref (ad p0), .int p1]) ++ List.replicate (4 - (lg_sl ([.ref (ad p0), .int p1])).length) Slot.unset).toArray = ls at hl ⊢
  have hl : lv_has ls 4 [(0, .ref (ad p0)), (1, .int p1)] := hl
  have hin9 : ∀ w ∈ wsX90, w ∈ wsX9_storedAt := by decide +kernel
  have w_0 := hts (.fieldLink RX9 34 "MailSpool$Store" "numbers" "I") (by decide +kernel)
  have hGE := hGs.2.2.2.2.2.2.1
  have hGM := hGs.2.2.2.2.2.2.2.1
  have L4 : ∀ (fu4 : Nat) (S0 : St) (v0 : Nat) (v1 : Int32) (v2 : Int32) (v3 : Int32) (tv0 : v0 < n ∧ K v0 = 8) (H : Heap) (locs : List Loc) (ls : Array Slot), f_X9_storedAt_L4 F fu4 S0 v0 v1 v2 v3 = some (r9, S9) → Wb g ad n K S0 (dA ad n s.heap.size) H → va_S (dA ad n s.heap.size) s.heap H locs → lv_has ls 4 [(0, .ref (ad v0)), (1, .int v1), (2, .int v2), (3, .int v3)] → W p l e (headSpec wsX9_storedAt { frames := 2, cells := 0, slots := 0, locals := 42 }).room s m (List.toArray [.ref (ad p0), .int p1]) below meth c H locs 0 0 (MQ below (QR (some (.int r9)) (QB g ad n K S9 (dA ad n s.heap.size) (True)) (dA ad n s.heap.size)) (List.toArray [.ref (ad p0), .int p1]) s 0 0 (dA ad n s.heap.size)) (F0 m 4 ls []) := by
    intro fu4
    induction fu4 with
    | zero =>
      intro S0 v0 v1 v2 v3 tv0 H locs ls hf
      cases hf
    | succ fu4 ih4 =>
      have L30 : ∀ (S0 : St) (v0 : Nat) (v1 : Int32) (v2 : Int32) (v3 : Int32) (tv0 : v0 < n ∧ K v0 = 8) (H : Heap) (locs : List Loc) (ls : Array Slot), f_X9_storedAt_L30 F (fun a0 a1 a2 a3 a4 => f_X9_storedAt_L4 F fu4 a0 a1 a2 a3 a4) S0 v0 v1 v2 v3 = some (r9, S9) → Wb g ad n K S0 (dA ad n s.heap.size) H → va_S (dA ad n s.heap.size) s.heap H locs → lv_has ls 4 [(0, .ref (ad v0)), (1, .int v1), (2, .int v2), (3, .int v3)] → W p l e (headSpec wsX9_storedAt { frames := 2, cells := 0, slots := 0, locals := 42 }).room s m (List.toArray [.ref (ad p0), .int p1]) below meth c H locs 0 0 (MQ below (QR (some (.int r9)) (QB g ad n K S9 (dA ad n s.heap.size) (True)) (dA ad n s.heap.size)) (List.toArray [.ref (ad p0), .int p1]) s 0 0 (dA ad n s.heap.size)) (F0 m 30 ls []) := by
        intro S0 v0 v1 v2 v3 tv0 H locs ls hf hW hS hl
        unfold f_X9_storedAt_L30 at hf
        obtain ⟨x2, ex2⟩ : ∃ z : Int32, z = v3 + 1 := ⟨_, rfl⟩
        replace hf := ltE hf x2 ex2
        refine lv_iinc (v := x2) (lv' := [(3, .int x2), (0, .ref (ad v0)), (1, .int v1), (2, .int v2)]) hx hb dX9_storedAt_30 hl (k := 3) rfl (by rw [ex2]; rfl) (by decide) rfl (fun ls hl => ?_)
        refine lv_goto (tgt := 4) hx hb dX9_storedAt_33 (by decide) ?_
        exact ih4 S0 v0 v1 v2 x2 tv0 _ _ _ hf hW hS (lv_sub hl [1, 2, 3, 0] rfl)
      intro S0 v0 v1 v2 v3 tv0 H locs ls hf hW hS hl
      unfold f_X9_storedAt_L4 at hf
      refine lv_iload_n hx hb dX9_storedAt_4 rfl (lv_at hl 3 rfl) ?_
      refine lv_aload_n hx hb dX9_storedAt_5 rfl (lv_at hl 0 rfl) ?_
      refine x_geti 800 (ci := 8) (C := RX9) (T := TX9) (N := 8) 0 hC hin9 hW tv0 rfl rfl ⟨by decide, by decide, rfl, rfl⟩ rfl w_0 dX9_storedAt_6 ?_
      refine lv_icmp_ge (tgt := 36) hx hb dX9_storedAt_9 (by decide) (fun c11 => ?_) (fun c11 => ?_)
      · replace hf := ifT c11 hf
        refine lv_iconst (v := -1) hx hb dX9_storedAt_36 (by decide) ?_
        obtain ⟨e1, e2⟩ := so2 hf
        subst e1
        subst e2
        exact W.iret (v := (-1)) hx hb hr (fun t ht hWm => ⟨⟨rfl, by unfold QB; rw [ht]; exact ⟨hW, trivial⟩⟩, hS.F ht⟩) hS.2.2 dX9_storedAt_37 hlk
      · replace hf := ifF c11 hf
        refine lv_aload_n hx hb dX9_storedAt_12 rfl (lv_at hl 0 rfl) ?_
        refine lv_iload_n hx hb dX9_storedAt_13 rfl (lv_at hl 3 rfl) ?_
        replace hf := obE hf
        obtain ⟨z12, hz12, hf⟩ := hf
        obtain ⟨r14, S13⟩ := z12
        replace hf := ltE (ltE hf r14 rfl) S13 rfl
        refine x_callV (As := [.int v3]) (rest := []) (o := (some (.int r14))) (S1 := S13) hC hl.1 hW hS hGs hA tv0 rfl (show vwCl[8]? = some (RX9, TX9, 8) ∧ 8 < 11 from ⟨rfl, by decide⟩) (c_X9_isStored l g ad n K H.size F S0 v0 v3 tv0 r14 S13 hz12) (cwV 1 hts gX9_storedAt_X9_isStored rfl rfl rfl (by decide +kernel) ⟨Nat.le_of_ble_eq_true rfl, Nat.le_of_ble_eq_true rfl⟩) rfl rfl (Nat.le_of_ble_eq_true rfl) dX9_storedAt_14 ⟨Nat.le_of_ble_eq_true rfl, Nat.le_of_ble_eq_true rfl⟩ (fun H locs hPz12 hW hS => ?_)
        refine W.eq (g2 := F0 m 17 ls [.int r14]) rfl ?_
        refine lv_if_eq (tgt := 30) hx hb dX9_storedAt_17 (by decide) (fun c16 => ?_) (fun c16 => ?_)
        · replace hf := ifT c16 hf
          exact L30 S13 v0 v1 v2 v3 tv0 _ _ _ hf hW hS (lv_sub hl [0, 1, 2, 3] rfl)
        · replace hf := ifF c16 hf
          refine lv_iload_n hx hb dX9_storedAt_20 rfl (lv_at hl 2 rfl) ?_
          refine lv_iload_n hx hb dX9_storedAt_21 rfl (lv_at hl 1 rfl) ?_
          refine lv_icmp_ne (tgt := 27) hx hb dX9_storedAt_22 (by decide) (fun c17 => ?_) (fun c17 => ?_)
          · replace hf := ifT c17 hf
            obtain ⟨x18, ex18⟩ : ∃ z : Int32, z = v2 + 1 := ⟨_, rfl⟩
            replace hf := ltE hf x18 ex18
            refine lv_iinc (v := x18) (lv' := [(2, .int x18), (0, .ref (ad v0)), (1, .int v1), (3, .int v3)]) hx hb dX9_storedAt_27 hl (k := 2) rfl (by rw [ex18]; rfl) (by decide) rfl (fun ls hl => ?_)
            exact L30 S13 v0 v1 x18 v3 tv0 _ _ _ hf hW hS (lv_sub hl [1, 2, 0, 3] rfl)
          · replace hf := ifF (fun q => q c17) hf
            refine lv_iload_n hx hb dX9_storedAt_25 rfl (lv_at hl 3 rfl) ?_
            obtain ⟨e1, e2⟩ := so2 hf
            subst e1
            subst e2
            exact W.iret (v := v3) hx hb hr (fun t ht hWm => ⟨⟨rfl, by unfold QB; rw [ht]; exact ⟨hW, trivial⟩⟩, hS.F ht⟩) hS.2.2 dX9_storedAt_26 hlk
  unfold f_X9_storedAt at hf
  refine lv_iconst (v := 0) hx hb dX9_storedAt_0 (by decide) ?_
  refine lv_istore_n (lv' := [(2, .int 0), (0, .ref (ad p0)), (1, .int p1)]) hx hb dX9_storedAt_1 rfl hl (by decide) rfl (fun ls hl => ?_)
  refine lv_iconst (v := 0) hx hb dX9_storedAt_2 (by decide) ?_
  refine lv_istore_n (lv' := [(3, .int 0), (2, .int 0), (0, .ref (ad p0)), (1, .int p1)]) hx hb dX9_storedAt_3 rfl hl (by decide) rfl (fun ls hl => ?_)
  exact L4 F S0 p0 p1 0 0 tp0 _ _ _ hf hW hS (lv_sub hl [2, 3, 1, 0] rfl)
set_option maxHeartbeats 4000000 in
set_option maxRecDepth 100000 in
theorem c_X10_storedPart (l : Launch) (hfl : l.stackTraces = false) (g : GP) (ad : Nat → Nat) (n : Nat) (K : Nat → Nat) (sz F : Nat) (S0 : St) (p0 : Nat) (p1 : Int32) (tp0 : p0 < n ∧ K p0 = 9) (o9 : Nat ⊕ Int32) (S9 : St) (hf : f_X10_storedPart F S0 p0 p1 = some (o9, S9)) : vx_Met l yX10_storedPart wsX10_storedPart { frames := 6, cells := 1, slots := 6, locals := 100 } (va_Pc [.ref (ad p0), .int p1] (PB g ad n K S0 sz)) (QT o9 (fun r => some (.int r)) (QB g ad n K S9 (dA ad n sz) True) (dA ad n sz)) (XT o9 (QB g ad n K S9 (dA ad n sz) True) (dA ad n sz)) 1 6 (dA ad n sz) := by
  refine vx_ofW (cc := cX10_storedPart) (maxL := 2) (ret := (some .int)) (by decide) rfl ?_
  intro p e s m args below meth c s₁ B hml hno hv
  obtain ⟨rfl, hsz, hW, hK, hGs⟩ := x_start hv
  subst hsz
  have hx := B.exec
  have hb := B.bytes
  have hr := B.returns
  have hts := atoms_spec (ws := wsX10_storedPart) B.pre
  have hown : s.vm.findClass RX10 = some m.cls := findClass_of_methodNamed B.named
  have hlk := B.notSynchronized
  have hC : Cx g p s m _ c cX10_storedPart RX10 wsX10_storedPart 2 := ⟨hx, hb, hml, hown, hts, hK⟩
  have hA : ∀ q : Nat, s.heap.size ≤ q → dA ad n s.heap.size q := fun q h => Or.inr h
  have hS : va_S (dA ad n s.heap.size) s.heap s.heap [] := va_S.rf
  have hl := lv_entry ([.ref (ad p0), .int p1]) (n := 2) (Nat.le_of_ble_eq_true rfl)
  rw [lg_entry_eq]
  generalize (lg_sl ([.ref (ad p0), .int p1]) ++ List.replicate (2 - (lg_sl ([.ref (ad p0), .int p1])).length) Slot.unset).toArray = ls at hl ⊢
  have hl : lv_has ls 2 [(0, .ref (ad p0)), (1, .int p1)] := hl
  have hin8 : ∀ w ∈ wsX80, w ∈ wsX10_storedPart := by decide +kernel
  have hin9 : ∀ w ∈ wsX90, w ∈ wsX10_storedPart := by decide +kernel
  have hin10 : ∀ w ∈ wsX100, w ∈ wsX10_storedPart := by decide +kernel
  have w_0 := hts (.classLink RX10 134 "java/util/NoSuchElementException") (by decide +kernel)
  have w_1 := hts (.initialized "java/util/NoSuchElementException") (by decide +kernel)
  have w_2 := hts (.fieldLink RX10 42 "MailSpool" "now" "LMailSpool$Spool;") (by decide +kernel)
  have w_3 := va_Nw.use (A := (List.toArray [.ref (ad p0), .int p1])) rfl (hGs.1 (.fieldLinkNest RX10 186 "MailSpool$Spool" "store" "LMailSpool$Store;" "MailSpool") (by decide +kernel))
  have w_4 := va_Nw.use (A := (List.toArray [.ref (ad p0), .int p1])) rfl (hGs.1 (.fieldLinkNest RX10 254 "MailSpool$Store" "stored" "I" "MailSpool") (by decide +kernel))
  have hat4 : ∀ w ∈ (nsAt RX10 138).filter goodWord, w.before _ s = true := fun w h => hts w ((by decide +kernel : ∀ w ∈ (nsAt RX10 138).filter goodWord, w ∈ wsX10_storedPart) w h)
  have hGE := hGs.2.2.2.2.2.2.1
  have hGM := hGs.2.2.2.2.2.2.2.1
  have L18 : ∀ (S0 : St)   (H : Heap) (locs : List Loc) (ls : Array Slot), f_X10_storedPart_L18 F S0  = some (o9, S9) → Wb g ad n K S0 (dA ad n s.heap.size) H → va_S (dA ad n s.heap.size) s.heap H locs → lv_has ls 2 [] → W p l e (headSpec wsX10_storedPart { frames := 6, cells := 1, slots := 6, locals := 100 }).room s m (List.toArray [.ref (ad p0), .int p1]) below meth c H locs 0 0 (vx_MQ below (QT o9 (fun r => some (.int r)) (QB g ad n K S9 (dA ad n s.heap.size) True) (dA ad n s.heap.size)) (XT o9 (QB g ad n K S9 (dA ad n s.heap.size) True) (dA ad n s.heap.size)) (List.toArray [.ref (ad p0), .int p1]) s 1 6 (dA ad n s.heap.size)) (F0 m 18 ls []) := by
    intro S0  H locs ls hf hW hS hl
    unfold f_X10_storedPart_L18 at hf
    obtain ⟨e1, e2⟩ := so2 hf
    subst e1
    subst e2
    exact x_throwNSW (text := "no such part") hC hfl hno hl.1 hGs hS hlk w_0 w_1 (by decide +kernel) hat4 ⟨trivial, by decide +kernel, by decide +kernel⟩ dX10_storedPart_18 dX10_storedPart_21 dX10_storedPart_22 dX10_storedPart_25 dX10_storedPart_28 (Nat.le_of_ble_eq_true rfl) (Nat.le_of_ble_eq_true rfl) (Nat.le_of_ble_eq_true rfl) (Nat.le_of_ble_eq_true rfl) (Nat.le_of_ble_eq_true rfl) (Nat.le_of_ble_eq_true rfl) (fun t hv hq hF => ⟨⟨4, rfl, rfl, hW.kept hq, trivial⟩, hF⟩)
  unfold f_X10_storedPart at hf
  refine lv_iload_n hx hb dX10_storedPart_0 rfl (lv_at hl 1 rfl) ?_
  refine lv_if_lt (tgt := 18) hx hb dX10_storedPart_1 (by decide) (fun c1 => ?_) (fun c1 => ?_)
  · replace hf := ifT c1 hf
    exact L18 S0 _ _ _ hf hW hS (lv_sub hl [] rfl)
  · replace hf := ifF c1 hf
    refine lv_iload_n hx hb dX10_storedPart_4 rfl (lv_at hl 1 rfl) ?_
    refine lv_aload_n hx hb dX10_storedPart_5 rfl (lv_at hl 0 rfl) ?_
    replace hf := obE hf
    obtain ⟨j2, qj2, hf⟩ := hf
    have tj2 := x_rt hW qj2 7 ⟨by decide, rfl⟩
    refine x_getr 905 (ci := 9) (C := RX10) (T := TX10) (N := 11) 5 hC hin10 hW tp0 rfl rfl ⟨by decide, by decide, rfl, rfl⟩ rfl w_2 dX10_storedPart_6 qj2 ?_
    replace hf := obE hf
    obtain ⟨j3, qj3, hf⟩ := hf
    have tj3 := x_rt hW qj3 8 ⟨by decide, rfl⟩
    refine x_getrN 710 (ci := 7) (C := RX8) (T := TX8) (N := 16) 10 hC hin8 hW tj2 rfl rfl ⟨by decide, by decide, rfl, rfl⟩ rfl w_3 dX10_storedPart_9 qj3 ?_
    refine x_getiN 801 (ci := 8) (C := RX9) (T := TX9) (N := 8) 1 hC hin9 hW tj3 rfl rfl ⟨by decide, by decide, rfl, rfl⟩ rfl w_4 dX10_storedPart_12 ?_
    refine lv_icmp_lt (tgt := 29) hx hb dX10_storedPart_15 (by decide) (fun c4 => ?_) (fun c4 => ?_)
    · replace hf := ifT c4 hf
      refine lv_aload_n hx hb dX10_storedPart_29 rfl (lv_at hl 0 rfl) ?_
      replace hf := obE hf
      obtain ⟨j5, qj5, hf⟩ := hf
      have tj5 := x_rt hW qj5 7 ⟨by decide, rfl⟩
      refine x_getr 905 (ci := 9) (C := RX10) (T := TX10) (N := 11) 5 hC hin10 hW tp0 rfl rfl ⟨by decide, by decide, rfl, rfl⟩ rfl w_2 dX10_storedPart_30 qj5 ?_
      replace hf := obE hf
      obtain ⟨j6, qj6, hf⟩ := hf
      have tj6 := x_rt hW qj6 8 ⟨by decide, rfl⟩
      refine x_getrN 710 (ci := 7) (C := RX8) (T := TX8) (N := 16) 10 hC hin8 hW tj5 rfl rfl ⟨by decide, by decide, rfl, rfl⟩ rfl w_3 dX10_storedPart_33 qj6 ?_
      refine lv_iload_n hx hb dX10_storedPart_36 rfl (lv_at hl 1 rfl) ?_
      replace hf := obE hf
      obtain ⟨z7, hz7, hf⟩ := hf
      obtain ⟨r9, S8⟩ := z7
      replace hf := ltE (ltE hf r9 rfl) S8 rfl
      refine x_callV (As := [.int p1]) (rest := []) (o := (some (.int r9))) (S1 := S8) hC hl.1 hW hS hGs hA tj6 rfl (show vwCl[8]? = some (RX9, TX9, 8) ∧ 8 < 11 from ⟨rfl, by decide⟩) (c_X9_storedAt l g ad n K s.heap.size F S0 j6 p1 tj6 r9 S8 hz7) (cwV 1 hts gX10_storedPart_X9_storedAt rfl rfl rfl (by decide +kernel) ⟨Nat.le_of_ble_eq_true rfl, Nat.le_of_ble_eq_true rfl⟩) rfl rfl (Nat.le_of_ble_eq_true rfl) dX10_storedPart_37 ⟨Nat.le_of_ble_eq_true rfl, Nat.le_of_ble_eq_true rfl⟩ (fun H locs hPz7 hW hS => ?_)
      refine W.eq (g2 := F0 m 40 ls [.int r9]) rfl ?_
      obtain ⟨e1, e2⟩ := so2 hf
      subst e1
      subst e2
      refine W.widen (k := 1) (n := 6) (Nat.le_of_ble_eq_true rfl) (Nat.le_of_ble_eq_true rfl) ?_
      exact vx_ret (W.iret (v := r9) hx hb hr (fun t ht hWm => ⟨⟨_, rfl, rfl, by unfold QB; rw [ht]; exact ⟨hW, trivial⟩⟩, hS.F ht⟩) hS.2.2 dX10_storedPart_40 hlk)
    · replace hf := ifF c4 hf
      exact L18 S0 _ _ _ hf hW hS (lv_sub hl [] rfl)
