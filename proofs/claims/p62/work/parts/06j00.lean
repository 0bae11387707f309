set_option maxHeartbeats 4000000 in
set_option maxRecDepth 100000 in
theorem c_J7_fill_53178 (l : Launch) (g : GP) (ad : Nat → Nat) (n : Nat) (K : Nat → Nat) (sz F : Nat) (S0 : St) (p0 : Nat) (p1 : Int32) (tp0 : p0 < n ∧ K p0 = 12) (S9 : St) (hf : f_J7_fill_53178 F S0 p0 p1 = some S9) : Met l yJ7_fill_53178 wsJ7_fill_53178 { frames := 0, cells := 0, slots := 0, locals := 0 } (va_Pc [.ref (ad p0), .int p1] (PB g ad n K S0 sz)) (QR none (QB g ad n K S9 (dA ad n sz) (True)) (dA ad n sz)) 0 0 (dA ad n sz) := by
  refine Met.ofW (cc := cJ7_fill_53178) (maxL := 4) (ret := none) (by decide) rfl ?_
  intro p e s m args below meth c s₁ B hml hv
  obtain ⟨rfl, hsz, hW, hK, hGs⟩ := x_start hv
  subst hsz
  have hx := B.exec
  have hb := B.bytes
  have hr := B.returns
  have hts := atoms_spec (ws := wsJ7_fill_53178) B.pre
  have hown : s.vm.findClass RJ7 = some m.cls := findClass_of_methodNamed B.named
  have hlk := B.notSynchronized
  have hC : Cx g p s m _ c cJ7_fill_53178 RJ7 wsJ7_fill_53178 4 := ⟨hx, hb, hml, hown, hts, hK⟩
  have hA : ∀ q : Nat, s.heap.size ≤ q → dA ad n s.heap.size q := fun q h => Or.inr h
  have hS : va_S (dA ad n s.heap.size) s.heap s.heap [] := va_S.rf
  have hl := lv_entry ([.ref (ad p0), .int p1]) (n := 4) (Nat.le_of_ble_eq_true rfl)
  rw [lg_entry_eq]
  generalize (lg_sl ([.ref (ad p0), .int p1]) ++ List.replicate (4 - (lg_sl ([.ref (ad p0), .int p1])).length) Slot.unset).toArray = ls at hl ⊢
  have hl : lv_has ls 4 [(0, .ref (ad p0)), (1, .int p1)] := hl
  have hGE := hGs.2.2.2.1
  have hGM := hGs.2.2.2.2
  have L5 : ∀ (fu5 : Nat) (S0 : St) (v0 : Nat) (v1 : Int32) (v2 : Int32) (v3 : Int32) (tv0 : v0 < n ∧ K v0 = 12) (H : Heap) (locs : List Loc) (ls : Array Slot), f_J7_fill_53178_L5 F fu5 S0 v0 v1 v2 v3 = some S9 → Wb g ad n K S0 (dA ad n s.heap.size) H → va_S (dA ad n s.heap.size) s.heap H locs → lv_has ls 4 [(0, .ref (ad v0)), (1, .int v1), (2, .int v2), (3, .int v3)] → W p l e (headSpec wsJ7_fill_53178 { frames := 0, cells := 0, slots := 0, locals := 0 }).room s m (List.toArray [.ref (ad p0), .int p1]) below meth c H locs 0 0 (MQ below (QR none (QB g ad n K S9 (dA ad n s.heap.size) (True)) (dA ad n s.heap.size)) (List.toArray [.ref (ad p0), .int p1]) s 0 0 (dA ad n s.heap.size)) (F0 m 5 ls []) := by
    intro fu5
    induction fu5 with
    | zero =>
      intro S0 v0 v1 v2 v3 tv0 H locs ls hf
      cases hf
    | succ fu5 ih5 =>
      intro S0 v0 v1 v2 v3 tv0 H locs ls hf hW hS hl
      unfold f_J7_fill_53178_L5 at hf
      refine lv_iload_n hx hb dJ7_fill_53178_5 rfl (lv_at hl 2 rfl) ?_
      refine lv_iload_n hx hb dJ7_fill_53178_6 rfl (lv_at hl 3 rfl) ?_
      refine lv_icmp_ge (tgt := 20) hx hb dJ7_fill_53178_7 (by decide) (fun c5 => ?_) (fun c5 => ?_)
      · replace hf := ifT c5 hf
        have e1 := Option.some.inj hf
        subst e1
        exact W.vret hx hb hr (fun t ht hWm => ⟨⟨rfl, by unfold QB; rw [ht]; exact ⟨hW, trivial⟩⟩, hS.F ht⟩) hS.2.2 dJ7_fill_53178_20 hlk
      · replace hf := ifF c5 hf
        refine lv_aload_n hx hb dJ7_fill_53178_10 rfl (lv_at hl 0 rfl) ?_
        refine lv_iload_n hx hb dJ7_fill_53178_11 rfl (lv_at hl 2 rfl) ?_
        refine lv_iload_n hx hb dJ7_fill_53178_12 rfl (lv_at hl 1 rfl) ?_
        replace hf := ckiE hf
        obtain ⟨h6, hf⟩ := hf
        refine x_iast hC hW hS tv0 rfl rfl h6 dJ7_fill_53178_13 (fun S7 H locs eS7 hW hS => ?_)
        replace hf := ltE hf S7 eS7
        obtain ⟨x8, ex8⟩ : ∃ z : Int32, z = v2 + 1 := ⟨_, rfl⟩
        replace hf := ltE hf x8 ex8
        refine lv_iinc (v := x8) (lv' := [(2, .int x8), (0, .ref (ad v0)), (1, .int v1), (3, .int v3)]) hx hb dJ7_fill_53178_14 hl (k := 2) rfl (by rw [ex8]; rfl) (by decide) rfl (fun ls hl => ?_)
        refine lv_goto (tgt := 5) hx hb dJ7_fill_53178_17 (by decide) ?_
        exact ih5 S7 v0 v1 x8 v3 tv0 _ _ _ hf hW hS (lv_sub hl [1, 2, 0, 3] rfl)
  unfold f_J7_fill_53178 at hf
  refine lv_iconst (v := 0) hx hb dJ7_fill_53178_0 (by decide) ?_
  refine lv_istore_n (lv' := [(2, .int 0), (0, .ref (ad p0)), (1, .int p1)]) hx hb dJ7_fill_53178_1 rfl hl (by decide) rfl (fun ls hl => ?_)
  refine lv_aload_n hx hb dJ7_fill_53178_2 rfl (lv_at hl 1 rfl) ?_
  refine x_alen hC hW tp0 rfl ⟨by decide, by decide⟩ dJ7_fill_53178_3 ?_
  refine lv_topi (fun x9 ex9 => ?_)
  replace hf := ltE hf x9 ex9
  refine lv_istore_n (lv' := [(3, .int x9), (2, .int 0), (0, .ref (ad p0)), (1, .int p1)]) hx hb dJ7_fill_53178_4 rfl hl (by decide) rfl (fun ls hl => ?_)
  exact L5 F S0 p0 p1 0 x9 tp0 _ _ _ hf hW hS (lv_sub hl [2, 3, 1, 0] rfl)
set_option maxHeartbeats 4000000 in
set_option maxRecDepth 100000 in
theorem c_J6_bitCount_0f7a4 (l : Launch) (g : GP) (ad : Nat → Nat) (n : Nat) (K : Nat → Nat) (sz F : Nat) (S0 : St) (p0 : Int32) (r9 : Int32) (S9 : St) (hf : f_J6_bitCount_0f7a4 F S0 p0 = some (r9, S9)) : Met l yJ6_bitCount_0f7a4 wsJ6_bitCount_0f7a4 { frames := 0, cells := 0, slots := 0, locals := 0 } (va_Pc [.int p0] (PB g ad n K S0 sz)) (QR (some (.int r9)) (QB g ad n K S9 (dA ad n sz) (True)) (dA ad n sz)) 0 0 (dA ad n sz) := by
  refine Met.ofW (cc := cJ6_bitCount_0f7a4) (maxL := 1) (ret := (some .int)) (by decide) rfl ?_
  intro p e s m args below meth c s₁ B hml hv
  obtain ⟨rfl, hsz, hW, hK, hGs⟩ := x_start hv
  subst hsz
  have hx := B.exec
  have hb := B.bytes
  have hr := B.returns
  have hts := atoms_spec (ws := wsJ6_bitCount_0f7a4) B.pre
  have hown : s.vm.findClass RJ6 = some m.cls := findClass_of_methodNamed B.named
  have hlk := B.notSynchronized
  have hC : Cx g p s m _ c cJ6_bitCount_0f7a4 RJ6 wsJ6_bitCount_0f7a4 1 := ⟨hx, hb, hml, hown, hts, hK⟩
  have hA : ∀ q : Nat, s.heap.size ≤ q → dA ad n s.heap.size q := fun q h => Or.inr h
  have hS : va_S (dA ad n s.heap.size) s.heap s.heap [] := va_S.rf
  have hl := lv_entry ([.int p0]) (n := 1) (Nat.le_of_ble_eq_true rfl)
  rw [lg_entry_eq]
  generalize (lg_sl ([.int p0]) ++ List.replicate (1 - (lg_sl ([.int p0])).length) Slot.unset).toArray = ls at hl ⊢
  have hl : lv_has ls 1 [(0, .int p0)] := hl
  have w_0 := hts (.constant RJ6 265 (1431655765)) (by decide +kernel)
  have w_1 := hts (.constant RJ6 266 (858993459)) (by decide +kernel)
  have w_2 := hts (.constant RJ6 267 (252645135)) (by decide +kernel)
  have hGE := hGs.2.2.2.1
  have hGM := hGs.2.2.2.2
  unfold f_J6_bitCount_0f7a4 at hf
  refine lv_iload_n hx hb dJ6_bitCount_0f7a4_0 rfl (lv_at hl 0 rfl) ?_
  refine lv_iload_n hx hb dJ6_bitCount_0f7a4_1 rfl (lv_at hl 0 rfl) ?_
  refine lv_iconst (v := 1) hx hb dJ6_bitCount_0f7a4_2 (by decide) ?_
  refine lv_iushr (v := (p0.toUInt32 >>> ((1 : Int32).toUInt32 &&& Int32.toUInt32 31)).toInt32) hx hb dJ6_bitCount_0f7a4_3 rfl ?_
  refine lv_ldcw (v := 1431655765) hx hb hown w_0 dJ6_bitCount_0f7a4_4 ?_
  refine lv_iand hx hb dJ6_bitCount_0f7a4_7 ?_
  refine lv_isub hx hb dJ6_bitCount_0f7a4_8 ?_
  refine lv_topi (fun x1 ex1 => ?_)
  replace hf := ltE hf x1 ex1
  refine lv_istore_n (lv' := [(0, .int x1)]) hx hb dJ6_bitCount_0f7a4_9 rfl hl (by decide) rfl (fun ls hl => ?_)
  refine lv_iload_n hx hb dJ6_bitCount_0f7a4_10 rfl (lv_at hl 0 rfl) ?_
  refine lv_ldcw (v := 858993459) hx hb hown w_1 dJ6_bitCount_0f7a4_11 ?_
  refine lv_iand hx hb dJ6_bitCount_0f7a4_14 ?_
  refine lv_iload_n hx hb dJ6_bitCount_0f7a4_15 rfl (lv_at hl 0 rfl) ?_
  refine lv_iconst (v := 2) hx hb dJ6_bitCount_0f7a4_16 (by decide) ?_
  refine lv_iushr (v := (x1.toUInt32 >>> ((2 : Int32).toUInt32 &&& Int32.toUInt32 31)).toInt32) hx hb dJ6_bitCount_0f7a4_17 rfl ?_
  refine lv_ldcw (v := 858993459) hx hb hown w_1 dJ6_bitCount_0f7a4_18 ?_
  refine lv_iand hx hb dJ6_bitCount_0f7a4_21 ?_
  refine lv_iadd hx hb dJ6_bitCount_0f7a4_22 ?_
  refine lv_topi (fun x2 ex2 => ?_)
  replace hf := ltE hf x2 ex2
  refine lv_istore_n (lv' := [(0, .int x2)]) hx hb dJ6_bitCount_0f7a4_23 rfl hl (by decide) rfl (fun ls hl => ?_)
  refine lv_iload_n hx hb dJ6_bitCount_0f7a4_24 rfl (lv_at hl 0 rfl) ?_
  refine lv_iload_n hx hb dJ6_bitCount_0f7a4_25 rfl (lv_at hl 0 rfl) ?_
  refine lv_iconst (v := 4) hx hb dJ6_bitCount_0f7a4_26 (by decide) ?_
  refine lv_iushr (v := (x2.toUInt32 >>> ((4 : Int32).toUInt32 &&& Int32.toUInt32 31)).toInt32) hx hb dJ6_bitCount_0f7a4_27 rfl ?_
  refine lv_iadd hx hb dJ6_bitCount_0f7a4_28 ?_
  refine lv_ldcw (v := 252645135) hx hb hown w_2 dJ6_bitCount_0f7a4_29 ?_
  refine lv_iand hx hb dJ6_bitCount_0f7a4_32 ?_
  refine lv_topi (fun x3 ex3 => ?_)
  replace hf := ltE hf x3 ex3
  refine lv_istore_n (lv' := [(0, .int x3)]) hx hb dJ6_bitCount_0f7a4_33 rfl hl (by decide) rfl (fun ls hl => ?_)
  refine lv_iload_n hx hb dJ6_bitCount_0f7a4_34 rfl (lv_at hl 0 rfl) ?_
  refine lv_iload_n hx hb dJ6_bitCount_0f7a4_35 rfl (lv_at hl 0 rfl) ?_
  refine lv_bipush (v := 8) hx hb dJ6_bitCount_0f7a4_36 (by decide) ?_
  refine lv_iushr (v := (x3.toUInt32 >>> ((8 : Int32).toUInt32 &&& Int32.toUInt32 31)).toInt32) hx hb dJ6_bitCount_0f7a4_38 rfl ?_
  refine lv_iadd hx hb dJ6_bitCount_0f7a4_39 ?_
  refine lv_topi (fun x4 ex4 => ?_)
  replace hf := ltE hf x4 ex4
  refine lv_istore_n (lv' := [(0, .int x4)]) hx hb dJ6_bitCount_0f7a4_40 rfl hl (by decide) rfl (fun ls hl => ?_)
  refine lv_iload_n hx hb dJ6_bitCount_0f7a4_41 rfl (lv_at hl 0 rfl) ?_
  refine lv_iload_n hx hb dJ6_bitCount_0f7a4_42 rfl (lv_at hl 0 rfl) ?_
  refine lv_bipush (v := 16) hx hb dJ6_bitCount_0f7a4_43 (by decide) ?_
  refine lv_iushr (v := (x4.toUInt32 >>> ((16 : Int32).toUInt32 &&& Int32.toUInt32 31)).toInt32) hx hb dJ6_bitCount_0f7a4_45 rfl ?_
  refine lv_iadd hx hb dJ6_bitCount_0f7a4_46 ?_
  refine lv_topi (fun x5 ex5 => ?_)
  replace hf := ltE hf x5 ex5
  refine lv_istore_n (lv' := [(0, .int x5)]) hx hb dJ6_bitCount_0f7a4_47 rfl hl (by decide) rfl (fun ls hl => ?_)
  refine lv_iload_n hx hb dJ6_bitCount_0f7a4_48 rfl (lv_at hl 0 rfl) ?_
  refine lv_bipush (v := 63) hx hb dJ6_bitCount_0f7a4_49 (by decide) ?_
  refine lv_iand hx hb dJ6_bitCount_0f7a4_51 ?_
  obtain ⟨e1, e2⟩ := so2 hf
  subst e1
  subst e2
  exact W.iret (v := x5 &&& 63) hx hb hr (fun t ht hWm => ⟨⟨rfl, by unfold QB; rw [ht]; exact ⟨hW, trivial⟩⟩, hS.F ht⟩) hS.2.2 dJ6_bitCount_0f7a4_52 hlk
set_option maxHeartbeats 4000000 in
set_option maxRecDepth 100000 in
theorem c_J0_coder_7d493 (l : Launch) (g : GP) (ad : Nat → Nat) (n : Nat) (K : Nat → Nat) (sz F : Nat) (S0 : St) (p0 : Nat) (tp0 : tS 18 n K p0) (r9 : Int32) (S9 : St) (hf : f_J0_coder_7d493 F S0 p0 = some (r9, S9)) : Met l yJ0_coder_7d493 wsJ0_coder_7d493 { frames := 0, cells := 0, slots := 0, locals := 0 } (va_Pc [.ref ((sad g ad p0))] (PB g ad n K S0 sz)) (QR (some (.int r9)) (QB g ad n K S9 (dA ad n sz) (True)) (dA ad n sz)) 0 0 (dA ad n sz) := by
  refine Met.ofW (cc := cJ0_coder_7d493) (maxL := 1) (ret := (some .byte)) (by decide) rfl ?_
  intro p e s m args below meth c s₁ B hml hv
  obtain ⟨rfl, hsz, hW, hK, hGs⟩ := x_start hv
  subst hsz
  have hx := B.exec
  have hb := B.bytes
  have hr := B.returns
  have hts := atoms_spec (ws := wsJ0_coder_7d493) B.pre
  have hown : s.vm.findClass RJ0 = some m.cls := findClass_of_methodNamed B.named
  have hlk := B.notSynchronized
  have hC : Cx g p s m _ c cJ0_coder_7d493 RJ0 wsJ0_coder_7d493 1 := ⟨hx, hb, hml, hown, hts, hK⟩
  have hA : ∀ q : Nat, s.heap.size ≤ q → dA ad n s.heap.size q := fun q h => Or.inr h
  have hS : va_S (dA ad n s.heap.size) s.heap s.heap [] := va_S.rf
  have hl := lv_entry ([.ref ((sad g ad p0))]) (n := 1) (Nat.le_of_ble_eq_true rfl)
  rw [lg_entry_eq]
  generalize (lg_sl ([.ref ((sad g ad p0))]) ++ List.replicate (1 - (lg_sl ([.ref ((sad g ad p0))])).length) Slot.unset).toArray = ls at hl ⊢
  have hl : lv_has ls 1 [(0, .ref ((sad g ad p0)))] := hl
  have hinJ0 : ∀ w ∈ wsJ00, w ∈ wsJ0_coder_7d493 := by decide +kernel
  have w_0 := hts (.fieldLink RJ0 38 "java/lang/String" "COMPACT_STRINGS" "Z") (by decide +kernel)
  have w_1 := hts (.fieldLink RJ0 15 "java/lang/String" "coder" "B") (by decide +kernel)
  have hGE := hGs.2.2.2.1
  have hGM := hGs.2.2.2.2
  unfold f_J0_coder_7d493 at hf
  refine x_getsC hC hGM hS w_0 dJ0_coder_7d493_0 ?_
  refine lv_if_eq (tgt := 13) hx hb dJ0_coder_7d493_3 (by decide) (fun c1 => ?_) (fun c1 => ?_)
  · replace hf := ifT c1 hf
    refine lv_iconst (v := 1) hx hb dJ0_coder_7d493_13 (by decide) ?_
    obtain ⟨e1, e2⟩ := so2 hf
    subst e1
    subst e2
    exact W.zret (v := 1) hx hb hr rfl (fun t ht hWm => ⟨⟨rfl, by unfold QB; rw [ht]; exact ⟨hW, trivial⟩⟩, hS.F ht⟩) hS.2.2 dJ0_coder_7d493_14 hlk
  · replace hf := ifF c1 hf
    refine lv_aload_n hx hb dJ0_coder_7d493_6 rfl (lv_at hl 0 rfl) ?_
    refine x_getCoder hC hinJ0 hGM hW hS tp0 rfl w_1 dJ0_coder_7d493_7 ?_
    refine lv_goto (tgt := 14) hx hb dJ0_coder_7d493_10 (by decide) ?_
    replace hf := ckE hf
    obtain ⟨h2, hf⟩ := hf
    obtain ⟨e1, e2⟩ := so2 hf
    subst e1
    subst e2
    exact W.zret (v := sco S0 p0) hx hb hr (nB h2) (fun t ht hWm => ⟨⟨rfl, by unfold QB; rw [ht]; exact ⟨hW, trivial⟩⟩, hS.F ht⟩) hS.2.2 dJ0_coder_7d493_14 hlk
set_option maxHeartbeats 4000000 in
set_option maxRecDepth 100000 in
theorem c_J0_length_8abf5 (l : Launch) (g : GP) (ad : Nat → Nat) (n : Nat) (K : Nat → Nat) (sz F : Nat) (S0 : St) (p0 : Nat) (tp0 : tS 18 n K p0) (r9 : Int32) (S9 : St) (hf : f_J0_length_8abf5 F S0 p0 = some (r9, S9)) : Met l yJ0_length_8abf5 wsJ0_length_8abf5 { frames := 1, cells := 0, slots := 0, locals := 20 } (va_Pc [.ref ((sad g ad p0))] (PB g ad n K S0 sz)) (QR (some (.int r9)) (QB g ad n K S9 (dA ad n sz) (True)) (dA ad n sz)) 0 0 (dA ad n sz) := by
  refine Met.ofW (cc := cJ0_length_8abf5) (maxL := 1) (ret := (some .int)) (by decide) rfl ?_
  intro p e s m args below meth c s₁ B hml hv
  obtain ⟨rfl, hsz, hW, hK, hGs⟩ := x_start hv
  subst hsz
  have hx := B.exec
  have hb := B.bytes
  have hr := B.returns
  have hts := atoms_spec (ws := wsJ0_length_8abf5) B.pre
  have hown : s.vm.findClass RJ0 = some m.cls := findClass_of_methodNamed B.named
  have hlk := B.notSynchronized
  have hC : Cx g p s m _ c cJ0_length_8abf5 RJ0 wsJ0_length_8abf5 1 := ⟨hx, hb, hml, hown, hts, hK⟩
  have hA : ∀ q : Nat, s.heap.size ≤ q → dA ad n s.heap.size q := fun q h => Or.inr h
  have hS : va_S (dA ad n s.heap.size) s.heap s.heap [] := va_S.rf
  have hl := lv_entry ([.ref ((sad g ad p0))]) (n := 1) (Nat.le_of_ble_eq_true rfl)
  rw [lg_entry_eq]
  generalize (lg_sl ([.ref ((sad g ad p0))]) ++ List.replicate (1 - (lg_sl ([.ref ((sad g ad p0))])).length) Slot.unset).toArray = ls at hl ⊢
  have hl : lv_has ls 1 [(0, .ref ((sad g ad p0)))] := hl
  have hinJ0 : ∀ w ∈ wsJ00, w ∈ wsJ0_length_8abf5 := by decide +kernel
  have w_0 := hts (.fieldLink RJ0 9 "java/lang/String" "value" "[B") (by decide +kernel)
  have hGE := hGs.2.2.2.1
  have hGM := hGs.2.2.2.2
  unfold f_J0_length_8abf5 at hf
  refine lv_aload_n hx hb dJ0_length_8abf5_0 rfl (lv_at hl 0 rfl) ?_
  replace hf := obE hf
  obtain ⟨y1, qy1, hf⟩ := hf
  have ty1 := x_tv hW qy1
  refine x_getValue hC hinJ0 hGM hW hS tp0 rfl w_0 dJ0_length_8abf5_1 qy1 ?_
  refine x_salen hC hGM hW hS ty1 rfl dJ0_length_8abf5_4 ?_
  refine lv_aload_n hx hb dJ0_length_8abf5_5 rfl (lv_at hl 0 rfl) ?_
  replace hf := obE hf
  obtain ⟨z2, hz2, hf⟩ := hf
  obtain ⟨r4, S3⟩ := z2
  replace hf := ltE (ltE hf r4 rfl) S3 rfl
  refine x_callVs (As := []) (rest := [.int (nI (sln S0 y1))]) (o := (some (.int r4))) (S1 := S3) hC hl.1 hW hS hGs hA tp0 rfl (c_J0_coder_7d493 l g ad n K s.heap.size F S0 p0 tp0 r4 S3 hz2) (cwV 0 hts gJ0_length_8abf5_J0_coder_7d493 rfl rfl rfl (by decide +kernel) ⟨Nat.le_of_ble_eq_true rfl, Nat.le_of_ble_eq_true rfl⟩) rfl rfl (Nat.le_of_ble_eq_true rfl) dJ0_length_8abf5_6 ⟨Nat.le_of_ble_eq_true rfl, Nat.le_of_ble_eq_true rfl⟩ (fun H locs hPz2 hW hS => ?_)
  refine W.eq (g2 := F0 m 9 ls [.int r4, .int (nI (sln S0 y1))]) rfl ?_
  refine lv_ishr hx hb dJ0_length_8abf5_9 ?_
  obtain ⟨e1, e2⟩ := so2 hf
  subst e1
  subst e2
  exact W.iret (v := (nI (sln S0 y1)) >>> (r4 &&& 31)) hx hb hr (fun t ht hWm => ⟨⟨rfl, by unfold QB; rw [ht]; exact ⟨hW, trivial⟩⟩, hS.F ht⟩) hS.2.2 dJ0_length_8abf5_10 hlk
set_option maxHeartbeats 4000000 in
set_option maxRecDepth 100000 in
theorem c_J0_isLatin1_aae02 (l : Launch) (g : GP) (ad : Nat → Nat) (n : Nat) (K : Nat → Nat) (sz F : Nat) (S0 : St) (p0 : Nat) (tp0 : tS 18 n K p0) (r9 : Int32) (S9 : St) (hf : f_J0_isLatin1_aae02 F S0 p0 = some (r9, S9)) : Met l yJ0_isLatin1_aae02 wsJ0_isLatin1_aae02 { frames := 0, cells := 0, slots := 0, locals := 0 } (va_Pc [.ref ((sad g ad p0))] (PB g ad n K S0 sz)) (QR (some (.int r9)) (QB g ad n K S9 (dA ad n sz) (True)) (dA ad n sz)) 0 0 (dA ad n sz) := by
  refine Met.ofW (cc := cJ0_isLatin1_aae02) (maxL := 1) (ret := (some .boolean)) (by decide) rfl ?_
  intro p e s m args below meth c s₁ B hml hv
  obtain ⟨rfl, hsz, hW, hK, hGs⟩ := x_start hv
  subst hsz
  have hx := B.exec
  have hb := B.bytes
  have hr := B.returns
  have hts := atoms_spec (ws := wsJ0_isLatin1_aae02) B.pre
  have hown : s.vm.findClass RJ0 = some m.cls := findClass_of_methodNamed B.named
  have hlk := B.notSynchronized
  have hC : Cx g p s m _ c cJ0_isLatin1_aae02 RJ0 wsJ0_isLatin1_aae02 1 := ⟨hx, hb, hml, hown, hts, hK⟩
  have hA : ∀ q : Nat, s.heap.size ≤ q → dA ad n s.heap.size q := fun q h => Or.inr h
  have hS : va_S (dA ad n s.heap.size) s.heap s.heap [] := va_S.rf
  have hl := lv_entry ([.ref ((sad g ad p0))]) (n := 1) (Nat.le_of_ble_eq_true rfl)
  rw [lg_entry_eq]
  generalize (lg_sl ([.ref ((sad g ad p0))]) ++ List.replicate (1 - (lg_sl ([.ref ((sad g ad p0))])).length) Slot.unset).toArray = ls at hl ⊢
  have hl : lv_has ls 1 [(0, .ref ((sad g ad p0)))] := hl
  have hinJ0 : ∀ w ∈ wsJ00, w ∈ wsJ0_isLatin1_aae02 := by decide +kernel
  have w_0 := hts (.fieldLink RJ0 38 "java/lang/String" "COMPACT_STRINGS" "Z") (by decide +kernel)
  have w_1 := hts (.fieldLink RJ0 15 "java/lang/String" "coder" "B") (by decide +kernel)
  have hGE := hGs.2.2.2.1
  have hGM := hGs.2.2.2.2
  unfold f_J0_isLatin1_aae02 at hf
  refine x_getsC hC hGM hS w_0 dJ0_isLatin1_aae02_0 ?_
  refine lv_if_eq (tgt := 17) hx hb dJ0_isLatin1_aae02_3 (by decide) (fun c1 => ?_) (fun c1 => ?_)
  · replace hf := ifT c1 hf
    refine lv_iconst (v := 0) hx hb dJ0_isLatin1_aae02_17 (by decide) ?_
    obtain ⟨e1, e2⟩ := so2 hf
    subst e1
    subst e2
    exact W.zret (v := 0) hx hb hr rfl (fun t ht hWm => ⟨⟨rfl, by unfold QB; rw [ht]; exact ⟨hW, trivial⟩⟩, hS.F ht⟩) hS.2.2 dJ0_isLatin1_aae02_18 hlk
  · replace hf := ifF c1 hf
    refine lv_aload_n hx hb dJ0_isLatin1_aae02_6 rfl (lv_at hl 0 rfl) ?_
    refine x_getCoder hC hinJ0 hGM hW hS tp0 rfl w_1 dJ0_isLatin1_aae02_7 ?_
    refine lv_if_ne (tgt := 17) hx hb dJ0_isLatin1_aae02_10 (by decide) (fun c2 => ?_) (fun c2 => ?_)
    · replace hf := ifT c2 hf
      refine lv_iconst (v := 0) hx hb dJ0_isLatin1_aae02_17 (by decide) ?_
      obtain ⟨e1, e2⟩ := so2 hf
      subst e1
      subst e2
      exact W.zret (v := 0) hx hb hr rfl (fun t ht hWm => ⟨⟨rfl, by unfold QB; rw [ht]; exact ⟨hW, trivial⟩⟩, hS.F ht⟩) hS.2.2 dJ0_isLatin1_aae02_18 hlk
    · replace hf := ifF (fun q => q c2) hf
      refine lv_iconst (v := 1) hx hb dJ0_isLatin1_aae02_13 (by decide) ?_
      refine lv_goto (tgt := 18) hx hb dJ0_isLatin1_aae02_14 (by decide) ?_
      obtain ⟨e1, e2⟩ := so2 hf
      subst e1
      subst e2
      exact W.zret (v := 1) hx hb hr rfl (fun t ht hWm => ⟨⟨rfl, by unfold QB; rw [ht]; exact ⟨hW, trivial⟩⟩, hS.F ht⟩) hS.2.2 dJ0_isLatin1_aae02_18 hlk
set_option maxHeartbeats 4000000 in
set_option maxRecDepth 100000 in
theorem cN_J3_checkIndex_8e157 (l : Launch) (g : GP) (ad : Nat → Nat) (n : Nat) (K : Nat → Nat) (sz F : Nat) (S0 : St) (p0 : Int32) (p1 : Int32) (r9 : Int32) (S9 : St) (hf : f_J3_checkIndex_8e157 F S0 p0 p1 = some (r9, S9)) : Met l yJ3_checkIndex_8e157 wsJ3_checkIndex_8e157 { frames := 0, cells := 0, slots := 0, locals := 0 } (va_Pc [.int p0, .int p1, .null] (PB g ad n K S0 sz)) (QR (some (.int r9)) (QB g ad n K S9 (dA ad n sz) (True)) (dA ad n sz)) 0 0 (dA ad n sz) := by
  refine Met.ofW (cc := cJ3_checkIndex_8e157) (maxL := 3) (ret := (some .int)) (by decide) rfl ?_
  intro p e s m args below meth c s₁ B hml hv
  obtain ⟨rfl, hsz, hW, hK, hGs⟩ := x_start hv
  subst hsz
  have hx := B.exec
  have hb := B.bytes
  have hr := B.returns
  have hts := atoms_spec (ws := wsJ3_checkIndex_8e157) B.pre
  have hown : s.vm.findClass RJ3 = some m.cls := findClass_of_methodNamed B.named
  have hlk := B.notSynchronized
  have hC : Cx g p s m _ c cJ3_checkIndex_8e157 RJ3 wsJ3_checkIndex_8e157 3 := ⟨hx, hb, hml, hown, hts, hK⟩
  have hA : ∀ q : Nat, s.heap.size ≤ q → dA ad n s.heap.size q := fun q h => Or.inr h
  have hS : va_S (dA ad n s.heap.size) s.heap s.heap [] := va_S.rf
  have hl := lv_entry ([.int p0, .int p1, .null]) (n := 3) (Nat.le_of_ble_eq_true rfl)
  rw [lg_entry_eq]
  generalize (lg_sl ([.int p0, .int p1, .null]) ++ List.replicate (3 - (lg_sl ([.int p0, .int p1, .null])).length) Slot.unset).toArray = ls at hl ⊢
  have hl : lv_has ls 3 [(0, .int p0), (1, .int p1), (2, .null)] := hl
  have hGE := hGs.2.2.2.1
  have hGM := hGs.2.2.2.2
  unfold f_J3_checkIndex_8e157 at hf
  refine lv_iload_n hx hb dJ3_checkIndex_8e157_0 rfl (lv_at hl 0 rfl) ?_
  refine lv_if_lt (tgt := 9) hx hb dJ3_checkIndex_8e157_1 (by decide) (fun c1 => ?_) (fun c1 => ?_)
  · replace hf := ifT c1 hf
    cases hf
  · replace hf := ifF c1 hf
    refine lv_iload_n hx hb dJ3_checkIndex_8e157_4 rfl (lv_at hl 0 rfl) ?_
    refine lv_iload_n hx hb dJ3_checkIndex_8e157_5 rfl (lv_at hl 1 rfl) ?_
    refine lv_icmp_lt (tgt := 16) hx hb dJ3_checkIndex_8e157_6 (by decide) (fun c2 => ?_) (fun c2 => ?_)
    · replace hf := ifT c2 hf
      refine lv_iload_n hx hb dJ3_checkIndex_8e157_16 rfl (lv_at hl 0 rfl) ?_
      obtain ⟨e1, e2⟩ := so2 hf
      subst e1
      subst e2
      exact W.iret (v := p0) hx hb hr (fun t ht hWm => ⟨⟨rfl, by unfold QB; rw [ht]; exact ⟨hW, trivial⟩⟩, hS.F ht⟩) hS.2.2 dJ3_checkIndex_8e157_17 hlk
    · replace hf := ifF c2 hf
      cases hf
set_option maxHeartbeats 4000000 in
set_option maxRecDepth 100000 in
theorem cR_J3_checkIndex_8e157 (l : Launch) (g : GP) (ad : Nat → Nat) (n : Nat) (K : Nat → Nat) (sz F : Nat) (S0 : St) (p0 : Int32) (p1 : Int32) (p2 : Nat) (r9 : Int32) (S9 : St) (hf : f_J3_checkIndex_8e157 F S0 p0 p1 = some (r9, S9)) : Met l yJ3_checkIndex_8e157 wsJ3_checkIndex_8e157 { frames := 0, cells := 0, slots := 0, locals := 0 } (va_Pc [.int p0, .int p1, .ref p2] (PB g ad n K S0 sz)) (QR (some (.int r9)) (QB g ad n K S9 (dA ad n sz) (True)) (dA ad n sz)) 0 0 (dA ad n sz) := by
  refine Met.ofW (cc := cJ3_checkIndex_8e157) (maxL := 3) (ret := (some .int)) (by decide) rfl ?_
  intro p e s m args below meth c s₁ B hml hv
  obtain ⟨rfl, hsz, hW, hK, hGs⟩ := x_start hv
  subst hsz
  have hx := B.exec
  have hb := B.bytes
  have hr := B.returns
  have hts := atoms_spec (ws := wsJ3_checkIndex_8e157) B.pre
  have hown : s.vm.findClass RJ3 = some m.cls := findClass_of_methodNamed B.named
  have hlk := B.notSynchronized
  have hC : Cx g p s m _ c cJ3_checkIndex_8e157 RJ3 wsJ3_checkIndex_8e157 3 := ⟨hx, hb, hml, hown, hts, hK⟩
  have hA : ∀ q : Nat, s.heap.size ≤ q → dA ad n s.heap.size q := fun q h => Or.inr h
  have hS : va_S (dA ad n s.heap.size) s.heap s.heap [] := va_S.rf
  have hl := lv_entry ([.int p0, .int p1, .ref p2]) (n := 3) (Nat.le_of_ble_eq_true rfl)
  rw [lg_entry_eq]
  generalize (lg_sl ([.int p0, .int p1, .ref p2]) ++ List.replicate (3 - (lg_sl ([.int p0, .int p1, .ref p2])).length) Slot.unset).toArray = ls at hl ⊢
  have hl : lv_has ls 3 [(0, .int p0), (1, .int p1), (2, .ref p2)] := hl
  have hGE := hGs.2.2.2.1
  have hGM := hGs.2.2.2.2
  unfold f_J3_checkIndex_8e157 at hf
  refine lv_iload_n hx hb dJ3_checkIndex_8e157_0 rfl (lv_at hl 0 rfl) ?_
  refine lv_if_lt (tgt := 9) hx hb dJ3_checkIndex_8e157_1 (by decide) (fun c1 => ?_) (fun c1 => ?_)
  · replace hf := ifT c1 hf
    cases hf
  · replace hf := ifF c1 hf
    refine lv_iload_n hx hb dJ3_checkIndex_8e157_4 rfl (lv_at hl 0 rfl) ?_
    refine lv_iload_n hx hb dJ3_checkIndex_8e157_5 rfl (lv_at hl 1 rfl) ?_
    refine lv_icmp_lt (tgt := 16) hx hb dJ3_checkIndex_8e157_6 (by decide) (fun c2 => ?_) (fun c2 => ?_)
    · replace hf := ifT c2 hf
      refine lv_iload_n hx hb dJ3_checkIndex_8e157_16 rfl (lv_at hl 0 rfl) ?_
      obtain ⟨e1, e2⟩ := so2 hf
      subst e1
      subst e2
      exact W.iret (v := p0) hx hb hr (fun t ht hWm => ⟨⟨rfl, by unfold QB; rw [ht]; exact ⟨hW, trivial⟩⟩, hS.F ht⟩) hS.2.2 dJ3_checkIndex_8e157_17 hlk
    · replace hf := ifF c2 hf
      cases hf
set_option maxHeartbeats 4000000 in
set_option maxRecDepth 100000 in
theorem c_J3_checkIndex_8e157 (l : Launch) (g : GP) (ad : Nat → Nat) (n : Nat) (K : Nat → Nat) (sz F : Nat) (S0 : St) (p0 : Int32) (p1 : Int32) (p2 : Option Nat) (r9 : Int32) (S9 : St) (hf : f_J3_checkIndex_8e157 F S0 p0 p1 = some (r9, S9)) : Met l yJ3_checkIndex_8e157 wsJ3_checkIndex_8e157 { frames := 0, cells := 0, slots := 0, locals := 0 } (va_Pc [.int p0, .int p1, va_rf p2] (PB g ad n K S0 sz)) (QR (some (.int r9)) (QB g ad n K S9 (dA ad n sz) (True)) (dA ad n sz)) 0 0 (dA ad n sz) := by
  cases p2 with
  | none => exact cN_J3_checkIndex_8e157 l g ad n K sz F S0 p0 p1 r9 S9 hf
  | some q => exact cR_J3_checkIndex_8e157 l g ad n K sz F S0 p0 p1 q r9 S9 hf
set_option maxHeartbeats 4000000 in
set_option maxRecDepth 100000 in
theorem c_J0_checkIndex_df160 (l : Launch) (g : GP) (ad : Nat → Nat) (n : Nat) (K : Nat → Nat) (sz F : Nat) (S0 : St) (p0 : Int32) (p1 : Int32) (S9 : St) (hf : f_J0_checkIndex_df160 F S0 p0 p1 = some S9) : Met l yJ0_checkIndex_df160 wsJ0_checkIndex_df160 { frames := 1, cells := 0, slots := 0, locals := 22 } (va_Pc [.int p0, .int p1] (PB g ad n K S0 sz)) (QR none (QB g ad n K S9 (dA ad n sz) (True)) (dA ad n sz)) 0 0 (dA ad n sz) := by
  refine Met.ofW (cc := cJ0_checkIndex_df160) (maxL := 2) (ret := none) (by decide) rfl ?_
  intro p e s m args below meth c s₁ B hml hv
  obtain ⟨rfl, hsz, hW, hK, hGs⟩ := x_start hv
  subst hsz
  have hx := B.exec
  have hb := B.bytes
  have hr := B.returns
  have hts := atoms_spec (ws := wsJ0_checkIndex_df160) B.pre
  have hown : s.vm.findClass RJ0 = some m.cls := findClass_of_methodNamed B.named
  have hlk := B.notSynchronized
  have hC : Cx g p s m _ c cJ0_checkIndex_df160 RJ0 wsJ0_checkIndex_df160 2 := ⟨hx, hb, hml, hown, hts, hK⟩
  have hA : ∀ q : Nat, s.heap.size ≤ q → dA ad n s.heap.size q := fun q h => Or.inr h
  have hS : va_S (dA ad n s.heap.size) s.heap s.heap [] := va_S.rf
  have hl := lv_entry ([.int p0, .int p1]) (n := 2) (Nat.le_of_ble_eq_true rfl)
  rw [lg_entry_eq]
  generalize (lg_sl ([.int p0, .int p1]) ++ List.replicate (2 - (lg_sl ([.int p0, .int p1])).length) Slot.unset).toArray = ls at hl ⊢
  have hl : lv_has ls 2 [(0, .int p0), (1, .int p1)] := hl
  have w_0 := hts (.fieldLink RJ0 1053 "jdk/internal/util/Preconditions" "SIOOBE_FORMATTER" "Ljava/util/function/BiFunction;") (by decide +kernel)
  have hGE := hGs.2.2.2.1
  have hGM := hGs.2.2.2.2
  unfold f_J0_checkIndex_df160 at hf
  refine lv_iload_n hx hb dJ0_checkIndex_df160_0 rfl (lv_at hl 0 rfl) ?_
  refine lv_iload_n hx hb dJ0_checkIndex_df160_1 rfl (lv_at hl 1 rfl) ?_
  refine x_getsF hC hGM hS w_0 dJ0_checkIndex_df160_2 (fun q1 => ?_)
  replace hf := obE hf
  obtain ⟨z2, hz2, hf⟩ := hf
  obtain ⟨r4, S3⟩ := z2
  replace hf := ltE (ltE hf r4 rfl) S3 rfl
  refine x_callS (As := [.int p0, .int p1, va_rf q1]) (rest := []) (o := (some (.int r4))) (S1 := S3) hC hl.1 hW hS hGs hA (c_J3_checkIndex_8e157 l g ad n K s.heap.size F S0 p0 p1 q1 r4 S3 hz2) (va_cwS 3 hts gJ0_checkIndex_df160_J3_checkIndex_8e157 rfl rfl rfl (by decide +kernel) ⟨Nat.le_of_ble_eq_true rfl, Nat.le_of_ble_eq_true rfl⟩) rfl rfl (Nat.le_of_ble_eq_true rfl) dJ0_checkIndex_df160_5 ⟨Nat.le_of_ble_eq_true rfl, Nat.le_of_ble_eq_true rfl⟩ (fun H locs hPz2 hW hS => ?_)
  refine W.eq (g2 := F0 m 8 ls [.int r4]) rfl ?_
  refine lv_pop hx hb dJ0_checkIndex_df160_8 rfl ?_
  have e1 := Option.some.inj hf
  subst e1
  exact W.vret hx hb hr (fun t ht hWm => ⟨⟨rfl, by unfold QB; rw [ht]; exact ⟨hW, trivial⟩⟩, hS.F ht⟩) hS.2.2 dJ0_checkIndex_df160_9 hlk
set_option maxHeartbeats 4000000 in
set_option maxRecDepth 100000 in
theorem c_J1_charAt_3b067 (l : Launch) (g : GP) (ad : Nat → Nat) (n : Nat) (K : Nat → Nat) (sz F : Nat) (S0 : St) (p0 : Nat) (p1 : Int32) (tp0 : tS 11 n K p0) (r9 : Int32) (S9 : St) (hf : f_J1_charAt_3b067 F S0 p0 p1 = some (r9, S9)) : Met l yJ1_charAt_3b067 wsJ1_charAt_3b067 { frames := 2, cells := 0, slots := 0, locals := 43 } (va_Pc [.ref ((vad g ad p0)), .int p1] (PB g ad n K S0 sz)) (QR (some (.int r9)) (QB g ad n K S9 (dA ad n sz) (True)) (dA ad n sz)) 0 0 (dA ad n sz) := by
  refine Met.ofW (cc := cJ1_charAt_3b067) (maxL := 2) (ret := (some .char)) (by decide) rfl ?_
  intro p e s m args below meth c s₁ B hml hv
  obtain ⟨rfl, hsz, hW, hK, hGs⟩ := x_start hv
  subst hsz
  have hx := B.exec
  have hb := B.bytes
  have hr := B.returns
  have hts := atoms_spec (ws := wsJ1_charAt_3b067) B.pre
  have hown : s.vm.findClass RJ1 = some m.cls := findClass_of_methodNamed B.named
  have hlk := B.notSynchronized
  have hC : Cx g p s m _ c cJ1_charAt_3b067 RJ1 wsJ1_charAt_3b067 2 := ⟨hx, hb, hml, hown, hts, hK⟩
  have hA : ∀ q : Nat, s.heap.size ≤ q → dA ad n s.heap.size q := fun q h => Or.inr h
  have hS : va_S (dA ad n s.heap.size) s.heap s.heap [] := va_S.rf
  have hl := lv_entry ([.ref ((vad g ad p0)), .int p1]) (n := 2) (Nat.le_of_ble_eq_true rfl)
  rw [lg_entry_eq]
  generalize (lg_sl ([.ref ((vad g ad p0)), .int p1]) ++ List.replicate (2 - (lg_sl ([.ref ((vad g ad p0)), .int p1])).length) Slot.unset).toArray = ls at hl ⊢
  have hl : lv_has ls 2 [(0, .ref ((vad g ad p0))), (1, .int p1)] := hl
  have hGE := hGs.2.2.2.1
  have hGM := hGs.2.2.2.2
  unfold f_J1_charAt_3b067 at hf
  refine lv_iload_n hx hb dJ1_charAt_3b067_0 rfl (lv_at hl 1 rfl) ?_
  refine lv_aload_n hx hb dJ1_charAt_3b067_1 rfl (lv_at hl 0 rfl) ?_
  refine x_salen hC hGM hW hS tp0 rfl dJ1_charAt_3b067_2 ?_
  replace hf := obE hf
  obtain ⟨S2, hz1, hf⟩ := hf
  refine x_callS (As := [.int p1, .int (nI (sln S0 p0))]) (rest := []) (o := none) (S1 := S2) hC hl.1 hW hS hGs hA (c_J0_checkIndex_df160 l g ad n K s.heap.size F S0 p1 (nI (sln S0 p0)) S2 hz1) (va_cwS 2 hts gJ1_charAt_3b067_J0_checkIndex_df160 rfl rfl rfl (by decide +kernel) ⟨Nat.le_of_ble_eq_true rfl, Nat.le_of_ble_eq_true rfl⟩) rfl rfl (Nat.le_of_ble_eq_true rfl) dJ1_charAt_3b067_3 ⟨Nat.le_of_ble_eq_true rfl, Nat.le_of_ble_eq_true rfl⟩ (fun H locs hPz1 hW hS => ?_)
  refine W.eq (g2 := F0 m 6 ls []) rfl ?_
  refine lv_aload_n hx hb dJ1_charAt_3b067_6 rfl (lv_at hl 0 rfl) ?_
  refine lv_iload_n hx hb dJ1_charAt_3b067_7 rfl (lv_at hl 1 rfl) ?_
  replace hf := ckiE hf
  obtain ⟨h5, hf⟩ := hf
  refine x_sbald hC hGM hW hS tp0 rfl h5 dJ1_charAt_3b067_8 ?_
  refine lv_sipush (v := 255) hx hb dJ1_charAt_3b067_9 (by decide) ?_
  refine lv_iand hx hb dJ1_charAt_3b067_12 ?_
  refine lv_i2c (v := (((sby S2 p0 (Int32.toNatClampNeg p1)) &&& 255).toUInt32 % 65536).toInt32) hx hb dJ1_charAt_3b067_13 rfl ?_
  replace hf := ckE hf
  obtain ⟨h6, hf⟩ := hf
  obtain ⟨e1, e2⟩ := so2 hf
  subst e1
  subst e2
  exact W.zret (v := (((sby S2 p0 (Int32.toNatClampNeg p1)) &&& 255).toUInt32 % 65536).toInt32) hx hb hr (nC h6) (fun t ht hWm => ⟨⟨rfl, by unfold QB; rw [ht]; exact ⟨hW, trivial⟩⟩, hS.F ht⟩) hS.2.2 dJ1_charAt_3b067_14 hlk
set_option maxHeartbeats 4000000 in
set_option maxRecDepth 100000 in
theorem c_J2_length_9d52b (l : Launch) (g : GP) (ad : Nat → Nat) (n : Nat) (K : Nat → Nat) (sz F : Nat) (S0 : St) (p0 : Nat) (tp0 : p0 < n ∧ K p0 = 11) (r9 : Int32) (S9 : St) (hf : f_J2_length_9d52b F S0 p0 = some (r9, S9)) : Met l yJ2_length_9d52b wsJ2_length_9d52b { frames := 0, cells := 0, slots := 0, locals := 0 } (va_Pc [.ref (ad p0)] (PB g ad n K S0 sz)) (QR (some (.int r9)) (QB g ad n K S9 (dA ad n sz) (True)) (dA ad n sz)) 0 0 (dA ad n sz) := by
  refine Met.ofW (cc := cJ2_length_9d52b) (maxL := 1) (ret := (some .int)) (by decide) rfl ?_
  intro p e s m args below meth c s₁ B hml hv
  obtain ⟨rfl, hsz, hW, hK, hGs⟩ := x_start hv
  subst hsz
  have hx := B.exec
  have hb := B.bytes
  have hr := B.returns
  have hts := atoms_spec (ws := wsJ2_length_9d52b) B.pre
  have hown : s.vm.findClass RJ2 = some m.cls := findClass_of_methodNamed B.named
  have hlk := B.notSynchronized
  have hC : Cx g p s m _ c cJ2_length_9d52b RJ2 wsJ2_length_9d52b 1 := ⟨hx, hb, hml, hown, hts, hK⟩
  have hA : ∀ q : Nat, s.heap.size ≤ q → dA ad n s.heap.size q := fun q h => Or.inr h
  have hS : va_S (dA ad n s.heap.size) s.heap s.heap [] := va_S.rf
  have hl := lv_entry ([.ref (ad p0)]) (n := 1) (Nat.le_of_ble_eq_true rfl)
  rw [lg_entry_eq]
  generalize (lg_sl ([.ref (ad p0)]) ++ List.replicate (1 - (lg_sl ([.ref (ad p0)])).length) Slot.unset).toArray = ls at hl ⊢
  have hl : lv_has ls 1 [(0, .ref (ad p0))] := hl
  have hGE := hGs.2.2.2.1
  have hGM := hGs.2.2.2.2
  unfold f_J2_length_9d52b at hf
  refine lv_aload_n hx hb dJ2_length_9d52b_0 rfl (lv_at hl 0 rfl) ?_
  refine x_alen hC hW tp0 rfl ⟨by decide, by decide⟩ dJ2_length_9d52b_1 ?_
  refine lv_iconst (v := 1) hx hb dJ2_length_9d52b_2 (by decide) ?_
  refine lv_ishr hx hb dJ2_length_9d52b_3 ?_
  obtain ⟨e1, e2⟩ := so2 hf
  subst e1
  subst e2
  exact W.iret (v := (nI (ln S0 p0)) >>> (1 &&& 31)) hx hb hr (fun t ht hWm => ⟨⟨rfl, by unfold QB; rw [ht]; exact ⟨hW, trivial⟩⟩, hS.F ht⟩) hS.2.2 dJ2_length_9d52b_4 hlk
set_option maxHeartbeats 4000000 in
set_option maxRecDepth 100000 in
theorem c_J0_charAt_5068e (l : Launch) (g : GP) (ad : Nat → Nat) (n : Nat) (K : Nat → Nat) (sz F : Nat) (S0 : St) (p0 : Nat) (p1 : Int32) (tp0 : tS 18 n K p0) (r9 : Int32) (S9 : St) (hf : f_J0_charAt_5068e F S0 p0 p1 = some (r9, S9)) : Met l yJ0_charAt_5068e wsJ0_charAt_5068e { frames := 3, cells := 0, slots := 0, locals := 64 } (va_Pc [.ref ((sad g ad p0)), .int p1] (PB g ad n K S0 sz)) (QR (some (.int r9)) (QB g ad n K S9 (dA ad n sz) (True)) (dA ad n sz)) 0 0 (dA ad n sz) := by
  refine Met.ofW (cc := cJ0_charAt_5068e) (maxL := 2) (ret := (some .char)) (by decide) rfl ?_
  intro p e s m args below meth c s₁ B hml hv
  obtain ⟨rfl, hsz, hW, hK, hGs⟩ := x_start hv
  subst hsz
  have hx := B.exec
  have hb := B.bytes
  have hr := B.returns
  have hts := atoms_spec (ws := wsJ0_charAt_5068e) B.pre
  have hown : s.vm.findClass RJ0 = some m.cls := findClass_of_methodNamed B.named
  have hlk := B.notSynchronized
  have hC : Cx g p s m _ c cJ0_charAt_5068e RJ0 wsJ0_charAt_5068e 2 := ⟨hx, hb, hml, hown, hts, hK⟩
  have hA : ∀ q : Nat, s.heap.size ≤ q → dA ad n s.heap.size q := fun q h => Or.inr h
  have hS : va_S (dA ad n s.heap.size) s.heap s.heap [] := va_S.rf
  have hl := lv_entry ([.ref ((sad g ad p0)), .int p1]) (n := 2) (Nat.le_of_ble_eq_true rfl)
  rw [lg_entry_eq]
  generalize (lg_sl ([.ref ((sad g ad p0)), .int p1]) ++ List.replicate (2 - (lg_sl ([.ref ((sad g ad p0)), .int p1])).length) Slot.unset).toArray = ls at hl ⊢
  have hl : lv_has ls 2 [(0, .ref ((sad g ad p0))), (1, .int p1)] := hl
  have hinJ0 : ∀ w ∈ wsJ00, w ∈ wsJ0_charAt_5068e := by decide +kernel
  have w_0 := hts (.fieldLink RJ0 9 "java/lang/String" "value" "[B") (by decide +kernel)
  have hGE := hGs.2.2.2.1
  have hGM := hGs.2.2.2.2
  unfold f_J0_charAt_5068e at hf
  refine lv_aload_n hx hb dJ0_charAt_5068e_0 rfl (lv_at hl 0 rfl) ?_
  replace hf := obE hf
  obtain ⟨z1, hz1, hf⟩ := hf
  obtain ⟨r3, S2⟩ := z1
  replace hf := ltE (ltE hf r3 rfl) S2 rfl
  refine x_callVs (As := []) (rest := []) (o := (some (.int r3))) (S1 := S2) hC hl.1 hW hS hGs hA tp0 rfl (c_J0_isLatin1_aae02 l g ad n K s.heap.size F S0 p0 tp0 r3 S2 hz1) (cwV 0 hts gJ0_charAt_5068e_J0_isLatin1_aae02 rfl rfl rfl (by decide +kernel) ⟨Nat.le_of_ble_eq_true rfl, Nat.le_of_ble_eq_true rfl⟩) rfl rfl (Nat.le_of_ble_eq_true rfl) dJ0_charAt_5068e_1 ⟨Nat.le_of_ble_eq_true rfl, Nat.le_of_ble_eq_true rfl⟩ (fun H locs hPz1 hW hS => ?_)
  refine W.eq (g2 := F0 m 4 ls [.int r3]) rfl ?_
  refine lv_if_eq (tgt := 16) hx hb dJ0_charAt_5068e_4 (by decide) (fun c5 => ?_) (fun c5 => ?_)
  · replace hf := ifT c5 hf
    refine lv_aload_n hx hb dJ0_charAt_5068e_16 rfl (lv_at hl 0 rfl) ?_
    replace hf := obE hf
    obtain ⟨y6, qy6, hf⟩ := hf
    have ty6 := x_tv hW qy6
    refine x_getValue hC hinJ0 hGM hW hS tp0 rfl w_0 dJ0_charAt_5068e_17 qy6 ?_
    refine lv_iload_n hx hb dJ0_charAt_5068e_20 rfl (lv_at hl 1 rfl) ?_
    cases hf
  · replace hf := ifF c5 hf
    refine lv_aload_n hx hb dJ0_charAt_5068e_7 rfl (lv_at hl 0 rfl) ?_
    replace hf := obE hf
    obtain ⟨y7, qy7, hf⟩ := hf
    have ty7 := x_tv hW qy7
    refine x_getValue hC hinJ0 hGM hW hS tp0 rfl w_0 dJ0_charAt_5068e_8 qy7 ?_
    refine lv_iload_n hx hb dJ0_charAt_5068e_11 rfl (lv_at hl 1 rfl) ?_
    replace hf := obE hf
    obtain ⟨z8, hz8, hf⟩ := hf
    obtain ⟨r10, S9⟩ := z8
    replace hf := ltE (ltE hf r10 rfl) S9 rfl
    refine x_callS (As := [.ref ((vad g ad y7)), .int p1]) (rest := []) (o := (some (.int r10))) (S1 := S9) hC hl.1 hW hS hGs hA (c_J1_charAt_3b067 l g ad n K H.size F S2 y7 p1 ty7 r10 S9 hz8) (va_cwS 2 hts gJ0_charAt_5068e_J1_charAt_3b067 rfl rfl rfl (by decide +kernel) ⟨Nat.le_of_ble_eq_true rfl, Nat.le_of_ble_eq_true rfl⟩) rfl rfl (Nat.le_of_ble_eq_true rfl) dJ0_charAt_5068e_12 ⟨Nat.le_of_ble_eq_true rfl, Nat.le_of_ble_eq_true rfl⟩ (fun H locs hPz8 hW hS => ?_)
    refine W.eq (g2 := F0 m 15 ls [.int r10]) rfl ?_
    replace hf := ckE hf
    obtain ⟨h12, hf⟩ := hf
    obtain ⟨e1, e2⟩ := so2 hf
    subst e1
    subst e2
    exact W.zret (v := r10) hx hb hr (nC h12) (fun t ht hWm => ⟨⟨rfl, by unfold QB; rw [ht]; exact ⟨hW, trivial⟩⟩, hS.F ht⟩) hS.2.2 dJ0_charAt_5068e_15 hlk
set_option maxHeartbeats 4000000 in
set_option maxRecDepth 100000 in
theorem c_J8_newLength_cabcc (l : Launch) (g : GP) (ad : Nat → Nat) (n : Nat) (K : Nat → Nat) (sz F : Nat) (S0 : St) (p0 : Int32) (p1 : Int32) (p2 : Int32) (r9 : Int32) (S9 : St) (hf : f_J8_newLength_cabcc F S0 p0 p1 p2 = some (r9, S9)) : Met l yJ8_newLength_cabcc wsJ8_newLength_cabcc { frames := 1, cells := 0, slots := 0, locals := 21 } (va_Pc [.int p0, .int p1, .int p2] (PB g ad n K S0 sz)) (QR (some (.int r9)) (QB g ad n K S9 (dA ad n sz) (True)) (dA ad n sz)) 0 0 (dA ad n sz) := by
  refine Met.ofW (cc := cJ8_newLength_cabcc) (maxL := 4) (ret := (some .int)) (by decide) rfl ?_
  intro p e s m args below meth c s₁ B hml hv
  obtain ⟨rfl, hsz, hW, hK, hGs⟩ := x_start hv
  subst hsz
  have hx := B.exec
  have hb := B.bytes
  have hr := B.returns
  have hts := atoms_spec (ws := wsJ8_newLength_cabcc) B.pre
  have hown : s.vm.findClass RJ8 = some m.cls := findClass_of_methodNamed B.named
  have hlk := B.notSynchronized
  have hC : Cx g p s m _ c cJ8_newLength_cabcc RJ8 wsJ8_newLength_cabcc 4 := ⟨hx, hb, hml, hown, hts, hK⟩
  have hA : ∀ q : Nat, s.heap.size ≤ q → dA ad n s.heap.size q := fun q h => Or.inr h
  have hS : va_S (dA ad n s.heap.size) s.heap s.heap [] := va_S.rf
  have hl := lv_entry ([.int p0, .int p1, .int p2]) (n := 4) (Nat.le_of_ble_eq_true rfl)
  rw [lg_entry_eq]
  generalize (lg_sl ([.int p0, .int p1, .int p2]) ++ List.replicate (4 - (lg_sl ([.int p0, .int p1, .int p2])).length) Slot.unset).toArray = ls at hl ⊢
  have hl : lv_has ls 4 [(0, .int p0), (1, .int p1), (2, .int p2)] := hl
  have w_0 := hts (.methodLink RJ8 194 Lib.Math.max.name) (by decide +kernel)
  have w_1 := hts (.static Lib.Math.max.name) (by decide +kernel)
  have w_2 := hts (.initialized "java/lang/Math") (by decide +kernel)
  have w_3 := hts (.code Lib.Math.max.name Lib.Math.max.code 2 (some .int)) (by decide +kernel)
  have w_4 := hts (.constant RJ8 200 (2147483639)) (by decide +kernel)
  have hGE := hGs.2.2.2.1
  have hGM := hGs.2.2.2.2
  have L21 : ∀ (S0 : St) (v0 : Int32) (v1 : Int32)  (H : Heap) (locs : List Loc) (ls : Array Slot), f_J8_newLength_cabcc_L21 F S0 v0 v1 = some (r9, S9) → Wb g ad n K S0 (dA ad n s.heap.size) H → va_S (dA ad n s.heap.size) s.heap H locs → lv_has ls 4 [(0, .int v0), (1, .int v1)] → W p l e (headSpec wsJ8_newLength_cabcc { frames := 1, cells := 0, slots := 0, locals := 21 }).room s m (List.toArray [.int p0, .int p1, .int p2]) below meth c H locs 0 0 (MQ below (QR (some (.int r9)) (QB g ad n K S9 (dA ad n s.heap.size) (True)) (dA ad n s.heap.size)) (List.toArray [.int p0, .int p1, .int p2]) s 0 0 (dA ad n s.heap.size)) (F0 m 21 ls []) := by
    intro S0 v0 v1  H locs ls hf hW hS hl
    unfold f_J8_newLength_cabcc_L21 at hf
    refine lv_iload_n hx hb dJ8_newLength_cabcc_21 rfl (lv_at hl 0 rfl) ?_
    refine lv_iload_n hx hb dJ8_newLength_cabcc_22 rfl (lv_at hl 1 rfl) ?_
    cases hf
  unfold f_J8_newLength_cabcc at hf
  refine lv_iload_n hx hb dJ8_newLength_cabcc_0 rfl (lv_at hl 0 rfl) ?_
  refine lv_iload_n hx hb dJ8_newLength_cabcc_1 rfl (lv_at hl 1 rfl) ?_
  refine lv_iload_n hx hb dJ8_newLength_cabcc_2 rfl (lv_at hl 2 rfl) ?_
  refine va_mmax hx hb (hml.trans hl.1.symm) hown w_0 w_1 w_2 w_3 (Nat.le_of_ble_eq_true rfl) (Nat.le_of_ble_eq_true rfl) (Nat.zero_le _) (Nat.zero_le _) dJ8_newLength_cabcc_3 ?_
  refine lv_iadd hx hb dJ8_newLength_cabcc_6 ?_
  refine lv_topi (fun x1 ex1 => ?_)
  replace hf := ltE hf x1 ex1
  refine lv_istore_n (lv' := [(3, .int x1), (0, .int p0), (1, .int p1), (2, .int p2)]) hx hb dJ8_newLength_cabcc_7 rfl hl (by decide) rfl (fun ls hl => ?_)
  refine lv_iconst (v := 0) hx hb dJ8_newLength_cabcc_8 (by decide) ?_
  refine lv_iload_n hx hb dJ8_newLength_cabcc_9 rfl (lv_at hl 0 rfl) ?_
  refine lv_icmp_ge (tgt := 21) hx hb dJ8_newLength_cabcc_10 (by decide) (fun c2 => ?_) (fun c2 => ?_)
  · replace hf := ifT c2 hf
    exact L21 S0 p0 p1 _ _ _ hf hW hS (lv_sub hl [1, 2] rfl)
  · replace hf := ifF c2 hf
    refine lv_iload_n hx hb dJ8_newLength_cabcc_13 rfl (lv_at hl 0 rfl) ?_
    refine lv_ldc (v := 2147483639) hx hb hown w_4 dJ8_newLength_cabcc_14 ?_
    refine lv_icmp_gt (tgt := 21) hx hb dJ8_newLength_cabcc_16 (by decide) (fun c3 => ?_) (fun c3 => ?_)
    · replace hf := ifT c3 hf
      exact L21 S0 p0 p1 _ _ _ hf hW hS (lv_sub hl [1, 2] rfl)
    · replace hf := ifF c3 hf
      refine lv_iload_n hx hb dJ8_newLength_cabcc_19 rfl (lv_at hl 0 rfl) ?_
      obtain ⟨e1, e2⟩ := so2 hf
      subst e1
      subst e2
      exact W.iret (v := x1) hx hb hr (fun t ht hWm => ⟨⟨rfl, by unfold QB; rw [ht]; exact ⟨hW, trivial⟩⟩, hS.F ht⟩) hS.2.2 dJ8_newLength_cabcc_20 hlk
set_option maxHeartbeats 4000000 in
set_option maxRecDepth 100000 in
theorem c_J5_newCapacity_0f7a4 (l : Launch) (g : GP) (ad : Nat → Nat) (n : Nat) (K : Nat → Nat) (sz F : Nat) (S0 : St) (p0 : Nat) (p1 : Int32) (tp0 : p0 < n ∧ K p0 = 10) (r9 : Int32) (S9 : St) (hf : f_J5_newCapacity_0f7a4 F S0 p0 p1 = some (r9, S9)) : Met l yJ5_newCapacity_0f7a4 wsJ5_newCapacity_0f7a4 { frames := 2, cells := 0, slots := 0, locals := 44 } (va_Pc [.ref (ad p0), .int p1] (PB g ad n K S0 sz)) (QR (some (.int r9)) (QB g ad n K S9 (dA ad n sz) (True)) (dA ad n sz)) 0 0 (dA ad n sz) := by
  refine Met.ofW (cc := cJ5_newCapacity_0f7a4) (maxL := 6) (ret := (some .int)) (by decide) rfl ?_
  intro p e s m args below meth c s₁ B hml hv
  obtain ⟨rfl, hsz, hW, hK, hGs⟩ := x_start hv
  subst hsz
  have hx := B.exec
  have hb := B.bytes
  have hr := B.returns
  have hts := atoms_spec (ws := wsJ5_newCapacity_0f7a4) B.pre
  have hown : s.vm.findClass RJ5 = some m.cls := findClass_of_methodNamed B.named
  have hlk := B.notSynchronized
  have hC : Cx g p s m _ c cJ5_newCapacity_0f7a4 RJ5 wsJ5_newCapacity_0f7a4 6 := ⟨hx, hb, hml, hown, hts, hK⟩
  have hA : ∀ q : Nat, s.heap.size ≤ q → dA ad n s.heap.size q := fun q h => Or.inr h
  have hS : va_S (dA ad n s.heap.size) s.heap s.heap [] := va_S.rf
  have hl := lv_entry ([.ref (ad p0), .int p1]) (n := 6) (Nat.le_of_ble_eq_true rfl)
  rw [lg_entry_eq]
  generalize (lg_sl ([.ref (ad p0), .int p1]) ++ List.replicate (6 - (lg_sl ([.ref (ad p0), .int p1])).length) Slot.unset).toArray = ls at hl ⊢
  have hl : lv_has ls 6 [(0, .ref (ad p0)), (1, .int p1)] := hl
  have hinJ4 : ∀ w ∈ wsJ40, w ∈ wsJ5_newCapacity_0f7a4 := by decide +kernel
  have w_0 := hts (.fieldLink RJ5 15 "java/lang/AbstractStringBuilder" "value" "[B") (by decide +kernel)
  have w_1 := hts (.fieldLink RJ5 22 "java/lang/AbstractStringBuilder" "coder" "B") (by decide +kernel)
  have w_2 := hts (.constant RJ5 39 (2147483647)) (by decide +kernel)
  have hGE := hGs.2.2.2.1
  have hGM := hGs.2.2.2.2
  unfold f_J5_newCapacity_0f7a4 at hf
  refine lv_aload_n hx hb dJ5_newCapacity_0f7a4_0 rfl (lv_at hl 0 rfl) ?_
  replace hf := obE hf
  obtain ⟨j1, qj1, hf⟩ := hf
  have tj1 := x_rt hW qj1 11 ⟨by decide, rfl⟩
  refine x_getr 1000 (ci := 10) (C := RJ4) (T := TJ4) (N := 4) 0 hC hinJ4 hW tp0 rfl rfl ⟨by decide, by decide, rfl, rfl⟩ rfl w_0 dJ5_newCapacity_0f7a4_1 qj1 ?_
  refine x_alen hC hW tj1 rfl ⟨by decide, by decide⟩ dJ5_newCapacity_0f7a4_4 ?_
  refine lv_topi (fun x2 ex2 => ?_)
  replace hf := ltE hf x2 ex2
  refine lv_istore_n (lv' := [(2, .int x2), (0, .ref (ad p0)), (1, .int p1)]) hx hb dJ5_newCapacity_0f7a4_5 rfl hl (by decide) rfl (fun ls hl => ?_)
  refine lv_iload_n hx hb dJ5_newCapacity_0f7a4_6 rfl (lv_at hl 2 rfl) ?_
  refine lv_aload_n hx hb dJ5_newCapacity_0f7a4_7 rfl (lv_at hl 1 rfl) ?_
  refine x_geti 1001 (ci := 10) (C := RJ4) (T := TJ4) (N := 4) 1 hC hinJ4 hW tp0 rfl rfl ⟨by decide, by decide, rfl, rfl⟩ rfl w_1 dJ5_newCapacity_0f7a4_8 ?_
  refine lv_ishl hx hb dJ5_newCapacity_0f7a4_11 ?_
  refine lv_topi (fun x3 ex3 => ?_)
  replace hf := ltE hf x3 ex3
  refine lv_istore_n (lv' := [(3, .int x3), (2, .int x2), (0, .ref (ad p0)), (1, .int p1)]) hx hb dJ5_newCapacity_0f7a4_12 rfl hl (by decide) rfl (fun ls hl => ?_)
  refine lv_iload_n hx hb dJ5_newCapacity_0f7a4_13 rfl (lv_at hl 0 rfl) ?_
  refine lv_iload_n hx hb dJ5_newCapacity_0f7a4_14 rfl (lv_at hl 1 rfl) ?_
  refine lv_isub hx hb dJ5_newCapacity_0f7a4_15 ?_
  refine lv_topi (fun x4 ex4 => ?_)
  replace hf := ltE hf x4 ex4
  refine lv_istore (lv' := [(4, .int x4), (3, .int x3), (2, .int x2), (0, .ref (ad p0)), (1, .int p1)]) hx hb dJ5_newCapacity_0f7a4_16 hl (by decide) rfl (fun ls hl => ?_)
  refine lv_iload_n hx hb dJ5_newCapacity_0f7a4_18 rfl (lv_at hl 2 rfl) ?_
  refine lv_iload hx hb dJ5_newCapacity_0f7a4_19 (lv_at hl 0 rfl) ?_
  refine lv_iload_n hx hb dJ5_newCapacity_0f7a4_21 rfl (lv_at hl 2 rfl) ?_
  refine lv_iconst (v := 2) hx hb dJ5_newCapacity_0f7a4_22 (by decide) ?_
  refine lv_aload_n hx hb dJ5_newCapacity_0f7a4_23 rfl (lv_at hl 3 rfl) ?_
  refine x_geti 1001 (ci := 10) (C := RJ4) (T := TJ4) (N := 4) 1 hC hinJ4 hW tp0 rfl rfl ⟨by decide, by decide, rfl, rfl⟩ rfl w_1 dJ5_newCapacity_0f7a4_24 ?_
  refine lv_ishl hx hb dJ5_newCapacity_0f7a4_27 ?_
  refine lv_iadd hx hb dJ5_newCapacity_0f7a4_28 ?_
  replace hf := obE hf
  obtain ⟨z5, hz5, hf⟩ := hf
  obtain ⟨r7, S6⟩ := z5
  replace hf := ltE (ltE hf r7 rfl) S6 rfl
  refine x_callS (As := [.int x2, .int x4, .int (x2 + (2 <<< ((si S0 1001 p0) &&& 31)))]) (rest := []) (o := (some (.int r7))) (S1 := S6) hC hl.1 hW hS hGs hA (c_J8_newLength_cabcc l g ad n K s.heap.size F S0 x2 x4 (x2 + (2 <<< ((si S0 1001 p0) &&& 31))) r7 S6 hz5) (va_cwS 3 hts gJ5_newCapacity_0f7a4_J8_newLength_cabcc rfl rfl rfl (by decide +kernel) ⟨Nat.le_of_ble_eq_true rfl, Nat.le_of_ble_eq_true rfl⟩) rfl rfl (Nat.le_of_ble_eq_true rfl) dJ5_newCapacity_0f7a4_29 ⟨Nat.le_of_ble_eq_true rfl, Nat.le_of_ble_eq_true rfl⟩ (fun H locs hPz5 hW hS => ?_)
  refine W.eq (g2 := F0 m 32 ls [.int r7]) rfl ?_
  refine lv_istore (lv' := [(5, .int r7), (4, .int x4), (3, .int x3), (2, .int x2), (0, .ref (ad p0)), (1, .int p1)]) hx hb dJ5_newCapacity_0f7a4_32 hl (by decide) rfl (fun ls hl => ?_)
  refine lv_iload hx hb dJ5_newCapacity_0f7a4_34 (lv_at hl 0 rfl) ?_
  refine lv_ldc (v := 2147483647) hx hb hown w_2 dJ5_newCapacity_0f7a4_36 ?_
  refine lv_icmp_ne (tgt := 51) hx hb dJ5_newCapacity_0f7a4_38 (by decide) (fun c9 => ?_) (fun c9 => ?_)
  · replace hf := ifT c9 hf
    refine lv_iload hx hb dJ5_newCapacity_0f7a4_51 (lv_at hl 0 rfl) ?_
    refine lv_aload_n hx hb dJ5_newCapacity_0f7a4_53 rfl (lv_at hl 4 rfl) ?_
    refine x_geti 1001 (ci := 10) (C := RJ4) (T := TJ4) (N := 4) 1 hC hinJ4 hW tp0 rfl rfl ⟨by decide, by decide, rfl, rfl⟩ rfl w_1 dJ5_newCapacity_0f7a4_54 ?_
    refine lv_ishr hx hb dJ5_newCapacity_0f7a4_57 ?_
    obtain ⟨e1, e2⟩ := so2 hf
    subst e1
    subst e2
    exact W.iret (v := r7 >>> ((si S6 1001 p0) &&& 31)) hx hb hr (fun t ht hWm => ⟨⟨rfl, by unfold QB; rw [ht]; exact ⟨hW, trivial⟩⟩, hS.F ht⟩) hS.2.2 dJ5_newCapacity_0f7a4_58 hlk
  · replace hf := ifF (fun q => q c9) hf
    cases hf
set_option maxHeartbeats 4000000 in
set_option maxRecDepth 100000 in
theorem c_J7_copyOf_9075b (l : Launch) (g : GP) (ad : Nat → Nat) (n : Nat) (K : Nat → Nat) (sz F : Nat) (S0 : St) (p0 : Nat) (p1 : Int32) (tp0 : p0 < n ∧ K p0 = 11) (r9 : Option Nat) (S9 : St) (n9 : Nat) (hf : f_J7_copyOf_9075b F S0 n p0 p1 = some (r9, S9, n9)) : Met l yJ7_copyOf_9075b wsJ7_copyOf_9075b { frames := 1, cells := 1, slots := 1024, locals := 40 } (va_Pc [.ref (ad p0), .int p1] (PB g ad n K S0 sz)) (QA ad K n (fun a => some (va_re a r9)) g n9 S9 (dA ad n sz) (fun K9 => ∀ j, r9 = some j → j < n9 ∧ K9 j = 11)) 1 1024 (dA ad n sz) := by
  refine Met.ofW (cc := cJ7_copyOf_9075b) (maxL := 3) (ret := (some (.array .byte))) (by decide) rfl ?_
  intro p e s m args below meth c s₁ B hml hv
  obtain ⟨rfl, hsz, hW, hK, hGs⟩ := x_start hv
  subst hsz
  have hx := B.exec
  have hb := B.bytes
  have hr := B.returns
  have hts := atoms_spec (ws := wsJ7_copyOf_9075b) B.pre
  have hown : s.vm.findClass RJ7 = some m.cls := findClass_of_methodNamed B.named
  have hlk := B.notSynchronized
  have hC : Cx g p s m _ c cJ7_copyOf_9075b RJ7 wsJ7_copyOf_9075b 3 := ⟨hx, hb, hml, hown, hts, hK⟩
  have hA : ∀ q : Nat, s.heap.size ≤ q → dA ad n s.heap.size q := fun q h => Or.inr h
  have hS : va_S (dA ad n s.heap.size) s.heap s.heap [] := va_S.rf
  have hl := lv_entry ([.ref (ad p0), .int p1]) (n := 3) (Nat.le_of_ble_eq_true rfl)
  rw [lg_entry_eq]
  generalize (lg_sl ([.ref (ad p0), .int p1]) ++ List.replicate (3 - (lg_sl ([.ref (ad p0), .int p1])).length) Slot.unset).toArray = ls at hl ⊢
  have hl : lv_has ls 3 [(0, .ref (ad p0)), (1, .int p1)] := hl
  have w_0 := hts (.arrayClass .byte) (by decide +kernel)
  have w_1 := hts (.methodLink RJ7 304 Lib.Math.min.name) (by decide +kernel)
  have w_2 := hts (.static Lib.Math.min.name) (by decide +kernel)
  have w_3 := hts (.initialized "java/lang/Math") (by decide +kernel)
  have w_4 := hts (.code Lib.Math.min.name Lib.Math.min.code 2 (some .int)) (by decide +kernel)
  have w_5 := hts (.methodLink RJ7 150 arraycopyName) (by decide +kernel)
  have w_6 := hts (.native arraycopyName) (by decide +kernel)
  have w_7 := hts (.static arraycopyName) (by decide +kernel)
  have w_8 := hts (.initialized "java/lang/System") (by decide +kernel)
  have w_9 := hts (.methodLink RJ7 310 ⟨"[B", "clone", "()Ljava/lang/Object;"⟩) (by decide +kernel)
  have w_10 := hts (.sameMethod "[B" "java/lang/Object" "clone" "()Ljava/lang/Object;") (by decide +kernel)
  have w_11 := hts (.native ⟨"java/lang/Object", "clone", "()Ljava/lang/Object;"⟩) (by decide +kernel)
  have w_12 := hts (.instanceMethod ⟨"java/lang/Object", "clone", "()Ljava/lang/Object;"⟩) (by decide +kernel)
  have w_13 := hts (.selects "[B" ⟨"[B", "clone", "()Ljava/lang/Object;"⟩ ⟨"java/lang/Object", "clone", "()Ljava/lang/Object;"⟩) (by decide +kernel)
  have w_14 := hts (.classLink RJ7 311 "[B") (by decide +kernel)
  have hGE := hGs.2.2.2.1
  have hGM := hGs.2.2.2.2
  unfold f_J7_copyOf_9075b at hf
  refine lv_iload_n hx hb dJ7_copyOf_9075b_0 rfl (lv_at hl 1 rfl) ?_
  refine lv_aload_n hx hb dJ7_copyOf_9075b_1 rfl (lv_at hl 0 rfl) ?_
  refine x_alen hC hW tp0 rfl ⟨by decide, by decide⟩ dJ7_copyOf_9075b_2 ?_
  refine lv_icmp_ne (tgt := 14) hx hb dJ7_copyOf_9075b_3 (by decide) (fun c1 => ?_) (fun c1 => ?_)
  · replace hf := ifT c1 hf
    refine lv_iload_n hx hb dJ7_copyOf_9075b_14 rfl (lv_at hl 1 rfl) ?_
    replace hf := ckE hf
    obtain ⟨h8, hf⟩ := hf
    refine x_newaB (len := Int32.toNatClampNeg p1) hC w_0 hW hS hA h8.1 rfl (by omega) (Nat.le_of_ble_eq_true rfl) (by show 0 + _ ≤ 1024; omega) dJ7_copyOf_9075b_15 (fun q2 ad3 K4 S5 H eS5 hag7 eqq2 ekq2 hW hS => ?_)
    replace hf := ltE hf S5 eS5
    obtain ⟨n6, en6⟩ : ∃ z, z = n + 1 := ⟨_, rfl⟩
    rw [← en6] at hag7 hW
    replace hf := ltE hf n6 en6
    have tq2 : n < n6 ∧ K4 n = 11 := ⟨by omega, ekq2⟩
    have g9 := hag7.t tp0
    have g10 := hag7.e tp0 rfl
    have ag11 := (Ag.rf).tr hag7
    refine W.widen (k := 1) (n := 1024) (by omega) (by omega) ?_
    refine lv_astore_n (lv' := [(2, .ref (q2)), (0, .ref (ad p0)), (1, .int p1)]) hx hb dJ7_copyOf_9075b_17 rfl hl (by decide) rfl (fun ls hl => ?_)
    refine lv_aload_n hx hb dJ7_copyOf_9075b_18 rfl (lv_at hl 1 rfl) ?_
    refine lv_iconst (v := 0) hx hb dJ7_copyOf_9075b_19 (by decide) ?_
    refine lv_aload_n hx hb dJ7_copyOf_9075b_20 rfl (lv_at hl 0 rfl) ?_
    refine lv_iconst (v := 0) hx hb dJ7_copyOf_9075b_21 (by decide) ?_
    refine lv_aload_n hx hb dJ7_copyOf_9075b_22 rfl (lv_at hl 1 rfl) ?_
    refine x_alen hC hW g9 g10 ⟨by decide, by decide⟩ dJ7_copyOf_9075b_23 ?_
    refine lv_iload_n hx hb dJ7_copyOf_9075b_24 rfl (lv_at hl 2 rfl) ?_
    refine va_mmin hx hb (hml.trans hl.1.symm) hown w_1 w_2 w_3 w_4 (by exact Nat.le_of_ble_eq_true rfl) (by exact Nat.le_of_ble_eq_true rfl) (by first | exact Nat.zero_le _ | exact Nat.le_of_ble_eq_true rfl) (by first | exact Nat.zero_le _ | exact Nat.le_of_ble_eq_true rfl) dJ7_copyOf_9075b_25 ?_
    replace hf := ckE hf
    obtain ⟨h12, hf⟩ := hf
    refine x_scpy hC (hml.trans hl.1.symm) w_5 w_6 w_7 w_8 hGM hW hS (tS_o g9) (g10.trans vad_o) tq2 eqq2 h12 (Nat.le_of_ble_eq_true rfl) (Nat.le_of_ble_eq_true rfl) dJ7_copyOf_9075b_28 (fun S13 H locs eS13 hW hS => ?_)
    replace hf := ltE hf S13 eS13
    refine lv_aload_n hx hb dJ7_copyOf_9075b_31 rfl (lv_at hl 0 rfl) ?_
    obtain ⟨e1, e2, e3⟩ := so3 hf
    subst e1
    subst e2
    subst e3
    exact W.aret hx hb hr (Or.inr ⟨_, rfl⟩) (Or.inr ⟨_, rfl⟩) (fun t ht hWm => ⟨⟨ad3, K4, congrArg (fun z => Outcome.returned (some (Value.ref z))) eqq2, ag11, (fun _ h => by cases h; exact tq2), by rw [ht]; exact hW⟩, hS.F ht⟩) hS.2.2 dJ7_copyOf_9075b_32 hlk
  · replace hf := ifF (fun q => q c1) hf
    refine lv_aload_n hx hb dJ7_copyOf_9075b_6 rfl (lv_at hl 0 rfl) ?_
    replace hf := ckE hf
    obtain ⟨h20, hf⟩ := hf
    refine x_clone (len := 1024) hC (hml.trans hl.1.symm) hGs w_9 w_10 w_11 w_12 w_13 hW hS hA tp0 rfl h20 (Nat.le_of_ble_eq_true rfl) (Nat.le_of_ble_eq_true rfl) (Nat.le_of_ble_eq_true rfl) (Nat.le_of_ble_eq_true rfl) dJ7_copyOf_9075b_7 (fun q14 ad15 K16 S17 H eS17 hag19 eqq14 ekq14 hW hS => ?_)
    replace hf := ltE hf S17 eS17
    obtain ⟨n18, en18⟩ : ∃ z, z = n + 1 := ⟨_, rfl⟩
    rw [← en18] at hag19 hW
    replace hf := ltE hf n18 en18
    have tq14 : n < n18 ∧ K16 n = 11 := ⟨by omega, ekq14⟩
    have g21 := hag19.t tp0
    have g22 := hag19.e tp0 rfl
    have ag23 := (Ag.rf).tr hag19
    refine W.widen (k := 1) (n := 1024) (by omega) (by omega) ?_
    refine x_castB hC hW tq14 eqq14 w_14 dJ7_copyOf_9075b_10 ?_
    obtain ⟨e1, e2, e3⟩ := so3 hf
    subst e1
    subst e2
    subst e3
    exact W.aret hx hb hr (Or.inr ⟨_, rfl⟩) (Or.inr ⟨_, rfl⟩) (fun t ht hWm => ⟨⟨ad15, K16, congrArg (fun z => Outcome.returned (some (Value.ref z))) eqq14, ag23, (fun _ h => by cases h; exact tq14), by rw [ht]; exact hW⟩, hS.F ht⟩) hS.2.2 dJ7_copyOf_9075b_13 hlk
set_option maxHeartbeats 4000000 in
set_option maxRecDepth 100000 in
theorem c_J5_ensureCapacityInternal_d00df (l : Launch) (g : GP) (ad : Nat → Nat) (n : Nat) (K : Nat → Nat) (sz F : Nat) (S0 : St) (p0 : Nat) (p1 : Int32) (tp0 : p0 < n ∧ K p0 = 10) (S9 : St) (n9 : Nat) (hf : f_J5_ensureCapacityInternal_d00df F S0 n p0 p1 = some (S9, n9)) : Met l yJ5_ensureCapacityInternal_d00df wsJ5_ensureCapacityInternal_d00df { frames := 3, cells := 1, slots := 1024, locals := 69 } (va_Pc [.ref (ad p0), .int p1] (PB g ad n K S0 sz)) (QA ad K n (fun _ => none) g n9 S9 (dA ad n sz) (fun _ => True)) 1 1024 (dA ad n sz) := by
  refine Met.ofW (cc := cJ5_ensureCapacityInternal_d00df) (maxL := 3) (ret := none) (by decide) rfl ?_
  intro p e s m args below meth c s₁ B hml hv
  obtain ⟨rfl, hsz, hW, hK, hGs⟩ := x_start hv
  subst hsz
  have hx := B.exec
  have hb := B.bytes
  have hr := B.returns
  have hts := atoms_spec (ws := wsJ5_ensureCapacityInternal_d00df) B.pre
  have hown : s.vm.findClass RJ5 = some m.cls := findClass_of_methodNamed B.named
  have hlk := B.notSynchronized
  have hC : Cx g p s m _ c cJ5_ensureCapacityInternal_d00df RJ5 wsJ5_ensureCapacityInternal_d00df 3 := ⟨hx, hb, hml, hown, hts, hK⟩
  have hA : ∀ q : Nat, s.heap.size ≤ q → dA ad n s.heap.size q := fun q h => Or.inr h
  have hS : va_S (dA ad n s.heap.size) s.heap s.heap [] := va_S.rf
  have hl := lv_entry ([.ref (ad p0), .int p1]) (n := 3) (Nat.le_of_ble_eq_true rfl)
  rw [lg_entry_eq]
  generalize (lg_sl ([.ref (ad p0), .int p1]) ++ List.replicate (3 - (lg_sl ([.ref (ad p0), .int p1])).length) Slot.unset).toArray = ls at hl ⊢
  have hl : lv_has ls 3 [(0, .ref (ad p0)), (1, .int p1)] := hl
  have hinJ4 : ∀ w ∈ wsJ40, w ∈ wsJ5_ensureCapacityInternal_d00df := by decide +kernel
  have w_0 := hts (.fieldLink RJ5 15 "java/lang/AbstractStringBuilder" "value" "[B") (by decide +kernel)
  have w_1 := hts (.fieldLink RJ5 22 "java/lang/AbstractStringBuilder" "coder" "B") (by decide +kernel)
  have hGE := hGs.2.2.2.1
  have hGM := hGs.2.2.2.2
  unfold f_J5_ensureCapacityInternal_d00df at hf
  refine lv_aload_n hx hb dJ5_ensureCapacityInternal_d00df_0 rfl (lv_at hl 0 rfl) ?_
  replace hf := obE hf
  obtain ⟨j1, qj1, hf⟩ := hf
  have tj1 := x_rt hW qj1 11 ⟨by decide, rfl⟩
  refine x_getr 1000 (ci := 10) (C := RJ4) (T := TJ4) (N := 4) 0 hC hinJ4 hW tp0 rfl rfl ⟨by decide, by decide, rfl, rfl⟩ rfl w_0 dJ5_ensureCapacityInternal_d00df_1 qj1 ?_
  refine x_alen hC hW tj1 rfl ⟨by decide, by decide⟩ dJ5_ensureCapacityInternal_d00df_4 ?_
  refine lv_aload_n hx hb dJ5_ensureCapacityInternal_d00df_5 rfl (lv_at hl 0 rfl) ?_
  refine x_geti 1001 (ci := 10) (C := RJ4) (T := TJ4) (N := 4) 1 hC hinJ4 hW tp0 rfl rfl ⟨by decide, by decide, rfl, rfl⟩ rfl w_1 dJ5_ensureCapacityInternal_d00df_6 ?_
  refine lv_ishr hx hb dJ5_ensureCapacityInternal_d00df_9 ?_
  refine lv_topi (fun x2 ex2 => ?_)
  replace hf := ltE hf x2 ex2
  refine lv_istore_n (lv' := [(2, .int x2), (0, .ref (ad p0)), (1, .int p1)]) hx hb dJ5_ensureCapacityInternal_d00df_10 rfl hl (by decide) rfl (fun ls hl => ?_)
  refine lv_iload_n hx hb dJ5_ensureCapacityInternal_d00df_11 rfl (lv_at hl 2 rfl) ?_
  refine lv_iload_n hx hb dJ5_ensureCapacityInternal_d00df_12 rfl (lv_at hl 0 rfl) ?_
  refine lv_isub hx hb dJ5_ensureCapacityInternal_d00df_13 ?_
  refine lv_if_le (tgt := 38) hx hb dJ5_ensureCapacityInternal_d00df_14 (by decide) (fun c3 => ?_) (fun c3 => ?_)
  · replace hf := ifT c3 hf
    obtain ⟨e1, e2⟩ := so2 hf
    subst e1
    subst e2
    refine W.widen (k := 1) (n := 1024) (Nat.le_of_ble_eq_true rfl) (Nat.le_of_ble_eq_true rfl) ?_
    exact W.vret hx hb hr (fun t ht hWm => ⟨⟨ad, K, rfl, Ag.rf, trivial, by rw [ht]; exact hW⟩, hS.F ht⟩) hS.2.2 dJ5_ensureCapacityInternal_d00df_38 hlk
  · replace hf := ifF c3 hf
    refine lv_aload_n hx hb dJ5_ensureCapacityInternal_d00df_17 rfl (lv_at hl 1 rfl) ?_
    refine lv_aload_n hx hb dJ5_ensureCapacityInternal_d00df_18 rfl (lv_at hl 1 rfl) ?_
    replace hf := obE hf
    obtain ⟨j4, qj4, hf⟩ := hf
    have tj4 := x_rt hW qj4 11 ⟨by decide, rfl⟩
    refine x_getr 1000 (ci := 10) (C := RJ4) (T := TJ4) (N := 4) 0 hC hinJ4 hW tp0 rfl rfl ⟨by decide, by decide, rfl, rfl⟩ rfl w_0 dJ5_ensureCapacityInternal_d00df_19 qj4 ?_
    refine lv_aload_n hx hb dJ5_ensureCapacityInternal_d00df_22 rfl (lv_at hl 1 rfl) ?_
    refine lv_iload_n hx hb dJ5_ensureCapacityInternal_d00df_23 rfl (lv_at hl 2 rfl) ?_
    replace hf := obE hf
    obtain ⟨z5, hz5, hf⟩ := hf
    obtain ⟨r7, S6⟩ := z5
    replace hf := ltE (ltE hf r7 rfl) S6 rfl
    refine x_callU (As := [.int p1]) (rest := [.ref (ad j4), .ref (ad p0)]) (o := (some (.int r7))) (S1 := S6) hC hl.1 hW hS hGs hA tp0 rfl (show vwCl[10]? = some (RJ4, TJ4, 4) ∧ ob 10 from ⟨rfl, by decide⟩) (c_J5_newCapacity_0f7a4 l g ad n K s.heap.size F S0 p0 p1 tp0 r7 S6 hz5) (va_cwU 1 hts gJ5_ensureCapacityInternal_d00df_J5_newCapacity_0f7a4_u104J4 rfl rfl rfl rfl (by decide +kernel) ⟨Nat.le_of_ble_eq_true rfl, Nat.le_of_ble_eq_true rfl⟩) rfl rfl (Nat.le_of_ble_eq_true rfl) dJ5_ensureCapacityInternal_d00df_24 ⟨Nat.le_of_ble_eq_true rfl, Nat.le_of_ble_eq_true rfl⟩ (fun H locs hPz5 hW hS => ?_)
    refine W.eq (g2 := F0 m 27 ls [.int r7, .ref (ad j4), .ref (ad p0)]) rfl ?_
    refine lv_aload_n hx hb dJ5_ensureCapacityInternal_d00df_27 rfl (lv_at hl 1 rfl) ?_
    refine x_geti 1001 (ci := 10) (C := RJ4) (T := TJ4) (N := 4) 1 hC hinJ4 hW tp0 rfl rfl ⟨by decide, by decide, rfl, rfl⟩ rfl w_1 dJ5_ensureCapacityInternal_d00df_28 ?_
    refine lv_ishl hx hb dJ5_ensureCapacityInternal_d00df_31 ?_
    replace hf := obE hf
    obtain ⟨z9, hz9, hf⟩ := hf
    obtain ⟨r11, S10, n12⟩ := z9
    replace hf := ltE (ltE (ltE hf r11 rfl) S10 rfl) n12 rfl
    refine x_acallS (As := [.ref (ad j4), .int (r7 <<< ((si S6 1001 p0) &&& 31))]) (rest := [.ref (ad p0)]) (S1 := S10) (n1 := n12) (o := (fun a => some (va_re a r11))) (P := (fun K9 => ∀ j, r11 = some j → j < n12 ∧ K9 j = 11)) hC hl.1 hW hS hGs hA (c_J7_copyOf_9075b l g ad n K H.size F S6 j4 (r7 <<< ((si S6 1001 p0) &&& 31)) tj4 r11 S10 n12 hz9) (va_cwS 2 hts gJ5_ensureCapacityInternal_d00df_J7_copyOf_9075b rfl rfl rfl (by decide +kernel) ⟨Nat.le_of_ble_eq_true rfl, Nat.le_of_ble_eq_true rfl⟩) rfl rfl (Nat.le_of_ble_eq_true rfl) dJ5_ensureCapacityInternal_d00df_32 ⟨(Nat.le_of_ble_eq_true rfl), (Nat.le_of_ble_eq_true rfl)⟩ (fun ad13 K14 H locs hag15 hPz9 hW hS => ?_)
    have g16 := hag15.t tp0
    have g17 := hag15.e tp0 rfl
    have ag18 := (Ag.rf).tr hag15
    refine W.widen (k := 1) (n := 1024) (by omega) (by omega) ?_
    replace hf := obE hf
    obtain ⟨j19, qj19, hf⟩ := hf
    have tj19 := hPz9 j19 qj19
    refine W.eq (g2 := F0 m 35 ls [.ref (ad13 j19), .ref (ad p0)]) (by rw [qj19]; rfl) ?_
    refine x_putr 1000 (ci := 10) (C := RJ4) (T := TJ4) (N := 4) (ty := (.array .byte)) 0 hC hinJ4 tyJ4_ok nmJ4 hW hS g16 g17 tj19 rfl rfl rfl ⟨by decide, by decide, rfl, rfl⟩ rfl w_0 rfl (by decide +kernel) rfl rfl dJ5_ensureCapacityInternal_d00df_35 (fun S20 H locs eS20 hW hS => ?_)
    replace hf := ltE hf S20 eS20
    obtain ⟨e1, e2⟩ := so2 hf
    subst e1
    subst e2
    exact W.vret hx hb hr (fun t ht hWm => ⟨⟨ad13, K14, rfl, ag18, trivial, by rw [ht]; exact hW⟩, hS.F ht⟩) hS.2.2 dJ5_ensureCapacityInternal_d00df_38 hlk
set_option maxHeartbeats 4000000 in
set_option maxRecDepth 100000 in
theorem c_J5_isLatin1_aae02 (l : Launch) (g : GP) (ad : Nat → Nat) (n : Nat) (K : Nat → Nat) (sz F : Nat) (S0 : St) (p0 : Nat) (tp0 : p0 < n ∧ K p0 = 10) (r9 : Int32) (S9 : St) (hf : f_J5_isLatin1_aae02 F S0 p0 = some (r9, S9)) : Met l yJ5_isLatin1_aae02 wsJ5_isLatin1_aae02 { frames := 0, cells := 0, slots := 0, locals := 0 } (va_Pc [.ref (ad p0)] (PB g ad n K S0 sz)) (QR (some (.int r9)) (QB g ad n K S9 (dA ad n sz) (True)) (dA ad n sz)) 0 0 (dA ad n sz) := by
  refine Met.ofW (cc := cJ5_isLatin1_aae02) (maxL := 1) (ret := (some .boolean)) (by decide) rfl ?_
  intro p e s m args below meth c s₁ B hml hv
  obtain ⟨rfl, hsz, hW, hK, hGs⟩ := x_start hv
  subst hsz
  have hx := B.exec
  have hb := B.bytes
  have hr := B.returns
  have hts := atoms_spec (ws := wsJ5_isLatin1_aae02) B.pre
  have hown : s.vm.findClass RJ5 = some m.cls := findClass_of_methodNamed B.named
  have hlk := B.notSynchronized
  have hC : Cx g p s m _ c cJ5_isLatin1_aae02 RJ5 wsJ5_isLatin1_aae02 1 := ⟨hx, hb, hml, hown, hts, hK⟩
  have hA : ∀ q : Nat, s.heap.size ≤ q → dA ad n s.heap.size q := fun q h => Or.inr h
  have hS : va_S (dA ad n s.heap.size) s.heap s.heap [] := va_S.rf
  have hl := lv_entry ([.ref (ad p0)]) (n := 1) (Nat.le_of_ble_eq_true rfl)
  rw [lg_entry_eq]
  generalize (lg_sl ([.ref (ad p0)]) ++ List.replicate (1 - (lg_sl ([.ref (ad p0)])).length) Slot.unset).toArray = ls at hl ⊢
  have hl : lv_has ls 1 [(0, .ref (ad p0))] := hl
  have hinJ4 : ∀ w ∈ wsJ40, w ∈ wsJ5_isLatin1_aae02 := by decide +kernel
  have w_0 := hts (.fieldLink RJ5 18 "java/lang/String" "COMPACT_STRINGS" "Z") (by decide +kernel)
  have w_1 := hts (.fieldLink RJ5 22 "java/lang/AbstractStringBuilder" "coder" "B") (by decide +kernel)
  have hGE := hGs.2.2.2.1
  have hGM := hGs.2.2.2.2
  unfold f_J5_isLatin1_aae02 at hf
  refine x_getsC hC hGM hS w_0 dJ5_isLatin1_aae02_0 ?_
  refine lv_if_eq (tgt := 17) hx hb dJ5_isLatin1_aae02_3 (by decide) (fun c1 => ?_) (fun c1 => ?_)
  · replace hf := ifT c1 hf
    refine lv_iconst (v := 0) hx hb dJ5_isLatin1_aae02_17 (by decide) ?_
    obtain ⟨e1, e2⟩ := so2 hf
    subst e1
    subst e2
    exact W.zret (v := 0) hx hb hr rfl (fun t ht hWm => ⟨⟨rfl, by unfold QB; rw [ht]; exact ⟨hW, trivial⟩⟩, hS.F ht⟩) hS.2.2 dJ5_isLatin1_aae02_18 hlk
  · replace hf := ifF c1 hf
    refine lv_aload_n hx hb dJ5_isLatin1_aae02_6 rfl (lv_at hl 0 rfl) ?_
    refine x_geti 1001 (ci := 10) (C := RJ4) (T := TJ4) (N := 4) 1 hC hinJ4 hW tp0 rfl rfl ⟨by decide, by decide, rfl, rfl⟩ rfl w_1 dJ5_isLatin1_aae02_7 ?_
    refine lv_if_ne (tgt := 17) hx hb dJ5_isLatin1_aae02_10 (by decide) (fun c2 => ?_) (fun c2 => ?_)
    · replace hf := ifT c2 hf
      refine lv_iconst (v := 0) hx hb dJ5_isLatin1_aae02_17 (by decide) ?_
      obtain ⟨e1, e2⟩ := so2 hf
      subst e1
      subst e2
      exact W.zret (v := 0) hx hb hr rfl (fun t ht hWm => ⟨⟨rfl, by unfold QB; rw [ht]; exact ⟨hW, trivial⟩⟩, hS.F ht⟩) hS.2.2 dJ5_isLatin1_aae02_18 hlk
    · replace hf := ifF (fun q => q c2) hf
      refine lv_iconst (v := 1) hx hb dJ5_isLatin1_aae02_13 (by decide) ?_
      refine lv_goto (tgt := 18) hx hb dJ5_isLatin1_aae02_14 (by decide) ?_
      obtain ⟨e1, e2⟩ := so2 hf
      subst e1
      subst e2
      exact W.zret (v := 1) hx hb hr rfl (fun t ht hWm => ⟨⟨rfl, by unfold QB; rw [ht]; exact ⟨hW, trivial⟩⟩, hS.F ht⟩) hS.2.2 dJ5_isLatin1_aae02_18 hlk
set_option maxHeartbeats 4000000 in
set_option maxRecDepth 100000 in
theorem c_J5_inflateIfNeededFor_a7421 (l : Launch) (g : GP) (ad : Nat → Nat) (n : Nat) (K : Nat → Nat) (sz F : Nat) (S0 : St) (p0 : Nat) (p1 : Nat) (tp0 : p0 < n ∧ K p0 = 10) (tp1 : tS 18 n K p1) (S9 : St) (hf : f_J5_inflateIfNeededFor_a7421 F S0 p0 p1 = some S9) : Met l yJ5_inflateIfNeededFor_a7421 wsJ5_inflateIfNeededFor_a7421 { frames := 1, cells := 0, slots := 0, locals := 20 } (va_Pc [.ref (ad p0), .ref ((sad g ad p1))] (PB g ad n K S0 sz)) (QR none (QB g ad n K S9 (dA ad n sz) (True)) (dA ad n sz)) 0 0 (dA ad n sz) := by
  refine Met.ofW (cc := cJ5_inflateIfNeededFor_a7421) (maxL := 2) (ret := none) (by decide) rfl ?_
  intro p e s m args below meth c s₁ B hml hv
  obtain ⟨rfl, hsz, hW, hK, hGs⟩ := x_start hv
  subst hsz
  have hx := B.exec
  have hb := B.bytes
  have hr := B.returns
  have hts := atoms_spec (ws := wsJ5_inflateIfNeededFor_a7421) B.pre
  have hown : s.vm.findClass RJ5 = some m.cls := findClass_of_methodNamed B.named
  have hlk := B.notSynchronized
  have hC : Cx g p s m _ c cJ5_inflateIfNeededFor_a7421 RJ5 wsJ5_inflateIfNeededFor_a7421 2 := ⟨hx, hb, hml, hown, hts, hK⟩
  have hA : ∀ q : Nat, s.heap.size ≤ q → dA ad n s.heap.size q := fun q h => Or.inr h
  have hS : va_S (dA ad n s.heap.size) s.heap s.heap [] := va_S.rf
  have hl := lv_entry ([.ref (ad p0), .ref ((sad g ad p1))]) (n := 2) (Nat.le_of_ble_eq_true rfl)
  rw [lg_entry_eq]
  generalize (lg_sl ([.ref (ad p0), .ref ((sad g ad p1))]) ++ List.replicate (2 - (lg_sl ([.ref (ad p0), .ref ((sad g ad p1))])).length) Slot.unset).toArray = ls at hl ⊢
  have hl : lv_has ls 2 [(0, .ref (ad p0)), (1, .ref ((sad g ad p1)))] := hl
  have hinJ4 : ∀ w ∈ wsJ40, w ∈ wsJ5_inflateIfNeededFor_a7421 := by decide +kernel
  have w_0 := hts (.fieldLink RJ5 18 "java/lang/String" "COMPACT_STRINGS" "Z") (by decide +kernel)
  have w_1 := hts (.fieldLink RJ5 22 "java/lang/AbstractStringBuilder" "coder" "B") (by decide +kernel)
  have hGE := hGs.2.2.2.1
  have hGM := hGs.2.2.2.2
  unfold f_J5_inflateIfNeededFor_a7421 at hf
  refine x_getsC hC hGM hS w_0 dJ5_inflateIfNeededFor_a7421_0 ?_
  refine lv_if_eq (tgt := 21) hx hb dJ5_inflateIfNeededFor_a7421_3 (by decide) (fun c1 => ?_) (fun c1 => ?_)
  · replace hf := ifT c1 hf
    have e1 := Option.some.inj hf
    subst e1
    exact W.vret hx hb hr (fun t ht hWm => ⟨⟨rfl, by unfold QB; rw [ht]; exact ⟨hW, trivial⟩⟩, hS.F ht⟩) hS.2.2 dJ5_inflateIfNeededFor_a7421_21 hlk
  · replace hf := ifF c1 hf
    refine lv_aload_n hx hb dJ5_inflateIfNeededFor_a7421_6 rfl (lv_at hl 0 rfl) ?_
    refine x_geti 1001 (ci := 10) (C := RJ4) (T := TJ4) (N := 4) 1 hC hinJ4 hW tp0 rfl rfl ⟨by decide, by decide, rfl, rfl⟩ rfl w_1 dJ5_inflateIfNeededFor_a7421_7 ?_
    refine lv_aload_n hx hb dJ5_inflateIfNeededFor_a7421_10 rfl (lv_at hl 1 rfl) ?_
    replace hf := obE hf
    obtain ⟨z2, hz2, hf⟩ := hf
    obtain ⟨r4, S3⟩ := z2
    replace hf := ltE (ltE hf r4 rfl) S3 rfl
    refine x_callVs (As := []) (rest := [.int (si S0 1001 p0)]) (o := (some (.int r4))) (S1 := S3) hC hl.1 hW hS hGs hA tp1 rfl (c_J0_coder_7d493 l g ad n K s.heap.size F S0 p1 tp1 r4 S3 hz2) (cwV 0 hts gJ5_inflateIfNeededFor_a7421_J0_coder_7d493 rfl rfl rfl (by decide +kernel) ⟨Nat.le_of_ble_eq_true rfl, Nat.le_of_ble_eq_true rfl⟩) rfl rfl (Nat.le_of_ble_eq_true rfl) dJ5_inflateIfNeededFor_a7421_11 ⟨Nat.le_of_ble_eq_true rfl, Nat.le_of_ble_eq_true rfl⟩ (fun H locs hPz2 hW hS => ?_)
    refine W.eq (g2 := F0 m 14 ls [.int r4, .int (si S0 1001 p0)]) rfl ?_
    refine lv_icmp_eq (tgt := 21) hx hb dJ5_inflateIfNeededFor_a7421_14 (by decide) (fun c6 => ?_) (fun c6 => ?_)
    · replace hf := ifT c6 hf
      have e1 := Option.some.inj hf
      subst e1
      exact W.vret hx hb hr (fun t ht hWm => ⟨⟨rfl, by unfold QB; rw [ht]; exact ⟨hW, trivial⟩⟩, hS.F ht⟩) hS.2.2 dJ5_inflateIfNeededFor_a7421_21 hlk
    · replace hf := ifF c6 hf
      refine lv_aload_n hx hb dJ5_inflateIfNeededFor_a7421_17 rfl (lv_at hl 0 rfl) ?_
      cases hf
set_option maxHeartbeats 4000000 in
set_option maxRecDepth 100000 in
theorem c_J0_getBytes_840e7 (l : Launch) (g : GP) (ad : Nat → Nat) (n : Nat) (K : Nat → Nat) (sz F : Nat) (S0 : St) (p0 : Nat) (p1 : Nat) (p2 : Int32) (p3 : Int32) (tp0 : tS 18 n K p0) (tp1 : p1 < n ∧ K p1 = 11) (S9 : St) (hf : f_J0_getBytes_840e7 F S0 p0 p1 p2 p3 = some S9) : Met l yJ0_getBytes_840e7 wsJ0_getBytes_840e7 { frames := 1, cells := 0, slots := 0, locals := 40 } (va_Pc [.ref ((sad g ad p0)), .ref (ad p1), .int p2, .int p3] (PB g ad n K S0 sz)) (QR none (QB g ad n K S9 (dA ad n sz) (True)) (dA ad n sz)) 0 0 (dA ad n sz) := by
  refine Met.ofW (cc := cJ0_getBytes_840e7) (maxL := 4) (ret := none) (by decide) rfl ?_
  intro p e s m args below meth c s₁ B hml hv
  obtain ⟨rfl, hsz, hW, hK, hGs⟩ := x_start hv
  subst hsz
  have hx := B.exec
  have hb := B.bytes
  have hr := B.returns
  have hts := atoms_spec (ws := wsJ0_getBytes_840e7) B.pre
  have hown : s.vm.findClass RJ0 = some m.cls := findClass_of_methodNamed B.named
  have hlk := B.notSynchronized
  have hC : Cx g p s m _ c cJ0_getBytes_840e7 RJ0 wsJ0_getBytes_840e7 4 := ⟨hx, hb, hml, hown, hts, hK⟩
  have hA : ∀ q : Nat, s.heap.size ≤ q → dA ad n s.heap.size q := fun q h => Or.inr h
  have hS : va_S (dA ad n s.heap.size) s.heap s.heap [] := va_S.rf
  have hl := lv_entry ([.ref ((sad g ad p0)), .ref (ad p1), .int p2, .int p3]) (n := 4) (Nat.le_of_ble_eq_true rfl)
  rw [lg_entry_eq]
  generalize (lg_sl ([.ref ((sad g ad p0)), .ref (ad p1), .int p2, .int p3]) ++ List.replicate (4 - (lg_sl ([.ref ((sad g ad p0)), .ref (ad p1), .int p2, .int p3])).length) Slot.unset).toArray = ls at hl ⊢
  have hl : lv_has ls 4 [(0, .ref ((sad g ad p0))), (1, .ref (ad p1)), (2, .int p2), (3, .int p3)] := hl
  have hinJ0 : ∀ w ∈ wsJ00, w ∈ wsJ0_getBytes_840e7 := by decide +kernel
  have w_0 := hts (.fieldLink RJ0 9 "java/lang/String" "value" "[B") (by decide +kernel)
  have w_1 := hts (.methodLink RJ0 212 arraycopyName) (by decide +kernel)
  have w_2 := hts (.native arraycopyName) (by decide +kernel)
  have w_3 := hts (.static arraycopyName) (by decide +kernel)
  have w_4 := hts (.initialized "java/lang/System") (by decide +kernel)
  have hGE := hGs.2.2.2.1
  have hGM := hGs.2.2.2.2
  unfold f_J0_getBytes_840e7 at hf
  refine lv_aload_n hx hb dJ0_getBytes_840e7_0 rfl (lv_at hl 0 rfl) ?_
  replace hf := obE hf
  obtain ⟨z1, hz1, hf⟩ := hf
  obtain ⟨r3, S2⟩ := z1
  replace hf := ltE (ltE hf r3 rfl) S2 rfl
  refine x_callVs (As := []) (rest := []) (o := (some (.int r3))) (S1 := S2) hC hl.1 hW hS hGs hA tp0 rfl (c_J0_coder_7d493 l g ad n K s.heap.size F S0 p0 tp0 r3 S2 hz1) (cwV 0 hts gJ0_getBytes_840e7_J0_coder_7d493 rfl rfl rfl (by decide +kernel) ⟨Nat.le_of_ble_eq_true rfl, Nat.le_of_ble_eq_true rfl⟩) rfl rfl (Nat.le_of_ble_eq_true rfl) dJ0_getBytes_840e7_1 ⟨Nat.le_of_ble_eq_true rfl, Nat.le_of_ble_eq_true rfl⟩ (fun H locs hPz1 hW hS => ?_)
  refine W.eq (g2 := F0 m 4 ls [.int r3]) rfl ?_
  refine lv_iload_n hx hb dJ0_getBytes_840e7_4 rfl (lv_at hl 3 rfl) ?_
  refine lv_icmp_ne (tgt := 28) hx hb dJ0_getBytes_840e7_5 (by decide) (fun c5 => ?_) (fun c5 => ?_)
  · replace hf := ifT c5 hf
    refine lv_aload_n hx hb dJ0_getBytes_840e7_28 rfl (lv_at hl 0 rfl) ?_
    replace hf := obE hf
    obtain ⟨y6, qy6, hf⟩ := hf
    have ty6 := x_tv hW qy6
    refine x_getValue hC hinJ0 hGM hW hS tp0 rfl w_0 dJ0_getBytes_840e7_29 qy6 ?_
    refine lv_iconst (v := 0) hx hb dJ0_getBytes_840e7_32 (by decide) ?_
    refine lv_aload_n hx hb dJ0_getBytes_840e7_33 rfl (lv_at hl 1 rfl) ?_
    refine lv_iload_n hx hb dJ0_getBytes_840e7_34 rfl (lv_at hl 2 rfl) ?_
    refine lv_aload_n hx hb dJ0_getBytes_840e7_35 rfl (lv_at hl 0 rfl) ?_
    replace hf := obE hf
    obtain ⟨y7, qy7, hf⟩ := hf
    have ty7 := x_tv hW qy7
    refine x_getValue hC hinJ0 hGM hW hS tp0 rfl w_0 dJ0_getBytes_840e7_36 qy7 ?_
    refine x_salen hC hGM hW hS ty7 rfl dJ0_getBytes_840e7_39 ?_
    cases hf
  · replace hf := ifF (fun q => q c5) hf
    refine lv_aload_n hx hb dJ0_getBytes_840e7_8 rfl (lv_at hl 0 rfl) ?_
    replace hf := obE hf
    obtain ⟨y8, qy8, hf⟩ := hf
    have ty8 := x_tv hW qy8
    refine x_getValue hC hinJ0 hGM hW hS tp0 rfl w_0 dJ0_getBytes_840e7_9 qy8 ?_
    refine lv_iconst (v := 0) hx hb dJ0_getBytes_840e7_12 (by decide) ?_
    refine lv_aload_n hx hb dJ0_getBytes_840e7_13 rfl (lv_at hl 1 rfl) ?_
    refine lv_iload_n hx hb dJ0_getBytes_840e7_14 rfl (lv_at hl 2 rfl) ?_
    refine lv_iload_n hx hb dJ0_getBytes_840e7_15 rfl (lv_at hl 3 rfl) ?_
    refine lv_ishl hx hb dJ0_getBytes_840e7_16 ?_
    refine lv_aload_n hx hb dJ0_getBytes_840e7_17 rfl (lv_at hl 0 rfl) ?_
    replace hf := obE hf
    obtain ⟨y9, qy9, hf⟩ := hf
    have ty9 := x_tv hW qy9
    refine x_getValue hC hinJ0 hGM hW hS tp0 rfl w_0 dJ0_getBytes_840e7_18 qy9 ?_
    refine x_salen hC hGM hW hS ty9 rfl dJ0_getBytes_840e7_21 ?_
    replace hf := ckE hf
    obtain ⟨h10, hf⟩ := hf
    refine x_scpy hC (hml.trans hl.1.symm) w_1 w_2 w_3 w_4 hGM hW hS ty8 rfl tp1 rfl h10 (Nat.le_of_ble_eq_true rfl) (Nat.le_of_ble_eq_true rfl) dJ0_getBytes_840e7_22 (fun S11 H locs eS11 hW hS => ?_)
    replace hf := ltE hf S11 eS11
    refine lv_goto (tgt := 43) hx hb dJ0_getBytes_840e7_25 (by decide) ?_
    have e1 := Option.some.inj hf
    subst e1
    exact W.vret hx hb hr (fun t ht hWm => ⟨⟨rfl, by unfold QB; rw [ht]; exact ⟨hW, trivial⟩⟩, hS.F ht⟩) hS.2.2 dJ0_getBytes_840e7_43 hlk
set_option maxHeartbeats 4000000 in
set_option maxRecDepth 100000 in
theorem c_J5_putStringAt_47b60 (l : Launch) (g : GP) (ad : Nat → Nat) (n : Nat) (K : Nat → Nat) (sz F : Nat) (S0 : St) (p0 : Nat) (p1 : Int32) (p2 : Nat) (tp0 : p0 < n ∧ K p0 = 10) (tp2 : tS 18 n K p2) (S9 : St) (hf : f_J5_putStringAt_47b60 F S0 p0 p1 p2 = some S9) : Met l yJ5_putStringAt_47b60 wsJ5_putStringAt_47b60 { frames := 2, cells := 0, slots := 0, locals := 63 } (va_Pc [.ref (ad p0), .int p1, .ref ((sad g ad p2))] (PB g ad n K S0 sz)) (QR none (QB g ad n K S9 (dA ad n sz) (True)) (dA ad n sz)) 0 0 (dA ad n sz) := by
  refine Met.ofW (cc := cJ5_putStringAt_47b60) (maxL := 3) (ret := none) (by decide) rfl ?_
  intro p e s m args below meth c s₁ B hml hv
  obtain ⟨rfl, hsz, hW, hK, hGs⟩ := x_start hv
  subst hsz
  have hx := B.exec
  have hb := B.bytes
  have hr := B.returns
  have hts := atoms_spec (ws := wsJ5_putStringAt_47b60) B.pre
  have hown : s.vm.findClass RJ5 = some m.cls := findClass_of_methodNamed B.named
  have hlk := B.notSynchronized
  have hC : Cx g p s m _ c cJ5_putStringAt_47b60 RJ5 wsJ5_putStringAt_47b60 3 := ⟨hx, hb, hml, hown, hts, hK⟩
  have hA : ∀ q : Nat, s.heap.size ≤ q → dA ad n s.heap.size q := fun q h => Or.inr h
  have hS : va_S (dA ad n s.heap.size) s.heap s.heap [] := va_S.rf
  have hl := lv_entry ([.ref (ad p0), .int p1, .ref ((sad g ad p2))]) (n := 3) (Nat.le_of_ble_eq_true rfl)
  rw [lg_entry_eq]
  generalize (lg_sl ([.ref (ad p0), .int p1, .ref ((sad g ad p2))]) ++ List.replicate (3 - (lg_sl ([.ref (ad p0), .int p1, .ref ((sad g ad p2))])).length) Slot.unset).toArray = ls at hl ⊢
  have hl : lv_has ls 3 [(0, .ref (ad p0)), (1, .int p1), (2, .ref ((sad g ad p2)))] := hl
  have hinJ4 : ∀ w ∈ wsJ40, w ∈ wsJ5_putStringAt_47b60 := by decide +kernel
  have w_0 := hts (.fieldLink RJ5 15 "java/lang/AbstractStringBuilder" "value" "[B") (by decide +kernel)
  have w_1 := hts (.fieldLink RJ5 22 "java/lang/AbstractStringBuilder" "coder" "B") (by decide +kernel)
  have hGE := hGs.2.2.2.1
  have hGM := hGs.2.2.2.2
  unfold f_J5_putStringAt_47b60 at hf
  refine lv_aload_n hx hb dJ5_putStringAt_47b60_0 rfl (lv_at hl 0 rfl) ?_
  refine lv_aload_n hx hb dJ5_putStringAt_47b60_1 rfl (lv_at hl 2 rfl) ?_
  replace hf := obE hf
  obtain ⟨S2, hz1, hf⟩ := hf
  refine x_callU (As := [.ref ((sad g ad p2))]) (rest := []) (o := none) (S1 := S2) hC hl.1 hW hS hGs hA tp0 rfl (show vwCl[10]? = some (RJ4, TJ4, 4) ∧ ob 10 from ⟨rfl, by decide⟩) (c_J5_inflateIfNeededFor_a7421 l g ad n K s.heap.size F S0 p0 p2 tp0 tp2 S2 hz1) (va_cwU 1 hts gJ5_putStringAt_47b60_J5_inflateIfNeededFor_a7421_u397J4 rfl rfl rfl rfl (by decide +kernel) ⟨Nat.le_of_ble_eq_true rfl, Nat.le_of_ble_eq_true rfl⟩) rfl rfl (Nat.le_of_ble_eq_true rfl) dJ5_putStringAt_47b60_2 ⟨Nat.le_of_ble_eq_true rfl, Nat.le_of_ble_eq_true rfl⟩ (fun H locs hPz1 hW hS => ?_)
  refine W.eq (g2 := F0 m 5 ls []) rfl ?_
  refine lv_aload_n hx hb dJ5_putStringAt_47b60_5 rfl (lv_at hl 2 rfl) ?_
  refine lv_aload_n hx hb dJ5_putStringAt_47b60_6 rfl (lv_at hl 0 rfl) ?_
  replace hf := obE hf
  obtain ⟨j5, qj5, hf⟩ := hf
  have tj5 := x_rt hW qj5 11 ⟨by decide, rfl⟩
  refine x_getr 1000 (ci := 10) (C := RJ4) (T := TJ4) (N := 4) 0 hC hinJ4 hW tp0 rfl rfl ⟨by decide, by decide, rfl, rfl⟩ rfl w_0 dJ5_putStringAt_47b60_7 qj5 ?_
  refine lv_iload_n hx hb dJ5_putStringAt_47b60_10 rfl (lv_at hl 1 rfl) ?_
  refine lv_aload_n hx hb dJ5_putStringAt_47b60_11 rfl (lv_at hl 0 rfl) ?_
  refine x_geti 1001 (ci := 10) (C := RJ4) (T := TJ4) (N := 4) 1 hC hinJ4 hW tp0 rfl rfl ⟨by decide, by decide, rfl, rfl⟩ rfl w_1 dJ5_putStringAt_47b60_12 ?_
  replace hf := obE hf
  obtain ⟨S7, hz6, hf⟩ := hf
  refine x_callVs (As := [.ref (ad j5), .int p1, .int (si S2 1001 p0)]) (rest := []) (o := none) (S1 := S7) hC hl.1 hW hS hGs hA tp2 rfl (c_J0_getBytes_840e7 l g ad n K H.size F S2 p2 j5 p1 (si S2 1001 p0) tp2 tj5 S7 hz6) (cwV 3 hts gJ5_putStringAt_47b60_J0_getBytes_840e7 rfl rfl rfl (by decide +kernel) ⟨Nat.le_of_ble_eq_true rfl, Nat.le_of_ble_eq_true rfl⟩) rfl rfl (Nat.le_of_ble_eq_true rfl) dJ5_putStringAt_47b60_15 ⟨Nat.le_of_ble_eq_true rfl, Nat.le_of_ble_eq_true rfl⟩ (fun H locs hPz6 hW hS => ?_)
  refine W.eq (g2 := F0 m 18 ls []) rfl ?_
  have e1 := Option.some.inj hf
  subst e1
  exact W.vret hx hb hr (fun t ht hWm => ⟨⟨rfl, by unfold QB; rw [ht]; exact ⟨hW, trivial⟩⟩, hS.F ht⟩) hS.2.2 dJ5_putStringAt_47b60_18 hlk
set_option maxHeartbeats 4000000 in
set_option maxRecDepth 100000 in
theorem c_J5_append_cf1ce (l : Launch) (g : GP) (ad : Nat → Nat) (n : Nat) (K : Nat → Nat) (sz F : Nat) (S0 : St) (p0 : Nat) (p1 : Nat) (tp0 : p0 < n ∧ K p0 = 10) (tp1 : tS 18 n K p1) (r9 : Option Nat) (S9 : St) (n9 : Nat) (hf : f_J5_append_cf1ce F S0 n p0 p1 = some (r9, S9, n9)) : Met l yJ5_append_cf1ce wsJ5_append_cf1ce { frames := 4, cells := 1, slots := 1024, locals := 91 } (va_Pc [.ref (ad p0), .ref ((sad g ad p1))] (PB g ad n K S0 sz)) (QA ad K n (fun a => some (va_re a r9)) g n9 S9 (dA ad n sz) (fun K9 => ∀ j, r9 = some j → j < n9 ∧ K9 j = 10)) 1 1024 (dA ad n sz) := by
  refine Met.ofW (cc := cJ5_append_cf1ce) (maxL := 3) (ret := (some (.object "java/lang/AbstractStringBuilder"))) (by decide) rfl ?_
  intro p e s m args below meth c s₁ B hml hv
  obtain ⟨rfl, hsz, hW, hK, hGs⟩ := x_start hv
  subst hsz
  have hx := B.exec
  have hb := B.bytes
  have hr := B.returns
  have hts := atoms_spec (ws := wsJ5_append_cf1ce) B.pre
  have hown : s.vm.findClass RJ5 = some m.cls := findClass_of_methodNamed B.named
  have hlk := B.notSynchronized
  have hC : Cx g p s m _ c cJ5_append_cf1ce RJ5 wsJ5_append_cf1ce 3 := ⟨hx, hb, hml, hown, hts, hK⟩
  have hA : ∀ q : Nat, s.heap.size ≤ q → dA ad n s.heap.size q := fun q h => Or.inr h
  have hS : va_S (dA ad n s.heap.size) s.heap s.heap [] := va_S.rf
  have hl := lv_entry ([.ref (ad p0), .ref ((sad g ad p1))]) (n := 3) (Nat.le_of_ble_eq_true rfl)
  rw [lg_entry_eq]
  generalize (lg_sl ([.ref (ad p0), .ref ((sad g ad p1))]) ++ List.replicate (3 - (lg_sl ([.ref (ad p0), .ref ((sad g ad p1))])).length) Slot.unset).toArray = ls at hl ⊢
  have hl : lv_has ls 3 [(0, .ref (ad p0)), (1, .ref ((sad g ad p1)))] := hl
  have hinJ4 : ∀ w ∈ wsJ40, w ∈ wsJ5_append_cf1ce := by decide +kernel
  have w_0 := hts (.fieldLink RJ5 79 "java/lang/AbstractStringBuilder" "count" "I") (by decide +kernel)
  have hGE := hGs.2.2.2.1
  have hGM := hGs.2.2.2.2
  unfold f_J5_append_cf1ce at hf
  refine lv_aload_n hx hb dJ5_append_cf1ce_0 rfl (lv_at hl 1 rfl) ?_
  refine lv_ifnonnull (tgt := 9) hx hb dJ5_append_cf1ce_1 (by decide) ?_
  refine lv_aload_n hx hb dJ5_append_cf1ce_9 rfl (lv_at hl 1 rfl) ?_
  replace hf := obE hf
  obtain ⟨z1, hz1, hf⟩ := hf
  obtain ⟨r3, S2⟩ := z1
  replace hf := ltE (ltE hf r3 rfl) S2 rfl
  refine x_callVs (As := []) (rest := []) (o := (some (.int r3))) (S1 := S2) hC hl.1 hW hS hGs hA tp1 rfl (c_J0_length_8abf5 l g ad n K s.heap.size F S0 p1 tp1 r3 S2 hz1) (cwV 0 hts gJ5_append_cf1ce_J0_length_8abf5 rfl rfl rfl (by decide +kernel) ⟨Nat.le_of_ble_eq_true rfl, Nat.le_of_ble_eq_true rfl⟩) rfl rfl (Nat.le_of_ble_eq_true rfl) dJ5_append_cf1ce_10 ⟨Nat.le_of_ble_eq_true rfl, Nat.le_of_ble_eq_true rfl⟩ (fun H locs hPz1 hW hS => ?_)
  refine W.eq (g2 := F0 m 13 ls [.int r3]) rfl ?_
  refine lv_istore_n (lv' := [(2, .int r3), (0, .ref (ad p0)), (1, .ref ((sad g ad p1)))]) hx hb dJ5_append_cf1ce_13 rfl hl (by decide) rfl (fun ls hl => ?_)
  refine lv_aload_n hx hb dJ5_append_cf1ce_14 rfl (lv_at hl 1 rfl) ?_
  refine lv_aload_n hx hb dJ5_append_cf1ce_15 rfl (lv_at hl 1 rfl) ?_
  refine x_geti 1003 (ci := 10) (C := RJ4) (T := TJ4) (N := 4) 3 hC hinJ4 hW tp0 rfl rfl ⟨by decide, by decide, rfl, rfl⟩ rfl w_0 dJ5_append_cf1ce_16 ?_
  refine lv_iload_n hx hb dJ5_append_cf1ce_19 rfl (lv_at hl 0 rfl) ?_
  refine lv_iadd hx hb dJ5_append_cf1ce_20 ?_
  replace hf := obE hf
  obtain ⟨z5, hz5, hf⟩ := hf
  obtain ⟨S6, n8⟩ := z5
  replace hf := ltE (ltE hf S6 rfl) n8 rfl
  refine x_acallU (As := [.int ((si S2 1003 p0) + r3)]) (rest := []) (S1 := S6) (n1 := n8) (o := (fun _ => none)) (P := (fun _ => True)) hC hl.1 hW hS hGs hA tp0 rfl (show vwCl[10]? = some (RJ4, TJ4, 4) ∧ ob 10 from ⟨rfl, by decide⟩) (c_J5_ensureCapacityInternal_d00df l g ad n K H.size F S2 p0 ((si S2 1003 p0) + r3) tp0 S6 n8 hz5) (va_cwU 1 hts gJ5_append_cf1ce_J5_ensureCapacityInternal_d00df_u100J4 rfl rfl rfl rfl (by decide +kernel) ⟨Nat.le_of_ble_eq_true rfl, Nat.le_of_ble_eq_true rfl⟩) rfl rfl (Nat.le_of_ble_eq_true rfl) dJ5_append_cf1ce_21 ⟨(Nat.le_of_ble_eq_true rfl), (Nat.le_of_ble_eq_true rfl)⟩ (fun ad9 K10 H locs hag11 hPz5 hW hS => ?_)
  have g12 := hag11.t tp0
  have g13 := hag11.e tp0 rfl
  have g14 := hag11.s tp1
  have g15 := hag11.se (g := g) tp1 rfl
  have ag16 := (Ag.rf).tr hag11
  refine W.widen (k := 1) (n := 1024) (by omega) (by omega) ?_
  refine W.eq (g2 := F0 m 24 ls []) rfl ?_
  refine lv_aload_n hx hb dJ5_append_cf1ce_24 rfl (lv_at hl 1 rfl) ?_
  refine lv_aload_n hx hb dJ5_append_cf1ce_25 rfl (lv_at hl 1 rfl) ?_
  refine x_geti 1003 (ci := 10) (C := RJ4) (T := TJ4) (N := 4) 3 hC hinJ4 hW g12 g13 rfl ⟨by decide, by decide, rfl, rfl⟩ rfl w_0 dJ5_append_cf1ce_26 ?_
  refine lv_aload_n hx hb dJ5_append_cf1ce_29 rfl (lv_at hl 2 rfl) ?_
  replace hf := obE hf
  obtain ⟨S18, hz17, hf⟩ := hf
  refine x_callU (As := [.int (si S6 1003 p0), .ref (sad g ad9 p1)]) (rest := []) (o := none) (S1 := S18) hC hl.1 hW hS hGs hA g12 rfl (show vwCl[10]? = some (RJ4, TJ4, 4) ∧ ob 10 from ⟨rfl, by decide⟩) (c_J5_putStringAt_47b60 l g ad9 n8 K10 H.size F S6 p0 (si S6 1003 p0) p1 g12 g14 S18 hz17) (va_cwU 2 hts gJ5_append_cf1ce_J5_putStringAt_47b60_u208J4 rfl rfl rfl rfl (by decide +kernel) ⟨Nat.le_of_ble_eq_true rfl, Nat.le_of_ble_eq_true rfl⟩) rfl (by rw [g13, g15] <;> rfl) (Nat.le_of_ble_eq_true rfl) dJ5_append_cf1ce_30 ⟨Nat.le_of_ble_eq_true rfl, Nat.le_of_ble_eq_true rfl⟩ (fun H locs hPz17 hW hS => ?_)
  refine W.eq (g2 := F0 m 33 ls []) rfl ?_
  refine lv_aload_n hx hb dJ5_append_cf1ce_33 rfl (lv_at hl 1 rfl) ?_
  refine lv_dup hx hb dJ5_append_cf1ce_34 rfl ?_
  refine x_geti 1003 (ci := 10) (C := RJ4) (T := TJ4) (N := 4) 3 hC hinJ4 hW g12 g13 rfl ⟨by decide, by decide, rfl, rfl⟩ rfl w_0 dJ5_append_cf1ce_35 ?_
  refine lv_iload_n hx hb dJ5_append_cf1ce_38 rfl (lv_at hl 0 rfl) ?_
  refine lv_iadd hx hb dJ5_append_cf1ce_39 ?_
  refine x_puti 1003 (ci := 10) (C := RJ4) (T := TJ4) (N := 4) (v := (si S18 1003 p0) + r3) (ty := .int) 3 hC hinJ4 tyJ4_ok nmJ4 hW hS g12 g13 rfl ⟨by decide, by decide, rfl, rfl⟩ rfl w_0 rfl (by decide +kernel) rfl rfl dJ5_append_cf1ce_40 (fun S21 H locs eS21 hW hS => ?_)
  replace hf := ltE hf S21 eS21
  refine lv_aload_n hx hb dJ5_append_cf1ce_43 rfl (lv_at hl 1 rfl) ?_
  obtain ⟨e1, e2, e3⟩ := so3 hf
  subst e1
  subst e2
  subst e3
  exact W.aret hx hb hr (Or.inl ⟨_, rfl⟩) (Or.inr ⟨_, rfl⟩) (fun t ht hWm => ⟨⟨ad9, K10, congrArg (fun z => Outcome.returned (some (Value.ref z))) g13, ag16, (fun _ h => by cases h; exact g12), by rw [ht]; exact hW⟩, hS.F ht⟩) hS.2.2 dJ5_append_cf1ce_44 hlk
set_option maxHeartbeats 4000000 in
set_option maxRecDepth 100000 in
theorem c_J4_append_15ec4 (l : Launch) (g : GP) (ad : Nat → Nat) (n : Nat) (K : Nat → Nat) (sz F : Nat) (S0 : St) (p0 : Nat) (p1 : Nat) (tp0 : p0 < n ∧ K p0 = 10) (tp1 : tS 18 n K p1) (r9 : Option Nat) (S9 : St) (n9 : Nat) (hf : f_J4_append_15ec4 F S0 n p0 p1 = some (r9, S9, n9)) : Met l yJ4_append_15ec4 wsJ4_append_15ec4 { frames := 5, cells := 1, slots := 1024, locals := 113 } (va_Pc [.ref (ad p0), .ref ((sad g ad p1))] (PB g ad n K S0 sz)) (QA ad K n (fun a => some (va_re a r9)) g n9 S9 (dA ad n sz) (fun K9 => ∀ j, r9 = some j → j < n9 ∧ K9 j = 10)) 1 1024 (dA ad n sz) := by
  refine Met.ofW (cc := cJ4_append_15ec4) (maxL := 2) (ret := (some (.object "java/lang/StringBuilder"))) (by decide) rfl ?_
  intro p e s m args below meth c s₁ B hml hv
  obtain ⟨rfl, hsz, hW, hK, hGs⟩ := x_start hv
  subst hsz
  have hx := B.exec
  have hb := B.bytes
  have hr := B.returns
  have hts := atoms_spec (ws := wsJ4_append_15ec4) B.pre
  have hown : s.vm.findClass RJ4 = some m.cls := findClass_of_methodNamed B.named
  have hlk := B.notSynchronized
  have hC : Cx g p s m _ c cJ4_append_15ec4 RJ4 wsJ4_append_15ec4 2 := ⟨hx, hb, hml, hown, hts, hK⟩
  have hA : ∀ q : Nat, s.heap.size ≤ q → dA ad n s.heap.size q := fun q h => Or.inr h
  have hS : va_S (dA ad n s.heap.size) s.heap s.heap [] := va_S.rf
  have hl := lv_entry ([.ref (ad p0), .ref ((sad g ad p1))]) (n := 2) (Nat.le_of_ble_eq_true rfl)
  rw [lg_entry_eq]
  generalize (lg_sl ([.ref (ad p0), .ref ((sad g ad p1))]) ++ List.replicate (2 - (lg_sl ([.ref (ad p0), .ref ((sad g ad p1))])).length) Slot.unset).toArray = ls at hl ⊢
  have hl : lv_has ls 2 [(0, .ref (ad p0)), (1, .ref ((sad g ad p1)))] := hl
  have hGE := hGs.2.2.2.1
  have hGM := hGs.2.2.2.2
  unfold f_J4_append_15ec4 at hf
  refine lv_aload_n hx hb dJ4_append_15ec4_0 rfl (lv_at hl 0 rfl) ?_
  refine lv_aload_n hx hb dJ4_append_15ec4_1 rfl (lv_at hl 1 rfl) ?_
  replace hf := obE hf
  obtain ⟨z1, hz1, hf⟩ := hf
  obtain ⟨r3, S2, n4⟩ := z1
  replace hf := ltE (ltE (ltE hf r3 rfl) S2 rfl) n4 rfl
  refine x_acallSU (As := [.ref ((sad g ad p1))]) (rest := []) (S1 := S2) (n1 := n4) (o := (fun a => some (va_re a r3))) (P := (fun K9 => ∀ j, r3 = some j → j < n4 ∧ K9 j = 10)) hC hl.1 hW hS hGs hA tp0 rfl (show vwCl[10]? = some (RJ4, TJ4, 4) ∧ ob 10 from ⟨rfl, by decide⟩) (c_J5_append_cf1ce l g ad n K s.heap.size F S0 p0 p1 tp0 tp1 r3 S2 n4 hz1) (va_cwSU 1 hts gJ4_append_15ec4_J5_append_cf1ce_s29 rfl rfl rfl (by decide +kernel) ⟨Nat.le_of_ble_eq_true rfl, Nat.le_of_ble_eq_true rfl⟩) rfl rfl (Nat.le_of_ble_eq_true rfl) dJ4_append_15ec4_2 ⟨(Nat.le_of_ble_eq_true rfl), (Nat.le_of_ble_eq_true rfl)⟩ (fun ad5 K6 H locs hag7 hPz1 hW hS => ?_)
  have g8 := hag7.t tp0
  have g9 := hag7.e tp0 rfl
  have g10 := hag7.s tp1
  have g11 := hag7.se (g := g) tp1 rfl
  have ag12 := (Ag.rf).tr hag7
  refine W.widen (k := 1) (n := 1024) (by omega) (by omega) ?_
  replace hf := obE hf
  obtain ⟨j13, qj13, hf⟩ := hf
  have tj13 := hPz1 j13 qj13
  refine W.eq (g2 := F0 m 5 ls [.ref (ad5 j13)]) (by rw [qj13]; rfl) ?_
  refine lv_pop hx hb dJ4_append_15ec4_5 rfl ?_
  refine lv_aload_n hx hb dJ4_append_15ec4_6 rfl (lv_at hl 0 rfl) ?_
  obtain ⟨e1, e2, e3⟩ := so3 hf
  subst e1
  subst e2
  subst e3
  exact W.aret hx hb hr (Or.inl ⟨_, rfl⟩) (Or.inr ⟨_, rfl⟩) (fun t ht hWm => ⟨⟨ad5, K6, congrArg (fun z => Outcome.returned (some (Value.ref z))) g9, ag12, (fun _ h => by cases h; exact g8), by rw [ht]; exact hW⟩, hS.F ht⟩) hS.2.2 dJ4_append_15ec4_7 hlk
set_option maxHeartbeats 4000000 in
set_option maxRecDepth 100000 in
theorem c_J4_append_cf1ce (l : Launch) (g : GP) (ad : Nat → Nat) (n : Nat) (K : Nat → Nat) (sz F : Nat) (S0 : St) (p0 : Nat) (p1 : Nat) (tp0 : p0 < n ∧ K p0 = 10) (tp1 : tS 18 n K p1) (r9 : Option Nat) (S9 : St) (n9 : Nat) (hf : f_J4_append_cf1ce F S0 n p0 p1 = some (r9, S9, n9)) : Met l yJ4_append_cf1ce wsJ4_append_cf1ce { frames := 6, cells := 1, slots := 1024, locals := 134 } (va_Pc [.ref (ad p0), .ref ((sad g ad p1))] (PB g ad n K S0 sz)) (QA ad K n (fun a => some (va_re a r9)) g n9 S9 (dA ad n sz) (fun K9 => ∀ j, r9 = some j → j < n9 ∧ K9 j = 10)) 1 1024 (dA ad n sz) := by
  refine Met.ofW (cc := cJ4_append_cf1ce) (maxL := 2) (ret := (some (.object "java/lang/AbstractStringBuilder"))) (by decide) rfl ?_
  intro p e s m args below meth c s₁ B hml hv
  obtain ⟨rfl, hsz, hW, hK, hGs⟩ := x_start hv
  subst hsz
  have hx := B.exec
  have hb := B.bytes
  have hr := B.returns
  have hts := atoms_spec (ws := wsJ4_append_cf1ce) B.pre
  have hown : s.vm.findClass RJ4 = some m.cls := findClass_of_methodNamed B.named
  have hlk := B.notSynchronized
  have hC : Cx g p s m _ c cJ4_append_cf1ce RJ4 wsJ4_append_cf1ce 2 := ⟨hx, hb, hml, hown, hts, hK⟩
  have hA : ∀ q : Nat, s.heap.size ≤ q → dA ad n s.heap.size q := fun q h => Or.inr h
  have hS : va_S (dA ad n s.heap.size) s.heap s.heap [] := va_S.rf
  have hl := lv_entry ([.ref (ad p0), .ref ((sad g ad p1))]) (n := 2) (Nat.le_of_ble_eq_true rfl)
  rw [lg_entry_eq]
  generalize (lg_sl ([.ref (ad p0), .ref ((sad g ad p1))]) ++ List.replicate (2 - (lg_sl ([.ref (ad p0), .ref ((sad g ad p1))])).length) Slot.unset).toArray = ls at hl ⊢
  have hl : lv_has ls 2 [(0, .ref (ad p0)), (1, .ref ((sad g ad p1)))] := hl
  have hGE := hGs.2.2.2.1
  have hGM := hGs.2.2.2.2
  unfold f_J4_append_cf1ce at hf
  refine lv_aload_n hx hb dJ4_append_cf1ce_0 rfl (lv_at hl 0 rfl) ?_
  refine lv_aload_n hx hb dJ4_append_cf1ce_1 rfl (lv_at hl 1 rfl) ?_
  replace hf := obE hf
  obtain ⟨z1, hz1, hf⟩ := hf
  obtain ⟨r3, S2, n4⟩ := z1
  replace hf := ltE (ltE (ltE hf r3 rfl) S2 rfl) n4 rfl
  refine x_acallV (As := [.ref ((sad g ad p1))]) (rest := []) (S1 := S2) (n1 := n4) (o := (fun a => some (va_re a r3))) (P := (fun K9 => ∀ j, r3 = some j → j < n4 ∧ K9 j = 10)) hC hl.1 hW hS hGs hA tp0 rfl (show vwCl[10]? = some (RJ4, TJ4, 4) ∧ ob 10 from ⟨rfl, by decide⟩) (c_J4_append_15ec4 l g ad n K s.heap.size F S0 p0 p1 tp0 tp1 r3 S2 n4 hz1) (cwV 1 hts gJ4_append_cf1ce_J4_append_15ec4 rfl rfl rfl (by decide +kernel) ⟨Nat.le_of_ble_eq_true rfl, Nat.le_of_ble_eq_true rfl⟩) rfl rfl (Nat.le_of_ble_eq_true rfl) dJ4_append_cf1ce_2 ⟨(Nat.le_of_ble_eq_true rfl), (Nat.le_of_ble_eq_true rfl)⟩ (fun ad5 K6 H locs hag7 hPz1 hW hS => ?_)
  have g8 := hag7.t tp0
  have g9 := hag7.e tp0 rfl
  have g10 := hag7.s tp1
  have g11 := hag7.se (g := g) tp1 rfl
  have ag12 := (Ag.rf).tr hag7
  refine W.widen (k := 1) (n := 1024) (by omega) (by omega) ?_
  replace hf := obE hf
  obtain ⟨j13, qj13, hf⟩ := hf
  have tj13 := hPz1 j13 qj13
  refine W.eq (g2 := F0 m 5 ls [.ref (ad5 j13)]) (by rw [qj13]; rfl) ?_
  obtain ⟨e1, e2, e3⟩ := so3 hf
  subst e1
  subst e2
  subst e3
  exact W.aret hx hb hr (Or.inl ⟨_, rfl⟩) (Or.inr ⟨_, rfl⟩) (fun t ht hWm => ⟨⟨ad5, K6, rfl, ag12, (fun _ h => by cases h; exact tj13), by rw [ht]; exact hW⟩, hS.F ht⟩) hS.2.2 dJ4_append_cf1ce_5 hlk
set_option maxHeartbeats 4000000 in
set_option maxRecDepth 100000 in
theorem c_J5_init_a7421 (l : Launch) (g : GP) (ad : Nat → Nat) (n : Nat) (K : Nat → Nat) (sz F : Nat) (S0 : St) (p0 : Nat) (p1 : Nat) (tp0 : p0 < n ∧ K p0 = 10) (tp1 : tS 18 n K p1) (S9 : St) (n9 : Nat) (hf : f_J5_init_a7421 F S0 n p0 p1 = some (S9, n9)) : Met l yJ5_init_a7421 wsJ5_init_a7421 { frames := 7, cells := 2, slots := 1088, locals := 155 } (va_Pc [.ref (ad p0), .ref ((sad g ad p1))] (PB g ad n K S0 sz)) (QA ad K n (fun _ => none) g n9 S9 (dA ad n sz) (fun _ => True)) 2 1088 (dA ad n sz) := by
  refine Met.ofW (cc := cJ5_init_a7421) (maxL := 5) (ret := none) (by decide) rfl ?_
  intro p e s m args below meth c s₁ B hml hv
  obtain ⟨rfl, hsz, hW, hK, hGs⟩ := x_start hv
  subst hsz
  have hx := B.exec
  have hb := B.bytes
  have hr := B.returns
  have hts := atoms_spec (ws := wsJ5_init_a7421) B.pre
  have hown : s.vm.findClass RJ5 = some m.cls := findClass_of_methodNamed B.named
  have hlk := B.notSynchronized
  have hinI : meth.name = "<init>" := (name_of_methodNamed B.named B.method).1
  have hC : Cx g p s m _ c cJ5_init_a7421 RJ5 wsJ5_init_a7421 5 := ⟨hx, hb, hml, hown, hts, hK⟩
  have hA : ∀ q : Nat, s.heap.size ≤ q → dA ad n s.heap.size q := fun q h => Or.inr h
  have hS : va_S (dA ad n s.heap.size) s.heap s.heap [] := va_S.rf
  have hl := lv_entry ([.ref (ad p0), .ref ((sad g ad p1))]) (n := 5) (Nat.le_of_ble_eq_true rfl)
  rw [lg_entry_eq]
  generalize (lg_sl ([.ref (ad p0), .ref ((sad g ad p1))]) ++ List.replicate (5 - (lg_sl ([.ref (ad p0), .ref ((sad g ad p1))])).length) Slot.unset).toArray = ls at hl ⊢
  have hl : lv_has ls 5 [(0, .ref (ad p0)), (1, .ref ((sad g ad p1)))] := hl
  have hinJ4 : ∀ w ∈ wsJ40, w ∈ wsJ5_init_a7421 := by decide +kernel
  have w_0 := hts (.fieldLink RJ5 15 "java/lang/AbstractStringBuilder" "value" "[B") (by decide +kernel)
  have w_1 := hts (.fieldLink RJ5 22 "java/lang/AbstractStringBuilder" "coder" "B") (by decide +kernel)
  have w_2 := hts (.arrayClass .byte) (by decide +kernel)
  have w_3 := hts (.methodLink RJ5 3 objectInit) (by decide +kernel)
  have w_4 := hts (.instanceMethod objectInit) (by decide +kernel)
  have w_5 := hts (.code objectInit ⟨#[0xb1]⟩ 1 none) (by decide +kernel)
  have w_6 := hts (.constant RJ5 38 (2147483631)) (by decide +kernel)
  have w_7 := hts (.constant RJ5 39 (2147483647)) (by decide +kernel)
  have hGE := hGs.2.2.2.1
  have hGM := hGs.2.2.2.2
  have L53 : ∀ (adL KL : Nat → Nat) (nL : Nat) (hagL : Ag ad K n adL KL nL) (S0 : St) (v0 : Nat) (v1 : Nat) (s0 : Nat) (s1 : Nat) (tv0 : v0 < nL ∧ KL v0 = 10) (tv1 : tS 18 nL KL v1) (ts0 : s0 < nL ∧ KL s0 = 11) (ts1 : s1 < nL ∧ KL s1 = 10) (H : Heap) (locs : List Loc) (ls : Array Slot), f_J5_init_a7421_L53 F S0 nL v0 v1 s0 s1 = some (S9, n9) → Wb g adL nL KL S0 (dA ad n s.heap.size) H → va_S (dA ad n s.heap.size) s.heap H locs → lv_has ls 5 [(0, .ref (adL v0)), (1, .ref ((sad g adL v1)))] → W p l e (headSpec wsJ5_init_a7421 { frames := 7, cells := 2, slots := 1088, locals := 155 }).room s m (List.toArray [.ref (ad p0), .ref ((sad g ad p1))]) below meth c H locs 1 64 (MQ below (QA ad K n (fun _ => none) g n9 S9 (dA ad n s.heap.size) (fun _ => True)) (List.toArray [.ref (ad p0), .ref ((sad g ad p1))]) s 2 1088 (dA ad n s.heap.size)) (F0 m 53 ls [.ref (adL s0), .ref (adL s1)]) := by
    intro adL KL nL hagL S0 v0 v1 s0 s1 tv0 tv1 ts0 ts1 H locs ls hf hW hS hl
    unfold f_J5_init_a7421_L53 at hf
    refine x_putr 1000 (ci := 10) (C := RJ4) (T := TJ4) (N := 4) (ty := (.array .byte)) 0 hC hinJ4 tyJ4_ok nmJ4 hW hS ts1 rfl ts0 rfl rfl rfl ⟨by decide, by decide, rfl, rfl⟩ rfl w_0 rfl (by decide +kernel) rfl rfl dJ5_init_a7421_53 (fun S15 H locs eS15 hW hS => ?_)
    replace hf := ltE hf S15 eS15
    refine lv_aload_n hx hb dJ5_init_a7421_56 rfl (lv_at hl 0 rfl) ?_
    refine lv_aload_n hx hb dJ5_init_a7421_57 rfl (lv_at hl 1 rfl) ?_
    replace hf := obE hf
    obtain ⟨z16, hz16, hf⟩ := hf
    obtain ⟨r18, S17, n19⟩ := z16
    replace hf := ltE (ltE (ltE hf r18 rfl) S17 rfl) n19 rfl
    refine x_acallU (As := [.ref ((sad g adL v1))]) (rest := []) (S1 := S17) (n1 := n19) (o := (fun a => some (va_re a r18))) (P := (fun K9 => ∀ j, r18 = some j → j < n19 ∧ K9 j = 10)) hC hl.1 hW hS hGs hA tv0 rfl (show vwCl[10]? = some (RJ4, TJ4, 4) ∧ ob 10 from ⟨rfl, by decide⟩) (c_J4_append_cf1ce l g adL nL KL H.size F S15 v0 v1 tv0 tv1 r18 S17 n19 hz16) (va_cwO 1 hts gJ5_init_a7421_J4_append_cf1ce_u43J4 rfl rfl rfl (show Cond.code yJ5_append_cf1ce cJ5_append_cf1ce 3 (some (.object "java/lang/AbstractStringBuilder")) ∈ wsJ5_init_a7421 by decide +kernel) (by decide +kernel) ⟨Nat.le_of_ble_eq_true rfl, Nat.le_of_ble_eq_true rfl⟩) rfl rfl (Nat.le_of_ble_eq_true rfl) dJ5_init_a7421_58 ⟨(Nat.le_of_ble_eq_true rfl), (Nat.le_of_ble_eq_true rfl)⟩ (fun ad20 K21 H locs hag22 hPz16 hW hS => ?_)
    have g23 := hag22.t tv0
    have g24 := hag22.e tv0 rfl
    have g25 := hag22.s tv1
    have g26 := hag22.se (g := g) tv1 rfl
    have ag27 := (hagL).tr hag22
    refine W.widen (k := 2) (n := 1088) (by omega) (by omega) ?_
    replace hf := obE hf
    obtain ⟨j28, qj28, hf⟩ := hf
    have tj28 := hPz16 j28 qj28
    refine W.eq (g2 := F0 m 61 ls [.ref (ad20 j28)]) (by rw [qj28]; rfl) ?_
    refine lv_pop hx hb dJ5_init_a7421_61 rfl ?_
    obtain ⟨e1, e2⟩ := so2 hf
    subst e1
    subst e2
    exact W.vret hx hb hr (fun t ht hWm => ⟨⟨ad20, K21, rfl, ag27, trivial, by rw [ht]; exact hW⟩, hS.F ht⟩) hS.2.2 dJ5_init_a7421_62 hlk
  have L24 : ∀ (adL KL : Nat → Nat) (nL : Nat) (hagL : Ag ad K n adL KL nL) (S0 : St) (v0 : Nat) (v1 : Nat) (s0 : Int32) (tv0 : v0 < nL ∧ KL v0 = 10) (tv1 : tS 18 nL KL v1) (H : Heap) (locs : List Loc) (ls : Array Slot), f_J5_init_a7421_L24 F S0 nL v0 v1 s0 = some (S9, n9) → Wb g adL nL KL S0 (dA ad n s.heap.size) H → va_S (dA ad n s.heap.size) s.heap H locs → lv_has ls 5 [(0, .ref (adL v0)), (1, .ref ((sad g adL v1)))] → W p l e (headSpec wsJ5_init_a7421 { frames := 7, cells := 2, slots := 1088, locals := 155 }).room s m (List.toArray [.ref (ad p0), .ref ((sad g ad p1))]) below meth c H locs 0 0 (MQ below (QA ad K n (fun _ => none) g n9 S9 (dA ad n s.heap.size) (fun _ => True)) (List.toArray [.ref (ad p0), .ref ((sad g ad p1))]) s 2 1088 (dA ad n s.heap.size)) (F0 m 24 ls [.int s0]) := by
    intro adL KL nL hagL S0 v0 v1 s0 tv0 tv1 H locs ls hf hW hS hl
    unfold f_J5_init_a7421_L24 at hf
    refine lv_istore_n (lv' := [(3, .int s0), (0, .ref (adL v0)), (1, .ref ((sad g adL v1)))]) hx hb dJ5_init_a7421_24 rfl hl (by decide) rfl (fun ls hl => ?_)
    refine lv_aload_n hx hb dJ5_init_a7421_25 rfl (lv_at hl 2 rfl) ?_
    replace hf := obE hf
    obtain ⟨z48, hz48, hf⟩ := hf
    obtain ⟨r50, S49⟩ := z48
    replace hf := ltE (ltE hf r50 rfl) S49 rfl
    refine x_callVs (As := []) (rest := []) (o := (some (.int r50))) (S1 := S49) hC hl.1 hW hS hGs hA tv1 rfl (c_J0_coder_7d493 l g adL nL KL H.size F S0 v1 tv1 r50 S49 hz48) (cwV 0 hts gJ5_init_a7421_J0_coder_7d493 rfl rfl rfl (by decide +kernel) ⟨Nat.le_of_ble_eq_true rfl, Nat.le_of_ble_eq_true rfl⟩) rfl rfl (Nat.le_of_ble_eq_true rfl) dJ5_init_a7421_26 ⟨Nat.le_of_ble_eq_true rfl, Nat.le_of_ble_eq_true rfl⟩ (fun H locs hPz48 hW hS => ?_)
    refine W.eq (g2 := F0 m 29 ls [.int r50]) rfl ?_
    refine lv_istore (lv' := [(4, .int r50), (3, .int s0), (0, .ref (adL v0)), (1, .ref ((sad g adL v1)))]) hx hb dJ5_init_a7421_29 hl (by decide) rfl (fun ls hl => ?_)
    refine lv_aload_n hx hb dJ5_init_a7421_31 rfl (lv_at hl 2 rfl) ?_
    refine lv_iload hx hb dJ5_init_a7421_32 (lv_at hl 0 rfl) ?_
    replace hf := ckE hf
    obtain ⟨h52, hf⟩ := hf
    refine x_puti 1001 (ci := 10) (C := RJ4) (T := TJ4) (N := 4) (v := r50) (ty := .byte) 1 hC hinJ4 tyJ4_ok nmJ4 hW hS tv0 rfl rfl ⟨by decide, by decide, rfl, rfl⟩ rfl w_1 rfl (by decide +kernel) (nB h52) (fB h52) dJ5_init_a7421_34 (fun S53 H locs eS53 hW hS => ?_)
    replace hf := ltE hf S53 eS53
    refine lv_aload_n hx hb dJ5_init_a7421_37 rfl (lv_at hl 2 rfl) ?_
    refine lv_iload hx hb dJ5_init_a7421_38 (lv_at hl 0 rfl) ?_
    refine lv_if_ne (tgt := 49) hx hb dJ5_init_a7421_40 (by decide) (fun c54 => ?_) (fun c54 => ?_)
    · replace hf := ifT c54 hf
      refine lv_iload_n hx hb dJ5_init_a7421_49 rfl (lv_at hl 1 rfl) ?_
      cases hf
    · replace hf := ifF (fun q => q c54) hf
      refine lv_iload_n hx hb dJ5_init_a7421_43 rfl (lv_at hl 1 rfl) ?_
      replace hf := ckE hf
      obtain ⟨h61, hf⟩ := hf
      refine x_newaB (len := Int32.toNatClampNeg s0) hC w_2 hW hS hA h61.1 rfl (by omega) (Nat.le_of_ble_eq_true rfl) (by show 0 + _ ≤ 1088; omega) dJ5_init_a7421_44 (fun q55 ad56 K57 S58 H eS58 hag60 eqq55 ekq55 hW hS => ?_)
      replace hf := ltE hf S58 eS58
      obtain ⟨n59, en59⟩ : ∃ z, z = nL + 1 := ⟨_, rfl⟩
      rw [← en59] at hag60 hW
      replace hf := ltE hf n59 en59
      have tq55 : nL < n59 ∧ K57 nL = 11 := ⟨by omega, ekq55⟩
      have g62 := hag60.t tv0
      have g63 := hag60.e tv0 rfl
      have g64 := hag60.s tv1
      have g65 := hag60.se (g := g) tv1 rfl
      have ag66 := (hagL).tr hag60
      refine W.widen (k := 1) (n := 64) (by omega) (by omega) ?_
      refine lv_goto (tgt := 53) hx hb dJ5_init_a7421_46 (by decide) ?_
      refine W.eq (g2 := F0 m 53 ls [.ref (ad56 nL), .ref (ad56 v0)]) (by rw [eqq55, g63]) ?_
      exact L53 ad56 K57 n59 ag66 S58 v0 v1 nL v0 g62 g64 tq55 g62 _ _ _ hf hW hS (lv_sub hl [2, 3] (by rw [g63, g65] <;> rfl))
  unfold f_J5_init_a7421 at hf
  refine lv_aload_n hx hb dJ5_init_a7421_0 rfl (lv_at hl 0 rfl) ?_
  refine W.objInit hx hb hown w_3 w_4 w_5 rfl (by rw [hml]; exact hl.1) rfl dJ5_init_a7421_1 (Nat.le_of_ble_eq_true rfl) (Nat.le_of_ble_eq_true rfl) ?_
  refine W.eq (g2 := F0 m 4 ls []) rfl ?_
  refine lv_aload_n hx hb dJ5_init_a7421_4 rfl (lv_at hl 1 rfl) ?_
  replace hf := obE hf
  obtain ⟨z67, hz67, hf⟩ := hf
  obtain ⟨r69, S68⟩ := z67
  replace hf := ltE (ltE hf r69 rfl) S68 rfl
  refine x_callVs (As := []) (rest := []) (o := (some (.int r69))) (S1 := S68) hC hl.1 hW hS hGs hA tp1 rfl (c_J0_length_8abf5 l g ad n K s.heap.size F S0 p1 tp1 r69 S68 hz67) (cwV 0 hts gJ5_init_a7421_J0_length_8abf5 rfl rfl rfl (by decide +kernel) ⟨Nat.le_of_ble_eq_true rfl, Nat.le_of_ble_eq_true rfl⟩) rfl rfl (Nat.le_of_ble_eq_true rfl) dJ5_init_a7421_5 ⟨Nat.le_of_ble_eq_true rfl, Nat.le_of_ble_eq_true rfl⟩ (fun H locs hPz67 hW hS => ?_)
  refine W.eq (g2 := F0 m 8 ls [.int r69]) rfl ?_
  refine lv_istore_n (lv' := [(2, .int r69), (0, .ref (ad p0)), (1, .ref ((sad g ad p1)))]) hx hb dJ5_init_a7421_8 rfl hl (by decide) rfl (fun ls hl => ?_)
  refine lv_iload_n hx hb dJ5_init_a7421_9 rfl (lv_at hl 0 rfl) ?_
  refine lv_ldc (v := 2147483631) hx hb hown w_6 dJ5_init_a7421_10 ?_
  refine lv_icmp_ge (tgt := 22) hx hb dJ5_init_a7421_12 (by decide) (fun c71 => ?_) (fun c71 => ?_)
  · replace hf := ifT c71 hf
    refine lv_ldc (v := 2147483647) hx hb hown w_7 dJ5_init_a7421_22 ?_
    exact L24 ad K n Ag.rf S68 p0 p1 2147483647 tp0 tp1 _ _ _ hf hW hS (lv_sub hl [1, 2] rfl)
  · replace hf := ifF c71 hf
    refine lv_iload_n hx hb dJ5_init_a7421_15 rfl (lv_at hl 0 rfl) ?_
    refine lv_bipush (v := 16) hx hb dJ5_init_a7421_16 (by decide) ?_
    refine lv_iadd hx hb dJ5_init_a7421_18 ?_
    refine lv_goto (tgt := 24) hx hb dJ5_init_a7421_19 (by decide) ?_
    exact L24 ad K n Ag.rf S68 p0 p1 (r69 + 16) tp0 tp1 _ _ _ hf hW hS (lv_sub hl [1, 2] rfl)
set_option maxHeartbeats 4000000 in
set_option maxRecDepth 100000 in
theorem c_J4_init_a7421 (l : Launch) (g : GP) (ad : Nat → Nat) (n : Nat) (K : Nat → Nat) (sz F : Nat) (S0 : St) (p0 : Nat) (p1 : Nat) (tp0 : p0 < n ∧ K p0 = 10) (tp1 : tS 18 n K p1) (S9 : St) (n9 : Nat) (hf : f_J4_init_a7421 F S0 n p0 p1 = some (S9, n9)) : Met l yJ4_init_a7421 wsJ4_init_a7421 { frames := 8, cells := 2, slots := 1088, locals := 179 } (va_Pc [.ref (ad p0), .ref ((sad g ad p1))] (PB g ad n K S0 sz)) (QA ad K n (fun _ => none) g n9 S9 (dA ad n sz) (fun _ => True)) 2 1088 (dA ad n sz) := by
  refine Met.ofW (cc := cJ4_init_a7421) (maxL := 2) (ret := none) (by decide) rfl ?_
  intro p e s m args below meth c s₁ B hml hv
  obtain ⟨rfl, hsz, hW, hK, hGs⟩ := x_start hv
  subst hsz
  have hx := B.exec
  have hb := B.bytes
  have hr := B.returns
  have hts := atoms_spec (ws := wsJ4_init_a7421) B.pre
  have hown : s.vm.findClass RJ4 = some m.cls := findClass_of_methodNamed B.named
  have hlk := B.notSynchronized
  have hinI : meth.name = "<init>" := (name_of_methodNamed B.named B.method).1
  have hC : Cx g p s m _ c cJ4_init_a7421 RJ4 wsJ4_init_a7421 2 := ⟨hx, hb, hml, hown, hts, hK⟩
  have hA : ∀ q : Nat, s.heap.size ≤ q → dA ad n s.heap.size q := fun q h => Or.inr h
  have hS : va_S (dA ad n s.heap.size) s.heap s.heap [] := va_S.rf
  have hl := lv_entry ([.ref (ad p0), .ref ((sad g ad p1))]) (n := 2) (Nat.le_of_ble_eq_true rfl)
  rw [lg_entry_eq]
  generalize (lg_sl ([.ref (ad p0), .ref ((sad g ad p1))]) ++ List.replicate (2 - (lg_sl ([.ref (ad p0), .ref ((sad g ad p1))])).length) Slot.unset).toArray = ls at hl ⊢
  have hl : lv_has ls 2 [(0, .ref (ad p0)), (1, .ref ((sad g ad p1)))] := hl
  have w_0 := hts (.methodLink RJ4 7 yJ5_init_a7421) (by decide +kernel)
  have w_1 := hts (.initialized RJ5) (by decide +kernel)
  have w_2 := hts (.instanceMethod yJ5_init_a7421) (by decide +kernel)
  have hGE := hGs.2.2.2.1
  have hGM := hGs.2.2.2.2
  unfold f_J4_init_a7421 at hf
  refine lv_aload_n hx hb dJ4_init_a7421_0 rfl (lv_at hl 0 rfl) ?_
  refine lv_aload_n hx hb dJ4_init_a7421_1 rfl (lv_at hl 1 rfl) ?_
  replace hf := obE hf
  obtain ⟨z1, hz1, hf⟩ := hf
  obtain ⟨S2, n4⟩ := z1
  replace hf := ltE (ltE hf S2 rfl) n4 rfl
  refine x_acallI (As := [.ref ((sad g ad p1))]) (rest := []) (S1 := S2) (n1 := n4) (o := (fun _ => none)) (P := (fun _ => True)) hC hl.1 hW hS hGs hA (c_J5_init_a7421 l g ad n K s.heap.size F S0 p0 p1 tp0 tp1 S2 n4 hz1) (cwI 1 hts gJ4_init_a7421_J5_init_a7421 rfl rfl rfl w_1 w_0 w_2 rfl (by decide +kernel) ⟨Nat.le_of_ble_eq_true rfl, Nat.le_of_ble_eq_true rfl⟩) rfl rfl (Nat.le_of_ble_eq_true rfl) dJ4_init_a7421_2 ⟨(Nat.le_of_ble_eq_true rfl), (Nat.le_of_ble_eq_true rfl)⟩ (fun ad5 K6 H locs hag7 hPz1 hW hS => ?_)
  have g8 := hag7.t tp0
  have g9 := hag7.e tp0 rfl
  have g10 := hag7.s tp1
  have g11 := hag7.se (g := g) tp1 rfl
  have ag12 := (Ag.rf).tr hag7
  refine W.widen (k := 2) (n := 1088) (by omega) (by omega) ?_
  refine W.eq (g2 := F0 m 5 ls []) rfl ?_
  obtain ⟨e1, e2⟩ := so2 hf
  subst e1
  subst e2
  exact W.vret hx hb hr (fun t ht hWm => ⟨⟨ad5, K6, rfl, ag12, trivial, by rw [ht]; exact hW⟩, hS.F ht⟩) hS.2.2 dJ4_init_a7421_5 hlk
set_option maxHeartbeats 4000000 in
set_option maxRecDepth 100000 in
theorem c_J6_stringSize_0f7a4 (l : Launch) (g : GP) (ad : Nat → Nat) (n : Nat) (K : Nat → Nat) (sz F : Nat) (S0 : St) (p0 : Int32) (r9 : Int32) (S9 : St) (hf : f_J6_stringSize_0f7a4 F S0 p0 = some (r9, S9)) : Met l yJ6_stringSize_0f7a4 wsJ6_stringSize_0f7a4 { frames := 0, cells := 0, slots := 0, locals := 0 } (va_Pc [.int p0] (PB g ad n K S0 sz)) (QR (some (.int r9)) (QB g ad n K S9 (dA ad n sz) (True)) (dA ad n sz)) 0 0 (dA ad n sz) := by
  refine Met.ofW (cc := cJ6_stringSize_0f7a4) (maxL := 4) (ret := (some .int)) (by decide) rfl ?_
  intro p e s m args below meth c s₁ B hml hv
  obtain ⟨rfl, hsz, hW, hK, hGs⟩ := x_start hv
  subst hsz
  have hx := B.exec
  have hb := B.bytes
  have hr := B.returns
  have hts := atoms_spec (ws := wsJ6_stringSize_0f7a4) B.pre
  have hown : s.vm.findClass RJ6 = some m.cls := findClass_of_methodNamed B.named
  have hlk := B.notSynchronized
  have hC : Cx g p s m _ c cJ6_stringSize_0f7a4 RJ6 wsJ6_stringSize_0f7a4 4 := ⟨hx, hb, hml, hown, hts, hK⟩
  have hA : ∀ q : Nat, s.heap.size ≤ q → dA ad n s.heap.size q := fun q h => Or.inr h
  have hS : va_S (dA ad n s.heap.size) s.heap s.heap [] := va_S.rf
  have hl := lv_entry ([.int p0]) (n := 4) (Nat.le_of_ble_eq_true rfl)
  rw [lg_entry_eq]
  generalize (lg_sl ([.int p0]) ++ List.replicate (4 - (lg_sl ([.int p0])).length) Slot.unset).toArray = ls at hl ⊢
  have hl : lv_has ls 4 [(0, .int p0)] := hl
  have hGE := hGs.2.2.2.1
  have hGM := hGs.2.2.2.2
  have L16 : ∀ (fu16 : Nat) (S0 : St) (v0 : Int32) (v1 : Int32) (v2 : Int32) (v3 : Int32)  (H : Heap) (locs : List Loc) (ls : Array Slot), f_J6_stringSize_0f7a4_L16 F fu16 S0 v0 v1 v2 v3 = some (r9, S9) → Wb g ad n K S0 (dA ad n s.heap.size) H → va_S (dA ad n s.heap.size) s.heap H locs → lv_has ls 4 [(0, .int v0), (1, .int v1), (2, .int v2), (3, .int v3)] → W p l e (headSpec wsJ6_stringSize_0f7a4 { frames := 0, cells := 0, slots := 0, locals := 0 }).room s m (List.toArray [.int p0]) below meth c H locs 0 0 (MQ below (QR (some (.int r9)) (QB g ad n K S9 (dA ad n s.heap.size) (True)) (dA ad n s.heap.size)) (List.toArray [.int p0]) s 0 0 (dA ad n s.heap.size)) (F0 m 16 ls []) := by
    intro fu16
    induction fu16 with
    | zero =>
      intro S0 v0 v1 v2 v3  H locs ls hf
      cases hf
    | succ fu16 ih16 =>
      intro S0 v0 v1 v2 v3  H locs ls hf hW hS hl
      unfold f_J6_stringSize_0f7a4_L16 at hf
      refine lv_iload_n hx hb dJ6_stringSize_0f7a4_16 rfl (lv_at hl 3 rfl) ?_
      refine lv_bipush (v := 10) hx hb dJ6_stringSize_0f7a4_17 (by decide) ?_
      refine lv_icmp_ge (tgt := 42) hx hb dJ6_stringSize_0f7a4_19 (by decide) (fun c5 => ?_) (fun c5 => ?_)
      · replace hf := ifT c5 hf
        refine lv_bipush (v := 10) hx hb dJ6_stringSize_0f7a4_42 (by decide) ?_
        refine lv_iload_n hx hb dJ6_stringSize_0f7a4_44 rfl (lv_at hl 1 rfl) ?_
        refine lv_iadd hx hb dJ6_stringSize_0f7a4_45 ?_
        obtain ⟨e1, e2⟩ := so2 hf
        subst e1
        subst e2
        exact W.iret (v := 10 + v1) hx hb hr (fun t ht hWm => ⟨⟨rfl, by unfold QB; rw [ht]; exact ⟨hW, trivial⟩⟩, hS.F ht⟩) hS.2.2 dJ6_stringSize_0f7a4_46 hlk
      · replace hf := ifF c5 hf
        refine lv_iload_n hx hb dJ6_stringSize_0f7a4_22 rfl (lv_at hl 0 rfl) ?_
        refine lv_iload_n hx hb dJ6_stringSize_0f7a4_23 rfl (lv_at hl 2 rfl) ?_
        refine lv_icmp_le (tgt := 31) hx hb dJ6_stringSize_0f7a4_24 (by decide) (fun c6 => ?_) (fun c6 => ?_)
        · replace hf := ifT c6 hf
          refine lv_bipush (v := 10) hx hb dJ6_stringSize_0f7a4_31 (by decide) ?_
          refine lv_iload_n hx hb dJ6_stringSize_0f7a4_33 rfl (lv_at hl 2 rfl) ?_
          refine lv_imul hx hb dJ6_stringSize_0f7a4_34 ?_
          refine lv_topi (fun x7 ex7 => ?_)
          replace hf := ltE hf x7 ex7
          refine lv_istore_n (lv' := [(2, .int x7), (0, .int v0), (1, .int v1), (3, .int v3)]) hx hb dJ6_stringSize_0f7a4_35 rfl hl (by decide) rfl (fun ls hl => ?_)
          obtain ⟨x8, ex8⟩ : ∃ z : Int32, z = v3 + 1 := ⟨_, rfl⟩
          replace hf := ltE hf x8 ex8
          refine lv_iinc (v := x8) (lv' := [(3, .int x8), (2, .int x7), (0, .int v0), (1, .int v1)]) hx hb dJ6_stringSize_0f7a4_36 hl (k := 3) rfl (by rw [ex8]; rfl) (by decide) rfl (fun ls hl => ?_)
          refine lv_goto (tgt := 16) hx hb dJ6_stringSize_0f7a4_39 (by decide) ?_
          exact ih16 S0 v0 v1 x7 x8 _ _ _ hf hW hS (lv_sub hl [2, 3, 1, 0] rfl)
        · replace hf := ifF c6 hf
          refine lv_iload_n hx hb dJ6_stringSize_0f7a4_27 rfl (lv_at hl 3 rfl) ?_
          refine lv_iload_n hx hb dJ6_stringSize_0f7a4_28 rfl (lv_at hl 1 rfl) ?_
          refine lv_iadd hx hb dJ6_stringSize_0f7a4_29 ?_
          obtain ⟨e1, e2⟩ := so2 hf
          subst e1
          subst e2
          exact W.iret (v := v3 + v1) hx hb hr (fun t ht hWm => ⟨⟨rfl, by unfold QB; rw [ht]; exact ⟨hW, trivial⟩⟩, hS.F ht⟩) hS.2.2 dJ6_stringSize_0f7a4_30 hlk
  have L11 : ∀ (S0 : St) (v0 : Int32) (v1 : Int32)  (H : Heap) (locs : List Loc) (ls : Array Slot), f_J6_stringSize_0f7a4_L11 F S0 v0 v1 = some (r9, S9) → Wb g ad n K S0 (dA ad n s.heap.size) H → va_S (dA ad n s.heap.size) s.heap H locs → lv_has ls 4 [(0, .int v0), (1, .int v1)] → W p l e (headSpec wsJ6_stringSize_0f7a4 { frames := 0, cells := 0, slots := 0, locals := 0 }).room s m (List.toArray [.int p0]) below meth c H locs 0 0 (MQ below (QR (some (.int r9)) (QB g ad n K S9 (dA ad n s.heap.size) (True)) (dA ad n s.heap.size)) (List.toArray [.int p0]) s 0 0 (dA ad n s.heap.size)) (F0 m 11 ls []) := by
    intro S0 v0 v1  H locs ls hf hW hS hl
    unfold f_J6_stringSize_0f7a4_L11 at hf
    refine lv_bipush (v := -10) hx hb dJ6_stringSize_0f7a4_11 (by decide) ?_
    refine lv_topi (fun x10 ex10 => ?_)
    replace hf := ltE hf x10 ex10
    refine lv_istore_n (lv' := [(2, .int x10), (0, .int v0), (1, .int v1)]) hx hb dJ6_stringSize_0f7a4_13 rfl hl (by decide) rfl (fun ls hl => ?_)
    refine lv_iconst (v := 1) hx hb dJ6_stringSize_0f7a4_14 (by decide) ?_
    refine lv_istore_n (lv' := [(3, .int 1), (2, .int x10), (0, .int v0), (1, .int v1)]) hx hb dJ6_stringSize_0f7a4_15 rfl hl (by decide) rfl (fun ls hl => ?_)
    exact L16 F S0 v0 v1 x10 1 _ _ _ hf hW hS (lv_sub hl [2, 3, 1, 0] rfl)
  unfold f_J6_stringSize_0f7a4 at hf
  refine lv_iconst (v := 1) hx hb dJ6_stringSize_0f7a4_0 (by decide) ?_
  refine lv_istore_n (lv' := [(1, .int 1), (0, .int p0)]) hx hb dJ6_stringSize_0f7a4_1 rfl hl (by decide) rfl (fun ls hl => ?_)
  refine lv_iload_n hx hb dJ6_stringSize_0f7a4_2 rfl (lv_at hl 1 rfl) ?_
  refine lv_if_lt (tgt := 11) hx hb dJ6_stringSize_0f7a4_3 (by decide) (fun c11 => ?_) (fun c11 => ?_)
  · replace hf := ifT c11 hf
    exact L11 S0 p0 1 _ _ _ hf hW hS (lv_sub hl [1, 0] rfl)
  · replace hf := ifF c11 hf
    refine lv_iconst (v := 0) hx hb dJ6_stringSize_0f7a4_6 (by decide) ?_
    refine lv_istore_n (lv' := [(1, .int 0), (0, .int p0)]) hx hb dJ6_stringSize_0f7a4_7 rfl hl (by decide) rfl (fun ls hl => ?_)
    refine lv_iload_n hx hb dJ6_stringSize_0f7a4_8 rfl (lv_at hl 1 rfl) ?_
    refine lv_ineg hx hb dJ6_stringSize_0f7a4_9 ?_
    refine lv_topi (fun x12 ex12 => ?_)
    replace hf := ltE hf x12 ex12
    refine lv_istore_n (lv' := [(0, .int x12), (1, .int 0)]) hx hb dJ6_stringSize_0f7a4_10 rfl hl (by decide) rfl (fun ls hl => ?_)
    exact L11 S0 x12 0 _ _ _ hf hW hS (lv_sub hl [0, 1] rfl)
set_option maxHeartbeats 4000000 in
set_option maxRecDepth 100000 in
theorem c_J6_getChars_ba4f3 (l : Launch) (g : GP) (ad : Nat → Nat) (n : Nat) (K : Nat → Nat) (sz F : Nat) (S0 : St) (p0 : Int32) (p1 : Int32) (p2 : Nat) (tp2 : p2 < n ∧ K p2 = 11) (r9 : Int32) (S9 : St) (hf : f_J6_getChars_ba4f3 F S0 p0 p1 p2 = some (r9, S9)) : Met l yJ6_getChars_ba4f3 wsJ6_getChars_ba4f3 { frames := 0, cells := 0, slots := 0, locals := 0 } (va_Pc [.int p0, .int p1, .ref (ad p2)] (PB g ad n K S0 sz)) (QR (some (.int r9)) (QB g ad n K S9 (dA ad n sz) (True)) (dA ad n sz)) 0 0 (dA ad n sz) := by
  refine Met.ofW (cc := cJ6_getChars_ba4f3) (maxL := 7) (ret := (some .int)) (by decide) rfl ?_
  intro p e s m args below meth c s₁ B hml hv
  obtain ⟨rfl, hsz, hW, hK, hGs⟩ := x_start hv
  subst hsz
  have hx := B.exec
  have hb := B.bytes
  have hr := B.returns
  have hts := atoms_spec (ws := wsJ6_getChars_ba4f3) B.pre
  have hown : s.vm.findClass RJ6 = some m.cls := findClass_of_methodNamed B.named
  have hlk := B.notSynchronized
  have hC : Cx g p s m _ c cJ6_getChars_ba4f3 RJ6 wsJ6_getChars_ba4f3 7 := ⟨hx, hb, hml, hown, hts, hK⟩
  have hA : ∀ q : Nat, s.heap.size ≤ q → dA ad n s.heap.size q := fun q h => Or.inr h
  have hS : va_S (dA ad n s.heap.size) s.heap s.heap [] := va_S.rf
  have hl := lv_entry ([.int p0, .int p1, .ref (ad p2)]) (n := 7) (Nat.le_of_ble_eq_true rfl)
  rw [lg_entry_eq]
  generalize (lg_sl ([.int p0, .int p1, .ref (ad p2)]) ++ List.replicate (7 - (lg_sl ([.int p0, .int p1, .ref (ad p2)])).length) Slot.unset).toArray = ls at hl ⊢
  have hl : lv_has ls 7 [(0, .int p0), (1, .int p1), (2, .ref (ad p2))] := hl
  have w_0 := hts (.fieldLink RJ6 83 "java/lang/Integer" "DigitOnes" "[B") (by decide +kernel)
  have w_1 := hts (.fieldLink RJ6 87 "java/lang/Integer" "DigitTens" "[B") (by decide +kernel)
  have hGE := hGs.2.2.2.1
  have hGM := hGs.2.2.2.2
  have L104 : ∀ (S0 : St) (v2 : Nat) (v5 : Int32) (v6 : Int32) (tv2 : v2 < n ∧ K v2 = 11) (H : Heap) (locs : List Loc) (ls : Array Slot), f_J6_getChars_ba4f3_L104 F S0 v2 v5 v6 = some (r9, S9) → Wb g ad n K S0 (dA ad n s.heap.size) H → va_S (dA ad n s.heap.size) s.heap H locs → lv_has ls 7 [(2, .ref (ad v2)), (5, .int v5), (6, .int v6)] → W p l e (headSpec wsJ6_getChars_ba4f3 { frames := 0, cells := 0, slots := 0, locals := 0 }).room s m (List.toArray [.int p0, .int p1, .ref (ad p2)]) below meth c H locs 0 0 (MQ below (QR (some (.int r9)) (QB g ad n K S9 (dA ad n s.heap.size) (True)) (dA ad n s.heap.size)) (List.toArray [.int p0, .int p1, .ref (ad p2)]) s 0 0 (dA ad n s.heap.size)) (F0 m 104 ls []) := by
    intro S0 v2 v5 v6 tv2 H locs ls hf hW hS hl
    unfold f_J6_getChars_ba4f3_L104 at hf
    refine lv_iload hx hb dJ6_getChars_ba4f3_104 (lv_at hl 2 rfl) ?_
    refine lv_if_eq (tgt := 118) hx hb dJ6_getChars_ba4f3_106 (by decide) (fun c5 => ?_) (fun c5 => ?_)
    · replace hf := ifT c5 hf
      refine lv_iload hx hb dJ6_getChars_ba4f3_118 (lv_at hl 1 rfl) ?_
      obtain ⟨e1, e2⟩ := so2 hf
      subst e1
      subst e2
      exact W.iret (v := v5) hx hb hr (fun t ht hWm => ⟨⟨rfl, by unfold QB; rw [ht]; exact ⟨hW, trivial⟩⟩, hS.F ht⟩) hS.2.2 dJ6_getChars_ba4f3_120 hlk
    · replace hf := ifF c5 hf
      refine lv_aload_n hx hb dJ6_getChars_ba4f3_109 rfl (lv_at hl 0 rfl) ?_
      obtain ⟨x6, ex6⟩ : ∃ z : Int32, z = v5 + (-1) := ⟨_, rfl⟩
      replace hf := ltE hf x6 ex6
      refine lv_iinc (v := x6) (lv' := [(5, .int x6), (2, .ref (ad v2)), (6, .int v6)]) hx hb dJ6_getChars_ba4f3_110 hl (k := 1) rfl (by rw [ex6]; rfl) (by decide) rfl (fun ls hl => ?_)
      refine lv_iload hx hb dJ6_getChars_ba4f3_113 (lv_at hl 0 rfl) ?_
      refine lv_bipush (v := 45) hx hb dJ6_getChars_ba4f3_115 (by decide) ?_
      replace hf := ckiE hf
      obtain ⟨h7, hf⟩ := hf
      refine x_bast hC hW hS tv2 rfl rfl h7 dJ6_getChars_ba4f3_117 (fun S8 H locs eS8 hW hS => ?_)
      replace hf := ltE hf S8 eS8
      refine lv_iload hx hb dJ6_getChars_ba4f3_118 (lv_at hl 0 rfl) ?_
      obtain ⟨e1, e2⟩ := so2 hf
      subst e1
      subst e2
      exact W.iret (v := x6) hx hb hr (fun t ht hWm => ⟨⟨rfl, by unfold QB; rw [ht]; exact ⟨hW, trivial⟩⟩, hS.F ht⟩) hS.2.2 dJ6_getChars_ba4f3_120 hlk
  have L22 : ∀ (fu22 : Nat) (S0 : St) (v0 : Int32) (v2 : Nat) (v5 : Int32) (v6 : Int32) (tv2 : v2 < n ∧ K v2 = 11) (H : Heap) (locs : List Loc) (ls : Array Slot), f_J6_getChars_ba4f3_L22 F fu22 S0 v0 v2 v5 v6 = some (r9, S9) → Wb g ad n K S0 (dA ad n s.heap.size) H → va_S (dA ad n s.heap.size) s.heap H locs → lv_has ls 7 [(0, .int v0), (2, .ref (ad v2)), (5, .int v5), (6, .int v6)] → W p l e (headSpec wsJ6_getChars_ba4f3 { frames := 0, cells := 0, slots := 0, locals := 0 }).room s m (List.toArray [.int p0, .int p1, .ref (ad p2)]) below meth c H locs 0 0 (MQ below (QR (some (.int r9)) (QB g ad n K S9 (dA ad n s.heap.size) (True)) (dA ad n s.heap.size)) (List.toArray [.int p0, .int p1, .ref (ad p2)]) s 0 0 (dA ad n s.heap.size)) (F0 m 22 ls []) := by
    intro fu22
    induction fu22 with
    | zero =>
      intro S0 v0 v2 v5 v6 tv2 H locs ls hf
      cases hf
    | succ fu22 ih22 =>
      intro S0 v0 v2 v5 v6 tv2 H locs ls hf hW hS hl
      unfold f_J6_getChars_ba4f3_L22 at hf
      refine lv_iload_n hx hb dJ6_getChars_ba4f3_22 rfl (lv_at hl 0 rfl) ?_
      refine lv_bipush (v := -100) hx hb dJ6_getChars_ba4f3_23 (by decide) ?_
      refine lv_icmp_gt (tgt := 72) hx hb dJ6_getChars_ba4f3_25 (by decide) (fun c29 => ?_) (fun c29 => ?_)
      · replace hf := ifT c29 hf
        refine lv_aload_n hx hb dJ6_getChars_ba4f3_72 rfl (lv_at hl 1 rfl) ?_
        obtain ⟨x30, ex30⟩ : ∃ z : Int32, z = v5 + (-1) := ⟨_, rfl⟩
        replace hf := ltE hf x30 ex30
        refine lv_iinc (v := x30) (lv' := [(5, .int x30), (0, .int v0), (2, .ref (ad v2)), (6, .int v6)]) hx hb dJ6_getChars_ba4f3_73 hl (k := 2) rfl (by rw [ex30]; rfl) (by decide) rfl (fun ls hl => ?_)
        refine lv_iload hx hb dJ6_getChars_ba4f3_76 (lv_at hl 0 rfl) ?_
        refine x_getsO hC hGM hS w_0 dJ6_getChars_ba4f3_78 ?_
        refine lv_iload_n hx hb dJ6_getChars_ba4f3_81 rfl (lv_at hl 1 rfl) ?_
        refine lv_ineg hx hb dJ6_getChars_ba4f3_82 ?_
        replace hf := ckiE hf
        obtain ⟨h31, hf⟩ := hf
        refine x_baldO hC hGM hS h31 dJ6_getChars_ba4f3_83 ?_
        replace hf := ckiE hf
        obtain ⟨h32, hf⟩ := hf
        refine x_bast hC hW hS tv2 rfl rfl h32 dJ6_getChars_ba4f3_84 (fun S33 H locs eS33 hW hS => ?_)
        replace hf := ltE hf S33 eS33
        refine lv_iload_n hx hb dJ6_getChars_ba4f3_85 rfl (lv_at hl 1 rfl) ?_
        refine lv_bipush (v := -9) hx hb dJ6_getChars_ba4f3_86 (by decide) ?_
        refine lv_icmp_ge (tgt := 104) hx hb dJ6_getChars_ba4f3_88 (by decide) (fun c34 => ?_) (fun c34 => ?_)
        · replace hf := ifT c34 hf
          exact L104 S33 v2 x30 v6 tv2 _ _ _ hf hW hS (lv_sub hl [2, 0, 3] rfl)
        · replace hf := ifF c34 hf
          refine lv_aload_n hx hb dJ6_getChars_ba4f3_91 rfl (lv_at hl 2 rfl) ?_
          obtain ⟨x35, ex35⟩ : ∃ z : Int32, z = x30 + (-1) := ⟨_, rfl⟩
          replace hf := ltE hf x35 ex35
          refine lv_iinc (v := x35) (lv' := [(5, .int x35), (0, .int v0), (2, .ref (ad v2)), (6, .int v6)]) hx hb dJ6_getChars_ba4f3_92 hl (k := 0) rfl (by rw [ex35]; rfl) (by decide) rfl (fun ls hl => ?_)
          refine lv_iload hx hb dJ6_getChars_ba4f3_95 (lv_at hl 0 rfl) ?_
          refine x_getsT hC hGM hS w_1 dJ6_getChars_ba4f3_97 ?_
          refine lv_iload_n hx hb dJ6_getChars_ba4f3_100 rfl (lv_at hl 1 rfl) ?_
          refine lv_ineg hx hb dJ6_getChars_ba4f3_101 ?_
          replace hf := ckiE hf
          obtain ⟨h36, hf⟩ := hf
          refine x_baldT hC hGM hS h36 dJ6_getChars_ba4f3_102 ?_
          replace hf := ckiE hf
          obtain ⟨h37, hf⟩ := hf
          refine x_bast hC hW hS tv2 rfl rfl h37 dJ6_getChars_ba4f3_103 (fun S38 H locs eS38 hW hS => ?_)
          replace hf := ltE hf S38 eS38
          exact L104 S38 v2 x35 v6 tv2 _ _ _ hf hW hS (lv_sub hl [2, 0, 3] rfl)
      · replace hf := ifF c29 hf
        refine lv_iload_n hx hb dJ6_getChars_ba4f3_28 rfl (lv_at hl 0 rfl) ?_
        refine lv_bipush (v := 100) hx hb dJ6_getChars_ba4f3_29 (by decide) ?_
        refine lv_idiv hx hb dJ6_getChars_ba4f3_31 (by decide) ?_
        refine lv_topi (fun x39 ex39 => ?_)
        replace hf := ltE hf x39 ex39
        refine lv_istore_n (lv' := [(3, .int x39), (0, .int v0), (2, .ref (ad v2)), (5, .int v5), (6, .int v6)]) hx hb dJ6_getChars_ba4f3_32 rfl hl (by decide) rfl (fun ls hl => ?_)
        refine lv_iload_n hx hb dJ6_getChars_ba4f3_33 rfl (lv_at hl 0 rfl) ?_
        refine lv_bipush (v := 100) hx hb dJ6_getChars_ba4f3_34 (by decide) ?_
        refine lv_imul hx hb dJ6_getChars_ba4f3_36 ?_
        refine lv_iload_n hx hb dJ6_getChars_ba4f3_37 rfl (lv_at hl 1 rfl) ?_
        refine lv_isub hx hb dJ6_getChars_ba4f3_38 ?_
        refine lv_topi (fun x40 ex40 => ?_)
        replace hf := ltE hf x40 ex40
        refine lv_istore (lv' := [(4, .int x40), (3, .int x39), (0, .int v0), (2, .ref (ad v2)), (5, .int v5), (6, .int v6)]) hx hb dJ6_getChars_ba4f3_39 hl (by decide) rfl (fun ls hl => ?_)
        refine lv_iload_n hx hb dJ6_getChars_ba4f3_41 rfl (lv_at hl 1 rfl) ?_
        refine lv_istore_n (lv' := [(0, .int x39), (4, .int x40), (3, .int x39), (2, .ref (ad v2)), (5, .int v5), (6, .int v6)]) hx hb dJ6_getChars_ba4f3_42 rfl hl (by decide) rfl (fun ls hl => ?_)
        refine lv_aload_n hx hb dJ6_getChars_ba4f3_43 rfl (lv_at hl 3 rfl) ?_
        obtain ⟨x41, ex41⟩ : ∃ z : Int32, z = v5 + (-1) := ⟨_, rfl⟩
        replace hf := ltE hf x41 ex41
        refine lv_iinc (v := x41) (lv' := [(5, .int x41), (0, .int x39), (4, .int x40), (3, .int x39), (2, .ref (ad v2)), (6, .int v6)]) hx hb dJ6_getChars_ba4f3_44 hl (k := 4) rfl (by rw [ex41]; rfl) (by decide) rfl (fun ls hl => ?_)
        refine lv_iload hx hb dJ6_getChars_ba4f3_47 (lv_at hl 0 rfl) ?_
        refine x_getsO hC hGM hS w_0 dJ6_getChars_ba4f3_49 ?_
        refine lv_iload hx hb dJ6_getChars_ba4f3_52 (lv_at hl 2 rfl) ?_
        replace hf := ckiE hf
        obtain ⟨h42, hf⟩ := hf
        refine x_baldO hC hGM hS h42 dJ6_getChars_ba4f3_54 ?_
        replace hf := ckiE hf
        obtain ⟨h43, hf⟩ := hf
        refine x_bast hC hW hS tv2 rfl rfl h43 dJ6_getChars_ba4f3_55 (fun S44 H locs eS44 hW hS => ?_)
        replace hf := ltE hf S44 eS44
        refine lv_aload_n hx hb dJ6_getChars_ba4f3_56 rfl (lv_at hl 4 rfl) ?_
        obtain ⟨x45, ex45⟩ : ∃ z : Int32, z = x41 + (-1) := ⟨_, rfl⟩
        replace hf := ltE hf x45 ex45
        refine lv_iinc (v := x45) (lv' := [(5, .int x45), (0, .int x39), (4, .int x40), (3, .int x39), (2, .ref (ad v2)), (6, .int v6)]) hx hb dJ6_getChars_ba4f3_57 hl (k := 0) rfl (by rw [ex45]; rfl) (by decide) rfl (fun ls hl => ?_)
        refine lv_iload hx hb dJ6_getChars_ba4f3_60 (lv_at hl 0 rfl) ?_
        refine x_getsT hC hGM hS w_1 dJ6_getChars_ba4f3_62 ?_
        refine lv_iload hx hb dJ6_getChars_ba4f3_65 (lv_at hl 2 rfl) ?_
        replace hf := ckiE hf
        obtain ⟨h46, hf⟩ := hf
        refine x_baldT hC hGM hS h46 dJ6_getChars_ba4f3_67 ?_
        replace hf := ckiE hf
        obtain ⟨h47, hf⟩ := hf
        refine x_bast hC hW hS tv2 rfl rfl h47 dJ6_getChars_ba4f3_68 (fun S48 H locs eS48 hW hS => ?_)
        replace hf := ltE hf S48 eS48
        refine lv_goto (tgt := 22) hx hb dJ6_getChars_ba4f3_69 (by decide) ?_
        exact ih22 S48 x39 v2 x45 v6 tv2 _ _ _ hf hW hS (lv_sub hl [1, 4, 0, 5] rfl)
  have L12 : ∀ (S0 : St) (v0 : Int32) (v2 : Nat) (v5 : Int32) (s0 : Int32) (tv2 : v2 < n ∧ K v2 = 11) (H : Heap) (locs : List Loc) (ls : Array Slot), f_J6_getChars_ba4f3_L12 F S0 v0 v2 v5 s0 = some (r9, S9) → Wb g ad n K S0 (dA ad n s.heap.size) H → va_S (dA ad n s.heap.size) s.heap H locs → lv_has ls 7 [(0, .int v0), (2, .ref (ad v2)), (5, .int v5)] → W p l e (headSpec wsJ6_getChars_ba4f3 { frames := 0, cells := 0, slots := 0, locals := 0 }).room s m (List.toArray [.int p0, .int p1, .ref (ad p2)]) below meth c H locs 0 0 (MQ below (QR (some (.int r9)) (QB g ad n K S9 (dA ad n s.heap.size) (True)) (dA ad n s.heap.size)) (List.toArray [.int p0, .int p1, .ref (ad p2)]) s 0 0 (dA ad n s.heap.size)) (F0 m 12 ls [.int s0]) := by
    intro S0 v0 v2 v5 s0 tv2 H locs ls hf hW hS hl
    unfold f_J6_getChars_ba4f3_L12 at hf
    refine lv_istore (lv' := [(6, .int s0), (0, .int v0), (2, .ref (ad v2)), (5, .int v5)]) hx hb dJ6_getChars_ba4f3_12 hl (by decide) rfl (fun ls hl => ?_)
    refine lv_iload hx hb dJ6_getChars_ba4f3_14 (lv_at hl 0 rfl) ?_
    refine lv_if_ne (tgt := 22) hx hb dJ6_getChars_ba4f3_16 (by decide) (fun c51 => ?_) (fun c51 => ?_)
    · replace hf := ifT c51 hf
      exact L22 F S0 v0 v2 v5 s0 tv2 _ _ _ hf hW hS (lv_sub hl [1, 2, 3, 0] rfl)
    · replace hf := ifF (fun q => q c51) hf
      refine lv_iload_n hx hb dJ6_getChars_ba4f3_19 rfl (lv_at hl 1 rfl) ?_
      refine lv_ineg hx hb dJ6_getChars_ba4f3_20 ?_
      refine lv_topi (fun x52 ex52 => ?_)
      replace hf := ltE hf x52 ex52
      refine lv_istore_n (lv' := [(0, .int x52), (6, .int s0), (2, .ref (ad v2)), (5, .int v5)]) hx hb dJ6_getChars_ba4f3_21 rfl hl (by decide) rfl (fun ls hl => ?_)
      exact L22 F S0 x52 v2 v5 s0 tv2 _ _ _ hf hW hS (lv_sub hl [0, 2, 3, 1] rfl)
  unfold f_J6_getChars_ba4f3 at hf
  refine lv_iload_n hx hb dJ6_getChars_ba4f3_0 rfl (lv_at hl 1 rfl) ?_
  refine lv_istore (lv' := [(5, .int p1), (0, .int p0), (1, .int p1), (2, .ref (ad p2))]) hx hb dJ6_getChars_ba4f3_1 hl (by decide) rfl (fun ls hl => ?_)
  refine lv_iload_n hx hb dJ6_getChars_ba4f3_3 rfl (lv_at hl 1 rfl) ?_
  refine lv_if_ge (tgt := 11) hx hb dJ6_getChars_ba4f3_4 (by decide) (fun c53 => ?_) (fun c53 => ?_)
  · replace hf := ifT c53 hf
    refine lv_iconst (v := 0) hx hb dJ6_getChars_ba4f3_11 (by decide) ?_
    exact L12 S0 p0 p2 p1 0 tp2 _ _ _ hf hW hS (lv_sub hl [1, 3, 0] rfl)
  · replace hf := ifF c53 hf
    refine lv_iconst (v := 1) hx hb dJ6_getChars_ba4f3_7 (by decide) ?_
    refine lv_goto (tgt := 12) hx hb dJ6_getChars_ba4f3_8 (by decide) ?_
    exact L12 S0 p0 p2 p1 1 tp2 _ _ _ hf hW hS (lv_sub hl [1, 3, 0] rfl)
set_option maxHeartbeats 4000000 in
set_option maxRecDepth 100000 in
theorem c_J5_append_c97b9 (l : Launch) (g : GP) (ad : Nat → Nat) (n : Nat) (K : Nat → Nat) (sz F : Nat) (S0 : St) (p0 : Nat) (p1 : Int32) (tp0 : p0 < n ∧ K p0 = 10) (r9 : Option Nat) (S9 : St) (n9 : Nat) (hf : f_J5_append_c97b9 F S0 n p0 p1 = some (r9, S9, n9)) : Met l yJ5_append_c97b9 wsJ5_append_c97b9 { frames := 4, cells := 1, slots := 1024, locals := 91 } (va_Pc [.ref (ad p0), .int p1] (PB g ad n K S0 sz)) (QA ad K n (fun a => some (va_re a r9)) g n9 S9 (dA ad n sz) (fun K9 => ∀ j, r9 = some j → j < n9 ∧ K9 j = 10)) 1 1024 (dA ad n sz) := by
  refine Met.ofW (cc := cJ5_append_c97b9) (maxL := 4) (ret := (some (.object "java/lang/AbstractStringBuilder"))) (by decide) rfl ?_
  intro p e s m args below meth c s₁ B hml hv
  obtain ⟨rfl, hsz, hW, hK, hGs⟩ := x_start hv
  subst hsz
  have hx := B.exec
  have hb := B.bytes
  have hr := B.returns
  have hts := atoms_spec (ws := wsJ5_append_c97b9) B.pre
  have hown : s.vm.findClass RJ5 = some m.cls := findClass_of_methodNamed B.named
  have hlk := B.notSynchronized
  have hC : Cx g p s m _ c cJ5_append_c97b9 RJ5 wsJ5_append_c97b9 4 := ⟨hx, hb, hml, hown, hts, hK⟩
  have hA : ∀ q : Nat, s.heap.size ≤ q → dA ad n s.heap.size q := fun q h => Or.inr h
  have hS : va_S (dA ad n s.heap.size) s.heap s.heap [] := va_S.rf
  have hl := lv_entry ([.ref (ad p0), .int p1]) (n := 4) (Nat.le_of_ble_eq_true rfl)
  rw [lg_entry_eq]
  generalize (lg_sl ([.ref (ad p0), .int p1]) ++ List.replicate (4 - (lg_sl ([.ref (ad p0), .int p1])).length) Slot.unset).toArray = ls at hl ⊢
  have hl : lv_has ls 4 [(0, .ref (ad p0)), (1, .int p1)] := hl
  have hinJ4 : ∀ w ∈ wsJ40, w ∈ wsJ5_append_c97b9 := by decide +kernel
  have w_0 := hts (.fieldLink RJ5 79 "java/lang/AbstractStringBuilder" "count" "I") (by decide +kernel)
  have w_1 := hts (.fieldLink RJ5 15 "java/lang/AbstractStringBuilder" "value" "[B") (by decide +kernel)
  have hGE := hGs.2.2.2.1
  have hGM := hGs.2.2.2.2
  have L48 : ∀ (adL KL : Nat → Nat) (nL : Nat) (hagL : Ag ad K n adL KL nL) (S0 : St) (v0 : Nat) (v3 : Int32) (tv0 : v0 < nL ∧ KL v0 = 10) (H : Heap) (locs : List Loc) (ls : Array Slot), f_J5_append_c97b9_L48 F S0 nL v0 v3 = some (r9, S9, n9) → Wb g adL nL KL S0 (dA ad n s.heap.size) H → va_S (dA ad n s.heap.size) s.heap H locs → lv_has ls 4 [(0, .ref (adL v0)), (3, .int v3)] → W p l e (headSpec wsJ5_append_c97b9 { frames := 4, cells := 1, slots := 1024, locals := 91 }).room s m (List.toArray [.ref (ad p0), .int p1]) below meth c H locs 1 1024 (MQ below (QA ad K n (fun a => some (va_re a r9)) g n9 S9 (dA ad n s.heap.size) (fun K9 => ∀ j, r9 = some j → j < n9 ∧ K9 j = 10)) (List.toArray [.ref (ad p0), .int p1]) s 1 1024 (dA ad n s.heap.size)) (F0 m 48 ls []) := by
    intro adL KL nL hagL S0 v0 v3 tv0 H locs ls hf hW hS hl
    unfold f_J5_append_c97b9_L48 at hf
    refine lv_aload_n hx hb dJ5_append_c97b9_48 rfl (lv_at hl 0 rfl) ?_
    refine lv_iload_n hx hb dJ5_append_c97b9_49 rfl (lv_at hl 1 rfl) ?_
    refine x_puti 1003 (ci := 10) (C := RJ4) (T := TJ4) (N := 4) (v := v3) (ty := .int) 3 hC hinJ4 tyJ4_ok nmJ4 hW hS tv0 rfl rfl ⟨by decide, by decide, rfl, rfl⟩ rfl w_0 rfl (by decide +kernel) rfl rfl dJ5_append_c97b9_50 (fun S2 H locs eS2 hW hS => ?_)
    replace hf := ltE hf S2 eS2
    refine lv_aload_n hx hb dJ5_append_c97b9_53 rfl (lv_at hl 0 rfl) ?_
    obtain ⟨e1, e2, e3⟩ := so3 hf
    subst e1
    subst e2
    subst e3
    exact W.aret hx hb hr (Or.inl ⟨_, rfl⟩) (Or.inr ⟨_, rfl⟩) (fun t ht hWm => ⟨⟨adL, KL, rfl, hagL, (fun _ h => by cases h; exact tv0), by rw [ht]; exact hW⟩, hS.F ht⟩) hS.2.2 dJ5_append_c97b9_54 hlk
  unfold f_J5_append_c97b9 at hf
  refine lv_aload_n hx hb dJ5_append_c97b9_0 rfl (lv_at hl 0 rfl) ?_
  refine x_geti 1003 (ci := 10) (C := RJ4) (T := TJ4) (N := 4) 3 hC hinJ4 hW tp0 rfl rfl ⟨by decide, by decide, rfl, rfl⟩ rfl w_0 dJ5_append_c97b9_1 ?_
  refine lv_topi (fun x3 ex3 => ?_)
  replace hf := ltE hf x3 ex3
  refine lv_istore_n (lv' := [(2, .int x3), (0, .ref (ad p0)), (1, .int p1)]) hx hb dJ5_append_c97b9_4 rfl hl (by decide) rfl (fun ls hl => ?_)
  refine lv_iload_n hx hb dJ5_append_c97b9_5 rfl (lv_at hl 0 rfl) ?_
  refine lv_iload_n hx hb dJ5_append_c97b9_6 rfl (lv_at hl 2 rfl) ?_
  replace hf := obE hf
  obtain ⟨z4, hz4, hf⟩ := hf
  obtain ⟨r6, S5⟩ := z4
  replace hf := ltE (ltE hf r6 rfl) S5 rfl
  refine x_callS (As := [.int p1]) (rest := [.int x3]) (o := (some (.int r6))) (S1 := S5) hC hl.1 hW hS hGs hA (c_J6_stringSize_0f7a4 l g ad n K s.heap.size F S0 p1 r6 S5 hz4) (va_cwS 1 hts gJ5_append_c97b9_J6_stringSize_0f7a4 rfl rfl rfl (by decide +kernel) ⟨Nat.le_of_ble_eq_true rfl, Nat.le_of_ble_eq_true rfl⟩) rfl rfl (Nat.le_of_ble_eq_true rfl) dJ5_append_c97b9_7 ⟨Nat.le_of_ble_eq_true rfl, Nat.le_of_ble_eq_true rfl⟩ (fun H locs hPz4 hW hS => ?_)
  refine W.eq (g2 := F0 m 10 ls [.int r6, .int x3]) rfl ?_
  refine lv_iadd hx hb dJ5_append_c97b9_10 ?_
  refine lv_topi (fun x8 ex8 => ?_)
  replace hf := ltE hf x8 ex8
  refine lv_istore_n (lv' := [(3, .int x8), (2, .int x3), (0, .ref (ad p0)), (1, .int p1)]) hx hb dJ5_append_c97b9_11 rfl hl (by decide) rfl (fun ls hl => ?_)
  refine lv_aload_n hx hb dJ5_append_c97b9_12 rfl (lv_at hl 2 rfl) ?_
  refine lv_iload_n hx hb dJ5_append_c97b9_13 rfl (lv_at hl 0 rfl) ?_
  replace hf := obE hf
  obtain ⟨z9, hz9, hf⟩ := hf
  obtain ⟨S10, n12⟩ := z9
  replace hf := ltE (ltE hf S10 rfl) n12 rfl
  refine x_acallU (As := [.int x8]) (rest := []) (S1 := S10) (n1 := n12) (o := (fun _ => none)) (P := (fun _ => True)) hC hl.1 hW hS hGs hA tp0 rfl (show vwCl[10]? = some (RJ4, TJ4, 4) ∧ ob 10 from ⟨rfl, by decide⟩) (c_J5_ensureCapacityInternal_d00df l g ad n K H.size F S5 p0 x8 tp0 S10 n12 hz9) (va_cwU 1 hts gJ5_append_c97b9_J5_ensureCapacityInternal_d00df_u100J4 rfl rfl rfl rfl (by decide +kernel) ⟨Nat.le_of_ble_eq_true rfl, Nat.le_of_ble_eq_true rfl⟩) rfl rfl (Nat.le_of_ble_eq_true rfl) dJ5_append_c97b9_14 ⟨(Nat.le_of_ble_eq_true rfl), (Nat.le_of_ble_eq_true rfl)⟩ (fun ad13 K14 H locs hag15 hPz9 hW hS => ?_)
  have g16 := hag15.t tp0
  have g17 := hag15.e tp0 rfl
  have ag18 := (Ag.rf).tr hag15
  refine W.widen (k := 1) (n := 1024) (by omega) (by omega) ?_
  refine W.eq (g2 := F0 m 17 ls []) rfl ?_
  refine lv_aload_n hx hb dJ5_append_c97b9_17 rfl (lv_at hl 2 rfl) ?_
  replace hf := obE hf
  obtain ⟨z19, hz19, hf⟩ := hf
  obtain ⟨r21, S20⟩ := z19
  replace hf := ltE (ltE hf r21 rfl) S20 rfl
  refine x_callU (As := []) (rest := []) (o := (some (.int r21))) (S1 := S20) hC hl.1 hW hS hGs hA g16 rfl (show vwCl[10]? = some (RJ4, TJ4, 4) ∧ ob 10 from ⟨rfl, by decide⟩) (c_J5_isLatin1_aae02 l g ad13 n12 K14 H.size F S10 p0 g16 r21 S20 hz19) (va_cwU 0 hts gJ5_append_c97b9_J5_isLatin1_aae02_u83J4 rfl rfl rfl rfl (by decide +kernel) ⟨Nat.le_of_ble_eq_true rfl, Nat.le_of_ble_eq_true rfl⟩) rfl (by rw [g17] <;> rfl) (Nat.le_of_ble_eq_true rfl) dJ5_append_c97b9_18 ⟨Nat.le_of_ble_eq_true rfl, Nat.le_of_ble_eq_true rfl⟩ (fun H locs hPz19 hW hS => ?_)
  refine W.eq (g2 := F0 m 21 ls [.int r21]) rfl ?_
  refine lv_if_eq (tgt := 37) hx hb dJ5_append_c97b9_21 (by decide) (fun c23 => ?_) (fun c23 => ?_)
  · replace hf := ifT c23 hf
    refine lv_iload_n hx hb dJ5_append_c97b9_37 rfl (lv_at hl 3 rfl) ?_
    refine lv_iload_n hx hb dJ5_append_c97b9_38 rfl (lv_at hl 1 rfl) ?_
    refine lv_iload_n hx hb dJ5_append_c97b9_39 rfl (lv_at hl 0 rfl) ?_
    refine lv_aload_n hx hb dJ5_append_c97b9_40 rfl (lv_at hl 2 rfl) ?_
    replace hf := obE hf
    obtain ⟨j24, qj24, hf⟩ := hf
    have tj24 := x_rt hW qj24 11 ⟨by decide, rfl⟩
    refine x_getr 1000 (ci := 10) (C := RJ4) (T := TJ4) (N := 4) 0 hC hinJ4 hW g16 g17 rfl ⟨by decide, by decide, rfl, rfl⟩ rfl w_1 dJ5_append_c97b9_41 qj24 ?_
    cases hf
  · replace hf := ifF c23 hf
    refine lv_iload_n hx hb dJ5_append_c97b9_24 rfl (lv_at hl 3 rfl) ?_
    refine lv_iload_n hx hb dJ5_append_c97b9_25 rfl (lv_at hl 0 rfl) ?_
    refine lv_aload_n hx hb dJ5_append_c97b9_26 rfl (lv_at hl 2 rfl) ?_
    replace hf := obE hf
    obtain ⟨j25, qj25, hf⟩ := hf
    have tj25 := x_rt hW qj25 11 ⟨by decide, rfl⟩
    refine x_getr 1000 (ci := 10) (C := RJ4) (T := TJ4) (N := 4) 0 hC hinJ4 hW g16 g17 rfl ⟨by decide, by decide, rfl, rfl⟩ rfl w_1 dJ5_append_c97b9_27 qj25 ?_
    replace hf := obE hf
    obtain ⟨z26, hz26, hf⟩ := hf
    obtain ⟨r28, S27⟩ := z26
    replace hf := ltE (ltE hf r28 rfl) S27 rfl
    refine x_callS (As := [.int p1, .int x8, .ref (ad13 j25)]) (rest := []) (o := (some (.int r28))) (S1 := S27) hC hl.1 hW hS hGs hA (c_J6_getChars_ba4f3 l g ad13 n12 K14 H.size F S20 p1 x8 j25 tj25 r28 S27 hz26) (va_cwS 3 hts gJ5_append_c97b9_J6_getChars_ba4f3 rfl rfl rfl (by decide +kernel) ⟨Nat.le_of_ble_eq_true rfl, Nat.le_of_ble_eq_true rfl⟩) rfl rfl (Nat.le_of_ble_eq_true rfl) dJ5_append_c97b9_30 ⟨Nat.le_of_ble_eq_true rfl, Nat.le_of_ble_eq_true rfl⟩ (fun H locs hPz26 hW hS => ?_)
    refine W.eq (g2 := F0 m 33 ls [.int r28]) rfl ?_
    refine lv_pop hx hb dJ5_append_c97b9_33 rfl ?_
    refine lv_goto (tgt := 48) hx hb dJ5_append_c97b9_34 (by decide) ?_
    exact L48 ad13 K14 n12 ag18 S27 p0 x8 g16 _ _ _ hf hW hS (lv_sub hl [2, 0] (by rw [g17] <;> rfl))
set_option maxHeartbeats 4000000 in
set_option maxRecDepth 100000 in
theorem c_J4_append_bf812 (l : Launch) (g : GP) (ad : Nat → Nat) (n : Nat) (K : Nat → Nat) (sz F : Nat) (S0 : St) (p0 : Nat) (p1 : Int32) (tp0 : p0 < n ∧ K p0 = 10) (r9 : Option Nat) (S9 : St) (n9 : Nat) (hf : f_J4_append_bf812 F S0 n p0 p1 = some (r9, S9, n9)) : Met l yJ4_append_bf812 wsJ4_append_bf812 { frames := 5, cells := 1, slots := 1024, locals := 114 } (va_Pc [.ref (ad p0), .int p1] (PB g ad n K S0 sz)) (QA ad K n (fun a => some (va_re a r9)) g n9 S9 (dA ad n sz) (fun K9 => ∀ j, r9 = some j → j < n9 ∧ K9 j = 10)) 1 1024 (dA ad n sz) := by
  refine Met.ofW (cc := cJ4_append_bf812) (maxL := 2) (ret := (some (.object "java/lang/StringBuilder"))) (by decide) rfl ?_
  intro p e s m args below meth c s₁ B hml hv
  obtain ⟨rfl, hsz, hW, hK, hGs⟩ := x_start hv
  subst hsz
  have hx := B.exec
  have hb := B.bytes
  have hr := B.returns
  have hts := atoms_spec (ws := wsJ4_append_bf812) B.pre
  have hown : s.vm.findClass RJ4 = some m.cls := findClass_of_methodNamed B.named
  have hlk := B.notSynchronized
  have hC : Cx g p s m _ c cJ4_append_bf812 RJ4 wsJ4_append_bf812 2 := ⟨hx, hb, hml, hown, hts, hK⟩
  have hA : ∀ q : Nat, s.heap.size ≤ q → dA ad n s.heap.size q := fun q h => Or.inr h
  have hS : va_S (dA ad n s.heap.size) s.heap s.heap [] := va_S.rf
  have hl := lv_entry ([.ref (ad p0), .int p1]) (n := 2) (Nat.le_of_ble_eq_true rfl)
  rw [lg_entry_eq]
  generalize (lg_sl ([.ref (ad p0), .int p1]) ++ List.replicate (2 - (lg_sl ([.ref (ad p0), .int p1])).length) Slot.unset).toArray = ls at hl ⊢
  have hl : lv_has ls 2 [(0, .ref (ad p0)), (1, .int p1)] := hl
  have hGE := hGs.2.2.2.1
  have hGM := hGs.2.2.2.2
  unfold f_J4_append_bf812 at hf
  refine lv_aload_n hx hb dJ4_append_bf812_0 rfl (lv_at hl 0 rfl) ?_
  refine lv_iload_n hx hb dJ4_append_bf812_1 rfl (lv_at hl 1 rfl) ?_
  replace hf := obE hf
  obtain ⟨z1, hz1, hf⟩ := hf
  obtain ⟨r3, S2, n4⟩ := z1
  replace hf := ltE (ltE (ltE hf r3 rfl) S2 rfl) n4 rfl
  refine x_acallSU (As := [.int p1]) (rest := []) (S1 := S2) (n1 := n4) (o := (fun a => some (va_re a r3))) (P := (fun K9 => ∀ j, r3 = some j → j < n4 ∧ K9 j = 10)) hC hl.1 hW hS hGs hA tp0 rfl (show vwCl[10]? = some (RJ4, TJ4, 4) ∧ ob 10 from ⟨rfl, by decide⟩) (c_J5_append_c97b9 l g ad n K s.heap.size F S0 p0 p1 tp0 r3 S2 n4 hz1) (va_cwSU 1 hts gJ4_append_bf812_J5_append_c97b9_s53 rfl rfl rfl (by decide +kernel) ⟨Nat.le_of_ble_eq_true rfl, Nat.le_of_ble_eq_true rfl⟩) rfl rfl (Nat.le_of_ble_eq_true rfl) dJ4_append_bf812_2 ⟨(Nat.le_of_ble_eq_true rfl), (Nat.le_of_ble_eq_true rfl)⟩ (fun ad5 K6 H locs hag7 hPz1 hW hS => ?_)
  have g8 := hag7.t tp0
  have g9 := hag7.e tp0 rfl
  have ag10 := (Ag.rf).tr hag7
  refine W.widen (k := 1) (n := 1024) (by omega) (by omega) ?_
  replace hf := obE hf
  obtain ⟨j11, qj11, hf⟩ := hf
  have tj11 := hPz1 j11 qj11
  refine W.eq (g2 := F0 m 5 ls [.ref (ad5 j11)]) (by rw [qj11]; rfl) ?_
  refine lv_pop hx hb dJ4_append_bf812_5 rfl ?_
  refine lv_aload_n hx hb dJ4_append_bf812_6 rfl (lv_at hl 0 rfl) ?_
  obtain ⟨e1, e2, e3⟩ := so3 hf
  subst e1
  subst e2
  subst e3
  exact W.aret hx hb hr (Or.inl ⟨_, rfl⟩) (Or.inr ⟨_, rfl⟩) (fun t ht hWm => ⟨⟨ad5, K6, congrArg (fun z => Outcome.returned (some (Value.ref z))) g9, ag10, (fun _ h => by cases h; exact g8), by rw [ht]; exact hW⟩, hS.F ht⟩) hS.2.2 dJ4_append_bf812_7 hlk
set_option maxHeartbeats 4000000 in
set_option maxRecDepth 100000 in
theorem c_J1_canEncode_fc78d (l : Launch) (g : GP) (ad : Nat → Nat) (n : Nat) (K : Nat → Nat) (sz F : Nat) (S0 : St) (p0 : Int32) (r9 : Int32) (S9 : St) (hf : f_J1_canEncode_fc78d F S0 p0 = some (r9, S9)) : Met l yJ1_canEncode_fc78d wsJ1_canEncode_fc78d { frames := 0, cells := 0, slots := 0, locals := 0 } (va_Pc [.int p0] (PB g ad n K S0 sz)) (QR (some (.int r9)) (QB g ad n K S9 (dA ad n sz) (True)) (dA ad n sz)) 0 0 (dA ad n sz) := by
  refine Met.ofW (cc := cJ1_canEncode_fc78d) (maxL := 1) (ret := (some .boolean)) (by decide) rfl ?_
  intro p e s m args below meth c s₁ B hml hv
  obtain ⟨rfl, hsz, hW, hK, hGs⟩ := x_start hv
  subst hsz
  have hx := B.exec
  have hb := B.bytes
  have hr := B.returns
  have hts := atoms_spec (ws := wsJ1_canEncode_fc78d) B.pre
  have hown : s.vm.findClass RJ1 = some m.cls := findClass_of_methodNamed B.named
  have hlk := B.notSynchronized
  have hC : Cx g p s m _ c cJ1_canEncode_fc78d RJ1 wsJ1_canEncode_fc78d 1 := ⟨hx, hb, hml, hown, hts, hK⟩
  have hA : ∀ q : Nat, s.heap.size ≤ q → dA ad n s.heap.size q := fun q h => Or.inr h
  have hS : va_S (dA ad n s.heap.size) s.heap s.heap [] := va_S.rf
  have hl := lv_entry ([.int p0]) (n := 1) (Nat.le_of_ble_eq_true rfl)
  rw [lg_entry_eq]
  generalize (lg_sl ([.int p0]) ++ List.replicate (1 - (lg_sl ([.int p0])).length) Slot.unset).toArray = ls at hl ⊢
  have hl : lv_has ls 1 [(0, .int p0)] := hl
  have hGE := hGs.2.2.2.1
  have hGM := hGs.2.2.2.2
  unfold f_J1_canEncode_fc78d at hf
  refine lv_iload_n hx hb dJ1_canEncode_fc78d_0 rfl (lv_at hl 0 rfl) ?_
  refine lv_sipush (v := 255) hx hb dJ1_canEncode_fc78d_1 (by decide) ?_
  refine lv_icmp_gt (tgt := 11) hx hb dJ1_canEncode_fc78d_4 (by decide) (fun c1 => ?_) (fun c1 => ?_)
  · replace hf := ifT c1 hf
    refine lv_iconst (v := 0) hx hb dJ1_canEncode_fc78d_11 (by decide) ?_
    obtain ⟨e1, e2⟩ := so2 hf
    subst e1
    subst e2
    exact W.zret (v := 0) hx hb hr rfl (fun t ht hWm => ⟨⟨rfl, by unfold QB; rw [ht]; exact ⟨hW, trivial⟩⟩, hS.F ht⟩) hS.2.2 dJ1_canEncode_fc78d_12 hlk
  · replace hf := ifF c1 hf
    refine lv_iconst (v := 1) hx hb dJ1_canEncode_fc78d_7 (by decide) ?_
    refine lv_goto (tgt := 12) hx hb dJ1_canEncode_fc78d_8 (by decide) ?_
    obtain ⟨e1, e2⟩ := so2 hf
    subst e1
    subst e2
    exact W.zret (v := 1) hx hb hr rfl (fun t ht hWm => ⟨⟨rfl, by unfold QB; rw [ht]; exact ⟨hW, trivial⟩⟩, hS.F ht⟩) hS.2.2 dJ1_canEncode_fc78d_12 hlk
set_option maxHeartbeats 4000000 in
set_option maxRecDepth 100000 in
theorem c_J5_append_3fe6f (l : Launch) (g : GP) (ad : Nat → Nat) (n : Nat) (K : Nat → Nat) (sz F : Nat) (S0 : St) (p0 : Nat) (p1 : Int32) (tp0 : p0 < n ∧ K p0 = 10) (r9 : Option Nat) (S9 : St) (n9 : Nat) (hf : f_J5_append_3fe6f F S0 n p0 p1 = some (r9, S9, n9)) : Met l yJ5_append_3fe6f wsJ5_append_3fe6f { frames := 4, cells := 1, slots := 1024, locals := 91 } (va_Pc [.ref (ad p0), .int p1] (PB g ad n K S0 sz)) (QA ad K n (fun a => some (va_re a r9)) g n9 S9 (dA ad n sz) (fun K9 => ∀ j, r9 = some j → j < n9 ∧ K9 j = 10)) 1 1024 (dA ad n sz) := by
  refine Met.ofW (cc := cJ5_append_3fe6f) (maxL := 2) (ret := (some (.object "java/lang/AbstractStringBuilder"))) (by decide) rfl ?_
  intro p e s m args below meth c s₁ B hml hv
  obtain ⟨rfl, hsz, hW, hK, hGs⟩ := x_start hv
  subst hsz
  have hx := B.exec
  have hb := B.bytes
  have hr := B.returns
  have hts := atoms_spec (ws := wsJ5_append_3fe6f) B.pre
  have hown : s.vm.findClass RJ5 = some m.cls := findClass_of_methodNamed B.named
  have hlk := B.notSynchronized
  have hC : Cx g p s m _ c cJ5_append_3fe6f RJ5 wsJ5_append_3fe6f 2 := ⟨hx, hb, hml, hown, hts, hK⟩
  have hA : ∀ q : Nat, s.heap.size ≤ q → dA ad n s.heap.size q := fun q h => Or.inr h
  have hS : va_S (dA ad n s.heap.size) s.heap s.heap [] := va_S.rf
  have hl := lv_entry ([.ref (ad p0), .int p1]) (n := 2) (Nat.le_of_ble_eq_true rfl)
  rw [lg_entry_eq]
  generalize (lg_sl ([.ref (ad p0), .int p1]) ++ List.replicate (2 - (lg_sl ([.ref (ad p0), .int p1])).length) Slot.unset).toArray = ls at hl ⊢
  have hl : lv_has ls 2 [(0, .ref (ad p0)), (1, .int p1)] := hl
  have hinJ4 : ∀ w ∈ wsJ40, w ∈ wsJ5_append_3fe6f := by decide +kernel
  have w_0 := hts (.fieldLink RJ5 15 "java/lang/AbstractStringBuilder" "value" "[B") (by decide +kernel)
  have w_1 := hts (.fieldLink RJ5 79 "java/lang/AbstractStringBuilder" "count" "I") (by decide +kernel)
  have hGE := hGs.2.2.2.1
  have hGM := hGs.2.2.2.2
  have L56 : ∀ (adL KL : Nat → Nat) (nL : Nat) (hagL : Ag ad K n adL KL nL) (S0 : St) (v0 : Nat) (v1 : Int32) (tv0 : v0 < nL ∧ KL v0 = 10) (H : Heap) (locs : List Loc) (ls : Array Slot), f_J5_append_3fe6f_L56 F S0 nL v0 v1 = some (r9, S9, n9) → Wb g adL nL KL S0 (dA ad n s.heap.size) H → va_S (dA ad n s.heap.size) s.heap H locs → lv_has ls 2 [(0, .ref (adL v0)), (1, .int v1)] → W p l e (headSpec wsJ5_append_3fe6f { frames := 4, cells := 1, slots := 1024, locals := 91 }).room s m (List.toArray [.ref (ad p0), .int p1]) below meth c H locs 1 1024 (MQ below (QA ad K n (fun a => some (va_re a r9)) g n9 S9 (dA ad n s.heap.size) (fun K9 => ∀ j, r9 = some j → j < n9 ∧ K9 j = 10)) (List.toArray [.ref (ad p0), .int p1]) s 1 1024 (dA ad n s.heap.size)) (F0 m 56 ls []) := by
    intro adL KL nL hagL S0 v0 v1 tv0 H locs ls hf hW hS hl
    unfold f_J5_append_3fe6f_L56 at hf
    refine lv_aload_n hx hb dJ5_append_3fe6f_56 rfl (lv_at hl 0 rfl) ?_
    replace hf := obE hf
    obtain ⟨j3, qj3, hf⟩ := hf
    have tj3 := x_rt hW qj3 11 ⟨by decide, rfl⟩
    refine x_getr 1000 (ci := 10) (C := RJ4) (T := TJ4) (N := 4) 0 hC hinJ4 hW tv0 rfl rfl ⟨by decide, by decide, rfl, rfl⟩ rfl w_0 dJ5_append_3fe6f_57 qj3 ?_
    refine lv_aload_n hx hb dJ5_append_3fe6f_60 rfl (lv_at hl 0 rfl) ?_
    refine lv_dup hx hb dJ5_append_3fe6f_61 rfl ?_
    refine x_geti 1003 (ci := 10) (C := RJ4) (T := TJ4) (N := 4) 3 hC hinJ4 hW tv0 rfl rfl ⟨by decide, by decide, rfl, rfl⟩ rfl w_1 dJ5_append_3fe6f_62 ?_
    refine lv_dup_x1 hx hb dJ5_append_3fe6f_65 rfl rfl ?_
    refine lv_iconst (v := 1) hx hb dJ5_append_3fe6f_66 (by decide) ?_
    refine lv_iadd hx hb dJ5_append_3fe6f_67 ?_
    refine x_puti 1003 (ci := 10) (C := RJ4) (T := TJ4) (N := 4) (v := (si S0 1003 v0) + 1) (ty := .int) 3 hC hinJ4 tyJ4_ok nmJ4 hW hS tv0 rfl rfl ⟨by decide, by decide, rfl, rfl⟩ rfl w_1 rfl (by decide +kernel) rfl rfl dJ5_append_3fe6f_68 (fun S4 H locs eS4 hW hS => ?_)
    replace hf := ltE hf S4 eS4
    refine lv_iload_n hx hb dJ5_append_3fe6f_71 rfl (lv_at hl 1 rfl) ?_
    cases hf
  have L45 : ∀ (adL KL : Nat → Nat) (nL : Nat) (hagL : Ag ad K n adL KL nL) (S0 : St) (v0 : Nat) (v1 : Int32) (tv0 : v0 < nL ∧ KL v0 = 10) (H : Heap) (locs : List Loc) (ls : Array Slot), f_J5_append_3fe6f_L45 F S0 nL v0 v1 = some (r9, S9, n9) → Wb g adL nL KL S0 (dA ad n s.heap.size) H → va_S (dA ad n s.heap.size) s.heap H locs → lv_has ls 2 [(0, .ref (adL v0)), (1, .int v1)] → W p l e (headSpec wsJ5_append_3fe6f { frames := 4, cells := 1, slots := 1024, locals := 91 }).room s m (List.toArray [.ref (ad p0), .int p1]) below meth c H locs 1 1024 (MQ below (QA ad K n (fun a => some (va_re a r9)) g n9 S9 (dA ad n s.heap.size) (fun K9 => ∀ j, r9 = some j → j < n9 ∧ K9 j = 10)) (List.toArray [.ref (ad p0), .int p1]) s 1 1024 (dA ad n s.heap.size)) (F0 m 45 ls []) := by
    intro adL KL nL hagL S0 v0 v1 tv0 H locs ls hf hW hS hl
    unfold f_J5_append_3fe6f_L45 at hf
    refine lv_aload_n hx hb dJ5_append_3fe6f_45 rfl (lv_at hl 0 rfl) ?_
    replace hf := obE hf
    obtain ⟨z10, hz10, hf⟩ := hf
    obtain ⟨r12, S11⟩ := z10
    replace hf := ltE (ltE hf r12 rfl) S11 rfl
    refine x_callU (As := []) (rest := []) (o := (some (.int r12))) (S1 := S11) hC hl.1 hW hS hGs hA tv0 rfl (show vwCl[10]? = some (RJ4, TJ4, 4) ∧ ob 10 from ⟨rfl, by decide⟩) (c_J5_isLatin1_aae02 l g adL nL KL H.size F S0 v0 tv0 r12 S11 hz10) (va_cwU 0 hts gJ5_append_3fe6f_J5_isLatin1_aae02_u83J4 rfl rfl rfl rfl (by decide +kernel) ⟨Nat.le_of_ble_eq_true rfl, Nat.le_of_ble_eq_true rfl⟩) rfl rfl (Nat.le_of_ble_eq_true rfl) dJ5_append_3fe6f_46 ⟨Nat.le_of_ble_eq_true rfl, Nat.le_of_ble_eq_true rfl⟩ (fun H locs hPz10 hW hS => ?_)
    refine W.eq (g2 := F0 m 49 ls [.int r12]) rfl ?_
    refine lv_if_eq (tgt := 56) hx hb dJ5_append_3fe6f_49 (by decide) (fun c14 => ?_) (fun c14 => ?_)
    · replace hf := ifT c14 hf
      exact L56 adL KL nL hagL S11 v0 v1 tv0 _ _ _ hf hW hS (lv_sub hl [0, 1] rfl)
    · replace hf := ifF c14 hf
      refine lv_aload_n hx hb dJ5_append_3fe6f_52 rfl (lv_at hl 0 rfl) ?_
      cases hf
  unfold f_J5_append_3fe6f at hf
  refine lv_aload_n hx hb dJ5_append_3fe6f_0 rfl (lv_at hl 0 rfl) ?_
  refine lv_aload_n hx hb dJ5_append_3fe6f_1 rfl (lv_at hl 0 rfl) ?_
  refine x_geti 1003 (ci := 10) (C := RJ4) (T := TJ4) (N := 4) 3 hC hinJ4 hW tp0 rfl rfl ⟨by decide, by decide, rfl, rfl⟩ rfl w_1 dJ5_append_3fe6f_2 ?_
  refine lv_iconst (v := 1) hx hb dJ5_append_3fe6f_5 (by decide) ?_
  refine lv_iadd hx hb dJ5_append_3fe6f_6 ?_
  replace hf := obE hf
  obtain ⟨z15, hz15, hf⟩ := hf
  obtain ⟨S16, n18⟩ := z15
  replace hf := ltE (ltE hf S16 rfl) n18 rfl
  refine x_acallU (As := [.int ((si S0 1003 p0) + 1)]) (rest := []) (S1 := S16) (n1 := n18) (o := (fun _ => none)) (P := (fun _ => True)) hC hl.1 hW hS hGs hA tp0 rfl (show vwCl[10]? = some (RJ4, TJ4, 4) ∧ ob 10 from ⟨rfl, by decide⟩) (c_J5_ensureCapacityInternal_d00df l g ad n K s.heap.size F S0 p0 ((si S0 1003 p0) + 1) tp0 S16 n18 hz15) (va_cwU 1 hts gJ5_append_3fe6f_J5_ensureCapacityInternal_d00df_u100J4 rfl rfl rfl rfl (by decide +kernel) ⟨Nat.le_of_ble_eq_true rfl, Nat.le_of_ble_eq_true rfl⟩) rfl rfl (Nat.le_of_ble_eq_true rfl) dJ5_append_3fe6f_7 ⟨(Nat.le_of_ble_eq_true rfl), (Nat.le_of_ble_eq_true rfl)⟩ (fun ad19 K20 H locs hag21 hPz15 hW hS => ?_)
  have g22 := hag21.t tp0
  have g23 := hag21.e tp0 rfl
  have ag24 := (Ag.rf).tr hag21
  refine W.widen (k := 1) (n := 1024) (by omega) (by omega) ?_
  refine W.eq (g2 := F0 m 10 ls []) rfl ?_
  refine lv_aload_n hx hb dJ5_append_3fe6f_10 rfl (lv_at hl 0 rfl) ?_
  replace hf := obE hf
  obtain ⟨z25, hz25, hf⟩ := hf
  obtain ⟨r27, S26⟩ := z25
  replace hf := ltE (ltE hf r27 rfl) S26 rfl
  refine x_callU (As := []) (rest := []) (o := (some (.int r27))) (S1 := S26) hC hl.1 hW hS hGs hA g22 rfl (show vwCl[10]? = some (RJ4, TJ4, 4) ∧ ob 10 from ⟨rfl, by decide⟩) (c_J5_isLatin1_aae02 l g ad19 n18 K20 H.size F S16 p0 g22 r27 S26 hz25) (va_cwU 0 hts gJ5_append_3fe6f_J5_isLatin1_aae02_u83J4 rfl rfl rfl rfl (by decide +kernel) ⟨Nat.le_of_ble_eq_true rfl, Nat.le_of_ble_eq_true rfl⟩) rfl (by rw [g23] <;> rfl) (Nat.le_of_ble_eq_true rfl) dJ5_append_3fe6f_11 ⟨Nat.le_of_ble_eq_true rfl, Nat.le_of_ble_eq_true rfl⟩ (fun H locs hPz25 hW hS => ?_)
  refine W.eq (g2 := F0 m 14 ls [.int r27]) rfl ?_
  refine lv_if_eq (tgt := 45) hx hb dJ5_append_3fe6f_14 (by decide) (fun c29 => ?_) (fun c29 => ?_)
  · replace hf := ifT c29 hf
    exact L45 ad19 K20 n18 ag24 S26 p0 p1 g22 _ _ _ hf hW hS (lv_sub hl [0, 1] (by rw [g23] <;> rfl))
  · replace hf := ifF c29 hf
    refine lv_iload_n hx hb dJ5_append_3fe6f_17 rfl (lv_at hl 1 rfl) ?_
    replace hf := obE hf
    obtain ⟨z30, hz30, hf⟩ := hf
    obtain ⟨r32, S31⟩ := z30
    replace hf := ltE (ltE hf r32 rfl) S31 rfl
    refine x_callS (As := [.int p1]) (rest := []) (o := (some (.int r32))) (S1 := S31) hC hl.1 hW hS hGs hA (c_J1_canEncode_fc78d l g ad19 n18 K20 H.size F S26 p1 r32 S31 hz30) (va_cwS 1 hts gJ5_append_3fe6f_J1_canEncode_fc78d rfl rfl rfl (by decide +kernel) ⟨Nat.le_of_ble_eq_true rfl, Nat.le_of_ble_eq_true rfl⟩) rfl rfl (Nat.le_of_ble_eq_true rfl) dJ5_append_3fe6f_18 ⟨Nat.le_of_ble_eq_true rfl, Nat.le_of_ble_eq_true rfl⟩ (fun H locs hPz30 hW hS => ?_)
    refine W.eq (g2 := F0 m 21 ls [.int r32]) rfl ?_
    refine lv_if_eq (tgt := 45) hx hb dJ5_append_3fe6f_21 (by decide) (fun c34 => ?_) (fun c34 => ?_)
    · replace hf := ifT c34 hf
      exact L45 ad19 K20 n18 ag24 S31 p0 p1 g22 _ _ _ hf hW hS (lv_sub hl [0, 1] (by rw [g23] <;> rfl))
    · replace hf := ifF c34 hf
      refine lv_aload_n hx hb dJ5_append_3fe6f_24 rfl (lv_at hl 0 rfl) ?_
      replace hf := obE hf
      obtain ⟨j35, qj35, hf⟩ := hf
      have tj35 := x_rt hW qj35 11 ⟨by decide, rfl⟩
      refine x_getr 1000 (ci := 10) (C := RJ4) (T := TJ4) (N := 4) 0 hC hinJ4 hW g22 g23 rfl ⟨by decide, by decide, rfl, rfl⟩ rfl w_0 dJ5_append_3fe6f_25 qj35 ?_
      refine lv_aload_n hx hb dJ5_append_3fe6f_28 rfl (lv_at hl 0 rfl) ?_
      refine lv_dup hx hb dJ5_append_3fe6f_29 rfl ?_
      refine x_geti 1003 (ci := 10) (C := RJ4) (T := TJ4) (N := 4) 3 hC hinJ4 hW g22 g23 rfl ⟨by decide, by decide, rfl, rfl⟩ rfl w_1 dJ5_append_3fe6f_30 ?_
      refine lv_dup_x1 hx hb dJ5_append_3fe6f_33 rfl rfl ?_
      refine lv_iconst (v := 1) hx hb dJ5_append_3fe6f_34 (by decide) ?_
      refine lv_iadd hx hb dJ5_append_3fe6f_35 ?_
      refine x_puti 1003 (ci := 10) (C := RJ4) (T := TJ4) (N := 4) (v := (si S31 1003 p0) + 1) (ty := .int) 3 hC hinJ4 tyJ4_ok nmJ4 hW hS g22 g23 rfl ⟨by decide, by decide, rfl, rfl⟩ rfl w_1 rfl (by decide +kernel) rfl rfl dJ5_append_3fe6f_36 (fun S36 H locs eS36 hW hS => ?_)
      replace hf := ltE hf S36 eS36
      refine lv_iload_n hx hb dJ5_append_3fe6f_39 rfl (lv_at hl 1 rfl) ?_
      refine lv_i2b (v := p1.toInt8.toInt32) hx hb dJ5_append_3fe6f_40 rfl ?_
      replace hf := ckiE hf
      obtain ⟨h37, hf⟩ := hf
      refine x_bast hC hW hS tj35 rfl rfl h37 dJ5_append_3fe6f_41 (fun S38 H locs eS38 hW hS => ?_)
      replace hf := ltE hf S38 eS38
      refine lv_goto (tgt := 75) hx hb dJ5_append_3fe6f_42 (by decide) ?_
      refine lv_aload_n hx hb dJ5_append_3fe6f_75 rfl (lv_at hl 0 rfl) ?_
      obtain ⟨e1, e2, e3⟩ := so3 hf
      subst e1
      subst e2
      subst e3
      exact W.aret hx hb hr (Or.inl ⟨_, rfl⟩) (Or.inr ⟨_, rfl⟩) (fun t ht hWm => ⟨⟨ad19, K20, congrArg (fun z => Outcome.returned (some (Value.ref z))) g23, ag24, (fun _ h => by cases h; exact g22), by rw [ht]; exact hW⟩, hS.F ht⟩) hS.2.2 dJ5_append_3fe6f_76 hlk
set_option maxHeartbeats 4000000 in
set_option maxRecDepth 100000 in
theorem c_J4_append_cf468 (l : Launch) (g : GP) (ad : Nat → Nat) (n : Nat) (K : Nat → Nat) (sz F : Nat) (S0 : St) (p0 : Nat) (p1 : Int32) (tp0 : p0 < n ∧ K p0 = 10) (r9 : Option Nat) (S9 : St) (n9 : Nat) (hf : f_J4_append_cf468 F S0 n p0 p1 = some (r9, S9, n9)) : Met l yJ4_append_cf468 wsJ4_append_cf468 { frames := 5, cells := 1, slots := 1024, locals := 112 } (va_Pc [.ref (ad p0), .int p1] (PB g ad n K S0 sz)) (QA ad K n (fun a => some (va_re a r9)) g n9 S9 (dA ad n sz) (fun K9 => ∀ j, r9 = some j → j < n9 ∧ K9 j = 10)) 1 1024 (dA ad n sz) := by
  refine Met.ofW (cc := cJ4_append_cf468) (maxL := 2) (ret := (some (.object "java/lang/StringBuilder"))) (by decide) rfl ?_
  intro p e s m args below meth c s₁ B hml hv
  obtain ⟨rfl, hsz, hW, hK, hGs⟩ := x_start hv
  subst hsz
  have hx := B.exec
  have hb := B.bytes
  have hr := B.returns
  have hts := atoms_spec (ws := wsJ4_append_cf468) B.pre
  have hown : s.vm.findClass RJ4 = some m.cls := findClass_of_methodNamed B.named
  have hlk := B.notSynchronized
  have hC : Cx g p s m _ c cJ4_append_cf468 RJ4 wsJ4_append_cf468 2 := ⟨hx, hb, hml, hown, hts, hK⟩
  have hA : ∀ q : Nat, s.heap.size ≤ q → dA ad n s.heap.size q := fun q h => Or.inr h
  have hS : va_S (dA ad n s.heap.size) s.heap s.heap [] := va_S.rf
  have hl := lv_entry ([.ref (ad p0), .int p1]) (n := 2) (Nat.le_of_ble_eq_true rfl)
  rw [lg_entry_eq]
  generalize (lg_sl ([.ref (ad p0), .int p1]) ++ List.replicate (2 - (lg_sl ([.ref (ad p0), .int p1])).length) Slot.unset).toArray = ls at hl ⊢
  have hl : lv_has ls 2 [(0, .ref (ad p0)), (1, .int p1)] := hl
  have hGE := hGs.2.2.2.1
  have hGM := hGs.2.2.2.2
  unfold f_J4_append_cf468 at hf
  refine lv_aload_n hx hb dJ4_append_cf468_0 rfl (lv_at hl 0 rfl) ?_
  refine lv_iload_n hx hb dJ4_append_cf468_1 rfl (lv_at hl 1 rfl) ?_
  replace hf := obE hf
  obtain ⟨z1, hz1, hf⟩ := hf
  obtain ⟨r3, S2, n4⟩ := z1
  replace hf := ltE (ltE (ltE hf r3 rfl) S2 rfl) n4 rfl
  refine x_acallSU (As := [.int p1]) (rest := []) (S1 := S2) (n1 := n4) (o := (fun a => some (va_re a r3))) (P := (fun K9 => ∀ j, r3 = some j → j < n4 ∧ K9 j = 10)) hC hl.1 hW hS hGs hA tp0 rfl (show vwCl[10]? = some (RJ4, TJ4, 4) ∧ ob 10 from ⟨rfl, by decide⟩) (c_J5_append_3fe6f l g ad n K s.heap.size F S0 p0 p1 tp0 r3 S2 n4 hz1) (va_cwSU 1 hts gJ4_append_cf468_J5_append_3fe6f_s50 rfl rfl rfl (by decide +kernel) ⟨Nat.le_of_ble_eq_true rfl, Nat.le_of_ble_eq_true rfl⟩) rfl rfl (Nat.le_of_ble_eq_true rfl) dJ4_append_cf468_2 ⟨(Nat.le_of_ble_eq_true rfl), (Nat.le_of_ble_eq_true rfl)⟩ (fun ad5 K6 H locs hag7 hPz1 hW hS => ?_)
  have g8 := hag7.t tp0
  have g9 := hag7.e tp0 rfl
  have ag10 := (Ag.rf).tr hag7
  refine W.widen (k := 1) (n := 1024) (by omega) (by omega) ?_
  replace hf := obE hf
  obtain ⟨j11, qj11, hf⟩ := hf
  have tj11 := hPz1 j11 qj11
  refine W.eq (g2 := F0 m 5 ls [.ref (ad5 j11)]) (by rw [qj11]; rfl) ?_
  refine lv_pop hx hb dJ4_append_cf468_5 rfl ?_
  refine lv_aload_n hx hb dJ4_append_cf468_6 rfl (lv_at hl 0 rfl) ?_
  obtain ⟨e1, e2, e3⟩ := so3 hf
  subst e1
  subst e2
  subst e3
  exact W.aret hx hb hr (Or.inl ⟨_, rfl⟩) (Or.inr ⟨_, rfl⟩) (fun t ht hWm => ⟨⟨ad5, K6, congrArg (fun z => Outcome.returned (some (Value.ref z))) g9, ag10, (fun _ h => by cases h; exact g8), by rw [ht]; exact hW⟩, hS.F ht⟩) hS.2.2 dJ4_append_cf468_7 hlk
set_option maxHeartbeats 4000000 in
set_option maxRecDepth 100000 in
theorem c_J5_getValue_6d5f1 (l : Launch) (g : GP) (ad : Nat → Nat) (n : Nat) (K : Nat → Nat) (sz F : Nat) (S0 : St) (p0 : Nat) (tp0 : p0 < n ∧ K p0 = 10) (r9 : Option Nat) (S9 : St) (hf : f_J5_getValue_6d5f1 F S0 p0 = some (r9, S9)) : Met l yJ5_getValue_6d5f1 wsJ5_getValue_6d5f1 { frames := 0, cells := 0, slots := 0, locals := 0 } (va_Pc [.ref (ad p0)] (PB g ad n K S0 sz)) (QR (some (va_re ad r9)) (QB g ad n K S9 (dA ad n sz) (∀ j, r9 = some j → j < n ∧ K j = 11)) (dA ad n sz)) 0 0 (dA ad n sz) := by
  refine Met.ofW (cc := cJ5_getValue_6d5f1) (maxL := 1) (ret := (some (.array .byte))) (by decide) rfl ?_
  intro p e s m args below meth c s₁ B hml hv
  obtain ⟨rfl, hsz, hW, hK, hGs⟩ := x_start hv
  subst hsz
  have hx := B.exec
  have hb := B.bytes
  have hr := B.returns
  have hts := atoms_spec (ws := wsJ5_getValue_6d5f1) B.pre
  have hown : s.vm.findClass RJ5 = some m.cls := findClass_of_methodNamed B.named
  have hlk := B.notSynchronized
  have hC : Cx g p s m _ c cJ5_getValue_6d5f1 RJ5 wsJ5_getValue_6d5f1 1 := ⟨hx, hb, hml, hown, hts, hK⟩
  have hA : ∀ q : Nat, s.heap.size ≤ q → dA ad n s.heap.size q := fun q h => Or.inr h
  have hS : va_S (dA ad n s.heap.size) s.heap s.heap [] := va_S.rf
  have hl := lv_entry ([.ref (ad p0)]) (n := 1) (Nat.le_of_ble_eq_true rfl)
  rw [lg_entry_eq]
  generalize (lg_sl ([.ref (ad p0)]) ++ List.replicate (1 - (lg_sl ([.ref (ad p0)])).length) Slot.unset).toArray = ls at hl ⊢
  have hl : lv_has ls 1 [(0, .ref (ad p0))] := hl
  have hinJ4 : ∀ w ∈ wsJ40, w ∈ wsJ5_getValue_6d5f1 := by decide +kernel
  have w_0 := hts (.fieldLink RJ5 15 "java/lang/AbstractStringBuilder" "value" "[B") (by decide +kernel)
  have hGE := hGs.2.2.2.1
  have hGM := hGs.2.2.2.2
  unfold f_J5_getValue_6d5f1 at hf
  refine lv_aload_n hx hb dJ5_getValue_6d5f1_0 rfl (lv_at hl 0 rfl) ?_
  replace hf := obE hf
  obtain ⟨j1, qj1, hf⟩ := hf
  have tj1 := x_rt hW qj1 11 ⟨by decide, rfl⟩
  refine x_getr 1000 (ci := 10) (C := RJ4) (T := TJ4) (N := 4) 0 hC hinJ4 hW tp0 rfl rfl ⟨by decide, by decide, rfl, rfl⟩ rfl w_0 dJ5_getValue_6d5f1_1 qj1 ?_
  obtain ⟨e1, e2⟩ := so2 hf
  subst e1
  subst e2
  exact W.aret hx hb hr (Or.inr ⟨_, rfl⟩) (Or.inr ⟨_, rfl⟩) (fun t ht hWm => ⟨⟨rfl, by unfold QB; rw [ht]; exact ⟨hW, (fun _ h => by cases h; exact tj1)⟩⟩, hS.F ht⟩) hS.2.2 dJ5_getValue_6d5f1_4 hlk
set_option maxHeartbeats 4000000 in
set_option maxRecDepth 100000 in
theorem c_J5_length_8abf5 (l : Launch) (g : GP) (ad : Nat → Nat) (n : Nat) (K : Nat → Nat) (sz F : Nat) (S0 : St) (p0 : Nat) (tp0 : p0 < n ∧ K p0 = 10) (r9 : Int32) (S9 : St) (hf : f_J5_length_8abf5 F S0 p0 = some (r9, S9)) : Met l yJ5_length_8abf5 wsJ5_length_8abf5 { frames := 0, cells := 0, slots := 0, locals := 0 } (va_Pc [.ref (ad p0)] (PB g ad n K S0 sz)) (QR (some (.int r9)) (QB g ad n K S9 (dA ad n sz) (True)) (dA ad n sz)) 0 0 (dA ad n sz) := by
  refine Met.ofW (cc := cJ5_length_8abf5) (maxL := 1) (ret := (some .int)) (by decide) rfl ?_
  intro p e s m args below meth c s₁ B hml hv
  obtain ⟨rfl, hsz, hW, hK, hGs⟩ := x_start hv
  subst hsz
  have hx := B.exec
  have hb := B.bytes
  have hr := B.returns
  have hts := atoms_spec (ws := wsJ5_length_8abf5) B.pre
  have hown : s.vm.findClass RJ5 = some m.cls := findClass_of_methodNamed B.named
  have hlk := B.notSynchronized
  have hC : Cx g p s m _ c cJ5_length_8abf5 RJ5 wsJ5_length_8abf5 1 := ⟨hx, hb, hml, hown, hts, hK⟩
  have hA : ∀ q : Nat, s.heap.size ≤ q → dA ad n s.heap.size q := fun q h => Or.inr h
  have hS : va_S (dA ad n s.heap.size) s.heap s.heap [] := va_S.rf
  have hl := lv_entry ([.ref (ad p0)]) (n := 1) (Nat.le_of_ble_eq_true rfl)
  rw [lg_entry_eq]
  generalize (lg_sl ([.ref (ad p0)]) ++ List.replicate (1 - (lg_sl ([.ref (ad p0)])).length) Slot.unset).toArray = ls at hl ⊢
  have hl : lv_has ls 1 [(0, .ref (ad p0))] := hl
  have hinJ4 : ∀ w ∈ wsJ40, w ∈ wsJ5_length_8abf5 := by decide +kernel
  have w_0 := hts (.fieldLink RJ5 79 "java/lang/AbstractStringBuilder" "count" "I") (by decide +kernel)
  have hGE := hGs.2.2.2.1
  have hGM := hGs.2.2.2.2
  unfold f_J5_length_8abf5 at hf
  refine lv_aload_n hx hb dJ5_length_8abf5_0 rfl (lv_at hl 0 rfl) ?_
  refine x_geti 1003 (ci := 10) (C := RJ4) (T := TJ4) (N := 4) 3 hC hinJ4 hW tp0 rfl rfl ⟨by decide, by decide, rfl, rfl⟩ rfl w_0 dJ5_length_8abf5_1 ?_
  obtain ⟨e1, e2⟩ := so2 hf
  subst e1
  subst e2
  exact W.iret (v := si S0 1003 p0) hx hb hr (fun t ht hWm => ⟨⟨rfl, by unfold QB; rw [ht]; exact ⟨hW, trivial⟩⟩, hS.F ht⟩) hS.2.2 dJ5_length_8abf5_4 hlk
set_option maxHeartbeats 4000000 in
set_option maxRecDepth 100000 in
theorem c_J4_length_8abf5 (l : Launch) (g : GP) (ad : Nat → Nat) (n : Nat) (K : Nat → Nat) (sz F : Nat) (S0 : St) (p0 : Nat) (tp0 : p0 < n ∧ K p0 = 10) (r9 : Int32) (S9 : St) (hf : f_J4_length_8abf5 F S0 p0 = some (r9, S9)) : Met l yJ4_length_8abf5 wsJ4_length_8abf5 { frames := 1, cells := 0, slots := 0, locals := 20 } (va_Pc [.ref (ad p0)] (PB g ad n K S0 sz)) (QR (some (.int r9)) (QB g ad n K S9 (dA ad n sz) (True)) (dA ad n sz)) 0 0 (dA ad n sz) := by
  refine Met.ofW (cc := cJ4_length_8abf5) (maxL := 1) (ret := (some .int)) (by decide) rfl ?_
  intro p e s m args below meth c s₁ B hml hv
  obtain ⟨rfl, hsz, hW, hK, hGs⟩ := x_start hv
  subst hsz
  have hx := B.exec
  have hb := B.bytes
  have hr := B.returns
  have hts := atoms_spec (ws := wsJ4_length_8abf5) B.pre
  have hown : s.vm.findClass RJ4 = some m.cls := findClass_of_methodNamed B.named
  have hlk := B.notSynchronized
  have hC : Cx g p s m _ c cJ4_length_8abf5 RJ4 wsJ4_length_8abf5 1 := ⟨hx, hb, hml, hown, hts, hK⟩
  have hA : ∀ q : Nat, s.heap.size ≤ q → dA ad n s.heap.size q := fun q h => Or.inr h
  have hS : va_S (dA ad n s.heap.size) s.heap s.heap [] := va_S.rf
  have hl := lv_entry ([.ref (ad p0)]) (n := 1) (Nat.le_of_ble_eq_true rfl)
  rw [lg_entry_eq]
  generalize (lg_sl ([.ref (ad p0)]) ++ List.replicate (1 - (lg_sl ([.ref (ad p0)])).length) Slot.unset).toArray = ls at hl ⊢
  have hl : lv_has ls 1 [(0, .ref (ad p0))] := hl
  have hGE := hGs.2.2.2.1
  have hGM := hGs.2.2.2.2
  unfold f_J4_length_8abf5 at hf
  refine lv_aload_n hx hb dJ4_length_8abf5_0 rfl (lv_at hl 0 rfl) ?_
  replace hf := obE hf
  obtain ⟨z1, hz1, hf⟩ := hf
  obtain ⟨r3, S2⟩ := z1
  replace hf := ltE (ltE hf r3 rfl) S2 rfl
  refine x_callSU (As := []) (rest := []) (o := (some (.int r3))) (S1 := S2) hC hl.1 hW hS hGs hA tp0 rfl (show vwCl[10]? = some (RJ4, TJ4, 4) ∧ ob 10 from ⟨rfl, by decide⟩) (c_J5_length_8abf5 l g ad n K s.heap.size F S0 p0 tp0 r3 S2 hz1) (va_cwSU 0 hts gJ4_length_8abf5_J5_length_8abf5_s343 rfl rfl rfl (by decide +kernel) ⟨Nat.le_of_ble_eq_true rfl, Nat.le_of_ble_eq_true rfl⟩) rfl rfl (Nat.le_of_ble_eq_true rfl) dJ4_length_8abf5_1 ⟨Nat.le_of_ble_eq_true rfl, Nat.le_of_ble_eq_true rfl⟩ (fun H locs hPz1 hW hS => ?_)
  refine W.eq (g2 := F0 m 4 ls [.int r3]) rfl ?_
  obtain ⟨e1, e2⟩ := so2 hf
  subst e1
  subst e2
  exact W.iret (v := r3) hx hb hr (fun t ht hWm => ⟨⟨rfl, by unfold QB; rw [ht]; exact ⟨hW, trivial⟩⟩, hS.F ht⟩) hS.2.2 dJ4_length_8abf5_4 hlk
set_option maxHeartbeats 4000000 in
set_option maxRecDepth 100000 in
theorem c_J7_checkLength_df160 (l : Launch) (g : GP) (ad : Nat → Nat) (n : Nat) (K : Nat → Nat) (sz F : Nat) (S0 : St) (p0 : Int32) (p1 : Int32) (S9 : St) (hf : f_J7_checkLength_df160 F S0 p0 p1 = some S9) : Met l yJ7_checkLength_df160 wsJ7_checkLength_df160 { frames := 0, cells := 0, slots := 0, locals := 0 } (va_Pc [.int p0, .int p1] (PB g ad n K S0 sz)) (QR none (QB g ad n K S9 (dA ad n sz) (True)) (dA ad n sz)) 0 0 (dA ad n sz) := by
  refine Met.ofW (cc := cJ7_checkLength_df160) (maxL := 2) (ret := none) (by decide) rfl ?_
  intro p e s m args below meth c s₁ B hml hv
  obtain ⟨rfl, hsz, hW, hK, hGs⟩ := x_start hv
  subst hsz
  have hx := B.exec
  have hb := B.bytes
  have hr := B.returns
  have hts := atoms_spec (ws := wsJ7_checkLength_df160) B.pre
  have hown : s.vm.findClass RJ7 = some m.cls := findClass_of_methodNamed B.named
  have hlk := B.notSynchronized
  have hC : Cx g p s m _ c cJ7_checkLength_df160 RJ7 wsJ7_checkLength_df160 2 := ⟨hx, hb, hml, hown, hts, hK⟩
  have hA : ∀ q : Nat, s.heap.size ≤ q → dA ad n s.heap.size q := fun q h => Or.inr h
  have hS : va_S (dA ad n s.heap.size) s.heap s.heap [] := va_S.rf
  have hl := lv_entry ([.int p0, .int p1]) (n := 2) (Nat.le_of_ble_eq_true rfl)
  rw [lg_entry_eq]
  generalize (lg_sl ([.int p0, .int p1]) ++ List.replicate (2 - (lg_sl ([.int p0, .int p1])).length) Slot.unset).toArray = ls at hl ⊢
  have hl : lv_has ls 2 [(0, .int p0), (1, .int p1)] := hl
  have hGE := hGs.2.2.2.1
  have hGM := hGs.2.2.2.2
  unfold f_J7_checkLength_df160 at hf
  refine lv_iload_n hx hb dJ7_checkLength_df160_0 rfl (lv_at hl 1 rfl) ?_
  refine lv_iload_n hx hb dJ7_checkLength_df160_1 rfl (lv_at hl 0 rfl) ?_
  refine lv_icmp_ge (tgt := 37) hx hb dJ7_checkLength_df160_2 (by decide) (fun c1 => ?_) (fun c1 => ?_)
  · replace hf := ifT c1 hf
    have e1 := Option.some.inj hf
    subst e1
    exact W.vret hx hb hr (fun t ht hWm => ⟨⟨rfl, by unfold QB; rw [ht]; exact ⟨hW, trivial⟩⟩, hS.F ht⟩) hS.2.2 dJ7_checkLength_df160_37 hlk
  · replace hf := ifF c1 hf
    cases hf
set_option maxHeartbeats 4000000 in
set_option maxRecDepth 100000 in
theorem c_J7_copyOfRangeByte_39247 (l : Launch) (g : GP) (ad : Nat → Nat) (n : Nat) (K : Nat → Nat) (sz F : Nat) (S0 : St) (p0 : Nat) (p1 : Int32) (p2 : Int32) (tp0 : p0 < n ∧ K p0 = 11) (r9 : Option Nat) (S9 : St) (n9 : Nat) (hf : f_J7_copyOfRangeByte_39247 F S0 n p0 p1 p2 = some (r9, S9, n9)) : Met l yJ7_copyOfRangeByte_39247 wsJ7_copyOfRangeByte_39247 { frames := 1, cells := 1, slots := 1024, locals := 40 } (va_Pc [.ref (ad p0), .int p1, .int p2] (PB g ad n K S0 sz)) (QA ad K n (fun a => some (va_re a r9)) g n9 S9 (dA ad n sz) (fun K9 => ∀ j, r9 = some j → j < n9 ∧ K9 j = 11)) 1 1024 (dA ad n sz) := by
  refine Met.ofW (cc := cJ7_copyOfRangeByte_39247) (maxL := 5) (ret := (some (.array .byte))) (by decide) rfl ?_
  intro p e s m args below meth c s₁ B hml hv
  obtain ⟨rfl, hsz, hW, hK, hGs⟩ := x_start hv
  subst hsz
  have hx := B.exec
  have hb := B.bytes
  have hr := B.returns
  have hts := atoms_spec (ws := wsJ7_copyOfRangeByte_39247) B.pre
  have hown : s.vm.findClass RJ7 = some m.cls := findClass_of_methodNamed B.named
  have hlk := B.notSynchronized
  have hC : Cx g p s m _ c cJ7_copyOfRangeByte_39247 RJ7 wsJ7_copyOfRangeByte_39247 5 := ⟨hx, hb, hml, hown, hts, hK⟩
  have hA : ∀ q : Nat, s.heap.size ≤ q → dA ad n s.heap.size q := fun q h => Or.inr h
  have hS : va_S (dA ad n s.heap.size) s.heap s.heap [] := va_S.rf
  have hl := lv_entry ([.ref (ad p0), .int p1, .int p2]) (n := 5) (Nat.le_of_ble_eq_true rfl)
  rw [lg_entry_eq]
  generalize (lg_sl ([.ref (ad p0), .int p1, .int p2]) ++ List.replicate (5 - (lg_sl ([.ref (ad p0), .int p1, .int p2])).length) Slot.unset).toArray = ls at hl ⊢
  have hl : lv_has ls 5 [(0, .ref (ad p0)), (1, .int p1), (2, .int p2)] := hl
  have w_0 := hts (.arrayClass .byte) (by decide +kernel)
  have w_1 := hts (.methodLink RJ7 304 Lib.Math.min.name) (by decide +kernel)
  have w_2 := hts (.static Lib.Math.min.name) (by decide +kernel)
  have w_3 := hts (.initialized "java/lang/Math") (by decide +kernel)
  have w_4 := hts (.code Lib.Math.min.name Lib.Math.min.code 2 (some .int)) (by decide +kernel)
  have w_5 := hts (.methodLink RJ7 150 arraycopyName) (by decide +kernel)
  have w_6 := hts (.native arraycopyName) (by decide +kernel)
  have w_7 := hts (.static arraycopyName) (by decide +kernel)
  have w_8 := hts (.initialized "java/lang/System") (by decide +kernel)
  have hGE := hGs.2.2.2.1
  have hGM := hGs.2.2.2.2
  unfold f_J7_copyOfRangeByte_39247 at hf
  refine lv_iload_n hx hb dJ7_copyOfRangeByte_39247_0 rfl (lv_at hl 1 rfl) ?_
  refine lv_iload_n hx hb dJ7_copyOfRangeByte_39247_1 rfl (lv_at hl 2 rfl) ?_
  replace hf := obE hf
  obtain ⟨S2, hz1, hf⟩ := hf
  refine x_callS (As := [.int p1, .int p2]) (rest := []) (o := none) (S1 := S2) hC hl.1 hW hS hGs hA (c_J7_checkLength_df160 l g ad n K s.heap.size F S0 p1 p2 S2 hz1) (va_cwS 2 hts gJ7_copyOfRangeByte_39247_J7_checkLength_df160 rfl rfl rfl (by decide +kernel) ⟨Nat.le_of_ble_eq_true rfl, Nat.le_of_ble_eq_true rfl⟩) rfl rfl (Nat.le_of_ble_eq_true rfl) dJ7_copyOfRangeByte_39247_2 ⟨Nat.le_of_ble_eq_true rfl, Nat.le_of_ble_eq_true rfl⟩ (fun H locs hPz1 hW hS => ?_)
  refine W.eq (g2 := F0 m 5 ls []) rfl ?_
  refine lv_iload_n hx hb dJ7_copyOfRangeByte_39247_5 rfl (lv_at hl 2 rfl) ?_
  refine lv_iload_n hx hb dJ7_copyOfRangeByte_39247_6 rfl (lv_at hl 1 rfl) ?_
  refine lv_isub hx hb dJ7_copyOfRangeByte_39247_7 ?_
  refine lv_topi (fun x5 ex5 => ?_)
  replace hf := ltE hf x5 ex5
  refine lv_istore_n (lv' := [(3, .int x5), (0, .ref (ad p0)), (1, .int p1), (2, .int p2)]) hx hb dJ7_copyOfRangeByte_39247_8 rfl hl (by decide) rfl (fun ls hl => ?_)
  refine lv_iload_n hx hb dJ7_copyOfRangeByte_39247_9 rfl (lv_at hl 0 rfl) ?_
  replace hf := ckE hf
  obtain ⟨h12, hf⟩ := hf
  refine x_newaB (len := Int32.toNatClampNeg x5) hC w_0 hW hS hA h12.1 rfl (by omega) (Nat.le_of_ble_eq_true rfl) (by show 0 + _ ≤ 1024; omega) dJ7_copyOfRangeByte_39247_10 (fun q6 ad7 K8 S9 H eS9 hag11 eqq6 ekq6 hW hS => ?_)
  replace hf := ltE hf S9 eS9
  obtain ⟨n10, en10⟩ : ∃ z, z = n + 1 := ⟨_, rfl⟩
  rw [← en10] at hag11 hW
  replace hf := ltE hf n10 en10
  have tq6 : n < n10 ∧ K8 n = 11 := ⟨by omega, ekq6⟩
  have g13 := hag11.t tp0
  have g14 := hag11.e tp0 rfl
  have ag15 := (Ag.rf).tr hag11
  refine W.widen (k := 1) (n := 1024) (by omega) (by omega) ?_
  refine lv_astore (lv' := [(4, .ref (q6)), (3, .int x5), (0, .ref (ad p0)), (1, .int p1), (2, .int p2)]) hx hb dJ7_copyOfRangeByte_39247_12 hl (by decide) rfl (fun ls hl => ?_)
  refine lv_aload_n hx hb dJ7_copyOfRangeByte_39247_14 rfl (lv_at hl 2 rfl) ?_
  refine lv_iload_n hx hb dJ7_copyOfRangeByte_39247_15 rfl (lv_at hl 3 rfl) ?_
  refine lv_aload hx hb dJ7_copyOfRangeByte_39247_16 (lv_at hl 0 rfl) ?_
  refine lv_iconst (v := 0) hx hb dJ7_copyOfRangeByte_39247_18 (by decide) ?_
  refine lv_aload_n hx hb dJ7_copyOfRangeByte_39247_19 rfl (lv_at hl 2 rfl) ?_
  refine x_alen hC hW g13 g14 ⟨by decide, by decide⟩ dJ7_copyOfRangeByte_39247_20 ?_
  refine lv_iload_n hx hb dJ7_copyOfRangeByte_39247_21 rfl (lv_at hl 3 rfl) ?_
  refine lv_isub hx hb dJ7_copyOfRangeByte_39247_22 ?_
  refine lv_iload_n hx hb dJ7_copyOfRangeByte_39247_23 rfl (lv_at hl 1 rfl) ?_
  refine va_mmin hx hb (hml.trans hl.1.symm) hown w_1 w_2 w_3 w_4 (by exact Nat.le_of_ble_eq_true rfl) (by exact Nat.le_of_ble_eq_true rfl) (by first | exact Nat.zero_le _ | exact Nat.le_of_ble_eq_true rfl) (by first | exact Nat.zero_le _ | exact Nat.le_of_ble_eq_true rfl) dJ7_copyOfRangeByte_39247_24 ?_
  replace hf := ckE hf
  obtain ⟨h16, hf⟩ := hf
  refine x_scpy hC (hml.trans hl.1.symm) w_5 w_6 w_7 w_8 hGM hW hS (tS_o g13) (g14.trans vad_o) tq6 eqq6 h16 (Nat.le_of_ble_eq_true rfl) (Nat.le_of_ble_eq_true rfl) dJ7_copyOfRangeByte_39247_27 (fun S17 H locs eS17 hW hS => ?_)
  replace hf := ltE hf S17 eS17
  refine lv_aload hx hb dJ7_copyOfRangeByte_39247_30 (lv_at hl 0 rfl) ?_
  obtain ⟨e1, e2, e3⟩ := so3 hf
  subst e1
  subst e2
  subst e3
  exact W.aret hx hb hr (Or.inr ⟨_, rfl⟩) (Or.inr ⟨_, rfl⟩) (fun t ht hWm => ⟨⟨ad7, K8, congrArg (fun z => Outcome.returned (some (Value.ref z))) eqq6, ag15, (fun _ h => by cases h; exact tq6), by rw [ht]; exact hW⟩, hS.F ht⟩) hS.2.2 dJ7_copyOfRangeByte_39247_32 hlk
set_option maxHeartbeats 4000000 in
set_option maxRecDepth 100000 in
theorem c_J7_copyOfRange_39247 (l : Launch) (g : GP) (ad : Nat → Nat) (n : Nat) (K : Nat → Nat) (sz F : Nat) (S0 : St) (p0 : Nat) (p1 : Int32) (p2 : Int32) (tp0 : p0 < n ∧ K p0 = 11) (r9 : Option Nat) (S9 : St) (n9 : Nat) (hf : f_J7_copyOfRange_39247 F S0 n p0 p1 p2 = some (r9, S9, n9)) : Met l yJ7_copyOfRange_39247 wsJ7_copyOfRange_39247 { frames := 2, cells := 1, slots := 1024, locals := 64 } (va_Pc [.ref (ad p0), .int p1, .int p2] (PB g ad n K S0 sz)) (QA ad K n (fun a => some (va_re a r9)) g n9 S9 (dA ad n sz) (fun K9 => ∀ j, r9 = some j → j < n9 ∧ K9 j = 11)) 1 1024 (dA ad n sz) := by
  refine Met.ofW (cc := cJ7_copyOfRange_39247) (maxL := 3) (ret := (some (.array .byte))) (by decide) rfl ?_
  intro p e s m args below meth c s₁ B hml hv
  obtain ⟨rfl, hsz, hW, hK, hGs⟩ := x_start hv
  subst hsz
  have hx := B.exec
  have hb := B.bytes
  have hr := B.returns
  have hts := atoms_spec (ws := wsJ7_copyOfRange_39247) B.pre
  have hown : s.vm.findClass RJ7 = some m.cls := findClass_of_methodNamed B.named
  have hlk := B.notSynchronized
  have hC : Cx g p s m _ c cJ7_copyOfRange_39247 RJ7 wsJ7_copyOfRange_39247 3 := ⟨hx, hb, hml, hown, hts, hK⟩
  have hA : ∀ q : Nat, s.heap.size ≤ q → dA ad n s.heap.size q := fun q h => Or.inr h
  have hS : va_S (dA ad n s.heap.size) s.heap s.heap [] := va_S.rf
  have hl := lv_entry ([.ref (ad p0), .int p1, .int p2]) (n := 3) (Nat.le_of_ble_eq_true rfl)
  rw [lg_entry_eq]
  generalize (lg_sl ([.ref (ad p0), .int p1, .int p2]) ++ List.replicate (3 - (lg_sl ([.ref (ad p0), .int p1, .int p2])).length) Slot.unset).toArray = ls at hl ⊢
  have hl : lv_has ls 3 [(0, .ref (ad p0)), (1, .int p1), (2, .int p2)] := hl
  have w_0 := hts (.methodLink RJ7 310 ⟨"[B", "clone", "()Ljava/lang/Object;"⟩) (by decide +kernel)
  have w_1 := hts (.sameMethod "[B" "java/lang/Object" "clone" "()Ljava/lang/Object;") (by decide +kernel)
  have w_2 := hts (.native ⟨"java/lang/Object", "clone", "()Ljava/lang/Object;"⟩) (by decide +kernel)
  have w_3 := hts (.instanceMethod ⟨"java/lang/Object", "clone", "()Ljava/lang/Object;"⟩) (by decide +kernel)
  have w_4 := hts (.selects "[B" ⟨"[B", "clone", "()Ljava/lang/Object;"⟩ ⟨"java/lang/Object", "clone", "()Ljava/lang/Object;"⟩) (by decide +kernel)
  have w_5 := hts (.classLink RJ7 311 "[B") (by decide +kernel)
  have hGE := hGs.2.2.2.1
  have hGM := hGs.2.2.2.2
  have L10 : ∀ (adL KL : Nat → Nat) (nL : Nat) (hagL : Ag ad K n adL KL nL) (S0 : St) (v0 : Nat) (v1 : Int32) (v2 : Int32) (tv0 : v0 < nL ∧ KL v0 = 11) (H : Heap) (locs : List Loc) (ls : Array Slot), f_J7_copyOfRange_39247_L10 F S0 nL v0 v1 v2 = some (r9, S9, n9) → Wb g adL nL KL S0 (dA ad n s.heap.size) H → va_S (dA ad n s.heap.size) s.heap H locs → lv_has ls 3 [(0, .ref (adL v0)), (1, .int v1), (2, .int v2)] → W p l e (headSpec wsJ7_copyOfRange_39247 { frames := 2, cells := 1, slots := 1024, locals := 64 }).room s m (List.toArray [.ref (ad p0), .int p1, .int p2]) below meth c H locs 0 0 (MQ below (QA ad K n (fun a => some (va_re a r9)) g n9 S9 (dA ad n s.heap.size) (fun K9 => ∀ j, r9 = some j → j < n9 ∧ K9 j = 11)) (List.toArray [.ref (ad p0), .int p1, .int p2]) s 1 1024 (dA ad n s.heap.size)) (F0 m 10 ls []) := by
    intro adL KL nL hagL S0 v0 v1 v2 tv0 H locs ls hf hW hS hl
    unfold f_J7_copyOfRange_39247_L10 at hf
    refine lv_aload_n hx hb dJ7_copyOfRange_39247_10 rfl (lv_at hl 0 rfl) ?_
    refine lv_iload_n hx hb dJ7_copyOfRange_39247_11 rfl (lv_at hl 1 rfl) ?_
    refine lv_iload_n hx hb dJ7_copyOfRange_39247_12 rfl (lv_at hl 2 rfl) ?_
    replace hf := obE hf
    obtain ⟨z12, hz12, hf⟩ := hf
    obtain ⟨r14, S13, n15⟩ := z12
    replace hf := ltE (ltE (ltE hf r14 rfl) S13 rfl) n15 rfl
    refine x_acallS (As := [.ref (adL v0), .int v1, .int v2]) (rest := []) (S1 := S13) (n1 := n15) (o := (fun a => some (va_re a r14))) (P := (fun K9 => ∀ j, r14 = some j → j < n15 ∧ K9 j = 11)) hC hl.1 hW hS hGs hA (c_J7_copyOfRangeByte_39247 l g adL nL KL H.size F S0 v0 v1 v2 tv0 r14 S13 n15 hz12) (va_cwS 3 hts gJ7_copyOfRange_39247_J7_copyOfRangeByte_39247 rfl rfl rfl (by decide +kernel) ⟨Nat.le_of_ble_eq_true rfl, Nat.le_of_ble_eq_true rfl⟩) rfl rfl (Nat.le_of_ble_eq_true rfl) dJ7_copyOfRange_39247_13 ⟨(Nat.le_of_ble_eq_true rfl), (Nat.le_of_ble_eq_true rfl)⟩ (fun ad16 K17 H locs hag18 hPz12 hW hS => ?_)
    have g19 := hag18.t tv0
    have g20 := hag18.e tv0 rfl
    have ag21 := (hagL).tr hag18
    refine W.widen (k := 1) (n := 1024) (by omega) (by omega) ?_
    replace hf := obE hf
    obtain ⟨j22, qj22, hf⟩ := hf
    have tj22 := hPz12 j22 qj22
    refine W.eq (g2 := F0 m 16 ls [.ref (ad16 j22)]) (by rw [qj22]; rfl) ?_
    obtain ⟨e1, e2, e3⟩ := so3 hf
    subst e1
    subst e2
    subst e3
    exact W.aret hx hb hr (Or.inr ⟨_, rfl⟩) (Or.inr ⟨_, rfl⟩) (fun t ht hWm => ⟨⟨ad16, K17, rfl, ag21, (fun _ h => by cases h; exact tj22), by rw [ht]; exact hW⟩, hS.F ht⟩) hS.2.2 dJ7_copyOfRange_39247_16 hlk
  unfold f_J7_copyOfRange_39247 at hf
  refine lv_iload_n hx hb dJ7_copyOfRange_39247_0 rfl (lv_at hl 1 rfl) ?_
  refine lv_if_ne (tgt := 10) hx hb dJ7_copyOfRange_39247_1 (by decide) (fun c23 => ?_) (fun c23 => ?_)
  · replace hf := ifT c23 hf
    exact L10 ad K n Ag.rf S0 p0 p1 p2 tp0 _ _ _ hf hW hS (lv_sub hl [0, 1, 2] rfl)
  · replace hf := ifF (fun q => q c23) hf
    refine lv_iload_n hx hb dJ7_copyOfRange_39247_4 rfl (lv_at hl 2 rfl) ?_
    refine lv_aload_n hx hb dJ7_copyOfRange_39247_5 rfl (lv_at hl 0 rfl) ?_
    refine x_alen hC hW tp0 rfl ⟨by decide, by decide⟩ dJ7_copyOfRange_39247_6 ?_
    refine lv_icmp_eq (tgt := 17) hx hb dJ7_copyOfRange_39247_7 (by decide) (fun c24 => ?_) (fun c24 => ?_)
    · replace hf := ifT c24 hf
      refine lv_aload_n hx hb dJ7_copyOfRange_39247_17 rfl (lv_at hl 0 rfl) ?_
      replace hf := ckE hf
      obtain ⟨h31, hf⟩ := hf
      refine x_clone (len := 1024) hC (hml.trans hl.1.symm) hGs w_0 w_1 w_2 w_3 w_4 hW hS hA tp0 rfl h31 (Nat.le_of_ble_eq_true rfl) (Nat.le_of_ble_eq_true rfl) (Nat.le_of_ble_eq_true rfl) (Nat.le_of_ble_eq_true rfl) dJ7_copyOfRange_39247_18 (fun q25 ad26 K27 S28 H eS28 hag30 eqq25 ekq25 hW hS => ?_)
      replace hf := ltE hf S28 eS28
      obtain ⟨n29, en29⟩ : ∃ z, z = n + 1 := ⟨_, rfl⟩
      rw [← en29] at hag30 hW
      replace hf := ltE hf n29 en29
      have tq25 : n < n29 ∧ K27 n = 11 := ⟨by omega, ekq25⟩
      have g32 := hag30.t tp0
      have g33 := hag30.e tp0 rfl
      have ag34 := (Ag.rf).tr hag30
      refine W.widen (k := 1) (n := 1024) (by omega) (by omega) ?_
      refine x_castB hC hW tq25 eqq25 w_5 dJ7_copyOfRange_39247_21 ?_
      obtain ⟨e1, e2, e3⟩ := so3 hf
      subst e1
      subst e2
      subst e3
      exact W.aret hx hb hr (Or.inr ⟨_, rfl⟩) (Or.inr ⟨_, rfl⟩) (fun t ht hWm => ⟨⟨ad26, K27, congrArg (fun z => Outcome.returned (some (Value.ref z))) eqq25, ag34, (fun _ h => by cases h; exact tq25), by rw [ht]; exact hW⟩, hS.F ht⟩) hS.2.2 dJ7_copyOfRange_39247_24 hlk
    · replace hf := ifF c24 hf
      exact L10 ad K n Ag.rf S0 p0 p1 p2 tp0 _ _ _ hf hW hS (lv_sub hl [0, 1, 2] rfl)
set_option maxHeartbeats 4000000 in
set_option maxRecDepth 100000 in
theorem c_J0_init_db425 (l : Launch) (g : GP) (ad : Nat → Nat) (n : Nat) (K : Nat → Nat) (sz F : Nat) (S0 : St) (p0 : Nat) (p1 : Nat) (tp0 : p0 < n ∧ K p0 = 18) (tp1 : p1 < n ∧ K p1 = 10) (S9 : St) (n9 : Nat) (hf : f_J0_init_db425 F S0 n p0 p1 = some (S9, n9)) : Met l yJ0_init_db425 wsJ0_init_db425 { frames := 3, cells := 1, slots := 1024, locals := 86 } (va_Pc [.ref (ad p0), .ref (ad p1), .null] (PB g ad n K S0 sz)) (QA ad K n (fun _ => none) g n9 S9 (dA ad n sz) (fun _ => True)) 1 1024 (dA ad n sz) := by
  refine Met.ofW (cc := cJ0_init_db425) (maxL := 5) (ret := none) (by decide) rfl ?_
  intro p e s m args below meth c s₁ B hml hv
  obtain ⟨rfl, hsz, hW, hK, hGs⟩ := x_start hv
  subst hsz
  have hx := B.exec
  have hb := B.bytes
  have hr := B.returns
  have hts := atoms_spec (ws := wsJ0_init_db425) B.pre
  have hown : s.vm.findClass RJ0 = some m.cls := findClass_of_methodNamed B.named
  have hlk := B.notSynchronized
  have hinI : meth.name = "<init>" := (name_of_methodNamed B.named B.method).1
  have hC : Cx g p s m _ c cJ0_init_db425 RJ0 wsJ0_init_db425 5 := ⟨hx, hb, hml, hown, hts, hK⟩
  have hA : ∀ q : Nat, s.heap.size ≤ q → dA ad n s.heap.size q := fun q h => Or.inr h
  have hS : va_S (dA ad n s.heap.size) s.heap s.heap [] := va_S.rf
  have hl := lv_entry ([.ref (ad p0), .ref (ad p1), .null]) (n := 5) (Nat.le_of_ble_eq_true rfl)
  rw [lg_entry_eq]
  generalize (lg_sl ([.ref (ad p0), .ref (ad p1), .null]) ++ List.replicate (5 - (lg_sl ([.ref (ad p0), .ref (ad p1), .null])).length) Slot.unset).toArray = ls at hl ⊢
  have hl : lv_has ls 5 [(0, .ref (ad p0)), (1, .ref (ad p1)), (2, .null)] := hl
  have hinJ0 : ∀ w ∈ wsJ00, w ∈ wsJ0_init_db425 := by decide +kernel
  have hinJ4 : ∀ w ∈ wsJ40, w ∈ wsJ0_init_db425 := by decide +kernel
  have w_0 := hts (.fieldLink RJ0 15 "java/lang/String" "coder" "B") (by decide +kernel)
  have w_1 := hts (.fieldLink RJ0 9 "java/lang/String" "value" "[B") (by decide +kernel)
  have w_2 := hts (.methodLink RJ0 1 objectInit) (by decide +kernel)
  have w_3 := hts (.instanceMethod objectInit) (by decide +kernel)
  have w_4 := hts (.code objectInit ⟨#[0xb1]⟩ 1 none) (by decide +kernel)
  have w_5 := hts (.fieldLink RJ0 38 "java/lang/String" "COMPACT_STRINGS" "Z") (by decide +kernel)
  have w_6 := hts (.fieldLink RJ0 1048 "java/lang/AbstractStringBuilder" "maybeLatin1" "Z") (by decide +kernel)
  have hGE := hGs.2.2.2.1
  have hGM := hGs.2.2.2.2
  have L79 : ∀ (adL KL : Nat → Nat) (nL : Nat) (hagL : Ag ad K n adL KL nL) (S0 : St) (v0 : Nat) (v3 : Nat) (v4 : Int32) (tv0 : v0 < nL ∧ KL v0 = 18) (tv3 : v3 < nL ∧ KL v3 = 11) (H : Heap) (locs : List Loc) (ls : Array Slot), f_J0_init_db425_L79 F S0 nL v0 v3 v4 = some (S9, n9) → Wb g adL nL KL S0 (dA ad n s.heap.size) H → va_S (dA ad n s.heap.size) s.heap H locs → lv_has ls 5 [(0, .ref (adL v0)), (3, .ref (adL v3)), (4, .int v4)] → W p l e (headSpec wsJ0_init_db425 { frames := 3, cells := 1, slots := 1024, locals := 86 }).room s m (List.toArray [.ref (ad p0), .ref (ad p1), .null]) below meth c H locs 0 0 (MQ below (QA ad K n (fun _ => none) g n9 S9 (dA ad n s.heap.size) (fun _ => True)) (List.toArray [.ref (ad p0), .ref (ad p1), .null]) s 1 1024 (dA ad n s.heap.size)) (F0 m 79 ls []) := by
    intro adL KL nL hagL S0 v0 v3 v4 tv0 tv3 H locs ls hf hW hS hl
    unfold f_J0_init_db425_L79 at hf
    refine lv_aload_n hx hb dJ0_init_db425_79 rfl (lv_at hl 0 rfl) ?_
    refine lv_iconst (v := 1) hx hb dJ0_init_db425_80 (by decide) ?_
    refine x_putiF 1801 (ci := 18) (C := RJ0) (T := TJ0) (N := 4) (v := 1) (ty := .byte) 1 hC hinJ0 tyJ0_ok nmJ0 hW hS tv0 rfl rfl ⟨by decide, by decide, rfl, rfl⟩ rfl w_0 rfl hinI rfl (by decide +kernel) rfl rfl dJ0_init_db425_81 (fun S16 H locs eS16 hW hS => ?_)
    replace hf := ltE hf S16 eS16
    refine lv_aload_n hx hb dJ0_init_db425_84 rfl (lv_at hl 0 rfl) ?_
    refine lv_aload_n hx hb dJ0_init_db425_85 rfl (lv_at hl 1 rfl) ?_
    refine lv_iconst (v := 0) hx hb dJ0_init_db425_86 (by decide) ?_
    refine lv_iload hx hb dJ0_init_db425_87 (lv_at hl 2 rfl) ?_
    refine lv_iconst (v := 1) hx hb dJ0_init_db425_89 (by decide) ?_
    refine lv_ishl hx hb dJ0_init_db425_90 ?_
    replace hf := obE hf
    obtain ⟨z17, hz17, hf⟩ := hf
    obtain ⟨r19, S18, n20⟩ := z17
    replace hf := ltE (ltE (ltE hf r19 rfl) S18 rfl) n20 rfl
    refine x_acallS (As := [.ref (adL v3), .int 0, .int (v4 <<< (1 &&& 31))]) (rest := [.ref (adL v0)]) (S1 := S18) (n1 := n20) (o := (fun a => some (va_re a r19))) (P := (fun K9 => ∀ j, r19 = some j → j < n20 ∧ K9 j = 11)) hC hl.1 hW hS hGs hA (c_J7_copyOfRange_39247 l g adL nL KL H.size F S16 v3 ((0 : Int32)) (v4 <<< (1 &&& 31)) tv3 r19 S18 n20 hz17) (va_cwS 3 hts gJ0_init_db425_J7_copyOfRange_39247 rfl rfl rfl (by decide +kernel) ⟨Nat.le_of_ble_eq_true rfl, Nat.le_of_ble_eq_true rfl⟩) rfl rfl (Nat.le_of_ble_eq_true rfl) dJ0_init_db425_91 ⟨(Nat.le_of_ble_eq_true rfl), (Nat.le_of_ble_eq_true rfl)⟩ (fun ad21 K22 H locs hag23 hPz17 hW hS => ?_)
    have g24 := hag23.t tv0
    have g25 := hag23.e tv0 rfl
    have g26 := hag23.t tv3
    have g27 := hag23.e tv3 rfl
    have ag28 := (hagL).tr hag23
    refine W.widen (k := 1) (n := 1024) (by omega) (by omega) ?_
    replace hf := obE hf
    obtain ⟨j29, qj29, hf⟩ := hf
    have tj29 := hPz17 j29 qj29
    refine W.eq (g2 := F0 m 94 ls [.ref (ad21 j29), .ref (adL v0)]) (by rw [qj29]; rfl) ?_
    refine x_putrF 1800 (ci := 18) (C := RJ0) (T := TJ0) (N := 4) (ty := (.array .byte)) 0 hC hinJ0 tyJ0_ok nmJ0 hW hS g24 g25 tj29 rfl rfl rfl ⟨by decide, by decide, rfl, rfl⟩ rfl w_1 rfl hinI rfl (by decide +kernel) rfl rfl dJ0_init_db425_94 (fun S30 H locs eS30 hW hS => ?_)
    replace hf := ltE hf S30 eS30
    obtain ⟨e1, e2⟩ := so2 hf
    subst e1
    subst e2
    exact W.vret hx hb hr (fun t ht hWm => ⟨⟨ad21, K22, rfl, ag28, trivial, by rw [ht]; exact hW⟩, hS.F ht⟩) hS.2.2 dJ0_init_db425_97 hlk
  unfold f_J0_init_db425 at hf
  refine lv_aload_n hx hb dJ0_init_db425_0 rfl (lv_at hl 0 rfl) ?_
  refine W.objInit hx hb hown w_2 w_3 w_4 rfl (by rw [hml]; exact hl.1) rfl dJ0_init_db425_1 (Nat.le_of_ble_eq_true rfl) (Nat.le_of_ble_eq_true rfl) ?_
  refine W.eq (g2 := F0 m 4 ls []) rfl ?_
  refine lv_aload_n hx hb dJ0_init_db425_4 rfl (lv_at hl 1 rfl) ?_
  replace hf := obE hf
  obtain ⟨z31, hz31, hf⟩ := hf
  obtain ⟨r33, S32⟩ := z31
  replace hf := ltE (ltE hf r33 rfl) S32 rfl
  refine x_callU (As := []) (rest := []) (o := (some (va_re ad r33))) (S1 := S32) hC hl.1 hW hS hGs hA tp1 rfl (show vwCl[10]? = some (RJ4, TJ4, 4) ∧ ob 10 from ⟨rfl, by decide⟩) (c_J5_getValue_6d5f1 l g ad n K s.heap.size F S0 p1 tp1 r33 S32 hz31) (va_cwU 0 hts gJ0_init_db425_J5_getValue_6d5f1_u552J4 rfl rfl rfl rfl (by decide +kernel) ⟨Nat.le_of_ble_eq_true rfl, Nat.le_of_ble_eq_true rfl⟩) rfl rfl (Nat.le_of_ble_eq_true rfl) dJ0_init_db425_5 ⟨Nat.le_of_ble_eq_true rfl, Nat.le_of_ble_eq_true rfl⟩ (fun H locs hPz31 hW hS => ?_)
  replace hf := obE hf
  obtain ⟨j35, qj35, hf⟩ := hf
  have tj35 := hPz31 j35 qj35
  refine W.eq (g2 := F0 m 8 ls [.ref (ad j35)]) (by rw [qj35]; rfl) ?_
  refine lv_astore_n (lv' := [(3, .ref (ad j35)), (0, .ref (ad p0)), (1, .ref (ad p1)), (2, .null)]) hx hb dJ0_init_db425_8 rfl hl (by decide) rfl (fun ls hl => ?_)
  refine lv_aload_n hx hb dJ0_init_db425_9 rfl (lv_at hl 2 rfl) ?_
  replace hf := obE hf
  obtain ⟨z36, hz36, hf⟩ := hf
  obtain ⟨r38, S37⟩ := z36
  replace hf := ltE (ltE hf r38 rfl) S37 rfl
  refine x_callU (As := []) (rest := []) (o := (some (.int r38))) (S1 := S37) hC hl.1 hW hS hGs hA tp1 rfl (show vwCl[10]? = some (RJ4, TJ4, 4) ∧ ob 10 from ⟨rfl, by decide⟩) (c_J4_length_8abf5 l g ad n K H.size F S32 p1 tp1 r38 S37 hz36) (va_cwO 0 hts gJ0_init_db425_J4_length_8abf5_u549J4 rfl rfl rfl (show Cond.code yJ5_length_8abf5 cJ5_length_8abf5 1 (some .int) ∈ wsJ0_init_db425 by decide +kernel) (by decide +kernel) ⟨Nat.le_of_ble_eq_true rfl, Nat.le_of_ble_eq_true rfl⟩) rfl rfl (Nat.le_of_ble_eq_true rfl) dJ0_init_db425_10 ⟨Nat.le_of_ble_eq_true rfl, Nat.le_of_ble_eq_true rfl⟩ (fun H locs hPz36 hW hS => ?_)
  refine W.eq (g2 := F0 m 13 ls [.int r38]) rfl ?_
  refine lv_istore (lv' := [(4, .int r38), (3, .ref (ad j35)), (0, .ref (ad p0)), (1, .ref (ad p1)), (2, .null)]) hx hb dJ0_init_db425_13 hl (by decide) rfl (fun ls hl => ?_)
  refine lv_aload_n hx hb dJ0_init_db425_15 rfl (lv_at hl 3 rfl) ?_
  replace hf := obE hf
  obtain ⟨z40, hz40, hf⟩ := hf
  obtain ⟨r42, S41⟩ := z40
  replace hf := ltE (ltE hf r42 rfl) S41 rfl
  refine x_callU (As := []) (rest := []) (o := (some (.int r42))) (S1 := S41) hC hl.1 hW hS hGs hA tp1 rfl (show vwCl[10]? = some (RJ4, TJ4, 4) ∧ ob 10 from ⟨rfl, by decide⟩) (c_J5_isLatin1_aae02 l g ad n K H.size F S37 p1 tp1 r42 S41 hz40) (va_cwU 0 hts gJ0_init_db425_J5_isLatin1_aae02_u1047J4 rfl rfl rfl rfl (by decide +kernel) ⟨Nat.le_of_ble_eq_true rfl, Nat.le_of_ble_eq_true rfl⟩) rfl rfl (Nat.le_of_ble_eq_true rfl) dJ0_init_db425_16 ⟨Nat.le_of_ble_eq_true rfl, Nat.le_of_ble_eq_true rfl⟩ (fun H locs hPz40 hW hS => ?_)
  refine W.eq (g2 := F0 m 19 ls [.int r42]) rfl ?_
  refine lv_if_eq (tgt := 41) hx hb dJ0_init_db425_19 (by decide) (fun c44 => ?_) (fun c44 => ?_)
  · replace hf := ifT c44 hf
    refine x_getsC hC hGM hS w_5 dJ0_init_db425_41 ?_
    refine lv_if_eq (tgt := 79) hx hb dJ0_init_db425_44 (by decide) (fun c45 => ?_) (fun c45 => ?_)
    · replace hf := ifT c45 hf
      exact L79 ad K n Ag.rf S41 p0 j35 r38 tp0 tj35 _ _ _ hf hW hS (lv_sub hl [2, 1, 0] rfl)
    · replace hf := ifF c45 hf
      refine lv_aload_n hx hb dJ0_init_db425_47 rfl (lv_at hl 3 rfl) ?_
      refine x_geti 1002 (ci := 10) (C := RJ4) (T := TJ4) (N := 4) 2 hC hinJ4 hW tp1 rfl rfl ⟨by decide, by decide, rfl, rfl⟩ rfl w_6 dJ0_init_db425_48 ?_
      refine lv_if_eq (tgt := 79) hx hb dJ0_init_db425_51 (by decide) (fun c46 => ?_) (fun c46 => ?_)
      · replace hf := ifT c46 hf
        exact L79 ad K n Ag.rf S41 p0 j35 r38 tp0 tj35 _ _ _ hf hW hS (lv_sub hl [2, 1, 0] rfl)
      · replace hf := ifF c46 hf
        refine lv_aload_n hx hb dJ0_init_db425_54 rfl (lv_at hl 2 rfl) ?_
        refine lv_aload_n hx hb dJ0_init_db425_55 rfl (lv_at hl 1 rfl) ?_
        refine lv_iconst (v := 0) hx hb dJ0_init_db425_56 (by decide) ?_
        refine lv_iload hx hb dJ0_init_db425_57 (lv_at hl 0 rfl) ?_
        cases hf
  · replace hf := ifF c44 hf
    refine lv_aload_n hx hb dJ0_init_db425_22 rfl (lv_at hl 2 rfl) ?_
    refine lv_iconst (v := 0) hx hb dJ0_init_db425_23 (by decide) ?_
    refine x_putiF 1801 (ci := 18) (C := RJ0) (T := TJ0) (N := 4) (v := 0) (ty := .byte) 1 hC hinJ0 tyJ0_ok nmJ0 hW hS tp0 rfl rfl ⟨by decide, by decide, rfl, rfl⟩ rfl w_0 rfl hinI rfl (by decide +kernel) rfl rfl dJ0_init_db425_24 (fun S47 H locs eS47 hW hS => ?_)
    replace hf := ltE hf S47 eS47
    refine lv_aload_n hx hb dJ0_init_db425_27 rfl (lv_at hl 2 rfl) ?_
    refine lv_aload_n hx hb dJ0_init_db425_28 rfl (lv_at hl 1 rfl) ?_
    refine lv_iconst (v := 0) hx hb dJ0_init_db425_29 (by decide) ?_
    refine lv_iload hx hb dJ0_init_db425_30 (lv_at hl 0 rfl) ?_
    replace hf := obE hf
    obtain ⟨z48, hz48, hf⟩ := hf
    obtain ⟨r50, S49, n51⟩ := z48
    replace hf := ltE (ltE (ltE hf r50 rfl) S49 rfl) n51 rfl
    refine x_acallS (As := [.ref (ad j35), .int 0, .int r38]) (rest := [.ref (ad p0)]) (S1 := S49) (n1 := n51) (o := (fun a => some (va_re a r50))) (P := (fun K9 => ∀ j, r50 = some j → j < n51 ∧ K9 j = 11)) hC hl.1 hW hS hGs hA (c_J7_copyOfRange_39247 l g ad n K H.size F S47 j35 ((0 : Int32)) r38 tj35 r50 S49 n51 hz48) (va_cwS 3 hts gJ0_init_db425_J7_copyOfRange_39247 rfl rfl rfl (by decide +kernel) ⟨Nat.le_of_ble_eq_true rfl, Nat.le_of_ble_eq_true rfl⟩) rfl rfl (Nat.le_of_ble_eq_true rfl) dJ0_init_db425_32 ⟨(Nat.le_of_ble_eq_true rfl), (Nat.le_of_ble_eq_true rfl)⟩ (fun ad52 K53 H locs hag54 hPz48 hW hS => ?_)
    have g55 := hag54.t tj35
    have g56 := hag54.e tj35 rfl
    have g57 := hag54.t tp0
    have g58 := hag54.e tp0 rfl
    have g59 := hag54.t tp1
    have g60 := hag54.e tp1 rfl
    have ag61 := (Ag.rf).tr hag54
    refine W.widen (k := 1) (n := 1024) (by omega) (by omega) ?_
    replace hf := obE hf
    obtain ⟨j62, qj62, hf⟩ := hf
    have tj62 := hPz48 j62 qj62
    refine W.eq (g2 := F0 m 35 ls [.ref (ad52 j62), .ref (ad p0)]) (by rw [qj62]; rfl) ?_
    refine x_putrF 1800 (ci := 18) (C := RJ0) (T := TJ0) (N := 4) (ty := (.array .byte)) 0 hC hinJ0 tyJ0_ok nmJ0 hW hS g57 g58 tj62 rfl rfl rfl ⟨by decide, by decide, rfl, rfl⟩ rfl w_1 rfl hinI rfl (by decide +kernel) rfl rfl dJ0_init_db425_35 (fun S63 H locs eS63 hW hS => ?_)
    replace hf := ltE hf S63 eS63
    refine lv_goto (tgt := 97) hx hb dJ0_init_db425_38 (by decide) ?_
    obtain ⟨e1, e2⟩ := so2 hf
    subst e1
    subst e2
    exact W.vret hx hb hr (fun t ht hWm => ⟨⟨ad52, K53, rfl, ag61, trivial, by rw [ht]; exact hW⟩, hS.F ht⟩) hS.2.2 dJ0_init_db425_97 hlk
set_option maxHeartbeats 4000000 in
set_option maxRecDepth 100000 in
theorem c_J0_init_81219 (l : Launch) (g : GP) (ad : Nat → Nat) (n : Nat) (K : Nat → Nat) (sz F : Nat) (S0 : St) (p0 : Nat) (p1 : Nat) (tp0 : p0 < n ∧ K p0 = 18) (tp1 : p1 < n ∧ K p1 = 10) (S9 : St) (n9 : Nat) (hf : f_J0_init_81219 F S0 n p0 p1 = some (S9, n9)) : Met l yJ0_init_81219 wsJ0_init_81219 { frames := 4, cells := 1, slots := 1024, locals := 110 } (va_Pc [.ref (ad p0), .ref (ad p1)] (PB g ad n K S0 sz)) (QA ad K n (fun _ => none) g n9 S9 (dA ad n sz) (fun _ => True)) 1 1024 (dA ad n sz) := by
  refine Met.ofW (cc := cJ0_init_81219) (maxL := 2) (ret := none) (by decide) rfl ?_
  intro p e s m args below meth c s₁ B hml hv
  obtain ⟨rfl, hsz, hW, hK, hGs⟩ := x_start hv
  subst hsz
  have hx := B.exec
  have hb := B.bytes
  have hr := B.returns
  have hts := atoms_spec (ws := wsJ0_init_81219) B.pre
  have hown : s.vm.findClass RJ0 = some m.cls := findClass_of_methodNamed B.named
  have hlk := B.notSynchronized
  have hinI : meth.name = "<init>" := (name_of_methodNamed B.named B.method).1
  have hC : Cx g p s m _ c cJ0_init_81219 RJ0 wsJ0_init_81219 2 := ⟨hx, hb, hml, hown, hts, hK⟩
  have hA : ∀ q : Nat, s.heap.size ≤ q → dA ad n s.heap.size q := fun q h => Or.inr h
  have hS : va_S (dA ad n s.heap.size) s.heap s.heap [] := va_S.rf
  have hl := lv_entry ([.ref (ad p0), .ref (ad p1)]) (n := 2) (Nat.le_of_ble_eq_true rfl)
  rw [lg_entry_eq]
  generalize (lg_sl ([.ref (ad p0), .ref (ad p1)]) ++ List.replicate (2 - (lg_sl ([.ref (ad p0), .ref (ad p1)])).length) Slot.unset).toArray = ls at hl ⊢
  have hl : lv_has ls 2 [(0, .ref (ad p0)), (1, .ref (ad p1))] := hl
  have w_0 := hts (.methodLink RJ0 489 yJ0_init_db425) (by decide +kernel)
  have w_1 := hts (.initialized RJ0) (by decide +kernel)
  have w_2 := hts (.instanceMethod yJ0_init_db425) (by decide +kernel)
  have hGE := hGs.2.2.2.1
  have hGM := hGs.2.2.2.2
  unfold f_J0_init_81219 at hf
  refine lv_aload_n hx hb dJ0_init_81219_0 rfl (lv_at hl 0 rfl) ?_
  refine lv_aload_n hx hb dJ0_init_81219_1 rfl (lv_at hl 1 rfl) ?_
  refine lv_null hx hb dJ0_init_81219_2 ?_
  replace hf := obE hf
  obtain ⟨z1, hz1, hf⟩ := hf
  obtain ⟨S2, n4⟩ := z1
  replace hf := ltE (ltE hf S2 rfl) n4 rfl
  refine x_acallI (As := [.ref (ad p1), .null]) (rest := []) (S1 := S2) (n1 := n4) (o := (fun _ => none)) (P := (fun _ => True)) hC hl.1 hW hS hGs hA (c_J0_init_db425 l g ad n K s.heap.size F S0 p0 p1 tp0 tp1 S2 n4 hz1) (cwI 2 hts gJ0_init_81219_J0_init_db425 rfl rfl rfl w_1 w_0 w_2 rfl (by decide +kernel) ⟨Nat.le_of_ble_eq_true rfl, Nat.le_of_ble_eq_true rfl⟩) rfl rfl (Nat.le_of_ble_eq_true rfl) dJ0_init_81219_3 ⟨(Nat.le_of_ble_eq_true rfl), (Nat.le_of_ble_eq_true rfl)⟩ (fun ad5 K6 H locs hag7 hPz1 hW hS => ?_)
  have g8 := hag7.t tp0
  have g9 := hag7.e tp0 rfl
  have g10 := hag7.t tp1
  have g11 := hag7.e tp1 rfl
  have ag12 := (Ag.rf).tr hag7
  refine W.widen (k := 1) (n := 1024) (by omega) (by omega) ?_
  refine W.eq (g2 := F0 m 6 ls []) rfl ?_
  obtain ⟨e1, e2⟩ := so2 hf
  subst e1
  subst e2
  exact W.vret hx hb hr (fun t ht hWm => ⟨⟨ad5, K6, rfl, ag12, trivial, by rw [ht]; exact hW⟩, hS.F ht⟩) hS.2.2 dJ0_init_81219_6 hlk
set_option maxHeartbeats 4000000 in
set_option maxRecDepth 100000 in
theorem c_J4_toString_0e30d (l : Launch) (g : GP) (ad : Nat → Nat) (n : Nat) (K : Nat → Nat) (sz F : Nat) (S0 : St) (p0 : Nat) (tp0 : p0 < n ∧ K p0 = 10) (r9 : Nat) (S9 : St) (n9 : Nat) (hf : f_J4_toString_0e30d F S0 n p0 = some (r9, S9, n9)) : Met l yJ4_toString_0e30d wsJ4_toString_0e30d { frames := 5, cells := 2, slots := 1028, locals := 131 } (va_Pc [.ref (ad p0)] (PB g ad n K S0 sz)) (QA ad K n (fun a => some (.ref (sad g a r9))) g n9 S9 (dA ad n sz) (fun K9 => tS 18 n9 K9 r9)) 2 1028 (dA ad n sz) := by
  refine Met.ofW (cc := cJ4_toString_0e30d) (maxL := 1) (ret := (some (.object "java/lang/String"))) (by decide) rfl ?_
  intro p e s m args below meth c s₁ B hml hv
  obtain ⟨rfl, hsz, hW, hK, hGs⟩ := x_start hv
  subst hsz
  have hx := B.exec
  have hb := B.bytes
  have hr := B.returns
  have hts := atoms_spec (ws := wsJ4_toString_0e30d) B.pre
  have hown : s.vm.findClass RJ4 = some m.cls := findClass_of_methodNamed B.named
  have hlk := B.notSynchronized
  have hC : Cx g p s m _ c cJ4_toString_0e30d RJ4 wsJ4_toString_0e30d 1 := ⟨hx, hb, hml, hown, hts, hK⟩
  have hA : ∀ q : Nat, s.heap.size ≤ q → dA ad n s.heap.size q := fun q h => Or.inr h
  have hS : va_S (dA ad n s.heap.size) s.heap s.heap [] := va_S.rf
  have hl := lv_entry ([.ref (ad p0)]) (n := 1) (Nat.le_of_ble_eq_true rfl)
  rw [lg_entry_eq]
  generalize (lg_sl ([.ref (ad p0)]) ++ List.replicate (1 - (lg_sl ([.ref (ad p0)])).length) Slot.unset).toArray = ls at hl ⊢
  have hl : lv_has ls 1 [(0, .ref (ad p0))] := hl
  have hinJ0 : ∀ w ∈ wsJ00, w ∈ wsJ4_toString_0e30d := by decide +kernel
  have w_0 := hts (.classLink RJ4 18 RJ0) (by decide +kernel)
  have w_1 := hts (.instantiable RJ0 4) (by decide +kernel)
  have w_2 := hts (.initialized RJ0) (by decide +kernel)
  have w_3 := hts (.methodLink RJ4 137 yJ0_init_81219) (by decide +kernel)
  have w_4 := hts (.instanceMethod yJ0_init_81219) (by decide +kernel)
  have hGE := hGs.2.2.2.1
  have hGM := hGs.2.2.2.2
  unfold f_J4_toString_0e30d at hf
  refine x_new (ci := 18) (C := RJ0) (T := TJ0) (N := 4) hC hinJ0 tyJ0_ok hW hS hA ⟨rfl, by decide, by decide⟩ (by decide +kernel) w_0 w_1 w_2 (Nat.le_of_ble_eq_true rfl) (Nat.le_of_ble_eq_true rfl) dJ4_toString_0e30d_0 (fun q1 ad2 K3 S4 H eS4 hag6 eqq1 ekq1 hW hS => ?_)
  replace hf := ltE hf S4 eS4
  obtain ⟨n5, en5⟩ : ∃ z, z = n + 1 := ⟨_, rfl⟩
  rw [← en5] at hag6 hW
  replace hf := ltE hf n5 en5
  have tq1 : n < n5 ∧ K3 n = 18 := ⟨by omega, ekq1⟩
  have g7 := hag6.t tp0
  have g8 := hag6.e tp0 rfl
  have ag9 := (Ag.rf).tr hag6
  refine W.widen (k := 1) (n := 4) (by omega) (by omega) ?_
  refine lv_dup hx hb dJ4_toString_0e30d_3 rfl ?_
  refine lv_aload_n hx hb dJ4_toString_0e30d_4 rfl (lv_at hl 0 rfl) ?_
  replace hf := obE hf
  obtain ⟨z10, hz10, hf⟩ := hf
  obtain ⟨S11, n13⟩ := z10
  replace hf := ltE (ltE hf S11 rfl) n13 rfl
  refine x_acallI (As := [.ref (ad2 p0)]) (rest := [.ref (q1)]) (S1 := S11) (n1 := n13) (o := (fun _ => none)) (P := (fun _ => True)) hC hl.1 hW hS hGs hA (c_J0_init_81219 l g ad2 n5 K3 H.size F S4 n p0 tq1 g7 S11 n13 hz10) (cwI 1 hts gJ4_toString_0e30d_J0_init_81219 rfl rfl rfl w_2 w_3 w_4 rfl (by decide +kernel) ⟨Nat.le_of_ble_eq_true rfl, Nat.le_of_ble_eq_true rfl⟩) rfl (by rw [g8, eqq1] <;> rfl) (Nat.le_of_ble_eq_true rfl) dJ4_toString_0e30d_5 ⟨(Nat.le_of_ble_eq_true rfl), (Nat.le_of_ble_eq_true rfl)⟩ (fun ad14 K15 H locs hag16 hPz10 hW hS => ?_)
  have g17 := hag16.t g7
  have g18 := hag16.e g7 g8
  have g19 := hag16.t tq1
  have g20 := hag16.e tq1 eqq1
  have ag21 := (ag9).tr hag16
  refine W.widen (k := 2) (n := 1028) (by omega) (by omega) ?_
  refine W.eq (g2 := F0 m 8 ls [.ref (q1)]) rfl ?_
  obtain ⟨e1, e2, e3⟩ := so3 hf
  subst e1
  subst e2
  subst e3
  exact W.aret hx hb hr (Or.inl ⟨_, rfl⟩) (Or.inr ⟨_, rfl⟩) (fun t ht hWm => ⟨⟨ad14, K15, congrArg (fun z => Outcome.returned (some (Value.ref z))) (g20.trans sad_o), ag21, (tS_o g19), by rw [ht]; exact hW⟩, hS.F ht⟩) hS.2.2 dJ4_toString_0e30d_8 hlk
set_option maxHeartbeats 4000000 in
set_option maxRecDepth 100000 in
theorem c_J5_init_d00df (l : Launch) (g : GP) (ad : Nat → Nat) (n : Nat) (K : Nat → Nat) (sz F : Nat) (S0 : St) (p0 : Nat) (p1 : Int32) (tp0 : p0 < n ∧ K p0 = 10) (S9 : St) (n9 : Nat) (hf : f_J5_init_d00df F S0 n p0 p1 = some (S9, n9)) : Met l yJ5_init_d00df wsJ5_init_d00df { frames := 1, cells := 1, slots := 32, locals := 20 } (va_Pc [.ref (ad p0), .int p1] (PB g ad n K S0 sz)) (QA ad K n (fun _ => none) g n9 S9 (dA ad n sz) (fun _ => True)) 1 32 (dA ad n sz) := by
  refine Met.ofW (cc := cJ5_init_d00df) (maxL := 2) (ret := none) (by decide) rfl ?_
  intro p e s m args below meth c s₁ B hml hv
  obtain ⟨rfl, hsz, hW, hK, hGs⟩ := x_start hv
  subst hsz
  have hx := B.exec
  have hb := B.bytes
  have hr := B.returns
  have hts := atoms_spec (ws := wsJ5_init_d00df) B.pre
  have hown : s.vm.findClass RJ5 = some m.cls := findClass_of_methodNamed B.named
  have hlk := B.notSynchronized
  have hinI : meth.name = "<init>" := (name_of_methodNamed B.named B.method).1
  have hC : Cx g p s m _ c cJ5_init_d00df RJ5 wsJ5_init_d00df 2 := ⟨hx, hb, hml, hown, hts, hK⟩
  have hA : ∀ q : Nat, s.heap.size ≤ q → dA ad n s.heap.size q := fun q h => Or.inr h
  have hS : va_S (dA ad n s.heap.size) s.heap s.heap [] := va_S.rf
  have hl := lv_entry ([.ref (ad p0), .int p1]) (n := 2) (Nat.le_of_ble_eq_true rfl)
  rw [lg_entry_eq]
  generalize (lg_sl ([.ref (ad p0), .int p1]) ++ List.replicate (2 - (lg_sl ([.ref (ad p0), .int p1])).length) Slot.unset).toArray = ls at hl ⊢
  have hl : lv_has ls 2 [(0, .ref (ad p0)), (1, .int p1)] := hl
  have hinJ4 : ∀ w ∈ wsJ40, w ∈ wsJ5_init_d00df := by decide +kernel
  have w_0 := hts (.methodLink RJ5 3 objectInit) (by decide +kernel)
  have w_1 := hts (.instanceMethod objectInit) (by decide +kernel)
  have w_2 := hts (.code objectInit ⟨#[0xb1]⟩ 1 none) (by decide +kernel)
  have w_3 := hts (.fieldLink RJ5 18 "java/lang/String" "COMPACT_STRINGS" "Z") (by decide +kernel)
  have w_4 := hts (.arrayClass .byte) (by decide +kernel)
  have w_5 := hts (.fieldLink RJ5 15 "java/lang/AbstractStringBuilder" "value" "[B") (by decide +kernel)
  have w_6 := hts (.fieldLink RJ5 22 "java/lang/AbstractStringBuilder" "coder" "B") (by decide +kernel)
  have hGE := hGs.2.2.2.1
  have hGM := hGs.2.2.2.2
  unfold f_J5_init_d00df at hf
  refine lv_aload_n hx hb dJ5_init_d00df_0 rfl (lv_at hl 0 rfl) ?_
  refine W.objInit hx hb hown w_0 w_1 w_2 rfl (by rw [hml]; exact hl.1) rfl dJ5_init_d00df_1 (Nat.le_of_ble_eq_true rfl) (Nat.le_of_ble_eq_true rfl) ?_
  refine W.eq (g2 := F0 m 4 ls []) rfl ?_
  refine x_getsC hC hGM hS w_3 dJ5_init_d00df_4 ?_
  refine lv_if_eq (tgt := 25) hx hb dJ5_init_d00df_7 (by decide) (fun c1 => ?_) (fun c1 => ?_)
  · replace hf := ifT c1 hf
    refine lv_aload_n hx hb dJ5_init_d00df_25 rfl (lv_at hl 0 rfl) ?_
    refine lv_iload_n hx hb dJ5_init_d00df_26 rfl (lv_at hl 1 rfl) ?_
    cases hf
  · replace hf := ifF c1 hf
    refine lv_aload_n hx hb dJ5_init_d00df_10 rfl (lv_at hl 0 rfl) ?_
    refine lv_iload_n hx hb dJ5_init_d00df_11 rfl (lv_at hl 1 rfl) ?_
    replace hf := ckE hf
    obtain ⟨h8, hf⟩ := hf
    refine x_newaB (len := Int32.toNatClampNeg p1) hC w_4 hW hS hA h8.1 rfl (by omega) (Nat.le_of_ble_eq_true rfl) (by show 0 + _ ≤ 32; omega) dJ5_init_d00df_12 (fun q2 ad3 K4 S5 H eS5 hag7 eqq2 ekq2 hW hS => ?_)
    replace hf := ltE hf S5 eS5
    obtain ⟨n6, en6⟩ : ∃ z, z = n + 1 := ⟨_, rfl⟩
    rw [← en6] at hag7 hW
    replace hf := ltE hf n6 en6
    have tq2 : n < n6 ∧ K4 n = 11 := ⟨by omega, ekq2⟩
    have g9 := hag7.t tp0
    have g10 := hag7.e tp0 rfl
    have ag11 := (Ag.rf).tr hag7
    refine W.widen (k := 1) (n := 32) (by omega) (by omega) ?_
    refine x_putr 1000 (ci := 10) (C := RJ4) (T := TJ4) (N := 4) (ty := (.array .byte)) 0 hC hinJ4 tyJ4_ok nmJ4 hW hS g9 g10 tq2 eqq2 rfl rfl ⟨by decide, by decide, rfl, rfl⟩ rfl w_5 rfl (by decide +kernel) rfl rfl dJ5_init_d00df_14 (fun S12 H locs eS12 hW hS => ?_)
    replace hf := ltE hf S12 eS12
    refine lv_aload_n hx hb dJ5_init_d00df_17 rfl (lv_at hl 0 rfl) ?_
    refine lv_iconst (v := 0) hx hb dJ5_init_d00df_18 (by decide) ?_
    refine x_puti 1001 (ci := 10) (C := RJ4) (T := TJ4) (N := 4) (v := 0) (ty := .byte) 1 hC hinJ4 tyJ4_ok nmJ4 hW hS g9 g10 rfl ⟨by decide, by decide, rfl, rfl⟩ rfl w_6 rfl (by decide +kernel) rfl rfl dJ5_init_d00df_19 (fun S13 H locs eS13 hW hS => ?_)
    replace hf := ltE hf S13 eS13
    refine lv_goto (tgt := 38) hx hb dJ5_init_d00df_22 (by decide) ?_
    obtain ⟨e1, e2⟩ := so2 hf
    subst e1
    subst e2
    exact W.vret hx hb hr (fun t ht hWm => ⟨⟨ad3, K4, rfl, ag11, trivial, by rw [ht]; exact hW⟩, hS.F ht⟩) hS.2.2 dJ5_init_d00df_38 hlk
