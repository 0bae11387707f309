set_option maxHeartbeats 4000000 in
set_option maxRecDepth 100000 in
theorem c_J4_init_da8c8 (l : Launch) (g : GP) (ad : Nat → Nat) (n : Nat) (K : Nat → Nat) (sz F : Nat) (S0 : St) (p0 : Nat) (tp0 : p0 < n ∧ K p0 = 10) (S9 : St) (n9 : Nat) (hf : f_J4_init_da8c8 F S0 n p0 = some (S9, n9)) : Met l yJ4_init_da8c8 wsJ4_init_da8c8 { frames := 2, cells := 1, slots := 32, locals := 41 } (va_Pc [.ref (ad p0)] (PB g ad n K S0 sz)) (QA ad K n (fun _ => none) g n9 S9 (dA ad n sz) (fun _ => True)) 1 32 (dA ad n sz) := by
  refine Met.ofW (cc := cJ4_init_da8c8) (maxL := 1) (ret := none) (by decide) rfl ?_
  intro p e s m args below meth c s₁ B hml hv
  obtain ⟨rfl, hsz, hW, hK, hGs⟩ := x_start hv
  subst hsz
  have hx := B.exec
  have hb := B.bytes
  have hr := B.returns
  have hts := atoms_spec (ws := wsJ4_init_da8c8) B.pre
  have hown : s.vm.findClass RJ4 = some m.cls := findClass_of_methodNamed B.named
  have hlk := B.notSynchronized
  have hinI : meth.name = "<init>" := (name_of_methodNamed B.named B.method).1
  have hC : Cx g p s m _ c cJ4_init_da8c8 RJ4 wsJ4_init_da8c8 1 := ⟨hx, hb, hml, hown, hts, hK⟩
  have hA : ∀ q : Nat, s.heap.size ≤ q → dA ad n s.heap.size q := fun q h => Or.inr h
  have hS : va_S (dA ad n s.heap.size) s.heap s.heap [] := va_S.rf
  have hl := lv_entry ([.ref (ad p0)]) (n := 1) (Nat.le_of_ble_eq_true rfl)
  rw [lg_entry_eq]
  generalize (lg_sl ([.ref (ad p0)]) ++ List.replicate (1 - (lg_sl ([.ref (ad p0)])).length) Slot.unset).toArray = ls at hl ⊢
  have hl : lv_has ls 1 [(0, .ref (ad p0))] := hl
  have w_0 := hts (.methodLink RJ4 1 yJ5_init_d00df) (by decide +kernel)
  have w_1 := hts (.initialized RJ5) (by decide +kernel)
  have w_2 := hts (.instanceMethod yJ5_init_d00df) (by decide +kernel)
  have hGE := hGs.2.2.2.1
  have hGM := hGs.2.2.2.2
  unfold f_J4_init_da8c8 at hf
  refine lv_aload_n hx hb dJ4_init_da8c8_0 rfl (lv_at hl 0 rfl) ?_
  refine lv_bipush (v := 16) hx hb dJ4_init_da8c8_1 (by decide) ?_
  replace hf := obE hf
  obtain ⟨z1, hz1, hf⟩ := hf
  obtain ⟨S2, n4⟩ := z1
  replace hf := ltE (ltE hf S2 rfl) n4 rfl
  refine x_acallI (As := [.int 16]) (rest := []) (S1 := S2) (n1 := n4) (o := (fun _ => none)) (P := (fun _ => True)) hC hl.1 hW hS hGs hA (c_J5_init_d00df l g ad n K s.heap.size F S0 p0 ((16 : Int32)) tp0 S2 n4 hz1) (cwI 1 hts gJ4_init_da8c8_J5_init_d00df rfl rfl rfl w_1 w_0 w_2 rfl (by decide +kernel) ⟨Nat.le_of_ble_eq_true rfl, Nat.le_of_ble_eq_true rfl⟩) rfl rfl (Nat.le_of_ble_eq_true rfl) dJ4_init_da8c8_3 ⟨(Nat.le_of_ble_eq_true rfl), (Nat.le_of_ble_eq_true rfl)⟩ (fun ad5 K6 H locs hag7 hPz1 hW hS => ?_)
  have g8 := hag7.t tp0
  have g9 := hag7.e tp0 rfl
  have ag10 := (Ag.rf).tr hag7
  refine W.widen (k := 1) (n := 32) (by omega) (by omega) ?_
  refine W.eq (g2 := F0 m 6 ls []) rfl ?_
  obtain ⟨e1, e2⟩ := so2 hf
  subst e1
  subst e2
  exact W.vret hx hb hr (fun t ht hWm => ⟨⟨ad5, K6, rfl, ag10, trivial, by rw [ht]; exact hW⟩, hS.F ht⟩) hS.2.2 dJ4_init_da8c8_6 hlk
