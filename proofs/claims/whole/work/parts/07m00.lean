set_option maxHeartbeats 4000000 in
set_option maxRecDepth 100000 in
theorem c_X5_init (l : Launch) (g : GP) (ad : Nat → Nat) (n : Nat) (K : Nat → Nat) (sz F : Nat) (S0 : St) (p0 : Nat) (p1 : Int32) (tp0 : p0 < n ∧ K p0 = 4) (S9 : St) (n9 : Nat) (hf : f_X5_init F S0 n p0 p1 = some (S9, n9)) : Met l yX5_init wsX5_init { frames := 1, cells := 1, slots := 10, locals := 21 } (va_Pc [.ref (ad p0), .int p1] (PB g ad n K S0 sz)) (QA ad K n (fun _ => none) g n9 S9 (dA ad n sz) (fun _ => True)) 1 10 (dA ad n sz) := by
  refine Met.ofW (cc := cX5_init) (maxL := 2) (ret := none) (by decide) rfl ?_
  intro p e s m args below meth c s₁ B hml hv
  obtain ⟨rfl, hsz, hW, hK, hGs⟩ := x_start hv
  subst hsz
  have hx := B.exec
  have hb := B.bytes
  have hr := B.returns
  have hts := atoms_spec (ws := wsX5_init) B.pre
  have hown : s.vm.findClass RX5 = some m.cls := findClass_of_methodNamed B.named
  have hlk := B.notSynchronized
  have hinI : meth.name = "<init>" := (name_of_methodNamed B.named B.method).1
  have hC : Cx g p s m _ c cX5_init RX5 wsX5_init 2 := ⟨hx, hb, hml, hown, hts, hK⟩
  have hA : ∀ q : Nat, s.heap.size ≤ q → dA ad n s.heap.size q := fun q h => Or.inr h
  have hS : va_S (dA ad n s.heap.size) s.heap s.heap [] := va_S.rf
  have hl := lv_entry ([.ref (ad p0), .int p1]) (n := 2) (Nat.le_of_ble_eq_true rfl)
  rw [lg_entry_eq]
  generalize (lg_sl ([.ref (ad p0), .int p1]) ++ List.replicate (2 - (lg_sl ([.ref (ad p0), .int p1])).length) Slot.unset).toArray = ls at hl ⊢
  have hl : lv_has ls 2 [(0, .ref (ad p0)), (1, .int p1)] := hl
  have hin5 : ∀ w ∈ wsX50, w ∈ wsX5_init := by decide +kernel
  have w_0 := hts (.methodLink RX5 3 objectInit) (by decide +kernel)
  have w_1 := hts (.instanceMethod objectInit) (by decide +kernel)
  have w_2 := hts (.code objectInit ⟨#[0xb1]⟩ 1 none) (by decide +kernel)
  have w_3 := hts (.methodLink RX5 9 Lib.Math.max.name) (by decide +kernel)
  have w_4 := hts (.static Lib.Math.max.name) (by decide +kernel)
  have w_5 := hts (.initialized "java/lang/Math") (by decide +kernel)
  have w_6 := hts (.code Lib.Math.max.name Lib.Math.max.code 2 (some .int)) (by decide +kernel)
  have w_7 := hts (.arrayClass .long) (by decide +kernel)
  have w_8 := hts (.fieldLink RX5 15 "MailSpool$Names" "words" "[J") (by decide +kernel)
  have hGE := hGs.2.2.2.2.2.2.1
  have hGM := hGs.2.2.2.2.2.2.2.1
  unfold f_X5_init at hf
  refine lv_aload_n hx hb dX5_init_0 rfl (lv_at hl 0 rfl) ?_
  refine W.objInit hx hb hown w_0 w_1 w_2 rfl (by rw [hml]; exact hl.1) rfl dX5_init_1 (Nat.le_of_ble_eq_true rfl) (Nat.le_of_ble_eq_true rfl) ?_
  refine W.eq (g2 := F0 m 4 ls []) rfl ?_
  refine lv_aload_n hx hb dX5_init_4 rfl (lv_at hl 0 rfl) ?_
  refine lv_iconst (v := 0) hx hb dX5_init_5 (by decide) ?_
  refine lv_iload_n hx hb dX5_init_6 rfl (lv_at hl 1 rfl) ?_
  refine va_mmax hx hb (hml.trans hl.1.symm) hown w_3 w_4 w_5 w_6 (Nat.le_of_ble_eq_true rfl) (Nat.le_of_ble_eq_true rfl) (Nat.zero_le _) (Nat.zero_le _) dX5_init_7 ?_
  replace hf := ckE hf
  obtain ⟨h7, hf⟩ := hf
  refine x_newaJ (len := Int32.toNatClampNeg (if (0 : Int32) < p1 then p1 else (0 : Int32))) hC w_7 hW hS hA h7.1 rfl (by omega) (Nat.le_of_ble_eq_true rfl) (by show 0 + _ ≤ 10; omega) dX5_init_10 (fun q1 ad2 K3 S4 H eS4 hag6 eqq1 ekq1 hW hS => ?_)
  replace hf := ltE hf S4 eS4
  obtain ⟨n5, en5⟩ : ∃ z, z = n + 1 := ⟨_, rfl⟩
  rw [← en5] at hag6 hW
  replace hf := ltE hf n5 en5
  have tq1 : n < n5 ∧ K3 n = 13 := ⟨by omega, ekq1⟩
  refine W.widen (k := 1) (n := 10) (Nat.le_of_ble_eq_true rfl) (by omega) ?_
  refine x_putrF 400 (ci := 4) (C := RX5) (T := TX5) (N := 2) (ty := (.array .long)) 0 hC hin5 tyX5_ok nmX5 hW hS (hag6.t tp0) (hag6.e tp0 rfl) tq1 eqq1 rfl rfl ⟨by decide, by decide, rfl, rfl⟩ rfl w_8 rfl hinI rfl (by decide +kernel) rfl rfl dX5_init_12 (fun S8 H locs eS8 hW hS => ?_)
  replace hf := ltE hf S8 eS8
  obtain ⟨e1, e2⟩ := so2 hf
  subst e1
  subst e2
  exact W.vret hx hb hr (fun t ht hWm => ⟨⟨ad2, K3, rfl, Ag.rf.tr hag6, trivial, by rw [ht]; exact hW⟩, hS.F ht⟩) hS.2.2 dX5_init_15 hlk
set_option maxHeartbeats 4000000 in
set_option maxRecDepth 100000 in
theorem c_X7_init (l : Launch) (g : GP) (ad : Nat → Nat) (n : Nat) (K : Nat → Nat) (sz F : Nat) (S0 : St) (p0 : Nat) (tp0 : p0 < n ∧ K p0 = 6) (S9 : St) (n9 : Nat) (hf : f_X7_init F S0 n p0 = some (S9, n9)) : Met l yX7_init wsX7_init { frames := 2, cells := 18, slots := 122, locals := 42 } (va_Pc [.ref (ad p0)] (PB g ad n K S0 sz)) (QA ad K n (fun _ => none) g n9 S9 (dA ad n sz) (fun _ => True)) 18 122 (dA ad n sz) := by
  refine Met.ofW (cc := cX7_init) (maxL := 1) (ret := none) (by decide) rfl ?_
  intro p e s m args below meth c s₁ B hml hv
  obtain ⟨rfl, hsz, hW, hK, hGs⟩ := x_start hv
  subst hsz
  have hx := B.exec
  have hb := B.bytes
  have hr := B.returns
  have hts := atoms_spec (ws := wsX7_init) B.pre
  have hown : s.vm.findClass RX7 = some m.cls := findClass_of_methodNamed B.named
  have hlk := B.notSynchronized
  have hinI : meth.name = "<init>" := (name_of_methodNamed B.named B.method).1
  have hC : Cx g p s m _ c cX7_init RX7 wsX7_init 1 := ⟨hx, hb, hml, hown, hts, hK⟩
  have hA : ∀ q : Nat, s.heap.size ≤ q → dA ad n s.heap.size q := fun q h => Or.inr h
  have hS : va_S (dA ad n s.heap.size) s.heap s.heap [] := va_S.rf
  have hl := lv_entry ([.ref (ad p0)]) (n := 1) (Nat.le_of_ble_eq_true rfl)
  rw [lg_entry_eq]
  generalize (lg_sl ([.ref (ad p0)]) ++ List.replicate (1 - (lg_sl ([.ref (ad p0)])).length) Slot.unset).toArray = ls at hl ⊢
  have hl : lv_has ls 1 [(0, .ref (ad p0))] := hl
  have hin5 : ∀ w ∈ wsX50, w ∈ wsX7_init := by decide +kernel
  have hin7 : ∀ w ∈ wsX70, w ∈ wsX7_init := by decide +kernel
  have w_0 := hts (.methodLink RX7 3 objectInit) (by decide +kernel)
  have w_1 := hts (.instanceMethod objectInit) (by decide +kernel)
  have w_2 := hts (.code objectInit ⟨#[0xb1]⟩ 1 none) (by decide +kernel)
  have w_3 := hts (.fieldLink RX7 9 "MailSpool$Rules" "interval" "I") (by decide +kernel)
  have w_4 := hts (.classLink RX7 15 RX5) (by decide +kernel)
  have w_5 := hts (.instantiable RX5 2) (by decide +kernel)
  have w_6 := hts (.initialized RX5) (by decide +kernel)
  have w_7 := hts (.methodLink RX7 17 yX5_init) (by decide +kernel)
  have w_8 := hts (.instanceMethod yX5_init) (by decide +kernel)
  have w_9 := hts (.fieldLink RX7 20 "MailSpool$Rules" "classes" "LMailSpool$Names;") (by decide +kernel)
  have w_10 := hts (.arrayClass .int) (by decide +kernel)
  have w_11 := hts (.fieldLink RX7 24 "MailSpool$Rules" "classDays" "[I") (by decide +kernel)
  have w_12 := hts (.fieldLink RX7 28 "MailSpool$Rules" "classKeep" "[I") (by decide +kernel)
  have w_13 := hts (.fieldLink RX7 31 "MailSpool$Rules" "classNext" "[I") (by decide +kernel)
  have w_14 := hts (.fieldLink RX7 34 "MailSpool$Rules" "users" "LMailSpool$Names;") (by decide +kernel)
  have w_15 := hts (.fieldLink RX7 37 "MailSpool$Rules" "userClass" "[I") (by decide +kernel)
  have w_16 := hts (.fieldLink RX7 40 "MailSpool$Rules" "userQuota" "[I") (by decide +kernel)
  have w_17 := hts (.fieldLink RX7 43 "MailSpool$Rules" "groups" "LMailSpool$Names;") (by decide +kernel)
  have w_18 := hts (.fieldLink RX7 46 "MailSpool$Rules" "groupMembers" "[I") (by decide +kernel)
  have w_19 := hts (.fieldLink RX7 49 "MailSpool$Rules" "holds" "LMailSpool$Names;") (by decide +kernel)
  have w_20 := hts (.fieldLink RX7 52 "MailSpool$Rules" "holdUser" "[I") (by decide +kernel)
  have w_21 := hts (.fieldLink RX7 55 "MailSpool$Rules" "holdFrom" "[I") (by decide +kernel)
  have w_22 := hts (.fieldLink RX7 58 "MailSpool$Rules" "holdTo" "[I") (by decide +kernel)
  have w_23 := hts (.arrayClass .long) (by decide +kernel)
  have w_24 := hts (.fieldLink RX7 61 "MailSpool$Rules" "holdWord" "[J") (by decide +kernel)
  have hGE := hGs.2.2.2.2.2.2.1
  have hGM := hGs.2.2.2.2.2.2.2.1
  unfold f_X7_init at hf
  refine lv_aload_n hx hb dX7_init_0 rfl (lv_at hl 0 rfl) ?_
  refine W.objInit hx hb hown w_0 w_1 w_2 rfl (by rw [hml]; exact hl.1) rfl dX7_init_1 (Nat.le_of_ble_eq_true rfl) (Nat.le_of_ble_eq_true rfl) ?_
  refine W.eq (g2 := F0 m 4 ls []) rfl ?_
  refine lv_aload_n hx hb dX7_init_4 rfl (lv_at hl 0 rfl) ?_
  refine lv_iconst (v := 1) hx hb dX7_init_5 (by decide) ?_
  refine x_puti 601 (ci := 6) (C := RX7) (T := TX7) (N := 16) (v := 1) (ty := .int) 1 hC hin7 tyX7_ok nmX7 hW hS tp0 rfl rfl ⟨by decide, by decide, rfl, rfl⟩ rfl w_3 rfl (by decide +kernel) rfl rfl dX7_init_6 (fun S1 H locs eS1 hW hS => ?_)
  replace hf := ltE hf S1 eS1
  refine lv_aload_n hx hb dX7_init_9 rfl (lv_at hl 0 rfl) ?_
  refine x_new (ci := 4) (C := RX5) (T := TX5) (N := 2) hC hin5 tyX5_ok hW hS hA ⟨rfl, by decide, by decide⟩ (by decide +kernel) w_4 w_5 w_6 (Nat.le_of_ble_eq_true rfl) (Nat.le_of_ble_eq_true rfl) dX7_init_10 (fun q2 ad3 K4 S5 H eS5 hag7 eqq2 ekq2 hW hS => ?_)
  replace hf := ltE hf S5 eS5
  obtain ⟨n6, en6⟩ : ∃ z, z = n + 1 := ⟨_, rfl⟩
  rw [← en6] at hag7 hW
  replace hf := ltE hf n6 en6
  have tq2 : n < n6 ∧ K4 n = 4 := ⟨by omega, ekq2⟩
  refine W.widen (k := 1) (n := 2) (Nat.le_of_ble_eq_true rfl) (Nat.le_of_ble_eq_true rfl) ?_
  refine lv_dup hx hb dX7_init_13 rfl ?_
  refine lv_bipush (v := 8) hx hb dX7_init_14 (by decide) ?_
  replace hf := obE hf
  obtain ⟨z8, hz8, hf⟩ := hf
  obtain ⟨S9, n11⟩ := z8
  replace hf := ltE (ltE hf S9 rfl) n11 rfl
  refine x_acallI (As := [.int 8]) (rest := [.ref (q2), .ref (ad p0)]) (S1 := S9) (n1 := n11) (o := (fun _ => none)) (P := (fun _ => True)) hC hl.1 hW hS hGs hA (c_X5_init l g ad3 n6 K4 H.size F S5 n ((8 : Int32)) tq2 S9 n11 hz8) (cwI 1 hts gX7_init_X5_init rfl rfl rfl w_6 w_7 w_8 rfl (by decide +kernel) ⟨Nat.le_of_ble_eq_true rfl, Nat.le_of_ble_eq_true rfl⟩) rfl (by rw [eqq2] <;> rfl) (Nat.le_of_ble_eq_true rfl) dX7_init_16 ⟨Nat.le_of_ble_eq_true rfl, Nat.le_of_ble_eq_true rfl⟩ (fun ad12 K13 H locs hag14 hPz8 hW hS => ?_)
  refine W.widen (k := 2) (n := 12) (Nat.le_of_ble_eq_true rfl) (Nat.le_of_ble_eq_true rfl) ?_
  refine W.eq (g2 := F0 m 19 ls [.ref (q2), .ref (ad p0)]) rfl ?_
  refine x_putrF 602 (ci := 6) (C := RX7) (T := TX7) (N := 16) (ty := (.object "MailSpool$Names")) 2 hC hin7 tyX7_ok nmX7 hW hS (hag14.t (hag7.t tp0)) (hag14.e (hag7.t tp0) (hag7.e tp0 rfl)) (hag14.t tq2) (hag14.e tq2 eqq2) rfl rfl ⟨by decide, by decide, rfl, rfl⟩ rfl w_9 rfl hinI rfl (by decide +kernel) rfl rfl dX7_init_19 (fun S15 H locs eS15 hW hS => ?_)
  replace hf := ltE hf S15 eS15
  refine lv_aload_n hx hb dX7_init_22 rfl (lv_at hl 0 rfl) ?_
  refine lv_bipush (v := 8) hx hb dX7_init_23 (by decide) ?_
  refine x_newaI (len := 8) hC w_10 hW hS hA (by decide) (by decide) (Nat.le_of_ble_eq_true rfl) (Nat.le_of_ble_eq_true rfl) (Nat.le_of_ble_eq_true rfl) dX7_init_25 (fun q16 ad17 K18 S19 H eS19 hag21 eqq16 ekq16 hW hS => ?_)
  replace hf := ltE hf S19 eS19
  obtain ⟨n20, en20⟩ : ∃ z, z = n11 + 1 := ⟨_, rfl⟩
  rw [← en20] at hag21 hW
  replace hf := ltE hf n20 en20
  have tq16 : n11 < n20 ∧ K18 n11 = 12 := ⟨by omega, ekq16⟩
  refine W.widen (k := 3) (n := 20) (Nat.le_of_ble_eq_true rfl) (Nat.le_of_ble_eq_true rfl) ?_
  refine x_putrF 603 (ci := 6) (C := RX7) (T := TX7) (N := 16) (ty := (.array .int)) 3 hC hin7 tyX7_ok nmX7 hW hS (hag21.t (hag14.t (hag7.t tp0))) (hag21.e (hag14.t (hag7.t tp0)) (hag14.e (hag7.t tp0) (hag7.e tp0 rfl))) tq16 eqq16 rfl rfl ⟨by decide, by decide, rfl, rfl⟩ rfl w_11 rfl hinI rfl (by decide +kernel) rfl rfl dX7_init_27 (fun S22 H locs eS22 hW hS => ?_)
  replace hf := ltE hf S22 eS22
  refine lv_aload_n hx hb dX7_init_30 rfl (lv_at hl 0 rfl) ?_
  refine lv_bipush (v := 8) hx hb dX7_init_31 (by decide) ?_
  refine x_newaI (len := 8) hC w_10 hW hS hA (by decide) (by decide) (Nat.le_of_ble_eq_true rfl) (Nat.le_of_ble_eq_true rfl) (Nat.le_of_ble_eq_true rfl) dX7_init_33 (fun q23 ad24 K25 S26 H eS26 hag28 eqq23 ekq23 hW hS => ?_)
  replace hf := ltE hf S26 eS26
  obtain ⟨n27, en27⟩ : ∃ z, z = n20 + 1 := ⟨_, rfl⟩
  rw [← en27] at hag28 hW
  replace hf := ltE hf n27 en27
  have tq23 : n20 < n27 ∧ K25 n20 = 12 := ⟨by omega, ekq23⟩
  refine W.widen (k := 4) (n := 28) (Nat.le_of_ble_eq_true rfl) (Nat.le_of_ble_eq_true rfl) ?_
  refine x_putrF 604 (ci := 6) (C := RX7) (T := TX7) (N := 16) (ty := (.array .int)) 4 hC hin7 tyX7_ok nmX7 hW hS (hag28.t (hag21.t (hag14.t (hag7.t tp0)))) (hag28.e (hag21.t (hag14.t (hag7.t tp0))) (hag21.e (hag14.t (hag7.t tp0)) (hag14.e (hag7.t tp0) (hag7.e tp0 rfl)))) tq23 eqq23 rfl rfl ⟨by decide, by decide, rfl, rfl⟩ rfl w_12 rfl hinI rfl (by decide +kernel) rfl rfl dX7_init_35 (fun S29 H locs eS29 hW hS => ?_)
  replace hf := ltE hf S29 eS29
  refine lv_aload_n hx hb dX7_init_38 rfl (lv_at hl 0 rfl) ?_
  refine lv_bipush (v := 8) hx hb dX7_init_39 (by decide) ?_
  refine x_newaI (len := 8) hC w_10 hW hS hA (by decide) (by decide) (Nat.le_of_ble_eq_true rfl) (Nat.le_of_ble_eq_true rfl) (Nat.le_of_ble_eq_true rfl) dX7_init_41 (fun q30 ad31 K32 S33 H eS33 hag35 eqq30 ekq30 hW hS => ?_)
  replace hf := ltE hf S33 eS33
  obtain ⟨n34, en34⟩ : ∃ z, z = n27 + 1 := ⟨_, rfl⟩
  rw [← en34] at hag35 hW
  replace hf := ltE hf n34 en34
  have tq30 : n27 < n34 ∧ K32 n27 = 12 := ⟨by omega, ekq30⟩
  refine W.widen (k := 5) (n := 36) (Nat.le_of_ble_eq_true rfl) (Nat.le_of_ble_eq_true rfl) ?_
  refine x_putrF 605 (ci := 6) (C := RX7) (T := TX7) (N := 16) (ty := (.array .int)) 5 hC hin7 tyX7_ok nmX7 hW hS (hag35.t (hag28.t (hag21.t (hag14.t (hag7.t tp0))))) (hag35.e (hag28.t (hag21.t (hag14.t (hag7.t tp0)))) (hag28.e (hag21.t (hag14.t (hag7.t tp0))) (hag21.e (hag14.t (hag7.t tp0)) (hag14.e (hag7.t tp0) (hag7.e tp0 rfl))))) tq30 eqq30 rfl rfl ⟨by decide, by decide, rfl, rfl⟩ rfl w_13 rfl hinI rfl (by decide +kernel) rfl rfl dX7_init_43 (fun S36 H locs eS36 hW hS => ?_)
  replace hf := ltE hf S36 eS36
  refine lv_aload_n hx hb dX7_init_46 rfl (lv_at hl 0 rfl) ?_
  refine x_new (ci := 4) (C := RX5) (T := TX5) (N := 2) hC hin5 tyX5_ok hW hS hA ⟨rfl, by decide, by decide⟩ (by decide +kernel) w_4 w_5 w_6 (Nat.le_of_ble_eq_true rfl) (Nat.le_of_ble_eq_true rfl) dX7_init_47 (fun q37 ad38 K39 S40 H eS40 hag42 eqq37 ekq37 hW hS => ?_)
  replace hf := ltE hf S40 eS40
  obtain ⟨n41, en41⟩ : ∃ z, z = n34 + 1 := ⟨_, rfl⟩
  rw [← en41] at hag42 hW
  replace hf := ltE hf n41 en41
  have tq37 : n34 < n41 ∧ K39 n34 = 4 := ⟨by omega, ekq37⟩
  refine W.widen (k := 6) (n := 38) (Nat.le_of_ble_eq_true rfl) (Nat.le_of_ble_eq_true rfl) ?_
  refine lv_dup hx hb dX7_init_50 rfl ?_
  refine lv_bipush (v := 10) hx hb dX7_init_51 (by decide) ?_
  replace hf := obE hf
  obtain ⟨z43, hz43, hf⟩ := hf
  obtain ⟨S44, n46⟩ := z43
  replace hf := ltE (ltE hf S44 rfl) n46 rfl
  refine x_acallI (As := [.int 10]) (rest := [.ref (q37), .ref (ad p0)]) (S1 := S44) (n1 := n46) (o := (fun _ => none)) (P := (fun _ => True)) hC hl.1 hW hS hGs hA (c_X5_init l g ad38 n41 K39 H.size F S40 n34 ((10 : Int32)) tq37 S44 n46 hz43) (cwI 1 hts gX7_init_X5_init rfl rfl rfl w_6 w_7 w_8 rfl (by decide +kernel) ⟨Nat.le_of_ble_eq_true rfl, Nat.le_of_ble_eq_true rfl⟩) rfl (by rw [eqq37] <;> rfl) (Nat.le_of_ble_eq_true rfl) dX7_init_53 ⟨Nat.le_of_ble_eq_true rfl, Nat.le_of_ble_eq_true rfl⟩ (fun ad47 K48 H locs hag49 hPz43 hW hS => ?_)
  refine W.widen (k := 7) (n := 48) (Nat.le_of_ble_eq_true rfl) (Nat.le_of_ble_eq_true rfl) ?_
  refine W.eq (g2 := F0 m 56 ls [.ref (q37), .ref (ad p0)]) rfl ?_
  refine x_putrF 606 (ci := 6) (C := RX7) (T := TX7) (N := 16) (ty := (.object "MailSpool$Names")) 6 hC hin7 tyX7_ok nmX7 hW hS (hag49.t (hag42.t (hag35.t (hag28.t (hag21.t (hag14.t (hag7.t tp0))))))) (hag49.e (hag42.t (hag35.t (hag28.t (hag21.t (hag14.t (hag7.t tp0)))))) (hag42.e (hag35.t (hag28.t (hag21.t (hag14.t (hag7.t tp0))))) (hag35.e (hag28.t (hag21.t (hag14.t (hag7.t tp0)))) (hag28.e (hag21.t (hag14.t (hag7.t tp0))) (hag21.e (hag14.t (hag7.t tp0)) (hag14.e (hag7.t tp0) (hag7.e tp0 rfl))))))) (hag49.t tq37) (hag49.e tq37 eqq37) rfl rfl ⟨by decide, by decide, rfl, rfl⟩ rfl w_14 rfl hinI rfl (by decide +kernel) rfl rfl dX7_init_56 (fun S50 H locs eS50 hW hS => ?_)
  replace hf := ltE hf S50 eS50
  refine lv_aload_n hx hb dX7_init_59 rfl (lv_at hl 0 rfl) ?_
  refine lv_bipush (v := 10) hx hb dX7_init_60 (by decide) ?_
  refine x_newaI (len := 10) hC w_10 hW hS hA (by decide) (by decide) (Nat.le_of_ble_eq_true rfl) (Nat.le_of_ble_eq_true rfl) (Nat.le_of_ble_eq_true rfl) dX7_init_62 (fun q51 ad52 K53 S54 H eS54 hag56 eqq51 ekq51 hW hS => ?_)
  replace hf := ltE hf S54 eS54
  obtain ⟨n55, en55⟩ : ∃ z, z = n46 + 1 := ⟨_, rfl⟩
  rw [← en55] at hag56 hW
  replace hf := ltE hf n55 en55
  have tq51 : n46 < n55 ∧ K53 n46 = 12 := ⟨by omega, ekq51⟩
  refine W.widen (k := 8) (n := 58) (Nat.le_of_ble_eq_true rfl) (Nat.le_of_ble_eq_true rfl) ?_
  refine x_putrF 607 (ci := 6) (C := RX7) (T := TX7) (N := 16) (ty := (.array .int)) 7 hC hin7 tyX7_ok nmX7 hW hS (hag56.t (hag49.t (hag42.t (hag35.t (hag28.t (hag21.t (hag14.t (hag7.t tp0)))))))) (hag56.e (hag49.t (hag42.t (hag35.t (hag28.t (hag21.t (hag14.t (hag7.t tp0))))))) (hag49.e (hag42.t (hag35.t (hag28.t (hag21.t (hag14.t (hag7.t tp0)))))) (hag42.e (hag35.t (hag28.t (hag21.t (hag14.t (hag7.t tp0))))) (hag35.e (hag28.t (hag21.t (hag14.t (hag7.t tp0)))) (hag28.e (hag21.t (hag14.t (hag7.t tp0))) (hag21.e (hag14.t (hag7.t tp0)) (hag14.e (hag7.t tp0) (hag7.e tp0 rfl)))))))) tq51 eqq51 rfl rfl ⟨by decide, by decide, rfl, rfl⟩ rfl w_15 rfl hinI rfl (by decide +kernel) rfl rfl dX7_init_64 (fun S57 H locs eS57 hW hS => ?_)
  replace hf := ltE hf S57 eS57
  refine lv_aload_n hx hb dX7_init_67 rfl (lv_at hl 0 rfl) ?_
  refine lv_bipush (v := 10) hx hb dX7_init_68 (by decide) ?_
  refine x_newaI (len := 10) hC w_10 hW hS hA (by decide) (by decide) (Nat.le_of_ble_eq_true rfl) (Nat.le_of_ble_eq_true rfl) (Nat.le_of_ble_eq_true rfl) dX7_init_70 (fun q58 ad59 K60 S61 H eS61 hag63 eqq58 ekq58 hW hS => ?_)
  replace hf := ltE hf S61 eS61
  obtain ⟨n62, en62⟩ : ∃ z, z = n55 + 1 := ⟨_, rfl⟩
  rw [← en62] at hag63 hW
  replace hf := ltE hf n62 en62
  have tq58 : n55 < n62 ∧ K60 n55 = 12 := ⟨by omega, ekq58⟩
  refine W.widen (k := 9) (n := 68) (Nat.le_of_ble_eq_true rfl) (Nat.le_of_ble_eq_true rfl) ?_
  refine x_putrF 608 (ci := 6) (C := RX7) (T := TX7) (N := 16) (ty := (.array .int)) 8 hC hin7 tyX7_ok nmX7 hW hS (hag63.t (hag56.t (hag49.t (hag42.t (hag35.t (hag28.t (hag21.t (hag14.t (hag7.t tp0))))))))) (hag63.e (hag56.t (hag49.t (hag42.t (hag35.t (hag28.t (hag21.t (hag14.t (hag7.t tp0)))))))) (hag56.e (hag49.t (hag42.t (hag35.t (hag28.t (hag21.t (hag14.t (hag7.t tp0))))))) (hag49.e (hag42.t (hag35.t (hag28.t (hag21.t (hag14.t (hag7.t tp0)))))) (hag42.e (hag35.t (hag28.t (hag21.t (hag14.t (hag7.t tp0))))) (hag35.e (hag28.t (hag21.t (hag14.t (hag7.t tp0)))) (hag28.e (hag21.t (hag14.t (hag7.t tp0))) (hag21.e (hag14.t (hag7.t tp0)) (hag14.e (hag7.t tp0) (hag7.e tp0 rfl))))))))) tq58 eqq58 rfl rfl ⟨by decide, by decide, rfl, rfl⟩ rfl w_16 rfl hinI rfl (by decide +kernel) rfl rfl dX7_init_72 (fun S64 H locs eS64 hW hS => ?_)
  replace hf := ltE hf S64 eS64
  refine lv_aload_n hx hb dX7_init_75 rfl (lv_at hl 0 rfl) ?_
  refine x_new (ci := 4) (C := RX5) (T := TX5) (N := 2) hC hin5 tyX5_ok hW hS hA ⟨rfl, by decide, by decide⟩ (by decide +kernel) w_4 w_5 w_6 (Nat.le_of_ble_eq_true rfl) (Nat.le_of_ble_eq_true rfl) dX7_init_76 (fun q65 ad66 K67 S68 H eS68 hag70 eqq65 ekq65 hW hS => ?_)
  replace hf := ltE hf S68 eS68
  obtain ⟨n69, en69⟩ : ∃ z, z = n62 + 1 := ⟨_, rfl⟩
  rw [← en69] at hag70 hW
  replace hf := ltE hf n69 en69
  have tq65 : n62 < n69 ∧ K67 n62 = 4 := ⟨by omega, ekq65⟩
  refine W.widen (k := 10) (n := 70) (Nat.le_of_ble_eq_true rfl) (Nat.le_of_ble_eq_true rfl) ?_
  refine lv_dup hx hb dX7_init_79 rfl ?_
  refine lv_bipush (v := 6) hx hb dX7_init_80 (by decide) ?_
  replace hf := obE hf
  obtain ⟨z71, hz71, hf⟩ := hf
  obtain ⟨S72, n74⟩ := z71
  replace hf := ltE (ltE hf S72 rfl) n74 rfl
  refine x_acallI (As := [.int 6]) (rest := [.ref (q65), .ref (ad p0)]) (S1 := S72) (n1 := n74) (o := (fun _ => none)) (P := (fun _ => True)) hC hl.1 hW hS hGs hA (c_X5_init l g ad66 n69 K67 H.size F S68 n62 ((6 : Int32)) tq65 S72 n74 hz71) (cwI 1 hts gX7_init_X5_init rfl rfl rfl w_6 w_7 w_8 rfl (by decide +kernel) ⟨Nat.le_of_ble_eq_true rfl, Nat.le_of_ble_eq_true rfl⟩) rfl (by rw [eqq65] <;> rfl) (Nat.le_of_ble_eq_true rfl) dX7_init_82 ⟨Nat.le_of_ble_eq_true rfl, Nat.le_of_ble_eq_true rfl⟩ (fun ad75 K76 H locs hag77 hPz71 hW hS => ?_)
  refine W.widen (k := 11) (n := 80) (Nat.le_of_ble_eq_true rfl) (Nat.le_of_ble_eq_true rfl) ?_
  refine W.eq (g2 := F0 m 85 ls [.ref (q65), .ref (ad p0)]) rfl ?_
  refine x_putrF 609 (ci := 6) (C := RX7) (T := TX7) (N := 16) (ty := (.object "MailSpool$Names")) 9 hC hin7 tyX7_ok nmX7 hW hS (hag77.t (hag70.t (hag63.t (hag56.t (hag49.t (hag42.t (hag35.t (hag28.t (hag21.t (hag14.t (hag7.t tp0))))))))))) (hag77.e (hag70.t (hag63.t (hag56.t (hag49.t (hag42.t (hag35.t (hag28.t (hag21.t (hag14.t (hag7.t tp0)))))))))) (hag70.e (hag63.t (hag56.t (hag49.t (hag42.t (hag35.t (hag28.t (hag21.t (hag14.t (hag7.t tp0))))))))) (hag63.e (hag56.t (hag49.t (hag42.t (hag35.t (hag28.t (hag21.t (hag14.t (hag7.t tp0)))))))) (hag56.e (hag49.t (hag42.t (hag35.t (hag28.t (hag21.t (hag14.t (hag7.t tp0))))))) (hag49.e (hag42.t (hag35.t (hag28.t (hag21.t (hag14.t (hag7.t tp0)))))) (hag42.e (hag35.t (hag28.t (hag21.t (hag14.t (hag7.t tp0))))) (hag35.e (hag28.t (hag21.t (hag14.t (hag7.t tp0)))) (hag28.e (hag21.t (hag14.t (hag7.t tp0))) (hag21.e (hag14.t (hag7.t tp0)) (hag14.e (hag7.t tp0) (hag7.e tp0 rfl))))))))))) (hag77.t tq65) (hag77.e tq65 eqq65) rfl rfl ⟨by decide, by decide, rfl, rfl⟩ rfl w_17 rfl hinI rfl (by decide +kernel) rfl rfl dX7_init_85 (fun S78 H locs eS78 hW hS => ?_)
  replace hf := ltE hf S78 eS78
  refine lv_aload_n hx hb dX7_init_88 rfl (lv_at hl 0 rfl) ?_
  refine lv_bipush (v := 6) hx hb dX7_init_89 (by decide) ?_
  refine x_newaI (len := 6) hC w_10 hW hS hA (by decide) (by decide) (Nat.le_of_ble_eq_true rfl) (Nat.le_of_ble_eq_true rfl) (Nat.le_of_ble_eq_true rfl) dX7_init_91 (fun q79 ad80 K81 S82 H eS82 hag84 eqq79 ekq79 hW hS => ?_)
  replace hf := ltE hf S82 eS82
  obtain ⟨n83, en83⟩ : ∃ z, z = n74 + 1 := ⟨_, rfl⟩
  rw [← en83] at hag84 hW
  replace hf := ltE hf n83 en83
  have tq79 : n74 < n83 ∧ K81 n74 = 12 := ⟨by omega, ekq79⟩
  refine W.widen (k := 12) (n := 86) (Nat.le_of_ble_eq_true rfl) (Nat.le_of_ble_eq_true rfl) ?_
  refine x_putrF 610 (ci := 6) (C := RX7) (T := TX7) (N := 16) (ty := (.array .int)) 10 hC hin7 tyX7_ok nmX7 hW hS (hag84.t (hag77.t (hag70.t (hag63.t (hag56.t (hag49.t (hag42.t (hag35.t (hag28.t (hag21.t (hag14.t (hag7.t tp0)))))))))))) (hag84.e (hag77.t (hag70.t (hag63.t (hag56.t (hag49.t (hag42.t (hag35.t (hag28.t (hag21.t (hag14.t (hag7.t tp0))))))))))) (hag77.e (hag70.t (hag63.t (hag56.t (hag49.t (hag42.t (hag35.t (hag28.t (hag21.t (hag14.t (hag7.t tp0)))))))))) (hag70.e (hag63.t (hag56.t (hag49.t (hag42.t (hag35.t (hag28.t (hag21.t (hag14.t (hag7.t tp0))))))))) (hag63.e (hag56.t (hag49.t (hag42.t (hag35.t (hag28.t (hag21.t (hag14.t (hag7.t tp0)))))))) (hag56.e (hag49.t (hag42.t (hag35.t (hag28.t (hag21.t (hag14.t (hag7.t tp0))))))) (hag49.e (hag42.t (hag35.t (hag28.t (hag21.t (hag14.t (hag7.t tp0)))))) (hag42.e (hag35.t (hag28.t (hag21.t (hag14.t (hag7.t tp0))))) (hag35.e (hag28.t (hag21.t (hag14.t (hag7.t tp0)))) (hag28.e (hag21.t (hag14.t (hag7.t tp0))) (hag21.e (hag14.t (hag7.t tp0)) (hag14.e (hag7.t tp0) (hag7.e tp0 rfl)))))))))))) tq79 eqq79 rfl rfl ⟨by decide, by decide, rfl, rfl⟩ rfl w_18 rfl hinI rfl (by decide +kernel) rfl rfl dX7_init_93 (fun S85 H locs eS85 hW hS => ?_)
  replace hf := ltE hf S85 eS85
  refine lv_aload_n hx hb dX7_init_96 rfl (lv_at hl 0 rfl) ?_
  refine x_new (ci := 4) (C := RX5) (T := TX5) (N := 2) hC hin5 tyX5_ok hW hS hA ⟨rfl, by decide, by decide⟩ (by decide +kernel) w_4 w_5 w_6 (Nat.le_of_ble_eq_true rfl) (Nat.le_of_ble_eq_true rfl) dX7_init_97 (fun q86 ad87 K88 S89 H eS89 hag91 eqq86 ekq86 hW hS => ?_)
  replace hf := ltE hf S89 eS89
  obtain ⟨n90, en90⟩ : ∃ z, z = n83 + 1 := ⟨_, rfl⟩
  rw [← en90] at hag91 hW
  replace hf := ltE hf n90 en90
  have tq86 : n83 < n90 ∧ K88 n83 = 4 := ⟨by omega, ekq86⟩
  refine W.widen (k := 13) (n := 88) (Nat.le_of_ble_eq_true rfl) (Nat.le_of_ble_eq_true rfl) ?_
  refine lv_dup hx hb dX7_init_100 rfl ?_
  refine lv_bipush (v := 6) hx hb dX7_init_101 (by decide) ?_
  replace hf := obE hf
  obtain ⟨z92, hz92, hf⟩ := hf
  obtain ⟨S93, n95⟩ := z92
  replace hf := ltE (ltE hf S93 rfl) n95 rfl
  refine x_acallI (As := [.int 6]) (rest := [.ref (q86), .ref (ad p0)]) (S1 := S93) (n1 := n95) (o := (fun _ => none)) (P := (fun _ => True)) hC hl.1 hW hS hGs hA (c_X5_init l g ad87 n90 K88 H.size F S89 n83 ((6 : Int32)) tq86 S93 n95 hz92) (cwI 1 hts gX7_init_X5_init rfl rfl rfl w_6 w_7 w_8 rfl (by decide +kernel) ⟨Nat.le_of_ble_eq_true rfl, Nat.le_of_ble_eq_true rfl⟩) rfl (by rw [eqq86] <;> rfl) (Nat.le_of_ble_eq_true rfl) dX7_init_103 ⟨Nat.le_of_ble_eq_true rfl, Nat.le_of_ble_eq_true rfl⟩ (fun ad96 K97 H locs hag98 hPz92 hW hS => ?_)
  refine W.widen (k := 14) (n := 98) (Nat.le_of_ble_eq_true rfl) (Nat.le_of_ble_eq_true rfl) ?_
  refine W.eq (g2 := F0 m 106 ls [.ref (q86), .ref (ad p0)]) rfl ?_
  refine x_putrF 611 (ci := 6) (C := RX7) (T := TX7) (N := 16) (ty := (.object "MailSpool$Names")) 11 hC hin7 tyX7_ok nmX7 hW hS (hag98.t (hag91.t (hag84.t (hag77.t (hag70.t (hag63.t (hag56.t (hag49.t (hag42.t (hag35.t (hag28.t (hag21.t (hag14.t (hag7.t tp0)))))))))))))) (hag98.e (hag91.t (hag84.t (hag77.t (hag70.t (hag63.t (hag56.t (hag49.t (hag42.t (hag35.t (hag28.t (hag21.t (hag14.t (hag7.t tp0))))))))))))) (hag91.e (hag84.t (hag77.t (hag70.t (hag63.t (hag56.t (hag49.t (hag42.t (hag35.t (hag28.t (hag21.t (hag14.t (hag7.t tp0)))))))))))) (hag84.e (hag77.t (hag70.t (hag63.t (hag56.t (hag49.t (hag42.t (hag35.t (hag28.t (hag21.t (hag14.t (hag7.t tp0))))))))))) (hag77.e (hag70.t (hag63.t (hag56.t (hag49.t (hag42.t (hag35.t (hag28.t (hag21.t (hag14.t (hag7.t tp0)))))))))) (hag70.e (hag63.t (hag56.t (hag49.t (hag42.t (hag35.t (hag28.t (hag21.t (hag14.t (hag7.t tp0))))))))) (hag63.e (hag56.t (hag49.t (hag42.t (hag35.t (hag28.t (hag21.t (hag14.t (hag7.t tp0)))))))) (hag56.e (hag49.t (hag42.t (hag35.t (hag28.t (hag21.t (hag14.t (hag7.t tp0))))))) (hag49.e (hag42.t (hag35.t (hag28.t (hag21.t (hag14.t (hag7.t tp0)))))) (hag42.e (hag35.t (hag28.t (hag21.t (hag14.t (hag7.t tp0))))) (hag35.e (hag28.t (hag21.t (hag14.t (hag7.t tp0)))) (hag28.e (hag21.t (hag14.t (hag7.t tp0))) (hag21.e (hag14.t (hag7.t tp0)) (hag14.e (hag7.t tp0) (hag7.e tp0 rfl)))))))))))))) (hag98.t tq86) (hag98.e tq86 eqq86) rfl rfl ⟨by decide, by decide, rfl, rfl⟩ rfl w_19 rfl hinI rfl (by decide +kernel) rfl rfl dX7_init_106 (fun S99 H locs eS99 hW hS => ?_)
  replace hf := ltE hf S99 eS99
  refine lv_aload_n hx hb dX7_init_109 rfl (lv_at hl 0 rfl) ?_
  refine lv_bipush (v := 6) hx hb dX7_init_110 (by decide) ?_
  refine x_newaI (len := 6) hC w_10 hW hS hA (by decide) (by decide) (Nat.le_of_ble_eq_true rfl) (Nat.le_of_ble_eq_true rfl) (Nat.le_of_ble_eq_true rfl) dX7_init_112 (fun q100 ad101 K102 S103 H eS103 hag105 eqq100 ekq100 hW hS => ?_)
  replace hf := ltE hf S103 eS103
  obtain ⟨n104, en104⟩ : ∃ z, z = n95 + 1 := ⟨_, rfl⟩
  rw [← en104] at hag105 hW
  replace hf := ltE hf n104 en104
  have tq100 : n95 < n104 ∧ K102 n95 = 12 := ⟨by omega, ekq100⟩
  refine W.widen (k := 15) (n := 104) (Nat.le_of_ble_eq_true rfl) (Nat.le_of_ble_eq_true rfl) ?_
  refine x_putrF 612 (ci := 6) (C := RX7) (T := TX7) (N := 16) (ty := (.array .int)) 12 hC hin7 tyX7_ok nmX7 hW hS (hag105.t (hag98.t (hag91.t (hag84.t (hag77.t (hag70.t (hag63.t (hag56.t (hag49.t (hag42.t (hag35.t (hag28.t (hag21.t (hag14.t (hag7.t tp0))))))))))))))) (hag105.e (hag98.t (hag91.t (hag84.t (hag77.t (hag70.t (hag63.t (hag56.t (hag49.t (hag42.t (hag35.t (hag28.t (hag21.t (hag14.t (hag7.t tp0)))))))))))))) (hag98.e (hag91.t (hag84.t (hag77.t (hag70.t (hag63.t (hag56.t (hag49.t (hag42.t (hag35.t (hag28.t (hag21.t (hag14.t (hag7.t tp0))))))))))))) (hag91.e (hag84.t (hag77.t (hag70.t (hag63.t (hag56.t (hag49.t (hag42.t (hag35.t (hag28.t (hag21.t (hag14.t (hag7.t tp0)))))))))))) (hag84.e (hag77.t (hag70.t (hag63.t (hag56.t (hag49.t (hag42.t (hag35.t (hag28.t (hag21.t (hag14.t (hag7.t tp0))))))))))) (hag77.e (hag70.t (hag63.t (hag56.t (hag49.t (hag42.t (hag35.t (hag28.t (hag21.t (hag14.t (hag7.t tp0)))))))))) (hag70.e (hag63.t (hag56.t (hag49.t (hag42.t (hag35.t (hag28.t (hag21.t (hag14.t (hag7.t tp0))))))))) (hag63.e (hag56.t (hag49.t (hag42.t (hag35.t (hag28.t (hag21.t (hag14.t (hag7.t tp0)))))))) (hag56.e (hag49.t (hag42.t (hag35.t (hag28.t (hag21.t (hag14.t (hag7.t tp0))))))) (hag49.e (hag42.t (hag35.t (hag28.t (hag21.t (hag14.t (hag7.t tp0)))))) (hag42.e (hag35.t (hag28.t (hag21.t (hag14.t (hag7.t tp0))))) (hag35.e (hag28.t (hag21.t (hag14.t (hag7.t tp0)))) (hag28.e (hag21.t (hag14.t (hag7.t tp0))) (hag21.e (hag14.t (hag7.t tp0)) (hag14.e (hag7.t tp0) (hag7.e tp0 rfl))))))))))))))) tq100 eqq100 rfl rfl ⟨by decide, by decide, rfl, rfl⟩ rfl w_20 rfl hinI rfl (by decide +kernel) rfl rfl dX7_init_114 (fun S106 H locs eS106 hW hS => ?_)
  replace hf := ltE hf S106 eS106
  refine lv_aload_n hx hb dX7_init_117 rfl (lv_at hl 0 rfl) ?_
  refine lv_bipush (v := 6) hx hb dX7_init_118 (by decide) ?_
  refine x_newaI (len := 6) hC w_10 hW hS hA (by decide) (by decide) (Nat.le_of_ble_eq_true rfl) (Nat.le_of_ble_eq_true rfl) (Nat.le_of_ble_eq_true rfl) dX7_init_120 (fun q107 ad108 K109 S110 H eS110 hag112 eqq107 ekq107 hW hS => ?_)
  replace hf := ltE hf S110 eS110
  obtain ⟨n111, en111⟩ : ∃ z, z = n104 + 1 := ⟨_, rfl⟩
  rw [← en111] at hag112 hW
  replace hf := ltE hf n111 en111
  have tq107 : n104 < n111 ∧ K109 n104 = 12 := ⟨by omega, ekq107⟩
  refine W.widen (k := 16) (n := 110) (Nat.le_of_ble_eq_true rfl) (Nat.le_of_ble_eq_true rfl) ?_
  refine x_putrF 613 (ci := 6) (C := RX7) (T := TX7) (N := 16) (ty := (.array .int)) 13 hC hin7 tyX7_ok nmX7 hW hS (hag112.t (hag105.t (hag98.t (hag91.t (hag84.t (hag77.t (hag70.t (hag63.t (hag56.t (hag49.t (hag42.t (hag35.t (hag28.t (hag21.t (hag14.t (hag7.t tp0)))))))))))))))) (hag112.e (hag105.t (hag98.t (hag91.t (hag84.t (hag77.t (hag70.t (hag63.t (hag56.t (hag49.t (hag42.t (hag35.t (hag28.t (hag21.t (hag14.t (hag7.t tp0))))))))))))))) (hag105.e (hag98.t (hag91.t (hag84.t (hag77.t (hag70.t (hag63.t (hag56.t (hag49.t (hag42.t (hag35.t (hag28.t (hag21.t (hag14.t (hag7.t tp0)))))))))))))) (hag98.e (hag91.t (hag84.t (hag77.t (hag70.t (hag63.t (hag56.t (hag49.t (hag42.t (hag35.t (hag28.t (hag21.t (hag14.t (hag7.t tp0))))))))))))) (hag91.e (hag84.t (hag77.t (hag70.t (hag63.t (hag56.t (hag49.t (hag42.t (hag35.t (hag28.t (hag21.t (hag14.t (hag7.t tp0)))))))))))) (hag84.e (hag77.t (hag70.t (hag63.t (hag56.t (hag49.t (hag42.t (hag35.t (hag28.t (hag21.t (hag14.t (hag7.t tp0))))))))))) (hag77.e (hag70.t (hag63.t (hag56.t (hag49.t (hag42.t (hag35.t (hag28.t (hag21.t (hag14.t (hag7.t tp0)))))))))) (hag70.e (hag63.t (hag56.t (hag49.t (hag42.t (hag35.t (hag28.t (hag21.t (hag14.t (hag7.t tp0))))))))) (hag63.e (hag56.t (hag49.t (hag42.t (hag35.t (hag28.t (hag21.t (hag14.t (hag7.t tp0)))))))) (hag56.e (hag49.t (hag42.t (hag35.t (hag28.t (hag21.t (hag14.t (hag7.t tp0))))))) (hag49.e (hag42.t (hag35.t (hag28.t (hag21.t (hag14.t (hag7.t tp0)))))) (hag42.e (hag35.t (hag28.t (hag21.t (hag14.t (hag7.t tp0))))) (hag35.e (hag28.t (hag21.t (hag14.t (hag7.t tp0)))) (hag28.e (hag21.t (hag14.t (hag7.t tp0))) (hag21.e (hag14.t (hag7.t tp0)) (hag14.e (hag7.t tp0) (hag7.e tp0 rfl)))))))))))))))) tq107 eqq107 rfl rfl ⟨by decide, by decide, rfl, rfl⟩ rfl w_21 rfl hinI rfl (by decide +kernel) rfl rfl dX7_init_122 (fun S113 H locs eS113 hW hS => ?_)
  replace hf := ltE hf S113 eS113
  refine lv_aload_n hx hb dX7_init_125 rfl (lv_at hl 0 rfl) ?_
  refine lv_bipush (v := 6) hx hb dX7_init_126 (by decide) ?_
  refine x_newaI (len := 6) hC w_10 hW hS hA (by decide) (by decide) (Nat.le_of_ble_eq_true rfl) (Nat.le_of_ble_eq_true rfl) (Nat.le_of_ble_eq_true rfl) dX7_init_128 (fun q114 ad115 K116 S117 H eS117 hag119 eqq114 ekq114 hW hS => ?_)
  replace hf := ltE hf S117 eS117
  obtain ⟨n118, en118⟩ : ∃ z, z = n111 + 1 := ⟨_, rfl⟩
  rw [← en118] at hag119 hW
  replace hf := ltE hf n118 en118
  have tq114 : n111 < n118 ∧ K116 n111 = 12 := ⟨by omega, ekq114⟩
  refine W.widen (k := 17) (n := 116) (Nat.le_of_ble_eq_true rfl) (Nat.le_of_ble_eq_true rfl) ?_
  refine x_putrF 614 (ci := 6) (C := RX7) (T := TX7) (N := 16) (ty := (.array .int)) 14 hC hin7 tyX7_ok nmX7 hW hS (hag119.t (hag112.t (hag105.t (hag98.t (hag91.t (hag84.t (hag77.t (hag70.t (hag63.t (hag56.t (hag49.t (hag42.t (hag35.t (hag28.t (hag21.t (hag14.t (hag7.t tp0))))))))))))))))) (hag119.e (hag112.t (hag105.t (hag98.t (hag91.t (hag84.t (hag77.t (hag70.t (hag63.t (hag56.t (hag49.t (hag42.t (hag35.t (hag28.t (hag21.t (hag14.t (hag7.t tp0)))))))))))))))) (hag112.e (hag105.t (hag98.t (hag91.t (hag84.t (hag77.t (hag70.t (hag63.t (hag56.t (hag49.t (hag42.t (hag35.t (hag28.t (hag21.t (hag14.t (hag7.t tp0))))))))))))))) (hag105.e (hag98.t (hag91.t (hag84.t (hag77.t (hag70.t (hag63.t (hag56.t (hag49.t (hag42.t (hag35.t (hag28.t (hag21.t (hag14.t (hag7.t tp0)))))))))))))) (hag98.e (hag91.t (hag84.t (hag77.t (hag70.t (hag63.t (hag56.t (hag49.t (hag42.t (hag35.t (hag28.t (hag21.t (hag14.t (hag7.t tp0))))))))))))) (hag91.e (hag84.t (hag77.t (hag70.t (hag63.t (hag56.t (hag49.t (hag42.t (hag35.t (hag28.t (hag21.t (hag14.t (hag7.t tp0)))))))))))) (hag84.e (hag77.t (hag70.t (hag63.t (hag56.t (hag49.t (hag42.t (hag35.t (hag28.t (hag21.t (hag14.t (hag7.t tp0))))))))))) (hag77.e (hag70.t (hag63.t (hag56.t (hag49.t (hag42.t (hag35.t (hag28.t (hag21.t (hag14.t (hag7.t tp0)))))))))) (hag70.e (hag63.t (hag56.t (hag49.t (hag42.t (hag35.t (hag28.t (hag21.t (hag14.t (hag7.t tp0))))))))) (hag63.e (hag56.t (hag49.t (hag42.t (hag35.t (hag28.t (hag21.t (hag14.t (hag7.t tp0)))))))) (hag56.e (hag49.t (hag42.t (hag35.t (hag28.t (hag21.t (hag14.t (hag7.t tp0))))))) (hag49.e (hag42.t (hag35.t (hag28.t (hag21.t (hag14.t (hag7.t tp0)))))) (hag42.e (hag35.t (hag28.t (hag21.t (hag14.t (hag7.t tp0))))) (hag35.e (hag28.t (hag21.t (hag14.t (hag7.t tp0)))) (hag28.e (hag21.t (hag14.t (hag7.t tp0))) (hag21.e (hag14.t (hag7.t tp0)) (hag14.e (hag7.t tp0) (hag7.e tp0 rfl))))))))))))))))) tq114 eqq114 rfl rfl ⟨by decide, by decide, rfl, rfl⟩ rfl w_22 rfl hinI rfl (by decide +kernel) rfl rfl dX7_init_130 (fun S120 H locs eS120 hW hS => ?_)
  replace hf := ltE hf S120 eS120
  refine lv_aload_n hx hb dX7_init_133 rfl (lv_at hl 0 rfl) ?_
  refine lv_bipush (v := 6) hx hb dX7_init_134 (by decide) ?_
  refine x_newaJ (len := 6) hC w_23 hW hS hA (by decide) (by decide) (Nat.le_of_ble_eq_true rfl) (Nat.le_of_ble_eq_true rfl) (Nat.le_of_ble_eq_true rfl) dX7_init_136 (fun q121 ad122 K123 S124 H eS124 hag126 eqq121 ekq121 hW hS => ?_)
  replace hf := ltE hf S124 eS124
  obtain ⟨n125, en125⟩ : ∃ z, z = n118 + 1 := ⟨_, rfl⟩
  rw [← en125] at hag126 hW
  replace hf := ltE hf n125 en125
  have tq121 : n118 < n125 ∧ K123 n118 = 13 := ⟨by omega, ekq121⟩
  refine W.widen (k := 18) (n := 122) (Nat.le_of_ble_eq_true rfl) (Nat.le_of_ble_eq_true rfl) ?_
  refine x_putrF 615 (ci := 6) (C := RX7) (T := TX7) (N := 16) (ty := (.array .long)) 15 hC hin7 tyX7_ok nmX7 hW hS (hag126.t (hag119.t (hag112.t (hag105.t (hag98.t (hag91.t (hag84.t (hag77.t (hag70.t (hag63.t (hag56.t (hag49.t (hag42.t (hag35.t (hag28.t (hag21.t (hag14.t (hag7.t tp0)))))))))))))))))) (hag126.e (hag119.t (hag112.t (hag105.t (hag98.t (hag91.t (hag84.t (hag77.t (hag70.t (hag63.t (hag56.t (hag49.t (hag42.t (hag35.t (hag28.t (hag21.t (hag14.t (hag7.t tp0))))))))))))))))) (hag119.e (hag112.t (hag105.t (hag98.t (hag91.t (hag84.t (hag77.t (hag70.t (hag63.t (hag56.t (hag49.t (hag42.t (hag35.t (hag28.t (hag21.t (hag14.t (hag7.t tp0)))))))))))))))) (hag112.e (hag105.t (hag98.t (hag91.t (hag84.t (hag77.t (hag70.t (hag63.t (hag56.t (hag49.t (hag42.t (hag35.t (hag28.t (hag21.t (hag14.t (hag7.t tp0))))))))))))))) (hag105.e (hag98.t (hag91.t (hag84.t (hag77.t (hag70.t (hag63.t (hag56.t (hag49.t (hag42.t (hag35.t (hag28.t (hag21.t (hag14.t (hag7.t tp0)))))))))))))) (hag98.e (hag91.t (hag84.t (hag77.t (hag70.t (hag63.t (hag56.t (hag49.t (hag42.t (hag35.t (hag28.t (hag21.t (hag14.t (hag7.t tp0))))))))))))) (hag91.e (hag84.t (hag77.t (hag70.t (hag63.t (hag56.t (hag49.t (hag42.t (hag35.t (hag28.t (hag21.t (hag14.t (hag7.t tp0)))))))))))) (hag84.e (hag77.t (hag70.t (hag63.t (hag56.t (hag49.t (hag42.t (hag35.t (hag28.t (hag21.t (hag14.t (hag7.t tp0))))))))))) (hag77.e (hag70.t (hag63.t (hag56.t (hag49.t (hag42.t (hag35.t (hag28.t (hag21.t (hag14.t (hag7.t tp0)))))))))) (hag70.e (hag63.t (hag56.t (hag49.t (hag42.t (hag35.t (hag28.t (hag21.t (hag14.t (hag7.t tp0))))))))) (hag63.e (hag56.t (hag49.t (hag42.t (hag35.t (hag28.t (hag21.t (hag14.t (hag7.t tp0)))))))) (hag56.e (hag49.t (hag42.t (hag35.t (hag28.t (hag21.t (hag14.t (hag7.t tp0))))))) (hag49.e (hag42.t (hag35.t (hag28.t (hag21.t (hag14.t (hag7.t tp0)))))) (hag42.e (hag35.t (hag28.t (hag21.t (hag14.t (hag7.t tp0))))) (hag35.e (hag28.t (hag21.t (hag14.t (hag7.t tp0)))) (hag28.e (hag21.t (hag14.t (hag7.t tp0))) (hag21.e (hag14.t (hag7.t tp0)) (hag14.e (hag7.t tp0) (hag7.e tp0 rfl)))))))))))))))))) tq121 eqq121 rfl rfl ⟨by decide, by decide, rfl, rfl⟩ rfl w_24 rfl hinI rfl (by decide +kernel) rfl rfl dX7_init_138 (fun S127 H locs eS127 hW hS => ?_)
  replace hf := ltE hf S127 eS127
  obtain ⟨e1, e2⟩ := so2 hf
  subst e1
  subst e2
  exact W.vret hx hb hr (fun t ht hWm => ⟨⟨ad122, K123, rfl, (((((((((((((((((Ag.rf.tr hag7).tr hag14).tr hag21).tr hag28).tr hag35).tr hag42).tr hag49).tr hag56).tr hag63).tr hag70).tr hag77).tr hag84).tr hag91).tr hag98).tr hag105).tr hag112).tr hag119).tr hag126, trivial, by rw [ht]; exact hW⟩, hS.F ht⟩) hS.2.2 dX7_init_141 hlk
set_option maxHeartbeats 4000000 in
set_option maxRecDepth 100000 in
theorem c_X0_init (l : Launch) (g : GP) (ad : Nat → Nat) (n : Nat) (K : Nat → Nat) (sz F : Nat) (S0 : St) (p0 : Nat) (p1 : Int32) (tp0 : p0 < n ∧ K p0 = 0) (S9 : St) (n9 : Nat) (hf : f_X0_init F S0 n p0 p1 = some (S9, n9)) : Met l yX0_init wsX0_init { frames := 1, cells := 1, slots := 2040, locals := 21 } (va_Pc [.ref (ad p0), .int p1] (PB g ad n K S0 sz)) (QA ad K n (fun _ => none) g n9 S9 (dA ad n sz) (fun _ => True)) 1 2040 (dA ad n sz) := by
  refine Met.ofW (cc := cX0_init) (maxL := 2) (ret := none) (by decide) rfl ?_
  intro p e s m args below meth c s₁ B hml hv
  obtain ⟨rfl, hsz, hW, hK, hGs⟩ := x_start hv
  subst hsz
  have hx := B.exec
  have hb := B.bytes
  have hr := B.returns
  have hts := atoms_spec (ws := wsX0_init) B.pre
  have hown : s.vm.findClass RX0 = some m.cls := findClass_of_methodNamed B.named
  have hlk := B.notSynchronized
  have hinI : meth.name = "<init>" := (name_of_methodNamed B.named B.method).1
  have hC : Cx g p s m _ c cX0_init RX0 wsX0_init 2 := ⟨hx, hb, hml, hown, hts, hK⟩
  have hA : ∀ q : Nat, s.heap.size ≤ q → dA ad n s.heap.size q := fun q h => Or.inr h
  have hS : va_S (dA ad n s.heap.size) s.heap s.heap [] := va_S.rf
  have hl := lv_entry ([.ref (ad p0), .int p1]) (n := 2) (Nat.le_of_ble_eq_true rfl)
  rw [lg_entry_eq]
  generalize (lg_sl ([.ref (ad p0), .int p1]) ++ List.replicate (2 - (lg_sl ([.ref (ad p0), .int p1])).length) Slot.unset).toArray = ls at hl ⊢
  have hl : lv_has ls 2 [(0, .ref (ad p0)), (1, .int p1)] := hl
  have hin0 : ∀ w ∈ wsX00, w ∈ wsX0_init := by decide +kernel
  have w_0 := hts (.methodLink RX0 3 objectInit) (by decide +kernel)
  have w_1 := hts (.instanceMethod objectInit) (by decide +kernel)
  have w_2 := hts (.code objectInit ⟨#[0xb1]⟩ 1 none) (by decide +kernel)
  have w_3 := hts (.methodLink RX0 9 Lib.Math.max.name) (by decide +kernel)
  have w_4 := hts (.static Lib.Math.max.name) (by decide +kernel)
  have w_5 := hts (.initialized "java/lang/Math") (by decide +kernel)
  have w_6 := hts (.code Lib.Math.max.name Lib.Math.max.code 2 (some .int)) (by decide +kernel)
  have w_7 := hts (.arrayClass .byte) (by decide +kernel)
  have w_8 := hts (.fieldLink RX0 15 "MailSpool$Bytes" "row" "[B") (by decide +kernel)
  have hGE := hGs.2.2.2.2.2.2.1
  have hGM := hGs.2.2.2.2.2.2.2.1
  unfold f_X0_init at hf
  refine lv_aload_n hx hb dX0_init_0 rfl (lv_at hl 0 rfl) ?_
  refine W.objInit hx hb hown w_0 w_1 w_2 rfl (by rw [hml]; exact hl.1) rfl dX0_init_1 (Nat.le_of_ble_eq_true rfl) (Nat.le_of_ble_eq_true rfl) ?_
  refine W.eq (g2 := F0 m 4 ls []) rfl ?_
  refine lv_aload_n hx hb dX0_init_4 rfl (lv_at hl 0 rfl) ?_
  refine lv_iconst (v := 0) hx hb dX0_init_5 (by decide) ?_
  refine lv_iload_n hx hb dX0_init_6 rfl (lv_at hl 1 rfl) ?_
  refine va_mmax hx hb (hml.trans hl.1.symm) hown w_3 w_4 w_5 w_6 (Nat.le_of_ble_eq_true rfl) (Nat.le_of_ble_eq_true rfl) (Nat.zero_le _) (Nat.zero_le _) dX0_init_7 ?_
  replace hf := ckE hf
  obtain ⟨h7, hf⟩ := hf
  refine x_newaB (len := Int32.toNatClampNeg (if (0 : Int32) < p1 then p1 else (0 : Int32))) hC w_7 hW hS hA h7.1 rfl (by omega) (Nat.le_of_ble_eq_true rfl) (by show 0 + _ ≤ 2040; omega) dX0_init_10 (fun q1 ad2 K3 S4 H eS4 hag6 eqq1 ekq1 hW hS => ?_)
  replace hf := ltE hf S4 eS4
  obtain ⟨n5, en5⟩ : ∃ z, z = n + 1 := ⟨_, rfl⟩
  rw [← en5] at hag6 hW
  replace hf := ltE hf n5 en5
  have tq1 : n < n5 ∧ K3 n = 11 := ⟨by omega, ekq1⟩
  refine W.widen (k := 1) (n := 2040) (Nat.le_of_ble_eq_true rfl) (by omega) ?_
  refine x_putrF 0 (ci := 0) (C := RX0) (T := TX0) (N := 2) (ty := (.array .byte)) 0 hC hin0 tyX0_ok nmX0 hW hS (hag6.t tp0) (hag6.e tp0 rfl) tq1 eqq1 rfl rfl ⟨by decide, by decide, rfl, rfl⟩ rfl w_8 rfl hinI rfl (by decide +kernel) rfl rfl dX0_init_12 (fun S8 H locs eS8 hW hS => ?_)
  replace hf := ltE hf S8 eS8
  obtain ⟨e1, e2⟩ := so2 hf
  subst e1
  subst e2
  exact W.vret hx hb hr (fun t ht hWm => ⟨⟨ad2, K3, rfl, Ag.rf.tr hag6, trivial, by rw [ht]; exact hW⟩, hS.F ht⟩) hS.2.2 dX0_init_15 hlk
set_option maxHeartbeats 4000000 in
set_option maxRecDepth 100000 in
theorem c_X1_init (l : Launch) (g : GP) (ad : Nat → Nat) (n : Nat) (K : Nat → Nat) (sz F : Nat) (S0 : St) (p0 : Nat) (p1 : Nat) (tp0 : p0 < n ∧ K p0 = 1) (tp1 : p1 < n ∧ K p1 = 0) (S9 : St) (n9 : Nat) (hf : f_X1_init F S0 n p0 p1 = some (S9, n9)) : Met l yX1_init wsX1_init { frames := 1, cells := 2, slots := 8, locals := 20 } (va_Pc [.ref (ad p0), .ref (ad p1)] (PB g ad n K S0 sz)) (QA ad K n (fun _ => none) g n9 S9 (dA ad n sz) (fun _ => True)) 2 8 (dA ad n sz) := by
  refine Met.ofW (cc := cX1_init) (maxL := 2) (ret := none) (by decide) rfl ?_
  intro p e s m args below meth c s₁ B hml hv
  obtain ⟨rfl, hsz, hW, hK, hGs⟩ := x_start hv
  subst hsz
  have hx := B.exec
  have hb := B.bytes
  have hr := B.returns
  have hts := atoms_spec (ws := wsX1_init) B.pre
  have hown : s.vm.findClass RX1 = some m.cls := findClass_of_methodNamed B.named
  have hlk := B.notSynchronized
  have hinI : meth.name = "<init>" := (name_of_methodNamed B.named B.method).1
  have hC : Cx g p s m _ c cX1_init RX1 wsX1_init 2 := ⟨hx, hb, hml, hown, hts, hK⟩
  have hA : ∀ q : Nat, s.heap.size ≤ q → dA ad n s.heap.size q := fun q h => Or.inr h
  have hS : va_S (dA ad n s.heap.size) s.heap s.heap [] := va_S.rf
  have hl := lv_entry ([.ref (ad p0), .ref (ad p1)]) (n := 2) (Nat.le_of_ble_eq_true rfl)
  rw [lg_entry_eq]
  generalize (lg_sl ([.ref (ad p0), .ref (ad p1)]) ++ List.replicate (2 - (lg_sl ([.ref (ad p0), .ref (ad p1)])).length) Slot.unset).toArray = ls at hl ⊢
  have hl : lv_has ls 2 [(0, .ref (ad p0)), (1, .ref (ad p1))] := hl
  have hin1 : ∀ w ∈ wsX10, w ∈ wsX1_init := by decide +kernel
  have w_0 := hts (.methodLink RX1 3 objectInit) (by decide +kernel)
  have w_1 := hts (.instanceMethod objectInit) (by decide +kernel)
  have w_2 := hts (.code objectInit ⟨#[0xb1]⟩ 1 none) (by decide +kernel)
  have w_3 := hts (.fieldLink RX1 9 "MailSpool$Content" "text" "LMailSpool$Bytes;") (by decide +kernel)
  have w_4 := hts (.arrayClass .int) (by decide +kernel)
  have w_5 := hts (.fieldLink RX1 15 "MailSpool$Content" "starts" "[I") (by decide +kernel)
  have w_6 := hts (.fieldLink RX1 19 "MailSpool$Content" "ends" "[I") (by decide +kernel)
  have hGE := hGs.2.2.2.2.2.2.1
  have hGM := hGs.2.2.2.2.2.2.2.1
  unfold f_X1_init at hf
  refine lv_aload_n hx hb dX1_init_0 rfl (lv_at hl 0 rfl) ?_
  refine W.objInit hx hb hown w_0 w_1 w_2 rfl (by rw [hml]; exact hl.1) rfl dX1_init_1 (Nat.le_of_ble_eq_true rfl) (Nat.le_of_ble_eq_true rfl) ?_
  refine W.eq (g2 := F0 m 4 ls []) rfl ?_
  refine lv_aload_n hx hb dX1_init_4 rfl (lv_at hl 0 rfl) ?_
  refine lv_aload_n hx hb dX1_init_5 rfl (lv_at hl 1 rfl) ?_
  refine x_putrF 100 (ci := 1) (C := RX1) (T := TX1) (N := 4) (ty := (.object "MailSpool$Bytes")) 0 hC hin1 tyX1_ok nmX1 hW hS tp0 rfl tp1 rfl rfl rfl ⟨by decide, by decide, rfl, rfl⟩ rfl w_3 rfl hinI rfl (by decide +kernel) rfl rfl dX1_init_6 (fun S1 H locs eS1 hW hS => ?_)
  replace hf := ltE hf S1 eS1
  refine lv_aload_n hx hb dX1_init_9 rfl (lv_at hl 0 rfl) ?_
  refine lv_iconst (v := 4) hx hb dX1_init_10 (by decide) ?_
  refine x_newaI (len := 4) hC w_4 hW hS hA (by decide) (by decide) (Nat.le_of_ble_eq_true rfl) (Nat.le_of_ble_eq_true rfl) (Nat.le_of_ble_eq_true rfl) dX1_init_11 (fun q2 ad3 K4 S5 H eS5 hag7 eqq2 ekq2 hW hS => ?_)
  replace hf := ltE hf S5 eS5
  obtain ⟨n6, en6⟩ : ∃ z, z = n + 1 := ⟨_, rfl⟩
  rw [← en6] at hag7 hW
  replace hf := ltE hf n6 en6
  have tq2 : n < n6 ∧ K4 n = 12 := ⟨by omega, ekq2⟩
  refine W.widen (k := 1) (n := 4) (Nat.le_of_ble_eq_true rfl) (Nat.le_of_ble_eq_true rfl) ?_
  refine x_putrF 101 (ci := 1) (C := RX1) (T := TX1) (N := 4) (ty := (.array .int)) 1 hC hin1 tyX1_ok nmX1 hW hS (hag7.t tp0) (hag7.e tp0 rfl) tq2 eqq2 rfl rfl ⟨by decide, by decide, rfl, rfl⟩ rfl w_5 rfl hinI rfl (by decide +kernel) rfl rfl dX1_init_13 (fun S8 H locs eS8 hW hS => ?_)
  replace hf := ltE hf S8 eS8
  refine lv_aload_n hx hb dX1_init_16 rfl (lv_at hl 0 rfl) ?_
  refine lv_iconst (v := 4) hx hb dX1_init_17 (by decide) ?_
  refine x_newaI (len := 4) hC w_4 hW hS hA (by decide) (by decide) (Nat.le_of_ble_eq_true rfl) (Nat.le_of_ble_eq_true rfl) (Nat.le_of_ble_eq_true rfl) dX1_init_18 (fun q9 ad10 K11 S12 H eS12 hag14 eqq9 ekq9 hW hS => ?_)
  replace hf := ltE hf S12 eS12
  obtain ⟨n13, en13⟩ : ∃ z, z = n6 + 1 := ⟨_, rfl⟩
  rw [← en13] at hag14 hW
  replace hf := ltE hf n13 en13
  have tq9 : n6 < n13 ∧ K11 n6 = 12 := ⟨by omega, ekq9⟩
  refine W.widen (k := 2) (n := 8) (Nat.le_of_ble_eq_true rfl) (Nat.le_of_ble_eq_true rfl) ?_
  refine x_putrF 102 (ci := 1) (C := RX1) (T := TX1) (N := 4) (ty := (.array .int)) 2 hC hin1 tyX1_ok nmX1 hW hS (hag14.t (hag7.t tp0)) (hag14.e (hag7.t tp0) (hag7.e tp0 rfl)) tq9 eqq9 rfl rfl ⟨by decide, by decide, rfl, rfl⟩ rfl w_6 rfl hinI rfl (by decide +kernel) rfl rfl dX1_init_20 (fun S15 H locs eS15 hW hS => ?_)
  replace hf := ltE hf S15 eS15
  obtain ⟨e1, e2⟩ := so2 hf
  subst e1
  subst e2
  exact W.vret hx hb hr (fun t ht hWm => ⟨⟨ad10, K11, rfl, (Ag.rf.tr hag7).tr hag14, trivial, by rw [ht]; exact hW⟩, hS.F ht⟩) hS.2.2 dX1_init_23 hlk
set_option maxHeartbeats 4000000 in
set_option maxRecDepth 100000 in
theorem c_X9_init (l : Launch) (g : GP) (ad : Nat → Nat) (n : Nat) (K : Nat → Nat) (sz F : Nat) (S0 : St) (p0 : Nat) (tp0 : p0 < n ∧ K p0 = 8) (S9 : St) (n9 : Nat) (hf : f_X9_init F S0 n p0 = some (S9, n9)) : Met l yX9_init wsX9_init { frames := 2, cells := 6, slots := 3962, locals := 42 } (va_Pc [.ref (ad p0)] (PB g ad n K S0 sz)) (QA ad K n (fun _ => none) g n9 S9 (dA ad n sz) (fun _ => True)) 6 3962 (dA ad n sz) := by
  refine Met.ofW (cc := cX9_init) (maxL := 1) (ret := none) (by decide) rfl ?_
  intro p e s m args below meth c s₁ B hml hv
  obtain ⟨rfl, hsz, hW, hK, hGs⟩ := x_start hv
  subst hsz
  have hx := B.exec
  have hb := B.bytes
  have hr := B.returns
  have hts := atoms_spec (ws := wsX9_init) B.pre
  have hown : s.vm.findClass RX9 = some m.cls := findClass_of_methodNamed B.named
  have hlk := B.notSynchronized
  have hinI : meth.name = "<init>" := (name_of_methodNamed B.named B.method).1
  have hC : Cx g p s m _ c cX9_init RX9 wsX9_init 1 := ⟨hx, hb, hml, hown, hts, hK⟩
  have hA : ∀ q : Nat, s.heap.size ≤ q → dA ad n s.heap.size q := fun q h => Or.inr h
  have hS : va_S (dA ad n s.heap.size) s.heap s.heap [] := va_S.rf
  have hl := lv_entry ([.ref (ad p0)]) (n := 1) (Nat.le_of_ble_eq_true rfl)
  rw [lg_entry_eq]
  generalize (lg_sl ([.ref (ad p0)]) ++ List.replicate (1 - (lg_sl ([.ref (ad p0)])).length) Slot.unset).toArray = ls at hl ⊢
  have hl : lv_has ls 1 [(0, .ref (ad p0))] := hl
  have hin0 : ∀ w ∈ wsX00, w ∈ wsX9_init := by decide +kernel
  have hin9 : ∀ w ∈ wsX90, w ∈ wsX9_init := by decide +kernel
  have w_0 := hts (.methodLink RX9 3 objectInit) (by decide +kernel)
  have w_1 := hts (.instanceMethod objectInit) (by decide +kernel)
  have w_2 := hts (.code objectInit ⟨#[0xb1]⟩ 1 none) (by decide +kernel)
  have w_3 := hts (.classLink RX9 9 RX0) (by decide +kernel)
  have w_4 := hts (.fieldLink RX9 11 "MailSpool$Store" "contents" "[LMailSpool$Bytes;") (by decide +kernel)
  have w_5 := hts (.arrayClass .int) (by decide +kernel)
  have w_6 := hts (.fieldLink RX9 17 "MailSpool$Store" "firstMessage" "[I") (by decide +kernel)
  have w_7 := hts (.fieldLink RX9 21 "MailSpool$Store" "keepers" "[I") (by decide +kernel)
  have w_8 := hts (.fieldLink RX9 24 "MailSpool$Store" "deadSince" "[I") (by decide +kernel)
  have w_9 := hts (.instantiable RX0 2) (by decide +kernel)
  have w_10 := hts (.initialized RX0) (by decide +kernel)
  have w_11 := hts (.methodLink RX9 27 yX0_init) (by decide +kernel)
  have w_12 := hts (.instanceMethod yX0_init) (by decide +kernel)
  have w_13 := hts (.fieldLink RX9 30 "MailSpool$Store" "noBytes" "LMailSpool$Bytes;") (by decide +kernel)
  have hGE := hGs.2.2.2.2.2.2.1
  have hGM := hGs.2.2.2.2.2.2.2.1
  unfold f_X9_init at hf
  refine lv_aload_n hx hb dX9_init_0 rfl (lv_at hl 0 rfl) ?_
  refine W.objInit hx hb hown w_0 w_1 w_2 rfl (by rw [hml]; exact hl.1) rfl dX9_init_1 (Nat.le_of_ble_eq_true rfl) (Nat.le_of_ble_eq_true rfl) ?_
  refine W.eq (g2 := F0 m 4 ls []) rfl ?_
  refine lv_aload_n hx hb dX9_init_4 rfl (lv_at hl 0 rfl) ?_
  refine lv_sipush (v := 480) hx hb dX9_init_5 (by decide) ?_
  refine x_newq (C := RX0) (kd := 14) (t0 := 3) (len := 480) hC w_3 hGs.2.2.1.1 ⟨by decide, rfl⟩ hW hS hA (by decide) (by decide) (Nat.le_of_ble_eq_true rfl) (Nat.le_of_ble_eq_true rfl) (Nat.le_of_ble_eq_true rfl) dX9_init_8 (fun q1 ad2 K3 S4 H eS4 hag6 eqq1 ekq1 hW hS => ?_)
  replace hf := ltE hf S4 eS4
  obtain ⟨n5, en5⟩ : ∃ z, z = n + 1 := ⟨_, rfl⟩
  rw [← en5] at hag6 hW
  replace hf := ltE hf n5 en5
  have tq1 : n < n5 ∧ K3 n = 14 := ⟨by omega, ekq1⟩
  refine W.widen (k := 1) (n := 480) (Nat.le_of_ble_eq_true rfl) (Nat.le_of_ble_eq_true rfl) ?_
  refine x_putrF 803 (ci := 8) (C := RX9) (T := TX9) (N := 8) (ty := (.array (.object "MailSpool$Bytes"))) 3 hC hin9 tyX9_ok nmX9 hW hS (hag6.t tp0) (hag6.e tp0 rfl) tq1 eqq1 rfl rfl ⟨by decide, by decide, rfl, rfl⟩ rfl w_4 rfl hinI rfl (by decide +kernel) rfl rfl dX9_init_11 (fun S7 H locs eS7 hW hS => ?_)
  replace hf := ltE hf S7 eS7
  refine lv_aload_n hx hb dX9_init_14 rfl (lv_at hl 0 rfl) ?_
  refine lv_sipush (v := 480) hx hb dX9_init_15 (by decide) ?_
  refine x_newaI (len := 480) hC w_5 hW hS hA (by decide) (by decide) (Nat.le_of_ble_eq_true rfl) (Nat.le_of_ble_eq_true rfl) (Nat.le_of_ble_eq_true rfl) dX9_init_18 (fun q8 ad9 K10 S11 H eS11 hag13 eqq8 ekq8 hW hS => ?_)
  replace hf := ltE hf S11 eS11
  obtain ⟨n12, en12⟩ : ∃ z, z = n5 + 1 := ⟨_, rfl⟩
  rw [← en12] at hag13 hW
  replace hf := ltE hf n12 en12
  have tq8 : n5 < n12 ∧ K10 n5 = 12 := ⟨by omega, ekq8⟩
  refine W.widen (k := 2) (n := 960) (Nat.le_of_ble_eq_true rfl) (Nat.le_of_ble_eq_true rfl) ?_
  refine x_putrF 804 (ci := 8) (C := RX9) (T := TX9) (N := 8) (ty := (.array .int)) 4 hC hin9 tyX9_ok nmX9 hW hS (hag13.t (hag6.t tp0)) (hag13.e (hag6.t tp0) (hag6.e tp0 rfl)) tq8 eqq8 rfl rfl ⟨by decide, by decide, rfl, rfl⟩ rfl w_6 rfl hinI rfl (by decide +kernel) rfl rfl dX9_init_20 (fun S14 H locs eS14 hW hS => ?_)
  replace hf := ltE hf S14 eS14
  refine lv_aload_n hx hb dX9_init_23 rfl (lv_at hl 0 rfl) ?_
  refine lv_sipush (v := 480) hx hb dX9_init_24 (by decide) ?_
  refine x_newaI (len := 480) hC w_5 hW hS hA (by decide) (by decide) (Nat.le_of_ble_eq_true rfl) (Nat.le_of_ble_eq_true rfl) (Nat.le_of_ble_eq_true rfl) dX9_init_27 (fun q15 ad16 K17 S18 H eS18 hag20 eqq15 ekq15 hW hS => ?_)
  replace hf := ltE hf S18 eS18
  obtain ⟨n19, en19⟩ : ∃ z, z = n12 + 1 := ⟨_, rfl⟩
  rw [← en19] at hag20 hW
  replace hf := ltE hf n19 en19
  have tq15 : n12 < n19 ∧ K17 n12 = 12 := ⟨by omega, ekq15⟩
  refine W.widen (k := 3) (n := 1440) (Nat.le_of_ble_eq_true rfl) (Nat.le_of_ble_eq_true rfl) ?_
  refine x_putrF 805 (ci := 8) (C := RX9) (T := TX9) (N := 8) (ty := (.array .int)) 5 hC hin9 tyX9_ok nmX9 hW hS (hag20.t (hag13.t (hag6.t tp0))) (hag20.e (hag13.t (hag6.t tp0)) (hag13.e (hag6.t tp0) (hag6.e tp0 rfl))) tq15 eqq15 rfl rfl ⟨by decide, by decide, rfl, rfl⟩ rfl w_7 rfl hinI rfl (by decide +kernel) rfl rfl dX9_init_29 (fun S21 H locs eS21 hW hS => ?_)
  replace hf := ltE hf S21 eS21
  refine lv_aload_n hx hb dX9_init_32 rfl (lv_at hl 0 rfl) ?_
  refine lv_sipush (v := 480) hx hb dX9_init_33 (by decide) ?_
  refine x_newaI (len := 480) hC w_5 hW hS hA (by decide) (by decide) (Nat.le_of_ble_eq_true rfl) (Nat.le_of_ble_eq_true rfl) (Nat.le_of_ble_eq_true rfl) dX9_init_36 (fun q22 ad23 K24 S25 H eS25 hag27 eqq22 ekq22 hW hS => ?_)
  replace hf := ltE hf S25 eS25
  obtain ⟨n26, en26⟩ : ∃ z, z = n19 + 1 := ⟨_, rfl⟩
  rw [← en26] at hag27 hW
  replace hf := ltE hf n26 en26
  have tq22 : n19 < n26 ∧ K24 n19 = 12 := ⟨by omega, ekq22⟩
  refine W.widen (k := 4) (n := 1920) (Nat.le_of_ble_eq_true rfl) (Nat.le_of_ble_eq_true rfl) ?_
  refine x_putrF 806 (ci := 8) (C := RX9) (T := TX9) (N := 8) (ty := (.array .int)) 6 hC hin9 tyX9_ok nmX9 hW hS (hag27.t (hag20.t (hag13.t (hag6.t tp0)))) (hag27.e (hag20.t (hag13.t (hag6.t tp0))) (hag20.e (hag13.t (hag6.t tp0)) (hag13.e (hag6.t tp0) (hag6.e tp0 rfl)))) tq22 eqq22 rfl rfl ⟨by decide, by decide, rfl, rfl⟩ rfl w_8 rfl hinI rfl (by decide +kernel) rfl rfl dX9_init_38 (fun S28 H locs eS28 hW hS => ?_)
  replace hf := ltE hf S28 eS28
  refine lv_aload_n hx hb dX9_init_41 rfl (lv_at hl 0 rfl) ?_
  refine x_new (ci := 0) (C := RX0) (T := TX0) (N := 2) hC hin0 tyX0_ok hW hS hA ⟨rfl, by decide, by decide⟩ (by decide +kernel) w_3 w_9 w_10 (Nat.le_of_ble_eq_true rfl) (Nat.le_of_ble_eq_true rfl) dX9_init_42 (fun q29 ad30 K31 S32 H eS32 hag34 eqq29 ekq29 hW hS => ?_)
  replace hf := ltE hf S32 eS32
  obtain ⟨n33, en33⟩ : ∃ z, z = n26 + 1 := ⟨_, rfl⟩
  rw [← en33] at hag34 hW
  replace hf := ltE hf n33 en33
  have tq29 : n26 < n33 ∧ K31 n26 = 0 := ⟨by omega, ekq29⟩
  refine W.widen (k := 5) (n := 1922) (Nat.le_of_ble_eq_true rfl) (Nat.le_of_ble_eq_true rfl) ?_
  refine lv_dup hx hb dX9_init_45 rfl ?_
  refine lv_iconst (v := 0) hx hb dX9_init_46 (by decide) ?_
  replace hf := obE hf
  obtain ⟨z35, hz35, hf⟩ := hf
  obtain ⟨S36, n38⟩ := z35
  replace hf := ltE (ltE hf S36 rfl) n38 rfl
  refine x_acallI (As := [.int 0]) (rest := [.ref (q29), .ref (ad p0)]) (S1 := S36) (n1 := n38) (o := (fun _ => none)) (P := (fun _ => True)) hC hl.1 hW hS hGs hA (c_X0_init l g ad30 n33 K31 H.size F S32 n26 ((0 : Int32)) tq29 S36 n38 hz35) (cwI 1 hts gX9_init_X0_init rfl rfl rfl w_10 w_11 w_12 rfl (by decide +kernel) ⟨Nat.le_of_ble_eq_true rfl, Nat.le_of_ble_eq_true rfl⟩) rfl (by rw [eqq29] <;> rfl) (Nat.le_of_ble_eq_true rfl) dX9_init_47 ⟨Nat.le_of_ble_eq_true rfl, Nat.le_of_ble_eq_true rfl⟩ (fun ad39 K40 H locs hag41 hPz35 hW hS => ?_)
  refine W.widen (k := 6) (n := 3962) (Nat.le_of_ble_eq_true rfl) (Nat.le_of_ble_eq_true rfl) ?_
  refine W.eq (g2 := F0 m 50 ls [.ref (q29), .ref (ad p0)]) rfl ?_
  refine x_putrF 807 (ci := 8) (C := RX9) (T := TX9) (N := 8) (ty := (.object "MailSpool$Bytes")) 7 hC hin9 tyX9_ok nmX9 hW hS (hag41.t (hag34.t (hag27.t (hag20.t (hag13.t (hag6.t tp0)))))) (hag41.e (hag34.t (hag27.t (hag20.t (hag13.t (hag6.t tp0))))) (hag34.e (hag27.t (hag20.t (hag13.t (hag6.t tp0)))) (hag27.e (hag20.t (hag13.t (hag6.t tp0))) (hag20.e (hag13.t (hag6.t tp0)) (hag13.e (hag6.t tp0) (hag6.e tp0 rfl)))))) (hag41.t tq29) (hag41.e tq29 eqq29) rfl rfl ⟨by decide, by decide, rfl, rfl⟩ rfl w_13 rfl hinI rfl (by decide +kernel) rfl rfl dX9_init_50 (fun S42 H locs eS42 hW hS => ?_)
  replace hf := ltE hf S42 eS42
  obtain ⟨e1, e2⟩ := so2 hf
  subst e1
  subst e2
  exact W.vret hx hb hr (fun t ht hWm => ⟨⟨ad39, K40, rfl, (((((Ag.rf.tr hag6).tr hag13).tr hag20).tr hag27).tr hag34).tr hag41, trivial, by rw [ht]; exact hW⟩, hS.F ht⟩) hS.2.2 dX9_init_53 hlk
set_option maxHeartbeats 4000000 in
set_option maxRecDepth 100000 in
theorem c_X2_init (l : Launch) (g : GP) (ad : Nat → Nat) (n : Nat) (K : Nat → Nat) (sz F : Nat) (S0 : St) (p0 : Nat) (tp0 : p0 < n ∧ K p0 = 2) (S9 : St) (n9 : Nat) (hf : f_X2_init F S0 n p0 = some (S9, n9)) : Met l yX2_init wsX2_init { frames := 1, cells := 3, slots := 180, locals := 20 } (va_Pc [.ref (ad p0)] (PB g ad n K S0 sz)) (QA ad K n (fun _ => none) g n9 S9 (dA ad n sz) (fun _ => True)) 3 180 (dA ad n sz) := by
  refine Met.ofW (cc := cX2_init) (maxL := 1) (ret := none) (by decide) rfl ?_
  intro p e s m args below meth c s₁ B hml hv
  obtain ⟨rfl, hsz, hW, hK, hGs⟩ := x_start hv
  subst hsz
  have hx := B.exec
  have hb := B.bytes
  have hr := B.returns
  have hts := atoms_spec (ws := wsX2_init) B.pre
  have hown : s.vm.findClass RX2 = some m.cls := findClass_of_methodNamed B.named
  have hlk := B.notSynchronized
  have hinI : meth.name = "<init>" := (name_of_methodNamed B.named B.method).1
  have hC : Cx g p s m _ c cX2_init RX2 wsX2_init 1 := ⟨hx, hb, hml, hown, hts, hK⟩
  have hA : ∀ q : Nat, s.heap.size ≤ q → dA ad n s.heap.size q := fun q h => Or.inr h
  have hS : va_S (dA ad n s.heap.size) s.heap s.heap [] := va_S.rf
  have hl := lv_entry ([.ref (ad p0)]) (n := 1) (Nat.le_of_ble_eq_true rfl)
  rw [lg_entry_eq]
  generalize (lg_sl ([.ref (ad p0)]) ++ List.replicate (1 - (lg_sl ([.ref (ad p0)])).length) Slot.unset).toArray = ls at hl ⊢
  have hl : lv_has ls 1 [(0, .ref (ad p0))] := hl
  have hin2 : ∀ w ∈ wsX20, w ∈ wsX2_init := by decide +kernel
  have w_0 := hts (.methodLink RX2 3 objectInit) (by decide +kernel)
  have w_1 := hts (.instanceMethod objectInit) (by decide +kernel)
  have w_2 := hts (.code objectInit ⟨#[0xb1]⟩ 1 none) (by decide +kernel)
  have w_3 := hts (.arrayClass .int) (by decide +kernel)
  have w_4 := hts (.fieldLink RX2 9 "MailSpool$Journal" "days" "[I") (by decide +kernel)
  have w_5 := hts (.fieldLink RX2 15 "MailSpool$Journal" "kinds" "[I") (by decide +kernel)
  have w_6 := hts (.fieldLink RX2 18 "MailSpool$Journal" "objects" "[I") (by decide +kernel)
  have hGE := hGs.2.2.2.2.2.2.1
  have hGM := hGs.2.2.2.2.2.2.2.1
  unfold f_X2_init at hf
  refine lv_aload_n hx hb dX2_init_0 rfl (lv_at hl 0 rfl) ?_
  refine W.objInit hx hb hown w_0 w_1 w_2 rfl (by rw [hml]; exact hl.1) rfl dX2_init_1 (Nat.le_of_ble_eq_true rfl) (Nat.le_of_ble_eq_true rfl) ?_
  refine W.eq (g2 := F0 m 4 ls []) rfl ?_
  refine lv_aload_n hx hb dX2_init_4 rfl (lv_at hl 0 rfl) ?_
  refine lv_bipush (v := 60) hx hb dX2_init_5 (by decide) ?_
  refine x_newaI (len := 60) hC w_3 hW hS hA (by decide) (by decide) (Nat.le_of_ble_eq_true rfl) (Nat.le_of_ble_eq_true rfl) (Nat.le_of_ble_eq_true rfl) dX2_init_7 (fun q1 ad2 K3 S4 H eS4 hag6 eqq1 ekq1 hW hS => ?_)
  replace hf := ltE hf S4 eS4
  obtain ⟨n5, en5⟩ : ∃ z, z = n + 1 := ⟨_, rfl⟩
  rw [← en5] at hag6 hW
  replace hf := ltE hf n5 en5
  have tq1 : n < n5 ∧ K3 n = 12 := ⟨by omega, ekq1⟩
  refine W.widen (k := 1) (n := 60) (Nat.le_of_ble_eq_true rfl) (Nat.le_of_ble_eq_true rfl) ?_
  refine x_putrF 200 (ci := 2) (C := RX2) (T := TX2) (N := 5) (ty := (.array .int)) 0 hC hin2 tyX2_ok nmX2 hW hS (hag6.t tp0) (hag6.e tp0 rfl) tq1 eqq1 rfl rfl ⟨by decide, by decide, rfl, rfl⟩ rfl w_4 rfl hinI rfl (by decide +kernel) rfl rfl dX2_init_9 (fun S7 H locs eS7 hW hS => ?_)
  replace hf := ltE hf S7 eS7
  refine lv_aload_n hx hb dX2_init_12 rfl (lv_at hl 0 rfl) ?_
  refine lv_bipush (v := 60) hx hb dX2_init_13 (by decide) ?_
  refine x_newaI (len := 60) hC w_3 hW hS hA (by decide) (by decide) (Nat.le_of_ble_eq_true rfl) (Nat.le_of_ble_eq_true rfl) (Nat.le_of_ble_eq_true rfl) dX2_init_15 (fun q8 ad9 K10 S11 H eS11 hag13 eqq8 ekq8 hW hS => ?_)
  replace hf := ltE hf S11 eS11
  obtain ⟨n12, en12⟩ : ∃ z, z = n5 + 1 := ⟨_, rfl⟩
  rw [← en12] at hag13 hW
  replace hf := ltE hf n12 en12
  have tq8 : n5 < n12 ∧ K10 n5 = 12 := ⟨by omega, ekq8⟩
  refine W.widen (k := 2) (n := 120) (Nat.le_of_ble_eq_true rfl) (Nat.le_of_ble_eq_true rfl) ?_
  refine x_putrF 201 (ci := 2) (C := RX2) (T := TX2) (N := 5) (ty := (.array .int)) 1 hC hin2 tyX2_ok nmX2 hW hS (hag13.t (hag6.t tp0)) (hag13.e (hag6.t tp0) (hag6.e tp0 rfl)) tq8 eqq8 rfl rfl ⟨by decide, by decide, rfl, rfl⟩ rfl w_5 rfl hinI rfl (by decide +kernel) rfl rfl dX2_init_17 (fun S14 H locs eS14 hW hS => ?_)
  replace hf := ltE hf S14 eS14
  refine lv_aload_n hx hb dX2_init_20 rfl (lv_at hl 0 rfl) ?_
  refine lv_bipush (v := 60) hx hb dX2_init_21 (by decide) ?_
  refine x_newaI (len := 60) hC w_3 hW hS hA (by decide) (by decide) (Nat.le_of_ble_eq_true rfl) (Nat.le_of_ble_eq_true rfl) (Nat.le_of_ble_eq_true rfl) dX2_init_23 (fun q15 ad16 K17 S18 H eS18 hag20 eqq15 ekq15 hW hS => ?_)
  replace hf := ltE hf S18 eS18
  obtain ⟨n19, en19⟩ : ∃ z, z = n12 + 1 := ⟨_, rfl⟩
  rw [← en19] at hag20 hW
  replace hf := ltE hf n19 en19
  have tq15 : n12 < n19 ∧ K17 n12 = 12 := ⟨by omega, ekq15⟩
  refine W.widen (k := 3) (n := 180) (Nat.le_of_ble_eq_true rfl) (Nat.le_of_ble_eq_true rfl) ?_
  refine x_putrF 202 (ci := 2) (C := RX2) (T := TX2) (N := 5) (ty := (.array .int)) 2 hC hin2 tyX2_ok nmX2 hW hS (hag20.t (hag13.t (hag6.t tp0))) (hag20.e (hag13.t (hag6.t tp0)) (hag13.e (hag6.t tp0) (hag6.e tp0 rfl))) tq15 eqq15 rfl rfl ⟨by decide, by decide, rfl, rfl⟩ rfl w_6 rfl hinI rfl (by decide +kernel) rfl rfl dX2_init_25 (fun S21 H locs eS21 hW hS => ?_)
  replace hf := ltE hf S21 eS21
  obtain ⟨e1, e2⟩ := so2 hf
  subst e1
  subst e2
  exact W.vret hx hb hr (fun t ht hWm => ⟨⟨ad16, K17, rfl, ((Ag.rf.tr hag6).tr hag13).tr hag20, trivial, by rw [ht]; exact hW⟩, hS.F ht⟩) hS.2.2 dX2_init_28 hlk
set_option maxHeartbeats 4000000 in
set_option maxRecDepth 100000 in
theorem c_X4_init (l : Launch) (g : GP) (ad : Nat → Nat) (n : Nat) (K : Nat → Nat) (sz F : Nat) (S0 : St) (p0 : Nat) (p1 : Int32) (p2 : Int32) (p3 : Int32) (p4 : Int32) (tp0 : p0 < n ∧ K p0 = 3) (S9 : St) (n9 : Nat) (hf : f_X4_init F S0 n p0 p1 p2 p3 p4 = some (S9, n9)) : Met l yX4_init wsX4_init { frames := 1, cells := 1, slots := 4, locals := 21 } (va_Pc [.ref (ad p0), .int p1, .int p2, .int p3, .int p4] (PB g ad n K S0 sz)) (QA ad K n (fun _ => none) g n9 S9 (dA ad n sz) (fun _ => True)) 1 4 (dA ad n sz) := by
  refine Met.ofW (cc := cX4_init) (maxL := 5) (ret := none) (by decide) rfl ?_
  intro p e s m args below meth c s₁ B hml hv
  obtain ⟨rfl, hsz, hW, hK, hGs⟩ := x_start hv
  subst hsz
  have hx := B.exec
  have hb := B.bytes
  have hr := B.returns
  have hts := atoms_spec (ws := wsX4_init) B.pre
  have hown : s.vm.findClass RX4 = some m.cls := findClass_of_methodNamed B.named
  have hlk := B.notSynchronized
  have hinI : meth.name = "<init>" := (name_of_methodNamed B.named B.method).1
  have hC : Cx g p s m _ c cX4_init RX4 wsX4_init 5 := ⟨hx, hb, hml, hown, hts, hK⟩
  have hA : ∀ q : Nat, s.heap.size ≤ q → dA ad n s.heap.size q := fun q h => Or.inr h
  have hS : va_S (dA ad n s.heap.size) s.heap s.heap [] := va_S.rf
  have hl := lv_entry ([.ref (ad p0), .int p1, .int p2, .int p3, .int p4]) (n := 5) (Nat.le_of_ble_eq_true rfl)
  rw [lg_entry_eq]
  generalize (lg_sl ([.ref (ad p0), .int p1, .int p2, .int p3, .int p4]) ++ List.replicate (5 - (lg_sl ([.ref (ad p0), .int p1, .int p2, .int p3, .int p4])).length) Slot.unset).toArray = ls at hl ⊢
  have hl : lv_has ls 5 [(0, .ref (ad p0)), (1, .int p1), (2, .int p2), (3, .int p3), (4, .int p4)] := hl
  have hin4 : ∀ w ∈ wsX40, w ∈ wsX4_init := by decide +kernel
  have w_0 := hts (.methodLink RX4 3 objectInit) (by decide +kernel)
  have w_1 := hts (.instanceMethod objectInit) (by decide +kernel)
  have w_2 := hts (.code objectInit ⟨#[0xb1]⟩ 1 none) (by decide +kernel)
  have w_3 := hts (.fieldLink RX4 9 "MailSpool$Message" "sender" "I") (by decide +kernel)
  have w_4 := hts (.fieldLink RX4 15 "MailSpool$Message" "day" "I") (by decide +kernel)
  have w_5 := hts (.fieldLink RX4 18 "MailSpool$Message" "size" "I") (by decide +kernel)
  have w_6 := hts (.methodLink RX4 21 Lib.Math.max.name) (by decide +kernel)
  have w_7 := hts (.static Lib.Math.max.name) (by decide +kernel)
  have w_8 := hts (.initialized "java/lang/Math") (by decide +kernel)
  have w_9 := hts (.code Lib.Math.max.name Lib.Math.max.code 2 (some .int)) (by decide +kernel)
  have w_10 := hts (.arrayClass .int) (by decide +kernel)
  have w_11 := hts (.fieldLink RX4 27 "MailSpool$Message" "parts" "[I") (by decide +kernel)
  have hGE := hGs.2.2.2.2.2.2.1
  have hGM := hGs.2.2.2.2.2.2.2.1
  unfold f_X4_init at hf
  refine lv_aload_n hx hb dX4_init_0 rfl (lv_at hl 0 rfl) ?_
  refine W.objInit hx hb hown w_0 w_1 w_2 rfl (by rw [hml]; exact hl.1) rfl dX4_init_1 (Nat.le_of_ble_eq_true rfl) (Nat.le_of_ble_eq_true rfl) ?_
  refine W.eq (g2 := F0 m 4 ls []) rfl ?_
  refine lv_aload_n hx hb dX4_init_4 rfl (lv_at hl 0 rfl) ?_
  refine lv_iload_n hx hb dX4_init_5 rfl (lv_at hl 1 rfl) ?_
  refine x_putiF 300 (ci := 3) (C := RX4) (T := TX4) (N := 5) (v := p1) (ty := .int) 0 hC hin4 tyX4_ok nmX4 hW hS tp0 rfl rfl ⟨by decide, by decide, rfl, rfl⟩ rfl w_3 rfl hinI rfl (by decide +kernel) rfl rfl dX4_init_6 (fun S1 H locs eS1 hW hS => ?_)
  replace hf := ltE hf S1 eS1
  refine lv_aload_n hx hb dX4_init_9 rfl (lv_at hl 0 rfl) ?_
  refine lv_iload_n hx hb dX4_init_10 rfl (lv_at hl 2 rfl) ?_
  refine x_putiF 301 (ci := 3) (C := RX4) (T := TX4) (N := 5) (v := p2) (ty := .int) 1 hC hin4 tyX4_ok nmX4 hW hS tp0 rfl rfl ⟨by decide, by decide, rfl, rfl⟩ rfl w_4 rfl hinI rfl (by decide +kernel) rfl rfl dX4_init_11 (fun S2 H locs eS2 hW hS => ?_)
  replace hf := ltE hf S2 eS2
  refine lv_aload_n hx hb dX4_init_14 rfl (lv_at hl 0 rfl) ?_
  refine lv_iload_n hx hb dX4_init_15 rfl (lv_at hl 3 rfl) ?_
  refine x_putiF 302 (ci := 3) (C := RX4) (T := TX4) (N := 5) (v := p3) (ty := .int) 2 hC hin4 tyX4_ok nmX4 hW hS tp0 rfl rfl ⟨by decide, by decide, rfl, rfl⟩ rfl w_5 rfl hinI rfl (by decide +kernel) rfl rfl dX4_init_16 (fun S3 H locs eS3 hW hS => ?_)
  replace hf := ltE hf S3 eS3
  refine lv_aload_n hx hb dX4_init_19 rfl (lv_at hl 0 rfl) ?_
  refine lv_iconst (v := 0) hx hb dX4_init_20 (by decide) ?_
  refine lv_iload hx hb dX4_init_21 (lv_at hl 4 rfl) ?_
  refine va_mmax hx hb (hml.trans hl.1.symm) hown w_6 w_7 w_8 w_9 (Nat.le_of_ble_eq_true rfl) (Nat.le_of_ble_eq_true rfl) (Nat.zero_le _) (Nat.zero_le _) dX4_init_23 ?_
  replace hf := ckE hf
  obtain ⟨h10, hf⟩ := hf
  refine x_newaI (len := Int32.toNatClampNeg (if (0 : Int32) < p4 then p4 else (0 : Int32))) hC w_10 hW hS hA h10.1 rfl (by omega) (Nat.le_of_ble_eq_true rfl) (by show 0 + _ ≤ 4; omega) dX4_init_26 (fun q4 ad5 K6 S7 H eS7 hag9 eqq4 ekq4 hW hS => ?_)
  replace hf := ltE hf S7 eS7
  obtain ⟨n8, en8⟩ : ∃ z, z = n + 1 := ⟨_, rfl⟩
  rw [← en8] at hag9 hW
  replace hf := ltE hf n8 en8
  have tq4 : n < n8 ∧ K6 n = 12 := ⟨by omega, ekq4⟩
  refine W.widen (k := 1) (n := 4) (Nat.le_of_ble_eq_true rfl) (by omega) ?_
  refine x_putrF 303 (ci := 3) (C := RX4) (T := TX4) (N := 5) (ty := (.array .int)) 3 hC hin4 tyX4_ok nmX4 hW hS (hag9.t tp0) (hag9.e tp0 rfl) tq4 eqq4 rfl rfl ⟨by decide, by decide, rfl, rfl⟩ rfl w_11 rfl hinI rfl (by decide +kernel) rfl rfl dX4_init_28 (fun S11 H locs eS11 hW hS => ?_)
  replace hf := ltE hf S11 eS11
  obtain ⟨e1, e2⟩ := so2 hf
  subst e1
  subst e2
  exact W.vret hx hb hr (fun t ht hWm => ⟨⟨ad5, K6, rfl, Ag.rf.tr hag9, trivial, by rw [ht]; exact hW⟩, hS.F ht⟩) hS.2.2 dX4_init_31 hlk
set_option maxHeartbeats 4000000 in
set_option maxRecDepth 100000 in
theorem c_X8_init (l : Launch) (g : GP) (ad : Nat → Nat) (n : Nat) (K : Nat → Nat) (sz F : Nat) (S0 : St) (p0 : Nat) (p1 : Nat) (tp0 : p0 < n ∧ K p0 = 7) (tp1 : p1 < n ∧ K p1 = 6) (S9 : St) (n9 : Nat) (hf : f_X8_init F S0 n p0 p1 = some (S9, n9)) : Met l yX8_init wsX8_init { frames := 3, cells := 20, slots := 9102, locals := 62 } (va_Pc [.ref (ad p0), .ref (ad p1)] (PB g ad n K S0 sz)) (QA ad K n (fun _ => none) g n9 S9 (dA ad n sz) (fun _ => True)) 20 9102 (dA ad n sz) := by
  refine Met.ofW (cc := cX8_init) (maxL := 2) (ret := none) (by decide) rfl ?_
  intro p e s m args below meth c s₁ B hml hv
  obtain ⟨rfl, hsz, hW, hK, hGs⟩ := x_start hv
  subst hsz
  have hx := B.exec
  have hb := B.bytes
  have hr := B.returns
  have hts := atoms_spec (ws := wsX8_init) B.pre
  have hown : s.vm.findClass RX8 = some m.cls := findClass_of_methodNamed B.named
  have hlk := B.notSynchronized
  have hinI : meth.name = "<init>" := (name_of_methodNamed B.named B.method).1
  have hC : Cx g p s m _ c cX8_init RX8 wsX8_init 2 := ⟨hx, hb, hml, hown, hts, hK⟩
  have hA : ∀ q : Nat, s.heap.size ≤ q → dA ad n s.heap.size q := fun q h => Or.inr h
  have hS : va_S (dA ad n s.heap.size) s.heap s.heap [] := va_S.rf
  have hl := lv_entry ([.ref (ad p0), .ref (ad p1)]) (n := 2) (Nat.le_of_ble_eq_true rfl)
  rw [lg_entry_eq]
  generalize (lg_sl ([.ref (ad p0), .ref (ad p1)]) ++ List.replicate (2 - (lg_sl ([.ref (ad p0), .ref (ad p1)])).length) Slot.unset).toArray = ls at hl ⊢
  have hl : lv_has ls 2 [(0, .ref (ad p0)), (1, .ref (ad p1))] := hl
  have hin2 : ∀ w ∈ wsX20, w ∈ wsX8_init := by decide +kernel
  have hin4 : ∀ w ∈ wsX40, w ∈ wsX8_init := by decide +kernel
  have hin8 : ∀ w ∈ wsX80, w ∈ wsX8_init := by decide +kernel
  have hin9 : ∀ w ∈ wsX90, w ∈ wsX8_init := by decide +kernel
  have w_0 := hts (.methodLink RX8 3 objectInit) (by decide +kernel)
  have w_1 := hts (.instanceMethod objectInit) (by decide +kernel)
  have w_2 := hts (.code objectInit ⟨#[0xb1]⟩ 1 none) (by decide +kernel)
  have w_3 := hts (.fieldLink RX8 9 "MailSpool$Spool" "rules" "LMailSpool$Rules;") (by decide +kernel)
  have w_4 := hts (.arrayClass .int) (by decide +kernel)
  have w_5 := hts (.fieldLink RX8 15 "MailSpool$Spool" "quotas" "[I") (by decide +kernel)
  have w_6 := hts (.classLink RX8 19 RX4) (by decide +kernel)
  have w_7 := hts (.fieldLink RX8 21 "MailSpool$Spool" "messages" "[LMailSpool$Message;") (by decide +kernel)
  have w_8 := hts (.fieldLink RX8 25 "MailSpool$Spool" "states" "[I") (by decide +kernel)
  have w_9 := hts (.fieldLink RX8 28 "MailSpool$Spool" "retentions" "[I") (by decide +kernel)
  have w_10 := hts (.fieldLink RX8 31 "MailSpool$Spool" "entered" "[I") (by decide +kernel)
  have w_11 := hts (.classLink RX8 34 RX9) (by decide +kernel)
  have w_12 := hts (.instantiable RX9 8) (by decide +kernel)
  have w_13 := hts (.initialized RX9) (by decide +kernel)
  have w_14 := hts (.methodLink RX8 36 yX9_init) (by decide +kernel)
  have w_15 := hts (.instanceMethod yX9_init) (by decide +kernel)
  have w_16 := hts (.fieldLink RX8 37 "MailSpool$Spool" "store" "LMailSpool$Store;") (by decide +kernel)
  have w_17 := hts (.classLink RX8 41 RX2) (by decide +kernel)
  have w_18 := hts (.instantiable RX2 5) (by decide +kernel)
  have w_19 := hts (.initialized RX2) (by decide +kernel)
  have w_20 := hts (.methodLink RX8 43 yX2_init) (by decide +kernel)
  have w_21 := hts (.instanceMethod yX2_init) (by decide +kernel)
  have w_22 := hts (.fieldLink RX8 44 "MailSpool$Spool" "journal" "LMailSpool$Journal;") (by decide +kernel)
  have w_23 := hts (.fieldLink RX8 48 "MailSpool$Spool" "leaves" "[I") (by decide +kernel)
  have w_24 := hts (.constant RX8 51 (1000000000)) (by decide +kernel)
  have w_25 := hts (.fieldLink RX8 52 "MailSpool$Spool" "leavingDay" "I") (by decide +kernel)
  have w_26 := hts (.fieldLink RX8 56 "MailSpool$Spool" "newer" "[I") (by decide +kernel)
  have w_27 := hts (.instantiable RX4 5) (by decide +kernel)
  have w_28 := hts (.initialized RX4) (by decide +kernel)
  have w_29 := hts (.methodLink RX8 59 yX4_init) (by decide +kernel)
  have w_30 := hts (.instanceMethod yX4_init) (by decide +kernel)
  have w_31 := hts (.fieldLink RX8 62 "MailSpool$Spool" "noMessage" "LMailSpool$Message;") (by decide +kernel)
  have hGE := hGs.2.2.2.2.2.2.1
  have hGM := hGs.2.2.2.2.2.2.2.1
  unfold f_X8_init at hf
  refine lv_aload_n hx hb dX8_init_0 rfl (lv_at hl 0 rfl) ?_
  refine W.objInit hx hb hown w_0 w_1 w_2 rfl (by rw [hml]; exact hl.1) rfl dX8_init_1 (Nat.le_of_ble_eq_true rfl) (Nat.le_of_ble_eq_true rfl) ?_
  refine W.eq (g2 := F0 m 4 ls []) rfl ?_
  refine lv_aload_n hx hb dX8_init_4 rfl (lv_at hl 0 rfl) ?_
  refine lv_aload_n hx hb dX8_init_5 rfl (lv_at hl 1 rfl) ?_
  refine x_putr 700 (ci := 7) (C := RX8) (T := TX8) (N := 16) (ty := (.object "MailSpool$Rules")) 0 hC hin8 tyX8_ok nmX8 hW hS tp0 rfl tp1 rfl rfl rfl ⟨by decide, by decide, rfl, rfl⟩ rfl w_3 rfl (by decide +kernel) rfl rfl dX8_init_6 (fun S1 H locs eS1 hW hS => ?_)
  replace hf := ltE hf S1 eS1
  refine lv_aload_n hx hb dX8_init_9 rfl (lv_at hl 0 rfl) ?_
  refine lv_bipush (v := 10) hx hb dX8_init_10 (by decide) ?_
  refine x_newaI (len := 10) hC w_4 hW hS hA (by decide) (by decide) (Nat.le_of_ble_eq_true rfl) (Nat.le_of_ble_eq_true rfl) (Nat.le_of_ble_eq_true rfl) dX8_init_12 (fun q2 ad3 K4 S5 H eS5 hag7 eqq2 ekq2 hW hS => ?_)
  replace hf := ltE hf S5 eS5
  obtain ⟨n6, en6⟩ : ∃ z, z = n + 1 := ⟨_, rfl⟩
  rw [← en6] at hag7 hW
  replace hf := ltE hf n6 en6
  have tq2 : n < n6 ∧ K4 n = 12 := ⟨by omega, ekq2⟩
  refine W.widen (k := 1) (n := 10) (Nat.le_of_ble_eq_true rfl) (Nat.le_of_ble_eq_true rfl) ?_
  refine x_putrF 704 (ci := 7) (C := RX8) (T := TX8) (N := 16) (ty := (.array .int)) 4 hC hin8 tyX8_ok nmX8 hW hS (hag7.t tp0) (hag7.e tp0 rfl) tq2 eqq2 rfl rfl ⟨by decide, by decide, rfl, rfl⟩ rfl w_5 rfl hinI rfl (by decide +kernel) rfl rfl dX8_init_14 (fun S8 H locs eS8 hW hS => ?_)
  replace hf := ltE hf S8 eS8
  refine lv_aload_n hx hb dX8_init_17 rfl (lv_at hl 0 rfl) ?_
  refine lv_bipush (v := 120) hx hb dX8_init_18 (by decide) ?_
  refine x_newq (C := RX4) (kd := 15) (t0 := 4) (len := 120) hC w_6 hGs.2.2.1.2.1 ⟨by decide, rfl⟩ hW hS hA (by decide) (by decide) (Nat.le_of_ble_eq_true rfl) (Nat.le_of_ble_eq_true rfl) (Nat.le_of_ble_eq_true rfl) dX8_init_20 (fun q9 ad10 K11 S12 H eS12 hag14 eqq9 ekq9 hW hS => ?_)
  replace hf := ltE hf S12 eS12
  obtain ⟨n13, en13⟩ : ∃ z, z = n6 + 1 := ⟨_, rfl⟩
  rw [← en13] at hag14 hW
  replace hf := ltE hf n13 en13
  have tq9 : n6 < n13 ∧ K11 n6 = 15 := ⟨by omega, ekq9⟩
  refine W.widen (k := 2) (n := 130) (Nat.le_of_ble_eq_true rfl) (Nat.le_of_ble_eq_true rfl) ?_
  refine x_putrF 706 (ci := 7) (C := RX8) (T := TX8) (N := 16) (ty := (.array (.object "MailSpool$Message"))) 6 hC hin8 tyX8_ok nmX8 hW hS (hag14.t (hag7.t tp0)) (hag14.e (hag7.t tp0) (hag7.e tp0 rfl)) tq9 eqq9 rfl rfl ⟨by decide, by decide, rfl, rfl⟩ rfl w_7 rfl hinI rfl (by decide +kernel) rfl rfl dX8_init_23 (fun S15 H locs eS15 hW hS => ?_)
  replace hf := ltE hf S15 eS15
  refine lv_aload_n hx hb dX8_init_26 rfl (lv_at hl 0 rfl) ?_
  refine lv_sipush (v := 1200) hx hb dX8_init_27 (by decide) ?_
  refine x_newaI (len := 1200) hC w_4 hW hS hA (by decide) (by decide) (Nat.le_of_ble_eq_true rfl) (Nat.le_of_ble_eq_true rfl) (Nat.le_of_ble_eq_true rfl) dX8_init_30 (fun q16 ad17 K18 S19 H eS19 hag21 eqq16 ekq16 hW hS => ?_)
  replace hf := ltE hf S19 eS19
  obtain ⟨n20, en20⟩ : ∃ z, z = n13 + 1 := ⟨_, rfl⟩
  rw [← en20] at hag21 hW
  replace hf := ltE hf n20 en20
  have tq16 : n13 < n20 ∧ K18 n13 = 12 := ⟨by omega, ekq16⟩
  refine W.widen (k := 3) (n := 1330) (Nat.le_of_ble_eq_true rfl) (Nat.le_of_ble_eq_true rfl) ?_
  refine x_putrF 707 (ci := 7) (C := RX8) (T := TX8) (N := 16) (ty := (.array .int)) 7 hC hin8 tyX8_ok nmX8 hW hS (hag21.t (hag14.t (hag7.t tp0))) (hag21.e (hag14.t (hag7.t tp0)) (hag14.e (hag7.t tp0) (hag7.e tp0 rfl))) tq16 eqq16 rfl rfl ⟨by decide, by decide, rfl, rfl⟩ rfl w_8 rfl hinI rfl (by decide +kernel) rfl rfl dX8_init_32 (fun S22 H locs eS22 hW hS => ?_)
  replace hf := ltE hf S22 eS22
  refine lv_aload_n hx hb dX8_init_35 rfl (lv_at hl 0 rfl) ?_
  refine lv_sipush (v := 1200) hx hb dX8_init_36 (by decide) ?_
  refine x_newaI (len := 1200) hC w_4 hW hS hA (by decide) (by decide) (Nat.le_of_ble_eq_true rfl) (Nat.le_of_ble_eq_true rfl) (Nat.le_of_ble_eq_true rfl) dX8_init_39 (fun q23 ad24 K25 S26 H eS26 hag28 eqq23 ekq23 hW hS => ?_)
  replace hf := ltE hf S26 eS26
  obtain ⟨n27, en27⟩ : ∃ z, z = n20 + 1 := ⟨_, rfl⟩
  rw [← en27] at hag28 hW
  replace hf := ltE hf n27 en27
  have tq23 : n20 < n27 ∧ K25 n20 = 12 := ⟨by omega, ekq23⟩
  refine W.widen (k := 4) (n := 2530) (Nat.le_of_ble_eq_true rfl) (Nat.le_of_ble_eq_true rfl) ?_
  refine x_putrF 708 (ci := 7) (C := RX8) (T := TX8) (N := 16) (ty := (.array .int)) 8 hC hin8 tyX8_ok nmX8 hW hS (hag28.t (hag21.t (hag14.t (hag7.t tp0)))) (hag28.e (hag21.t (hag14.t (hag7.t tp0))) (hag21.e (hag14.t (hag7.t tp0)) (hag14.e (hag7.t tp0) (hag7.e tp0 rfl)))) tq23 eqq23 rfl rfl ⟨by decide, by decide, rfl, rfl⟩ rfl w_9 rfl hinI rfl (by decide +kernel) rfl rfl dX8_init_41 (fun S29 H locs eS29 hW hS => ?_)
  replace hf := ltE hf S29 eS29
  refine lv_aload_n hx hb dX8_init_44 rfl (lv_at hl 0 rfl) ?_
  refine lv_sipush (v := 1200) hx hb dX8_init_45 (by decide) ?_
  refine x_newaI (len := 1200) hC w_4 hW hS hA (by decide) (by decide) (Nat.le_of_ble_eq_true rfl) (Nat.le_of_ble_eq_true rfl) (Nat.le_of_ble_eq_true rfl) dX8_init_48 (fun q30 ad31 K32 S33 H eS33 hag35 eqq30 ekq30 hW hS => ?_)
  replace hf := ltE hf S33 eS33
  obtain ⟨n34, en34⟩ : ∃ z, z = n27 + 1 := ⟨_, rfl⟩
  rw [← en34] at hag35 hW
  replace hf := ltE hf n34 en34
  have tq30 : n27 < n34 ∧ K32 n27 = 12 := ⟨by omega, ekq30⟩
  refine W.widen (k := 5) (n := 3730) (Nat.le_of_ble_eq_true rfl) (Nat.le_of_ble_eq_true rfl) ?_
  refine x_putrF 709 (ci := 7) (C := RX8) (T := TX8) (N := 16) (ty := (.array .int)) 9 hC hin8 tyX8_ok nmX8 hW hS (hag35.t (hag28.t (hag21.t (hag14.t (hag7.t tp0))))) (hag35.e (hag28.t (hag21.t (hag14.t (hag7.t tp0)))) (hag28.e (hag21.t (hag14.t (hag7.t tp0))) (hag21.e (hag14.t (hag7.t tp0)) (hag14.e (hag7.t tp0) (hag7.e tp0 rfl))))) tq30 eqq30 rfl rfl ⟨by decide, by decide, rfl, rfl⟩ rfl w_10 rfl hinI rfl (by decide +kernel) rfl rfl dX8_init_50 (fun S36 H locs eS36 hW hS => ?_)
  replace hf := ltE hf S36 eS36
  refine lv_aload_n hx hb dX8_init_53 rfl (lv_at hl 0 rfl) ?_
  refine x_new (ci := 8) (C := RX9) (T := TX9) (N := 8) hC hin9 tyX9_ok hW hS hA ⟨rfl, by decide, by decide⟩ (by decide +kernel) w_11 w_12 w_13 (Nat.le_of_ble_eq_true rfl) (Nat.le_of_ble_eq_true rfl) dX8_init_54 (fun q37 ad38 K39 S40 H eS40 hag42 eqq37 ekq37 hW hS => ?_)
  replace hf := ltE hf S40 eS40
  obtain ⟨n41, en41⟩ : ∃ z, z = n34 + 1 := ⟨_, rfl⟩
  rw [← en41] at hag42 hW
  replace hf := ltE hf n41 en41
  have tq37 : n34 < n41 ∧ K39 n34 = 8 := ⟨by omega, ekq37⟩
  refine W.widen (k := 6) (n := 3738) (Nat.le_of_ble_eq_true rfl) (Nat.le_of_ble_eq_true rfl) ?_
  refine lv_dup hx hb dX8_init_57 rfl ?_
  replace hf := obE hf
  obtain ⟨z43, hz43, hf⟩ := hf
  obtain ⟨S44, n46⟩ := z43
  replace hf := ltE (ltE hf S44 rfl) n46 rfl
  refine x_acallI (As := []) (rest := [.ref (q37), .ref (ad p0)]) (S1 := S44) (n1 := n46) (o := (fun _ => none)) (P := (fun _ => True)) hC hl.1 hW hS hGs hA (c_X9_init l g ad38 n41 K39 H.size F S40 n34 tq37 S44 n46 hz43) (cwI 0 hts gX8_init_X9_init rfl rfl rfl w_13 w_14 w_15 rfl (by decide +kernel) ⟨Nat.le_of_ble_eq_true rfl, Nat.le_of_ble_eq_true rfl⟩) rfl (by rw [eqq37] <;> rfl) (Nat.le_of_ble_eq_true rfl) dX8_init_58 ⟨Nat.le_of_ble_eq_true rfl, Nat.le_of_ble_eq_true rfl⟩ (fun ad47 K48 H locs hag49 hPz43 hW hS => ?_)
  refine W.widen (k := 12) (n := 7700) (Nat.le_of_ble_eq_true rfl) (Nat.le_of_ble_eq_true rfl) ?_
  refine W.eq (g2 := F0 m 61 ls [.ref (q37), .ref (ad p0)]) rfl ?_
  refine x_putrF 710 (ci := 7) (C := RX8) (T := TX8) (N := 16) (ty := (.object "MailSpool$Store")) 10 hC hin8 tyX8_ok nmX8 hW hS (hag49.t (hag42.t (hag35.t (hag28.t (hag21.t (hag14.t (hag7.t tp0))))))) (hag49.e (hag42.t (hag35.t (hag28.t (hag21.t (hag14.t (hag7.t tp0)))))) (hag42.e (hag35.t (hag28.t (hag21.t (hag14.t (hag7.t tp0))))) (hag35.e (hag28.t (hag21.t (hag14.t (hag7.t tp0)))) (hag28.e (hag21.t (hag14.t (hag7.t tp0))) (hag21.e (hag14.t (hag7.t tp0)) (hag14.e (hag7.t tp0) (hag7.e tp0 rfl))))))) (hag49.t tq37) (hag49.e tq37 eqq37) rfl rfl ⟨by decide, by decide, rfl, rfl⟩ rfl w_16 rfl hinI rfl (by decide +kernel) rfl rfl dX8_init_61 (fun S50 H locs eS50 hW hS => ?_)
  replace hf := ltE hf S50 eS50
  refine lv_aload_n hx hb dX8_init_64 rfl (lv_at hl 0 rfl) ?_
  refine x_new (ci := 2) (C := RX2) (T := TX2) (N := 5) hC hin2 tyX2_ok hW hS hA ⟨rfl, by decide, by decide⟩ (by decide +kernel) w_17 w_18 w_19 (Nat.le_of_ble_eq_true rfl) (Nat.le_of_ble_eq_true rfl) dX8_init_65 (fun q51 ad52 K53 S54 H eS54 hag56 eqq51 ekq51 hW hS => ?_)
  replace hf := ltE hf S54 eS54
  obtain ⟨n55, en55⟩ : ∃ z, z = n46 + 1 := ⟨_, rfl⟩
  rw [← en55] at hag56 hW
  replace hf := ltE hf n55 en55
  have tq51 : n46 < n55 ∧ K53 n46 = 2 := ⟨by omega, ekq51⟩
  refine W.widen (k := 13) (n := 7705) (Nat.le_of_ble_eq_true rfl) (Nat.le_of_ble_eq_true rfl) ?_
  refine lv_dup hx hb dX8_init_68 rfl ?_
  replace hf := obE hf
  obtain ⟨z57, hz57, hf⟩ := hf
  obtain ⟨S58, n60⟩ := z57
  replace hf := ltE (ltE hf S58 rfl) n60 rfl
  refine x_acallI (As := []) (rest := [.ref (q51), .ref (ad p0)]) (S1 := S58) (n1 := n60) (o := (fun _ => none)) (P := (fun _ => True)) hC hl.1 hW hS hGs hA (c_X2_init l g ad52 n55 K53 H.size F S54 n46 tq51 S58 n60 hz57) (cwI 0 hts gX8_init_X2_init rfl rfl rfl w_19 w_20 w_21 rfl (by decide +kernel) ⟨Nat.le_of_ble_eq_true rfl, Nat.le_of_ble_eq_true rfl⟩) rfl (by rw [eqq51] <;> rfl) (Nat.le_of_ble_eq_true rfl) dX8_init_69 ⟨Nat.le_of_ble_eq_true rfl, Nat.le_of_ble_eq_true rfl⟩ (fun ad61 K62 H locs hag63 hPz57 hW hS => ?_)
  refine W.widen (k := 16) (n := 7885) (Nat.le_of_ble_eq_true rfl) (Nat.le_of_ble_eq_true rfl) ?_
  refine W.eq (g2 := F0 m 72 ls [.ref (q51), .ref (ad p0)]) rfl ?_
  refine x_putrF 711 (ci := 7) (C := RX8) (T := TX8) (N := 16) (ty := (.object "MailSpool$Journal")) 11 hC hin8 tyX8_ok nmX8 hW hS (hag63.t (hag56.t (hag49.t (hag42.t (hag35.t (hag28.t (hag21.t (hag14.t (hag7.t tp0))))))))) (hag63.e (hag56.t (hag49.t (hag42.t (hag35.t (hag28.t (hag21.t (hag14.t (hag7.t tp0)))))))) (hag56.e (hag49.t (hag42.t (hag35.t (hag28.t (hag21.t (hag14.t (hag7.t tp0))))))) (hag49.e (hag42.t (hag35.t (hag28.t (hag21.t (hag14.t (hag7.t tp0)))))) (hag42.e (hag35.t (hag28.t (hag21.t (hag14.t (hag7.t tp0))))) (hag35.e (hag28.t (hag21.t (hag14.t (hag7.t tp0)))) (hag28.e (hag21.t (hag14.t (hag7.t tp0))) (hag21.e (hag14.t (hag7.t tp0)) (hag14.e (hag7.t tp0) (hag7.e tp0 rfl))))))))) (hag63.t tq51) (hag63.e tq51 eqq51) rfl rfl ⟨by decide, by decide, rfl, rfl⟩ rfl w_22 rfl hinI rfl (by decide +kernel) rfl rfl dX8_init_72 (fun S64 H locs eS64 hW hS => ?_)
  replace hf := ltE hf S64 eS64
  refine lv_aload_n hx hb dX8_init_75 rfl (lv_at hl 0 rfl) ?_
  refine lv_sipush (v := 1200) hx hb dX8_init_76 (by decide) ?_
  refine x_newaI (len := 1200) hC w_4 hW hS hA (by decide) (by decide) (Nat.le_of_ble_eq_true rfl) (Nat.le_of_ble_eq_true rfl) (Nat.le_of_ble_eq_true rfl) dX8_init_79 (fun q65 ad66 K67 S68 H eS68 hag70 eqq65 ekq65 hW hS => ?_)
  replace hf := ltE hf S68 eS68
  obtain ⟨n69, en69⟩ : ∃ z, z = n60 + 1 := ⟨_, rfl⟩
  rw [← en69] at hag70 hW
  replace hf := ltE hf n69 en69
  have tq65 : n60 < n69 ∧ K67 n60 = 12 := ⟨by omega, ekq65⟩
  refine W.widen (k := 17) (n := 9085) (Nat.le_of_ble_eq_true rfl) (Nat.le_of_ble_eq_true rfl) ?_
  refine x_putrF 712 (ci := 7) (C := RX8) (T := TX8) (N := 16) (ty := (.array .int)) 12 hC hin8 tyX8_ok nmX8 hW hS (hag70.t (hag63.t (hag56.t (hag49.t (hag42.t (hag35.t (hag28.t (hag21.t (hag14.t (hag7.t tp0)))))))))) (hag70.e (hag63.t (hag56.t (hag49.t (hag42.t (hag35.t (hag28.t (hag21.t (hag14.t (hag7.t tp0))))))))) (hag63.e (hag56.t (hag49.t (hag42.t (hag35.t (hag28.t (hag21.t (hag14.t (hag7.t tp0)))))))) (hag56.e (hag49.t (hag42.t (hag35.t (hag28.t (hag21.t (hag14.t (hag7.t tp0))))))) (hag49.e (hag42.t (hag35.t (hag28.t (hag21.t (hag14.t (hag7.t tp0)))))) (hag42.e (hag35.t (hag28.t (hag21.t (hag14.t (hag7.t tp0))))) (hag35.e (hag28.t (hag21.t (hag14.t (hag7.t tp0)))) (hag28.e (hag21.t (hag14.t (hag7.t tp0))) (hag21.e (hag14.t (hag7.t tp0)) (hag14.e (hag7.t tp0) (hag7.e tp0 rfl)))))))))) tq65 eqq65 rfl rfl ⟨by decide, by decide, rfl, rfl⟩ rfl w_23 rfl hinI rfl (by decide +kernel) rfl rfl dX8_init_81 (fun S71 H locs eS71 hW hS => ?_)
  replace hf := ltE hf S71 eS71
  refine lv_aload_n hx hb dX8_init_84 rfl (lv_at hl 0 rfl) ?_
  refine lv_ldc (v := 1000000000) hx hb hown w_24 dX8_init_85 ?_
  refine x_puti 713 (ci := 7) (C := RX8) (T := TX8) (N := 16) (v := 1000000000) (ty := .int) 13 hC hin8 tyX8_ok nmX8 hW hS (hag70.t (hag63.t (hag56.t (hag49.t (hag42.t (hag35.t (hag28.t (hag21.t (hag14.t (hag7.t tp0)))))))))) (hag70.e (hag63.t (hag56.t (hag49.t (hag42.t (hag35.t (hag28.t (hag21.t (hag14.t (hag7.t tp0))))))))) (hag63.e (hag56.t (hag49.t (hag42.t (hag35.t (hag28.t (hag21.t (hag14.t (hag7.t tp0)))))))) (hag56.e (hag49.t (hag42.t (hag35.t (hag28.t (hag21.t (hag14.t (hag7.t tp0))))))) (hag49.e (hag42.t (hag35.t (hag28.t (hag21.t (hag14.t (hag7.t tp0)))))) (hag42.e (hag35.t (hag28.t (hag21.t (hag14.t (hag7.t tp0))))) (hag35.e (hag28.t (hag21.t (hag14.t (hag7.t tp0)))) (hag28.e (hag21.t (hag14.t (hag7.t tp0))) (hag21.e (hag14.t (hag7.t tp0)) (hag14.e (hag7.t tp0) (hag7.e tp0 rfl)))))))))) rfl ⟨by decide, by decide, rfl, rfl⟩ rfl w_25 rfl (by decide +kernel) rfl rfl dX8_init_87 (fun S72 H locs eS72 hW hS => ?_)
  replace hf := ltE hf S72 eS72
  refine lv_aload_n hx hb dX8_init_90 rfl (lv_at hl 0 rfl) ?_
  refine lv_bipush (v := 8) hx hb dX8_init_91 (by decide) ?_
  refine x_newaI (len := 8) hC w_4 hW hS hA (by decide) (by decide) (Nat.le_of_ble_eq_true rfl) (Nat.le_of_ble_eq_true rfl) (Nat.le_of_ble_eq_true rfl) dX8_init_93 (fun q73 ad74 K75 S76 H eS76 hag78 eqq73 ekq73 hW hS => ?_)
  replace hf := ltE hf S76 eS76
  obtain ⟨n77, en77⟩ : ∃ z, z = n69 + 1 := ⟨_, rfl⟩
  rw [← en77] at hag78 hW
  replace hf := ltE hf n77 en77
  have tq73 : n69 < n77 ∧ K75 n69 = 12 := ⟨by omega, ekq73⟩
  refine W.widen (k := 18) (n := 9093) (Nat.le_of_ble_eq_true rfl) (Nat.le_of_ble_eq_true rfl) ?_
  refine x_putrF 714 (ci := 7) (C := RX8) (T := TX8) (N := 16) (ty := (.array .int)) 14 hC hin8 tyX8_ok nmX8 hW hS (hag78.t (hag70.t (hag63.t (hag56.t (hag49.t (hag42.t (hag35.t (hag28.t (hag21.t (hag14.t (hag7.t tp0))))))))))) (hag78.e (hag70.t (hag63.t (hag56.t (hag49.t (hag42.t (hag35.t (hag28.t (hag21.t (hag14.t (hag7.t tp0)))))))))) (hag70.e (hag63.t (hag56.t (hag49.t (hag42.t (hag35.t (hag28.t (hag21.t (hag14.t (hag7.t tp0))))))))) (hag63.e (hag56.t (hag49.t (hag42.t (hag35.t (hag28.t (hag21.t (hag14.t (hag7.t tp0)))))))) (hag56.e (hag49.t (hag42.t (hag35.t (hag28.t (hag21.t (hag14.t (hag7.t tp0))))))) (hag49.e (hag42.t (hag35.t (hag28.t (hag21.t (hag14.t (hag7.t tp0)))))) (hag42.e (hag35.t (hag28.t (hag21.t (hag14.t (hag7.t tp0))))) (hag35.e (hag28.t (hag21.t (hag14.t (hag7.t tp0)))) (hag28.e (hag21.t (hag14.t (hag7.t tp0))) (hag21.e (hag14.t (hag7.t tp0)) (hag14.e (hag7.t tp0) (hag7.e tp0 rfl))))))))))) tq73 eqq73 rfl rfl ⟨by decide, by decide, rfl, rfl⟩ rfl w_26 rfl hinI rfl (by decide +kernel) rfl rfl dX8_init_95 (fun S79 H locs eS79 hW hS => ?_)
  replace hf := ltE hf S79 eS79
  refine lv_aload_n hx hb dX8_init_98 rfl (lv_at hl 0 rfl) ?_
  refine x_new (ci := 3) (C := RX4) (T := TX4) (N := 5) hC hin4 tyX4_ok hW hS hA ⟨rfl, by decide, by decide⟩ (by decide +kernel) w_6 w_27 w_28 (Nat.le_of_ble_eq_true rfl) (Nat.le_of_ble_eq_true rfl) dX8_init_99 (fun q80 ad81 K82 S83 H eS83 hag85 eqq80 ekq80 hW hS => ?_)
  replace hf := ltE hf S83 eS83
  obtain ⟨n84, en84⟩ : ∃ z, z = n77 + 1 := ⟨_, rfl⟩
  rw [← en84] at hag85 hW
  replace hf := ltE hf n84 en84
  have tq80 : n77 < n84 ∧ K82 n77 = 3 := ⟨by omega, ekq80⟩
  refine W.widen (k := 19) (n := 9098) (Nat.le_of_ble_eq_true rfl) (Nat.le_of_ble_eq_true rfl) ?_
  refine lv_dup hx hb dX8_init_102 rfl ?_
  refine lv_iconst (v := -1) hx hb dX8_init_103 (by decide) ?_
  refine lv_iconst (v := -1) hx hb dX8_init_104 (by decide) ?_
  refine lv_iconst (v := 0) hx hb dX8_init_105 (by decide) ?_
  refine lv_iconst (v := 0) hx hb dX8_init_106 (by decide) ?_
  replace hf := obE hf
  obtain ⟨z86, hz86, hf⟩ := hf
  obtain ⟨S87, n89⟩ := z86
  replace hf := ltE (ltE hf S87 rfl) n89 rfl
  refine x_acallI (As := [.int ((-1)), .int ((-1)), .int 0, .int 0]) (rest := [.ref (q80), .ref (ad p0)]) (S1 := S87) (n1 := n89) (o := (fun _ => none)) (P := (fun _ => True)) hC hl.1 hW hS hGs hA (c_X4_init l g ad81 n84 K82 H.size F S83 n77 (((-1) : Int32)) (((-1) : Int32)) ((0 : Int32)) ((0 : Int32)) tq80 S87 n89 hz86) (cwI 4 hts gX8_init_X4_init rfl rfl rfl w_28 w_29 w_30 rfl (by decide +kernel) ⟨Nat.le_of_ble_eq_true rfl, Nat.le_of_ble_eq_true rfl⟩) rfl (by rw [eqq80] <;> rfl) (Nat.le_of_ble_eq_true rfl) dX8_init_107 ⟨Nat.le_of_ble_eq_true rfl, Nat.le_of_ble_eq_true rfl⟩ (fun ad90 K91 H locs hag92 hPz86 hW hS => ?_)
  refine W.widen (k := 20) (n := 9102) (Nat.le_of_ble_eq_true rfl) (Nat.le_of_ble_eq_true rfl) ?_
  refine W.eq (g2 := F0 m 110 ls [.ref (q80), .ref (ad p0)]) rfl ?_
  refine x_putrF 715 (ci := 7) (C := RX8) (T := TX8) (N := 16) (ty := (.object "MailSpool$Message")) 15 hC hin8 tyX8_ok nmX8 hW hS (hag92.t (hag85.t (hag78.t (hag70.t (hag63.t (hag56.t (hag49.t (hag42.t (hag35.t (hag28.t (hag21.t (hag14.t (hag7.t tp0))))))))))))) (hag92.e (hag85.t (hag78.t (hag70.t (hag63.t (hag56.t (hag49.t (hag42.t (hag35.t (hag28.t (hag21.t (hag14.t (hag7.t tp0)))))))))))) (hag85.e (hag78.t (hag70.t (hag63.t (hag56.t (hag49.t (hag42.t (hag35.t (hag28.t (hag21.t (hag14.t (hag7.t tp0))))))))))) (hag78.e (hag70.t (hag63.t (hag56.t (hag49.t (hag42.t (hag35.t (hag28.t (hag21.t (hag14.t (hag7.t tp0)))))))))) (hag70.e (hag63.t (hag56.t (hag49.t (hag42.t (hag35.t (hag28.t (hag21.t (hag14.t (hag7.t tp0))))))))) (hag63.e (hag56.t (hag49.t (hag42.t (hag35.t (hag28.t (hag21.t (hag14.t (hag7.t tp0)))))))) (hag56.e (hag49.t (hag42.t (hag35.t (hag28.t (hag21.t (hag14.t (hag7.t tp0))))))) (hag49.e (hag42.t (hag35.t (hag28.t (hag21.t (hag14.t (hag7.t tp0)))))) (hag42.e (hag35.t (hag28.t (hag21.t (hag14.t (hag7.t tp0))))) (hag35.e (hag28.t (hag21.t (hag14.t (hag7.t tp0)))) (hag28.e (hag21.t (hag14.t (hag7.t tp0))) (hag21.e (hag14.t (hag7.t tp0)) (hag14.e (hag7.t tp0) (hag7.e tp0 rfl))))))))))))) (hag92.t tq80) (hag92.e tq80 eqq80) rfl rfl ⟨by decide, by decide, rfl, rfl⟩ rfl w_31 rfl hinI rfl (by decide +kernel) rfl rfl dX8_init_110 (fun S93 H locs eS93 hW hS => ?_)
  replace hf := ltE hf S93 eS93
  obtain ⟨e1, e2⟩ := so2 hf
  subst e1
  subst e2
  exact W.vret hx hb hr (fun t ht hWm => ⟨⟨ad90, K91, rfl, ((((((((((((Ag.rf.tr hag7).tr hag14).tr hag21).tr hag28).tr hag35).tr hag42).tr hag49).tr hag56).tr hag63).tr hag70).tr hag78).tr hag85).tr hag92, trivial, by rw [ht]; exact hW⟩, hS.F ht⟩) hS.2.2 dX8_init_113 hlk
set_option maxHeartbeats 4000000 in
set_option maxRecDepth 100000 in
theorem c_X10_init (l : Launch) (g : GP) (ad : Nat → Nat) (n : Nat) (K : Nat → Nat) (sz F : Nat) (S0 : St) (p0 : Nat) (tp0 : p0 < n ∧ K p0 = 9) (S9 : St) (n9 : Nat) (hf : f_X10_init F S0 n p0 = some (S9, n9)) : Met l yX10_init wsX10_init { frames := 4, cells := 196, slots := 77664, locals := 83 } (va_Pc [.ref (ad p0)] (PB g ad n K S0 sz)) (QA ad K n (fun _ => none) g n9 S9 (dA ad n sz) (fun _ => True)) 196 77664 (dA ad n sz) := by
  refine Met.ofW (cc := cX10_init) (maxL := 3) (ret := none) (by decide) rfl ?_
  intro p e s m args below meth c s₁ B hml hv
  obtain ⟨rfl, hsz, hW, hK, hGs⟩ := x_start hv
  subst hsz
  have hx := B.exec
  have hb := B.bytes
  have hr := B.returns
  have hts := atoms_spec (ws := wsX10_init) B.pre
  have hown : s.vm.findClass RX10 = some m.cls := findClass_of_methodNamed B.named
  have hlk := B.notSynchronized
  have hinI : meth.name = "<init>" := (name_of_methodNamed B.named B.method).1
  have hC : Cx g p s m _ c cX10_init RX10 wsX10_init 3 := ⟨hx, hb, hml, hown, hts, hK⟩
  have hA : ∀ q : Nat, s.heap.size ≤ q → dA ad n s.heap.size q := fun q h => Or.inr h
  have hS : va_S (dA ad n s.heap.size) s.heap s.heap [] := va_S.rf
  have hl := lv_entry ([.ref (ad p0)]) (n := 3) (Nat.le_of_ble_eq_true rfl)
  rw [lg_entry_eq]
  generalize (lg_sl ([.ref (ad p0)]) ++ List.replicate (3 - (lg_sl ([.ref (ad p0)])).length) Slot.unset).toArray = ls at hl ⊢
  have hl : lv_has ls 3 [(0, .ref (ad p0))] := hl
  have hin0 : ∀ w ∈ wsX00, w ∈ wsX10_init := by decide +kernel
  have hin1 : ∀ w ∈ wsX10, w ∈ wsX10_init := by decide +kernel
  have hin7 : ∀ w ∈ wsX70, w ∈ wsX10_init := by decide +kernel
  have hin8 : ∀ w ∈ wsX80, w ∈ wsX10_init := by decide +kernel
  have hin10 : ∀ w ∈ wsX100, w ∈ wsX10_init := by decide +kernel
  have w_0 := hts (.arrayClass .int) (by decide +kernel)
  have w_1 := hts (.fieldLink RX10 53 "MailSpool" "partReaders" "[I") (by decide +kernel)
  have w_2 := hts (.methodLink RX10 1 objectInit) (by decide +kernel)
  have w_3 := hts (.instanceMethod objectInit) (by decide +kernel)
  have w_4 := hts (.code objectInit ⟨#[0xb1]⟩ 1 none) (by decide +kernel)
  have w_5 := hts (.classLink RX10 7 RX7) (by decide +kernel)
  have w_6 := hts (.instantiable RX7 16) (by decide +kernel)
  have w_7 := hts (.initialized RX7) (by decide +kernel)
  have w_8 := hts (.methodLink RX10 9 yX7_init) (by decide +kernel)
  have w_9 := hts (.instanceMethod yX7_init) (by decide +kernel)
  have w_10 := hts (.classLink RX10 10 RX0) (by decide +kernel)
  have w_11 := hts (.instantiable RX0 2) (by decide +kernel)
  have w_12 := hts (.initialized RX0) (by decide +kernel)
  have w_13 := hts (.methodLink RX10 14 yX0_init) (by decide +kernel)
  have w_14 := hts (.instanceMethod yX0_init) (by decide +kernel)
  have w_15 := hts (.fieldLink RX10 17 "MailSpool" "input" "LMailSpool$Bytes;") (by decide +kernel)
  have w_16 := hts (.fieldLink RX10 21 "MailSpool" "output" "LMailSpool$Bytes;") (by decide +kernel)
  have w_17 := hts (.classLink RX10 24 RX1) (by decide +kernel)
  have w_18 := hts (.instantiable RX1 4) (by decide +kernel)
  have w_19 := hts (.initialized RX1) (by decide +kernel)
  have w_20 := hts (.methodLink RX10 26 yX1_init) (by decide +kernel)
  have w_21 := hts (.instanceMethod yX1_init) (by decide +kernel)
  have w_22 := hts (.fieldLink RX10 29 "MailSpool" "content" "LMailSpool$Content;") (by decide +kernel)
  have w_23 := hts (.fieldLink RX10 33 "MailSpool" "parsePosition" "I") (by decide +kernel)
  have w_24 := hts (.classLink RX10 37 RX8) (by decide +kernel)
  have w_25 := hts (.instantiable RX8 16) (by decide +kernel)
  have w_26 := hts (.initialized RX8) (by decide +kernel)
  have w_27 := hts (.methodLink RX10 39 yX8_init) (by decide +kernel)
  have w_28 := hts (.instanceMethod yX8_init) (by decide +kernel)
  have w_29 := hts (.fieldLink RX10 42 "MailSpool" "now" "LMailSpool$Spool;") (by decide +kernel)
  have w_30 := hts (.fieldLink RX10 46 "MailSpool" "later" "LMailSpool$Spool;") (by decide +kernel)
  have w_31 := hts (.fieldLink RX10 49 "MailSpool" "past" "[LMailSpool$Spool;") (by decide +kernel)
  have hGE := hGs.2.2.2.2.2.2.1
  have hGM := hGs.2.2.2.2.2.2.2.1
  have L800124 : ∀ (adL KL : Nat → Nat) (nL : Nat) (hagL : Ag ad K n adL KL nL) (S0 : St) (v0 : Nat) (tv0 : v0 < nL ∧ KL v0 = 9) (H : Heap) (locs : List Loc) (ls : Array Slot), f_X10_init_L800124 F S0 nL v0 = some (S9, n9) → Wb g adL nL KL S0 (dA ad n s.heap.size) H → va_S (dA ad n s.heap.size) s.heap H locs → lv_has ls 3 [(0, .ref (adL v0))] → W p l e (headSpec wsX10_init { frames := 4, cells := 196, slots := 77664, locals := 83 }).room s m (List.toArray [.ref (ad p0)]) below meth c H locs 195 77184 (MQ below (QA ad K n (fun _ => none) g n9 S9 (dA ad n s.heap.size) (fun _ => True)) (List.toArray [.ref (ad p0)]) s 196 77664 (dA ad n s.heap.size)) (F0 m 124 ls []) := by
    intro adL KL nL hagL S0 v0 tv0 H locs ls hf hW hS hl
    unfold f_X10_init_L800124 at hf
    refine lv_aload_n hx hb dX10_init_124 rfl (lv_at hl 0 rfl) ?_
    refine lv_sipush (v := 480) hx hb dX10_init_125 (by decide) ?_
    refine x_newaI (len := 480) hC w_0 hW hS hA (by decide) (by decide) (Nat.le_of_ble_eq_true rfl) (Nat.le_of_ble_eq_true rfl) (Nat.le_of_ble_eq_true rfl) dX10_init_128 (fun q8 ad9 K10 S11 H eS11 hag13 eqq8 ekq8 hW hS => ?_)
    replace hf := ltE hf S11 eS11
    obtain ⟨n12, en12⟩ : ∃ z, z = nL + 1 := ⟨_, rfl⟩
    rw [← en12] at hag13 hW
    replace hf := ltE hf n12 en12
    have tq8 : nL < n12 ∧ K10 nL = 12 := ⟨by omega, ekq8⟩
    refine W.widen (k := 196) (n := 77664) (Nat.le_of_ble_eq_true rfl) (Nat.le_of_ble_eq_true rfl) ?_
    refine x_putrF 910 (ci := 9) (C := RX10) (T := TX10) (N := 11) (ty := (.array .int)) 10 hC hin10 tyX10_ok nmX10 hW hS (hag13.t tv0) (hag13.e tv0 rfl) tq8 eqq8 rfl rfl ⟨by decide, by decide, rfl, rfl⟩ rfl w_1 rfl hinI rfl (by decide +kernel) rfl rfl dX10_init_130 (fun S14 H locs eS14 hW hS => ?_)
    replace hf := ltE hf S14 eS14
    obtain ⟨e1, e2⟩ := so2 hf
    subst e1
    subst e2
    exact W.vret hx hb hr (fun t ht hWm => ⟨⟨ad9, K10, rfl, hagL.tr hag13, trivial, by rw [ht]; exact hW⟩, hS.F ht⟩) hS.2.2 dX10_init_133 hlk
  unfold f_X10_init at hf
  refine lv_aload_n hx hb dX10_init_0 rfl (lv_at hl 0 rfl) ?_
  refine W.objInit hx hb hown w_2 w_3 w_4 rfl (by rw [hml]; exact hl.1) rfl dX10_init_1 (Nat.le_of_ble_eq_true rfl) (Nat.le_of_ble_eq_true rfl) ?_
  refine W.eq (g2 := F0 m 4 ls []) rfl ?_
  refine x_new (ci := 6) (C := RX7) (T := TX7) (N := 16) hC hin7 tyX7_ok hW hS hA ⟨rfl, by decide, by decide⟩ (by decide +kernel) w_5 w_6 w_7 (Nat.le_of_ble_eq_true rfl) (Nat.le_of_ble_eq_true rfl) dX10_init_4 (fun q15 ad16 K17 S18 H eS18 hag20 eqq15 ekq15 hW hS => ?_)
  replace hf := ltE hf S18 eS18
  obtain ⟨n19, en19⟩ : ∃ z, z = n + 1 := ⟨_, rfl⟩
  rw [← en19] at hag20 hW
  replace hf := ltE hf n19 en19
  have tq15 : n < n19 ∧ K17 n = 6 := ⟨by omega, ekq15⟩
  refine W.widen (k := 1) (n := 16) (Nat.le_of_ble_eq_true rfl) (Nat.le_of_ble_eq_true rfl) ?_
  refine lv_dup hx hb dX10_init_7 rfl ?_
  replace hf := obE hf
  obtain ⟨z21, hz21, hf⟩ := hf
  obtain ⟨S22, n24⟩ := z21
  replace hf := ltE (ltE hf S22 rfl) n24 rfl
  refine x_acallI (As := []) (rest := [.ref (q15)]) (S1 := S22) (n1 := n24) (o := (fun _ => none)) (P := (fun _ => True)) hC hl.1 hW hS hGs hA (c_X7_init l g ad16 n19 K17 H.size F S18 n tq15 S22 n24 hz21) (cwI 0 hts gX10_init_X7_init rfl rfl rfl w_7 w_8 w_9 rfl (by decide +kernel) ⟨Nat.le_of_ble_eq_true rfl, Nat.le_of_ble_eq_true rfl⟩) rfl (by rw [eqq15] <;> rfl) (Nat.le_of_ble_eq_true rfl) dX10_init_8 ⟨Nat.le_of_ble_eq_true rfl, Nat.le_of_ble_eq_true rfl⟩ (fun ad25 K26 H locs hag27 hPz21 hW hS => ?_)
  refine W.widen (k := 19) (n := 138) (Nat.le_of_ble_eq_true rfl) (Nat.le_of_ble_eq_true rfl) ?_
  refine W.eq (g2 := F0 m 11 ls [.ref (q15)]) rfl ?_
  refine lv_astore_n (lv' := [(1, .ref (q15)), (0, .ref (ad p0))]) hx hb dX10_init_11 rfl hl (by decide) rfl (fun ls hl => ?_)
  refine lv_aload_n hx hb dX10_init_12 rfl (lv_at hl 1 rfl) ?_
  refine x_new (ci := 0) (C := RX0) (T := TX0) (N := 2) hC hin0 tyX0_ok hW hS hA ⟨rfl, by decide, by decide⟩ (by decide +kernel) w_10 w_11 w_12 (Nat.le_of_ble_eq_true rfl) (Nat.le_of_ble_eq_true rfl) dX10_init_13 (fun q28 ad29 K30 S31 H eS31 hag33 eqq28 ekq28 hW hS => ?_)
  replace hf := ltE hf S31 eS31
  obtain ⟨n32, en32⟩ : ∃ z, z = n24 + 1 := ⟨_, rfl⟩
  rw [← en32] at hag33 hW
  replace hf := ltE hf n32 en32
  have tq28 : n24 < n32 ∧ K30 n24 = 0 := ⟨by omega, ekq28⟩
  refine W.widen (k := 20) (n := 140) (Nat.le_of_ble_eq_true rfl) (Nat.le_of_ble_eq_true rfl) ?_
  refine lv_dup hx hb dX10_init_16 rfl ?_
  refine lv_sipush (v := 1200) hx hb dX10_init_17 (by decide) ?_
  replace hf := obE hf
  obtain ⟨z34, hz34, hf⟩ := hf
  obtain ⟨S35, n37⟩ := z34
  replace hf := ltE (ltE hf S35 rfl) n37 rfl
  refine x_acallI (As := [.int 1200]) (rest := [.ref (q28), .ref (ad p0)]) (S1 := S35) (n1 := n37) (o := (fun _ => none)) (P := (fun _ => True)) hC hl.1 hW hS hGs hA (c_X0_init l g ad29 n32 K30 H.size F S31 n24 ((1200 : Int32)) tq28 S35 n37 hz34) (cwI 1 hts gX10_init_X0_init rfl rfl rfl w_12 w_13 w_14 rfl (by decide +kernel) ⟨Nat.le_of_ble_eq_true rfl, Nat.le_of_ble_eq_true rfl⟩) rfl (by rw [eqq28] <;> rfl) (Nat.le_of_ble_eq_true rfl) dX10_init_20 ⟨Nat.le_of_ble_eq_true rfl, Nat.le_of_ble_eq_true rfl⟩ (fun ad38 K39 H locs hag40 hPz34 hW hS => ?_)
  refine W.widen (k := 21) (n := 2180) (Nat.le_of_ble_eq_true rfl) (Nat.le_of_ble_eq_true rfl) ?_
  refine W.eq (g2 := F0 m 23 ls [.ref (q28), .ref (ad p0)]) rfl ?_
  refine x_putrF 900 (ci := 9) (C := RX10) (T := TX10) (N := 11) (ty := (.object "MailSpool$Bytes")) 0 hC hin10 tyX10_ok nmX10 hW hS (hag40.t (hag33.t (hag27.t (hag20.t tp0)))) (hag40.e (hag33.t (hag27.t (hag20.t tp0))) (hag33.e (hag27.t (hag20.t tp0)) (hag27.e (hag20.t tp0) (hag20.e tp0 rfl)))) (hag40.t tq28) (hag40.e tq28 eqq28) rfl rfl ⟨by decide, by decide, rfl, rfl⟩ rfl w_15 rfl hinI rfl (by decide +kernel) rfl rfl dX10_init_23 (fun S41 H locs eS41 hW hS => ?_)
  replace hf := ltE hf S41 eS41
  refine lv_aload_n hx hb dX10_init_26 rfl (lv_at hl 1 rfl) ?_
  refine x_new (ci := 0) (C := RX0) (T := TX0) (N := 2) hC hin0 tyX0_ok hW hS hA ⟨rfl, by decide, by decide⟩ (by decide +kernel) w_10 w_11 w_12 (Nat.le_of_ble_eq_true rfl) (Nat.le_of_ble_eq_true rfl) dX10_init_27 (fun q42 ad43 K44 S45 H eS45 hag47 eqq42 ekq42 hW hS => ?_)
  replace hf := ltE hf S45 eS45
  obtain ⟨n46, en46⟩ : ∃ z, z = n37 + 1 := ⟨_, rfl⟩
  rw [← en46] at hag47 hW
  replace hf := ltE hf n46 en46
  have tq42 : n37 < n46 ∧ K44 n37 = 0 := ⟨by omega, ekq42⟩
  refine W.widen (k := 22) (n := 2182) (Nat.le_of_ble_eq_true rfl) (Nat.le_of_ble_eq_true rfl) ?_
  refine lv_dup hx hb dX10_init_30 rfl ?_
  refine lv_sipush (v := 2040) hx hb dX10_init_31 (by decide) ?_
  replace hf := obE hf
  obtain ⟨z48, hz48, hf⟩ := hf
  obtain ⟨S49, n51⟩ := z48
  replace hf := ltE (ltE hf S49 rfl) n51 rfl
  refine x_acallI (As := [.int 2040]) (rest := [.ref (q42), .ref (ad p0)]) (S1 := S49) (n1 := n51) (o := (fun _ => none)) (P := (fun _ => True)) hC hl.1 hW hS hGs hA (c_X0_init l g ad43 n46 K44 H.size F S45 n37 ((2040 : Int32)) tq42 S49 n51 hz48) (cwI 1 hts gX10_init_X0_init rfl rfl rfl w_12 w_13 w_14 rfl (by decide +kernel) ⟨Nat.le_of_ble_eq_true rfl, Nat.le_of_ble_eq_true rfl⟩) rfl (by rw [eqq42] <;> rfl) (Nat.le_of_ble_eq_true rfl) dX10_init_34 ⟨Nat.le_of_ble_eq_true rfl, Nat.le_of_ble_eq_true rfl⟩ (fun ad52 K53 H locs hag54 hPz48 hW hS => ?_)
  refine W.widen (k := 23) (n := 4222) (Nat.le_of_ble_eq_true rfl) (Nat.le_of_ble_eq_true rfl) ?_
  refine W.eq (g2 := F0 m 37 ls [.ref (q42), .ref (ad p0)]) rfl ?_
  refine x_putrF 901 (ci := 9) (C := RX10) (T := TX10) (N := 11) (ty := (.object "MailSpool$Bytes")) 1 hC hin10 tyX10_ok nmX10 hW hS (hag54.t (hag47.t (hag40.t (hag33.t (hag27.t (hag20.t tp0)))))) (hag54.e (hag47.t (hag40.t (hag33.t (hag27.t (hag20.t tp0))))) (hag47.e (hag40.t (hag33.t (hag27.t (hag20.t tp0)))) (hag40.e (hag33.t (hag27.t (hag20.t tp0))) (hag33.e (hag27.t (hag20.t tp0)) (hag27.e (hag20.t tp0) (hag20.e tp0 rfl)))))) (hag54.t tq42) (hag54.e tq42 eqq42) rfl rfl ⟨by decide, by decide, rfl, rfl⟩ rfl w_16 rfl hinI rfl (by decide +kernel) rfl rfl dX10_init_37 (fun S55 H locs eS55 hW hS => ?_)
  replace hf := ltE hf S55 eS55
  refine lv_aload_n hx hb dX10_init_40 rfl (lv_at hl 1 rfl) ?_
  refine x_new (ci := 1) (C := RX1) (T := TX1) (N := 4) hC hin1 tyX1_ok hW hS hA ⟨rfl, by decide, by decide⟩ (by decide +kernel) w_17 w_18 w_19 (Nat.le_of_ble_eq_true rfl) (Nat.le_of_ble_eq_true rfl) dX10_init_41 (fun q56 ad57 K58 S59 H eS59 hag61 eqq56 ekq56 hW hS => ?_)
  replace hf := ltE hf S59 eS59
  obtain ⟨n60, en60⟩ : ∃ z, z = n51 + 1 := ⟨_, rfl⟩
  rw [← en60] at hag61 hW
  replace hf := ltE hf n60 en60
  have tq56 : n51 < n60 ∧ K58 n51 = 1 := ⟨by omega, ekq56⟩
  refine W.widen (k := 24) (n := 4226) (Nat.le_of_ble_eq_true rfl) (Nat.le_of_ble_eq_true rfl) ?_
  refine lv_dup hx hb dX10_init_44 rfl ?_
  refine lv_aload_n hx hb dX10_init_45 rfl (lv_at hl 1 rfl) ?_
  replace hf := obE hf
  obtain ⟨j62, qj62, hf⟩ := hf
  have tj62 := x_rt hW qj62 0 ⟨by decide, rfl⟩
  refine x_getr 900 (ci := 9) (C := RX10) (T := TX10) (N := 11) 0 hC hin10 hW (hag61.t (hag54.t (hag47.t (hag40.t (hag33.t (hag27.t (hag20.t tp0))))))) (hag61.e (hag54.t (hag47.t (hag40.t (hag33.t (hag27.t (hag20.t tp0)))))) (hag54.e (hag47.t (hag40.t (hag33.t (hag27.t (hag20.t tp0))))) (hag47.e (hag40.t (hag33.t (hag27.t (hag20.t tp0)))) (hag40.e (hag33.t (hag27.t (hag20.t tp0))) (hag33.e (hag27.t (hag20.t tp0)) (hag27.e (hag20.t tp0) (hag20.e tp0 rfl))))))) rfl ⟨by decide, by decide, rfl, rfl⟩ rfl w_15 dX10_init_46 qj62 ?_
  replace hf := obE hf
  obtain ⟨z63, hz63, hf⟩ := hf
  obtain ⟨S64, n66⟩ := z63
  replace hf := ltE (ltE hf S64 rfl) n66 rfl
  refine x_acallI (As := [.ref (ad57 j62)]) (rest := [.ref (q56), .ref (ad p0)]) (S1 := S64) (n1 := n66) (o := (fun _ => none)) (P := (fun _ => True)) hC hl.1 hW hS hGs hA (c_X1_init l g ad57 n60 K58 H.size F S59 n51 j62 tq56 tj62 S64 n66 hz63) (cwI 1 hts gX10_init_X1_init rfl rfl rfl w_19 w_20 w_21 rfl (by decide +kernel) ⟨Nat.le_of_ble_eq_true rfl, Nat.le_of_ble_eq_true rfl⟩) rfl (by rw [eqq56] <;> rfl) (Nat.le_of_ble_eq_true rfl) dX10_init_49 ⟨Nat.le_of_ble_eq_true rfl, Nat.le_of_ble_eq_true rfl⟩ (fun ad67 K68 H locs hag69 hPz63 hW hS => ?_)
  refine W.widen (k := 26) (n := 4234) (Nat.le_of_ble_eq_true rfl) (Nat.le_of_ble_eq_true rfl) ?_
  refine W.eq (g2 := F0 m 52 ls [.ref (q56), .ref (ad p0)]) rfl ?_
  refine x_putrF 902 (ci := 9) (C := RX10) (T := TX10) (N := 11) (ty := (.object "MailSpool$Content")) 2 hC hin10 tyX10_ok nmX10 hW hS (hag69.t (hag61.t (hag54.t (hag47.t (hag40.t (hag33.t (hag27.t (hag20.t tp0)))))))) (hag69.e (hag61.t (hag54.t (hag47.t (hag40.t (hag33.t (hag27.t (hag20.t tp0))))))) (hag61.e (hag54.t (hag47.t (hag40.t (hag33.t (hag27.t (hag20.t tp0)))))) (hag54.e (hag47.t (hag40.t (hag33.t (hag27.t (hag20.t tp0))))) (hag47.e (hag40.t (hag33.t (hag27.t (hag20.t tp0)))) (hag40.e (hag33.t (hag27.t (hag20.t tp0))) (hag33.e (hag27.t (hag20.t tp0)) (hag27.e (hag20.t tp0) (hag20.e tp0 rfl)))))))) (hag69.t tq56) (hag69.e tq56 eqq56) rfl rfl ⟨by decide, by decide, rfl, rfl⟩ rfl w_22 rfl hinI rfl (by decide +kernel) rfl rfl dX10_init_52 (fun S70 H locs eS70 hW hS => ?_)
  replace hf := ltE hf S70 eS70
  refine lv_aload_n hx hb dX10_init_55 rfl (lv_at hl 1 rfl) ?_
  refine lv_iconst (v := -1) hx hb dX10_init_56 (by decide) ?_
  refine x_puti 904 (ci := 9) (C := RX10) (T := TX10) (N := 11) (v := (-1)) (ty := .int) 4 hC hin10 tyX10_ok nmX10 hW hS (hag69.t (hag61.t (hag54.t (hag47.t (hag40.t (hag33.t (hag27.t (hag20.t tp0)))))))) (hag69.e (hag61.t (hag54.t (hag47.t (hag40.t (hag33.t (hag27.t (hag20.t tp0))))))) (hag61.e (hag54.t (hag47.t (hag40.t (hag33.t (hag27.t (hag20.t tp0)))))) (hag54.e (hag47.t (hag40.t (hag33.t (hag27.t (hag20.t tp0))))) (hag47.e (hag40.t (hag33.t (hag27.t (hag20.t tp0)))) (hag40.e (hag33.t (hag27.t (hag20.t tp0))) (hag33.e (hag27.t (hag20.t tp0)) (hag27.e (hag20.t tp0) (hag20.e tp0 rfl)))))))) rfl ⟨by decide, by decide, rfl, rfl⟩ rfl w_23 rfl (by decide +kernel) rfl rfl dX10_init_57 (fun S71 H locs eS71 hW hS => ?_)
  replace hf := ltE hf S71 eS71
  refine lv_aload_n hx hb dX10_init_60 rfl (lv_at hl 1 rfl) ?_
  refine x_new (ci := 7) (C := RX8) (T := TX8) (N := 16) hC hin8 tyX8_ok hW hS hA ⟨rfl, by decide, by decide⟩ (by decide +kernel) w_24 w_25 w_26 (Nat.le_of_ble_eq_true rfl) (Nat.le_of_ble_eq_true rfl) dX10_init_61 (fun q72 ad73 K74 S75 H eS75 hag77 eqq72 ekq72 hW hS => ?_)
  replace hf := ltE hf S75 eS75
  obtain ⟨n76, en76⟩ : ∃ z, z = n66 + 1 := ⟨_, rfl⟩
  rw [← en76] at hag77 hW
  replace hf := ltE hf n76 en76
  have tq72 : n66 < n76 ∧ K74 n66 = 7 := ⟨by omega, ekq72⟩
  refine W.widen (k := 27) (n := 4250) (Nat.le_of_ble_eq_true rfl) (Nat.le_of_ble_eq_true rfl) ?_
  refine lv_dup hx hb dX10_init_64 rfl ?_
  refine lv_aload_n hx hb dX10_init_65 rfl (lv_at hl 0 rfl) ?_
  replace hf := obE hf
  obtain ⟨z78, hz78, hf⟩ := hf
  obtain ⟨S79, n81⟩ := z78
  replace hf := ltE (ltE hf S79 rfl) n81 rfl
  refine x_acallI (As := [.ref (ad73 n)]) (rest := [.ref (q72), .ref (ad p0)]) (S1 := S79) (n1 := n81) (o := (fun _ => none)) (P := (fun _ => True)) hC hl.1 hW hS hGs hA (c_X8_init l g ad73 n76 K74 H.size F S75 n66 n tq72 (hag77.t (hag69.t (hag61.t (hag54.t (hag47.t (hag40.t (hag33.t (hag27.t tq15)))))))) S79 n81 hz78) (cwI 1 hts gX10_init_X8_init rfl rfl rfl w_26 w_27 w_28 rfl (by decide +kernel) ⟨Nat.le_of_ble_eq_true rfl, Nat.le_of_ble_eq_true rfl⟩) rfl (by rw [(hag77.e (hag69.t (hag61.t (hag54.t (hag47.t (hag40.t (hag33.t (hag27.t tq15))))))) (hag69.e (hag61.t (hag54.t (hag47.t (hag40.t (hag33.t (hag27.t tq15)))))) (hag61.e (hag54.t (hag47.t (hag40.t (hag33.t (hag27.t tq15))))) (hag54.e (hag47.t (hag40.t (hag33.t (hag27.t tq15)))) (hag47.e (hag40.t (hag33.t (hag27.t tq15))) (hag40.e (hag33.t (hag27.t tq15)) (hag33.e (hag27.t tq15) (hag27.e tq15 eqq15)))))))), eqq72] <;> rfl) (Nat.le_of_ble_eq_true rfl) dX10_init_66 ⟨Nat.le_of_ble_eq_true rfl, Nat.le_of_ble_eq_true rfl⟩ (fun ad82 K83 H locs hag84 hPz78 hW hS => ?_)
  refine W.widen (k := 47) (n := 13352) (Nat.le_of_ble_eq_true rfl) (Nat.le_of_ble_eq_true rfl) ?_
  refine W.eq (g2 := F0 m 69 ls [.ref (q72), .ref (ad p0)]) rfl ?_
  refine x_putrF 905 (ci := 9) (C := RX10) (T := TX10) (N := 11) (ty := (.object "MailSpool$Spool")) 5 hC hin10 tyX10_ok nmX10 hW hS (hag84.t (hag77.t (hag69.t (hag61.t (hag54.t (hag47.t (hag40.t (hag33.t (hag27.t (hag20.t tp0)))))))))) (hag84.e (hag77.t (hag69.t (hag61.t (hag54.t (hag47.t (hag40.t (hag33.t (hag27.t (hag20.t tp0))))))))) (hag77.e (hag69.t (hag61.t (hag54.t (hag47.t (hag40.t (hag33.t (hag27.t (hag20.t tp0)))))))) (hag69.e (hag61.t (hag54.t (hag47.t (hag40.t (hag33.t (hag27.t (hag20.t tp0))))))) (hag61.e (hag54.t (hag47.t (hag40.t (hag33.t (hag27.t (hag20.t tp0)))))) (hag54.e (hag47.t (hag40.t (hag33.t (hag27.t (hag20.t tp0))))) (hag47.e (hag40.t (hag33.t (hag27.t (hag20.t tp0)))) (hag40.e (hag33.t (hag27.t (hag20.t tp0))) (hag33.e (hag27.t (hag20.t tp0)) (hag27.e (hag20.t tp0) (hag20.e tp0 rfl)))))))))) (hag84.t tq72) (hag84.e tq72 eqq72) rfl rfl ⟨by decide, by decide, rfl, rfl⟩ rfl w_29 rfl hinI rfl (by decide +kernel) rfl rfl dX10_init_69 (fun S85 H locs eS85 hW hS => ?_)
  replace hf := ltE hf S85 eS85
  refine lv_aload_n hx hb dX10_init_72 rfl (lv_at hl 1 rfl) ?_
  refine x_new (ci := 7) (C := RX8) (T := TX8) (N := 16) hC hin8 tyX8_ok hW hS hA ⟨rfl, by decide, by decide⟩ (by decide +kernel) w_24 w_25 w_26 (Nat.le_of_ble_eq_true rfl) (Nat.le_of_ble_eq_true rfl) dX10_init_73 (fun q86 ad87 K88 S89 H eS89 hag91 eqq86 ekq86 hW hS => ?_)
  replace hf := ltE hf S89 eS89
  obtain ⟨n90, en90⟩ : ∃ z, z = n81 + 1 := ⟨_, rfl⟩
  rw [← en90] at hag91 hW
  replace hf := ltE hf n90 en90
  have tq86 : n81 < n90 ∧ K88 n81 = 7 := ⟨by omega, ekq86⟩
  refine W.widen (k := 48) (n := 13368) (Nat.le_of_ble_eq_true rfl) (Nat.le_of_ble_eq_true rfl) ?_
  refine lv_dup hx hb dX10_init_76 rfl ?_
  refine lv_aload_n hx hb dX10_init_77 rfl (lv_at hl 0 rfl) ?_
  replace hf := obE hf
  obtain ⟨z92, hz92, hf⟩ := hf
  obtain ⟨S93, n95⟩ := z92
  replace hf := ltE (ltE hf S93 rfl) n95 rfl
  refine x_acallI (As := [.ref (ad87 n)]) (rest := [.ref (q86), .ref (ad p0)]) (S1 := S93) (n1 := n95) (o := (fun _ => none)) (P := (fun _ => True)) hC hl.1 hW hS hGs hA (c_X8_init l g ad87 n90 K88 H.size F S89 n81 n tq86 (hag91.t (hag84.t (hag77.t (hag69.t (hag61.t (hag54.t (hag47.t (hag40.t (hag33.t (hag27.t tq15)))))))))) S93 n95 hz92) (cwI 1 hts gX10_init_X8_init rfl rfl rfl w_26 w_27 w_28 rfl (by decide +kernel) ⟨Nat.le_of_ble_eq_true rfl, Nat.le_of_ble_eq_true rfl⟩) rfl (by rw [(hag91.e (hag84.t (hag77.t (hag69.t (hag61.t (hag54.t (hag47.t (hag40.t (hag33.t (hag27.t tq15))))))))) (hag84.e (hag77.t (hag69.t (hag61.t (hag54.t (hag47.t (hag40.t (hag33.t (hag27.t tq15)))))))) (hag77.e (hag69.t (hag61.t (hag54.t (hag47.t (hag40.t (hag33.t (hag27.t tq15))))))) (hag69.e (hag61.t (hag54.t (hag47.t (hag40.t (hag33.t (hag27.t tq15)))))) (hag61.e (hag54.t (hag47.t (hag40.t (hag33.t (hag27.t tq15))))) (hag54.e (hag47.t (hag40.t (hag33.t (hag27.t tq15)))) (hag47.e (hag40.t (hag33.t (hag27.t tq15))) (hag40.e (hag33.t (hag27.t tq15)) (hag33.e (hag27.t tq15) (hag27.e tq15 eqq15)))))))))), eqq86] <;> rfl) (Nat.le_of_ble_eq_true rfl) dX10_init_78 ⟨Nat.le_of_ble_eq_true rfl, Nat.le_of_ble_eq_true rfl⟩ (fun ad96 K97 H locs hag98 hPz92 hW hS => ?_)
  refine W.widen (k := 68) (n := 22470) (Nat.le_of_ble_eq_true rfl) (Nat.le_of_ble_eq_true rfl) ?_
  refine W.eq (g2 := F0 m 81 ls [.ref (q86), .ref (ad p0)]) rfl ?_
  refine x_putrF 906 (ci := 9) (C := RX10) (T := TX10) (N := 11) (ty := (.object "MailSpool$Spool")) 6 hC hin10 tyX10_ok nmX10 hW hS (hag98.t (hag91.t (hag84.t (hag77.t (hag69.t (hag61.t (hag54.t (hag47.t (hag40.t (hag33.t (hag27.t (hag20.t tp0)))))))))))) (hag98.e (hag91.t (hag84.t (hag77.t (hag69.t (hag61.t (hag54.t (hag47.t (hag40.t (hag33.t (hag27.t (hag20.t tp0))))))))))) (hag91.e (hag84.t (hag77.t (hag69.t (hag61.t (hag54.t (hag47.t (hag40.t (hag33.t (hag27.t (hag20.t tp0)))))))))) (hag84.e (hag77.t (hag69.t (hag61.t (hag54.t (hag47.t (hag40.t (hag33.t (hag27.t (hag20.t tp0))))))))) (hag77.e (hag69.t (hag61.t (hag54.t (hag47.t (hag40.t (hag33.t (hag27.t (hag20.t tp0)))))))) (hag69.e (hag61.t (hag54.t (hag47.t (hag40.t (hag33.t (hag27.t (hag20.t tp0))))))) (hag61.e (hag54.t (hag47.t (hag40.t (hag33.t (hag27.t (hag20.t tp0)))))) (hag54.e (hag47.t (hag40.t (hag33.t (hag27.t (hag20.t tp0))))) (hag47.e (hag40.t (hag33.t (hag27.t (hag20.t tp0)))) (hag40.e (hag33.t (hag27.t (hag20.t tp0))) (hag33.e (hag27.t (hag20.t tp0)) (hag27.e (hag20.t tp0) (hag20.e tp0 rfl)))))))))))) (hag98.t tq86) (hag98.e tq86 eqq86) rfl rfl ⟨by decide, by decide, rfl, rfl⟩ rfl w_30 rfl hinI rfl (by decide +kernel) rfl rfl dX10_init_81 (fun S99 H locs eS99 hW hS => ?_)
  replace hf := ltE hf S99 eS99
  refine lv_aload_n hx hb dX10_init_84 rfl (lv_at hl 1 rfl) ?_
  refine lv_bipush (v := 6) hx hb dX10_init_85 (by decide) ?_
  refine x_newq (C := RX8) (kd := 16) (t0 := 5) (len := 6) hC w_24 hGs.2.2.1.2.2 ⟨by decide, rfl⟩ hW hS hA (by decide) (by decide) (Nat.le_of_ble_eq_true rfl) (Nat.le_of_ble_eq_true rfl) (Nat.le_of_ble_eq_true rfl) dX10_init_87 (fun q100 ad101 K102 S103 H eS103 hag105 eqq100 ekq100 hW hS => ?_)
  replace hf := ltE hf S103 eS103
  obtain ⟨n104, en104⟩ : ∃ z, z = n95 + 1 := ⟨_, rfl⟩
  rw [← en104] at hag105 hW
  replace hf := ltE hf n104 en104
  have tq100 : n95 < n104 ∧ K102 n95 = 16 := ⟨by omega, ekq100⟩
  refine W.widen (k := 69) (n := 22476) (Nat.le_of_ble_eq_true rfl) (Nat.le_of_ble_eq_true rfl) ?_
  refine x_putrF 907 (ci := 9) (C := RX10) (T := TX10) (N := 11) (ty := (.array (.object "MailSpool$Spool"))) 7 hC hin10 tyX10_ok nmX10 hW hS (hag105.t (hag98.t (hag91.t (hag84.t (hag77.t (hag69.t (hag61.t (hag54.t (hag47.t (hag40.t (hag33.t (hag27.t (hag20.t tp0))))))))))))) (hag105.e (hag98.t (hag91.t (hag84.t (hag77.t (hag69.t (hag61.t (hag54.t (hag47.t (hag40.t (hag33.t (hag27.t (hag20.t tp0)))))))))))) (hag98.e (hag91.t (hag84.t (hag77.t (hag69.t (hag61.t (hag54.t (hag47.t (hag40.t (hag33.t (hag27.t (hag20.t tp0))))))))))) (hag91.e (hag84.t (hag77.t (hag69.t (hag61.t (hag54.t (hag47.t (hag40.t (hag33.t (hag27.t (hag20.t tp0)))))))))) (hag84.e (hag77.t (hag69.t (hag61.t (hag54.t (hag47.t (hag40.t (hag33.t (hag27.t (hag20.t tp0))))))))) (hag77.e (hag69.t (hag61.t (hag54.t (hag47.t (hag40.t (hag33.t (hag27.t (hag20.t tp0)))))))) (hag69.e (hag61.t (hag54.t (hag47.t (hag40.t (hag33.t (hag27.t (hag20.t tp0))))))) (hag61.e (hag54.t (hag47.t (hag40.t (hag33.t (hag27.t (hag20.t tp0)))))) (hag54.e (hag47.t (hag40.t (hag33.t (hag27.t (hag20.t tp0))))) (hag47.e (hag40.t (hag33.t (hag27.t (hag20.t tp0)))) (hag40.e (hag33.t (hag27.t (hag20.t tp0))) (hag33.e (hag27.t (hag20.t tp0)) (hag27.e (hag20.t tp0) (hag20.e tp0 rfl))))))))))))) tq100 eqq100 rfl rfl ⟨by decide, by decide, rfl, rfl⟩ rfl w_31 rfl hinI rfl (by decide +kernel) rfl rfl dX10_init_90 (fun S106 H locs eS106 hW hS => ?_)
  replace hf := ltE hf S106 eS106
  refine lv_iconst (v := 0) hx hb dX10_init_93 (by decide) ?_
  refine lv_istore_n (lv' := [(2, .int 0), (1, .ref (q15)), (0, .ref (ad p0))]) hx hb dX10_init_94 rfl hl (by decide) rfl (fun ls hl => ?_)
  refine lv_iload_n hx hb dX10_init_95 rfl (lv_at hl 0 rfl) ?_
  refine lv_aload_n hx hb dX10_init_96 rfl (lv_at hl 2 rfl) ?_
  replace hf := obE hf
  obtain ⟨j107, qj107, hf⟩ := hf
  have tj107 := x_rt hW qj107 16 ⟨by decide, rfl⟩
  refine x_getr 907 (ci := 9) (C := RX10) (T := TX10) (N := 11) 7 hC hin10 hW (hag105.t (hag98.t (hag91.t (hag84.t (hag77.t (hag69.t (hag61.t (hag54.t (hag47.t (hag40.t (hag33.t (hag27.t (hag20.t tp0))))))))))))) (hag105.e (hag98.t (hag91.t (hag84.t (hag77.t (hag69.t (hag61.t (hag54.t (hag47.t (hag40.t (hag33.t (hag27.t (hag20.t tp0)))))))))))) (hag98.e (hag91.t (hag84.t (hag77.t (hag69.t (hag61.t (hag54.t (hag47.t (hag40.t (hag33.t (hag27.t (hag20.t tp0))))))))))) (hag91.e (hag84.t (hag77.t (hag69.t (hag61.t (hag54.t (hag47.t (hag40.t (hag33.t (hag27.t (hag20.t tp0)))))))))) (hag84.e (hag77.t (hag69.t (hag61.t (hag54.t (hag47.t (hag40.t (hag33.t (hag27.t (hag20.t tp0))))))))) (hag77.e (hag69.t (hag61.t (hag54.t (hag47.t (hag40.t (hag33.t (hag27.t (hag20.t tp0)))))))) (hag69.e (hag61.t (hag54.t (hag47.t (hag40.t (hag33.t (hag27.t (hag20.t tp0))))))) (hag61.e (hag54.t (hag47.t (hag40.t (hag33.t (hag27.t (hag20.t tp0)))))) (hag54.e (hag47.t (hag40.t (hag33.t (hag27.t (hag20.t tp0))))) (hag47.e (hag40.t (hag33.t (hag27.t (hag20.t tp0)))) (hag40.e (hag33.t (hag27.t (hag20.t tp0))) (hag33.e (hag27.t (hag20.t tp0)) (hag27.e (hag20.t tp0) (hag20.e tp0 rfl))))))))))))) rfl ⟨by decide, by decide, rfl, rfl⟩ rfl w_31 dX10_init_97 qj107 ?_
  refine x_alen hC hW tj107 rfl ⟨by decide, by decide⟩ dX10_init_100 ?_
  refine lv_icmp_ge (tgt := 124) hx hb dX10_init_101 (by decide) (fun c108 => ?_) (fun c108 => ?_)
  · replace hf := ifT c108 hf
    refine W.widen (k := 195) (n := 77184) (Nat.le_of_ble_eq_true rfl) (Nat.le_of_ble_eq_true rfl) ?_
    exact L800124 ad101 K102 n104 (((((((((((((Ag.rf.tr hag20).tr hag27).tr hag33).tr hag40).tr hag47).tr hag54).tr hag61).tr hag69).tr hag77).tr hag84).tr hag91).tr hag98).tr hag105) S106 p0 (hag105.t (hag98.t (hag91.t (hag84.t (hag77.t (hag69.t (hag61.t (hag54.t (hag47.t (hag40.t (hag33.t (hag27.t (hag20.t tp0))))))))))))) _ _ _ hf hW hS (lv_sub hl [2] (by rw [(hag105.e (hag98.t (hag91.t (hag84.t (hag77.t (hag69.t (hag61.t (hag54.t (hag47.t (hag40.t (hag33.t (hag27.t (hag20.t tp0)))))))))))) (hag98.e (hag91.t (hag84.t (hag77.t (hag69.t (hag61.t (hag54.t (hag47.t (hag40.t (hag33.t (hag27.t (hag20.t tp0))))))))))) (hag91.e (hag84.t (hag77.t (hag69.t (hag61.t (hag54.t (hag47.t (hag40.t (hag33.t (hag27.t (hag20.t tp0)))))))))) (hag84.e (hag77.t (hag69.t (hag61.t (hag54.t (hag47.t (hag40.t (hag33.t (hag27.t (hag20.t tp0))))))))) (hag77.e (hag69.t (hag61.t (hag54.t (hag47.t (hag40.t (hag33.t (hag27.t (hag20.t tp0)))))))) (hag69.e (hag61.t (hag54.t (hag47.t (hag40.t (hag33.t (hag27.t (hag20.t tp0))))))) (hag61.e (hag54.t (hag47.t (hag40.t (hag33.t (hag27.t (hag20.t tp0)))))) (hag54.e (hag47.t (hag40.t (hag33.t (hag27.t (hag20.t tp0))))) (hag47.e (hag40.t (hag33.t (hag27.t (hag20.t tp0)))) (hag40.e (hag33.t (hag27.t (hag20.t tp0))) (hag33.e (hag27.t (hag20.t tp0)) (hag27.e (hag20.t tp0) (hag20.e tp0 rfl)))))))))))))] <;> rfl))
  · replace hf := ifF c108 hf
    refine lv_aload_n hx hb dX10_init_104 rfl (lv_at hl 2 rfl) ?_
    replace hf := obE hf
    obtain ⟨j109, qj109, hf⟩ := hf
    have tj109 := x_rt hW qj109 16 ⟨by decide, rfl⟩
    refine x_getr 907 (ci := 9) (C := RX10) (T := TX10) (N := 11) 7 hC hin10 hW (hag105.t (hag98.t (hag91.t (hag84.t (hag77.t (hag69.t (hag61.t (hag54.t (hag47.t (hag40.t (hag33.t (hag27.t (hag20.t tp0))))))))))))) (hag105.e (hag98.t (hag91.t (hag84.t (hag77.t (hag69.t (hag61.t (hag54.t (hag47.t (hag40.t (hag33.t (hag27.t (hag20.t tp0)))))))))))) (hag98.e (hag91.t (hag84.t (hag77.t (hag69.t (hag61.t (hag54.t (hag47.t (hag40.t (hag33.t (hag27.t (hag20.t tp0))))))))))) (hag91.e (hag84.t (hag77.t (hag69.t (hag61.t (hag54.t (hag47.t (hag40.t (hag33.t (hag27.t (hag20.t tp0)))))))))) (hag84.e (hag77.t (hag69.t (hag61.t (hag54.t (hag47.t (hag40.t (hag33.t (hag27.t (hag20.t tp0))))))))) (hag77.e (hag69.t (hag61.t (hag54.t (hag47.t (hag40.t (hag33.t (hag27.t (hag20.t tp0)))))))) (hag69.e (hag61.t (hag54.t (hag47.t (hag40.t (hag33.t (hag27.t (hag20.t tp0))))))) (hag61.e (hag54.t (hag47.t (hag40.t (hag33.t (hag27.t (hag20.t tp0)))))) (hag54.e (hag47.t (hag40.t (hag33.t (hag27.t (hag20.t tp0))))) (hag47.e (hag40.t (hag33.t (hag27.t (hag20.t tp0)))) (hag40.e (hag33.t (hag27.t (hag20.t tp0))) (hag33.e (hag27.t (hag20.t tp0)) (hag27.e (hag20.t tp0) (hag20.e tp0 rfl))))))))))))) rfl ⟨by decide, by decide, rfl, rfl⟩ rfl w_31 dX10_init_105 qj109 ?_
    refine lv_iload_n hx hb dX10_init_108 rfl (lv_at hl 0 rfl) ?_
    refine x_new (ci := 7) (C := RX8) (T := TX8) (N := 16) hC hin8 tyX8_ok hW hS hA ⟨rfl, by decide, by decide⟩ (by decide +kernel) w_24 w_25 w_26 (Nat.le_of_ble_eq_true rfl) (Nat.le_of_ble_eq_true rfl) dX10_init_109 (fun q110 ad111 K112 S113 H eS113 hag115 eqq110 ekq110 hW hS => ?_)
    replace hf := ltE hf S113 eS113
    obtain ⟨n114, en114⟩ : ∃ z, z = n104 + 1 := ⟨_, rfl⟩
    rw [← en114] at hag115 hW
    replace hf := ltE hf n114 en114
    have tq110 : n104 < n114 ∧ K112 n104 = 7 := ⟨by omega, ekq110⟩
    refine W.widen (k := 70) (n := 22492) (Nat.le_of_ble_eq_true rfl) (Nat.le_of_ble_eq_true rfl) ?_
    refine lv_dup hx hb dX10_init_112 rfl ?_
    refine lv_aload_n hx hb dX10_init_113 rfl (lv_at hl 1 rfl) ?_
    replace hf := obE hf
    obtain ⟨z116, hz116, hf⟩ := hf
    obtain ⟨S117, n119⟩ := z116
    replace hf := ltE (ltE hf S117 rfl) n119 rfl
    refine x_acallI (As := [.ref (ad111 n)]) (rest := [.ref (q110), .int 0, .ref (ad101 j109)]) (S1 := S117) (n1 := n119) (o := (fun _ => none)) (P := (fun _ => True)) hC hl.1 hW hS hGs hA (c_X8_init l g ad111 n114 K112 H.size F S113 n104 n tq110 (hag115.t (hag105.t (hag98.t (hag91.t (hag84.t (hag77.t (hag69.t (hag61.t (hag54.t (hag47.t (hag40.t (hag33.t (hag27.t tq15))))))))))))) S117 n119 hz116) (cwI 1 hts gX10_init_X8_init rfl rfl rfl w_26 w_27 w_28 rfl (by decide +kernel) ⟨Nat.le_of_ble_eq_true rfl, Nat.le_of_ble_eq_true rfl⟩) rfl (by rw [(hag115.e (hag105.t (hag98.t (hag91.t (hag84.t (hag77.t (hag69.t (hag61.t (hag54.t (hag47.t (hag40.t (hag33.t (hag27.t tq15)))))))))))) (hag105.e (hag98.t (hag91.t (hag84.t (hag77.t (hag69.t (hag61.t (hag54.t (hag47.t (hag40.t (hag33.t (hag27.t tq15))))))))))) (hag98.e (hag91.t (hag84.t (hag77.t (hag69.t (hag61.t (hag54.t (hag47.t (hag40.t (hag33.t (hag27.t tq15)))))))))) (hag91.e (hag84.t (hag77.t (hag69.t (hag61.t (hag54.t (hag47.t (hag40.t (hag33.t (hag27.t tq15))))))))) (hag84.e (hag77.t (hag69.t (hag61.t (hag54.t (hag47.t (hag40.t (hag33.t (hag27.t tq15)))))))) (hag77.e (hag69.t (hag61.t (hag54.t (hag47.t (hag40.t (hag33.t (hag27.t tq15))))))) (hag69.e (hag61.t (hag54.t (hag47.t (hag40.t (hag33.t (hag27.t tq15)))))) (hag61.e (hag54.t (hag47.t (hag40.t (hag33.t (hag27.t tq15))))) (hag54.e (hag47.t (hag40.t (hag33.t (hag27.t tq15)))) (hag47.e (hag40.t (hag33.t (hag27.t tq15))) (hag40.e (hag33.t (hag27.t tq15)) (hag33.e (hag27.t tq15) (hag27.e tq15 eqq15))))))))))))), eqq110] <;> rfl) (Nat.le_of_ble_eq_true rfl) dX10_init_114 ⟨Nat.le_of_ble_eq_true rfl, Nat.le_of_ble_eq_true rfl⟩ (fun ad120 K121 H locs hag122 hPz116 hW hS => ?_)
    refine W.widen (k := 90) (n := 31594) (Nat.le_of_ble_eq_true rfl) (Nat.le_of_ble_eq_true rfl) ?_
    refine W.eq (g2 := F0 m 117 ls [.ref (q110), .int 0, .ref (ad101 j109)]) rfl ?_
    replace hf := ckiE hf
    obtain ⟨h123, hf⟩ := hf
    refine x_aast (C := RX8) (T := TX8) (N := 16) (t0 := 5) hC hW hS (hag122.t (hag115.t tj109)) (hag122.e (hag115.t tj109) (hag115.e tj109 rfl)) (hag122.t tq110) (hag122.e tq110 eqq110) ⟨by decide, rfl, rfl, rfl, by decide⟩ h123 dX10_init_117 (fun S124 H locs eS124 hW hS => ?_)
    replace hf := ltE hf S124 eS124
    obtain ⟨x125, ex125⟩ : ∃ z : Int32, z = 0 + 1 := ⟨_, rfl⟩
    replace hf := ltE hf x125 ex125
    refine lv_iinc (v := x125) (lv' := [(2, .int x125), (1, .ref (q15)), (0, .ref (ad p0))]) hx hb dX10_init_118 hl (k := 0) rfl (by rw [ex125]; rfl) (by decide) rfl (fun ls hl => ?_)
    refine lv_goto (tgt := 95) hx hb dX10_init_121 (by decide) ?_
    refine lv_iload_n hx hb dX10_init_95 rfl (lv_at hl 0 rfl) ?_
    refine lv_aload_n hx hb dX10_init_96 rfl (lv_at hl 2 rfl) ?_
    replace hf := obE hf
    obtain ⟨j126, qj126, hf⟩ := hf
    have tj126 := x_rt hW qj126 16 ⟨by decide, rfl⟩
    refine x_getr 907 (ci := 9) (C := RX10) (T := TX10) (N := 11) 7 hC hin10 hW (hag122.t (hag115.t (hag105.t (hag98.t (hag91.t (hag84.t (hag77.t (hag69.t (hag61.t (hag54.t (hag47.t (hag40.t (hag33.t (hag27.t (hag20.t tp0))))))))))))))) (hag122.e (hag115.t (hag105.t (hag98.t (hag91.t (hag84.t (hag77.t (hag69.t (hag61.t (hag54.t (hag47.t (hag40.t (hag33.t (hag27.t (hag20.t tp0)))))))))))))) (hag115.e (hag105.t (hag98.t (hag91.t (hag84.t (hag77.t (hag69.t (hag61.t (hag54.t (hag47.t (hag40.t (hag33.t (hag27.t (hag20.t tp0))))))))))))) (hag105.e (hag98.t (hag91.t (hag84.t (hag77.t (hag69.t (hag61.t (hag54.t (hag47.t (hag40.t (hag33.t (hag27.t (hag20.t tp0)))))))))))) (hag98.e (hag91.t (hag84.t (hag77.t (hag69.t (hag61.t (hag54.t (hag47.t (hag40.t (hag33.t (hag27.t (hag20.t tp0))))))))))) (hag91.e (hag84.t (hag77.t (hag69.t (hag61.t (hag54.t (hag47.t (hag40.t (hag33.t (hag27.t (hag20.t tp0)))))))))) (hag84.e (hag77.t (hag69.t (hag61.t (hag54.t (hag47.t (hag40.t (hag33.t (hag27.t (hag20.t tp0))))))))) (hag77.e (hag69.t (hag61.t (hag54.t (hag47.t (hag40.t (hag33.t (hag27.t (hag20.t tp0)))))))) (hag69.e (hag61.t (hag54.t (hag47.t (hag40.t (hag33.t (hag27.t (hag20.t tp0))))))) (hag61.e (hag54.t (hag47.t (hag40.t (hag33.t (hag27.t (hag20.t tp0)))))) (hag54.e (hag47.t (hag40.t (hag33.t (hag27.t (hag20.t tp0))))) (hag47.e (hag40.t (hag33.t (hag27.t (hag20.t tp0)))) (hag40.e (hag33.t (hag27.t (hag20.t tp0))) (hag33.e (hag27.t (hag20.t tp0)) (hag27.e (hag20.t tp0) (hag20.e tp0 rfl))))))))))))))) rfl ⟨by decide, by decide, rfl, rfl⟩ rfl w_31 dX10_init_97 qj126 ?_
    refine x_alen hC hW tj126 rfl ⟨by decide, by decide⟩ dX10_init_100 ?_
    refine lv_icmp_ge (tgt := 124) hx hb dX10_init_101 (by decide) (fun c127 => ?_) (fun c127 => ?_)
    · replace hf := ifT c127 hf
      refine W.widen (k := 195) (n := 77184) (Nat.le_of_ble_eq_true rfl) (Nat.le_of_ble_eq_true rfl) ?_
      exact L800124 ad120 K121 n119 (((((((((((((((Ag.rf.tr hag20).tr hag27).tr hag33).tr hag40).tr hag47).tr hag54).tr hag61).tr hag69).tr hag77).tr hag84).tr hag91).tr hag98).tr hag105).tr hag115).tr hag122) S124 p0 (hag122.t (hag115.t (hag105.t (hag98.t (hag91.t (hag84.t (hag77.t (hag69.t (hag61.t (hag54.t (hag47.t (hag40.t (hag33.t (hag27.t (hag20.t tp0))))))))))))))) _ _ _ hf hW hS (lv_sub hl [2] (by rw [(hag122.e (hag115.t (hag105.t (hag98.t (hag91.t (hag84.t (hag77.t (hag69.t (hag61.t (hag54.t (hag47.t (hag40.t (hag33.t (hag27.t (hag20.t tp0)))))))))))))) (hag115.e (hag105.t (hag98.t (hag91.t (hag84.t (hag77.t (hag69.t (hag61.t (hag54.t (hag47.t (hag40.t (hag33.t (hag27.t (hag20.t tp0))))))))))))) (hag105.e (hag98.t (hag91.t (hag84.t (hag77.t (hag69.t (hag61.t (hag54.t (hag47.t (hag40.t (hag33.t (hag27.t (hag20.t tp0)))))))))))) (hag98.e (hag91.t (hag84.t (hag77.t (hag69.t (hag61.t (hag54.t (hag47.t (hag40.t (hag33.t (hag27.t (hag20.t tp0))))))))))) (hag91.e (hag84.t (hag77.t (hag69.t (hag61.t (hag54.t (hag47.t (hag40.t (hag33.t (hag27.t (hag20.t tp0)))))))))) (hag84.e (hag77.t (hag69.t (hag61.t (hag54.t (hag47.t (hag40.t (hag33.t (hag27.t (hag20.t tp0))))))))) (hag77.e (hag69.t (hag61.t (hag54.t (hag47.t (hag40.t (hag33.t (hag27.t (hag20.t tp0)))))))) (hag69.e (hag61.t (hag54.t (hag47.t (hag40.t (hag33.t (hag27.t (hag20.t tp0))))))) (hag61.e (hag54.t (hag47.t (hag40.t (hag33.t (hag27.t (hag20.t tp0)))))) (hag54.e (hag47.t (hag40.t (hag33.t (hag27.t (hag20.t tp0))))) (hag47.e (hag40.t (hag33.t (hag27.t (hag20.t tp0)))) (hag40.e (hag33.t (hag27.t (hag20.t tp0))) (hag33.e (hag27.t (hag20.t tp0)) (hag27.e (hag20.t tp0) (hag20.e tp0 rfl)))))))))))))))] <;> rfl))
    · replace hf := ifF c127 hf
      refine lv_aload_n hx hb dX10_init_104 rfl (lv_at hl 2 rfl) ?_
      replace hf := obE hf
      obtain ⟨j128, qj128, hf⟩ := hf
      have tj128 := x_rt hW qj128 16 ⟨by decide, rfl⟩
      refine x_getr 907 (ci := 9) (C := RX10) (T := TX10) (N := 11) 7 hC hin10 hW (hag122.t (hag115.t (hag105.t (hag98.t (hag91.t (hag84.t (hag77.t (hag69.t (hag61.t (hag54.t (hag47.t (hag40.t (hag33.t (hag27.t (hag20.t tp0))))))))))))))) (hag122.e (hag115.t (hag105.t (hag98.t (hag91.t (hag84.t (hag77.t (hag69.t (hag61.t (hag54.t (hag47.t (hag40.t (hag33.t (hag27.t (hag20.t tp0)))))))))))))) (hag115.e (hag105.t (hag98.t (hag91.t (hag84.t (hag77.t (hag69.t (hag61.t (hag54.t (hag47.t (hag40.t (hag33.t (hag27.t (hag20.t tp0))))))))))))) (hag105.e (hag98.t (hag91.t (hag84.t (hag77.t (hag69.t (hag61.t (hag54.t (hag47.t (hag40.t (hag33.t (hag27.t (hag20.t tp0)))))))))))) (hag98.e (hag91.t (hag84.t (hag77.t (hag69.t (hag61.t (hag54.t (hag47.t (hag40.t (hag33.t (hag27.t (hag20.t tp0))))))))))) (hag91.e (hag84.t (hag77.t (hag69.t (hag61.t (hag54.t (hag47.t (hag40.t (hag33.t (hag27.t (hag20.t tp0)))))))))) (hag84.e (hag77.t (hag69.t (hag61.t (hag54.t (hag47.t (hag40.t (hag33.t (hag27.t (hag20.t tp0))))))))) (hag77.e (hag69.t (hag61.t (hag54.t (hag47.t (hag40.t (hag33.t (hag27.t (hag20.t tp0)))))))) (hag69.e (hag61.t (hag54.t (hag47.t (hag40.t (hag33.t (hag27.t (hag20.t tp0))))))) (hag61.e (hag54.t (hag47.t (hag40.t (hag33.t (hag27.t (hag20.t tp0)))))) (hag54.e (hag47.t (hag40.t (hag33.t (hag27.t (hag20.t tp0))))) (hag47.e (hag40.t (hag33.t (hag27.t (hag20.t tp0)))) (hag40.e (hag33.t (hag27.t (hag20.t tp0))) (hag33.e (hag27.t (hag20.t tp0)) (hag27.e (hag20.t tp0) (hag20.e tp0 rfl))))))))))))))) rfl ⟨by decide, by decide, rfl, rfl⟩ rfl w_31 dX10_init_105 qj128 ?_
      refine lv_iload_n hx hb dX10_init_108 rfl (lv_at hl 0 rfl) ?_
      refine x_new (ci := 7) (C := RX8) (T := TX8) (N := 16) hC hin8 tyX8_ok hW hS hA ⟨rfl, by decide, by decide⟩ (by decide +kernel) w_24 w_25 w_26 (Nat.le_of_ble_eq_true rfl) (Nat.le_of_ble_eq_true rfl) dX10_init_109 (fun q129 ad130 K131 S132 H eS132 hag134 eqq129 ekq129 hW hS => ?_)
      replace hf := ltE hf S132 eS132
      obtain ⟨n133, en133⟩ : ∃ z, z = n119 + 1 := ⟨_, rfl⟩
      rw [← en133] at hag134 hW
      replace hf := ltE hf n133 en133
      have tq129 : n119 < n133 ∧ K131 n119 = 7 := ⟨by omega, ekq129⟩
      refine W.widen (k := 91) (n := 31610) (Nat.le_of_ble_eq_true rfl) (Nat.le_of_ble_eq_true rfl) ?_
      refine lv_dup hx hb dX10_init_112 rfl ?_
      refine lv_aload_n hx hb dX10_init_113 rfl (lv_at hl 1 rfl) ?_
      replace hf := obE hf
      obtain ⟨z135, hz135, hf⟩ := hf
      obtain ⟨S136, n138⟩ := z135
      replace hf := ltE (ltE hf S136 rfl) n138 rfl
      refine x_acallI (As := [.ref (ad130 n)]) (rest := [.ref (q129), .int x125, .ref (ad120 j128)]) (S1 := S136) (n1 := n138) (o := (fun _ => none)) (P := (fun _ => True)) hC hl.1 hW hS hGs hA (c_X8_init l g ad130 n133 K131 H.size F S132 n119 n tq129 (hag134.t (hag122.t (hag115.t (hag105.t (hag98.t (hag91.t (hag84.t (hag77.t (hag69.t (hag61.t (hag54.t (hag47.t (hag40.t (hag33.t (hag27.t tq15))))))))))))))) S136 n138 hz135) (cwI 1 hts gX10_init_X8_init rfl rfl rfl w_26 w_27 w_28 rfl (by decide +kernel) ⟨Nat.le_of_ble_eq_true rfl, Nat.le_of_ble_eq_true rfl⟩) rfl (by rw [(hag134.e (hag122.t (hag115.t (hag105.t (hag98.t (hag91.t (hag84.t (hag77.t (hag69.t (hag61.t (hag54.t (hag47.t (hag40.t (hag33.t (hag27.t tq15)))))))))))))) (hag122.e (hag115.t (hag105.t (hag98.t (hag91.t (hag84.t (hag77.t (hag69.t (hag61.t (hag54.t (hag47.t (hag40.t (hag33.t (hag27.t tq15))))))))))))) (hag115.e (hag105.t (hag98.t (hag91.t (hag84.t (hag77.t (hag69.t (hag61.t (hag54.t (hag47.t (hag40.t (hag33.t (hag27.t tq15)))))))))))) (hag105.e (hag98.t (hag91.t (hag84.t (hag77.t (hag69.t (hag61.t (hag54.t (hag47.t (hag40.t (hag33.t (hag27.t tq15))))))))))) (hag98.e (hag91.t (hag84.t (hag77.t (hag69.t (hag61.t (hag54.t (hag47.t (hag40.t (hag33.t (hag27.t tq15)))))))))) (hag91.e (hag84.t (hag77.t (hag69.t (hag61.t (hag54.t (hag47.t (hag40.t (hag33.t (hag27.t tq15))))))))) (hag84.e (hag77.t (hag69.t (hag61.t (hag54.t (hag47.t (hag40.t (hag33.t (hag27.t tq15)))))))) (hag77.e (hag69.t (hag61.t (hag54.t (hag47.t (hag40.t (hag33.t (hag27.t tq15))))))) (hag69.e (hag61.t (hag54.t (hag47.t (hag40.t (hag33.t (hag27.t tq15)))))) (hag61.e (hag54.t (hag47.t (hag40.t (hag33.t (hag27.t tq15))))) (hag54.e (hag47.t (hag40.t (hag33.t (hag27.t tq15)))) (hag47.e (hag40.t (hag33.t (hag27.t tq15))) (hag40.e (hag33.t (hag27.t tq15)) (hag33.e (hag27.t tq15) (hag27.e tq15 eqq15))))))))))))))), eqq129] <;> rfl) (Nat.le_of_ble_eq_true rfl) dX10_init_114 ⟨Nat.le_of_ble_eq_true rfl, Nat.le_of_ble_eq_true rfl⟩ (fun ad139 K140 H locs hag141 hPz135 hW hS => ?_)
      refine W.widen (k := 111) (n := 40712) (Nat.le_of_ble_eq_true rfl) (Nat.le_of_ble_eq_true rfl) ?_
      refine W.eq (g2 := F0 m 117 ls [.ref (q129), .int x125, .ref (ad120 j128)]) rfl ?_
      replace hf := ckiE hf
      obtain ⟨h142, hf⟩ := hf
      refine x_aast (C := RX8) (T := TX8) (N := 16) (t0 := 5) hC hW hS (hag141.t (hag134.t tj128)) (hag141.e (hag134.t tj128) (hag134.e tj128 rfl)) (hag141.t tq129) (hag141.e tq129 eqq129) ⟨by decide, rfl, rfl, rfl, by decide⟩ h142 dX10_init_117 (fun S143 H locs eS143 hW hS => ?_)
      replace hf := ltE hf S143 eS143
      obtain ⟨x144, ex144⟩ : ∃ z : Int32, z = x125 + 1 := ⟨_, rfl⟩
      replace hf := ltE hf x144 ex144
      refine lv_iinc (v := x144) (lv' := [(2, .int x144), (1, .ref (q15)), (0, .ref (ad p0))]) hx hb dX10_init_118 hl (k := 0) rfl (by rw [ex144]; rfl) (by decide) rfl (fun ls hl => ?_)
      refine lv_goto (tgt := 95) hx hb dX10_init_121 (by decide) ?_
      refine lv_iload_n hx hb dX10_init_95 rfl (lv_at hl 0 rfl) ?_
      refine lv_aload_n hx hb dX10_init_96 rfl (lv_at hl 2 rfl) ?_
      replace hf := obE hf
      obtain ⟨j145, qj145, hf⟩ := hf
      have tj145 := x_rt hW qj145 16 ⟨by decide, rfl⟩
      refine x_getr 907 (ci := 9) (C := RX10) (T := TX10) (N := 11) 7 hC hin10 hW (hag141.t (hag134.t (hag122.t (hag115.t (hag105.t (hag98.t (hag91.t (hag84.t (hag77.t (hag69.t (hag61.t (hag54.t (hag47.t (hag40.t (hag33.t (hag27.t (hag20.t tp0))))))))))))))))) (hag141.e (hag134.t (hag122.t (hag115.t (hag105.t (hag98.t (hag91.t (hag84.t (hag77.t (hag69.t (hag61.t (hag54.t (hag47.t (hag40.t (hag33.t (hag27.t (hag20.t tp0)))))))))))))))) (hag134.e (hag122.t (hag115.t (hag105.t (hag98.t (hag91.t (hag84.t (hag77.t (hag69.t (hag61.t (hag54.t (hag47.t (hag40.t (hag33.t (hag27.t (hag20.t tp0))))))))))))))) (hag122.e (hag115.t (hag105.t (hag98.t (hag91.t (hag84.t (hag77.t (hag69.t (hag61.t (hag54.t (hag47.t (hag40.t (hag33.t (hag27.t (hag20.t tp0)))))))))))))) (hag115.e (hag105.t (hag98.t (hag91.t (hag84.t (hag77.t (hag69.t (hag61.t (hag54.t (hag47.t (hag40.t (hag33.t (hag27.t (hag20.t tp0))))))))))))) (hag105.e (hag98.t (hag91.t (hag84.t (hag77.t (hag69.t (hag61.t (hag54.t (hag47.t (hag40.t (hag33.t (hag27.t (hag20.t tp0)))))))))))) (hag98.e (hag91.t (hag84.t (hag77.t (hag69.t (hag61.t (hag54.t (hag47.t (hag40.t (hag33.t (hag27.t (hag20.t tp0))))))))))) (hag91.e (hag84.t (hag77.t (hag69.t (hag61.t (hag54.t (hag47.t (hag40.t (hag33.t (hag27.t (hag20.t tp0)))))))))) (hag84.e (hag77.t (hag69.t (hag61.t (hag54.t (hag47.t (hag40.t (hag33.t (hag27.t (hag20.t tp0))))))))) (hag77.e (hag69.t (hag61.t (hag54.t (hag47.t (hag40.t (hag33.t (hag27.t (hag20.t tp0)))))))) (hag69.e (hag61.t (hag54.t (hag47.t (hag40.t (hag33.t (hag27.t (hag20.t tp0))))))) (hag61.e (hag54.t (hag47.t (hag40.t (hag33.t (hag27.t (hag20.t tp0)))))) (hag54.e (hag47.t (hag40.t (hag33.t (hag27.t (hag20.t tp0))))) (hag47.e (hag40.t (hag33.t (hag27.t (hag20.t tp0)))) (hag40.e (hag33.t (hag27.t (hag20.t tp0))) (hag33.e (hag27.t (hag20.t tp0)) (hag27.e (hag20.t tp0) (hag20.e tp0 rfl))))))))))))))))) rfl ⟨by decide, by decide, rfl, rfl⟩ rfl w_31 dX10_init_97 qj145 ?_
      refine x_alen hC hW tj145 rfl ⟨by decide, by decide⟩ dX10_init_100 ?_
      refine lv_icmp_ge (tgt := 124) hx hb dX10_init_101 (by decide) (fun c146 => ?_) (fun c146 => ?_)
      · replace hf := ifT c146 hf
        refine W.widen (k := 195) (n := 77184) (Nat.le_of_ble_eq_true rfl) (Nat.le_of_ble_eq_true rfl) ?_
        exact L800124 ad139 K140 n138 (((((((((((((((((Ag.rf.tr hag20).tr hag27).tr hag33).tr hag40).tr hag47).tr hag54).tr hag61).tr hag69).tr hag77).tr hag84).tr hag91).tr hag98).tr hag105).tr hag115).tr hag122).tr hag134).tr hag141) S143 p0 (hag141.t (hag134.t (hag122.t (hag115.t (hag105.t (hag98.t (hag91.t (hag84.t (hag77.t (hag69.t (hag61.t (hag54.t (hag47.t (hag40.t (hag33.t (hag27.t (hag20.t tp0))))))))))))))))) _ _ _ hf hW hS (lv_sub hl [2] (by rw [(hag141.e (hag134.t (hag122.t (hag115.t (hag105.t (hag98.t (hag91.t (hag84.t (hag77.t (hag69.t (hag61.t (hag54.t (hag47.t (hag40.t (hag33.t (hag27.t (hag20.t tp0)))))))))))))))) (hag134.e (hag122.t (hag115.t (hag105.t (hag98.t (hag91.t (hag84.t (hag77.t (hag69.t (hag61.t (hag54.t (hag47.t (hag40.t (hag33.t (hag27.t (hag20.t tp0))))))))))))))) (hag122.e (hag115.t (hag105.t (hag98.t (hag91.t (hag84.t (hag77.t (hag69.t (hag61.t (hag54.t (hag47.t (hag40.t (hag33.t (hag27.t (hag20.t tp0)))))))))))))) (hag115.e (hag105.t (hag98.t (hag91.t (hag84.t (hag77.t (hag69.t (hag61.t (hag54.t (hag47.t (hag40.t (hag33.t (hag27.t (hag20.t tp0))))))))))))) (hag105.e (hag98.t (hag91.t (hag84.t (hag77.t (hag69.t (hag61.t (hag54.t (hag47.t (hag40.t (hag33.t (hag27.t (hag20.t tp0)))))))))))) (hag98.e (hag91.t (hag84.t (hag77.t (hag69.t (hag61.t (hag54.t (hag47.t (hag40.t (hag33.t (hag27.t (hag20.t tp0))))))))))) (hag91.e (hag84.t (hag77.t (hag69.t (hag61.t (hag54.t (hag47.t (hag40.t (hag33.t (hag27.t (hag20.t tp0)))))))))) (hag84.e (hag77.t (hag69.t (hag61.t (hag54.t (hag47.t (hag40.t (hag33.t (hag27.t (hag20.t tp0))))))))) (hag77.e (hag69.t (hag61.t (hag54.t (hag47.t (hag40.t (hag33.t (hag27.t (hag20.t tp0)))))))) (hag69.e (hag61.t (hag54.t (hag47.t (hag40.t (hag33.t (hag27.t (hag20.t tp0))))))) (hag61.e (hag54.t (hag47.t (hag40.t (hag33.t (hag27.t (hag20.t tp0)))))) (hag54.e (hag47.t (hag40.t (hag33.t (hag27.t (hag20.t tp0))))) (hag47.e (hag40.t (hag33.t (hag27.t (hag20.t tp0)))) (hag40.e (hag33.t (hag27.t (hag20.t tp0))) (hag33.e (hag27.t (hag20.t tp0)) (hag27.e (hag20.t tp0) (hag20.e tp0 rfl)))))))))))))))))] <;> rfl))
      · replace hf := ifF c146 hf
        refine lv_aload_n hx hb dX10_init_104 rfl (lv_at hl 2 rfl) ?_
        replace hf := obE hf
        obtain ⟨j147, qj147, hf⟩ := hf
        have tj147 := x_rt hW qj147 16 ⟨by decide, rfl⟩
        refine x_getr 907 (ci := 9) (C := RX10) (T := TX10) (N := 11) 7 hC hin10 hW (hag141.t (hag134.t (hag122.t (hag115.t (hag105.t (hag98.t (hag91.t (hag84.t (hag77.t (hag69.t (hag61.t (hag54.t (hag47.t (hag40.t (hag33.t (hag27.t (hag20.t tp0))))))))))))))))) (hag141.e (hag134.t (hag122.t (hag115.t (hag105.t (hag98.t (hag91.t (hag84.t (hag77.t (hag69.t (hag61.t (hag54.t (hag47.t (hag40.t (hag33.t (hag27.t (hag20.t tp0)))))))))))))))) (hag134.e (hag122.t (hag115.t (hag105.t (hag98.t (hag91.t (hag84.t (hag77.t (hag69.t (hag61.t (hag54.t (hag47.t (hag40.t (hag33.t (hag27.t (hag20.t tp0))))))))))))))) (hag122.e (hag115.t (hag105.t (hag98.t (hag91.t (hag84.t (hag77.t (hag69.t (hag61.t (hag54.t (hag47.t (hag40.t (hag33.t (hag27.t (hag20.t tp0)))))))))))))) (hag115.e (hag105.t (hag98.t (hag91.t (hag84.t (hag77.t (hag69.t (hag61.t (hag54.t (hag47.t (hag40.t (hag33.t (hag27.t (hag20.t tp0))))))))))))) (hag105.e (hag98.t (hag91.t (hag84.t (hag77.t (hag69.t (hag61.t (hag54.t (hag47.t (hag40.t (hag33.t (hag27.t (hag20.t tp0)))))))))))) (hag98.e (hag91.t (hag84.t (hag77.t (hag69.t (hag61.t (hag54.t (hag47.t (hag40.t (hag33.t (hag27.t (hag20.t tp0))))))))))) (hag91.e (hag84.t (hag77.t (hag69.t (hag61.t (hag54.t (hag47.t (hag40.t (hag33.t (hag27.t (hag20.t tp0)))))))))) (hag84.e (hag77.t (hag69.t (hag61.t (hag54.t (hag47.t (hag40.t (hag33.t (hag27.t (hag20.t tp0))))))))) (hag77.e (hag69.t (hag61.t (hag54.t (hag47.t (hag40.t (hag33.t (hag27.t (hag20.t tp0)))))))) (hag69.e (hag61.t (hag54.t (hag47.t (hag40.t (hag33.t (hag27.t (hag20.t tp0))))))) (hag61.e (hag54.t (hag47.t (hag40.t (hag33.t (hag27.t (hag20.t tp0)))))) (hag54.e (hag47.t (hag40.t (hag33.t (hag27.t (hag20.t tp0))))) (hag47.e (hag40.t (hag33.t (hag27.t (hag20.t tp0)))) (hag40.e (hag33.t (hag27.t (hag20.t tp0))) (hag33.e (hag27.t (hag20.t tp0)) (hag27.e (hag20.t tp0) (hag20.e tp0 rfl))))))))))))))))) rfl ⟨by decide, by decide, rfl, rfl⟩ rfl w_31 dX10_init_105 qj147 ?_
        refine lv_iload_n hx hb dX10_init_108 rfl (lv_at hl 0 rfl) ?_
        refine x_new (ci := 7) (C := RX8) (T := TX8) (N := 16) hC hin8 tyX8_ok hW hS hA ⟨rfl, by decide, by decide⟩ (by decide +kernel) w_24 w_25 w_26 (Nat.le_of_ble_eq_true rfl) (Nat.le_of_ble_eq_true rfl) dX10_init_109 (fun q148 ad149 K150 S151 H eS151 hag153 eqq148 ekq148 hW hS => ?_)
        replace hf := ltE hf S151 eS151
        obtain ⟨n152, en152⟩ : ∃ z, z = n138 + 1 := ⟨_, rfl⟩
        rw [← en152] at hag153 hW
        replace hf := ltE hf n152 en152
        have tq148 : n138 < n152 ∧ K150 n138 = 7 := ⟨by omega, ekq148⟩
        refine W.widen (k := 112) (n := 40728) (Nat.le_of_ble_eq_true rfl) (Nat.le_of_ble_eq_true rfl) ?_
        refine lv_dup hx hb dX10_init_112 rfl ?_
        refine lv_aload_n hx hb dX10_init_113 rfl (lv_at hl 1 rfl) ?_
        replace hf := obE hf
        obtain ⟨z154, hz154, hf⟩ := hf
        obtain ⟨S155, n157⟩ := z154
        replace hf := ltE (ltE hf S155 rfl) n157 rfl
        refine x_acallI (As := [.ref (ad149 n)]) (rest := [.ref (q148), .int x144, .ref (ad139 j147)]) (S1 := S155) (n1 := n157) (o := (fun _ => none)) (P := (fun _ => True)) hC hl.1 hW hS hGs hA (c_X8_init l g ad149 n152 K150 H.size F S151 n138 n tq148 (hag153.t (hag141.t (hag134.t (hag122.t (hag115.t (hag105.t (hag98.t (hag91.t (hag84.t (hag77.t (hag69.t (hag61.t (hag54.t (hag47.t (hag40.t (hag33.t (hag27.t tq15))))))))))))))))) S155 n157 hz154) (cwI 1 hts gX10_init_X8_init rfl rfl rfl w_26 w_27 w_28 rfl (by decide +kernel) ⟨Nat.le_of_ble_eq_true rfl, Nat.le_of_ble_eq_true rfl⟩) rfl (by rw [(hag153.e (hag141.t (hag134.t (hag122.t (hag115.t (hag105.t (hag98.t (hag91.t (hag84.t (hag77.t (hag69.t (hag61.t (hag54.t (hag47.t (hag40.t (hag33.t (hag27.t tq15)))))))))))))))) (hag141.e (hag134.t (hag122.t (hag115.t (hag105.t (hag98.t (hag91.t (hag84.t (hag77.t (hag69.t (hag61.t (hag54.t (hag47.t (hag40.t (hag33.t (hag27.t tq15))))))))))))))) (hag134.e (hag122.t (hag115.t (hag105.t (hag98.t (hag91.t (hag84.t (hag77.t (hag69.t (hag61.t (hag54.t (hag47.t (hag40.t (hag33.t (hag27.t tq15)))))))))))))) (hag122.e (hag115.t (hag105.t (hag98.t (hag91.t (hag84.t (hag77.t (hag69.t (hag61.t (hag54.t (hag47.t (hag40.t (hag33.t (hag27.t tq15))))))))))))) (hag115.e (hag105.t (hag98.t (hag91.t (hag84.t (hag77.t (hag69.t (hag61.t (hag54.t (hag47.t (hag40.t (hag33.t (hag27.t tq15)))))))))))) (hag105.e (hag98.t (hag91.t (hag84.t (hag77.t (hag69.t (hag61.t (hag54.t (hag47.t (hag40.t (hag33.t (hag27.t tq15))))))))))) (hag98.e (hag91.t (hag84.t (hag77.t (hag69.t (hag61.t (hag54.t (hag47.t (hag40.t (hag33.t (hag27.t tq15)))))))))) (hag91.e (hag84.t (hag77.t (hag69.t (hag61.t (hag54.t (hag47.t (hag40.t (hag33.t (hag27.t tq15))))))))) (hag84.e (hag77.t (hag69.t (hag61.t (hag54.t (hag47.t (hag40.t (hag33.t (hag27.t tq15)))))))) (hag77.e (hag69.t (hag61.t (hag54.t (hag47.t (hag40.t (hag33.t (hag27.t tq15))))))) (hag69.e (hag61.t (hag54.t (hag47.t (hag40.t (hag33.t (hag27.t tq15)))))) (hag61.e (hag54.t (hag47.t (hag40.t (hag33.t (hag27.t tq15))))) (hag54.e (hag47.t (hag40.t (hag33.t (hag27.t tq15)))) (hag47.e (hag40.t (hag33.t (hag27.t tq15))) (hag40.e (hag33.t (hag27.t tq15)) (hag33.e (hag27.t tq15) (hag27.e tq15 eqq15))))))))))))))))), eqq148] <;> rfl) (Nat.le_of_ble_eq_true rfl) dX10_init_114 ⟨Nat.le_of_ble_eq_true rfl, Nat.le_of_ble_eq_true rfl⟩ (fun ad158 K159 H locs hag160 hPz154 hW hS => ?_)
        refine W.widen (k := 132) (n := 49830) (Nat.le_of_ble_eq_true rfl) (Nat.le_of_ble_eq_true rfl) ?_
        refine W.eq (g2 := F0 m 117 ls [.ref (q148), .int x144, .ref (ad139 j147)]) rfl ?_
        replace hf := ckiE hf
        obtain ⟨h161, hf⟩ := hf
        refine x_aast (C := RX8) (T := TX8) (N := 16) (t0 := 5) hC hW hS (hag160.t (hag153.t tj147)) (hag160.e (hag153.t tj147) (hag153.e tj147 rfl)) (hag160.t tq148) (hag160.e tq148 eqq148) ⟨by decide, rfl, rfl, rfl, by decide⟩ h161 dX10_init_117 (fun S162 H locs eS162 hW hS => ?_)
        replace hf := ltE hf S162 eS162
        obtain ⟨x163, ex163⟩ : ∃ z : Int32, z = x144 + 1 := ⟨_, rfl⟩
        replace hf := ltE hf x163 ex163
        refine lv_iinc (v := x163) (lv' := [(2, .int x163), (1, .ref (q15)), (0, .ref (ad p0))]) hx hb dX10_init_118 hl (k := 0) rfl (by rw [ex163]; rfl) (by decide) rfl (fun ls hl => ?_)
        refine lv_goto (tgt := 95) hx hb dX10_init_121 (by decide) ?_
        refine lv_iload_n hx hb dX10_init_95 rfl (lv_at hl 0 rfl) ?_
        refine lv_aload_n hx hb dX10_init_96 rfl (lv_at hl 2 rfl) ?_
        replace hf := obE hf
        obtain ⟨j164, qj164, hf⟩ := hf
        have tj164 := x_rt hW qj164 16 ⟨by decide, rfl⟩
        refine x_getr 907 (ci := 9) (C := RX10) (T := TX10) (N := 11) 7 hC hin10 hW (hag160.t (hag153.t (hag141.t (hag134.t (hag122.t (hag115.t (hag105.t (hag98.t (hag91.t (hag84.t (hag77.t (hag69.t (hag61.t (hag54.t (hag47.t (hag40.t (hag33.t (hag27.t (hag20.t tp0))))))))))))))))))) (hag160.e (hag153.t (hag141.t (hag134.t (hag122.t (hag115.t (hag105.t (hag98.t (hag91.t (hag84.t (hag77.t (hag69.t (hag61.t (hag54.t (hag47.t (hag40.t (hag33.t (hag27.t (hag20.t tp0)))))))))))))))))) (hag153.e (hag141.t (hag134.t (hag122.t (hag115.t (hag105.t (hag98.t (hag91.t (hag84.t (hag77.t (hag69.t (hag61.t (hag54.t (hag47.t (hag40.t (hag33.t (hag27.t (hag20.t tp0))))))))))))))))) (hag141.e (hag134.t (hag122.t (hag115.t (hag105.t (hag98.t (hag91.t (hag84.t (hag77.t (hag69.t (hag61.t (hag54.t (hag47.t (hag40.t (hag33.t (hag27.t (hag20.t tp0)))))))))))))))) (hag134.e (hag122.t (hag115.t (hag105.t (hag98.t (hag91.t (hag84.t (hag77.t (hag69.t (hag61.t (hag54.t (hag47.t (hag40.t (hag33.t (hag27.t (hag20.t tp0))))))))))))))) (hag122.e (hag115.t (hag105.t (hag98.t (hag91.t (hag84.t (hag77.t (hag69.t (hag61.t (hag54.t (hag47.t (hag40.t (hag33.t (hag27.t (hag20.t tp0)))))))))))))) (hag115.e (hag105.t (hag98.t (hag91.t (hag84.t (hag77.t (hag69.t (hag61.t (hag54.t (hag47.t (hag40.t (hag33.t (hag27.t (hag20.t tp0))))))))))))) (hag105.e (hag98.t (hag91.t (hag84.t (hag77.t (hag69.t (hag61.t (hag54.t (hag47.t (hag40.t (hag33.t (hag27.t (hag20.t tp0)))))))))))) (hag98.e (hag91.t (hag84.t (hag77.t (hag69.t (hag61.t (hag54.t (hag47.t (hag40.t (hag33.t (hag27.t (hag20.t tp0))))))))))) (hag91.e (hag84.t (hag77.t (hag69.t (hag61.t (hag54.t (hag47.t (hag40.t (hag33.t (hag27.t (hag20.t tp0)))))))))) (hag84.e (hag77.t (hag69.t (hag61.t (hag54.t (hag47.t (hag40.t (hag33.t (hag27.t (hag20.t tp0))))))))) (hag77.e (hag69.t (hag61.t (hag54.t (hag47.t (hag40.t (hag33.t (hag27.t (hag20.t tp0)))))))) (hag69.e (hag61.t (hag54.t (hag47.t (hag40.t (hag33.t (hag27.t (hag20.t tp0))))))) (hag61.e (hag54.t (hag47.t (hag40.t (hag33.t (hag27.t (hag20.t tp0)))))) (hag54.e (hag47.t (hag40.t (hag33.t (hag27.t (hag20.t tp0))))) (hag47.e (hag40.t (hag33.t (hag27.t (hag20.t tp0)))) (hag40.e (hag33.t (hag27.t (hag20.t tp0))) (hag33.e (hag27.t (hag20.t tp0)) (hag27.e (hag20.t tp0) (hag20.e tp0 rfl))))))))))))))))))) rfl ⟨by decide, by decide, rfl, rfl⟩ rfl w_31 dX10_init_97 qj164 ?_
        refine x_alen hC hW tj164 rfl ⟨by decide, by decide⟩ dX10_init_100 ?_
        refine lv_icmp_ge (tgt := 124) hx hb dX10_init_101 (by decide) (fun c165 => ?_) (fun c165 => ?_)
        · replace hf := ifT c165 hf
          refine W.widen (k := 195) (n := 77184) (Nat.le_of_ble_eq_true rfl) (Nat.le_of_ble_eq_true rfl) ?_
          exact L800124 ad158 K159 n157 (((((((((((((((((((Ag.rf.tr hag20).tr hag27).tr hag33).tr hag40).tr hag47).tr hag54).tr hag61).tr hag69).tr hag77).tr hag84).tr hag91).tr hag98).tr hag105).tr hag115).tr hag122).tr hag134).tr hag141).tr hag153).tr hag160) S162 p0 (hag160.t (hag153.t (hag141.t (hag134.t (hag122.t (hag115.t (hag105.t (hag98.t (hag91.t (hag84.t (hag77.t (hag69.t (hag61.t (hag54.t (hag47.t (hag40.t (hag33.t (hag27.t (hag20.t tp0))))))))))))))))))) _ _ _ hf hW hS (lv_sub hl [2] (by rw [(hag160.e (hag153.t (hag141.t (hag134.t (hag122.t (hag115.t (hag105.t (hag98.t (hag91.t (hag84.t (hag77.t (hag69.t (hag61.t (hag54.t (hag47.t (hag40.t (hag33.t (hag27.t (hag20.t tp0)))))))))))))))))) (hag153.e (hag141.t (hag134.t (hag122.t (hag115.t (hag105.t (hag98.t (hag91.t (hag84.t (hag77.t (hag69.t (hag61.t (hag54.t (hag47.t (hag40.t (hag33.t (hag27.t (hag20.t tp0))))))))))))))))) (hag141.e (hag134.t (hag122.t (hag115.t (hag105.t (hag98.t (hag91.t (hag84.t (hag77.t (hag69.t (hag61.t (hag54.t (hag47.t (hag40.t (hag33.t (hag27.t (hag20.t tp0)))))))))))))))) (hag134.e (hag122.t (hag115.t (hag105.t (hag98.t (hag91.t (hag84.t (hag77.t (hag69.t (hag61.t (hag54.t (hag47.t (hag40.t (hag33.t (hag27.t (hag20.t tp0))))))))))))))) (hag122.e (hag115.t (hag105.t (hag98.t (hag91.t (hag84.t (hag77.t (hag69.t (hag61.t (hag54.t (hag47.t (hag40.t (hag33.t (hag27.t (hag20.t tp0)))))))))))))) (hag115.e (hag105.t (hag98.t (hag91.t (hag84.t (hag77.t (hag69.t (hag61.t (hag54.t (hag47.t (hag40.t (hag33.t (hag27.t (hag20.t tp0))))))))))))) (hag105.e (hag98.t (hag91.t (hag84.t (hag77.t (hag69.t (hag61.t (hag54.t (hag47.t (hag40.t (hag33.t (hag27.t (hag20.t tp0)))))))))))) (hag98.e (hag91.t (hag84.t (hag77.t (hag69.t (hag61.t (hag54.t (hag47.t (hag40.t (hag33.t (hag27.t (hag20.t tp0))))))))))) (hag91.e (hag84.t (hag77.t (hag69.t (hag61.t (hag54.t (hag47.t (hag40.t (hag33.t (hag27.t (hag20.t tp0)))))))))) (hag84.e (hag77.t (hag69.t (hag61.t (hag54.t (hag47.t (hag40.t (hag33.t (hag27.t (hag20.t tp0))))))))) (hag77.e (hag69.t (hag61.t (hag54.t (hag47.t (hag40.t (hag33.t (hag27.t (hag20.t tp0)))))))) (hag69.e (hag61.t (hag54.t (hag47.t (hag40.t (hag33.t (hag27.t (hag20.t tp0))))))) (hag61.e (hag54.t (hag47.t (hag40.t (hag33.t (hag27.t (hag20.t tp0)))))) (hag54.e (hag47.t (hag40.t (hag33.t (hag27.t (hag20.t tp0))))) (hag47.e (hag40.t (hag33.t (hag27.t (hag20.t tp0)))) (hag40.e (hag33.t (hag27.t (hag20.t tp0))) (hag33.e (hag27.t (hag20.t tp0)) (hag27.e (hag20.t tp0) (hag20.e tp0 rfl)))))))))))))))))))] <;> rfl))
        · replace hf := ifF c165 hf
          refine lv_aload_n hx hb dX10_init_104 rfl (lv_at hl 2 rfl) ?_
          replace hf := obE hf
          obtain ⟨j166, qj166, hf⟩ := hf
          have tj166 := x_rt hW qj166 16 ⟨by decide, rfl⟩
          refine x_getr 907 (ci := 9) (C := RX10) (T := TX10) (N := 11) 7 hC hin10 hW (hag160.t (hag153.t (hag141.t (hag134.t (hag122.t (hag115.t (hag105.t (hag98.t (hag91.t (hag84.t (hag77.t (hag69.t (hag61.t (hag54.t (hag47.t (hag40.t (hag33.t (hag27.t (hag20.t tp0))))))))))))))))))) (hag160.e (hag153.t (hag141.t (hag134.t (hag122.t (hag115.t (hag105.t (hag98.t (hag91.t (hag84.t (hag77.t (hag69.t (hag61.t (hag54.t (hag47.t (hag40.t (hag33.t (hag27.t (hag20.t tp0)))))))))))))))))) (hag153.e (hag141.t (hag134.t (hag122.t (hag115.t (hag105.t (hag98.t (hag91.t (hag84.t (hag77.t (hag69.t (hag61.t (hag54.t (hag47.t (hag40.t (hag33.t (hag27.t (hag20.t tp0))))))))))))))))) (hag141.e (hag134.t (hag122.t (hag115.t (hag105.t (hag98.t (hag91.t (hag84.t (hag77.t (hag69.t (hag61.t (hag54.t (hag47.t (hag40.t (hag33.t (hag27.t (hag20.t tp0)))))))))))))))) (hag134.e (hag122.t (hag115.t (hag105.t (hag98.t (hag91.t (hag84.t (hag77.t (hag69.t (hag61.t (hag54.t (hag47.t (hag40.t (hag33.t (hag27.t (hag20.t tp0))))))))))))))) (hag122.e (hag115.t (hag105.t (hag98.t (hag91.t (hag84.t (hag77.t (hag69.t (hag61.t (hag54.t (hag47.t (hag40.t (hag33.t (hag27.t (hag20.t tp0)))))))))))))) (hag115.e (hag105.t (hag98.t (hag91.t (hag84.t (hag77.t (hag69.t (hag61.t (hag54.t (hag47.t (hag40.t (hag33.t (hag27.t (hag20.t tp0))))))))))))) (hag105.e (hag98.t (hag91.t (hag84.t (hag77.t (hag69.t (hag61.t (hag54.t (hag47.t (hag40.t (hag33.t (hag27.t (hag20.t tp0)))))))))))) (hag98.e (hag91.t (hag84.t (hag77.t (hag69.t (hag61.t (hag54.t (hag47.t (hag40.t (hag33.t (hag27.t (hag20.t tp0))))))))))) (hag91.e (hag84.t (hag77.t (hag69.t (hag61.t (hag54.t (hag47.t (hag40.t (hag33.t (hag27.t (hag20.t tp0)))))))))) (hag84.e (hag77.t (hag69.t (hag61.t (hag54.t (hag47.t (hag40.t (hag33.t (hag27.t (hag20.t tp0))))))))) (hag77.e (hag69.t (hag61.t (hag54.t (hag47.t (hag40.t (hag33.t (hag27.t (hag20.t tp0)))))))) (hag69.e (hag61.t (hag54.t (hag47.t (hag40.t (hag33.t (hag27.t (hag20.t tp0))))))) (hag61.e (hag54.t (hag47.t (hag40.t (hag33.t (hag27.t (hag20.t tp0)))))) (hag54.e (hag47.t (hag40.t (hag33.t (hag27.t (hag20.t tp0))))) (hag47.e (hag40.t (hag33.t (hag27.t (hag20.t tp0)))) (hag40.e (hag33.t (hag27.t (hag20.t tp0))) (hag33.e (hag27.t (hag20.t tp0)) (hag27.e (hag20.t tp0) (hag20.e tp0 rfl))))))))))))))))))) rfl ⟨by decide, by decide, rfl, rfl⟩ rfl w_31 dX10_init_105 qj166 ?_
          refine lv_iload_n hx hb dX10_init_108 rfl (lv_at hl 0 rfl) ?_
          refine x_new (ci := 7) (C := RX8) (T := TX8) (N := 16) hC hin8 tyX8_ok hW hS hA ⟨rfl, by decide, by decide⟩ (by decide +kernel) w_24 w_25 w_26 (Nat.le_of_ble_eq_true rfl) (Nat.le_of_ble_eq_true rfl) dX10_init_109 (fun q167 ad168 K169 S170 H eS170 hag172 eqq167 ekq167 hW hS => ?_)
          replace hf := ltE hf S170 eS170
          obtain ⟨n171, en171⟩ : ∃ z, z = n157 + 1 := ⟨_, rfl⟩
          rw [← en171] at hag172 hW
          replace hf := ltE hf n171 en171
          have tq167 : n157 < n171 ∧ K169 n157 = 7 := ⟨by omega, ekq167⟩
          refine W.widen (k := 133) (n := 49846) (Nat.le_of_ble_eq_true rfl) (Nat.le_of_ble_eq_true rfl) ?_
          refine lv_dup hx hb dX10_init_112 rfl ?_
          refine lv_aload_n hx hb dX10_init_113 rfl (lv_at hl 1 rfl) ?_
          replace hf := obE hf
          obtain ⟨z173, hz173, hf⟩ := hf
          obtain ⟨S174, n176⟩ := z173
          replace hf := ltE (ltE hf S174 rfl) n176 rfl
          refine x_acallI (As := [.ref (ad168 n)]) (rest := [.ref (q167), .int x163, .ref (ad158 j166)]) (S1 := S174) (n1 := n176) (o := (fun _ => none)) (P := (fun _ => True)) hC hl.1 hW hS hGs hA (c_X8_init l g ad168 n171 K169 H.size F S170 n157 n tq167 (hag172.t (hag160.t (hag153.t (hag141.t (hag134.t (hag122.t (hag115.t (hag105.t (hag98.t (hag91.t (hag84.t (hag77.t (hag69.t (hag61.t (hag54.t (hag47.t (hag40.t (hag33.t (hag27.t tq15))))))))))))))))))) S174 n176 hz173) (cwI 1 hts gX10_init_X8_init rfl rfl rfl w_26 w_27 w_28 rfl (by decide +kernel) ⟨Nat.le_of_ble_eq_true rfl, Nat.le_of_ble_eq_true rfl⟩) rfl (by rw [(hag172.e (hag160.t (hag153.t (hag141.t (hag134.t (hag122.t (hag115.t (hag105.t (hag98.t (hag91.t (hag84.t (hag77.t (hag69.t (hag61.t (hag54.t (hag47.t (hag40.t (hag33.t (hag27.t tq15)))))))))))))))))) (hag160.e (hag153.t (hag141.t (hag134.t (hag122.t (hag115.t (hag105.t (hag98.t (hag91.t (hag84.t (hag77.t (hag69.t (hag61.t (hag54.t (hag47.t (hag40.t (hag33.t (hag27.t tq15))))))))))))))))) (hag153.e (hag141.t (hag134.t (hag122.t (hag115.t (hag105.t (hag98.t (hag91.t (hag84.t (hag77.t (hag69.t (hag61.t (hag54.t (hag47.t (hag40.t (hag33.t (hag27.t tq15)))))))))))))))) (hag141.e (hag134.t (hag122.t (hag115.t (hag105.t (hag98.t (hag91.t (hag84.t (hag77.t (hag69.t (hag61.t (hag54.t (hag47.t (hag40.t (hag33.t (hag27.t tq15))))))))))))))) (hag134.e (hag122.t (hag115.t (hag105.t (hag98.t (hag91.t (hag84.t (hag77.t (hag69.t (hag61.t (hag54.t (hag47.t (hag40.t (hag33.t (hag27.t tq15)))))))))))))) (hag122.e (hag115.t (hag105.t (hag98.t (hag91.t (hag84.t (hag77.t (hag69.t (hag61.t (hag54.t (hag47.t (hag40.t (hag33.t (hag27.t tq15))))))))))))) (hag115.e (hag105.t (hag98.t (hag91.t (hag84.t (hag77.t (hag69.t (hag61.t (hag54.t (hag47.t (hag40.t (hag33.t (hag27.t tq15)))))))))))) (hag105.e (hag98.t (hag91.t (hag84.t (hag77.t (hag69.t (hag61.t (hag54.t (hag47.t (hag40.t (hag33.t (hag27.t tq15))))))))))) (hag98.e (hag91.t (hag84.t (hag77.t (hag69.t (hag61.t (hag54.t (hag47.t (hag40.t (hag33.t (hag27.t tq15)))))))))) (hag91.e (hag84.t (hag77.t (hag69.t (hag61.t (hag54.t (hag47.t (hag40.t (hag33.t (hag27.t tq15))))))))) (hag84.e (hag77.t (hag69.t (hag61.t (hag54.t (hag47.t (hag40.t (hag33.t (hag27.t tq15)))))))) (hag77.e (hag69.t (hag61.t (hag54.t (hag47.t (hag40.t (hag33.t (hag27.t tq15))))))) (hag69.e (hag61.t (hag54.t (hag47.t (hag40.t (hag33.t (hag27.t tq15)))))) (hag61.e (hag54.t (hag47.t (hag40.t (hag33.t (hag27.t tq15))))) (hag54.e (hag47.t (hag40.t (hag33.t (hag27.t tq15)))) (hag47.e (hag40.t (hag33.t (hag27.t tq15))) (hag40.e (hag33.t (hag27.t tq15)) (hag33.e (hag27.t tq15) (hag27.e tq15 eqq15))))))))))))))))))), eqq167] <;> rfl) (Nat.le_of_ble_eq_true rfl) dX10_init_114 ⟨Nat.le_of_ble_eq_true rfl, Nat.le_of_ble_eq_true rfl⟩ (fun ad177 K178 H locs hag179 hPz173 hW hS => ?_)
          refine W.widen (k := 153) (n := 58948) (Nat.le_of_ble_eq_true rfl) (Nat.le_of_ble_eq_true rfl) ?_
          refine W.eq (g2 := F0 m 117 ls [.ref (q167), .int x163, .ref (ad158 j166)]) rfl ?_
          replace hf := ckiE hf
          obtain ⟨h180, hf⟩ := hf
          refine x_aast (C := RX8) (T := TX8) (N := 16) (t0 := 5) hC hW hS (hag179.t (hag172.t tj166)) (hag179.e (hag172.t tj166) (hag172.e tj166 rfl)) (hag179.t tq167) (hag179.e tq167 eqq167) ⟨by decide, rfl, rfl, rfl, by decide⟩ h180 dX10_init_117 (fun S181 H locs eS181 hW hS => ?_)
          replace hf := ltE hf S181 eS181
          obtain ⟨x182, ex182⟩ : ∃ z : Int32, z = x163 + 1 := ⟨_, rfl⟩
          replace hf := ltE hf x182 ex182
          refine lv_iinc (v := x182) (lv' := [(2, .int x182), (1, .ref (q15)), (0, .ref (ad p0))]) hx hb dX10_init_118 hl (k := 0) rfl (by rw [ex182]; rfl) (by decide) rfl (fun ls hl => ?_)
          refine lv_goto (tgt := 95) hx hb dX10_init_121 (by decide) ?_
          refine lv_iload_n hx hb dX10_init_95 rfl (lv_at hl 0 rfl) ?_
          refine lv_aload_n hx hb dX10_init_96 rfl (lv_at hl 2 rfl) ?_
          replace hf := obE hf
          obtain ⟨j183, qj183, hf⟩ := hf
          have tj183 := x_rt hW qj183 16 ⟨by decide, rfl⟩
          refine x_getr 907 (ci := 9) (C := RX10) (T := TX10) (N := 11) 7 hC hin10 hW (hag179.t (hag172.t (hag160.t (hag153.t (hag141.t (hag134.t (hag122.t (hag115.t (hag105.t (hag98.t (hag91.t (hag84.t (hag77.t (hag69.t (hag61.t (hag54.t (hag47.t (hag40.t (hag33.t (hag27.t (hag20.t tp0))))))))))))))))))))) (hag179.e (hag172.t (hag160.t (hag153.t (hag141.t (hag134.t (hag122.t (hag115.t (hag105.t (hag98.t (hag91.t (hag84.t (hag77.t (hag69.t (hag61.t (hag54.t (hag47.t (hag40.t (hag33.t (hag27.t (hag20.t tp0)))))))))))))))))))) (hag172.e (hag160.t (hag153.t (hag141.t (hag134.t (hag122.t (hag115.t (hag105.t (hag98.t (hag91.t (hag84.t (hag77.t (hag69.t (hag61.t (hag54.t (hag47.t (hag40.t (hag33.t (hag27.t (hag20.t tp0))))))))))))))))))) (hag160.e (hag153.t (hag141.t (hag134.t (hag122.t (hag115.t (hag105.t (hag98.t (hag91.t (hag84.t (hag77.t (hag69.t (hag61.t (hag54.t (hag47.t (hag40.t (hag33.t (hag27.t (hag20.t tp0)))))))))))))))))) (hag153.e (hag141.t (hag134.t (hag122.t (hag115.t (hag105.t (hag98.t (hag91.t (hag84.t (hag77.t (hag69.t (hag61.t (hag54.t (hag47.t (hag40.t (hag33.t (hag27.t (hag20.t tp0))))))))))))))))) (hag141.e (hag134.t (hag122.t (hag115.t (hag105.t (hag98.t (hag91.t (hag84.t (hag77.t (hag69.t (hag61.t (hag54.t (hag47.t (hag40.t (hag33.t (hag27.t (hag20.t tp0)))))))))))))))) (hag134.e (hag122.t (hag115.t (hag105.t (hag98.t (hag91.t (hag84.t (hag77.t (hag69.t (hag61.t (hag54.t (hag47.t (hag40.t (hag33.t (hag27.t (hag20.t tp0))))))))))))))) (hag122.e (hag115.t (hag105.t (hag98.t (hag91.t (hag84.t (hag77.t (hag69.t (hag61.t (hag54.t (hag47.t (hag40.t (hag33.t (hag27.t (hag20.t tp0)))))))))))))) (hag115.e (hag105.t (hag98.t (hag91.t (hag84.t (hag77.t (hag69.t (hag61.t (hag54.t (hag47.t (hag40.t (hag33.t (hag27.t (hag20.t tp0))))))))))))) (hag105.e (hag98.t (hag91.t (hag84.t (hag77.t (hag69.t (hag61.t (hag54.t (hag47.t (hag40.t (hag33.t (hag27.t (hag20.t tp0)))))))))))) (hag98.e (hag91.t (hag84.t (hag77.t (hag69.t (hag61.t (hag54.t (hag47.t (hag40.t (hag33.t (hag27.t (hag20.t tp0))))))))))) (hag91.e (hag84.t (hag77.t (hag69.t (hag61.t (hag54.t (hag47.t (hag40.t (hag33.t (hag27.t (hag20.t tp0)))))))))) (hag84.e (hag77.t (hag69.t (hag61.t (hag54.t (hag47.t (hag40.t (hag33.t (hag27.t (hag20.t tp0))))))))) (hag77.e (hag69.t (hag61.t (hag54.t (hag47.t (hag40.t (hag33.t (hag27.t (hag20.t tp0)))))))) (hag69.e (hag61.t (hag54.t (hag47.t (hag40.t (hag33.t (hag27.t (hag20.t tp0))))))) (hag61.e (hag54.t (hag47.t (hag40.t (hag33.t (hag27.t (hag20.t tp0)))))) (hag54.e (hag47.t (hag40.t (hag33.t (hag27.t (hag20.t tp0))))) (hag47.e (hag40.t (hag33.t (hag27.t (hag20.t tp0)))) (hag40.e (hag33.t (hag27.t (hag20.t tp0))) (hag33.e (hag27.t (hag20.t tp0)) (hag27.e (hag20.t tp0) (hag20.e tp0 rfl))))))))))))))))))))) rfl ⟨by decide, by decide, rfl, rfl⟩ rfl w_31 dX10_init_97 qj183 ?_
          refine x_alen hC hW tj183 rfl ⟨by decide, by decide⟩ dX10_init_100 ?_
          refine lv_icmp_ge (tgt := 124) hx hb dX10_init_101 (by decide) (fun c184 => ?_) (fun c184 => ?_)
          · replace hf := ifT c184 hf
            refine W.widen (k := 195) (n := 77184) (Nat.le_of_ble_eq_true rfl) (Nat.le_of_ble_eq_true rfl) ?_
            exact L800124 ad177 K178 n176 (((((((((((((((((((((Ag.rf.tr hag20).tr hag27).tr hag33).tr hag40).tr hag47).tr hag54).tr hag61).tr hag69).tr hag77).tr hag84).tr hag91).tr hag98).tr hag105).tr hag115).tr hag122).tr hag134).tr hag141).tr hag153).tr hag160).tr hag172).tr hag179) S181 p0 (hag179.t (hag172.t (hag160.t (hag153.t (hag141.t (hag134.t (hag122.t (hag115.t (hag105.t (hag98.t (hag91.t (hag84.t (hag77.t (hag69.t (hag61.t (hag54.t (hag47.t (hag40.t (hag33.t (hag27.t (hag20.t tp0))))))))))))))))))))) _ _ _ hf hW hS (lv_sub hl [2] (by rw [(hag179.e (hag172.t (hag160.t (hag153.t (hag141.t (hag134.t (hag122.t (hag115.t (hag105.t (hag98.t (hag91.t (hag84.t (hag77.t (hag69.t (hag61.t (hag54.t (hag47.t (hag40.t (hag33.t (hag27.t (hag20.t tp0)))))))))))))))))))) (hag172.e (hag160.t (hag153.t (hag141.t (hag134.t (hag122.t (hag115.t (hag105.t (hag98.t (hag91.t (hag84.t (hag77.t (hag69.t (hag61.t (hag54.t (hag47.t (hag40.t (hag33.t (hag27.t (hag20.t tp0))))))))))))))))))) (hag160.e (hag153.t (hag141.t (hag134.t (hag122.t (hag115.t (hag105.t (hag98.t (hag91.t (hag84.t (hag77.t (hag69.t (hag61.t (hag54.t (hag47.t (hag40.t (hag33.t (hag27.t (hag20.t tp0)))))))))))))))))) (hag153.e (hag141.t (hag134.t (hag122.t (hag115.t (hag105.t (hag98.t (hag91.t (hag84.t (hag77.t (hag69.t (hag61.t (hag54.t (hag47.t (hag40.t (hag33.t (hag27.t (hag20.t tp0))))))))))))))))) (hag141.e (hag134.t (hag122.t (hag115.t (hag105.t (hag98.t (hag91.t (hag84.t (hag77.t (hag69.t (hag61.t (hag54.t (hag47.t (hag40.t (hag33.t (hag27.t (hag20.t tp0)))))))))))))))) (hag134.e (hag122.t (hag115.t (hag105.t (hag98.t (hag91.t (hag84.t (hag77.t (hag69.t (hag61.t (hag54.t (hag47.t (hag40.t (hag33.t (hag27.t (hag20.t tp0))))))))))))))) (hag122.e (hag115.t (hag105.t (hag98.t (hag91.t (hag84.t (hag77.t (hag69.t (hag61.t (hag54.t (hag47.t (hag40.t (hag33.t (hag27.t (hag20.t tp0)))))))))))))) (hag115.e (hag105.t (hag98.t (hag91.t (hag84.t (hag77.t (hag69.t (hag61.t (hag54.t (hag47.t (hag40.t (hag33.t (hag27.t (hag20.t tp0))))))))))))) (hag105.e (hag98.t (hag91.t (hag84.t (hag77.t (hag69.t (hag61.t (hag54.t (hag47.t (hag40.t (hag33.t (hag27.t (hag20.t tp0)))))))))))) (hag98.e (hag91.t (hag84.t (hag77.t (hag69.t (hag61.t (hag54.t (hag47.t (hag40.t (hag33.t (hag27.t (hag20.t tp0))))))))))) (hag91.e (hag84.t (hag77.t (hag69.t (hag61.t (hag54.t (hag47.t (hag40.t (hag33.t (hag27.t (hag20.t tp0)))))))))) (hag84.e (hag77.t (hag69.t (hag61.t (hag54.t (hag47.t (hag40.t (hag33.t (hag27.t (hag20.t tp0))))))))) (hag77.e (hag69.t (hag61.t (hag54.t (hag47.t (hag40.t (hag33.t (hag27.t (hag20.t tp0)))))))) (hag69.e (hag61.t (hag54.t (hag47.t (hag40.t (hag33.t (hag27.t (hag20.t tp0))))))) (hag61.e (hag54.t (hag47.t (hag40.t (hag33.t (hag27.t (hag20.t tp0)))))) (hag54.e (hag47.t (hag40.t (hag33.t (hag27.t (hag20.t tp0))))) (hag47.e (hag40.t (hag33.t (hag27.t (hag20.t tp0)))) (hag40.e (hag33.t (hag27.t (hag20.t tp0))) (hag33.e (hag27.t (hag20.t tp0)) (hag27.e (hag20.t tp0) (hag20.e tp0 rfl)))))))))))))))))))))] <;> rfl))
          · replace hf := ifF c184 hf
            refine lv_aload_n hx hb dX10_init_104 rfl (lv_at hl 2 rfl) ?_
            replace hf := obE hf
            obtain ⟨j185, qj185, hf⟩ := hf
            have tj185 := x_rt hW qj185 16 ⟨by decide, rfl⟩
            refine x_getr 907 (ci := 9) (C := RX10) (T := TX10) (N := 11) 7 hC hin10 hW (hag179.t (hag172.t (hag160.t (hag153.t (hag141.t (hag134.t (hag122.t (hag115.t (hag105.t (hag98.t (hag91.t (hag84.t (hag77.t (hag69.t (hag61.t (hag54.t (hag47.t (hag40.t (hag33.t (hag27.t (hag20.t tp0))))))))))))))))))))) (hag179.e (hag172.t (hag160.t (hag153.t (hag141.t (hag134.t (hag122.t (hag115.t (hag105.t (hag98.t (hag91.t (hag84.t (hag77.t (hag69.t (hag61.t (hag54.t (hag47.t (hag40.t (hag33.t (hag27.t (hag20.t tp0)))))))))))))))))))) (hag172.e (hag160.t (hag153.t (hag141.t (hag134.t (hag122.t (hag115.t (hag105.t (hag98.t (hag91.t (hag84.t (hag77.t (hag69.t (hag61.t (hag54.t (hag47.t (hag40.t (hag33.t (hag27.t (hag20.t tp0))))))))))))))))))) (hag160.e (hag153.t (hag141.t (hag134.t (hag122.t (hag115.t (hag105.t (hag98.t (hag91.t (hag84.t (hag77.t (hag69.t (hag61.t (hag54.t (hag47.t (hag40.t (hag33.t (hag27.t (hag20.t tp0)))))))))))))))))) (hag153.e (hag141.t (hag134.t (hag122.t (hag115.t (hag105.t (hag98.t (hag91.t (hag84.t (hag77.t (hag69.t (hag61.t (hag54.t (hag47.t (hag40.t (hag33.t (hag27.t (hag20.t tp0))))))))))))))))) (hag141.e (hag134.t (hag122.t (hag115.t (hag105.t (hag98.t (hag91.t (hag84.t (hag77.t (hag69.t (hag61.t (hag54.t (hag47.t (hag40.t (hag33.t (hag27.t (hag20.t tp0)))))))))))))))) (hag134.e (hag122.t (hag115.t (hag105.t (hag98.t (hag91.t (hag84.t (hag77.t (hag69.t (hag61.t (hag54.t (hag47.t (hag40.t (hag33.t (hag27.t (hag20.t tp0))))))))))))))) (hag122.e (hag115.t (hag105.t (hag98.t (hag91.t (hag84.t (hag77.t (hag69.t (hag61.t (hag54.t (hag47.t (hag40.t (hag33.t (hag27.t (hag20.t tp0)))))))))))))) (hag115.e (hag105.t (hag98.t (hag91.t (hag84.t (hag77.t (hag69.t (hag61.t (hag54.t (hag47.t (hag40.t (hag33.t (hag27.t (hag20.t tp0))))))))))))) (hag105.e (hag98.t (hag91.t (hag84.t (hag77.t (hag69.t (hag61.t (hag54.t (hag47.t (hag40.t (hag33.t (hag27.t (hag20.t tp0)))))))))))) (hag98.e (hag91.t (hag84.t (hag77.t (hag69.t (hag61.t (hag54.t (hag47.t (hag40.t (hag33.t (hag27.t (hag20.t tp0))))))))))) (hag91.e (hag84.t (hag77.t (hag69.t (hag61.t (hag54.t (hag47.t (hag40.t (hag33.t (hag27.t (hag20.t tp0)))))))))) (hag84.e (hag77.t (hag69.t (hag61.t (hag54.t (hag47.t (hag40.t (hag33.t (hag27.t (hag20.t tp0))))))))) (hag77.e (hag69.t (hag61.t (hag54.t (hag47.t (hag40.t (hag33.t (hag27.t (hag20.t tp0)))))))) (hag69.e (hag61.t (hag54.t (hag47.t (hag40.t (hag33.t (hag27.t (hag20.t tp0))))))) (hag61.e (hag54.t (hag47.t (hag40.t (hag33.t (hag27.t (hag20.t tp0)))))) (hag54.e (hag47.t (hag40.t (hag33.t (hag27.t (hag20.t tp0))))) (hag47.e (hag40.t (hag33.t (hag27.t (hag20.t tp0)))) (hag40.e (hag33.t (hag27.t (hag20.t tp0))) (hag33.e (hag27.t (hag20.t tp0)) (hag27.e (hag20.t tp0) (hag20.e tp0 rfl))))))))))))))))))))) rfl ⟨by decide, by decide, rfl, rfl⟩ rfl w_31 dX10_init_105 qj185 ?_
            refine lv_iload_n hx hb dX10_init_108 rfl (lv_at hl 0 rfl) ?_
            refine x_new (ci := 7) (C := RX8) (T := TX8) (N := 16) hC hin8 tyX8_ok hW hS hA ⟨rfl, by decide, by decide⟩ (by decide +kernel) w_24 w_25 w_26 (Nat.le_of_ble_eq_true rfl) (Nat.le_of_ble_eq_true rfl) dX10_init_109 (fun q186 ad187 K188 S189 H eS189 hag191 eqq186 ekq186 hW hS => ?_)
            replace hf := ltE hf S189 eS189
            obtain ⟨n190, en190⟩ : ∃ z, z = n176 + 1 := ⟨_, rfl⟩
            rw [← en190] at hag191 hW
            replace hf := ltE hf n190 en190
            have tq186 : n176 < n190 ∧ K188 n176 = 7 := ⟨by omega, ekq186⟩
            refine W.widen (k := 154) (n := 58964) (Nat.le_of_ble_eq_true rfl) (Nat.le_of_ble_eq_true rfl) ?_
            refine lv_dup hx hb dX10_init_112 rfl ?_
            refine lv_aload_n hx hb dX10_init_113 rfl (lv_at hl 1 rfl) ?_
            replace hf := obE hf
            obtain ⟨z192, hz192, hf⟩ := hf
            obtain ⟨S193, n195⟩ := z192
            replace hf := ltE (ltE hf S193 rfl) n195 rfl
            refine x_acallI (As := [.ref (ad187 n)]) (rest := [.ref (q186), .int x182, .ref (ad177 j185)]) (S1 := S193) (n1 := n195) (o := (fun _ => none)) (P := (fun _ => True)) hC hl.1 hW hS hGs hA (c_X8_init l g ad187 n190 K188 H.size F S189 n176 n tq186 (hag191.t (hag179.t (hag172.t (hag160.t (hag153.t (hag141.t (hag134.t (hag122.t (hag115.t (hag105.t (hag98.t (hag91.t (hag84.t (hag77.t (hag69.t (hag61.t (hag54.t (hag47.t (hag40.t (hag33.t (hag27.t tq15))))))))))))))))))))) S193 n195 hz192) (cwI 1 hts gX10_init_X8_init rfl rfl rfl w_26 w_27 w_28 rfl (by decide +kernel) ⟨Nat.le_of_ble_eq_true rfl, Nat.le_of_ble_eq_true rfl⟩) rfl (by rw [(hag191.e (hag179.t (hag172.t (hag160.t (hag153.t (hag141.t (hag134.t (hag122.t (hag115.t (hag105.t (hag98.t (hag91.t (hag84.t (hag77.t (hag69.t (hag61.t (hag54.t (hag47.t (hag40.t (hag33.t (hag27.t tq15)))))))))))))))))))) (hag179.e (hag172.t (hag160.t (hag153.t (hag141.t (hag134.t (hag122.t (hag115.t (hag105.t (hag98.t (hag91.t (hag84.t (hag77.t (hag69.t (hag61.t (hag54.t (hag47.t (hag40.t (hag33.t (hag27.t tq15))))))))))))))))))) (hag172.e (hag160.t (hag153.t (hag141.t (hag134.t (hag122.t (hag115.t (hag105.t (hag98.t (hag91.t (hag84.t (hag77.t (hag69.t (hag61.t (hag54.t (hag47.t (hag40.t (hag33.t (hag27.t tq15)))))))))))))))))) (hag160.e (hag153.t (hag141.t (hag134.t (hag122.t (hag115.t (hag105.t (hag98.t (hag91.t (hag84.t (hag77.t (hag69.t (hag61.t (hag54.t (hag47.t (hag40.t (hag33.t (hag27.t tq15))))))))))))))))) (hag153.e (hag141.t (hag134.t (hag122.t (hag115.t (hag105.t (hag98.t (hag91.t (hag84.t (hag77.t (hag69.t (hag61.t (hag54.t (hag47.t (hag40.t (hag33.t (hag27.t tq15)))))))))))))))) (hag141.e (hag134.t (hag122.t (hag115.t (hag105.t (hag98.t (hag91.t (hag84.t (hag77.t (hag69.t (hag61.t (hag54.t (hag47.t (hag40.t (hag33.t (hag27.t tq15))))))))))))))) (hag134.e (hag122.t (hag115.t (hag105.t (hag98.t (hag91.t (hag84.t (hag77.t (hag69.t (hag61.t (hag54.t (hag47.t (hag40.t (hag33.t (hag27.t tq15)))))))))))))) (hag122.e (hag115.t (hag105.t (hag98.t (hag91.t (hag84.t (hag77.t (hag69.t (hag61.t (hag54.t (hag47.t (hag40.t (hag33.t (hag27.t tq15))))))))))))) (hag115.e (hag105.t (hag98.t (hag91.t (hag84.t (hag77.t (hag69.t (hag61.t (hag54.t (hag47.t (hag40.t (hag33.t (hag27.t tq15)))))))))))) (hag105.e (hag98.t (hag91.t (hag84.t (hag77.t (hag69.t (hag61.t (hag54.t (hag47.t (hag40.t (hag33.t (hag27.t tq15))))))))))) (hag98.e (hag91.t (hag84.t (hag77.t (hag69.t (hag61.t (hag54.t (hag47.t (hag40.t (hag33.t (hag27.t tq15)))))))))) (hag91.e (hag84.t (hag77.t (hag69.t (hag61.t (hag54.t (hag47.t (hag40.t (hag33.t (hag27.t tq15))))))))) (hag84.e (hag77.t (hag69.t (hag61.t (hag54.t (hag47.t (hag40.t (hag33.t (hag27.t tq15)))))))) (hag77.e (hag69.t (hag61.t (hag54.t (hag47.t (hag40.t (hag33.t (hag27.t tq15))))))) (hag69.e (hag61.t (hag54.t (hag47.t (hag40.t (hag33.t (hag27.t tq15)))))) (hag61.e (hag54.t (hag47.t (hag40.t (hag33.t (hag27.t tq15))))) (hag54.e (hag47.t (hag40.t (hag33.t (hag27.t tq15)))) (hag47.e (hag40.t (hag33.t (hag27.t tq15))) (hag40.e (hag33.t (hag27.t tq15)) (hag33.e (hag27.t tq15) (hag27.e tq15 eqq15))))))))))))))))))))), eqq186] <;> rfl) (Nat.le_of_ble_eq_true rfl) dX10_init_114 ⟨Nat.le_of_ble_eq_true rfl, Nat.le_of_ble_eq_true rfl⟩ (fun ad196 K197 H locs hag198 hPz192 hW hS => ?_)
            refine W.widen (k := 174) (n := 68066) (Nat.le_of_ble_eq_true rfl) (Nat.le_of_ble_eq_true rfl) ?_
            refine W.eq (g2 := F0 m 117 ls [.ref (q186), .int x182, .ref (ad177 j185)]) rfl ?_
            replace hf := ckiE hf
            obtain ⟨h199, hf⟩ := hf
            refine x_aast (C := RX8) (T := TX8) (N := 16) (t0 := 5) hC hW hS (hag198.t (hag191.t tj185)) (hag198.e (hag191.t tj185) (hag191.e tj185 rfl)) (hag198.t tq186) (hag198.e tq186 eqq186) ⟨by decide, rfl, rfl, rfl, by decide⟩ h199 dX10_init_117 (fun S200 H locs eS200 hW hS => ?_)
            replace hf := ltE hf S200 eS200
            obtain ⟨x201, ex201⟩ : ∃ z : Int32, z = x182 + 1 := ⟨_, rfl⟩
            replace hf := ltE hf x201 ex201
            refine lv_iinc (v := x201) (lv' := [(2, .int x201), (1, .ref (q15)), (0, .ref (ad p0))]) hx hb dX10_init_118 hl (k := 0) rfl (by rw [ex201]; rfl) (by decide) rfl (fun ls hl => ?_)
            refine lv_goto (tgt := 95) hx hb dX10_init_121 (by decide) ?_
            refine lv_iload_n hx hb dX10_init_95 rfl (lv_at hl 0 rfl) ?_
            refine lv_aload_n hx hb dX10_init_96 rfl (lv_at hl 2 rfl) ?_
            replace hf := obE hf
            obtain ⟨j202, qj202, hf⟩ := hf
            have tj202 := x_rt hW qj202 16 ⟨by decide, rfl⟩
            refine x_getr 907 (ci := 9) (C := RX10) (T := TX10) (N := 11) 7 hC hin10 hW (hag198.t (hag191.t (hag179.t (hag172.t (hag160.t (hag153.t (hag141.t (hag134.t (hag122.t (hag115.t (hag105.t (hag98.t (hag91.t (hag84.t (hag77.t (hag69.t (hag61.t (hag54.t (hag47.t (hag40.t (hag33.t (hag27.t (hag20.t tp0))))))))))))))))))))))) (hag198.e (hag191.t (hag179.t (hag172.t (hag160.t (hag153.t (hag141.t (hag134.t (hag122.t (hag115.t (hag105.t (hag98.t (hag91.t (hag84.t (hag77.t (hag69.t (hag61.t (hag54.t (hag47.t (hag40.t (hag33.t (hag27.t (hag20.t tp0)))))))))))))))))))))) (hag191.e (hag179.t (hag172.t (hag160.t (hag153.t (hag141.t (hag134.t (hag122.t (hag115.t (hag105.t (hag98.t (hag91.t (hag84.t (hag77.t (hag69.t (hag61.t (hag54.t (hag47.t (hag40.t (hag33.t (hag27.t (hag20.t tp0))))))))))))))))))))) (hag179.e (hag172.t (hag160.t (hag153.t (hag141.t (hag134.t (hag122.t (hag115.t (hag105.t (hag98.t (hag91.t (hag84.t (hag77.t (hag69.t (hag61.t (hag54.t (hag47.t (hag40.t (hag33.t (hag27.t (hag20.t tp0)))))))))))))))))))) (hag172.e (hag160.t (hag153.t (hag141.t (hag134.t (hag122.t (hag115.t (hag105.t (hag98.t (hag91.t (hag84.t (hag77.t (hag69.t (hag61.t (hag54.t (hag47.t (hag40.t (hag33.t (hag27.t (hag20.t tp0))))))))))))))))))) (hag160.e (hag153.t (hag141.t (hag134.t (hag122.t (hag115.t (hag105.t (hag98.t (hag91.t (hag84.t (hag77.t (hag69.t (hag61.t (hag54.t (hag47.t (hag40.t (hag33.t (hag27.t (hag20.t tp0)))))))))))))))))) (hag153.e (hag141.t (hag134.t (hag122.t (hag115.t (hag105.t (hag98.t (hag91.t (hag84.t (hag77.t (hag69.t (hag61.t (hag54.t (hag47.t (hag40.t (hag33.t (hag27.t (hag20.t tp0))))))))))))))))) (hag141.e (hag134.t (hag122.t (hag115.t (hag105.t (hag98.t (hag91.t (hag84.t (hag77.t (hag69.t (hag61.t (hag54.t (hag47.t (hag40.t (hag33.t (hag27.t (hag20.t tp0)))))))))))))))) (hag134.e (hag122.t (hag115.t (hag105.t (hag98.t (hag91.t (hag84.t (hag77.t (hag69.t (hag61.t (hag54.t (hag47.t (hag40.t (hag33.t (hag27.t (hag20.t tp0))))))))))))))) (hag122.e (hag115.t (hag105.t (hag98.t (hag91.t (hag84.t (hag77.t (hag69.t (hag61.t (hag54.t (hag47.t (hag40.t (hag33.t (hag27.t (hag20.t tp0)))))))))))))) (hag115.e (hag105.t (hag98.t (hag91.t (hag84.t (hag77.t (hag69.t (hag61.t (hag54.t (hag47.t (hag40.t (hag33.t (hag27.t (hag20.t tp0))))))))))))) (hag105.e (hag98.t (hag91.t (hag84.t (hag77.t (hag69.t (hag61.t (hag54.t (hag47.t (hag40.t (hag33.t (hag27.t (hag20.t tp0)))))))))))) (hag98.e (hag91.t (hag84.t (hag77.t (hag69.t (hag61.t (hag54.t (hag47.t (hag40.t (hag33.t (hag27.t (hag20.t tp0))))))))))) (hag91.e (hag84.t (hag77.t (hag69.t (hag61.t (hag54.t (hag47.t (hag40.t (hag33.t (hag27.t (hag20.t tp0)))))))))) (hag84.e (hag77.t (hag69.t (hag61.t (hag54.t (hag47.t (hag40.t (hag33.t (hag27.t (hag20.t tp0))))))))) (hag77.e (hag69.t (hag61.t (hag54.t (hag47.t (hag40.t (hag33.t (hag27.t (hag20.t tp0)))))))) (hag69.e (hag61.t (hag54.t (hag47.t (hag40.t (hag33.t (hag27.t (hag20.t tp0))))))) (hag61.e (hag54.t (hag47.t (hag40.t (hag33.t (hag27.t (hag20.t tp0)))))) (hag54.e (hag47.t (hag40.t (hag33.t (hag27.t (hag20.t tp0))))) (hag47.e (hag40.t (hag33.t (hag27.t (hag20.t tp0)))) (hag40.e (hag33.t (hag27.t (hag20.t tp0))) (hag33.e (hag27.t (hag20.t tp0)) (hag27.e (hag20.t tp0) (hag20.e tp0 rfl))))))))))))))))))))))) rfl ⟨by decide, by decide, rfl, rfl⟩ rfl w_31 dX10_init_97 qj202 ?_
            refine x_alen hC hW tj202 rfl ⟨by decide, by decide⟩ dX10_init_100 ?_
            refine lv_icmp_ge (tgt := 124) hx hb dX10_init_101 (by decide) (fun c203 => ?_) (fun c203 => ?_)
            · replace hf := ifT c203 hf
              refine W.widen (k := 195) (n := 77184) (Nat.le_of_ble_eq_true rfl) (Nat.le_of_ble_eq_true rfl) ?_
              exact L800124 ad196 K197 n195 (((((((((((((((((((((((Ag.rf.tr hag20).tr hag27).tr hag33).tr hag40).tr hag47).tr hag54).tr hag61).tr hag69).tr hag77).tr hag84).tr hag91).tr hag98).tr hag105).tr hag115).tr hag122).tr hag134).tr hag141).tr hag153).tr hag160).tr hag172).tr hag179).tr hag191).tr hag198) S200 p0 (hag198.t (hag191.t (hag179.t (hag172.t (hag160.t (hag153.t (hag141.t (hag134.t (hag122.t (hag115.t (hag105.t (hag98.t (hag91.t (hag84.t (hag77.t (hag69.t (hag61.t (hag54.t (hag47.t (hag40.t (hag33.t (hag27.t (hag20.t tp0))))))))))))))))))))))) _ _ _ hf hW hS (lv_sub hl [2] (by rw [(hag198.e (hag191.t (hag179.t (hag172.t (hag160.t (hag153.t (hag141.t (hag134.t (hag122.t (hag115.t (hag105.t (hag98.t (hag91.t (hag84.t (hag77.t (hag69.t (hag61.t (hag54.t (hag47.t (hag40.t (hag33.t (hag27.t (hag20.t tp0)))))))))))))))))))))) (hag191.e (hag179.t (hag172.t (hag160.t (hag153.t (hag141.t (hag134.t (hag122.t (hag115.t (hag105.t (hag98.t (hag91.t (hag84.t (hag77.t (hag69.t (hag61.t (hag54.t (hag47.t (hag40.t (hag33.t (hag27.t (hag20.t tp0))))))))))))))))))))) (hag179.e (hag172.t (hag160.t (hag153.t (hag141.t (hag134.t (hag122.t (hag115.t (hag105.t (hag98.t (hag91.t (hag84.t (hag77.t (hag69.t (hag61.t (hag54.t (hag47.t (hag40.t (hag33.t (hag27.t (hag20.t tp0)))))))))))))))))))) (hag172.e (hag160.t (hag153.t (hag141.t (hag134.t (hag122.t (hag115.t (hag105.t (hag98.t (hag91.t (hag84.t (hag77.t (hag69.t (hag61.t (hag54.t (hag47.t (hag40.t (hag33.t (hag27.t (hag20.t tp0))))))))))))))))))) (hag160.e (hag153.t (hag141.t (hag134.t (hag122.t (hag115.t (hag105.t (hag98.t (hag91.t (hag84.t (hag77.t (hag69.t (hag61.t (hag54.t (hag47.t (hag40.t (hag33.t (hag27.t (hag20.t tp0)))))))))))))))))) (hag153.e (hag141.t (hag134.t (hag122.t (hag115.t (hag105.t (hag98.t (hag91.t (hag84.t (hag77.t (hag69.t (hag61.t (hag54.t (hag47.t (hag40.t (hag33.t (hag27.t (hag20.t tp0))))))))))))))))) (hag141.e (hag134.t (hag122.t (hag115.t (hag105.t (hag98.t (hag91.t (hag84.t (hag77.t (hag69.t (hag61.t (hag54.t (hag47.t (hag40.t (hag33.t (hag27.t (hag20.t tp0)))))))))))))))) (hag134.e (hag122.t (hag115.t (hag105.t (hag98.t (hag91.t (hag84.t (hag77.t (hag69.t (hag61.t (hag54.t (hag47.t (hag40.t (hag33.t (hag27.t (hag20.t tp0))))))))))))))) (hag122.e (hag115.t (hag105.t (hag98.t (hag91.t (hag84.t (hag77.t (hag69.t (hag61.t (hag54.t (hag47.t (hag40.t (hag33.t (hag27.t (hag20.t tp0)))))))))))))) (hag115.e (hag105.t (hag98.t (hag91.t (hag84.t (hag77.t (hag69.t (hag61.t (hag54.t (hag47.t (hag40.t (hag33.t (hag27.t (hag20.t tp0))))))))))))) (hag105.e (hag98.t (hag91.t (hag84.t (hag77.t (hag69.t (hag61.t (hag54.t (hag47.t (hag40.t (hag33.t (hag27.t (hag20.t tp0)))))))))))) (hag98.e (hag91.t (hag84.t (hag77.t (hag69.t (hag61.t (hag54.t (hag47.t (hag40.t (hag33.t (hag27.t (hag20.t tp0))))))))))) (hag91.e (hag84.t (hag77.t (hag69.t (hag61.t (hag54.t (hag47.t (hag40.t (hag33.t (hag27.t (hag20.t tp0)))))))))) (hag84.e (hag77.t (hag69.t (hag61.t (hag54.t (hag47.t (hag40.t (hag33.t (hag27.t (hag20.t tp0))))))))) (hag77.e (hag69.t (hag61.t (hag54.t (hag47.t (hag40.t (hag33.t (hag27.t (hag20.t tp0)))))))) (hag69.e (hag61.t (hag54.t (hag47.t (hag40.t (hag33.t (hag27.t (hag20.t tp0))))))) (hag61.e (hag54.t (hag47.t (hag40.t (hag33.t (hag27.t (hag20.t tp0)))))) (hag54.e (hag47.t (hag40.t (hag33.t (hag27.t (hag20.t tp0))))) (hag47.e (hag40.t (hag33.t (hag27.t (hag20.t tp0)))) (hag40.e (hag33.t (hag27.t (hag20.t tp0))) (hag33.e (hag27.t (hag20.t tp0)) (hag27.e (hag20.t tp0) (hag20.e tp0 rfl)))))))))))))))))))))))] <;> rfl))
            · replace hf := ifF c203 hf
              refine lv_aload_n hx hb dX10_init_104 rfl (lv_at hl 2 rfl) ?_
              replace hf := obE hf
              obtain ⟨j204, qj204, hf⟩ := hf
              have tj204 := x_rt hW qj204 16 ⟨by decide, rfl⟩
              refine x_getr 907 (ci := 9) (C := RX10) (T := TX10) (N := 11) 7 hC hin10 hW (hag198.t (hag191.t (hag179.t (hag172.t (hag160.t (hag153.t (hag141.t (hag134.t (hag122.t (hag115.t (hag105.t (hag98.t (hag91.t (hag84.t (hag77.t (hag69.t (hag61.t (hag54.t (hag47.t (hag40.t (hag33.t (hag27.t (hag20.t tp0))))))))))))))))))))))) (hag198.e (hag191.t (hag179.t (hag172.t (hag160.t (hag153.t (hag141.t (hag134.t (hag122.t (hag115.t (hag105.t (hag98.t (hag91.t (hag84.t (hag77.t (hag69.t (hag61.t (hag54.t (hag47.t (hag40.t (hag33.t (hag27.t (hag20.t tp0)))))))))))))))))))))) (hag191.e (hag179.t (hag172.t (hag160.t (hag153.t (hag141.t (hag134.t (hag122.t (hag115.t (hag105.t (hag98.t (hag91.t (hag84.t (hag77.t (hag69.t (hag61.t (hag54.t (hag47.t (hag40.t (hag33.t (hag27.t (hag20.t tp0))))))))))))))))))))) (hag179.e (hag172.t (hag160.t (hag153.t (hag141.t (hag134.t (hag122.t (hag115.t (hag105.t (hag98.t (hag91.t (hag84.t (hag77.t (hag69.t (hag61.t (hag54.t (hag47.t (hag40.t (hag33.t (hag27.t (hag20.t tp0)))))))))))))))))))) (hag172.e (hag160.t (hag153.t (hag141.t (hag134.t (hag122.t (hag115.t (hag105.t (hag98.t (hag91.t (hag84.t (hag77.t (hag69.t (hag61.t (hag54.t (hag47.t (hag40.t (hag33.t (hag27.t (hag20.t tp0))))))))))))))))))) (hag160.e (hag153.t (hag141.t (hag134.t (hag122.t (hag115.t (hag105.t (hag98.t (hag91.t (hag84.t (hag77.t (hag69.t (hag61.t (hag54.t (hag47.t (hag40.t (hag33.t (hag27.t (hag20.t tp0)))))))))))))))))) (hag153.e (hag141.t (hag134.t (hag122.t (hag115.t (hag105.t (hag98.t (hag91.t (hag84.t (hag77.t (hag69.t (hag61.t (hag54.t (hag47.t (hag40.t (hag33.t (hag27.t (hag20.t tp0))))))))))))))))) (hag141.e (hag134.t (hag122.t (hag115.t (hag105.t (hag98.t (hag91.t (hag84.t (hag77.t (hag69.t (hag61.t (hag54.t (hag47.t (hag40.t (hag33.t (hag27.t (hag20.t tp0)))))))))))))))) (hag134.e (hag122.t (hag115.t (hag105.t (hag98.t (hag91.t (hag84.t (hag77.t (hag69.t (hag61.t (hag54.t (hag47.t (hag40.t (hag33.t (hag27.t (hag20.t tp0))))))))))))))) (hag122.e (hag115.t (hag105.t (hag98.t (hag91.t (hag84.t (hag77.t (hag69.t (hag61.t (hag54.t (hag47.t (hag40.t (hag33.t (hag27.t (hag20.t tp0)))))))))))))) (hag115.e (hag105.t (hag98.t (hag91.t (hag84.t (hag77.t (hag69.t (hag61.t (hag54.t (hag47.t (hag40.t (hag33.t (hag27.t (hag20.t tp0))))))))))))) (hag105.e (hag98.t (hag91.t (hag84.t (hag77.t (hag69.t (hag61.t (hag54.t (hag47.t (hag40.t (hag33.t (hag27.t (hag20.t tp0)))))))))))) (hag98.e (hag91.t (hag84.t (hag77.t (hag69.t (hag61.t (hag54.t (hag47.t (hag40.t (hag33.t (hag27.t (hag20.t tp0))))))))))) (hag91.e (hag84.t (hag77.t (hag69.t (hag61.t (hag54.t (hag47.t (hag40.t (hag33.t (hag27.t (hag20.t tp0)))))))))) (hag84.e (hag77.t (hag69.t (hag61.t (hag54.t (hag47.t (hag40.t (hag33.t (hag27.t (hag20.t tp0))))))))) (hag77.e (hag69.t (hag61.t (hag54.t (hag47.t (hag40.t (hag33.t (hag27.t (hag20.t tp0)))))))) (hag69.e (hag61.t (hag54.t (hag47.t (hag40.t (hag33.t (hag27.t (hag20.t tp0))))))) (hag61.e (hag54.t (hag47.t (hag40.t (hag33.t (hag27.t (hag20.t tp0)))))) (hag54.e (hag47.t (hag40.t (hag33.t (hag27.t (hag20.t tp0))))) (hag47.e (hag40.t (hag33.t (hag27.t (hag20.t tp0)))) (hag40.e (hag33.t (hag27.t (hag20.t tp0))) (hag33.e (hag27.t (hag20.t tp0)) (hag27.e (hag20.t tp0) (hag20.e tp0 rfl))))))))))))))))))))))) rfl ⟨by decide, by decide, rfl, rfl⟩ rfl w_31 dX10_init_105 qj204 ?_
              refine lv_iload_n hx hb dX10_init_108 rfl (lv_at hl 0 rfl) ?_
              refine x_new (ci := 7) (C := RX8) (T := TX8) (N := 16) hC hin8 tyX8_ok hW hS hA ⟨rfl, by decide, by decide⟩ (by decide +kernel) w_24 w_25 w_26 (Nat.le_of_ble_eq_true rfl) (Nat.le_of_ble_eq_true rfl) dX10_init_109 (fun q205 ad206 K207 S208 H eS208 hag210 eqq205 ekq205 hW hS => ?_)
              replace hf := ltE hf S208 eS208
              obtain ⟨n209, en209⟩ : ∃ z, z = n195 + 1 := ⟨_, rfl⟩
              rw [← en209] at hag210 hW
              replace hf := ltE hf n209 en209
              have tq205 : n195 < n209 ∧ K207 n195 = 7 := ⟨by omega, ekq205⟩
              refine W.widen (k := 175) (n := 68082) (Nat.le_of_ble_eq_true rfl) (Nat.le_of_ble_eq_true rfl) ?_
              refine lv_dup hx hb dX10_init_112 rfl ?_
              refine lv_aload_n hx hb dX10_init_113 rfl (lv_at hl 1 rfl) ?_
              replace hf := obE hf
              obtain ⟨z211, hz211, hf⟩ := hf
              obtain ⟨S212, n214⟩ := z211
              replace hf := ltE (ltE hf S212 rfl) n214 rfl
              refine x_acallI (As := [.ref (ad206 n)]) (rest := [.ref (q205), .int x201, .ref (ad196 j204)]) (S1 := S212) (n1 := n214) (o := (fun _ => none)) (P := (fun _ => True)) hC hl.1 hW hS hGs hA (c_X8_init l g ad206 n209 K207 H.size F S208 n195 n tq205 (hag210.t (hag198.t (hag191.t (hag179.t (hag172.t (hag160.t (hag153.t (hag141.t (hag134.t (hag122.t (hag115.t (hag105.t (hag98.t (hag91.t (hag84.t (hag77.t (hag69.t (hag61.t (hag54.t (hag47.t (hag40.t (hag33.t (hag27.t tq15))))))))))))))))))))))) S212 n214 hz211) (cwI 1 hts gX10_init_X8_init rfl rfl rfl w_26 w_27 w_28 rfl (by decide +kernel) ⟨Nat.le_of_ble_eq_true rfl, Nat.le_of_ble_eq_true rfl⟩) rfl (by rw [(hag210.e (hag198.t (hag191.t (hag179.t (hag172.t (hag160.t (hag153.t (hag141.t (hag134.t (hag122.t (hag115.t (hag105.t (hag98.t (hag91.t (hag84.t (hag77.t (hag69.t (hag61.t (hag54.t (hag47.t (hag40.t (hag33.t (hag27.t tq15)))))))))))))))))))))) (hag198.e (hag191.t (hag179.t (hag172.t (hag160.t (hag153.t (hag141.t (hag134.t (hag122.t (hag115.t (hag105.t (hag98.t (hag91.t (hag84.t (hag77.t (hag69.t (hag61.t (hag54.t (hag47.t (hag40.t (hag33.t (hag27.t tq15))))))))))))))))))))) (hag191.e (hag179.t (hag172.t (hag160.t (hag153.t (hag141.t (hag134.t (hag122.t (hag115.t (hag105.t (hag98.t (hag91.t (hag84.t (hag77.t (hag69.t (hag61.t (hag54.t (hag47.t (hag40.t (hag33.t (hag27.t tq15)))))))))))))))))))) (hag179.e (hag172.t (hag160.t (hag153.t (hag141.t (hag134.t (hag122.t (hag115.t (hag105.t (hag98.t (hag91.t (hag84.t (hag77.t (hag69.t (hag61.t (hag54.t (hag47.t (hag40.t (hag33.t (hag27.t tq15))))))))))))))))))) (hag172.e (hag160.t (hag153.t (hag141.t (hag134.t (hag122.t (hag115.t (hag105.t (hag98.t (hag91.t (hag84.t (hag77.t (hag69.t (hag61.t (hag54.t (hag47.t (hag40.t (hag33.t (hag27.t tq15)))))))))))))))))) (hag160.e (hag153.t (hag141.t (hag134.t (hag122.t (hag115.t (hag105.t (hag98.t (hag91.t (hag84.t (hag77.t (hag69.t (hag61.t (hag54.t (hag47.t (hag40.t (hag33.t (hag27.t tq15))))))))))))))))) (hag153.e (hag141.t (hag134.t (hag122.t (hag115.t (hag105.t (hag98.t (hag91.t (hag84.t (hag77.t (hag69.t (hag61.t (hag54.t (hag47.t (hag40.t (hag33.t (hag27.t tq15)))))))))))))))) (hag141.e (hag134.t (hag122.t (hag115.t (hag105.t (hag98.t (hag91.t (hag84.t (hag77.t (hag69.t (hag61.t (hag54.t (hag47.t (hag40.t (hag33.t (hag27.t tq15))))))))))))))) (hag134.e (hag122.t (hag115.t (hag105.t (hag98.t (hag91.t (hag84.t (hag77.t (hag69.t (hag61.t (hag54.t (hag47.t (hag40.t (hag33.t (hag27.t tq15)))))))))))))) (hag122.e (hag115.t (hag105.t (hag98.t (hag91.t (hag84.t (hag77.t (hag69.t (hag61.t (hag54.t (hag47.t (hag40.t (hag33.t (hag27.t tq15))))))))))))) (hag115.e (hag105.t (hag98.t (hag91.t (hag84.t (hag77.t (hag69.t (hag61.t (hag54.t (hag47.t (hag40.t (hag33.t (hag27.t tq15)))))))))))) (hag105.e (hag98.t (hag91.t (hag84.t (hag77.t (hag69.t (hag61.t (hag54.t (hag47.t (hag40.t (hag33.t (hag27.t tq15))))))))))) (hag98.e (hag91.t (hag84.t (hag77.t (hag69.t (hag61.t (hag54.t (hag47.t (hag40.t (hag33.t (hag27.t tq15)))))))))) (hag91.e (hag84.t (hag77.t (hag69.t (hag61.t (hag54.t (hag47.t (hag40.t (hag33.t (hag27.t tq15))))))))) (hag84.e (hag77.t (hag69.t (hag61.t (hag54.t (hag47.t (hag40.t (hag33.t (hag27.t tq15)))))))) (hag77.e (hag69.t (hag61.t (hag54.t (hag47.t (hag40.t (hag33.t (hag27.t tq15))))))) (hag69.e (hag61.t (hag54.t (hag47.t (hag40.t (hag33.t (hag27.t tq15)))))) (hag61.e (hag54.t (hag47.t (hag40.t (hag33.t (hag27.t tq15))))) (hag54.e (hag47.t (hag40.t (hag33.t (hag27.t tq15)))) (hag47.e (hag40.t (hag33.t (hag27.t tq15))) (hag40.e (hag33.t (hag27.t tq15)) (hag33.e (hag27.t tq15) (hag27.e tq15 eqq15))))))))))))))))))))))), eqq205] <;> rfl) (Nat.le_of_ble_eq_true rfl) dX10_init_114 ⟨Nat.le_of_ble_eq_true rfl, Nat.le_of_ble_eq_true rfl⟩ (fun ad215 K216 H locs hag217 hPz211 hW hS => ?_)
              refine W.widen (k := 195) (n := 77184) (Nat.le_of_ble_eq_true rfl) (Nat.le_of_ble_eq_true rfl) ?_
              refine W.eq (g2 := F0 m 117 ls [.ref (q205), .int x201, .ref (ad196 j204)]) rfl ?_
              replace hf := ckiE hf
              obtain ⟨h218, hf⟩ := hf
              refine x_aast (C := RX8) (T := TX8) (N := 16) (t0 := 5) hC hW hS (hag217.t (hag210.t tj204)) (hag217.e (hag210.t tj204) (hag210.e tj204 rfl)) (hag217.t tq205) (hag217.e tq205 eqq205) ⟨by decide, rfl, rfl, rfl, by decide⟩ h218 dX10_init_117 (fun S219 H locs eS219 hW hS => ?_)
              replace hf := ltE hf S219 eS219
              obtain ⟨x220, ex220⟩ : ∃ z : Int32, z = x201 + 1 := ⟨_, rfl⟩
              replace hf := ltE hf x220 ex220
              refine lv_iinc (v := x220) (lv' := [(2, .int x220), (1, .ref (q15)), (0, .ref (ad p0))]) hx hb dX10_init_118 hl (k := 0) rfl (by rw [ex220]; rfl) (by decide) rfl (fun ls hl => ?_)
              refine lv_goto (tgt := 95) hx hb dX10_init_121 (by decide) ?_
              refine lv_iload_n hx hb dX10_init_95 rfl (lv_at hl 0 rfl) ?_
              refine lv_aload_n hx hb dX10_init_96 rfl (lv_at hl 2 rfl) ?_
              replace hf := obE hf
              obtain ⟨j221, qj221, hf⟩ := hf
              have tj221 := x_rt hW qj221 16 ⟨by decide, rfl⟩
              refine x_getr 907 (ci := 9) (C := RX10) (T := TX10) (N := 11) 7 hC hin10 hW (hag217.t (hag210.t (hag198.t (hag191.t (hag179.t (hag172.t (hag160.t (hag153.t (hag141.t (hag134.t (hag122.t (hag115.t (hag105.t (hag98.t (hag91.t (hag84.t (hag77.t (hag69.t (hag61.t (hag54.t (hag47.t (hag40.t (hag33.t (hag27.t (hag20.t tp0))))))))))))))))))))))))) (hag217.e (hag210.t (hag198.t (hag191.t (hag179.t (hag172.t (hag160.t (hag153.t (hag141.t (hag134.t (hag122.t (hag115.t (hag105.t (hag98.t (hag91.t (hag84.t (hag77.t (hag69.t (hag61.t (hag54.t (hag47.t (hag40.t (hag33.t (hag27.t (hag20.t tp0)))))))))))))))))))))))) (hag210.e (hag198.t (hag191.t (hag179.t (hag172.t (hag160.t (hag153.t (hag141.t (hag134.t (hag122.t (hag115.t (hag105.t (hag98.t (hag91.t (hag84.t (hag77.t (hag69.t (hag61.t (hag54.t (hag47.t (hag40.t (hag33.t (hag27.t (hag20.t tp0))))))))))))))))))))))) (hag198.e (hag191.t (hag179.t (hag172.t (hag160.t (hag153.t (hag141.t (hag134.t (hag122.t (hag115.t (hag105.t (hag98.t (hag91.t (hag84.t (hag77.t (hag69.t (hag61.t (hag54.t (hag47.t (hag40.t (hag33.t (hag27.t (hag20.t tp0)))))))))))))))))))))) (hag191.e (hag179.t (hag172.t (hag160.t (hag153.t (hag141.t (hag134.t (hag122.t (hag115.t (hag105.t (hag98.t (hag91.t (hag84.t (hag77.t (hag69.t (hag61.t (hag54.t (hag47.t (hag40.t (hag33.t (hag27.t (hag20.t tp0))))))))))))))))))))) (hag179.e (hag172.t (hag160.t (hag153.t (hag141.t (hag134.t (hag122.t (hag115.t (hag105.t (hag98.t (hag91.t (hag84.t (hag77.t (hag69.t (hag61.t (hag54.t (hag47.t (hag40.t (hag33.t (hag27.t (hag20.t tp0)))))))))))))))))))) (hag172.e (hag160.t (hag153.t (hag141.t (hag134.t (hag122.t (hag115.t (hag105.t (hag98.t (hag91.t (hag84.t (hag77.t (hag69.t (hag61.t (hag54.t (hag47.t (hag40.t (hag33.t (hag27.t (hag20.t tp0))))))))))))))))))) (hag160.e (hag153.t (hag141.t (hag134.t (hag122.t (hag115.t (hag105.t (hag98.t (hag91.t (hag84.t (hag77.t (hag69.t (hag61.t (hag54.t (hag47.t (hag40.t (hag33.t (hag27.t (hag20.t tp0)))))))))))))))))) (hag153.e (hag141.t (hag134.t (hag122.t (hag115.t (hag105.t (hag98.t (hag91.t (hag84.t (hag77.t (hag69.t (hag61.t (hag54.t (hag47.t (hag40.t (hag33.t (hag27.t (hag20.t tp0))))))))))))))))) (hag141.e (hag134.t (hag122.t (hag115.t (hag105.t (hag98.t (hag91.t (hag84.t (hag77.t (hag69.t (hag61.t (hag54.t (hag47.t (hag40.t (hag33.t (hag27.t (hag20.t tp0)))))))))))))))) (hag134.e (hag122.t (hag115.t (hag105.t (hag98.t (hag91.t (hag84.t (hag77.t (hag69.t (hag61.t (hag54.t (hag47.t (hag40.t (hag33.t (hag27.t (hag20.t tp0))))))))))))))) (hag122.e (hag115.t (hag105.t (hag98.t (hag91.t (hag84.t (hag77.t (hag69.t (hag61.t (hag54.t (hag47.t (hag40.t (hag33.t (hag27.t (hag20.t tp0)))))))))))))) (hag115.e (hag105.t (hag98.t (hag91.t (hag84.t (hag77.t (hag69.t (hag61.t (hag54.t (hag47.t (hag40.t (hag33.t (hag27.t (hag20.t tp0))))))))))))) (hag105.e (hag98.t (hag91.t (hag84.t (hag77.t (hag69.t (hag61.t (hag54.t (hag47.t (hag40.t (hag33.t (hag27.t (hag20.t tp0)))))))))))) (hag98.e (hag91.t (hag84.t (hag77.t (hag69.t (hag61.t (hag54.t (hag47.t (hag40.t (hag33.t (hag27.t (hag20.t tp0))))))))))) (hag91.e (hag84.t (hag77.t (hag69.t (hag61.t (hag54.t (hag47.t (hag40.t (hag33.t (hag27.t (hag20.t tp0)))))))))) (hag84.e (hag77.t (hag69.t (hag61.t (hag54.t (hag47.t (hag40.t (hag33.t (hag27.t (hag20.t tp0))))))))) (hag77.e (hag69.t (hag61.t (hag54.t (hag47.t (hag40.t (hag33.t (hag27.t (hag20.t tp0)))))))) (hag69.e (hag61.t (hag54.t (hag47.t (hag40.t (hag33.t (hag27.t (hag20.t tp0))))))) (hag61.e (hag54.t (hag47.t (hag40.t (hag33.t (hag27.t (hag20.t tp0)))))) (hag54.e (hag47.t (hag40.t (hag33.t (hag27.t (hag20.t tp0))))) (hag47.e (hag40.t (hag33.t (hag27.t (hag20.t tp0)))) (hag40.e (hag33.t (hag27.t (hag20.t tp0))) (hag33.e (hag27.t (hag20.t tp0)) (hag27.e (hag20.t tp0) (hag20.e tp0 rfl))))))))))))))))))))))))) rfl ⟨by decide, by decide, rfl, rfl⟩ rfl w_31 dX10_init_97 qj221 ?_
              refine x_alen hC hW tj221 rfl ⟨by decide, by decide⟩ dX10_init_100 ?_
              refine lv_icmp_ge (tgt := 124) hx hb dX10_init_101 (by decide) (fun c222 => ?_) (fun c222 => ?_)
              · replace hf := ifT c222 hf
                exact L800124 ad215 K216 n214 (((((((((((((((((((((((((Ag.rf.tr hag20).tr hag27).tr hag33).tr hag40).tr hag47).tr hag54).tr hag61).tr hag69).tr hag77).tr hag84).tr hag91).tr hag98).tr hag105).tr hag115).tr hag122).tr hag134).tr hag141).tr hag153).tr hag160).tr hag172).tr hag179).tr hag191).tr hag198).tr hag210).tr hag217) S219 p0 (hag217.t (hag210.t (hag198.t (hag191.t (hag179.t (hag172.t (hag160.t (hag153.t (hag141.t (hag134.t (hag122.t (hag115.t (hag105.t (hag98.t (hag91.t (hag84.t (hag77.t (hag69.t (hag61.t (hag54.t (hag47.t (hag40.t (hag33.t (hag27.t (hag20.t tp0))))))))))))))))))))))))) _ _ _ hf hW hS (lv_sub hl [2] (by rw [(hag217.e (hag210.t (hag198.t (hag191.t (hag179.t (hag172.t (hag160.t (hag153.t (hag141.t (hag134.t (hag122.t (hag115.t (hag105.t (hag98.t (hag91.t (hag84.t (hag77.t (hag69.t (hag61.t (hag54.t (hag47.t (hag40.t (hag33.t (hag27.t (hag20.t tp0)))))))))))))))))))))))) (hag210.e (hag198.t (hag191.t (hag179.t (hag172.t (hag160.t (hag153.t (hag141.t (hag134.t (hag122.t (hag115.t (hag105.t (hag98.t (hag91.t (hag84.t (hag77.t (hag69.t (hag61.t (hag54.t (hag47.t (hag40.t (hag33.t (hag27.t (hag20.t tp0))))))))))))))))))))))) (hag198.e (hag191.t (hag179.t (hag172.t (hag160.t (hag153.t (hag141.t (hag134.t (hag122.t (hag115.t (hag105.t (hag98.t (hag91.t (hag84.t (hag77.t (hag69.t (hag61.t (hag54.t (hag47.t (hag40.t (hag33.t (hag27.t (hag20.t tp0)))))))))))))))))))))) (hag191.e (hag179.t (hag172.t (hag160.t (hag153.t (hag141.t (hag134.t (hag122.t (hag115.t (hag105.t (hag98.t (hag91.t (hag84.t (hag77.t (hag69.t (hag61.t (hag54.t (hag47.t (hag40.t (hag33.t (hag27.t (hag20.t tp0))))))))))))))))))))) (hag179.e (hag172.t (hag160.t (hag153.t (hag141.t (hag134.t (hag122.t (hag115.t (hag105.t (hag98.t (hag91.t (hag84.t (hag77.t (hag69.t (hag61.t (hag54.t (hag47.t (hag40.t (hag33.t (hag27.t (hag20.t tp0)))))))))))))))))))) (hag172.e (hag160.t (hag153.t (hag141.t (hag134.t (hag122.t (hag115.t (hag105.t (hag98.t (hag91.t (hag84.t (hag77.t (hag69.t (hag61.t (hag54.t (hag47.t (hag40.t (hag33.t (hag27.t (hag20.t tp0))))))))))))))))))) (hag160.e (hag153.t (hag141.t (hag134.t (hag122.t (hag115.t (hag105.t (hag98.t (hag91.t (hag84.t (hag77.t (hag69.t (hag61.t (hag54.t (hag47.t (hag40.t (hag33.t (hag27.t (hag20.t tp0)))))))))))))))))) (hag153.e (hag141.t (hag134.t (hag122.t (hag115.t (hag105.t (hag98.t (hag91.t (hag84.t (hag77.t (hag69.t (hag61.t (hag54.t (hag47.t (hag40.t (hag33.t (hag27.t (hag20.t tp0))))))))))))))))) (hag141.e (hag134.t (hag122.t (hag115.t (hag105.t (hag98.t (hag91.t (hag84.t (hag77.t (hag69.t (hag61.t (hag54.t (hag47.t (hag40.t (hag33.t (hag27.t (hag20.t tp0)))))))))))))))) (hag134.e (hag122.t (hag115.t (hag105.t (hag98.t (hag91.t (hag84.t (hag77.t (hag69.t (hag61.t (hag54.t (hag47.t (hag40.t (hag33.t (hag27.t (hag20.t tp0))))))))))))))) (hag122.e (hag115.t (hag105.t (hag98.t (hag91.t (hag84.t (hag77.t (hag69.t (hag61.t (hag54.t (hag47.t (hag40.t (hag33.t (hag27.t (hag20.t tp0)))))))))))))) (hag115.e (hag105.t (hag98.t (hag91.t (hag84.t (hag77.t (hag69.t (hag61.t (hag54.t (hag47.t (hag40.t (hag33.t (hag27.t (hag20.t tp0))))))))))))) (hag105.e (hag98.t (hag91.t (hag84.t (hag77.t (hag69.t (hag61.t (hag54.t (hag47.t (hag40.t (hag33.t (hag27.t (hag20.t tp0)))))))))))) (hag98.e (hag91.t (hag84.t (hag77.t (hag69.t (hag61.t (hag54.t (hag47.t (hag40.t (hag33.t (hag27.t (hag20.t tp0))))))))))) (hag91.e (hag84.t (hag77.t (hag69.t (hag61.t (hag54.t (hag47.t (hag40.t (hag33.t (hag27.t (hag20.t tp0)))))))))) (hag84.e (hag77.t (hag69.t (hag61.t (hag54.t (hag47.t (hag40.t (hag33.t (hag27.t (hag20.t tp0))))))))) (hag77.e (hag69.t (hag61.t (hag54.t (hag47.t (hag40.t (hag33.t (hag27.t (hag20.t tp0)))))))) (hag69.e (hag61.t (hag54.t (hag47.t (hag40.t (hag33.t (hag27.t (hag20.t tp0))))))) (hag61.e (hag54.t (hag47.t (hag40.t (hag33.t (hag27.t (hag20.t tp0)))))) (hag54.e (hag47.t (hag40.t (hag33.t (hag27.t (hag20.t tp0))))) (hag47.e (hag40.t (hag33.t (hag27.t (hag20.t tp0)))) (hag40.e (hag33.t (hag27.t (hag20.t tp0))) (hag33.e (hag27.t (hag20.t tp0)) (hag27.e (hag20.t tp0) (hag20.e tp0 rfl)))))))))))))))))))))))))] <;> rfl))
              · replace hf := ifF c222 hf
                cases hf
set_option maxHeartbeats 4000000 in
set_option maxRecDepth 100000 in
theorem c_X0_add (l : Launch) (g : GP) (ad : Nat → Nat) (n : Nat) (K : Nat → Nat) (sz F : Nat) (S0 : St) (p0 : Nat) (p1 : Int32) (tp0 : p0 < n ∧ K p0 = 0) (S9 : St) (hf : f_X0_add F S0 p0 p1 = some S9) : Met l yX0_add wsX0_add { frames := 0, cells := 0, slots := 0, locals := 0 } (va_Pc [.ref (ad p0), .int p1] (PB g ad n K S0 sz)) (QR none (QB g ad n K S9 (dA ad n sz) (True)) (dA ad n sz)) 0 0 (dA ad n sz) := by
  refine Met.ofW (cc := cX0_add) (maxL := 2) (ret := none) (by decide) rfl ?_
  intro p e s m args below meth c s₁ B hml hv
  obtain ⟨rfl, hsz, hW, hK, hGs⟩ := x_start hv
  subst hsz
  have hx := B.exec
  have hb := B.bytes
  have hr := B.returns
  have hts := atoms_spec (ws := wsX0_add) B.pre
  have hown : s.vm.findClass RX0 = some m.cls := findClass_of_methodNamed B.named
  have hlk := B.notSynchronized
  have hC : Cx g p s m _ c cX0_add RX0 wsX0_add 2 := ⟨hx, hb, hml, hown, hts, hK⟩
  have hA : ∀ q : Nat, s.heap.size ≤ q → dA ad n s.heap.size q := fun q h => Or.inr h
  have hS : va_S (dA ad n s.heap.size) s.heap s.heap [] := va_S.rf
  have hl := lv_entry ([.ref (ad p0), .int p1]) (n := 2) (Nat.le_of_ble_eq_true rfl)
  rw [lg_entry_eq]
  generalize (lg_sl ([.ref (ad p0), .int p1]) ++ List.replicate (2 - (lg_sl ([.ref (ad p0), .int p1])).length) Slot.unset).toArray = ls at hl ⊢
  have hl : lv_has ls 2 [(0, .ref (ad p0)), (1, .int p1)] := hl
  have hin0 : ∀ w ∈ wsX00, w ∈ wsX0_add := by decide +kernel
  have w_0 := hts (.fieldLink RX0 21 "MailSpool$Bytes" "size" "I") (by decide +kernel)
  have w_1 := hts (.fieldLink RX0 15 "MailSpool$Bytes" "row" "[B") (by decide +kernel)
  have hGE := hGs.2.2.2.2.2.2.1
  have hGM := hGs.2.2.2.2.2.2.2.1
  unfold f_X0_add at hf
  refine lv_aload_n hx hb dX0_add_0 rfl (lv_at hl 0 rfl) ?_
  refine x_geti 1 (ci := 0) (C := RX0) (T := TX0) (N := 2) 1 hC hin0 hW tp0 rfl rfl ⟨by decide, by decide, rfl, rfl⟩ rfl w_0 dX0_add_1 ?_
  refine lv_if_lt (tgt := 40) hx hb dX0_add_4 (by decide) (fun c1 => ?_) (fun c1 => ?_)
  · replace hf := ifT c1 hf
    have e1 := Option.some.inj hf
    subst e1
    exact W.vret hx hb hr (fun t ht hWm => ⟨⟨rfl, by unfold QB; rw [ht]; exact ⟨hW, trivial⟩⟩, hS.F ht⟩) hS.2.2 dX0_add_40 hlk
  · replace hf := ifF c1 hf
    refine lv_aload_n hx hb dX0_add_7 rfl (lv_at hl 0 rfl) ?_
    refine x_geti 1 (ci := 0) (C := RX0) (T := TX0) (N := 2) 1 hC hin0 hW tp0 rfl rfl ⟨by decide, by decide, rfl, rfl⟩ rfl w_0 dX0_add_8 ?_
    refine lv_aload_n hx hb dX0_add_11 rfl (lv_at hl 0 rfl) ?_
    replace hf := obE hf
    obtain ⟨j2, qj2, hf⟩ := hf
    have tj2 := x_rt hW qj2 11 ⟨by decide, rfl⟩
    refine x_getr 0 (ci := 0) (C := RX0) (T := TX0) (N := 2) 0 hC hin0 hW tp0 rfl rfl ⟨by decide, by decide, rfl, rfl⟩ rfl w_1 dX0_add_12 qj2 ?_
    refine x_alen hC hW tj2 rfl ⟨by decide, by decide⟩ dX0_add_15 ?_
    refine lv_icmp_ge (tgt := 40) hx hb dX0_add_16 (by decide) (fun c3 => ?_) (fun c3 => ?_)
    · replace hf := ifT c3 hf
      have e1 := Option.some.inj hf
      subst e1
      exact W.vret hx hb hr (fun t ht hWm => ⟨⟨rfl, by unfold QB; rw [ht]; exact ⟨hW, trivial⟩⟩, hS.F ht⟩) hS.2.2 dX0_add_40 hlk
    · replace hf := ifF c3 hf
      refine lv_aload_n hx hb dX0_add_19 rfl (lv_at hl 0 rfl) ?_
      replace hf := obE hf
      obtain ⟨j4, qj4, hf⟩ := hf
      have tj4 := x_rt hW qj4 11 ⟨by decide, rfl⟩
      refine x_getr 0 (ci := 0) (C := RX0) (T := TX0) (N := 2) 0 hC hin0 hW tp0 rfl rfl ⟨by decide, by decide, rfl, rfl⟩ rfl w_1 dX0_add_20 qj4 ?_
      refine lv_aload_n hx hb dX0_add_23 rfl (lv_at hl 0 rfl) ?_
      refine x_geti 1 (ci := 0) (C := RX0) (T := TX0) (N := 2) 1 hC hin0 hW tp0 rfl rfl ⟨by decide, by decide, rfl, rfl⟩ rfl w_0 dX0_add_24 ?_
      refine lv_iload_n hx hb dX0_add_27 rfl (lv_at hl 1 rfl) ?_
      refine lv_i2b (v := p1.toInt8.toInt32) hx hb dX0_add_28 rfl ?_
      replace hf := ckiE hf
      obtain ⟨h5, hf⟩ := hf
      refine x_bast hC hW hS tj4 rfl rfl h5 dX0_add_29 (fun S6 H locs eS6 hW hS => ?_)
      replace hf := ltE hf S6 eS6
      refine lv_aload_n hx hb dX0_add_30 rfl (lv_at hl 0 rfl) ?_
      refine lv_dup hx hb dX0_add_31 rfl ?_
      refine x_geti 1 (ci := 0) (C := RX0) (T := TX0) (N := 2) 1 hC hin0 hW tp0 rfl rfl ⟨by decide, by decide, rfl, rfl⟩ rfl w_0 dX0_add_32 ?_
      refine lv_iconst (v := 1) hx hb dX0_add_35 (by decide) ?_
      refine lv_iadd hx hb dX0_add_36 ?_
      refine x_puti 1 (ci := 0) (C := RX0) (T := TX0) (N := 2) (v := (si S6 1 p0) + 1) (ty := .int) 1 hC hin0 tyX0_ok nmX0 hW hS tp0 rfl rfl ⟨by decide, by decide, rfl, rfl⟩ rfl w_0 rfl (by decide +kernel) rfl rfl dX0_add_37 (fun S7 H locs eS7 hW hS => ?_)
      replace hf := ltE hf S7 eS7
      have e1 := Option.some.inj hf
      subst e1
      exact W.vret hx hb hr (fun t ht hWm => ⟨⟨rfl, by unfold QB; rw [ht]; exact ⟨hW, trivial⟩⟩, hS.F ht⟩) hS.2.2 dX0_add_40 hlk
set_option maxHeartbeats 4000000 in
set_option maxRecDepth 100000 in
theorem c_X0_addFour (l : Launch) (g : GP) (ad : Nat → Nat) (n : Nat) (K : Nat → Nat) (sz F : Nat) (S0 : St) (p0 : Nat) (p1 : Int32) (tp0 : p0 < n ∧ K p0 = 0) (S9 : St) (hf : f_X0_addFour F S0 p0 p1 = some S9) : Met l yX0_addFour wsX0_addFour { frames := 1, cells := 0, slots := 0, locals := 21 } (va_Pc [.ref (ad p0), .int p1] (PB g ad n K S0 sz)) (QR none (QB g ad n K S9 (dA ad n sz) (True)) (dA ad n sz)) 0 0 (dA ad n sz) := by
  refine Met.ofW (cc := cX0_addFour) (maxL := 2) (ret := none) (by decide) rfl ?_
  intro p e s m args below meth c s₁ B hml hv
  obtain ⟨rfl, hsz, hW, hK, hGs⟩ := x_start hv
  subst hsz
  have hx := B.exec
  have hb := B.bytes
  have hr := B.returns
  have hts := atoms_spec (ws := wsX0_addFour) B.pre
  have hown : s.vm.findClass RX0 = some m.cls := findClass_of_methodNamed B.named
  have hlk := B.notSynchronized
  have hC : Cx g p s m _ c cX0_addFour RX0 wsX0_addFour 2 := ⟨hx, hb, hml, hown, hts, hK⟩
  have hA : ∀ q : Nat, s.heap.size ≤ q → dA ad n s.heap.size q := fun q h => Or.inr h
  have hS : va_S (dA ad n s.heap.size) s.heap s.heap [] := va_S.rf
  have hl := lv_entry ([.ref (ad p0), .int p1]) (n := 2) (Nat.le_of_ble_eq_true rfl)
  rw [lg_entry_eq]
  generalize (lg_sl ([.ref (ad p0), .int p1]) ++ List.replicate (2 - (lg_sl ([.ref (ad p0), .int p1])).length) Slot.unset).toArray = ls at hl ⊢
  have hl : lv_has ls 2 [(0, .ref (ad p0)), (1, .int p1)] := hl
  have hGE := hGs.2.2.2.2.2.2.1
  have hGM := hGs.2.2.2.2.2.2.2.1
  unfold f_X0_addFour at hf
  refine lv_aload_n hx hb dX0_addFour_0 rfl (lv_at hl 0 rfl) ?_
  refine lv_iload_n hx hb dX0_addFour_1 rfl (lv_at hl 1 rfl) ?_
  refine lv_bipush (v := 24) hx hb dX0_addFour_2 (by decide) ?_
  refine lv_iushr (v := (p1.toUInt32 >>> ((24 : Int32).toUInt32 &&& Int32.toUInt32 31)).toInt32) hx hb dX0_addFour_4 rfl ?_
  replace hf := obE hf
  obtain ⟨S2, hz1, hf⟩ := hf
  refine x_callV (As := [.int ((p1.toUInt32 >>> ((24 : Int32).toUInt32 &&& Int32.toUInt32 31)).toInt32)]) (rest := []) (o := none) (S1 := S2) hC hl.1 hW hS hGs hA tp0 rfl (show vwCl[0]? = some (RX0, TX0, 2) ∧ 0 < 11 from ⟨rfl, by decide⟩) (c_X0_add l g ad n K s.heap.size F S0 p0 ((p1.toUInt32 >>> ((24 : Int32).toUInt32 &&& Int32.toUInt32 31)).toInt32) tp0 S2 hz1) (cwV 1 hts gX0_addFour_X0_add rfl rfl rfl (by decide +kernel) ⟨Nat.le_of_ble_eq_true rfl, Nat.le_of_ble_eq_true rfl⟩) rfl rfl (Nat.le_of_ble_eq_true rfl) dX0_addFour_5 ⟨Nat.le_of_ble_eq_true rfl, Nat.le_of_ble_eq_true rfl⟩ (fun H locs hPz1 hW hS => ?_)
  refine W.eq (g2 := F0 m 8 ls []) rfl ?_
  refine lv_aload_n hx hb dX0_addFour_8 rfl (lv_at hl 0 rfl) ?_
  refine lv_iload_n hx hb dX0_addFour_9 rfl (lv_at hl 1 rfl) ?_
  refine lv_bipush (v := 16) hx hb dX0_addFour_10 (by decide) ?_
  refine lv_iushr (v := (p1.toUInt32 >>> ((16 : Int32).toUInt32 &&& Int32.toUInt32 31)).toInt32) hx hb dX0_addFour_12 rfl ?_
  replace hf := obE hf
  obtain ⟨S6, hz5, hf⟩ := hf
  refine x_callV (As := [.int ((p1.toUInt32 >>> ((16 : Int32).toUInt32 &&& Int32.toUInt32 31)).toInt32)]) (rest := []) (o := none) (S1 := S6) hC hl.1 hW hS hGs hA tp0 rfl (show vwCl[0]? = some (RX0, TX0, 2) ∧ 0 < 11 from ⟨rfl, by decide⟩) (c_X0_add l g ad n K H.size F S2 p0 ((p1.toUInt32 >>> ((16 : Int32).toUInt32 &&& Int32.toUInt32 31)).toInt32) tp0 S6 hz5) (cwV 1 hts gX0_addFour_X0_add rfl rfl rfl (by decide +kernel) ⟨Nat.le_of_ble_eq_true rfl, Nat.le_of_ble_eq_true rfl⟩) rfl rfl (Nat.le_of_ble_eq_true rfl) dX0_addFour_13 ⟨Nat.le_of_ble_eq_true rfl, Nat.le_of_ble_eq_true rfl⟩ (fun H locs hPz5 hW hS => ?_)
  refine W.eq (g2 := F0 m 16 ls []) rfl ?_
  refine lv_aload_n hx hb dX0_addFour_16 rfl (lv_at hl 0 rfl) ?_
  refine lv_iload_n hx hb dX0_addFour_17 rfl (lv_at hl 1 rfl) ?_
  refine lv_bipush (v := 8) hx hb dX0_addFour_18 (by decide) ?_
  refine lv_iushr (v := (p1.toUInt32 >>> ((8 : Int32).toUInt32 &&& Int32.toUInt32 31)).toInt32) hx hb dX0_addFour_20 rfl ?_
  replace hf := obE hf
  obtain ⟨S10, hz9, hf⟩ := hf
  refine x_callV (As := [.int ((p1.toUInt32 >>> ((8 : Int32).toUInt32 &&& Int32.toUInt32 31)).toInt32)]) (rest := []) (o := none) (S1 := S10) hC hl.1 hW hS hGs hA tp0 rfl (show vwCl[0]? = some (RX0, TX0, 2) ∧ 0 < 11 from ⟨rfl, by decide⟩) (c_X0_add l g ad n K H.size F S6 p0 ((p1.toUInt32 >>> ((8 : Int32).toUInt32 &&& Int32.toUInt32 31)).toInt32) tp0 S10 hz9) (cwV 1 hts gX0_addFour_X0_add rfl rfl rfl (by decide +kernel) ⟨Nat.le_of_ble_eq_true rfl, Nat.le_of_ble_eq_true rfl⟩) rfl rfl (Nat.le_of_ble_eq_true rfl) dX0_addFour_21 ⟨Nat.le_of_ble_eq_true rfl, Nat.le_of_ble_eq_true rfl⟩ (fun H locs hPz9 hW hS => ?_)
  refine W.eq (g2 := F0 m 24 ls []) rfl ?_
  refine lv_aload_n hx hb dX0_addFour_24 rfl (lv_at hl 0 rfl) ?_
  refine lv_iload_n hx hb dX0_addFour_25 rfl (lv_at hl 1 rfl) ?_
  replace hf := obE hf
  obtain ⟨S14, hz13, hf⟩ := hf
  refine x_callV (As := [.int p1]) (rest := []) (o := none) (S1 := S14) hC hl.1 hW hS hGs hA tp0 rfl (show vwCl[0]? = some (RX0, TX0, 2) ∧ 0 < 11 from ⟨rfl, by decide⟩) (c_X0_add l g ad n K H.size F S10 p0 p1 tp0 S14 hz13) (cwV 1 hts gX0_addFour_X0_add rfl rfl rfl (by decide +kernel) ⟨Nat.le_of_ble_eq_true rfl, Nat.le_of_ble_eq_true rfl⟩) rfl rfl (Nat.le_of_ble_eq_true rfl) dX0_addFour_26 ⟨Nat.le_of_ble_eq_true rfl, Nat.le_of_ble_eq_true rfl⟩ (fun H locs hPz13 hW hS => ?_)
  refine W.eq (g2 := F0 m 29 ls []) rfl ?_
  have e1 := Option.some.inj hf
  subst e1
  exact W.vret hx hb hr (fun t ht hWm => ⟨⟨rfl, by unfold QB; rw [ht]; exact ⟨hW, trivial⟩⟩, hS.F ht⟩) hS.2.2 dX0_addFour_29 hlk
set_option maxHeartbeats 4000000 in
set_option maxRecDepth 100000 in
theorem c_X10_append (l : Launch) (hfl : l.stackTraces = false) (g : GP) (ad : Nat → Nat) (n : Nat) (K : Nat → Nat) (sz F : Nat) (S0 : St) (p0 : Nat) (p1 : Int32) (p2 : Int32) (p3 : Int32) (p4 : Int32) (p5 : Int32) (tp0 : p0 < n ∧ K p0 = 9) (o9 : Nat ⊕ Int32) (S9 : St) (hf : f_X10_append F S0 p0 p1 p2 p3 p4 p5 = some (o9, S9)) : vx_Met l yX10_append wsX10_append { frames := 6, cells := 1, slots := 6, locals := 100 } (va_Pc [.ref (ad p0), .int p1, .int p2, .int p3, .int p4, .int p5] (PB g ad n K S0 sz)) (QT o9 (fun r => some (.int r)) (QB g ad n K S9 (dA ad n sz) True) (dA ad n sz)) (XT o9 (QB g ad n K S9 (dA ad n sz) True) (dA ad n sz)) 1 6 (dA ad n sz) := by
  refine vx_ofW (cc := cX10_append) (maxL := 6) (ret := (some .int)) (by decide) rfl ?_
  intro p e s m args below meth c s₁ B hml hno hv
  obtain ⟨rfl, hsz, hW, hK, hGs⟩ := x_start hv
  subst hsz
  have hx := B.exec
  have hb := B.bytes
  have hr := B.returns
  have hts := atoms_spec (ws := wsX10_append) B.pre
  have hown : s.vm.findClass RX10 = some m.cls := findClass_of_methodNamed B.named
  have hlk := B.notSynchronized
  have hC : Cx g p s m _ c cX10_append RX10 wsX10_append 6 := ⟨hx, hb, hml, hown, hts, hK⟩
  have hA : ∀ q : Nat, s.heap.size ≤ q → dA ad n s.heap.size q := fun q h => Or.inr h
  have hS : va_S (dA ad n s.heap.size) s.heap s.heap [] := va_S.rf
  have hl := lv_entry ([.ref (ad p0), .int p1, .int p2, .int p3, .int p4, .int p5]) (n := 6) (Nat.le_of_ble_eq_true rfl)
  rw [lg_entry_eq]
  generalize (lg_sl ([.ref (ad p0), .int p1, .int p2, .int p3, .int p4, .int p5]) ++ List.replicate (6 - (lg_sl ([.ref (ad p0), .int p1, .int p2, .int p3, .int p4, .int p5])).length) Slot.unset).toArray = ls at hl ⊢
  have hl : lv_has ls 6 [(0, .ref (ad p0)), (1, .int p1), (2, .int p2), (3, .int p3), (4, .int p4), (5, .int p5)] := hl
  have hin0 : ∀ w ∈ wsX00, w ∈ wsX10_append := by decide +kernel
  have hin10 : ∀ w ∈ wsX100, w ∈ wsX10_append := by decide +kernel
  have w_0 := hts (.fieldLink RX10 17 "MailSpool" "input" "LMailSpool$Bytes;") (by decide +kernel)
  have w_1 := va_Nw.use (A := (List.toArray [.ref (ad p0), .int p1, .int p2, .int p3, .int p4, .int p5])) rfl (hGs.1 (.fieldLinkNest RX10 57 "MailSpool$Bytes" "size" "I" "MailSpool") (by decide +kernel))
  have w_2 := hts (.classLink RX10 60 "java/lang/IllegalStateException") (by decide +kernel)
  have w_3 := hts (.initialized "java/lang/IllegalStateException") (by decide +kernel)
  have hat1 : ∀ w ∈ (vx_atS RX10 64 (exn 1) exNm).filter goodWord, w.before _ s = true := fun w h => hts w ((by decide +kernel : ∀ w ∈ (vx_atS RX10 64 (exn 1) exNm).filter goodWord, w ∈ wsX10_append) w h)
  have hGE := hGs.2.2.2.2.2.2.1
  have hGM := hGs.2.2.2.2.2.2.2.1
  unfold f_X10_append at hf
  refine lv_aload_n hx hb dX10_append_0 rfl (lv_at hl 0 rfl) ?_
  replace hf := obE hf
  obtain ⟨j1, qj1, hf⟩ := hf
  have tj1 := x_rt hW qj1 0 ⟨by decide, rfl⟩
  refine x_getr 900 (ci := 9) (C := RX10) (T := TX10) (N := 11) 0 hC hin10 hW tp0 rfl rfl ⟨by decide, by decide, rfl, rfl⟩ rfl w_0 dX10_append_1 qj1 ?_
  refine x_getiN 1 (ci := 0) (C := RX0) (T := TX0) (N := 2) 1 hC hin0 hW tj1 rfl rfl ⟨by decide, by decide, rfl, rfl⟩ rfl w_1 dX10_append_4 ?_
  refine lv_bipush (v := 20) hx hb dX10_append_7 (by decide) ?_
  refine lv_iadd hx hb dX10_append_9 ?_
  refine lv_sipush (v := 1200) hx hb dX10_append_10 (by decide) ?_
  refine lv_icmp_le (tgt := 26) hx hb dX10_append_13 (by decide) (fun c2 => ?_) (fun c2 => ?_)
  · replace hf := ifT c2 hf
    refine lv_aload_n hx hb dX10_append_26 rfl (lv_at hl 0 rfl) ?_
    replace hf := obE hf
    obtain ⟨j3, qj3, hf⟩ := hf
    have tj3 := x_rt hW qj3 0 ⟨by decide, rfl⟩
    refine x_getr 900 (ci := 9) (C := RX10) (T := TX10) (N := 11) 0 hC hin10 hW tp0 rfl rfl ⟨by decide, by decide, rfl, rfl⟩ rfl w_0 dX10_append_27 qj3 ?_
    refine lv_iload_n hx hb dX10_append_30 rfl (lv_at hl 1 rfl) ?_
    replace hf := obE hf
    obtain ⟨S5, hz4, hf⟩ := hf
    refine x_callV (As := [.int p1]) (rest := []) (o := none) (S1 := S5) hC hl.1 hW hS hGs hA tj3 rfl (show vwCl[0]? = some (RX0, TX0, 2) ∧ 0 < 11 from ⟨rfl, by decide⟩) (c_X0_addFour l g ad n K s.heap.size F S0 j3 p1 tj3 S5 hz4) (cwV 1 hts gX10_append_X0_addFour rfl rfl rfl (by decide +kernel) ⟨Nat.le_of_ble_eq_true rfl, Nat.le_of_ble_eq_true rfl⟩) rfl rfl (Nat.le_of_ble_eq_true rfl) dX10_append_31 ⟨Nat.le_of_ble_eq_true rfl, Nat.le_of_ble_eq_true rfl⟩ (fun H locs hPz4 hW hS => ?_)
    refine W.eq (g2 := F0 m 34 ls []) rfl ?_
    refine lv_aload_n hx hb dX10_append_34 rfl (lv_at hl 0 rfl) ?_
    replace hf := obE hf
    obtain ⟨j8, qj8, hf⟩ := hf
    have tj8 := x_rt hW qj8 0 ⟨by decide, rfl⟩
    refine x_getr 900 (ci := 9) (C := RX10) (T := TX10) (N := 11) 0 hC hin10 hW tp0 rfl rfl ⟨by decide, by decide, rfl, rfl⟩ rfl w_0 dX10_append_35 qj8 ?_
    refine lv_iload_n hx hb dX10_append_38 rfl (lv_at hl 2 rfl) ?_
    replace hf := obE hf
    obtain ⟨S10, hz9, hf⟩ := hf
    refine x_callV (As := [.int p2]) (rest := []) (o := none) (S1 := S10) hC hl.1 hW hS hGs hA tj8 rfl (show vwCl[0]? = some (RX0, TX0, 2) ∧ 0 < 11 from ⟨rfl, by decide⟩) (c_X0_addFour l g ad n K H.size F S5 j8 p2 tj8 S10 hz9) (cwV 1 hts gX10_append_X0_addFour rfl rfl rfl (by decide +kernel) ⟨Nat.le_of_ble_eq_true rfl, Nat.le_of_ble_eq_true rfl⟩) rfl rfl (Nat.le_of_ble_eq_true rfl) dX10_append_39 ⟨Nat.le_of_ble_eq_true rfl, Nat.le_of_ble_eq_true rfl⟩ (fun H locs hPz9 hW hS => ?_)
    refine W.eq (g2 := F0 m 42 ls []) rfl ?_
    refine lv_aload_n hx hb dX10_append_42 rfl (lv_at hl 0 rfl) ?_
    replace hf := obE hf
    obtain ⟨j13, qj13, hf⟩ := hf
    have tj13 := x_rt hW qj13 0 ⟨by decide, rfl⟩
    refine x_getr 900 (ci := 9) (C := RX10) (T := TX10) (N := 11) 0 hC hin10 hW tp0 rfl rfl ⟨by decide, by decide, rfl, rfl⟩ rfl w_0 dX10_append_43 qj13 ?_
    refine lv_iload_n hx hb dX10_append_46 rfl (lv_at hl 3 rfl) ?_
    replace hf := obE hf
    obtain ⟨S15, hz14, hf⟩ := hf
    refine x_callV (As := [.int p3]) (rest := []) (o := none) (S1 := S15) hC hl.1 hW hS hGs hA tj13 rfl (show vwCl[0]? = some (RX0, TX0, 2) ∧ 0 < 11 from ⟨rfl, by decide⟩) (c_X0_addFour l g ad n K H.size F S10 j13 p3 tj13 S15 hz14) (cwV 1 hts gX10_append_X0_addFour rfl rfl rfl (by decide +kernel) ⟨Nat.le_of_ble_eq_true rfl, Nat.le_of_ble_eq_true rfl⟩) rfl rfl (Nat.le_of_ble_eq_true rfl) dX10_append_47 ⟨Nat.le_of_ble_eq_true rfl, Nat.le_of_ble_eq_true rfl⟩ (fun H locs hPz14 hW hS => ?_)
    refine W.eq (g2 := F0 m 50 ls []) rfl ?_
    refine lv_aload_n hx hb dX10_append_50 rfl (lv_at hl 0 rfl) ?_
    replace hf := obE hf
    obtain ⟨j18, qj18, hf⟩ := hf
    have tj18 := x_rt hW qj18 0 ⟨by decide, rfl⟩
    refine x_getr 900 (ci := 9) (C := RX10) (T := TX10) (N := 11) 0 hC hin10 hW tp0 rfl rfl ⟨by decide, by decide, rfl, rfl⟩ rfl w_0 dX10_append_51 qj18 ?_
    refine lv_iload hx hb dX10_append_54 (lv_at hl 4 rfl) ?_
    replace hf := obE hf
    obtain ⟨S20, hz19, hf⟩ := hf
    refine x_callV (As := [.int p4]) (rest := []) (o := none) (S1 := S20) hC hl.1 hW hS hGs hA tj18 rfl (show vwCl[0]? = some (RX0, TX0, 2) ∧ 0 < 11 from ⟨rfl, by decide⟩) (c_X0_addFour l g ad n K H.size F S15 j18 p4 tj18 S20 hz19) (cwV 1 hts gX10_append_X0_addFour rfl rfl rfl (by decide +kernel) ⟨Nat.le_of_ble_eq_true rfl, Nat.le_of_ble_eq_true rfl⟩) rfl rfl (Nat.le_of_ble_eq_true rfl) dX10_append_56 ⟨Nat.le_of_ble_eq_true rfl, Nat.le_of_ble_eq_true rfl⟩ (fun H locs hPz19 hW hS => ?_)
    refine W.eq (g2 := F0 m 59 ls []) rfl ?_
    refine lv_aload_n hx hb dX10_append_59 rfl (lv_at hl 0 rfl) ?_
    replace hf := obE hf
    obtain ⟨j23, qj23, hf⟩ := hf
    have tj23 := x_rt hW qj23 0 ⟨by decide, rfl⟩
    refine x_getr 900 (ci := 9) (C := RX10) (T := TX10) (N := 11) 0 hC hin10 hW tp0 rfl rfl ⟨by decide, by decide, rfl, rfl⟩ rfl w_0 dX10_append_60 qj23 ?_
    refine lv_iload hx hb dX10_append_63 (lv_at hl 5 rfl) ?_
    replace hf := obE hf
    obtain ⟨S25, hz24, hf⟩ := hf
    refine x_callV (As := [.int p5]) (rest := []) (o := none) (S1 := S25) hC hl.1 hW hS hGs hA tj23 rfl (show vwCl[0]? = some (RX0, TX0, 2) ∧ 0 < 11 from ⟨rfl, by decide⟩) (c_X0_addFour l g ad n K H.size F S20 j23 p5 tj23 S25 hz24) (cwV 1 hts gX10_append_X0_addFour rfl rfl rfl (by decide +kernel) ⟨Nat.le_of_ble_eq_true rfl, Nat.le_of_ble_eq_true rfl⟩) rfl rfl (Nat.le_of_ble_eq_true rfl) dX10_append_65 ⟨Nat.le_of_ble_eq_true rfl, Nat.le_of_ble_eq_true rfl⟩ (fun H locs hPz24 hW hS => ?_)
    refine W.eq (g2 := F0 m 68 ls []) rfl ?_
    refine lv_aload_n hx hb dX10_append_68 rfl (lv_at hl 0 rfl) ?_
    replace hf := obE hf
    obtain ⟨j28, qj28, hf⟩ := hf
    have tj28 := x_rt hW qj28 0 ⟨by decide, rfl⟩
    refine x_getr 900 (ci := 9) (C := RX10) (T := TX10) (N := 11) 0 hC hin10 hW tp0 rfl rfl ⟨by decide, by decide, rfl, rfl⟩ rfl w_0 dX10_append_69 qj28 ?_
    refine x_getiN 1 (ci := 0) (C := RX0) (T := TX0) (N := 2) 1 hC hin0 hW tj28 rfl rfl ⟨by decide, by decide, rfl, rfl⟩ rfl w_1 dX10_append_72 ?_
    obtain ⟨e1, e2⟩ := so2 hf
    subst e1
    subst e2
    refine W.widen (k := 1) (n := 6) (Nat.le_of_ble_eq_true rfl) (Nat.le_of_ble_eq_true rfl) ?_
    exact vx_ret (W.iret (v := si S25 1 j28) hx hb hr (fun t ht hWm => ⟨⟨_, rfl, rfl, by unfold QB; rw [ht]; exact ⟨hW, trivial⟩⟩, hS.F ht⟩) hS.2.2 dX10_append_75 hlk)
  · replace hf := ifF c2 hf
    obtain ⟨e1, e2⟩ := so2 hf
    subst e1
    subst e2
    exact x_throwS (x := 1) (text := "the input buffer is full") hC hfl hno hl.1 hGs hS hlk w_2 w_3 (by decide +kernel) hat1 ⟨by decide +kernel, by decide +kernel, by decide +kernel⟩ dX10_append_16 dX10_append_19 dX10_append_20 dX10_append_22 dX10_append_25 (Nat.le_of_ble_eq_true rfl) (Nat.le_of_ble_eq_true rfl) (Nat.le_of_ble_eq_true rfl) (Nat.le_of_ble_eq_true rfl) (Nat.le_of_ble_eq_true rfl) (Nat.le_of_ble_eq_true rfl) (fun t hv hq hF => ⟨⟨1, rfl, rfl, hW.kept hq, trivial⟩, hF⟩)
set_option maxHeartbeats 4000000 in
set_option maxRecDepth 100000 in
theorem c_X0_cutTo (l : Launch) (g : GP) (ad : Nat → Nat) (n : Nat) (K : Nat → Nat) (sz F : Nat) (S0 : St) (p0 : Nat) (p1 : Int32) (tp0 : p0 < n ∧ K p0 = 0) (S9 : St) (hf : f_X0_cutTo F S0 p0 p1 = some S9) : Met l yX0_cutTo wsX0_cutTo { frames := 0, cells := 0, slots := 0, locals := 0 } (va_Pc [.ref (ad p0), .int p1] (PB g ad n K S0 sz)) (QR none (QB g ad n K S9 (dA ad n sz) (True)) (dA ad n sz)) 0 0 (dA ad n sz) := by
  refine Met.ofW (cc := cX0_cutTo) (maxL := 2) (ret := none) (by decide) rfl ?_
  intro p e s m args below meth c s₁ B hml hv
  obtain ⟨rfl, hsz, hW, hK, hGs⟩ := x_start hv
  subst hsz
  have hx := B.exec
  have hb := B.bytes
  have hr := B.returns
  have hts := atoms_spec (ws := wsX0_cutTo) B.pre
  have hown : s.vm.findClass RX0 = some m.cls := findClass_of_methodNamed B.named
  have hlk := B.notSynchronized
  have hC : Cx g p s m _ c cX0_cutTo RX0 wsX0_cutTo 2 := ⟨hx, hb, hml, hown, hts, hK⟩
  have hA : ∀ q : Nat, s.heap.size ≤ q → dA ad n s.heap.size q := fun q h => Or.inr h
  have hS : va_S (dA ad n s.heap.size) s.heap s.heap [] := va_S.rf
  have hl := lv_entry ([.ref (ad p0), .int p1]) (n := 2) (Nat.le_of_ble_eq_true rfl)
  rw [lg_entry_eq]
  generalize (lg_sl ([.ref (ad p0), .int p1]) ++ List.replicate (2 - (lg_sl ([.ref (ad p0), .int p1])).length) Slot.unset).toArray = ls at hl ⊢
  have hl : lv_has ls 2 [(0, .ref (ad p0)), (1, .int p1)] := hl
  have hin0 : ∀ w ∈ wsX00, w ∈ wsX0_cutTo := by decide +kernel
  have w_0 := hts (.fieldLink RX0 21 "MailSpool$Bytes" "size" "I") (by decide +kernel)
  have hGE := hGs.2.2.2.2.2.2.1
  have hGM := hGs.2.2.2.2.2.2.2.1
  unfold f_X0_cutTo at hf
  refine lv_iload_n hx hb dX0_cutTo_0 rfl (lv_at hl 1 rfl) ?_
  refine lv_if_lt (tgt := 17) hx hb dX0_cutTo_1 (by decide) (fun c1 => ?_) (fun c1 => ?_)
  · replace hf := ifT c1 hf
    have e1 := Option.some.inj hf
    subst e1
    exact W.vret hx hb hr (fun t ht hWm => ⟨⟨rfl, by unfold QB; rw [ht]; exact ⟨hW, trivial⟩⟩, hS.F ht⟩) hS.2.2 dX0_cutTo_17 hlk
  · replace hf := ifF c1 hf
    refine lv_iload_n hx hb dX0_cutTo_4 rfl (lv_at hl 1 rfl) ?_
    refine lv_aload_n hx hb dX0_cutTo_5 rfl (lv_at hl 0 rfl) ?_
    refine x_geti 1 (ci := 0) (C := RX0) (T := TX0) (N := 2) 1 hC hin0 hW tp0 rfl rfl ⟨by decide, by decide, rfl, rfl⟩ rfl w_0 dX0_cutTo_6 ?_
    refine lv_icmp_ge (tgt := 17) hx hb dX0_cutTo_9 (by decide) (fun c2 => ?_) (fun c2 => ?_)
    · replace hf := ifT c2 hf
      have e1 := Option.some.inj hf
      subst e1
      exact W.vret hx hb hr (fun t ht hWm => ⟨⟨rfl, by unfold QB; rw [ht]; exact ⟨hW, trivial⟩⟩, hS.F ht⟩) hS.2.2 dX0_cutTo_17 hlk
    · replace hf := ifF c2 hf
      refine lv_aload_n hx hb dX0_cutTo_12 rfl (lv_at hl 0 rfl) ?_
      refine lv_iload_n hx hb dX0_cutTo_13 rfl (lv_at hl 1 rfl) ?_
      refine x_puti 1 (ci := 0) (C := RX0) (T := TX0) (N := 2) (v := p1) (ty := .int) 1 hC hin0 tyX0_ok nmX0 hW hS tp0 rfl rfl ⟨by decide, by decide, rfl, rfl⟩ rfl w_0 rfl (by decide +kernel) rfl rfl dX0_cutTo_14 (fun S3 H locs eS3 hW hS => ?_)
      replace hf := ltE hf S3 eS3
      have e1 := Option.some.inj hf
      subst e1
      exact W.vret hx hb hr (fun t ht hWm => ⟨⟨rfl, by unfold QB; rw [ht]; exact ⟨hW, trivial⟩⟩, hS.F ht⟩) hS.2.2 dX0_cutTo_17 hlk
set_option maxHeartbeats 4000000 in
set_option maxRecDepth 100000 in
theorem c_X10_truncate (l : Launch) (hfl : l.stackTraces = false) (g : GP) (ad : Nat → Nat) (n : Nat) (K : Nat → Nat) (sz F : Nat) (S0 : St) (p0 : Nat) (p1 : Int32) (tp0 : p0 < n ∧ K p0 = 9) (o9 : Nat ⊕ Unit) (S9 : St) (hf : f_X10_truncate F S0 p0 p1 = some (o9, S9)) : vx_Met l yX10_truncate wsX10_truncate { frames := 6, cells := 1, slots := 6, locals := 100 } (va_Pc [.ref (ad p0), .int p1] (PB g ad n K S0 sz)) (QT o9 (fun _ => none) (QB g ad n K S9 (dA ad n sz) True) (dA ad n sz)) (XT o9 (QB g ad n K S9 (dA ad n sz) True) (dA ad n sz)) 1 6 (dA ad n sz) := by
  refine vx_ofW (cc := cX10_truncate) (maxL := 2) (ret := none) (by decide) rfl ?_
  intro p e s m args below meth c s₁ B hml hno hv
  obtain ⟨rfl, hsz, hW, hK, hGs⟩ := x_start hv
  subst hsz
  have hx := B.exec
  have hb := B.bytes
  have hr := B.returns
  have hts := atoms_spec (ws := wsX10_truncate) B.pre
  have hown : s.vm.findClass RX10 = some m.cls := findClass_of_methodNamed B.named
  have hlk := B.notSynchronized
  have hC : Cx g p s m _ c cX10_truncate RX10 wsX10_truncate 2 := ⟨hx, hb, hml, hown, hts, hK⟩
  have hA : ∀ q : Nat, s.heap.size ≤ q → dA ad n s.heap.size q := fun q h => Or.inr h
  have hS : va_S (dA ad n s.heap.size) s.heap s.heap [] := va_S.rf
  have hl := lv_entry ([.ref (ad p0), .int p1]) (n := 2) (Nat.le_of_ble_eq_true rfl)
  rw [lg_entry_eq]
  generalize (lg_sl ([.ref (ad p0), .int p1]) ++ List.replicate (2 - (lg_sl ([.ref (ad p0), .int p1])).length) Slot.unset).toArray = ls at hl ⊢
  have hl : lv_has ls 2 [(0, .ref (ad p0)), (1, .int p1)] := hl
  have hin0 : ∀ w ∈ wsX00, w ∈ wsX10_truncate := by decide +kernel
  have hin10 : ∀ w ∈ wsX100, w ∈ wsX10_truncate := by decide +kernel
  have w_0 := hts (.classLink RX10 70 "java/lang/IllegalArgumentException") (by decide +kernel)
  have w_1 := hts (.initialized "java/lang/IllegalArgumentException") (by decide +kernel)
  have w_2 := hts (.fieldLink RX10 17 "MailSpool" "input" "LMailSpool$Bytes;") (by decide +kernel)
  have w_3 := va_Nw.use (A := (List.toArray [.ref (ad p0), .int p1])) rfl (hGs.1 (.fieldLinkNest RX10 57 "MailSpool$Bytes" "size" "I" "MailSpool") (by decide +kernel))
  have hat2 : ∀ w ∈ (vx_atS RX10 74 (exn 2) exNm).filter goodWord, w.before _ s = true := fun w h => hts w ((by decide +kernel : ∀ w ∈ (vx_atS RX10 74 (exn 2) exNm).filter goodWord, w ∈ wsX10_truncate) w h)
  have hGE := hGs.2.2.2.2.2.2.1
  have hGM := hGs.2.2.2.2.2.2.2.1
  have L15 : ∀ (S0 : St)   (H : Heap) (locs : List Loc) (ls : Array Slot), f_X10_truncate_L15 F S0  = some (o9, S9) → Wb g ad n K S0 (dA ad n s.heap.size) H → va_S (dA ad n s.heap.size) s.heap H locs → lv_has ls 2 [] → W p l e (headSpec wsX10_truncate { frames := 6, cells := 1, slots := 6, locals := 100 }).room s m (List.toArray [.ref (ad p0), .int p1]) below meth c H locs 0 0 (vx_MQ below (QT o9 (fun _ => none) (QB g ad n K S9 (dA ad n s.heap.size) True) (dA ad n s.heap.size)) (XT o9 (QB g ad n K S9 (dA ad n s.heap.size) True) (dA ad n s.heap.size)) (List.toArray [.ref (ad p0), .int p1]) s 1 6 (dA ad n s.heap.size)) (F0 m 15 ls []) := by
    intro S0  H locs ls hf hW hS hl
    unfold f_X10_truncate_L15 at hf
    obtain ⟨e1, e2⟩ := so2 hf
    subst e1
    subst e2
    exact x_throwS (x := 2) (text := "no such length") hC hfl hno hl.1 hGs hS hlk w_0 w_1 (by decide +kernel) hat2 ⟨by decide +kernel, by decide +kernel, by decide +kernel⟩ dX10_truncate_15 dX10_truncate_18 dX10_truncate_19 dX10_truncate_21 dX10_truncate_24 (Nat.le_of_ble_eq_true rfl) (Nat.le_of_ble_eq_true rfl) (Nat.le_of_ble_eq_true rfl) (Nat.le_of_ble_eq_true rfl) (Nat.le_of_ble_eq_true rfl) (Nat.le_of_ble_eq_true rfl) (fun t hv hq hF => ⟨⟨2, rfl, rfl, hW.kept hq, trivial⟩, hF⟩)
  unfold f_X10_truncate at hf
  refine lv_iload_n hx hb dX10_truncate_0 rfl (lv_at hl 1 rfl) ?_
  refine lv_if_lt (tgt := 15) hx hb dX10_truncate_1 (by decide) (fun c1 => ?_) (fun c1 => ?_)
  · replace hf := ifT c1 hf
    exact L15 S0 _ _ _ hf hW hS (lv_sub hl [] rfl)
  · replace hf := ifF c1 hf
    refine lv_iload_n hx hb dX10_truncate_4 rfl (lv_at hl 1 rfl) ?_
    refine lv_aload_n hx hb dX10_truncate_5 rfl (lv_at hl 0 rfl) ?_
    replace hf := obE hf
    obtain ⟨j2, qj2, hf⟩ := hf
    have tj2 := x_rt hW qj2 0 ⟨by decide, rfl⟩
    refine x_getr 900 (ci := 9) (C := RX10) (T := TX10) (N := 11) 0 hC hin10 hW tp0 rfl rfl ⟨by decide, by decide, rfl, rfl⟩ rfl w_2 dX10_truncate_6 qj2 ?_
    refine x_getiN 1 (ci := 0) (C := RX0) (T := TX0) (N := 2) 1 hC hin0 hW tj2 rfl rfl ⟨by decide, by decide, rfl, rfl⟩ rfl w_3 dX10_truncate_9 ?_
    refine lv_icmp_le (tgt := 25) hx hb dX10_truncate_12 (by decide) (fun c3 => ?_) (fun c3 => ?_)
    · replace hf := ifT c3 hf
      refine lv_aload_n hx hb dX10_truncate_25 rfl (lv_at hl 0 rfl) ?_
      replace hf := obE hf
      obtain ⟨j4, qj4, hf⟩ := hf
      have tj4 := x_rt hW qj4 0 ⟨by decide, rfl⟩
      refine x_getr 900 (ci := 9) (C := RX10) (T := TX10) (N := 11) 0 hC hin10 hW tp0 rfl rfl ⟨by decide, by decide, rfl, rfl⟩ rfl w_2 dX10_truncate_26 qj4 ?_
      refine lv_iload_n hx hb dX10_truncate_29 rfl (lv_at hl 1 rfl) ?_
      replace hf := obE hf
      obtain ⟨S6, hz5, hf⟩ := hf
      refine x_callV (As := [.int p1]) (rest := []) (o := none) (S1 := S6) hC hl.1 hW hS hGs hA tj4 rfl (show vwCl[0]? = some (RX0, TX0, 2) ∧ 0 < 11 from ⟨rfl, by decide⟩) (c_X0_cutTo l g ad n K s.heap.size F S0 j4 p1 tj4 S6 hz5) (cwV 1 hts gX10_truncate_X0_cutTo rfl rfl rfl (by decide +kernel) ⟨Nat.le_of_ble_eq_true rfl, Nat.le_of_ble_eq_true rfl⟩) rfl rfl (Nat.le_of_ble_eq_true rfl) dX10_truncate_30 ⟨Nat.le_of_ble_eq_true rfl, Nat.le_of_ble_eq_true rfl⟩ (fun H locs hPz5 hW hS => ?_)
      refine W.eq (g2 := F0 m 33 ls []) rfl ?_
      obtain ⟨e1, e2⟩ := so2 hf
      subst e1
      subst e2
      refine W.widen (k := 1) (n := 6) (Nat.le_of_ble_eq_true rfl) (Nat.le_of_ble_eq_true rfl) ?_
      exact vx_ret (W.vret hx hb hr (fun t ht hWm => ⟨⟨_, rfl, rfl, by unfold QB; rw [ht]; exact ⟨hW, trivial⟩⟩, hS.F ht⟩) hS.2.2 dX10_truncate_33 hlk)
    · replace hf := ifF c3 hf
      exact L15 S0 _ _ _ hf hW hS (lv_sub hl [] rfl)
set_option maxHeartbeats 4000000 in
set_option maxRecDepth 100000 in
theorem c_X6_init (l : Launch) (g : GP) (ad : Nat → Nat) (n : Nat) (K : Nat → Nat) (sz F : Nat) (S0 : St) (p0 : Nat) (p1 : Nat) (tp0 : p0 < n ∧ K p0 = 5) (tp1 : p1 < n ∧ K p1 = 0) (S9 : St) (n9 : Nat) (hf : f_X6_init F S0 n p0 p1 = some (S9, n9)) : Met l yX6_init wsX6_init { frames := 3, cells := 19, slots := 138, locals := 62 } (va_Pc [.ref (ad p0), .ref (ad p1)] (PB g ad n K S0 sz)) (QA ad K n (fun _ => none) g n9 S9 (dA ad n sz) (fun _ => True)) 19 138 (dA ad n sz) := by
  refine Met.ofW (cc := cX6_init) (maxL := 2) (ret := none) (by decide) rfl ?_
  intro p e s m args below meth c s₁ B hml hv
  obtain ⟨rfl, hsz, hW, hK, hGs⟩ := x_start hv
  subst hsz
  have hx := B.exec
  have hb := B.bytes
  have hr := B.returns
  have hts := atoms_spec (ws := wsX6_init) B.pre
  have hown : s.vm.findClass RX6 = some m.cls := findClass_of_methodNamed B.named
  have hlk := B.notSynchronized
  have hinI : meth.name = "<init>" := (name_of_methodNamed B.named B.method).1
  have hC : Cx g p s m _ c cX6_init RX6 wsX6_init 2 := ⟨hx, hb, hml, hown, hts, hK⟩
  have hA : ∀ q : Nat, s.heap.size ≤ q → dA ad n s.heap.size q := fun q h => Or.inr h
  have hS : va_S (dA ad n s.heap.size) s.heap s.heap [] := va_S.rf
  have hl := lv_entry ([.ref (ad p0), .ref (ad p1)]) (n := 2) (Nat.le_of_ble_eq_true rfl)
  rw [lg_entry_eq]
  generalize (lg_sl ([.ref (ad p0), .ref (ad p1)]) ++ List.replicate (2 - (lg_sl ([.ref (ad p0), .ref (ad p1)])).length) Slot.unset).toArray = ls at hl ⊢
  have hl : lv_has ls 2 [(0, .ref (ad p0)), (1, .ref (ad p1))] := hl
  have hin6 : ∀ w ∈ wsX60, w ∈ wsX6_init := by decide +kernel
  have hin7 : ∀ w ∈ wsX70, w ∈ wsX6_init := by decide +kernel
  have w_0 := hts (.methodLink RX6 3 objectInit) (by decide +kernel)
  have w_1 := hts (.instanceMethod objectInit) (by decide +kernel)
  have w_2 := hts (.code objectInit ⟨#[0xb1]⟩ 1 none) (by decide +kernel)
  have w_3 := hts (.fieldLink RX6 9 "MailSpool$Parser" "text" "LMailSpool$Bytes;") (by decide +kernel)
  have w_4 := hts (.classLink RX6 15 RX7) (by decide +kernel)
  have w_5 := hts (.instantiable RX7 16) (by decide +kernel)
  have w_6 := hts (.initialized RX7) (by decide +kernel)
  have w_7 := hts (.methodLink RX6 17 yX7_init) (by decide +kernel)
  have w_8 := hts (.instanceMethod yX7_init) (by decide +kernel)
  have w_9 := hts (.fieldLink RX6 18 "MailSpool$Parser" "rules" "LMailSpool$Rules;") (by decide +kernel)
  have w_10 := hts (.fieldLink RX6 22 "MailSpool$Parser" "errorPosition" "I") (by decide +kernel)
  have hGE := hGs.2.2.2.2.2.2.1
  have hGM := hGs.2.2.2.2.2.2.2.1
  unfold f_X6_init at hf
  refine lv_aload_n hx hb dX6_init_0 rfl (lv_at hl 0 rfl) ?_
  refine W.objInit hx hb hown w_0 w_1 w_2 rfl (by rw [hml]; exact hl.1) rfl dX6_init_1 (Nat.le_of_ble_eq_true rfl) (Nat.le_of_ble_eq_true rfl) ?_
  refine W.eq (g2 := F0 m 4 ls []) rfl ?_
  refine lv_aload_n hx hb dX6_init_4 rfl (lv_at hl 0 rfl) ?_
  refine lv_aload_n hx hb dX6_init_5 rfl (lv_at hl 1 rfl) ?_
  refine x_putrF 500 (ci := 5) (C := RX6) (T := TX6) (N := 10) (ty := (.object "MailSpool$Bytes")) 0 hC hin6 tyX6_ok nmX6 hW hS tp0 rfl tp1 rfl rfl rfl ⟨by decide, by decide, rfl, rfl⟩ rfl w_3 rfl hinI rfl (by decide +kernel) rfl rfl dX6_init_6 (fun S1 H locs eS1 hW hS => ?_)
  replace hf := ltE hf S1 eS1
  refine lv_aload_n hx hb dX6_init_9 rfl (lv_at hl 0 rfl) ?_
  refine x_new (ci := 6) (C := RX7) (T := TX7) (N := 16) hC hin7 tyX7_ok hW hS hA ⟨rfl, by decide, by decide⟩ (by decide +kernel) w_4 w_5 w_6 (Nat.le_of_ble_eq_true rfl) (Nat.le_of_ble_eq_true rfl) dX6_init_10 (fun q2 ad3 K4 S5 H eS5 hag7 eqq2 ekq2 hW hS => ?_)
  replace hf := ltE hf S5 eS5
  obtain ⟨n6, en6⟩ : ∃ z, z = n + 1 := ⟨_, rfl⟩
  rw [← en6] at hag7 hW
  replace hf := ltE hf n6 en6
  have tq2 : n < n6 ∧ K4 n = 6 := ⟨by omega, ekq2⟩
  refine W.widen (k := 1) (n := 16) (Nat.le_of_ble_eq_true rfl) (Nat.le_of_ble_eq_true rfl) ?_
  refine lv_dup hx hb dX6_init_13 rfl ?_
  replace hf := obE hf
  obtain ⟨z8, hz8, hf⟩ := hf
  obtain ⟨S9, n11⟩ := z8
  replace hf := ltE (ltE hf S9 rfl) n11 rfl
  refine x_acallI (As := []) (rest := [.ref (q2), .ref (ad p0)]) (S1 := S9) (n1 := n11) (o := (fun _ => none)) (P := (fun _ => True)) hC hl.1 hW hS hGs hA (c_X7_init l g ad3 n6 K4 H.size F S5 n tq2 S9 n11 hz8) (cwI 0 hts gX6_init_X7_init rfl rfl rfl w_6 w_7 w_8 rfl (by decide +kernel) ⟨Nat.le_of_ble_eq_true rfl, Nat.le_of_ble_eq_true rfl⟩) rfl (by rw [eqq2] <;> rfl) (Nat.le_of_ble_eq_true rfl) dX6_init_14 ⟨Nat.le_of_ble_eq_true rfl, Nat.le_of_ble_eq_true rfl⟩ (fun ad12 K13 H locs hag14 hPz8 hW hS => ?_)
  refine W.widen (k := 19) (n := 138) (Nat.le_of_ble_eq_true rfl) (Nat.le_of_ble_eq_true rfl) ?_
  refine W.eq (g2 := F0 m 17 ls [.ref (q2), .ref (ad p0)]) rfl ?_
  refine x_putrF 501 (ci := 5) (C := RX6) (T := TX6) (N := 10) (ty := (.object "MailSpool$Rules")) 1 hC hin6 tyX6_ok nmX6 hW hS (hag14.t (hag7.t tp0)) (hag14.e (hag7.t tp0) (hag7.e tp0 rfl)) (hag14.t tq2) (hag14.e tq2 eqq2) rfl rfl ⟨by decide, by decide, rfl, rfl⟩ rfl w_9 rfl hinI rfl (by decide +kernel) rfl rfl dX6_init_17 (fun S15 H locs eS15 hW hS => ?_)
  replace hf := ltE hf S15 eS15
  refine lv_aload_n hx hb dX6_init_20 rfl (lv_at hl 0 rfl) ?_
  refine lv_iconst (v := -1) hx hb dX6_init_21 (by decide) ?_
  refine x_puti 503 (ci := 5) (C := RX6) (T := TX6) (N := 10) (v := (-1)) (ty := .int) 3 hC hin6 tyX6_ok nmX6 hW hS (hag14.t (hag7.t tp0)) (hag14.e (hag7.t tp0) (hag7.e tp0 rfl)) rfl ⟨by decide, by decide, rfl, rfl⟩ rfl w_10 rfl (by decide +kernel) rfl rfl dX6_init_22 (fun S16 H locs eS16 hW hS => ?_)
  replace hf := ltE hf S16 eS16
  obtain ⟨e1, e2⟩ := so2 hf
  subst e1
  subst e2
  exact W.vret hx hb hr (fun t ht hWm => ⟨⟨ad12, K13, rfl, (Ag.rf.tr hag7).tr hag14, trivial, by rw [ht]; exact hW⟩, hS.F ht⟩) hS.2.2 dX6_init_25 hlk
set_option maxHeartbeats 4000000 in
set_option maxRecDepth 100000 in
theorem c_X0_byteAt (l : Launch) (g : GP) (ad : Nat → Nat) (n : Nat) (K : Nat → Nat) (sz F : Nat) (S0 : St) (p0 : Nat) (p1 : Int32) (tp0 : p0 < n ∧ K p0 = 0) (r9 : Int32) (S9 : St) (hf : f_X0_byteAt F S0 p0 p1 = some (r9, S9)) : Met l yX0_byteAt wsX0_byteAt { frames := 0, cells := 0, slots := 0, locals := 0 } (va_Pc [.ref (ad p0), .int p1] (PB g ad n K S0 sz)) (QR (some (.int r9)) (QB g ad n K S9 (dA ad n sz) (True)) (dA ad n sz)) 0 0 (dA ad n sz) := by
  refine Met.ofW (cc := cX0_byteAt) (maxL := 2) (ret := (some .int)) (by decide) rfl ?_
  intro p e s m args below meth c s₁ B hml hv
  obtain ⟨rfl, hsz, hW, hK, hGs⟩ := x_start hv
  subst hsz
  have hx := B.exec
  have hb := B.bytes
  have hr := B.returns
  have hts := atoms_spec (ws := wsX0_byteAt) B.pre
  have hown : s.vm.findClass RX0 = some m.cls := findClass_of_methodNamed B.named
  have hlk := B.notSynchronized
  have hC : Cx g p s m _ c cX0_byteAt RX0 wsX0_byteAt 2 := ⟨hx, hb, hml, hown, hts, hK⟩
  have hA : ∀ q : Nat, s.heap.size ≤ q → dA ad n s.heap.size q := fun q h => Or.inr h
  have hS : va_S (dA ad n s.heap.size) s.heap s.heap [] := va_S.rf
  have hl := lv_entry ([.ref (ad p0), .int p1]) (n := 2) (Nat.le_of_ble_eq_true rfl)
  rw [lg_entry_eq]
  generalize (lg_sl ([.ref (ad p0), .int p1]) ++ List.replicate (2 - (lg_sl ([.ref (ad p0), .int p1])).length) Slot.unset).toArray = ls at hl ⊢
  have hl : lv_has ls 2 [(0, .ref (ad p0)), (1, .int p1)] := hl
  have hin0 : ∀ w ∈ wsX00, w ∈ wsX0_byteAt := by decide +kernel
  have w_0 := hts (.fieldLink RX0 21 "MailSpool$Bytes" "size" "I") (by decide +kernel)
  have w_1 := hts (.fieldLink RX0 15 "MailSpool$Bytes" "row" "[B") (by decide +kernel)
  have hGE := hGs.2.2.2.2.2.2.1
  have hGM := hGs.2.2.2.2.2.2.2.1
  unfold f_X0_byteAt at hf
  refine lv_iload_n hx hb dX0_byteAt_0 rfl (lv_at hl 1 rfl) ?_
  refine lv_if_lt (tgt := 34) hx hb dX0_byteAt_1 (by decide) (fun c1 => ?_) (fun c1 => ?_)
  · replace hf := ifT c1 hf
    refine lv_iconst (v := -1) hx hb dX0_byteAt_34 (by decide) ?_
    obtain ⟨e1, e2⟩ := so2 hf
    subst e1
    subst e2
    exact W.iret (v := (-1)) hx hb hr (fun t ht hWm => ⟨⟨rfl, by unfold QB; rw [ht]; exact ⟨hW, trivial⟩⟩, hS.F ht⟩) hS.2.2 dX0_byteAt_35 hlk
  · replace hf := ifF c1 hf
    refine lv_iload_n hx hb dX0_byteAt_4 rfl (lv_at hl 1 rfl) ?_
    refine lv_aload_n hx hb dX0_byteAt_5 rfl (lv_at hl 0 rfl) ?_
    refine x_geti 1 (ci := 0) (C := RX0) (T := TX0) (N := 2) 1 hC hin0 hW tp0 rfl rfl ⟨by decide, by decide, rfl, rfl⟩ rfl w_0 dX0_byteAt_6 ?_
    refine lv_icmp_ge (tgt := 34) hx hb dX0_byteAt_9 (by decide) (fun c2 => ?_) (fun c2 => ?_)
    · replace hf := ifT c2 hf
      refine lv_iconst (v := -1) hx hb dX0_byteAt_34 (by decide) ?_
      obtain ⟨e1, e2⟩ := so2 hf
      subst e1
      subst e2
      exact W.iret (v := (-1)) hx hb hr (fun t ht hWm => ⟨⟨rfl, by unfold QB; rw [ht]; exact ⟨hW, trivial⟩⟩, hS.F ht⟩) hS.2.2 dX0_byteAt_35 hlk
    · replace hf := ifF c2 hf
      refine lv_iload_n hx hb dX0_byteAt_12 rfl (lv_at hl 1 rfl) ?_
      refine lv_aload_n hx hb dX0_byteAt_13 rfl (lv_at hl 0 rfl) ?_
      replace hf := obE hf
      obtain ⟨j3, qj3, hf⟩ := hf
      have tj3 := x_rt hW qj3 11 ⟨by decide, rfl⟩
      refine x_getr 0 (ci := 0) (C := RX0) (T := TX0) (N := 2) 0 hC hin0 hW tp0 rfl rfl ⟨by decide, by decide, rfl, rfl⟩ rfl w_1 dX0_byteAt_14 qj3 ?_
      refine x_alen hC hW tj3 rfl ⟨by decide, by decide⟩ dX0_byteAt_17 ?_
      refine lv_icmp_ge (tgt := 34) hx hb dX0_byteAt_18 (by decide) (fun c4 => ?_) (fun c4 => ?_)
      · replace hf := ifT c4 hf
        refine lv_iconst (v := -1) hx hb dX0_byteAt_34 (by decide) ?_
        obtain ⟨e1, e2⟩ := so2 hf
        subst e1
        subst e2
        exact W.iret (v := (-1)) hx hb hr (fun t ht hWm => ⟨⟨rfl, by unfold QB; rw [ht]; exact ⟨hW, trivial⟩⟩, hS.F ht⟩) hS.2.2 dX0_byteAt_35 hlk
      · replace hf := ifF c4 hf
        refine lv_aload_n hx hb dX0_byteAt_21 rfl (lv_at hl 0 rfl) ?_
        replace hf := obE hf
        obtain ⟨j5, qj5, hf⟩ := hf
        have tj5 := x_rt hW qj5 11 ⟨by decide, rfl⟩
        refine x_getr 0 (ci := 0) (C := RX0) (T := TX0) (N := 2) 0 hC hin0 hW tp0 rfl rfl ⟨by decide, by decide, rfl, rfl⟩ rfl w_1 dX0_byteAt_22 qj5 ?_
        refine lv_iload_n hx hb dX0_byteAt_25 rfl (lv_at hl 1 rfl) ?_
        replace hf := ckiE hf
        obtain ⟨h6, hf⟩ := hf
        refine x_bald hC hW tj5 rfl rfl h6 dX0_byteAt_26 ?_
        refine lv_sipush (v := 255) hx hb dX0_byteAt_27 (by decide) ?_
        refine lv_iand hx hb dX0_byteAt_30 ?_
        refine lv_goto (tgt := 35) hx hb dX0_byteAt_31 (by decide) ?_
        obtain ⟨e1, e2⟩ := so2 hf
        subst e1
        subst e2
        exact W.iret (v := (ai S0 j5 (Int32.toNatClampNeg p1)) &&& 255) hx hb hr (fun t ht hWm => ⟨⟨rfl, by unfold QB; rw [ht]; exact ⟨hW, trivial⟩⟩, hS.F ht⟩) hS.2.2 dX0_byteAt_35 hlk
set_option maxHeartbeats 4000000 in
set_option maxRecDepth 100000 in
theorem c_X6_isBlank (l : Launch) (g : GP) (ad : Nat → Nat) (n : Nat) (K : Nat → Nat) (sz F : Nat) (S0 : St) (p0 : Int32) (r9 : Int32) (S9 : St) (hf : f_X6_isBlank F S0 p0 = some (r9, S9)) : Met l yX6_isBlank wsX6_isBlank { frames := 0, cells := 0, slots := 0, locals := 0 } (va_Pc [.int p0] (PB g ad n K S0 sz)) (QR (some (.int r9)) (QB g ad n K S9 (dA ad n sz) (True)) (dA ad n sz)) 0 0 (dA ad n sz) := by
  refine Met.ofW (cc := cX6_isBlank) (maxL := 1) (ret := (some .boolean)) (by decide) rfl ?_
  intro p e s m args below meth c s₁ B hml hv
  obtain ⟨rfl, hsz, hW, hK, hGs⟩ := x_start hv
  subst hsz
  have hx := B.exec
  have hb := B.bytes
  have hr := B.returns
  have hts := atoms_spec (ws := wsX6_isBlank) B.pre
  have hown : s.vm.findClass RX6 = some m.cls := findClass_of_methodNamed B.named
  have hlk := B.notSynchronized
  have hC : Cx g p s m _ c cX6_isBlank RX6 wsX6_isBlank 1 := ⟨hx, hb, hml, hown, hts, hK⟩
  have hA : ∀ q : Nat, s.heap.size ≤ q → dA ad n s.heap.size q := fun q h => Or.inr h
  have hS : va_S (dA ad n s.heap.size) s.heap s.heap [] := va_S.rf
  have hl := lv_entry ([.int p0]) (n := 1) (Nat.le_of_ble_eq_true rfl)
  rw [lg_entry_eq]
  generalize (lg_sl ([.int p0]) ++ List.replicate (1 - (lg_sl ([.int p0])).length) Slot.unset).toArray = ls at hl ⊢
  have hl : lv_has ls 1 [(0, .int p0)] := hl
  have hGE := hGs.2.2.2.2.2.2.1
  have hGM := hGs.2.2.2.2.2.2.2.1
  unfold f_X6_isBlank at hf
  refine lv_iload_n hx hb dX6_isBlank_0 rfl (lv_at hl 0 rfl) ?_
  refine lv_bipush (v := 32) hx hb dX6_isBlank_1 (by decide) ?_
  refine lv_icmp_eq (tgt := 12) hx hb dX6_isBlank_3 (by decide) (fun c1 => ?_) (fun c1 => ?_)
  · replace hf := ifT c1 hf
    refine lv_iconst (v := 1) hx hb dX6_isBlank_12 (by decide) ?_
    refine lv_goto (tgt := 17) hx hb dX6_isBlank_13 (by decide) ?_
    obtain ⟨e1, e2⟩ := so2 hf
    subst e1
    subst e2
    exact W.zret (v := 1) hx hb hr rfl (fun t ht hWm => ⟨⟨rfl, by unfold QB; rw [ht]; exact ⟨hW, trivial⟩⟩, hS.F ht⟩) hS.2.2 dX6_isBlank_17 hlk
  · replace hf := ifF c1 hf
    refine lv_iload_n hx hb dX6_isBlank_6 rfl (lv_at hl 0 rfl) ?_
    refine lv_bipush (v := 10) hx hb dX6_isBlank_7 (by decide) ?_
    refine lv_icmp_ne (tgt := 16) hx hb dX6_isBlank_9 (by decide) (fun c2 => ?_) (fun c2 => ?_)
    · replace hf := ifT c2 hf
      refine lv_iconst (v := 0) hx hb dX6_isBlank_16 (by decide) ?_
      obtain ⟨e1, e2⟩ := so2 hf
      subst e1
      subst e2
      exact W.zret (v := 0) hx hb hr rfl (fun t ht hWm => ⟨⟨rfl, by unfold QB; rw [ht]; exact ⟨hW, trivial⟩⟩, hS.F ht⟩) hS.2.2 dX6_isBlank_17 hlk
    · replace hf := ifF (fun q => q c2) hf
      refine lv_iconst (v := 1) hx hb dX6_isBlank_12 (by decide) ?_
      refine lv_goto (tgt := 17) hx hb dX6_isBlank_13 (by decide) ?_
      obtain ⟨e1, e2⟩ := so2 hf
      subst e1
      subst e2
      exact W.zret (v := 1) hx hb hr rfl (fun t ht hWm => ⟨⟨rfl, by unfold QB; rw [ht]; exact ⟨hW, trivial⟩⟩, hS.F ht⟩) hS.2.2 dX6_isBlank_17 hlk
set_option maxHeartbeats 4000000 in
set_option maxRecDepth 100000 in
theorem c_X10_isLetter (l : Launch) (g : GP) (ad : Nat → Nat) (n : Nat) (K : Nat → Nat) (sz F : Nat) (S0 : St) (p0 : Int32) (r9 : Int32) (S9 : St) (hf : f_X10_isLetter F S0 p0 = some (r9, S9)) : Met l yX10_isLetter wsX10_isLetter { frames := 0, cells := 0, slots := 0, locals := 0 } (va_Pc [.int p0] (PB g ad n K S0 sz)) (QR (some (.int r9)) (QB g ad n K S9 (dA ad n sz) (True)) (dA ad n sz)) 0 0 (dA ad n sz) := by
  refine Met.ofW (cc := cX10_isLetter) (maxL := 1) (ret := (some .boolean)) (by decide) rfl ?_
  intro p e s m args below meth c s₁ B hml hv
  obtain ⟨rfl, hsz, hW, hK, hGs⟩ := x_start hv
  subst hsz
  have hx := B.exec
  have hb := B.bytes
  have hr := B.returns
  have hts := atoms_spec (ws := wsX10_isLetter) B.pre
  have hown : s.vm.findClass RX10 = some m.cls := findClass_of_methodNamed B.named
  have hlk := B.notSynchronized
  have hC : Cx g p s m _ c cX10_isLetter RX10 wsX10_isLetter 1 := ⟨hx, hb, hml, hown, hts, hK⟩
  have hA : ∀ q : Nat, s.heap.size ≤ q → dA ad n s.heap.size q := fun q h => Or.inr h
  have hS : va_S (dA ad n s.heap.size) s.heap s.heap [] := va_S.rf
  have hl := lv_entry ([.int p0]) (n := 1) (Nat.le_of_ble_eq_true rfl)
  rw [lg_entry_eq]
  generalize (lg_sl ([.int p0]) ++ List.replicate (1 - (lg_sl ([.int p0])).length) Slot.unset).toArray = ls at hl ⊢
  have hl : lv_has ls 1 [(0, .int p0)] := hl
  have hGE := hGs.2.2.2.2.2.2.1
  have hGM := hGs.2.2.2.2.2.2.2.1
  unfold f_X10_isLetter at hf
  refine lv_iload_n hx hb dX10_isLetter_0 rfl (lv_at hl 0 rfl) ?_
  refine lv_bipush (v := 97) hx hb dX10_isLetter_1 (by decide) ?_
  refine lv_icmp_lt (tgt := 16) hx hb dX10_isLetter_3 (by decide) (fun c1 => ?_) (fun c1 => ?_)
  · replace hf := ifT c1 hf
    refine lv_iconst (v := 0) hx hb dX10_isLetter_16 (by decide) ?_
    obtain ⟨e1, e2⟩ := so2 hf
    subst e1
    subst e2
    exact W.zret (v := 0) hx hb hr rfl (fun t ht hWm => ⟨⟨rfl, by unfold QB; rw [ht]; exact ⟨hW, trivial⟩⟩, hS.F ht⟩) hS.2.2 dX10_isLetter_17 hlk
  · replace hf := ifF c1 hf
    refine lv_iload_n hx hb dX10_isLetter_6 rfl (lv_at hl 0 rfl) ?_
    refine lv_bipush (v := 122) hx hb dX10_isLetter_7 (by decide) ?_
    refine lv_icmp_gt (tgt := 16) hx hb dX10_isLetter_9 (by decide) (fun c2 => ?_) (fun c2 => ?_)
    · replace hf := ifT c2 hf
      refine lv_iconst (v := 0) hx hb dX10_isLetter_16 (by decide) ?_
      obtain ⟨e1, e2⟩ := so2 hf
      subst e1
      subst e2
      exact W.zret (v := 0) hx hb hr rfl (fun t ht hWm => ⟨⟨rfl, by unfold QB; rw [ht]; exact ⟨hW, trivial⟩⟩, hS.F ht⟩) hS.2.2 dX10_isLetter_17 hlk
    · replace hf := ifF c2 hf
      refine lv_iconst (v := 1) hx hb dX10_isLetter_12 (by decide) ?_
      refine lv_goto (tgt := 17) hx hb dX10_isLetter_13 (by decide) ?_
      obtain ⟨e1, e2⟩ := so2 hf
      subst e1
      subst e2
      exact W.zret (v := 1) hx hb hr rfl (fun t ht hWm => ⟨⟨rfl, by unfold QB; rw [ht]; exact ⟨hW, trivial⟩⟩, hS.F ht⟩) hS.2.2 dX10_isLetter_17 hlk
set_option maxHeartbeats 4000000 in
set_option maxRecDepth 100000 in
theorem c_X10_withLetter (l : Launch) (g : GP) (ad : Nat → Nat) (n : Nat) (K : Nat → Nat) (sz F : Nat) (S0 : St) (p0 : Int64) (p1 : Int32) (r9 : Int64) (S9 : St) (hf : f_X10_withLetter F S0 p0 p1 = some (r9, S9)) : Met l yX10_withLetter wsX10_withLetter { frames := 0, cells := 0, slots := 0, locals := 0 } (va_Pc [.long (p0), .int p1] (PB g ad n K S0 sz)) (QR (some (.long r9)) (QB g ad n K S9 (dA ad n sz) (True)) (dA ad n sz)) 0 0 (dA ad n sz) := by
  refine Met.ofW (cc := cX10_withLetter) (maxL := 3) (ret := (some .long)) (by decide) rfl ?_
  intro p e s m args below meth c s₁ B hml hv
  obtain ⟨rfl, hsz, hW, hK, hGs⟩ := x_start hv
  subst hsz
  have hx := B.exec
  have hb := B.bytes
  have hr := B.returns
  have hts := atoms_spec (ws := wsX10_withLetter) B.pre
  have hown : s.vm.findClass RX10 = some m.cls := findClass_of_methodNamed B.named
  have hlk := B.notSynchronized
  have hC : Cx g p s m _ c cX10_withLetter RX10 wsX10_withLetter 3 := ⟨hx, hb, hml, hown, hts, hK⟩
  have hA : ∀ q : Nat, s.heap.size ≤ q → dA ad n s.heap.size q := fun q h => Or.inr h
  have hS : va_S (dA ad n s.heap.size) s.heap s.heap [] := va_S.rf
  have hl := lv_entry ([.long (p0), .int p1]) (n := 3) (Nat.le_of_ble_eq_true rfl)
  rw [lg_entry_eq]
  generalize (lg_sl ([.long (p0), .int p1]) ++ List.replicate (3 - (lg_sl ([.long (p0), .int p1])).length) Slot.unset).toArray = ls at hl ⊢
  have hl : lv_has ls 3 [(0, .long (p0)), (2, .int p1)] := hl
  have w_0 := hts (.constantLong RX10 468 (-1)) (by decide +kernel)
  have w_1 := hts (.constantLong RX10 470 (7625597484987)) (by decide +kernel)
  have w_2 := hts (.constantLong RX10 472 (27)) (by decide +kernel)
  have hGE := hGs.2.2.2.2.2.2.1
  have hGM := hGs.2.2.2.2.2.2.2.1
  unfold f_X10_withLetter at hf
  refine lv_lload_n hx hb dX10_withLetter_0 rfl (lv_at hl 0 rfl) ?_
  refine lv_ldc2 (v := (-1)) hx hb hown w_0 dX10_withLetter_1 ?_
  refine W.lcmp hx hb dX10_withLetter_4 ?_
  refine lv_if_eq (tgt := 16) hx hb dX10_withLetter_5 (by decide) (fun c1 => ?_) (fun c1 => ?_)
  · replace hf := ifT c1 hf
    refine lv_ldc2 (v := (-1)) hx hb hown w_0 dX10_withLetter_16 ?_
    obtain ⟨e1, e2⟩ := so2 hf
    subst e1
    subst e2
    exact W.lret (v := (-1)) hx hb hr (fun t ht hWm => ⟨⟨rfl, by unfold QB; rw [ht]; exact ⟨hW, trivial⟩⟩, hS.F ht⟩) hS.2.2 dX10_withLetter_19 hlk
  · replace hf := ifF c1 hf
    refine lv_lload_n hx hb dX10_withLetter_8 rfl (lv_at hl 0 rfl) ?_
    refine lv_ldc2 (v := (7625597484987)) hx hb hown w_1 dX10_withLetter_9 ?_
    refine W.lcmp hx hb dX10_withLetter_12 ?_
    refine lv_if_lt (tgt := 20) hx hb dX10_withLetter_13 (by decide) (fun c2 => ?_) (fun c2 => ?_)
    · replace hf := ifT c2 hf
      refine lv_lload_n hx hb dX10_withLetter_20 rfl (lv_at hl 0 rfl) ?_
      refine lv_ldc2 (v := (27)) hx hb hown w_2 dX10_withLetter_21 ?_
      refine lv_lmul hx hb dX10_withLetter_24 ?_
      refine lv_iload_n hx hb dX10_withLetter_25 rfl (lv_at hl 1 rfl) ?_
      refine lv_bipush (v := 97) hx hb dX10_withLetter_26 (by decide) ?_
      refine lv_isub hx hb dX10_withLetter_28 ?_
      refine lv_iconst (v := 1) hx hb dX10_withLetter_29 (by decide) ?_
      refine lv_iadd hx hb dX10_withLetter_30 ?_
      refine lv_i2l (v := ((p1 - 97) + 1).toInt64) hx hb dX10_withLetter_31 rfl ?_
      refine lv_ladd hx hb dX10_withLetter_32 ?_
      obtain ⟨e1, e2⟩ := so2 hf
      subst e1
      subst e2
      exact W.lret (v := (p0 * ((27))) + (((p1 - 97) + 1).toInt64)) hx hb hr (fun t ht hWm => ⟨⟨rfl, by unfold QB; rw [ht]; exact ⟨hW, trivial⟩⟩, hS.F ht⟩) hS.2.2 dX10_withLetter_33 hlk
    · replace hf := ifF c2 hf
      refine lv_ldc2 (v := (-1)) hx hb hown w_0 dX10_withLetter_16 ?_
      obtain ⟨e1, e2⟩ := so2 hf
      subst e1
      subst e2
      exact W.lret (v := (-1)) hx hb hr (fun t ht hWm => ⟨⟨rfl, by unfold QB; rw [ht]; exact ⟨hW, trivial⟩⟩, hS.F ht⟩) hS.2.2 dX10_withLetter_19 hlk
set_option maxHeartbeats 4000000 in
set_option maxRecDepth 100000 in
theorem c_X6_readWord (l : Launch) (g : GP) (ad : Nat → Nat) (n : Nat) (K : Nat → Nat) (sz F : Nat) (S0 : St) (p0 : Nat) (tp0 : p0 < n ∧ K p0 = 5) (S9 : St) (hf : f_X6_readWord F S0 p0 = some S9) : Met l yX6_readWord wsX6_readWord { frames := 1, cells := 0, slots := 0, locals := 22 } (va_Pc [.ref (ad p0)] (PB g ad n K S0 sz)) (QR none (QB g ad n K S9 (dA ad n sz) (True)) (dA ad n sz)) 0 0 (dA ad n sz) := by
  refine Met.ofW (cc := cX6_readWord) (maxL := 5) (ret := none) (by decide) rfl ?_
  intro p e s m args below meth c s₁ B hml hv
  obtain ⟨rfl, hsz, hW, hK, hGs⟩ := x_start hv
  subst hsz
  have hx := B.exec
  have hb := B.bytes
  have hr := B.returns
  have hts := atoms_spec (ws := wsX6_readWord) B.pre
  have hown : s.vm.findClass RX6 = some m.cls := findClass_of_methodNamed B.named
  have hlk := B.notSynchronized
  have hC : Cx g p s m _ c cX6_readWord RX6 wsX6_readWord 5 := ⟨hx, hb, hml, hown, hts, hK⟩
  have hA : ∀ q : Nat, s.heap.size ≤ q → dA ad n s.heap.size q := fun q h => Or.inr h
  have hS : va_S (dA ad n s.heap.size) s.heap s.heap [] := va_S.rf
  have hl := lv_entry ([.ref (ad p0)]) (n := 5) (Nat.le_of_ble_eq_true rfl)
  rw [lg_entry_eq]
  generalize (lg_sl ([.ref (ad p0)]) ++ List.replicate (5 - (lg_sl ([.ref (ad p0)])).length) Slot.unset).toArray = ls at hl ⊢
  have hl : lv_has ls 5 [(0, .ref (ad p0))] := hl
  have hin0 : ∀ w ∈ wsX00, w ∈ wsX6_readWord := by decide +kernel
  have hin6 : ∀ w ∈ wsX60, w ∈ wsX6_readWord := by decide +kernel
  have w_0 := va_Nw.use (A := (List.toArray [.ref (ad p0)])) rfl (hGs.1 (.fieldLinkNest RX6 243 "MailSpool$Keyword" "word" "J" "MailSpool") (by decide +kernel))
  have w_1 := hts (.fieldLink RX6 190 "MailSpool$Parser" "word" "J") (by decide +kernel)
  have w_2 := hts (.fieldLink RX6 41 "MailSpool$Parser" "keyword" "LMailSpool$Keyword;") (by decide +kernel)
  have w_3 := va_Nw.use (A := (List.toArray [.ref (ad p0)])) rfl (hGs.1 (.fieldLinkNest RX6 239 "MailSpool" "KEYWORDS" "[LMailSpool$Keyword;" "MailSpool") (by decide +kernel))
  have w_4 := hts (.fieldLink RX6 213 "MailSpool$Parser" "position" "I") (by decide +kernel)
  have w_5 := hts (.fieldLink RX6 9 "MailSpool$Parser" "text" "LMailSpool$Bytes;") (by decide +kernel)
  have w_6 := va_Nw.use (A := (List.toArray [.ref (ad p0)])) rfl (hGs.1 (.fieldLinkNest RX6 33 "MailSpool$Bytes" "size" "I" "MailSpool") (by decide +kernel))
  have w_7 := va_Nw.use (A := (List.toArray [.ref (ad p0)])) rfl (hGs.1 (.methodLinkNest RX6 223 yX10_isLetter "MailSpool") (by decide +kernel))
  have w_8 := hts (.initialized RX10) (by decide +kernel)
  have w_9 := hts (.static yX10_isLetter) (by decide +kernel)
  have w_10 := va_Nw.use (A := (List.toArray [.ref (ad p0)])) rfl (hGs.1 (.methodLinkNest RX6 235 yX10_withLetter "MailSpool") (by decide +kernel))
  have w_11 := hts (.static yX10_withLetter) (by decide +kernel)
  have w_12 := hts (.fieldLink RX6 38 "MailSpool$Parser" "kind" "I") (by decide +kernel)
  have hGE := hGs.2.2.2.2.2.2.1
  have hGM := hGs.2.2.2.2.2.2.2.1
  have L80 : ∀ (fu80 : Nat) (S0 : St) (v0 : Nat) (v2 : Int32) (v3 : Int32) (tv0 : v0 < n ∧ K v0 = 5) (H : Heap) (locs : List Loc) (ls : Array Slot), f_X6_readWord_L80 F fu80 S0 v0 v2 v3 = some S9 → Wb g ad n K S0 (dA ad n s.heap.size) H → va_S (dA ad n s.heap.size) s.heap H locs → lv_has ls 5 [(0, .ref (ad v0)), (1, .ref (gen g 15)), (2, .int v2), (3, .int v3)] → W p l e (headSpec wsX6_readWord { frames := 1, cells := 0, slots := 0, locals := 22 }).room s m (List.toArray [.ref (ad p0)]) below meth c H locs 0 0 (MQ below (QR none (QB g ad n K S9 (dA ad n s.heap.size) (True)) (dA ad n s.heap.size)) (List.toArray [.ref (ad p0)]) s 0 0 (dA ad n s.heap.size)) (F0 m 80 ls []) := by
    intro fu80
    induction fu80 with
    | zero =>
      intro S0 v0 v2 v3 tv0 H locs ls hf
      cases hf
    | succ fu80 ih80 =>
      have L109 : ∀ (S0 : St) (v0 : Nat) (v2 : Int32) (v3 : Int32) (tv0 : v0 < n ∧ K v0 = 5) (H : Heap) (locs : List Loc) (ls : Array Slot), f_X6_readWord_L109 F (fun a0 a1 a2 a3 => f_X6_readWord_L80 F fu80 a0 a1 a2 a3) S0 v0 v2 v3 = some S9 → Wb g ad n K S0 (dA ad n s.heap.size) H → va_S (dA ad n s.heap.size) s.heap H locs → lv_has ls 5 [(0, .ref (ad v0)), (1, .ref (gen g 15)), (2, .int v2), (3, .int v3)] → W p l e (headSpec wsX6_readWord { frames := 1, cells := 0, slots := 0, locals := 22 }).room s m (List.toArray [.ref (ad p0)]) below meth c H locs 0 0 (MQ below (QR none (QB g ad n K S9 (dA ad n s.heap.size) (True)) (dA ad n s.heap.size)) (List.toArray [.ref (ad p0)]) s 0 0 (dA ad n s.heap.size)) (F0 m 109 ls []) := by
        intro S0 v0 v2 v3 tv0 H locs ls hf hW hS hl
        unfold f_X6_readWord_L109 at hf
        obtain ⟨x2, ex2⟩ : ∃ z : Int32, z = v3 + 1 := ⟨_, rfl⟩
        replace hf := ltE hf x2 ex2
        refine lv_iinc (v := x2) (lv' := [(3, .int x2), (0, .ref (ad v0)), (1, .ref (gen g 15)), (2, .int v2)]) hx hb dX6_readWord_109 hl (k := 3) rfl (by rw [ex2]; rfl) (by decide) rfl (fun ls hl => ?_)
        refine lv_goto (tgt := 80) hx hb dX6_readWord_112 (by decide) ?_
        exact ih80 S0 v0 v2 x2 tv0 _ _ _ hf hW hS (lv_sub hl [1, 2, 3, 0] rfl)
      intro S0 v0 v2 v3 tv0 H locs ls hf hW hS hl
      unfold f_X6_readWord_L80 at hf
      refine lv_iload_n hx hb dX6_readWord_80 rfl (lv_at hl 3 rfl) ?_
      refine lv_iload_n hx hb dX6_readWord_81 rfl (lv_at hl 2 rfl) ?_
      refine lv_icmp_ge (tgt := 115) hx hb dX6_readWord_82 (by decide) (fun c7 => ?_) (fun c7 => ?_)
      · replace hf := ifT c7 hf
        have e1 := Option.some.inj hf
        subst e1
        exact W.vret hx hb hr (fun t ht hWm => ⟨⟨rfl, by unfold QB; rw [ht]; exact ⟨hW, trivial⟩⟩, hS.F ht⟩) hS.2.2 dX6_readWord_115 hlk
      · replace hf := ifF c7 hf
        refine lv_aload_n hx hb dX6_readWord_85 rfl (lv_at hl 1 rfl) ?_
        refine lv_iload_n hx hb dX6_readWord_86 rfl (lv_at hl 3 rfl) ?_
        replace hf := ckiE hf
        obtain ⟨h8, hf⟩ := hf
        refine x_aaldK hC hGE hS h8 dX6_readWord_87 ?_
        refine lv_astore (lv' := [(4, .ref (gen g (Int32.toNatClampNeg v3))), (0, .ref (ad v0)), (1, .ref (gen g 15)), (2, .int v2), (3, .int v3)]) hx hb dX6_readWord_88 hl (by decide) rfl (fun ls hl => ?_)
        refine lv_aload hx hb dX6_readWord_90 (lv_at hl 0 rfl) ?_
        refine x_getW hC hGE hS (in15 h8) w_0 dX6_readWord_92 ?_
        refine lv_aload_n hx hb dX6_readWord_95 rfl (lv_at hl 1 rfl) ?_
        refine x_getl 507 (ci := 5) (C := RX6) (T := TX6) (N := 10) 7 hC hin6 hW tv0 rfl rfl ⟨by decide, by decide, rfl, rfl⟩ rfl w_1 dX6_readWord_96 ?_
        refine W.lcmp hx hb dX6_readWord_99 ?_
        refine lv_if_ne (tgt := 109) hx hb dX6_readWord_100 (by decide) (fun c9 => ?_) (fun c9 => ?_)
        · replace hf := ifT c9 hf
          exact L109 S0 v0 v2 v3 tv0 _ _ _ hf hW hS (lv_sub hl [1, 2, 3, 4] rfl)
        · replace hf := ifF (fun q => q c9) hf
          refine lv_aload_n hx hb dX6_readWord_103 rfl (lv_at hl 1 rfl) ?_
          refine lv_aload hx hb dX6_readWord_104 (lv_at hl 0 rfl) ?_
          refine x_pute (some (Int32.toNatClampNeg v3)) (cl := "MailSpool$Keyword") (ci := 5) (C := RX6) (T := TX6) (N := 10) 8 hC hin6 tyX6_ok nmX6 hW hS tv0 rfl rfl rfl ⟨by decide, by decide, rfl, rfl⟩ rfl w_2 rfl (by decide +kernel) dX6_readWord_106 (fun S10 H locs eS10 hW hS => ?_)
          replace hf := ltE hf S10 eS10
          exact L109 S10 v0 v2 v3 tv0 _ _ _ hf hW hS (lv_sub hl [1, 2, 3, 4] rfl)
  have L71 : ∀ (S0 : St) (v0 : Nat) (tv0 : v0 < n ∧ K v0 = 5) (H : Heap) (locs : List Loc) (ls : Array Slot), f_X6_readWord_L71 F S0 v0 = some S9 → Wb g ad n K S0 (dA ad n s.heap.size) H → va_S (dA ad n s.heap.size) s.heap H locs → lv_has ls 5 [(0, .ref (ad v0))] → W p l e (headSpec wsX6_readWord { frames := 1, cells := 0, slots := 0, locals := 22 }).room s m (List.toArray [.ref (ad p0)]) below meth c H locs 0 0 (MQ below (QR none (QB g ad n K S9 (dA ad n s.heap.size) (True)) (dA ad n s.heap.size)) (List.toArray [.ref (ad p0)]) s 0 0 (dA ad n s.heap.size)) (F0 m 71 ls []) := by
    intro S0 v0 tv0 H locs ls hf hW hS hl
    unfold f_X6_readWord_L71 at hf
    refine x_getsK hC hGE hS w_3 dX6_readWord_71 ?_
    refine lv_astore_n (lv' := [(1, .ref (gen g 15)), (0, .ref (ad v0))]) hx hb dX6_readWord_74 rfl hl (by decide) rfl (fun ls hl => ?_)
    refine lv_aload_n hx hb dX6_readWord_75 rfl (lv_at hl 0 rfl) ?_
    refine x_lenK hC hGE hS dX6_readWord_76 ?_
    refine lv_istore_n (lv' := [(2, .int 15), (1, .ref (gen g 15)), (0, .ref (ad v0))]) hx hb dX6_readWord_77 rfl hl (by decide) rfl (fun ls hl => ?_)
    refine lv_iconst (v := 0) hx hb dX6_readWord_78 (by decide) ?_
    refine lv_istore_n (lv' := [(3, .int 0), (2, .int 15), (1, .ref (gen g 15)), (0, .ref (ad v0))]) hx hb dX6_readWord_79 rfl hl (by decide) rfl (fun ls hl => ?_)
    exact L80 F S0 v0 15 0 tv0 _ _ _ hf hW hS (lv_sub hl [3, 2, 1, 0] rfl)
  have L5 : ∀ (fu5 : Nat) (S0 : St) (v0 : Nat) (tv0 : v0 < n ∧ K v0 = 5) (H : Heap) (locs : List Loc) (ls : Array Slot), f_X6_readWord_L5 F fu5 S0 v0 = some S9 → Wb g ad n K S0 (dA ad n s.heap.size) H → va_S (dA ad n s.heap.size) s.heap H locs → lv_has ls 5 [(0, .ref (ad v0))] → W p l e (headSpec wsX6_readWord { frames := 1, cells := 0, slots := 0, locals := 22 }).room s m (List.toArray [.ref (ad p0)]) below meth c H locs 0 0 (MQ below (QR none (QB g ad n K S9 (dA ad n s.heap.size) (True)) (dA ad n s.heap.size)) (List.toArray [.ref (ad p0)]) s 0 0 (dA ad n s.heap.size)) (F0 m 5 ls []) := by
    intro fu5
    induction fu5 with
    | zero =>
      intro S0 v0 tv0 H locs ls hf
      cases hf
    | succ fu5 ih5 =>
      intro S0 v0 tv0 H locs ls hf hW hS hl
      unfold f_X6_readWord_L5 at hf
      refine lv_aload_n hx hb dX6_readWord_5 rfl (lv_at hl 0 rfl) ?_
      refine x_geti 504 (ci := 5) (C := RX6) (T := TX6) (N := 10) 4 hC hin6 hW tv0 rfl rfl ⟨by decide, by decide, rfl, rfl⟩ rfl w_4 dX6_readWord_6 ?_
      refine lv_aload_n hx hb dX6_readWord_9 rfl (lv_at hl 0 rfl) ?_
      replace hf := obE hf
      obtain ⟨j34, qj34, hf⟩ := hf
      have tj34 := x_rt hW qj34 0 ⟨by decide, rfl⟩
      refine x_getr 500 (ci := 5) (C := RX6) (T := TX6) (N := 10) 0 hC hin6 hW tv0 rfl rfl ⟨by decide, by decide, rfl, rfl⟩ rfl w_5 dX6_readWord_10 qj34 ?_
      refine x_getiN 1 (ci := 0) (C := RX0) (T := TX0) (N := 2) 1 hC hin0 hW tj34 rfl rfl ⟨by decide, by decide, rfl, rfl⟩ rfl w_6 dX6_readWord_13 ?_
      refine lv_icmp_ge (tgt := 71) hx hb dX6_readWord_16 (by decide) (fun c35 => ?_) (fun c35 => ?_)
      · replace hf := ifT c35 hf
        exact L71 S0 v0 tv0 _ _ _ hf hW hS (lv_sub hl [0] rfl)
      · replace hf := ifF c35 hf
        refine lv_aload_n hx hb dX6_readWord_19 rfl (lv_at hl 0 rfl) ?_
        replace hf := obE hf
        obtain ⟨j36, qj36, hf⟩ := hf
        have tj36 := x_rt hW qj36 0 ⟨by decide, rfl⟩
        refine x_getr 500 (ci := 5) (C := RX6) (T := TX6) (N := 10) 0 hC hin6 hW tv0 rfl rfl ⟨by decide, by decide, rfl, rfl⟩ rfl w_5 dX6_readWord_20 qj36 ?_
        refine lv_aload_n hx hb dX6_readWord_23 rfl (lv_at hl 0 rfl) ?_
        refine x_geti 504 (ci := 5) (C := RX6) (T := TX6) (N := 10) 4 hC hin6 hW tv0 rfl rfl ⟨by decide, by decide, rfl, rfl⟩ rfl w_4 dX6_readWord_24 ?_
        replace hf := obE hf
        obtain ⟨z37, hz37, hf⟩ := hf
        obtain ⟨r39, S38⟩ := z37
        replace hf := ltE (ltE hf r39 rfl) S38 rfl
        refine x_callV (As := [.int (si S0 504 v0)]) (rest := []) (o := (some (.int r39))) (S1 := S38) hC hl.1 hW hS hGs hA tj36 rfl (show vwCl[0]? = some (RX0, TX0, 2) ∧ 0 < 11 from ⟨rfl, by decide⟩) (c_X0_byteAt l g ad n K H.size F S0 j36 (si S0 504 v0) tj36 r39 S38 hz37) (cwV 1 hts gX6_readWord_X0_byteAt rfl rfl rfl (by decide +kernel) ⟨Nat.le_of_ble_eq_true rfl, Nat.le_of_ble_eq_true rfl⟩) rfl rfl (Nat.le_of_ble_eq_true rfl) dX6_readWord_27 ⟨Nat.le_of_ble_eq_true rfl, Nat.le_of_ble_eq_true rfl⟩ (fun H locs hPz37 hW hS => ?_)
        refine W.eq (g2 := F0 m 30 ls [.int r39]) rfl ?_
        replace hf := obE hf
        obtain ⟨z41, hz41, hf⟩ := hf
        obtain ⟨r43, S42⟩ := z41
        replace hf := ltE (ltE hf r43 rfl) S42 rfl
        refine x_callSN (As := [.int r39]) (rest := []) (o := (some (.int r43))) (S1 := S42) hC hl.1 hW hS hGs hA (c_X10_isLetter l g ad n K H.size F S38 r39 r43 S42 hz41) ⟨va_cnB 1 hts gX6_readWord_X10_isLetter_n223 rfl rfl rfl (va_Nw.of rfl w_7) w_8 (by decide +kernel) ⟨Nat.le_of_ble_eq_true rfl, Nat.le_of_ble_eq_true rfl⟩, w_9, trivial⟩ rfl rfl (Nat.le_of_ble_eq_true rfl) dX6_readWord_30 ⟨Nat.le_of_ble_eq_true rfl, Nat.le_of_ble_eq_true rfl⟩ (fun H locs hPz41 hW hS => ?_)
        refine W.eq (g2 := F0 m 33 ls [.int r43]) rfl ?_
        refine lv_if_eq (tgt := 71) hx hb dX6_readWord_33 (by decide) (fun c45 => ?_) (fun c45 => ?_)
        · replace hf := ifT c45 hf
          exact L71 S42 v0 tv0 _ _ _ hf hW hS (lv_sub hl [0] rfl)
        · replace hf := ifF c45 hf
          refine lv_aload_n hx hb dX6_readWord_36 rfl (lv_at hl 0 rfl) ?_
          refine lv_aload_n hx hb dX6_readWord_37 rfl (lv_at hl 0 rfl) ?_
          refine x_getl 507 (ci := 5) (C := RX6) (T := TX6) (N := 10) 7 hC hin6 hW tv0 rfl rfl ⟨by decide, by decide, rfl, rfl⟩ rfl w_1 dX6_readWord_38 ?_
          refine lv_aload_n hx hb dX6_readWord_41 rfl (lv_at hl 0 rfl) ?_
          replace hf := obE hf
          obtain ⟨j46, qj46, hf⟩ := hf
          have tj46 := x_rt hW qj46 0 ⟨by decide, rfl⟩
          refine x_getr 500 (ci := 5) (C := RX6) (T := TX6) (N := 10) 0 hC hin6 hW tv0 rfl rfl ⟨by decide, by decide, rfl, rfl⟩ rfl w_5 dX6_readWord_42 qj46 ?_
          refine lv_aload_n hx hb dX6_readWord_45 rfl (lv_at hl 0 rfl) ?_
          refine x_geti 504 (ci := 5) (C := RX6) (T := TX6) (N := 10) 4 hC hin6 hW tv0 rfl rfl ⟨by decide, by decide, rfl, rfl⟩ rfl w_4 dX6_readWord_46 ?_
          replace hf := obE hf
          obtain ⟨z47, hz47, hf⟩ := hf
          obtain ⟨r49, S48⟩ := z47
          replace hf := ltE (ltE hf r49 rfl) S48 rfl
          refine x_callV (As := [.int (si S42 504 v0)]) (rest := [.long (sl S42 507 v0), .ref (ad v0)]) (o := (some (.int r49))) (S1 := S48) hC hl.1 hW hS hGs hA tj46 rfl (show vwCl[0]? = some (RX0, TX0, 2) ∧ 0 < 11 from ⟨rfl, by decide⟩) (c_X0_byteAt l g ad n K H.size F S42 j46 (si S42 504 v0) tj46 r49 S48 hz47) (cwV 1 hts gX6_readWord_X0_byteAt rfl rfl rfl (by decide +kernel) ⟨Nat.le_of_ble_eq_true rfl, Nat.le_of_ble_eq_true rfl⟩) rfl rfl (Nat.le_of_ble_eq_true rfl) dX6_readWord_49 ⟨Nat.le_of_ble_eq_true rfl, Nat.le_of_ble_eq_true rfl⟩ (fun H locs hPz47 hW hS => ?_)
          refine W.eq (g2 := F0 m 52 ls [.int r49, .long (sl S42 507 v0), .ref (ad v0)]) rfl ?_
          replace hf := obE hf
          obtain ⟨z51, hz51, hf⟩ := hf
          obtain ⟨r53, S52⟩ := z51
          replace hf := ltE (ltE hf r53 rfl) S52 rfl
          refine x_callSN (As := [.long (sl S42 507 v0), .int r49]) (rest := [.ref (ad v0)]) (o := (some (.long (r53)))) (S1 := S52) hC hl.1 hW hS hGs hA (c_X10_withLetter l g ad n K H.size F S48 (sl S42 507 v0) r49 r53 S52 hz51) ⟨va_cnB 2 hts gX6_readWord_X10_withLetter_n235 rfl rfl rfl (va_Nw.of rfl w_10) w_8 (by decide +kernel) ⟨Nat.le_of_ble_eq_true rfl, Nat.le_of_ble_eq_true rfl⟩, w_11, trivial⟩ rfl rfl (Nat.le_of_ble_eq_true rfl) dX6_readWord_52 ⟨Nat.le_of_ble_eq_true rfl, Nat.le_of_ble_eq_true rfl⟩ (fun H locs hPz51 hW hS => ?_)
          refine W.eq (g2 := F0 m 55 ls [.long (r53), .ref (ad v0)]) rfl ?_
          refine x_putl 507 (ci := 5) (C := RX6) (T := TX6) (N := 10) (v := r53) 7 hC hin6 tyX6_ok nmX6 hW hS tv0 rfl rfl ⟨by decide, by decide, rfl, rfl⟩ rfl w_1 rfl (by decide +kernel) dX6_readWord_55 (fun S55 H locs eS55 hW hS => ?_)
          replace hf := ltE hf S55 eS55
          refine lv_aload_n hx hb dX6_readWord_58 rfl (lv_at hl 0 rfl) ?_
          refine lv_dup hx hb dX6_readWord_59 rfl ?_
          refine x_geti 504 (ci := 5) (C := RX6) (T := TX6) (N := 10) 4 hC hin6 hW tv0 rfl rfl ⟨by decide, by decide, rfl, rfl⟩ rfl w_4 dX6_readWord_60 ?_
          refine lv_iconst (v := 1) hx hb dX6_readWord_63 (by decide) ?_
          refine lv_iadd hx hb dX6_readWord_64 ?_
          refine x_puti 504 (ci := 5) (C := RX6) (T := TX6) (N := 10) (v := (si S55 504 v0) + 1) (ty := .int) 4 hC hin6 tyX6_ok nmX6 hW hS tv0 rfl rfl ⟨by decide, by decide, rfl, rfl⟩ rfl w_4 rfl (by decide +kernel) rfl rfl dX6_readWord_65 (fun S56 H locs eS56 hW hS => ?_)
          replace hf := ltE hf S56 eS56
          refine lv_goto (tgt := 5) hx hb dX6_readWord_68 (by decide) ?_
          exact ih5 S56 v0 tv0 _ _ _ hf hW hS (lv_sub hl [0] rfl)
  unfold f_X6_readWord at hf
  refine lv_aload_n hx hb dX6_readWord_0 rfl (lv_at hl 0 rfl) ?_
  refine lv_iconst (v := 1) hx hb dX6_readWord_1 (by decide) ?_
  refine x_puti 506 (ci := 5) (C := RX6) (T := TX6) (N := 10) (v := 1) (ty := .int) 6 hC hin6 tyX6_ok nmX6 hW hS tp0 rfl rfl ⟨by decide, by decide, rfl, rfl⟩ rfl w_12 rfl (by decide +kernel) rfl rfl dX6_readWord_2 (fun S57 H locs eS57 hW hS => ?_)
  replace hf := ltE hf S57 eS57
  exact L5 F S57 p0 tp0 _ _ _ hf hW hS (lv_sub hl [0] rfl)
set_option maxHeartbeats 4000000 in
set_option maxRecDepth 100000 in
theorem c_X10_isDigit (l : Launch) (g : GP) (ad : Nat → Nat) (n : Nat) (K : Nat → Nat) (sz F : Nat) (S0 : St) (p0 : Int32) (r9 : Int32) (S9 : St) (hf : f_X10_isDigit F S0 p0 = some (r9, S9)) : Met l yX10_isDigit wsX10_isDigit { frames := 0, cells := 0, slots := 0, locals := 0 } (va_Pc [.int p0] (PB g ad n K S0 sz)) (QR (some (.int r9)) (QB g ad n K S9 (dA ad n sz) (True)) (dA ad n sz)) 0 0 (dA ad n sz) := by
  refine Met.ofW (cc := cX10_isDigit) (maxL := 1) (ret := (some .boolean)) (by decide) rfl ?_
  intro p e s m args below meth c s₁ B hml hv
  obtain ⟨rfl, hsz, hW, hK, hGs⟩ := x_start hv
  subst hsz
  have hx := B.exec
  have hb := B.bytes
  have hr := B.returns
  have hts := atoms_spec (ws := wsX10_isDigit) B.pre
  have hown : s.vm.findClass RX10 = some m.cls := findClass_of_methodNamed B.named
  have hlk := B.notSynchronized
  have hC : Cx g p s m _ c cX10_isDigit RX10 wsX10_isDigit 1 := ⟨hx, hb, hml, hown, hts, hK⟩
  have hA : ∀ q : Nat, s.heap.size ≤ q → dA ad n s.heap.size q := fun q h => Or.inr h
  have hS : va_S (dA ad n s.heap.size) s.heap s.heap [] := va_S.rf
  have hl := lv_entry ([.int p0]) (n := 1) (Nat.le_of_ble_eq_true rfl)
  rw [lg_entry_eq]
  generalize (lg_sl ([.int p0]) ++ List.replicate (1 - (lg_sl ([.int p0])).length) Slot.unset).toArray = ls at hl ⊢
  have hl : lv_has ls 1 [(0, .int p0)] := hl
  have hGE := hGs.2.2.2.2.2.2.1
  have hGM := hGs.2.2.2.2.2.2.2.1
  unfold f_X10_isDigit at hf
  refine lv_iload_n hx hb dX10_isDigit_0 rfl (lv_at hl 0 rfl) ?_
  refine lv_bipush (v := 48) hx hb dX10_isDigit_1 (by decide) ?_
  refine lv_icmp_lt (tgt := 16) hx hb dX10_isDigit_3 (by decide) (fun c1 => ?_) (fun c1 => ?_)
  · replace hf := ifT c1 hf
    refine lv_iconst (v := 0) hx hb dX10_isDigit_16 (by decide) ?_
    obtain ⟨e1, e2⟩ := so2 hf
    subst e1
    subst e2
    exact W.zret (v := 0) hx hb hr rfl (fun t ht hWm => ⟨⟨rfl, by unfold QB; rw [ht]; exact ⟨hW, trivial⟩⟩, hS.F ht⟩) hS.2.2 dX10_isDigit_17 hlk
  · replace hf := ifF c1 hf
    refine lv_iload_n hx hb dX10_isDigit_6 rfl (lv_at hl 0 rfl) ?_
    refine lv_bipush (v := 57) hx hb dX10_isDigit_7 (by decide) ?_
    refine lv_icmp_gt (tgt := 16) hx hb dX10_isDigit_9 (by decide) (fun c2 => ?_) (fun c2 => ?_)
    · replace hf := ifT c2 hf
      refine lv_iconst (v := 0) hx hb dX10_isDigit_16 (by decide) ?_
      obtain ⟨e1, e2⟩ := so2 hf
      subst e1
      subst e2
      exact W.zret (v := 0) hx hb hr rfl (fun t ht hWm => ⟨⟨rfl, by unfold QB; rw [ht]; exact ⟨hW, trivial⟩⟩, hS.F ht⟩) hS.2.2 dX10_isDigit_17 hlk
    · replace hf := ifF c2 hf
      refine lv_iconst (v := 1) hx hb dX10_isDigit_12 (by decide) ?_
      refine lv_goto (tgt := 17) hx hb dX10_isDigit_13 (by decide) ?_
      obtain ⟨e1, e2⟩ := so2 hf
      subst e1
      subst e2
      exact W.zret (v := 1) hx hb hr rfl (fun t ht hWm => ⟨⟨rfl, by unfold QB; rw [ht]; exact ⟨hW, trivial⟩⟩, hS.F ht⟩) hS.2.2 dX10_isDigit_17 hlk
set_option maxHeartbeats 4000000 in
set_option maxRecDepth 100000 in
theorem c_X6_readNumber (l : Launch) (g : GP) (ad : Nat → Nat) (n : Nat) (K : Nat → Nat) (sz F : Nat) (S0 : St) (p0 : Nat) (tp0 : p0 < n ∧ K p0 = 5) (S9 : St) (hf : f_X6_readNumber F S0 p0 = some S9) : Met l yX6_readNumber wsX6_readNumber { frames := 1, cells := 0, slots := 0, locals := 21 } (va_Pc [.ref (ad p0)] (PB g ad n K S0 sz)) (QR none (QB g ad n K S9 (dA ad n sz) (True)) (dA ad n sz)) 0 0 (dA ad n sz) := by
  refine Met.ofW (cc := cX6_readNumber) (maxL := 1) (ret := none) (by decide) rfl ?_
  intro p e s m args below meth c s₁ B hml hv
  obtain ⟨rfl, hsz, hW, hK, hGs⟩ := x_start hv
  subst hsz
  have hx := B.exec
  have hb := B.bytes
  have hr := B.returns
  have hts := atoms_spec (ws := wsX6_readNumber) B.pre
  have hown : s.vm.findClass RX6 = some m.cls := findClass_of_methodNamed B.named
  have hlk := B.notSynchronized
  have hC : Cx g p s m _ c cX6_readNumber RX6 wsX6_readNumber 1 := ⟨hx, hb, hml, hown, hts, hK⟩
  have hA : ∀ q : Nat, s.heap.size ≤ q → dA ad n s.heap.size q := fun q h => Or.inr h
  have hS : va_S (dA ad n s.heap.size) s.heap s.heap [] := va_S.rf
  have hl := lv_entry ([.ref (ad p0)]) (n := 1) (Nat.le_of_ble_eq_true rfl)
  rw [lg_entry_eq]
  generalize (lg_sl ([.ref (ad p0)]) ++ List.replicate (1 - (lg_sl ([.ref (ad p0)])).length) Slot.unset).toArray = ls at hl ⊢
  have hl : lv_has ls 1 [(0, .ref (ad p0))] := hl
  have hin0 : ∀ w ∈ wsX00, w ∈ wsX6_readNumber := by decide +kernel
  have hin6 : ∀ w ∈ wsX60, w ∈ wsX6_readNumber := by decide +kernel
  have w_0 := hts (.fieldLink RX6 213 "MailSpool$Parser" "position" "I") (by decide +kernel)
  have w_1 := hts (.fieldLink RX6 9 "MailSpool$Parser" "text" "LMailSpool$Bytes;") (by decide +kernel)
  have w_2 := va_Nw.use (A := (List.toArray [.ref (ad p0)])) rfl (hGs.1 (.fieldLinkNest RX6 33 "MailSpool$Bytes" "size" "I" "MailSpool") (by decide +kernel))
  have w_3 := va_Nw.use (A := (List.toArray [.ref (ad p0)])) rfl (hGs.1 (.methodLinkNest RX6 229 yX10_isDigit "MailSpool") (by decide +kernel))
  have w_4 := hts (.initialized RX10) (by decide +kernel)
  have w_5 := hts (.static yX10_isDigit) (by decide +kernel)
  have w_6 := hts (.constant RX6 244 (10000000)) (by decide +kernel)
  have w_7 := hts (.fieldLink RX6 187 "MailSpool$Parser" "value" "I") (by decide +kernel)
  have w_8 := hts (.methodLink RX6 245 Lib.Math.min.name) (by decide +kernel)
  have w_9 := hts (.static Lib.Math.min.name) (by decide +kernel)
  have w_10 := hts (.initialized "java/lang/Math") (by decide +kernel)
  have w_11 := hts (.code Lib.Math.min.name Lib.Math.min.code 2 (some .int)) (by decide +kernel)
  have w_12 := hts (.fieldLink RX6 38 "MailSpool$Parser" "kind" "I") (by decide +kernel)
  have hGE := hGs.2.2.2.2.2.2.1
  have hGM := hGs.2.2.2.2.2.2.2.1
  have L5 : ∀ (fu5 : Nat) (S0 : St) (v0 : Nat) (tv0 : v0 < n ∧ K v0 = 5) (H : Heap) (locs : List Loc) (ls : Array Slot), f_X6_readNumber_L5 F fu5 S0 v0 = some S9 → Wb g ad n K S0 (dA ad n s.heap.size) H → va_S (dA ad n s.heap.size) s.heap H locs → lv_has ls 1 [(0, .ref (ad v0))] → W p l e (headSpec wsX6_readNumber { frames := 1, cells := 0, slots := 0, locals := 21 }).room s m (List.toArray [.ref (ad p0)]) below meth c H locs 0 0 (MQ below (QR none (QB g ad n K S9 (dA ad n s.heap.size) (True)) (dA ad n s.heap.size)) (List.toArray [.ref (ad p0)]) s 0 0 (dA ad n s.heap.size)) (F0 m 5 ls []) := by
    intro fu5
    induction fu5 with
    | zero =>
      intro S0 v0 tv0 H locs ls hf
      cases hf
    | succ fu5 ih5 =>
      intro S0 v0 tv0 H locs ls hf hW hS hl
      unfold f_X6_readNumber_L5 at hf
      refine lv_aload_n hx hb dX6_readNumber_5 rfl (lv_at hl 0 rfl) ?_
      refine x_geti 504 (ci := 5) (C := RX6) (T := TX6) (N := 10) 4 hC hin6 hW tv0 rfl rfl ⟨by decide, by decide, rfl, rfl⟩ rfl w_0 dX6_readNumber_6 ?_
      refine lv_aload_n hx hb dX6_readNumber_9 rfl (lv_at hl 0 rfl) ?_
      replace hf := obE hf
      obtain ⟨j20, qj20, hf⟩ := hf
      have tj20 := x_rt hW qj20 0 ⟨by decide, rfl⟩
      refine x_getr 500 (ci := 5) (C := RX6) (T := TX6) (N := 10) 0 hC hin6 hW tv0 rfl rfl ⟨by decide, by decide, rfl, rfl⟩ rfl w_1 dX6_readNumber_10 qj20 ?_
      refine x_getiN 1 (ci := 0) (C := RX0) (T := TX0) (N := 2) 1 hC hin0 hW tj20 rfl rfl ⟨by decide, by decide, rfl, rfl⟩ rfl w_2 dX6_readNumber_13 ?_
      refine lv_icmp_ge (tgt := 80) hx hb dX6_readNumber_16 (by decide) (fun c21 => ?_) (fun c21 => ?_)
      · replace hf := ifT c21 hf
        have e1 := Option.some.inj hf
        subst e1
        exact W.vret hx hb hr (fun t ht hWm => ⟨⟨rfl, by unfold QB; rw [ht]; exact ⟨hW, trivial⟩⟩, hS.F ht⟩) hS.2.2 dX6_readNumber_80 hlk
      · replace hf := ifF c21 hf
        refine lv_aload_n hx hb dX6_readNumber_19 rfl (lv_at hl 0 rfl) ?_
        replace hf := obE hf
        obtain ⟨j22, qj22, hf⟩ := hf
        have tj22 := x_rt hW qj22 0 ⟨by decide, rfl⟩
        refine x_getr 500 (ci := 5) (C := RX6) (T := TX6) (N := 10) 0 hC hin6 hW tv0 rfl rfl ⟨by decide, by decide, rfl, rfl⟩ rfl w_1 dX6_readNumber_20 qj22 ?_
        refine lv_aload_n hx hb dX6_readNumber_23 rfl (lv_at hl 0 rfl) ?_
        refine x_geti 504 (ci := 5) (C := RX6) (T := TX6) (N := 10) 4 hC hin6 hW tv0 rfl rfl ⟨by decide, by decide, rfl, rfl⟩ rfl w_0 dX6_readNumber_24 ?_
        replace hf := obE hf
        obtain ⟨z23, hz23, hf⟩ := hf
        obtain ⟨r25, S24⟩ := z23
        replace hf := ltE (ltE hf r25 rfl) S24 rfl
        refine x_callV (As := [.int (si S0 504 v0)]) (rest := []) (o := (some (.int r25))) (S1 := S24) hC hl.1 hW hS hGs hA tj22 rfl (show vwCl[0]? = some (RX0, TX0, 2) ∧ 0 < 11 from ⟨rfl, by decide⟩) (c_X0_byteAt l g ad n K H.size F S0 j22 (si S0 504 v0) tj22 r25 S24 hz23) (cwV 1 hts gX6_readNumber_X0_byteAt rfl rfl rfl (by decide +kernel) ⟨Nat.le_of_ble_eq_true rfl, Nat.le_of_ble_eq_true rfl⟩) rfl rfl (Nat.le_of_ble_eq_true rfl) dX6_readNumber_27 ⟨Nat.le_of_ble_eq_true rfl, Nat.le_of_ble_eq_true rfl⟩ (fun H locs hPz23 hW hS => ?_)
        refine W.eq (g2 := F0 m 30 ls [.int r25]) rfl ?_
        replace hf := obE hf
        obtain ⟨z27, hz27, hf⟩ := hf
        obtain ⟨r29, S28⟩ := z27
        replace hf := ltE (ltE hf r29 rfl) S28 rfl
        refine x_callSN (As := [.int r25]) (rest := []) (o := (some (.int r29))) (S1 := S28) hC hl.1 hW hS hGs hA (c_X10_isDigit l g ad n K H.size F S24 r25 r29 S28 hz27) ⟨va_cnB 1 hts gX6_readNumber_X10_isDigit_n229 rfl rfl rfl (va_Nw.of rfl w_3) w_4 (by decide +kernel) ⟨Nat.le_of_ble_eq_true rfl, Nat.le_of_ble_eq_true rfl⟩, w_5, trivial⟩ rfl rfl (Nat.le_of_ble_eq_true rfl) dX6_readNumber_30 ⟨Nat.le_of_ble_eq_true rfl, Nat.le_of_ble_eq_true rfl⟩ (fun H locs hPz27 hW hS => ?_)
        refine W.eq (g2 := F0 m 33 ls [.int r29]) rfl ?_
        refine lv_if_eq (tgt := 80) hx hb dX6_readNumber_33 (by decide) (fun c31 => ?_) (fun c31 => ?_)
        · replace hf := ifT c31 hf
          have e1 := Option.some.inj hf
          subst e1
          exact W.vret hx hb hr (fun t ht hWm => ⟨⟨rfl, by unfold QB; rw [ht]; exact ⟨hW, trivial⟩⟩, hS.F ht⟩) hS.2.2 dX6_readNumber_80 hlk
        · replace hf := ifF c31 hf
          refine lv_aload_n hx hb dX6_readNumber_36 rfl (lv_at hl 0 rfl) ?_
          refine lv_ldc (v := 10000000) hx hb hown w_6 dX6_readNumber_37 ?_
          refine lv_aload_n hx hb dX6_readNumber_39 rfl (lv_at hl 0 rfl) ?_
          refine x_geti 509 (ci := 5) (C := RX6) (T := TX6) (N := 10) 9 hC hin6 hW tv0 rfl rfl ⟨by decide, by decide, rfl, rfl⟩ rfl w_7 dX6_readNumber_40 ?_
          refine lv_bipush (v := 10) hx hb dX6_readNumber_43 (by decide) ?_
          refine lv_imul hx hb dX6_readNumber_45 ?_
          refine lv_aload_n hx hb dX6_readNumber_46 rfl (lv_at hl 0 rfl) ?_
          replace hf := obE hf
          obtain ⟨j32, qj32, hf⟩ := hf
          have tj32 := x_rt hW qj32 0 ⟨by decide, rfl⟩
          refine x_getr 500 (ci := 5) (C := RX6) (T := TX6) (N := 10) 0 hC hin6 hW tv0 rfl rfl ⟨by decide, by decide, rfl, rfl⟩ rfl w_1 dX6_readNumber_47 qj32 ?_
          refine lv_aload_n hx hb dX6_readNumber_50 rfl (lv_at hl 0 rfl) ?_
          refine x_geti 504 (ci := 5) (C := RX6) (T := TX6) (N := 10) 4 hC hin6 hW tv0 rfl rfl ⟨by decide, by decide, rfl, rfl⟩ rfl w_0 dX6_readNumber_51 ?_
          replace hf := obE hf
          obtain ⟨z33, hz33, hf⟩ := hf
          obtain ⟨r35, S34⟩ := z33
          replace hf := ltE (ltE hf r35 rfl) S34 rfl
          refine x_callV (As := [.int (si S28 504 v0)]) (rest := [.int ((si S28 509 v0) * 10), .int 10000000, .ref (ad v0)]) (o := (some (.int r35))) (S1 := S34) hC hl.1 hW hS hGs hA tj32 rfl (show vwCl[0]? = some (RX0, TX0, 2) ∧ 0 < 11 from ⟨rfl, by decide⟩) (c_X0_byteAt l g ad n K H.size F S28 j32 (si S28 504 v0) tj32 r35 S34 hz33) (cwV 1 hts gX6_readNumber_X0_byteAt rfl rfl rfl (by decide +kernel) ⟨Nat.le_of_ble_eq_true rfl, Nat.le_of_ble_eq_true rfl⟩) rfl rfl (Nat.le_of_ble_eq_true rfl) dX6_readNumber_54 ⟨Nat.le_of_ble_eq_true rfl, Nat.le_of_ble_eq_true rfl⟩ (fun H locs hPz33 hW hS => ?_)
          refine W.eq (g2 := F0 m 57 ls [.int r35, .int ((si S28 509 v0) * 10), .int 10000000, .ref (ad v0)]) rfl ?_
          refine lv_bipush (v := 48) hx hb dX6_readNumber_57 (by decide) ?_
          refine lv_isub hx hb dX6_readNumber_59 ?_
          refine lv_iadd hx hb dX6_readNumber_60 ?_
          refine va_mmin hx hb (hml.trans hl.1.symm) hown w_8 w_9 w_10 w_11 (Nat.le_of_ble_eq_true rfl) (Nat.le_of_ble_eq_true rfl) (Nat.zero_le _) (Nat.zero_le _) dX6_readNumber_61 ?_
          refine x_puti 509 (ci := 5) (C := RX6) (T := TX6) (N := 10) (v := if (((si S28 509 v0) * 10) + (r35 - 48)) < (10000000 : Int32) then (((si S28 509 v0) * 10) + (r35 - 48)) else (10000000 : Int32)) (ty := .int) 9 hC hin6 tyX6_ok nmX6 hW hS tv0 rfl rfl ⟨by decide, by decide, rfl, rfl⟩ rfl w_7 rfl (by decide +kernel) rfl rfl dX6_readNumber_64 (fun S37 H locs eS37 hW hS => ?_)
          replace hf := ltE hf S37 eS37
          refine lv_aload_n hx hb dX6_readNumber_67 rfl (lv_at hl 0 rfl) ?_
          refine lv_dup hx hb dX6_readNumber_68 rfl ?_
          refine x_geti 504 (ci := 5) (C := RX6) (T := TX6) (N := 10) 4 hC hin6 hW tv0 rfl rfl ⟨by decide, by decide, rfl, rfl⟩ rfl w_0 dX6_readNumber_69 ?_
          refine lv_iconst (v := 1) hx hb dX6_readNumber_72 (by decide) ?_
          refine lv_iadd hx hb dX6_readNumber_73 ?_
          refine x_puti 504 (ci := 5) (C := RX6) (T := TX6) (N := 10) (v := (si S37 504 v0) + 1) (ty := .int) 4 hC hin6 tyX6_ok nmX6 hW hS tv0 rfl rfl ⟨by decide, by decide, rfl, rfl⟩ rfl w_0 rfl (by decide +kernel) rfl rfl dX6_readNumber_74 (fun S38 H locs eS38 hW hS => ?_)
          replace hf := ltE hf S38 eS38
          refine lv_goto (tgt := 5) hx hb dX6_readNumber_77 (by decide) ?_
          exact ih5 S38 v0 tv0 _ _ _ hf hW hS (lv_sub hl [0] rfl)
  unfold f_X6_readNumber at hf
  refine lv_aload_n hx hb dX6_readNumber_0 rfl (lv_at hl 0 rfl) ?_
  refine lv_iconst (v := 2) hx hb dX6_readNumber_1 (by decide) ?_
  refine x_puti 506 (ci := 5) (C := RX6) (T := TX6) (N := 10) (v := 2) (ty := .int) 6 hC hin6 tyX6_ok nmX6 hW hS tp0 rfl rfl ⟨by decide, by decide, rfl, rfl⟩ rfl w_12 rfl (by decide +kernel) rfl rfl dX6_readNumber_2 (fun S39 H locs eS39 hW hS => ?_)
  replace hf := ltE hf S39 eS39
  exact L5 F S39 p0 tp0 _ _ _ hf hW hS (lv_sub hl [0] rfl)
set_option maxHeartbeats 4000000 in
set_option maxRecDepth 100000 in
theorem c_X6_nextToken (l : Launch) (g : GP) (ad : Nat → Nat) (n : Nat) (K : Nat → Nat) (sz F : Nat) (S0 : St) (p0 : Nat) (tp0 : p0 < n ∧ K p0 = 5) (S9 : St) (hf : f_X6_nextToken F S0 p0 = some S9) : Met l yX6_nextToken wsX6_nextToken { frames := 2, cells := 0, slots := 0, locals := 46 } (va_Pc [.ref (ad p0)] (PB g ad n K S0 sz)) (QR none (QB g ad n K S9 (dA ad n sz) (True)) (dA ad n sz)) 0 0 (dA ad n sz) := by
  refine Met.ofW (cc := cX6_nextToken) (maxL := 2) (ret := none) (by decide) rfl ?_
  intro p e s m args below meth c s₁ B hml hv
  obtain ⟨rfl, hsz, hW, hK, hGs⟩ := x_start hv
  subst hsz
  have hx := B.exec
  have hb := B.bytes
  have hr := B.returns
  have hts := atoms_spec (ws := wsX6_nextToken) B.pre
  have hown : s.vm.findClass RX6 = some m.cls := findClass_of_methodNamed B.named
  have hlk := B.notSynchronized
  have hC : Cx g p s m _ c cX6_nextToken RX6 wsX6_nextToken 2 := ⟨hx, hb, hml, hown, hts, hK⟩
  have hA : ∀ q : Nat, s.heap.size ≤ q → dA ad n s.heap.size q := fun q h => Or.inr h
  have hS : va_S (dA ad n s.heap.size) s.heap s.heap [] := va_S.rf
  have hl := lv_entry ([.ref (ad p0)]) (n := 2) (Nat.le_of_ble_eq_true rfl)
  rw [lg_entry_eq]
  generalize (lg_sl ([.ref (ad p0)]) ++ List.replicate (2 - (lg_sl ([.ref (ad p0)])).length) Slot.unset).toArray = ls at hl ⊢
  have hl : lv_has ls 2 [(0, .ref (ad p0))] := hl
  have hin0 : ∀ w ∈ wsX00, w ∈ wsX6_nextToken := by decide +kernel
  have hin6 : ∀ w ∈ wsX60, w ∈ wsX6_nextToken := by decide +kernel
  have w_0 := hts (.fieldLink RX6 213 "MailSpool$Parser" "position" "I") (by decide +kernel)
  have w_1 := hts (.fieldLink RX6 184 "MailSpool$Parser" "start" "I") (by decide +kernel)
  have w_2 := hts (.fieldLink RX6 41 "MailSpool$Parser" "keyword" "LMailSpool$Keyword;") (by decide +kernel)
  have w_3 := hts (.fieldLink RX6 190 "MailSpool$Parser" "word" "J") (by decide +kernel)
  have w_4 := hts (.fieldLink RX6 187 "MailSpool$Parser" "value" "I") (by decide +kernel)
  have w_5 := hts (.fieldLink RX6 9 "MailSpool$Parser" "text" "LMailSpool$Bytes;") (by decide +kernel)
  have w_6 := va_Nw.use (A := (List.toArray [.ref (ad p0)])) rfl (hGs.1 (.fieldLinkNest RX6 33 "MailSpool$Bytes" "size" "I" "MailSpool") (by decide +kernel))
  have w_7 := va_Nw.use (A := (List.toArray [.ref (ad p0)])) rfl (hGs.1 (.methodLinkNest RX6 223 yX10_isLetter "MailSpool") (by decide +kernel))
  have w_8 := hts (.initialized RX10) (by decide +kernel)
  have w_9 := hts (.static yX10_isLetter) (by decide +kernel)
  have w_10 := va_Nw.use (A := (List.toArray [.ref (ad p0)])) rfl (hGs.1 (.methodLinkNest RX6 229 yX10_isDigit "MailSpool") (by decide +kernel))
  have w_11 := hts (.static yX10_isDigit) (by decide +kernel)
  have w_12 := hts (.fieldLink RX6 38 "MailSpool$Parser" "kind" "I") (by decide +kernel)
  have hGE := hGs.2.2.2.2.2.2.1
  have hGM := hGs.2.2.2.2.2.2.2.1
  have L44 : ∀ (S0 : St) (v0 : Nat) (tv0 : v0 < n ∧ K v0 = 5) (H : Heap) (locs : List Loc) (ls : Array Slot), f_X6_nextToken_L44 F S0 v0 = some S9 → Wb g ad n K S0 (dA ad n s.heap.size) H → va_S (dA ad n s.heap.size) s.heap H locs → lv_has ls 2 [(0, .ref (ad v0))] → W p l e (headSpec wsX6_nextToken { frames := 2, cells := 0, slots := 0, locals := 46 }).room s m (List.toArray [.ref (ad p0)]) below meth c H locs 0 0 (MQ below (QR none (QB g ad n K S9 (dA ad n s.heap.size) (True)) (dA ad n s.heap.size)) (List.toArray [.ref (ad p0)]) s 0 0 (dA ad n s.heap.size)) (F0 m 44 ls []) := by
    intro S0 v0 tv0 H locs ls hf hW hS hl
    unfold f_X6_nextToken_L44 at hf
    refine lv_aload_n hx hb dX6_nextToken_44 rfl (lv_at hl 0 rfl) ?_
    refine lv_aload_n hx hb dX6_nextToken_45 rfl (lv_at hl 0 rfl) ?_
    refine x_geti 504 (ci := 5) (C := RX6) (T := TX6) (N := 10) 4 hC hin6 hW tv0 rfl rfl ⟨by decide, by decide, rfl, rfl⟩ rfl w_0 dX6_nextToken_46 ?_
    refine x_puti 505 (ci := 5) (C := RX6) (T := TX6) (N := 10) (v := si S0 504 v0) (ty := .int) 5 hC hin6 tyX6_ok nmX6 hW hS tv0 rfl rfl ⟨by decide, by decide, rfl, rfl⟩ rfl w_1 rfl (by decide +kernel) rfl rfl dX6_nextToken_49 (fun S34 H locs eS34 hW hS => ?_)
    replace hf := ltE hf S34 eS34
    refine lv_aload_n hx hb dX6_nextToken_52 rfl (lv_at hl 0 rfl) ?_
    refine lv_null hx hb dX6_nextToken_53 ?_
    refine x_pute none (cl := "MailSpool$Keyword") (ci := 5) (C := RX6) (T := TX6) (N := 10) 8 hC hin6 tyX6_ok nmX6 hW hS tv0 rfl rfl rfl ⟨by decide, by decide, rfl, rfl⟩ rfl w_2 rfl (by decide +kernel) dX6_nextToken_54 (fun S35 H locs eS35 hW hS => ?_)
    replace hf := ltE hf S35 eS35
    refine lv_aload_n hx hb dX6_nextToken_57 rfl (lv_at hl 0 rfl) ?_
    refine lv_lconst (v := 0) hx hb dX6_nextToken_58 (by decide) ?_
    refine x_putl 507 (ci := 5) (C := RX6) (T := TX6) (N := 10) (v := 0) 7 hC hin6 tyX6_ok nmX6 hW hS tv0 rfl rfl ⟨by decide, by decide, rfl, rfl⟩ rfl w_3 rfl (by decide +kernel) dX6_nextToken_59 (fun S36 H locs eS36 hW hS => ?_)
    replace hf := ltE hf S36 eS36
    refine lv_aload_n hx hb dX6_nextToken_62 rfl (lv_at hl 0 rfl) ?_
    refine lv_iconst (v := 0) hx hb dX6_nextToken_63 (by decide) ?_
    refine x_puti 509 (ci := 5) (C := RX6) (T := TX6) (N := 10) (v := 0) (ty := .int) 9 hC hin6 tyX6_ok nmX6 hW hS tv0 rfl rfl ⟨by decide, by decide, rfl, rfl⟩ rfl w_4 rfl (by decide +kernel) rfl rfl dX6_nextToken_64 (fun S37 H locs eS37 hW hS => ?_)
    replace hf := ltE hf S37 eS37
    refine lv_aload_n hx hb dX6_nextToken_67 rfl (lv_at hl 0 rfl) ?_
    replace hf := obE hf
    obtain ⟨j38, qj38, hf⟩ := hf
    have tj38 := x_rt hW qj38 0 ⟨by decide, rfl⟩
    refine x_getr 500 (ci := 5) (C := RX6) (T := TX6) (N := 10) 0 hC hin6 hW tv0 rfl rfl ⟨by decide, by decide, rfl, rfl⟩ rfl w_5 dX6_nextToken_68 qj38 ?_
    refine lv_aload_n hx hb dX6_nextToken_71 rfl (lv_at hl 0 rfl) ?_
    refine x_geti 504 (ci := 5) (C := RX6) (T := TX6) (N := 10) 4 hC hin6 hW tv0 rfl rfl ⟨by decide, by decide, rfl, rfl⟩ rfl w_0 dX6_nextToken_72 ?_
    replace hf := obE hf
    obtain ⟨z39, hz39, hf⟩ := hf
    obtain ⟨r41, S40⟩ := z39
    replace hf := ltE (ltE hf r41 rfl) S40 rfl
    refine x_callV (As := [.int (si S37 504 v0)]) (rest := []) (o := (some (.int r41))) (S1 := S40) hC hl.1 hW hS hGs hA tj38 rfl (show vwCl[0]? = some (RX0, TX0, 2) ∧ 0 < 11 from ⟨rfl, by decide⟩) (c_X0_byteAt l g ad n K H.size F S37 j38 (si S37 504 v0) tj38 r41 S40 hz39) (cwV 1 hts gX6_nextToken_X0_byteAt rfl rfl rfl (by decide +kernel) ⟨Nat.le_of_ble_eq_true rfl, Nat.le_of_ble_eq_true rfl⟩) rfl rfl (Nat.le_of_ble_eq_true rfl) dX6_nextToken_75 ⟨Nat.le_of_ble_eq_true rfl, Nat.le_of_ble_eq_true rfl⟩ (fun H locs hPz39 hW hS => ?_)
    refine W.eq (g2 := F0 m 78 ls [.int r41]) rfl ?_
    refine lv_istore_n (lv' := [(1, .int r41), (0, .ref (ad v0))]) hx hb dX6_nextToken_78 rfl hl (by decide) rfl (fun ls hl => ?_)
    refine lv_aload_n hx hb dX6_nextToken_79 rfl (lv_at hl 1 rfl) ?_
    refine x_geti 504 (ci := 5) (C := RX6) (T := TX6) (N := 10) 4 hC hin6 hW tv0 rfl rfl ⟨by decide, by decide, rfl, rfl⟩ rfl w_0 dX6_nextToken_80 ?_
    refine lv_aload_n hx hb dX6_nextToken_83 rfl (lv_at hl 1 rfl) ?_
    replace hf := obE hf
    obtain ⟨j43, qj43, hf⟩ := hf
    have tj43 := x_rt hW qj43 0 ⟨by decide, rfl⟩
    refine x_getr 500 (ci := 5) (C := RX6) (T := TX6) (N := 10) 0 hC hin6 hW tv0 rfl rfl ⟨by decide, by decide, rfl, rfl⟩ rfl w_5 dX6_nextToken_84 qj43 ?_
    refine x_getiN 1 (ci := 0) (C := RX0) (T := TX0) (N := 2) 1 hC hin0 hW tj43 rfl rfl ⟨by decide, by decide, rfl, rfl⟩ rfl w_6 dX6_nextToken_87 ?_
    refine lv_icmp_lt (tgt := 101) hx hb dX6_nextToken_90 (by decide) (fun c44 => ?_) (fun c44 => ?_)
    · replace hf := ifT c44 hf
      refine lv_iload_n hx hb dX6_nextToken_101 rfl (lv_at hl 0 rfl) ?_
      replace hf := obE hf
      obtain ⟨z45, hz45, hf⟩ := hf
      obtain ⟨r47, S46⟩ := z45
      replace hf := ltE (ltE hf r47 rfl) S46 rfl
      refine x_callSN (As := [.int r41]) (rest := []) (o := (some (.int r47))) (S1 := S46) hC hl.1 hW hS hGs hA (c_X10_isLetter l g ad n K H.size F S40 r41 r47 S46 hz45) ⟨va_cnB 1 hts gX6_nextToken_X10_isLetter_n223 rfl rfl rfl (va_Nw.of rfl w_7) w_8 (by decide +kernel) ⟨Nat.le_of_ble_eq_true rfl, Nat.le_of_ble_eq_true rfl⟩, w_9, trivial⟩ rfl rfl (Nat.le_of_ble_eq_true rfl) dX6_nextToken_102 ⟨Nat.le_of_ble_eq_true rfl, Nat.le_of_ble_eq_true rfl⟩ (fun H locs hPz45 hW hS => ?_)
      refine W.eq (g2 := F0 m 105 ls [.int r47]) rfl ?_
      refine lv_if_eq (tgt := 115) hx hb dX6_nextToken_105 (by decide) (fun c49 => ?_) (fun c49 => ?_)
      · replace hf := ifT c49 hf
        refine lv_iload_n hx hb dX6_nextToken_115 rfl (lv_at hl 0 rfl) ?_
        replace hf := obE hf
        obtain ⟨z50, hz50, hf⟩ := hf
        obtain ⟨r52, S51⟩ := z50
        replace hf := ltE (ltE hf r52 rfl) S51 rfl
        refine x_callSN (As := [.int r41]) (rest := []) (o := (some (.int r52))) (S1 := S51) hC hl.1 hW hS hGs hA (c_X10_isDigit l g ad n K H.size F S46 r41 r52 S51 hz50) ⟨va_cnB 1 hts gX6_nextToken_X10_isDigit_n229 rfl rfl rfl (va_Nw.of rfl w_10) w_8 (by decide +kernel) ⟨Nat.le_of_ble_eq_true rfl, Nat.le_of_ble_eq_true rfl⟩, w_11, trivial⟩ rfl rfl (Nat.le_of_ble_eq_true rfl) dX6_nextToken_116 ⟨Nat.le_of_ble_eq_true rfl, Nat.le_of_ble_eq_true rfl⟩ (fun H locs hPz50 hW hS => ?_)
        refine W.eq (g2 := F0 m 119 ls [.int r52]) rfl ?_
        refine lv_if_eq (tgt := 129) hx hb dX6_nextToken_119 (by decide) (fun c54 => ?_) (fun c54 => ?_)
        · replace hf := ifT c54 hf
          refine lv_aload_n hx hb dX6_nextToken_129 rfl (lv_at hl 1 rfl) ?_
          refine lv_iconst (v := 3) hx hb dX6_nextToken_130 (by decide) ?_
          refine x_puti 506 (ci := 5) (C := RX6) (T := TX6) (N := 10) (v := 3) (ty := .int) 6 hC hin6 tyX6_ok nmX6 hW hS tv0 rfl rfl ⟨by decide, by decide, rfl, rfl⟩ rfl w_12 rfl (by decide +kernel) rfl rfl dX6_nextToken_131 (fun S55 H locs eS55 hW hS => ?_)
          replace hf := ltE hf S55 eS55
          refine lv_aload_n hx hb dX6_nextToken_134 rfl (lv_at hl 1 rfl) ?_
          refine lv_iload_n hx hb dX6_nextToken_135 rfl (lv_at hl 0 rfl) ?_
          refine x_puti 509 (ci := 5) (C := RX6) (T := TX6) (N := 10) (v := r41) (ty := .int) 9 hC hin6 tyX6_ok nmX6 hW hS tv0 rfl rfl ⟨by decide, by decide, rfl, rfl⟩ rfl w_4 rfl (by decide +kernel) rfl rfl dX6_nextToken_136 (fun S56 H locs eS56 hW hS => ?_)
          replace hf := ltE hf S56 eS56
          refine lv_aload_n hx hb dX6_nextToken_139 rfl (lv_at hl 1 rfl) ?_
          refine lv_dup hx hb dX6_nextToken_140 rfl ?_
          refine x_geti 504 (ci := 5) (C := RX6) (T := TX6) (N := 10) 4 hC hin6 hW tv0 rfl rfl ⟨by decide, by decide, rfl, rfl⟩ rfl w_0 dX6_nextToken_141 ?_
          refine lv_iconst (v := 1) hx hb dX6_nextToken_144 (by decide) ?_
          refine lv_iadd hx hb dX6_nextToken_145 ?_
          refine x_puti 504 (ci := 5) (C := RX6) (T := TX6) (N := 10) (v := (si S56 504 v0) + 1) (ty := .int) 4 hC hin6 tyX6_ok nmX6 hW hS tv0 rfl rfl ⟨by decide, by decide, rfl, rfl⟩ rfl w_0 rfl (by decide +kernel) rfl rfl dX6_nextToken_146 (fun S57 H locs eS57 hW hS => ?_)
          replace hf := ltE hf S57 eS57
          have e1 := Option.some.inj hf
          subst e1
          exact W.vret hx hb hr (fun t ht hWm => ⟨⟨rfl, by unfold QB; rw [ht]; exact ⟨hW, trivial⟩⟩, hS.F ht⟩) hS.2.2 dX6_nextToken_149 hlk
        · replace hf := ifF c54 hf
          refine lv_aload_n hx hb dX6_nextToken_122 rfl (lv_at hl 1 rfl) ?_
          replace hf := obE hf
          obtain ⟨S59, hz58, hf⟩ := hf
          refine x_callV (As := []) (rest := []) (o := none) (S1 := S59) hC hl.1 hW hS hGs hA tv0 rfl (show vwCl[5]? = some (RX6, TX6, 10) ∧ 5 < 11 from ⟨rfl, by decide⟩) (c_X6_readNumber l g ad n K H.size F S51 v0 tv0 S59 hz58) (cwV 0 hts gX6_nextToken_X6_readNumber rfl rfl rfl (by decide +kernel) ⟨Nat.le_of_ble_eq_true rfl, Nat.le_of_ble_eq_true rfl⟩) rfl rfl (Nat.le_of_ble_eq_true rfl) dX6_nextToken_123 ⟨Nat.le_of_ble_eq_true rfl, Nat.le_of_ble_eq_true rfl⟩ (fun H locs hPz58 hW hS => ?_)
          refine W.eq (g2 := F0 m 126 ls []) rfl ?_
          refine lv_goto (tgt := 149) hx hb dX6_nextToken_126 (by decide) ?_
          have e1 := Option.some.inj hf
          subst e1
          exact W.vret hx hb hr (fun t ht hWm => ⟨⟨rfl, by unfold QB; rw [ht]; exact ⟨hW, trivial⟩⟩, hS.F ht⟩) hS.2.2 dX6_nextToken_149 hlk
      · replace hf := ifF c49 hf
        refine lv_aload_n hx hb dX6_nextToken_108 rfl (lv_at hl 1 rfl) ?_
        replace hf := obE hf
        obtain ⟨S63, hz62, hf⟩ := hf
        refine x_callV (As := []) (rest := []) (o := none) (S1 := S63) hC hl.1 hW hS hGs hA tv0 rfl (show vwCl[5]? = some (RX6, TX6, 10) ∧ 5 < 11 from ⟨rfl, by decide⟩) (c_X6_readWord l g ad n K H.size F S46 v0 tv0 S63 hz62) (cwV 0 hts gX6_nextToken_X6_readWord rfl rfl rfl (by decide +kernel) ⟨Nat.le_of_ble_eq_true rfl, Nat.le_of_ble_eq_true rfl⟩) rfl rfl (Nat.le_of_ble_eq_true rfl) dX6_nextToken_109 ⟨Nat.le_of_ble_eq_true rfl, Nat.le_of_ble_eq_true rfl⟩ (fun H locs hPz62 hW hS => ?_)
        refine W.eq (g2 := F0 m 112 ls []) rfl ?_
        refine lv_goto (tgt := 149) hx hb dX6_nextToken_112 (by decide) ?_
        have e1 := Option.some.inj hf
        subst e1
        exact W.vret hx hb hr (fun t ht hWm => ⟨⟨rfl, by unfold QB; rw [ht]; exact ⟨hW, trivial⟩⟩, hS.F ht⟩) hS.2.2 dX6_nextToken_149 hlk
    · replace hf := ifF c44 hf
      refine lv_aload_n hx hb dX6_nextToken_93 rfl (lv_at hl 1 rfl) ?_
      refine lv_iconst (v := 0) hx hb dX6_nextToken_94 (by decide) ?_
      refine x_puti 506 (ci := 5) (C := RX6) (T := TX6) (N := 10) (v := 0) (ty := .int) 6 hC hin6 tyX6_ok nmX6 hW hS tv0 rfl rfl ⟨by decide, by decide, rfl, rfl⟩ rfl w_12 rfl (by decide +kernel) rfl rfl dX6_nextToken_95 (fun S66 H locs eS66 hW hS => ?_)
      replace hf := ltE hf S66 eS66
      refine lv_goto (tgt := 149) hx hb dX6_nextToken_98 (by decide) ?_
      have e1 := Option.some.inj hf
      subst e1
      exact W.vret hx hb hr (fun t ht hWm => ⟨⟨rfl, by unfold QB; rw [ht]; exact ⟨hW, trivial⟩⟩, hS.F ht⟩) hS.2.2 dX6_nextToken_149 hlk
  have L0 : ∀ (fu0 : Nat) (S0 : St) (v0 : Nat) (tv0 : v0 < n ∧ K v0 = 5) (H : Heap) (locs : List Loc) (ls : Array Slot), f_X6_nextToken_L0 F fu0 S0 v0 = some S9 → Wb g ad n K S0 (dA ad n s.heap.size) H → va_S (dA ad n s.heap.size) s.heap H locs → lv_has ls 2 [(0, .ref (ad v0))] → W p l e (headSpec wsX6_nextToken { frames := 2, cells := 0, slots := 0, locals := 46 }).room s m (List.toArray [.ref (ad p0)]) below meth c H locs 0 0 (MQ below (QR none (QB g ad n K S9 (dA ad n s.heap.size) (True)) (dA ad n s.heap.size)) (List.toArray [.ref (ad p0)]) s 0 0 (dA ad n s.heap.size)) (F0 m 0 ls []) := by
    intro fu0
    induction fu0 with
    | zero =>
      intro S0 v0 tv0 H locs ls hf
      cases hf
    | succ fu0 ih0 =>
      intro S0 v0 tv0 H locs ls hf hW hS hl
      unfold f_X6_nextToken_L0 at hf
      refine lv_aload_n hx hb dX6_nextToken_0 rfl (lv_at hl 0 rfl) ?_
      refine x_geti 504 (ci := 5) (C := RX6) (T := TX6) (N := 10) 4 hC hin6 hW tv0 rfl rfl ⟨by decide, by decide, rfl, rfl⟩ rfl w_0 dX6_nextToken_1 ?_
      refine lv_aload_n hx hb dX6_nextToken_4 rfl (lv_at hl 0 rfl) ?_
      replace hf := obE hf
      obtain ⟨j80, qj80, hf⟩ := hf
      have tj80 := x_rt hW qj80 0 ⟨by decide, rfl⟩
      refine x_getr 500 (ci := 5) (C := RX6) (T := TX6) (N := 10) 0 hC hin6 hW tv0 rfl rfl ⟨by decide, by decide, rfl, rfl⟩ rfl w_5 dX6_nextToken_5 qj80 ?_
      refine x_getiN 1 (ci := 0) (C := RX0) (T := TX0) (N := 2) 1 hC hin0 hW tj80 rfl rfl ⟨by decide, by decide, rfl, rfl⟩ rfl w_6 dX6_nextToken_8 ?_
      refine lv_icmp_ge (tgt := 44) hx hb dX6_nextToken_11 (by decide) (fun c81 => ?_) (fun c81 => ?_)
      · replace hf := ifT c81 hf
        exact L44 S0 v0 tv0 _ _ _ hf hW hS (lv_sub hl [0] rfl)
      · replace hf := ifF c81 hf
        refine lv_aload_n hx hb dX6_nextToken_14 rfl (lv_at hl 0 rfl) ?_
        replace hf := obE hf
        obtain ⟨j82, qj82, hf⟩ := hf
        have tj82 := x_rt hW qj82 0 ⟨by decide, rfl⟩
        refine x_getr 500 (ci := 5) (C := RX6) (T := TX6) (N := 10) 0 hC hin6 hW tv0 rfl rfl ⟨by decide, by decide, rfl, rfl⟩ rfl w_5 dX6_nextToken_15 qj82 ?_
        refine lv_aload_n hx hb dX6_nextToken_18 rfl (lv_at hl 0 rfl) ?_
        refine x_geti 504 (ci := 5) (C := RX6) (T := TX6) (N := 10) 4 hC hin6 hW tv0 rfl rfl ⟨by decide, by decide, rfl, rfl⟩ rfl w_0 dX6_nextToken_19 ?_
        replace hf := obE hf
        obtain ⟨z83, hz83, hf⟩ := hf
        obtain ⟨r85, S84⟩ := z83
        replace hf := ltE (ltE hf r85 rfl) S84 rfl
        refine x_callV (As := [.int (si S0 504 v0)]) (rest := []) (o := (some (.int r85))) (S1 := S84) hC hl.1 hW hS hGs hA tj82 rfl (show vwCl[0]? = some (RX0, TX0, 2) ∧ 0 < 11 from ⟨rfl, by decide⟩) (c_X0_byteAt l g ad n K H.size F S0 j82 (si S0 504 v0) tj82 r85 S84 hz83) (cwV 1 hts gX6_nextToken_X0_byteAt rfl rfl rfl (by decide +kernel) ⟨Nat.le_of_ble_eq_true rfl, Nat.le_of_ble_eq_true rfl⟩) rfl rfl (Nat.le_of_ble_eq_true rfl) dX6_nextToken_22 ⟨Nat.le_of_ble_eq_true rfl, Nat.le_of_ble_eq_true rfl⟩ (fun H locs hPz83 hW hS => ?_)
        refine W.eq (g2 := F0 m 25 ls [.int r85]) rfl ?_
        replace hf := obE hf
        obtain ⟨z87, hz87, hf⟩ := hf
        obtain ⟨r89, S88⟩ := z87
        replace hf := ltE (ltE hf r89 rfl) S88 rfl
        refine x_callS (As := [.int r85]) (rest := []) (o := (some (.int r89))) (S1 := S88) hC hl.1 hW hS hGs hA (c_X6_isBlank l g ad n K H.size F S84 r85 r89 S88 hz87) (va_cwS 1 hts gX6_nextToken_X6_isBlank rfl rfl rfl (by decide +kernel) ⟨Nat.le_of_ble_eq_true rfl, Nat.le_of_ble_eq_true rfl⟩) rfl rfl (Nat.le_of_ble_eq_true rfl) dX6_nextToken_25 ⟨Nat.le_of_ble_eq_true rfl, Nat.le_of_ble_eq_true rfl⟩ (fun H locs hPz87 hW hS => ?_)
        refine W.eq (g2 := F0 m 28 ls [.int r89]) rfl ?_
        refine lv_if_eq (tgt := 44) hx hb dX6_nextToken_28 (by decide) (fun c91 => ?_) (fun c91 => ?_)
        · replace hf := ifT c91 hf
          exact L44 S88 v0 tv0 _ _ _ hf hW hS (lv_sub hl [0] rfl)
        · replace hf := ifF c91 hf
          refine lv_aload_n hx hb dX6_nextToken_31 rfl (lv_at hl 0 rfl) ?_
          refine lv_dup hx hb dX6_nextToken_32 rfl ?_
          refine x_geti 504 (ci := 5) (C := RX6) (T := TX6) (N := 10) 4 hC hin6 hW tv0 rfl rfl ⟨by decide, by decide, rfl, rfl⟩ rfl w_0 dX6_nextToken_33 ?_
          refine lv_iconst (v := 1) hx hb dX6_nextToken_36 (by decide) ?_
          refine lv_iadd hx hb dX6_nextToken_37 ?_
          refine x_puti 504 (ci := 5) (C := RX6) (T := TX6) (N := 10) (v := (si S88 504 v0) + 1) (ty := .int) 4 hC hin6 tyX6_ok nmX6 hW hS tv0 rfl rfl ⟨by decide, by decide, rfl, rfl⟩ rfl w_0 rfl (by decide +kernel) rfl rfl dX6_nextToken_38 (fun S92 H locs eS92 hW hS => ?_)
          replace hf := ltE hf S92 eS92
          refine lv_goto (tgt := 0) hx hb dX6_nextToken_41 (by decide) ?_
          exact ih0 S92 v0 tv0 _ _ _ hf hW hS (lv_sub hl [0] rfl)
  unfold f_X6_nextToken at hf
  exact L0 F S0 p0 tp0 _ _ _ hf hW hS (lv_sub hl [0] rfl)
