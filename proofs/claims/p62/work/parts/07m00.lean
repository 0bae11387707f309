set_option maxHeartbeats 4000000 in
set_option maxRecDepth 100000 in
theorem c_X5_init (l : Launch) (g : GP) (ad : Nat → Nat) (n : Nat) (K : Nat → Nat) (sz F : Nat) (S0 : St) (p0 : Nat) (p1 : Int32) (tp0 : p0 < n ∧ K p0 = 4) (S9 : St) (n9 : Nat) (hf : f_X5_init F S0 n p0 p1 = some (S9, n9)) : Met l yX5_init wsX5_init { frames := 1, cells := 1, slots := 10, locals := 21 } (va_Pc [.ref (ad p0), .int p1] (PB g ad n K S0 sz)) (QA ad K n (fun _ => none) g n9 S9 (dA ad n sz) (fun _ => True)) 1 10 (dA ad n sz) := by
  refine Met.ofW (cc := cX5_init) (maxL := 2) (ret := none) (by decide) rfl ?_
  intro p e s m args below meth c s₁ B hml hv
  obtain ⟨rfl, hsz, hW, hK, hGs⟩ := x_start hv
  subst hsz
  have hx := B.exec
  have hb := B.bytes
  have hr := B.returns
  have hts := atoms_spec (ws := wsX5_init) B.pre
  have hown : s.vm.findClass RX5 = some m.cls := findClass_of_methodNamed B.named
  have hlk := B.notSynchronized
  have hinI : meth.name = "<init>" := (name_of_methodNamed B.named B.method).1
  have hC : Cx g p s m _ c cX5_init RX5 wsX5_init 2 := ⟨hx, hb, hml, hown, hts, hK⟩
  have hA : ∀ q : Nat, s.heap.size ≤ q → dA ad n s.heap.size q := fun q h => Or.inr h
  have hS : va_S (dA ad n s.heap.size) s.heap s.heap [] := va_S.rf
  have hl := lv_entry ([.ref (ad p0), .int p1]) (n := 2) (Nat.le_of_ble_eq_true rfl)
  rw [lg_entry_eq]
  generalize (lg_sl ([.ref (ad p0), .int p1]) ++ List.replicate (2 - (lg_sl ([.ref (ad p0), .int p1])).length) Slot.unset).toArray = ls at hl ⊢
  have hl : lv_has ls 2 [(0, .ref (ad p0)), (1, .int p1)] := hl
  have hinX5 : ∀ w ∈ wsX50, w ∈ wsX5_init := by decide +kernel
  have w_0 := hts (.methodLink RX5 3 objectInit) (by decide +kernel)
  have w_1 := hts (.instanceMethod objectInit) (by decide +kernel)
  have w_2 := hts (.code objectInit ⟨#[0xb1]⟩ 1 none) (by decide +kernel)
  have w_3 := hts (.methodLink RX5 9 Lib.Math.max.name) (by decide +kernel)
  have w_4 := hts (.static Lib.Math.max.name) (by decide +kernel)
  have w_5 := hts (.initialized "java/lang/Math") (by decide +kernel)
  have w_6 := hts (.code Lib.Math.max.name Lib.Math.max.code 2 (some .int)) (by decide +kernel)
  have w_7 := hts (.arrayClass .long) (by decide +kernel)
  have w_8 := hts (.fieldLink RX5 15 "MailSpool$Names" "words" "[J") (by decide +kernel)
  have hGE := hGs.2.2.2.1
  have hGM := hGs.2.2.2.2
  unfold f_X5_init at hf
  refine lv_aload_n hx hb dX5_init_0 rfl (lv_at hl 0 rfl) ?_
  refine W.objInit hx hb hown w_0 w_1 w_2 rfl (by rw [hml]; exact hl.1) rfl dX5_init_1 (Nat.le_of_ble_eq_true rfl) (Nat.le_of_ble_eq_true rfl) ?_
  refine W.eq (g2 := F0 m 4 ls []) rfl ?_
  refine lv_aload_n hx hb dX5_init_4 rfl (lv_at hl 0 rfl) ?_
  refine lv_iconst (v := 0) hx hb dX5_init_5 (by decide) ?_
  refine lv_iload_n hx hb dX5_init_6 rfl (lv_at hl 1 rfl) ?_
  refine va_mmax hx hb (hml.trans hl.1.symm) hown w_3 w_4 w_5 w_6 (by exact Nat.le_of_ble_eq_true rfl) (by exact Nat.le_of_ble_eq_true rfl) (by first | exact Nat.zero_le _ | exact Nat.le_of_ble_eq_true rfl) (by first | exact Nat.zero_le _ | exact Nat.le_of_ble_eq_true rfl) dX5_init_7 ?_
  replace hf := ckE hf
  obtain ⟨h7, hf⟩ := hf
  refine x_newaJ (len := Int32.toNatClampNeg (if (0 : Int32) < p1 then p1 else (0 : Int32))) hC w_7 hW hS hA h7.1 rfl (by omega) (Nat.le_of_ble_eq_true rfl) (by show 0 + _ ≤ 10; omega) dX5_init_10 (fun q1 ad2 K3 S4 H eS4 hag6 eqq1 ekq1 hW hS => ?_)
  replace hf := ltE hf S4 eS4
  obtain ⟨n5, en5⟩ : ∃ z, z = n + 1 := ⟨_, rfl⟩
  rw [← en5] at hag6 hW
  replace hf := ltE hf n5 en5
  have tq1 : n < n5 ∧ K3 n = 13 := ⟨by omega, ekq1⟩
  have g8 := hag6.t tp0
  have g9 := hag6.e tp0 rfl
  have ag10 := (Ag.rf).tr hag6
  refine W.widen (k := 1) (n := 10) (by omega) (by omega) ?_
  refine x_putrF 400 (ci := 4) (C := RX5) (T := TX5) (N := 2) (ty := (.array .long)) 0 hC hinX5 tyX5_ok nmX5 hW hS g8 g9 tq1 eqq1 rfl rfl ⟨by decide, by decide, rfl, rfl⟩ rfl w_8 rfl hinI rfl (by decide +kernel) rfl rfl dX5_init_12 (fun S11 H locs eS11 hW hS => ?_)
  replace hf := ltE hf S11 eS11
  obtain ⟨e1, e2⟩ := so2 hf
  subst e1
  subst e2
  exact W.vret hx hb hr (fun t ht hWm => ⟨⟨ad2, K3, rfl, ag10, trivial, by rw [ht]; exact hW⟩, hS.F ht⟩) hS.2.2 dX5_init_15 hlk
set_option maxHeartbeats 4000000 in
set_option maxRecDepth 100000 in
theorem c_X7_init (l : Launch) (g : GP) (ad : Nat → Nat) (n : Nat) (K : Nat → Nat) (sz F : Nat) (S0 : St) (p0 : Nat) (tp0 : p0 < n ∧ K p0 = 6) (S9 : St) (n9 : Nat) (hf : f_X7_init F S0 n p0 = some (S9, n9)) : Met l yX7_init wsX7_init { frames := 2, cells := 18, slots := 122, locals := 42 } (va_Pc [.ref (ad p0)] (PB g ad n K S0 sz)) (QA ad K n (fun _ => none) g n9 S9 (dA ad n sz) (fun _ => True)) 18 122 (dA ad n sz) := by
  refine Met.ofW (cc := cX7_init) (maxL := 1) (ret := none) (by decide) rfl ?_
  intro p e s m args below meth c s₁ B hml hv
  obtain ⟨rfl, hsz, hW, hK, hGs⟩ := x_start hv
  subst hsz
  have hx := B.exec
  have hb := B.bytes
  have hr := B.returns
  have hts := atoms_spec (ws := wsX7_init) B.pre
  have hown : s.vm.findClass RX7 = some m.cls := findClass_of_methodNamed B.named
  have hlk := B.notSynchronized
  have hinI : meth.name = "<init>" := (name_of_methodNamed B.named B.method).1
  have hC : Cx g p s m _ c cX7_init RX7 wsX7_init 1 := ⟨hx, hb, hml, hown, hts, hK⟩
  have hA : ∀ q : Nat, s.heap.size ≤ q → dA ad n s.heap.size q := fun q h => Or.inr h
  have hS : va_S (dA ad n s.heap.size) s.heap s.heap [] := va_S.rf
  have hl := lv_entry ([.ref (ad p0)]) (n := 1) (Nat.le_of_ble_eq_true rfl)
  rw [lg_entry_eq]
  generalize (lg_sl ([.ref (ad p0)]) ++ List.replicate (1 - (lg_sl ([.ref (ad p0)])).length) Slot.unset).toArray = ls at hl ⊢
  have hl : lv_has ls 1 [(0, .ref (ad p0))] := hl
  have hinX5 : ∀ w ∈ wsX50, w ∈ wsX7_init := by decide +kernel
  have hinX7 : ∀ w ∈ wsX70, w ∈ wsX7_init := by decide +kernel
  have w_0 := hts (.methodLink RX7 3 objectInit) (by decide +kernel)
  have w_1 := hts (.instanceMethod objectInit) (by decide +kernel)
  have w_2 := hts (.code objectInit ⟨#[0xb1]⟩ 1 none) (by decide +kernel)
  have w_3 := hts (.fieldLink RX7 9 "MailSpool$Rules" "interval" "I") (by decide +kernel)
  have w_4 := hts (.classLink RX7 15 RX5) (by decide +kernel)
  have w_5 := hts (.instantiable RX5 2) (by decide +kernel)
  have w_6 := hts (.initialized RX5) (by decide +kernel)
  have w_7 := hts (.methodLink RX7 17 yX5_init) (by decide +kernel)
  have w_8 := hts (.instanceMethod yX5_init) (by decide +kernel)
  have w_9 := hts (.fieldLink RX7 20 "MailSpool$Rules" "classes" "LMailSpool$Names;") (by decide +kernel)
  have w_10 := hts (.arrayClass .int) (by decide +kernel)
  have w_11 := hts (.fieldLink RX7 24 "MailSpool$Rules" "classDays" "[I") (by decide +kernel)
  have w_12 := hts (.fieldLink RX7 28 "MailSpool$Rules" "classKeep" "[I") (by decide +kernel)
  have w_13 := hts (.fieldLink RX7 31 "MailSpool$Rules" "classNext" "[I") (by decide +kernel)
  have w_14 := hts (.fieldLink RX7 34 "MailSpool$Rules" "users" "LMailSpool$Names;") (by decide +kernel)
  have w_15 := hts (.fieldLink RX7 37 "MailSpool$Rules" "userClass" "[I") (by decide +kernel)
  have w_16 := hts (.fieldLink RX7 40 "MailSpool$Rules" "userQuota" "[I") (by decide +kernel)
  have w_17 := hts (.fieldLink RX7 43 "MailSpool$Rules" "groups" "LMailSpool$Names;") (by decide +kernel)
  have w_18 := hts (.fieldLink RX7 46 "MailSpool$Rules" "groupMembers" "[I") (by decide +kernel)
  have w_19 := hts (.fieldLink RX7 49 "MailSpool$Rules" "holds" "LMailSpool$Names;") (by decide +kernel)
  have w_20 := hts (.fieldLink RX7 52 "MailSpool$Rules" "holdUser" "[I") (by decide +kernel)
  have w_21 := hts (.fieldLink RX7 55 "MailSpool$Rules" "holdFrom" "[I") (by decide +kernel)
  have w_22 := hts (.fieldLink RX7 58 "MailSpool$Rules" "holdTo" "[I") (by decide +kernel)
  have w_23 := hts (.arrayClass .long) (by decide +kernel)
  have w_24 := hts (.fieldLink RX7 61 "MailSpool$Rules" "holdWord" "[J") (by decide +kernel)
  have hGE := hGs.2.2.2.1
  have hGM := hGs.2.2.2.2
  unfold f_X7_init at hf
  refine lv_aload_n hx hb dX7_init_0 rfl (lv_at hl 0 rfl) ?_
  refine W.objInit hx hb hown w_0 w_1 w_2 rfl (by rw [hml]; exact hl.1) rfl dX7_init_1 (Nat.le_of_ble_eq_true rfl) (Nat.le_of_ble_eq_true rfl) ?_
  refine W.eq (g2 := F0 m 4 ls []) rfl ?_
  refine lv_aload_n hx hb dX7_init_4 rfl (lv_at hl 0 rfl) ?_
  refine lv_iconst (v := 1) hx hb dX7_init_5 (by decide) ?_
  refine x_puti 601 (ci := 6) (C := RX7) (T := TX7) (N := 16) (v := 1) (ty := .int) 1 hC hinX7 tyX7_ok nmX7 hW hS tp0 rfl rfl ⟨by decide, by decide, rfl, rfl⟩ rfl w_3 rfl (by decide +kernel) rfl rfl dX7_init_6 (fun S1 H locs eS1 hW hS => ?_)
  replace hf := ltE hf S1 eS1
  refine lv_aload_n hx hb dX7_init_9 rfl (lv_at hl 0 rfl) ?_
  refine x_new (ci := 4) (C := RX5) (T := TX5) (N := 2) hC hinX5 tyX5_ok hW hS hA ⟨rfl, by decide, by decide⟩ (by decide +kernel) w_4 w_5 w_6 (Nat.le_of_ble_eq_true rfl) (Nat.le_of_ble_eq_true rfl) dX7_init_10 (fun q2 ad3 K4 S5 H eS5 hag7 eqq2 ekq2 hW hS => ?_)
  replace hf := ltE hf S5 eS5
  obtain ⟨n6, en6⟩ : ∃ z, z = n + 1 := ⟨_, rfl⟩
  rw [← en6] at hag7 hW
  replace hf := ltE hf n6 en6
  have tq2 : n < n6 ∧ K4 n = 4 := ⟨by omega, ekq2⟩
  have g8 := hag7.t tp0
  have g9 := hag7.e tp0 rfl
  have ag10 := (Ag.rf).tr hag7
  refine W.widen (k := 1) (n := 2) (by omega) (by omega) ?_
  refine lv_dup hx hb dX7_init_13 rfl ?_
  refine lv_bipush (v := 8) hx hb dX7_init_14 (by decide) ?_
  replace hf := obE hf
  obtain ⟨z11, hz11, hf⟩ := hf
  obtain ⟨S12, n14⟩ := z11
  replace hf := ltE (ltE hf S12 rfl) n14 rfl
  refine x_acallI (As := [.int 8]) (rest := [.ref (q2), .ref (ad p0)]) (S1 := S12) (n1 := n14) (o := (fun _ => none)) (P := (fun _ => True)) hC hl.1 hW hS hGs hA (c_X5_init l g ad3 n6 K4 H.size F S5 n ((8 : Int32)) tq2 S12 n14 hz11) (cwI 1 hts gX7_init_X5_init rfl rfl rfl w_6 w_7 w_8 rfl (by decide +kernel) ⟨Nat.le_of_ble_eq_true rfl, Nat.le_of_ble_eq_true rfl⟩) rfl (by rw [eqq2] <;> rfl) (Nat.le_of_ble_eq_true rfl) dX7_init_16 ⟨(Nat.le_of_ble_eq_true rfl), (Nat.le_of_ble_eq_true rfl)⟩ (fun ad15 K16 H locs hag17 hPz11 hW hS => ?_)
  have g18 := hag17.t g8
  have g19 := hag17.e g8 g9
  have g20 := hag17.t tq2
  have g21 := hag17.e tq2 eqq2
  have ag22 := (ag10).tr hag17
  refine W.widen (k := 2) (n := 12) (by omega) (by omega) ?_
  refine W.eq (g2 := F0 m 19 ls [.ref (q2), .ref (ad p0)]) rfl ?_
  refine x_putrF 602 (ci := 6) (C := RX7) (T := TX7) (N := 16) (ty := (.object "MailSpool$Names")) 2 hC hinX7 tyX7_ok nmX7 hW hS g18 g19 g20 g21 rfl rfl ⟨by decide, by decide, rfl, rfl⟩ rfl w_9 rfl hinI rfl (by decide +kernel) rfl rfl dX7_init_19 (fun S23 H locs eS23 hW hS => ?_)
  replace hf := ltE hf S23 eS23
  refine lv_aload_n hx hb dX7_init_22 rfl (lv_at hl 0 rfl) ?_
  refine lv_bipush (v := 8) hx hb dX7_init_23 (by decide) ?_
  refine x_newaI (len := 8) hC w_10 hW hS hA (by decide) (by decide) (Nat.le_of_ble_eq_true rfl) (Nat.le_of_ble_eq_true rfl) (Nat.le_of_ble_eq_true rfl) dX7_init_25 (fun q24 ad25 K26 S27 H eS27 hag29 eqq24 ekq24 hW hS => ?_)
  replace hf := ltE hf S27 eS27
  obtain ⟨n28, en28⟩ : ∃ z, z = n14 + 1 := ⟨_, rfl⟩
  rw [← en28] at hag29 hW
  replace hf := ltE hf n28 en28
  have tq24 : n14 < n28 ∧ K26 n14 = 12 := ⟨by omega, ekq24⟩
  have g30 := hag29.t g18
  have g31 := hag29.e g18 g19
  have ag32 := (ag22).tr hag29
  refine W.widen (k := 3) (n := 20) (by omega) (by omega) ?_
  refine x_putrF 603 (ci := 6) (C := RX7) (T := TX7) (N := 16) (ty := (.array .int)) 3 hC hinX7 tyX7_ok nmX7 hW hS g30 g31 tq24 eqq24 rfl rfl ⟨by decide, by decide, rfl, rfl⟩ rfl w_11 rfl hinI rfl (by decide +kernel) rfl rfl dX7_init_27 (fun S33 H locs eS33 hW hS => ?_)
  replace hf := ltE hf S33 eS33
  refine lv_aload_n hx hb dX7_init_30 rfl (lv_at hl 0 rfl) ?_
  refine lv_bipush (v := 8) hx hb dX7_init_31 (by decide) ?_
  refine x_newaI (len := 8) hC w_10 hW hS hA (by decide) (by decide) (Nat.le_of_ble_eq_true rfl) (Nat.le_of_ble_eq_true rfl) (Nat.le_of_ble_eq_true rfl) dX7_init_33 (fun q34 ad35 K36 S37 H eS37 hag39 eqq34 ekq34 hW hS => ?_)
  replace hf := ltE hf S37 eS37
  obtain ⟨n38, en38⟩ : ∃ z, z = n28 + 1 := ⟨_, rfl⟩
  rw [← en38] at hag39 hW
  replace hf := ltE hf n38 en38
  have tq34 : n28 < n38 ∧ K36 n28 = 12 := ⟨by omega, ekq34⟩
  have g40 := hag39.t g30
  have g41 := hag39.e g30 g31
  have ag42 := (ag32).tr hag39
  refine W.widen (k := 4) (n := 28) (by omega) (by omega) ?_
  refine x_putrF 604 (ci := 6) (C := RX7) (T := TX7) (N := 16) (ty := (.array .int)) 4 hC hinX7 tyX7_ok nmX7 hW hS g40 g41 tq34 eqq34 rfl rfl ⟨by decide, by decide, rfl, rfl⟩ rfl w_12 rfl hinI rfl (by decide +kernel) rfl rfl dX7_init_35 (fun S43 H locs eS43 hW hS => ?_)
  replace hf := ltE hf S43 eS43
  refine lv_aload_n hx hb dX7_init_38 rfl (lv_at hl 0 rfl) ?_
  refine lv_bipush (v := 8) hx hb dX7_init_39 (by decide) ?_
  refine x_newaI (len := 8) hC w_10 hW hS hA (by decide) (by decide) (Nat.le_of_ble_eq_true rfl) (Nat.le_of_ble_eq_true rfl) (Nat.le_of_ble_eq_true rfl) dX7_init_41 (fun q44 ad45 K46 S47 H eS47 hag49 eqq44 ekq44 hW hS => ?_)
  replace hf := ltE hf S47 eS47
  obtain ⟨n48, en48⟩ : ∃ z, z = n38 + 1 := ⟨_, rfl⟩
  rw [← en48] at hag49 hW
  replace hf := ltE hf n48 en48
  have tq44 : n38 < n48 ∧ K46 n38 = 12 := ⟨by omega, ekq44⟩
  have g50 := hag49.t g40
  have g51 := hag49.e g40 g41
  have ag52 := (ag42).tr hag49
  refine W.widen (k := 5) (n := 36) (by omega) (by omega) ?_
  refine x_putrF 605 (ci := 6) (C := RX7) (T := TX7) (N := 16) (ty := (.array .int)) 5 hC hinX7 tyX7_ok nmX7 hW hS g50 g51 tq44 eqq44 rfl rfl ⟨by decide, by decide, rfl, rfl⟩ rfl w_13 rfl hinI rfl (by decide +kernel) rfl rfl dX7_init_43 (fun S53 H locs eS53 hW hS => ?_)
  replace hf := ltE hf S53 eS53
  refine lv_aload_n hx hb dX7_init_46 rfl (lv_at hl 0 rfl) ?_
  refine x_new (ci := 4) (C := RX5) (T := TX5) (N := 2) hC hinX5 tyX5_ok hW hS hA ⟨rfl, by decide, by decide⟩ (by decide +kernel) w_4 w_5 w_6 (Nat.le_of_ble_eq_true rfl) (Nat.le_of_ble_eq_true rfl) dX7_init_47 (fun q54 ad55 K56 S57 H eS57 hag59 eqq54 ekq54 hW hS => ?_)
  replace hf := ltE hf S57 eS57
  obtain ⟨n58, en58⟩ : ∃ z, z = n48 + 1 := ⟨_, rfl⟩
  rw [← en58] at hag59 hW
  replace hf := ltE hf n58 en58
  have tq54 : n48 < n58 ∧ K56 n48 = 4 := ⟨by omega, ekq54⟩
  have g60 := hag59.t g50
  have g61 := hag59.e g50 g51
  have ag62 := (ag52).tr hag59
  refine W.widen (k := 6) (n := 38) (by omega) (by omega) ?_
  refine lv_dup hx hb dX7_init_50 rfl ?_
  refine lv_bipush (v := 10) hx hb dX7_init_51 (by decide) ?_
  replace hf := obE hf
  obtain ⟨z63, hz63, hf⟩ := hf
  obtain ⟨S64, n66⟩ := z63
  replace hf := ltE (ltE hf S64 rfl) n66 rfl
  refine x_acallI (As := [.int 10]) (rest := [.ref (q54), .ref (ad p0)]) (S1 := S64) (n1 := n66) (o := (fun _ => none)) (P := (fun _ => True)) hC hl.1 hW hS hGs hA (c_X5_init l g ad55 n58 K56 H.size F S57 n48 ((10 : Int32)) tq54 S64 n66 hz63) (cwI 1 hts gX7_init_X5_init rfl rfl rfl w_6 w_7 w_8 rfl (by decide +kernel) ⟨Nat.le_of_ble_eq_true rfl, Nat.le_of_ble_eq_true rfl⟩) rfl (by rw [eqq54] <;> rfl) (Nat.le_of_ble_eq_true rfl) dX7_init_53 ⟨(Nat.le_of_ble_eq_true rfl), (Nat.le_of_ble_eq_true rfl)⟩ (fun ad67 K68 H locs hag69 hPz63 hW hS => ?_)
  have g70 := hag69.t g60
  have g71 := hag69.e g60 g61
  have g72 := hag69.t tq54
  have g73 := hag69.e tq54 eqq54
  have ag74 := (ag62).tr hag69
  refine W.widen (k := 7) (n := 48) (by omega) (by omega) ?_
  refine W.eq (g2 := F0 m 56 ls [.ref (q54), .ref (ad p0)]) rfl ?_
  refine x_putrF 606 (ci := 6) (C := RX7) (T := TX7) (N := 16) (ty := (.object "MailSpool$Names")) 6 hC hinX7 tyX7_ok nmX7 hW hS g70 g71 g72 g73 rfl rfl ⟨by decide, by decide, rfl, rfl⟩ rfl w_14 rfl hinI rfl (by decide +kernel) rfl rfl dX7_init_56 (fun S75 H locs eS75 hW hS => ?_)
  replace hf := ltE hf S75 eS75
  refine lv_aload_n hx hb dX7_init_59 rfl (lv_at hl 0 rfl) ?_
  refine lv_bipush (v := 10) hx hb dX7_init_60 (by decide) ?_
  refine x_newaI (len := 10) hC w_10 hW hS hA (by decide) (by decide) (Nat.le_of_ble_eq_true rfl) (Nat.le_of_ble_eq_true rfl) (Nat.le_of_ble_eq_true rfl) dX7_init_62 (fun q76 ad77 K78 S79 H eS79 hag81 eqq76 ekq76 hW hS => ?_)
  replace hf := ltE hf S79 eS79
  obtain ⟨n80, en80⟩ : ∃ z, z = n66 + 1 := ⟨_, rfl⟩
  rw [← en80] at hag81 hW
  replace hf := ltE hf n80 en80
  have tq76 : n66 < n80 ∧ K78 n66 = 12 := ⟨by omega, ekq76⟩
  have g82 := hag81.t g70
  have g83 := hag81.e g70 g71
  have ag84 := (ag74).tr hag81
  refine W.widen (k := 8) (n := 58) (by omega) (by omega) ?_
  refine x_putrF 607 (ci := 6) (C := RX7) (T := TX7) (N := 16) (ty := (.array .int)) 7 hC hinX7 tyX7_ok nmX7 hW hS g82 g83 tq76 eqq76 rfl rfl ⟨by decide, by decide, rfl, rfl⟩ rfl w_15 rfl hinI rfl (by decide +kernel) rfl rfl dX7_init_64 (fun S85 H locs eS85 hW hS => ?_)
  replace hf := ltE hf S85 eS85
  refine lv_aload_n hx hb dX7_init_67 rfl (lv_at hl 0 rfl) ?_
  refine lv_bipush (v := 10) hx hb dX7_init_68 (by decide) ?_
  refine x_newaI (len := 10) hC w_10 hW hS hA (by decide) (by decide) (Nat.le_of_ble_eq_true rfl) (Nat.le_of_ble_eq_true rfl) (Nat.le_of_ble_eq_true rfl) dX7_init_70 (fun q86 ad87 K88 S89 H eS89 hag91 eqq86 ekq86 hW hS => ?_)
  replace hf := ltE hf S89 eS89
  obtain ⟨n90, en90⟩ : ∃ z, z = n80 + 1 := ⟨_, rfl⟩
  rw [← en90] at hag91 hW
  replace hf := ltE hf n90 en90
  have tq86 : n80 < n90 ∧ K88 n80 = 12 := ⟨by omega, ekq86⟩
  have g92 := hag91.t g82
  have g93 := hag91.e g82 g83
  have ag94 := (ag84).tr hag91
  refine W.widen (k := 9) (n := 68) (by omega) (by omega) ?_
  refine x_putrF 608 (ci := 6) (C := RX7) (T := TX7) (N := 16) (ty := (.array .int)) 8 hC hinX7 tyX7_ok nmX7 hW hS g92 g93 tq86 eqq86 rfl rfl ⟨by decide, by decide, rfl, rfl⟩ rfl w_16 rfl hinI rfl (by decide +kernel) rfl rfl dX7_init_72 (fun S95 H locs eS95 hW hS => ?_)
  replace hf := ltE hf S95 eS95
  refine lv_aload_n hx hb dX7_init_75 rfl (lv_at hl 0 rfl) ?_
  refine x_new (ci := 4) (C := RX5) (T := TX5) (N := 2) hC hinX5 tyX5_ok hW hS hA ⟨rfl, by decide, by decide⟩ (by decide +kernel) w_4 w_5 w_6 (Nat.le_of_ble_eq_true rfl) (Nat.le_of_ble_eq_true rfl) dX7_init_76 (fun q96 ad97 K98 S99 H eS99 hag101 eqq96 ekq96 hW hS => ?_)
  replace hf := ltE hf S99 eS99
  obtain ⟨n100, en100⟩ : ∃ z, z = n90 + 1 := ⟨_, rfl⟩
  rw [← en100] at hag101 hW
  replace hf := ltE hf n100 en100
  have tq96 : n90 < n100 ∧ K98 n90 = 4 := ⟨by omega, ekq96⟩
  have g102 := hag101.t g92
  have g103 := hag101.e g92 g93
  have ag104 := (ag94).tr hag101
  refine W.widen (k := 10) (n := 70) (by omega) (by omega) ?_
  refine lv_dup hx hb dX7_init_79 rfl ?_
  refine lv_bipush (v := 6) hx hb dX7_init_80 (by decide) ?_
  replace hf := obE hf
  obtain ⟨z105, hz105, hf⟩ := hf
  obtain ⟨S106, n108⟩ := z105
  replace hf := ltE (ltE hf S106 rfl) n108 rfl
  refine x_acallI (As := [.int 6]) (rest := [.ref (q96), .ref (ad p0)]) (S1 := S106) (n1 := n108) (o := (fun _ => none)) (P := (fun _ => True)) hC hl.1 hW hS hGs hA (c_X5_init l g ad97 n100 K98 H.size F S99 n90 ((6 : Int32)) tq96 S106 n108 hz105) (cwI 1 hts gX7_init_X5_init rfl rfl rfl w_6 w_7 w_8 rfl (by decide +kernel) ⟨Nat.le_of_ble_eq_true rfl, Nat.le_of_ble_eq_true rfl⟩) rfl (by rw [eqq96] <;> rfl) (Nat.le_of_ble_eq_true rfl) dX7_init_82 ⟨(Nat.le_of_ble_eq_true rfl), (Nat.le_of_ble_eq_true rfl)⟩ (fun ad109 K110 H locs hag111 hPz105 hW hS => ?_)
  have g112 := hag111.t g102
  have g113 := hag111.e g102 g103
  have g114 := hag111.t tq96
  have g115 := hag111.e tq96 eqq96
  have ag116 := (ag104).tr hag111
  refine W.widen (k := 11) (n := 80) (by omega) (by omega) ?_
  refine W.eq (g2 := F0 m 85 ls [.ref (q96), .ref (ad p0)]) rfl ?_
  refine x_putrF 609 (ci := 6) (C := RX7) (T := TX7) (N := 16) (ty := (.object "MailSpool$Names")) 9 hC hinX7 tyX7_ok nmX7 hW hS g112 g113 g114 g115 rfl rfl ⟨by decide, by decide, rfl, rfl⟩ rfl w_17 rfl hinI rfl (by decide +kernel) rfl rfl dX7_init_85 (fun S117 H locs eS117 hW hS => ?_)
  replace hf := ltE hf S117 eS117
  refine lv_aload_n hx hb dX7_init_88 rfl (lv_at hl 0 rfl) ?_
  refine lv_bipush (v := 6) hx hb dX7_init_89 (by decide) ?_
  refine x_newaI (len := 6) hC w_10 hW hS hA (by decide) (by decide) (Nat.le_of_ble_eq_true rfl) (Nat.le_of_ble_eq_true rfl) (Nat.le_of_ble_eq_true rfl) dX7_init_91 (fun q118 ad119 K120 S121 H eS121 hag123 eqq118 ekq118 hW hS => ?_)
  replace hf := ltE hf S121 eS121
  obtain ⟨n122, en122⟩ : ∃ z, z = n108 + 1 := ⟨_, rfl⟩
  rw [← en122] at hag123 hW
  replace hf := ltE hf n122 en122
  have tq118 : n108 < n122 ∧ K120 n108 = 12 := ⟨by omega, ekq118⟩
  have g124 := hag123.t g112
  have g125 := hag123.e g112 g113
  have ag126 := (ag116).tr hag123
  refine W.widen (k := 12) (n := 86) (by omega) (by omega) ?_
  refine x_putrF 610 (ci := 6) (C := RX7) (T := TX7) (N := 16) (ty := (.array .int)) 10 hC hinX7 tyX7_ok nmX7 hW hS g124 g125 tq118 eqq118 rfl rfl ⟨by decide, by decide, rfl, rfl⟩ rfl w_18 rfl hinI rfl (by decide +kernel) rfl rfl dX7_init_93 (fun S127 H locs eS127 hW hS => ?_)
  replace hf := ltE hf S127 eS127
  refine lv_aload_n hx hb dX7_init_96 rfl (lv_at hl 0 rfl) ?_
  refine x_new (ci := 4) (C := RX5) (T := TX5) (N := 2) hC hinX5 tyX5_ok hW hS hA ⟨rfl, by decide, by decide⟩ (by decide +kernel) w_4 w_5 w_6 (Nat.le_of_ble_eq_true rfl) (Nat.le_of_ble_eq_true rfl) dX7_init_97 (fun q128 ad129 K130 S131 H eS131 hag133 eqq128 ekq128 hW hS => ?_)
  replace hf := ltE hf S131 eS131
  obtain ⟨n132, en132⟩ : ∃ z, z = n122 + 1 := ⟨_, rfl⟩
  rw [← en132] at hag133 hW
  replace hf := ltE hf n132 en132
  have tq128 : n122 < n132 ∧ K130 n122 = 4 := ⟨by omega, ekq128⟩
  have g134 := hag133.t g124
  have g135 := hag133.e g124 g125
  have ag136 := (ag126).tr hag133
  refine W.widen (k := 13) (n := 88) (by omega) (by omega) ?_
  refine lv_dup hx hb dX7_init_100 rfl ?_
  refine lv_bipush (v := 6) hx hb dX7_init_101 (by decide) ?_
  replace hf := obE hf
  obtain ⟨z137, hz137, hf⟩ := hf
  obtain ⟨S138, n140⟩ := z137
  replace hf := ltE (ltE hf S138 rfl) n140 rfl
  refine x_acallI (As := [.int 6]) (rest := [.ref (q128), .ref (ad p0)]) (S1 := S138) (n1 := n140) (o := (fun _ => none)) (P := (fun _ => True)) hC hl.1 hW hS hGs hA (c_X5_init l g ad129 n132 K130 H.size F S131 n122 ((6 : Int32)) tq128 S138 n140 hz137) (cwI 1 hts gX7_init_X5_init rfl rfl rfl w_6 w_7 w_8 rfl (by decide +kernel) ⟨Nat.le_of_ble_eq_true rfl, Nat.le_of_ble_eq_true rfl⟩) rfl (by rw [eqq128] <;> rfl) (Nat.le_of_ble_eq_true rfl) dX7_init_103 ⟨(Nat.le_of_ble_eq_true rfl), (Nat.le_of_ble_eq_true rfl)⟩ (fun ad141 K142 H locs hag143 hPz137 hW hS => ?_)
  have g144 := hag143.t g134
  have g145 := hag143.e g134 g135
  have g146 := hag143.t tq128
  have g147 := hag143.e tq128 eqq128
  have ag148 := (ag136).tr hag143
  refine W.widen (k := 14) (n := 98) (by omega) (by omega) ?_
  refine W.eq (g2 := F0 m 106 ls [.ref (q128), .ref (ad p0)]) rfl ?_
  refine x_putrF 611 (ci := 6) (C := RX7) (T := TX7) (N := 16) (ty := (.object "MailSpool$Names")) 11 hC hinX7 tyX7_ok nmX7 hW hS g144 g145 g146 g147 rfl rfl ⟨by decide, by decide, rfl, rfl⟩ rfl w_19 rfl hinI rfl (by decide +kernel) rfl rfl dX7_init_106 (fun S149 H locs eS149 hW hS => ?_)
  replace hf := ltE hf S149 eS149
  refine lv_aload_n hx hb dX7_init_109 rfl (lv_at hl 0 rfl) ?_
  refine lv_bipush (v := 6) hx hb dX7_init_110 (by decide) ?_
  refine x_newaI (len := 6) hC w_10 hW hS hA (by decide) (by decide) (Nat.le_of_ble_eq_true rfl) (Nat.le_of_ble_eq_true rfl) (Nat.le_of_ble_eq_true rfl) dX7_init_112 (fun q150 ad151 K152 S153 H eS153 hag155 eqq150 ekq150 hW hS => ?_)
  replace hf := ltE hf S153 eS153
  obtain ⟨n154, en154⟩ : ∃ z, z = n140 + 1 := ⟨_, rfl⟩
  rw [← en154] at hag155 hW
  replace hf := ltE hf n154 en154
  have tq150 : n140 < n154 ∧ K152 n140 = 12 := ⟨by omega, ekq150⟩
  have g156 := hag155.t g144
  have g157 := hag155.e g144 g145
  have ag158 := (ag148).tr hag155
  refine W.widen (k := 15) (n := 104) (by omega) (by omega) ?_
  refine x_putrF 612 (ci := 6) (C := RX7) (T := TX7) (N := 16) (ty := (.array .int)) 12 hC hinX7 tyX7_ok nmX7 hW hS g156 g157 tq150 eqq150 rfl rfl ⟨by decide, by decide, rfl, rfl⟩ rfl w_20 rfl hinI rfl (by decide +kernel) rfl rfl dX7_init_114 (fun S159 H locs eS159 hW hS => ?_)
  replace hf := ltE hf S159 eS159
  refine lv_aload_n hx hb dX7_init_117 rfl (lv_at hl 0 rfl) ?_
  refine lv_bipush (v := 6) hx hb dX7_init_118 (by decide) ?_
  refine x_newaI (len := 6) hC w_10 hW hS hA (by decide) (by decide) (Nat.le_of_ble_eq_true rfl) (Nat.le_of_ble_eq_true rfl) (Nat.le_of_ble_eq_true rfl) dX7_init_120 (fun q160 ad161 K162 S163 H eS163 hag165 eqq160 ekq160 hW hS => ?_)
  replace hf := ltE hf S163 eS163
  obtain ⟨n164, en164⟩ : ∃ z, z = n154 + 1 := ⟨_, rfl⟩
  rw [← en164] at hag165 hW
  replace hf := ltE hf n164 en164
  have tq160 : n154 < n164 ∧ K162 n154 = 12 := ⟨by omega, ekq160⟩
  have g166 := hag165.t g156
  have g167 := hag165.e g156 g157
  have ag168 := (ag158).tr hag165
  refine W.widen (k := 16) (n := 110) (by omega) (by omega) ?_
  refine x_putrF 613 (ci := 6) (C := RX7) (T := TX7) (N := 16) (ty := (.array .int)) 13 hC hinX7 tyX7_ok nmX7 hW hS g166 g167 tq160 eqq160 rfl rfl ⟨by decide, by decide, rfl, rfl⟩ rfl w_21 rfl hinI rfl (by decide +kernel) rfl rfl dX7_init_122 (fun S169 H locs eS169 hW hS => ?_)
  replace hf := ltE hf S169 eS169
  refine lv_aload_n hx hb dX7_init_125 rfl (lv_at hl 0 rfl) ?_
  refine lv_bipush (v := 6) hx hb dX7_init_126 (by decide) ?_
  refine x_newaI (len := 6) hC w_10 hW hS hA (by decide) (by decide) (Nat.le_of_ble_eq_true rfl) (Nat.le_of_ble_eq_true rfl) (Nat.le_of_ble_eq_true rfl) dX7_init_128 (fun q170 ad171 K172 S173 H eS173 hag175 eqq170 ekq170 hW hS => ?_)
  replace hf := ltE hf S173 eS173
  obtain ⟨n174, en174⟩ : ∃ z, z = n164 + 1 := ⟨_, rfl⟩
  rw [← en174] at hag175 hW
  replace hf := ltE hf n174 en174
  have tq170 : n164 < n174 ∧ K172 n164 = 12 := ⟨by omega, ekq170⟩
  have g176 := hag175.t g166
  have g177 := hag175.e g166 g167
  have ag178 := (ag168).tr hag175
  refine W.widen (k := 17) (n := 116) (by omega) (by omega) ?_
  refine x_putrF 614 (ci := 6) (C := RX7) (T := TX7) (N := 16) (ty := (.array .int)) 14 hC hinX7 tyX7_ok nmX7 hW hS g176 g177 tq170 eqq170 rfl rfl ⟨by decide, by decide, rfl, rfl⟩ rfl w_22 rfl hinI rfl (by decide +kernel) rfl rfl dX7_init_130 (fun S179 H locs eS179 hW hS => ?_)
  replace hf := ltE hf S179 eS179
  refine lv_aload_n hx hb dX7_init_133 rfl (lv_at hl 0 rfl) ?_
  refine lv_bipush (v := 6) hx hb dX7_init_134 (by decide) ?_
  refine x_newaJ (len := 6) hC w_23 hW hS hA (by decide) (by decide) (Nat.le_of_ble_eq_true rfl) (Nat.le_of_ble_eq_true rfl) (Nat.le_of_ble_eq_true rfl) dX7_init_136 (fun q180 ad181 K182 S183 H eS183 hag185 eqq180 ekq180 hW hS => ?_)
  replace hf := ltE hf S183 eS183
  obtain ⟨n184, en184⟩ : ∃ z, z = n174 + 1 := ⟨_, rfl⟩
  rw [← en184] at hag185 hW
  replace hf := ltE hf n184 en184
  have tq180 : n174 < n184 ∧ K182 n174 = 13 := ⟨by omega, ekq180⟩
  have g186 := hag185.t g176
  have g187 := hag185.e g176 g177
  have ag188 := (ag178).tr hag185
  refine W.widen (k := 18) (n := 122) (by omega) (by omega) ?_
  refine x_putrF 615 (ci := 6) (C := RX7) (T := TX7) (N := 16) (ty := (.array .long)) 15 hC hinX7 tyX7_ok nmX7 hW hS g186 g187 tq180 eqq180 rfl rfl ⟨by decide, by decide, rfl, rfl⟩ rfl w_24 rfl hinI rfl (by decide +kernel) rfl rfl dX7_init_138 (fun S189 H locs eS189 hW hS => ?_)
  replace hf := ltE hf S189 eS189
  obtain ⟨e1, e2⟩ := so2 hf
  subst e1
  subst e2
  exact W.vret hx hb hr (fun t ht hWm => ⟨⟨ad181, K182, rfl, ag188, trivial, by rw [ht]; exact hW⟩, hS.F ht⟩) hS.2.2 dX7_init_141 hlk
set_option maxHeartbeats 4000000 in
set_option maxRecDepth 100000 in
theorem c_X0_init (l : Launch) (g : GP) (ad : Nat → Nat) (n : Nat) (K : Nat → Nat) (sz F : Nat) (S0 : St) (p0 : Nat) (p1 : Int32) (tp0 : p0 < n ∧ K p0 = 0) (S9 : St) (n9 : Nat) (hf : f_X0_init F S0 n p0 p1 = some (S9, n9)) : Met l yX0_init wsX0_init { frames := 1, cells := 1, slots := 2040, locals := 21 } (va_Pc [.ref (ad p0), .int p1] (PB g ad n K S0 sz)) (QA ad K n (fun _ => none) g n9 S9 (dA ad n sz) (fun _ => True)) 1 2040 (dA ad n sz) := by
  refine Met.ofW (cc := cX0_init) (maxL := 2) (ret := none) (by decide) rfl ?_
  intro p e s m args below meth c s₁ B hml hv
  obtain ⟨rfl, hsz, hW, hK, hGs⟩ := x_start hv
  subst hsz
  have hx := B.exec
  have hb := B.bytes
  have hr := B.returns
  have hts := atoms_spec (ws := wsX0_init) B.pre
  have hown : s.vm.findClass RX0 = some m.cls := findClass_of_methodNamed B.named
  have hlk := B.notSynchronized
  have hinI : meth.name = "<init>" := (name_of_methodNamed B.named B.method).1
  have hC : Cx g p s m _ c cX0_init RX0 wsX0_init 2 := ⟨hx, hb, hml, hown, hts, hK⟩
  have hA : ∀ q : Nat, s.heap.size ≤ q → dA ad n s.heap.size q := fun q h => Or.inr h
  have hS : va_S (dA ad n s.heap.size) s.heap s.heap [] := va_S.rf
  have hl := lv_entry ([.ref (ad p0), .int p1]) (n := 2) (Nat.le_of_ble_eq_true rfl)
  rw [lg_entry_eq]
  generalize (lg_sl ([.ref (ad p0), .int p1]) ++ List.replicate (2 - (lg_sl ([.ref (ad p0), .int p1])).length) Slot.unset).toArray = ls at hl ⊢
  have hl : lv_has ls 2 [(0, .ref (ad p0)), (1, .int p1)] := hl
  have hinX0 : ∀ w ∈ wsX00, w ∈ wsX0_init := by decide +kernel
  have w_0 := hts (.methodLink RX0 3 objectInit) (by decide +kernel)
  have w_1 := hts (.instanceMethod objectInit) (by decide +kernel)
  have w_2 := hts (.code objectInit ⟨#[0xb1]⟩ 1 none) (by decide +kernel)
  have w_3 := hts (.methodLink RX0 9 Lib.Math.max.name) (by decide +kernel)
  have w_4 := hts (.static Lib.Math.max.name) (by decide +kernel)
  have w_5 := hts (.initialized "java/lang/Math") (by decide +kernel)
  have w_6 := hts (.code Lib.Math.max.name Lib.Math.max.code 2 (some .int)) (by decide +kernel)
  have w_7 := hts (.arrayClass .byte) (by decide +kernel)
  have w_8 := hts (.fieldLink RX0 15 "MailSpool$Bytes" "row" "[B") (by decide +kernel)
  have hGE := hGs.2.2.2.1
  have hGM := hGs.2.2.2.2
  unfold f_X0_init at hf
  refine lv_aload_n hx hb dX0_init_0 rfl (lv_at hl 0 rfl) ?_
  refine W.objInit hx hb hown w_0 w_1 w_2 rfl (by rw [hml]; exact hl.1) rfl dX0_init_1 (Nat.le_of_ble_eq_true rfl) (Nat.le_of_ble_eq_true rfl) ?_
  refine W.eq (g2 := F0 m 4 ls []) rfl ?_
  refine lv_aload_n hx hb dX0_init_4 rfl (lv_at hl 0 rfl) ?_
  refine lv_iconst (v := 0) hx hb dX0_init_5 (by decide) ?_
  refine lv_iload_n hx hb dX0_init_6 rfl (lv_at hl 1 rfl) ?_
  refine va_mmax hx hb (hml.trans hl.1.symm) hown w_3 w_4 w_5 w_6 (by exact Nat.le_of_ble_eq_true rfl) (by exact Nat.le_of_ble_eq_true rfl) (by first | exact Nat.zero_le _ | exact Nat.le_of_ble_eq_true rfl) (by first | exact Nat.zero_le _ | exact Nat.le_of_ble_eq_true rfl) dX0_init_7 ?_
  replace hf := ckE hf
  obtain ⟨h7, hf⟩ := hf
  refine x_newaB (len := Int32.toNatClampNeg (if (0 : Int32) < p1 then p1 else (0 : Int32))) hC w_7 hW hS hA h7.1 rfl (by omega) (Nat.le_of_ble_eq_true rfl) (by show 0 + _ ≤ 2040; omega) dX0_init_10 (fun q1 ad2 K3 S4 H eS4 hag6 eqq1 ekq1 hW hS => ?_)
  replace hf := ltE hf S4 eS4
  obtain ⟨n5, en5⟩ : ∃ z, z = n + 1 := ⟨_, rfl⟩
  rw [← en5] at hag6 hW
  replace hf := ltE hf n5 en5
  have tq1 : n < n5 ∧ K3 n = 11 := ⟨by omega, ekq1⟩
  have g8 := hag6.t tp0
  have g9 := hag6.e tp0 rfl
  have ag10 := (Ag.rf).tr hag6
  refine W.widen (k := 1) (n := 2040) (by omega) (by omega) ?_
  refine x_putrF 0 (ci := 0) (C := RX0) (T := TX0) (N := 2) (ty := (.array .byte)) 0 hC hinX0 tyX0_ok nmX0 hW hS g8 g9 tq1 eqq1 rfl rfl ⟨by decide, by decide, rfl, rfl⟩ rfl w_8 rfl hinI rfl (by decide +kernel) rfl rfl dX0_init_12 (fun S11 H locs eS11 hW hS => ?_)
  replace hf := ltE hf S11 eS11
  obtain ⟨e1, e2⟩ := so2 hf
  subst e1
  subst e2
  exact W.vret hx hb hr (fun t ht hWm => ⟨⟨ad2, K3, rfl, ag10, trivial, by rw [ht]; exact hW⟩, hS.F ht⟩) hS.2.2 dX0_init_15 hlk
set_option maxHeartbeats 4000000 in
set_option maxRecDepth 100000 in
theorem c_X1_init (l : Launch) (g : GP) (ad : Nat → Nat) (n : Nat) (K : Nat → Nat) (sz F : Nat) (S0 : St) (p0 : Nat) (p1 : Nat) (tp0 : p0 < n ∧ K p0 = 1) (tp1 : p1 < n ∧ K p1 = 0) (S9 : St) (n9 : Nat) (hf : f_X1_init F S0 n p0 p1 = some (S9, n9)) : Met l yX1_init wsX1_init { frames := 1, cells := 2, slots := 8, locals := 20 } (va_Pc [.ref (ad p0), .ref (ad p1)] (PB g ad n K S0 sz)) (QA ad K n (fun _ => none) g n9 S9 (dA ad n sz) (fun _ => True)) 2 8 (dA ad n sz) := by
  refine Met.ofW (cc := cX1_init) (maxL := 2) (ret := none) (by decide) rfl ?_
  intro p e s m args below meth c s₁ B hml hv
  obtain ⟨rfl, hsz, hW, hK, hGs⟩ := x_start hv
  subst hsz
  have hx := B.exec
  have hb := B.bytes
  have hr := B.returns
  have hts := atoms_spec (ws := wsX1_init) B.pre
  have hown : s.vm.findClass RX1 = some m.cls := findClass_of_methodNamed B.named
  have hlk := B.notSynchronized
  have hinI : meth.name = "<init>" := (name_of_methodNamed B.named B.method).1
  have hC : Cx g p s m _ c cX1_init RX1 wsX1_init 2 := ⟨hx, hb, hml, hown, hts, hK⟩
  have hA : ∀ q : Nat, s.heap.size ≤ q → dA ad n s.heap.size q := fun q h => Or.inr h
  have hS : va_S (dA ad n s.heap.size) s.heap s.heap [] := va_S.rf
  have hl := lv_entry ([.ref (ad p0), .ref (ad p1)]) (n := 2) (Nat.le_of_ble_eq_true rfl)
  rw [lg_entry_eq]
  generalize (lg_sl ([.ref (ad p0), .ref (ad p1)]) ++ List.replicate (2 - (lg_sl ([.ref (ad p0), .ref (ad p1)])).length) Slot.unset).toArray = ls at hl ⊢
  have hl : lv_has ls 2 [(0, .ref (ad p0)), (1, .ref (ad p1))] := hl
  have hinX1 : ∀ w ∈ wsX10, w ∈ wsX1_init := by decide +kernel
  have w_0 := hts (.methodLink RX1 3 objectInit) (by decide +kernel)
  have w_1 := hts (.instanceMethod objectInit) (by decide +kernel)
  have w_2 := hts (.code objectInit ⟨#[0xb1]⟩ 1 none) (by decide +kernel)
  have w_3 := hts (.fieldLink RX1 9 "MailSpool$Content" "text" "LMailSpool$Bytes;") (by decide +kernel)
  have w_4 := hts (.arrayClass .int) (by decide +kernel)
  have w_5 := hts (.fieldLink RX1 15 "MailSpool$Content" "starts" "[I") (by decide +kernel)
  have w_6 := hts (.fieldLink RX1 19 "MailSpool$Content" "ends" "[I") (by decide +kernel)
  have hGE := hGs.2.2.2.1
  have hGM := hGs.2.2.2.2
  unfold f_X1_init at hf
  refine lv_aload_n hx hb dX1_init_0 rfl (lv_at hl 0 rfl) ?_
  refine W.objInit hx hb hown w_0 w_1 w_2 rfl (by rw [hml]; exact hl.1) rfl dX1_init_1 (Nat.le_of_ble_eq_true rfl) (Nat.le_of_ble_eq_true rfl) ?_
  refine W.eq (g2 := F0 m 4 ls []) rfl ?_
  refine lv_aload_n hx hb dX1_init_4 rfl (lv_at hl 0 rfl) ?_
  refine lv_aload_n hx hb dX1_init_5 rfl (lv_at hl 1 rfl) ?_
  refine x_putrF 100 (ci := 1) (C := RX1) (T := TX1) (N := 4) (ty := (.object "MailSpool$Bytes")) 0 hC hinX1 tyX1_ok nmX1 hW hS tp0 rfl tp1 rfl rfl rfl ⟨by decide, by decide, rfl, rfl⟩ rfl w_3 rfl hinI rfl (by decide +kernel) rfl rfl dX1_init_6 (fun S1 H locs eS1 hW hS => ?_)
  replace hf := ltE hf S1 eS1
  refine lv_aload_n hx hb dX1_init_9 rfl (lv_at hl 0 rfl) ?_
  refine lv_iconst (v := 4) hx hb dX1_init_10 (by decide) ?_
  refine x_newaI (len := 4) hC w_4 hW hS hA (by decide) (by decide) (Nat.le_of_ble_eq_true rfl) (Nat.le_of_ble_eq_true rfl) (Nat.le_of_ble_eq_true rfl) dX1_init_11 (fun q2 ad3 K4 S5 H eS5 hag7 eqq2 ekq2 hW hS => ?_)
  replace hf := ltE hf S5 eS5
  obtain ⟨n6, en6⟩ : ∃ z, z = n + 1 := ⟨_, rfl⟩
  rw [← en6] at hag7 hW
  replace hf := ltE hf n6 en6
  have tq2 : n < n6 ∧ K4 n = 12 := ⟨by omega, ekq2⟩
  have g8 := hag7.t tp0
  have g9 := hag7.e tp0 rfl
  have g10 := hag7.t tp1
  have g11 := hag7.e tp1 rfl
  have ag12 := (Ag.rf).tr hag7
  refine W.widen (k := 1) (n := 4) (by omega) (by omega) ?_
  refine x_putrF 101 (ci := 1) (C := RX1) (T := TX1) (N := 4) (ty := (.array .int)) 1 hC hinX1 tyX1_ok nmX1 hW hS g8 g9 tq2 eqq2 rfl rfl ⟨by decide, by decide, rfl, rfl⟩ rfl w_5 rfl hinI rfl (by decide +kernel) rfl rfl dX1_init_13 (fun S13 H locs eS13 hW hS => ?_)
  replace hf := ltE hf S13 eS13
  refine lv_aload_n hx hb dX1_init_16 rfl (lv_at hl 0 rfl) ?_
  refine lv_iconst (v := 4) hx hb dX1_init_17 (by decide) ?_
  refine x_newaI (len := 4) hC w_4 hW hS hA (by decide) (by decide) (Nat.le_of_ble_eq_true rfl) (Nat.le_of_ble_eq_true rfl) (Nat.le_of_ble_eq_true rfl) dX1_init_18 (fun q14 ad15 K16 S17 H eS17 hag19 eqq14 ekq14 hW hS => ?_)
  replace hf := ltE hf S17 eS17
  obtain ⟨n18, en18⟩ : ∃ z, z = n6 + 1 := ⟨_, rfl⟩
  rw [← en18] at hag19 hW
  replace hf := ltE hf n18 en18
  have tq14 : n6 < n18 ∧ K16 n6 = 12 := ⟨by omega, ekq14⟩
  have g20 := hag19.t g8
  have g21 := hag19.e g8 g9
  have g22 := hag19.t g10
  have g23 := hag19.e g10 g11
  have ag24 := (ag12).tr hag19
  refine W.widen (k := 2) (n := 8) (by omega) (by omega) ?_
  refine x_putrF 102 (ci := 1) (C := RX1) (T := TX1) (N := 4) (ty := (.array .int)) 2 hC hinX1 tyX1_ok nmX1 hW hS g20 g21 tq14 eqq14 rfl rfl ⟨by decide, by decide, rfl, rfl⟩ rfl w_6 rfl hinI rfl (by decide +kernel) rfl rfl dX1_init_20 (fun S25 H locs eS25 hW hS => ?_)
  replace hf := ltE hf S25 eS25
  obtain ⟨e1, e2⟩ := so2 hf
  subst e1
  subst e2
  exact W.vret hx hb hr (fun t ht hWm => ⟨⟨ad15, K16, rfl, ag24, trivial, by rw [ht]; exact hW⟩, hS.F ht⟩) hS.2.2 dX1_init_23 hlk
set_option maxHeartbeats 4000000 in
set_option maxRecDepth 100000 in
theorem c_X9_init (l : Launch) (g : GP) (ad : Nat → Nat) (n : Nat) (K : Nat → Nat) (sz F : Nat) (S0 : St) (p0 : Nat) (tp0 : p0 < n ∧ K p0 = 8) (S9 : St) (n9 : Nat) (hf : f_X9_init F S0 n p0 = some (S9, n9)) : Met l yX9_init wsX9_init { frames := 2, cells := 6, slots := 3962, locals := 42 } (va_Pc [.ref (ad p0)] (PB g ad n K S0 sz)) (QA ad K n (fun _ => none) g n9 S9 (dA ad n sz) (fun _ => True)) 6 3962 (dA ad n sz) := by
  refine Met.ofW (cc := cX9_init) (maxL := 1) (ret := none) (by decide) rfl ?_
  intro p e s m args below meth c s₁ B hml hv
  obtain ⟨rfl, hsz, hW, hK, hGs⟩ := x_start hv
  subst hsz
  have hx := B.exec
  have hb := B.bytes
  have hr := B.returns
  have hts := atoms_spec (ws := wsX9_init) B.pre
  have hown : s.vm.findClass RX9 = some m.cls := findClass_of_methodNamed B.named
  have hlk := B.notSynchronized
  have hinI : meth.name = "<init>" := (name_of_methodNamed B.named B.method).1
  have hC : Cx g p s m _ c cX9_init RX9 wsX9_init 1 := ⟨hx, hb, hml, hown, hts, hK⟩
  have hA : ∀ q : Nat, s.heap.size ≤ q → dA ad n s.heap.size q := fun q h => Or.inr h
  have hS : va_S (dA ad n s.heap.size) s.heap s.heap [] := va_S.rf
  have hl := lv_entry ([.ref (ad p0)]) (n := 1) (Nat.le_of_ble_eq_true rfl)
  rw [lg_entry_eq]
  generalize (lg_sl ([.ref (ad p0)]) ++ List.replicate (1 - (lg_sl ([.ref (ad p0)])).length) Slot.unset).toArray = ls at hl ⊢
  have hl : lv_has ls 1 [(0, .ref (ad p0))] := hl
  have hinX0 : ∀ w ∈ wsX00, w ∈ wsX9_init := by decide +kernel
  have hinX9 : ∀ w ∈ wsX90, w ∈ wsX9_init := by decide +kernel
  have w_0 := hts (.methodLink RX9 3 objectInit) (by decide +kernel)
  have w_1 := hts (.instanceMethod objectInit) (by decide +kernel)
  have w_2 := hts (.code objectInit ⟨#[0xb1]⟩ 1 none) (by decide +kernel)
  have w_3 := hts (.classLink RX9 9 RX0) (by decide +kernel)
  have w_4 := hts (.fieldLink RX9 11 "MailSpool$Store" "contents" "[LMailSpool$Bytes;") (by decide +kernel)
  have w_5 := hts (.arrayClass .int) (by decide +kernel)
  have w_6 := hts (.fieldLink RX9 17 "MailSpool$Store" "firstMessage" "[I") (by decide +kernel)
  have w_7 := hts (.fieldLink RX9 21 "MailSpool$Store" "keepers" "[I") (by decide +kernel)
  have w_8 := hts (.fieldLink RX9 24 "MailSpool$Store" "deadSince" "[I") (by decide +kernel)
  have w_9 := hts (.instantiable RX0 2) (by decide +kernel)
  have w_10 := hts (.initialized RX0) (by decide +kernel)
  have w_11 := hts (.methodLink RX9 27 yX0_init) (by decide +kernel)
  have w_12 := hts (.instanceMethod yX0_init) (by decide +kernel)
  have w_13 := hts (.fieldLink RX9 30 "MailSpool$Store" "noBytes" "LMailSpool$Bytes;") (by decide +kernel)
  have hGE := hGs.2.2.2.1
  have hGM := hGs.2.2.2.2
  unfold f_X9_init at hf
  refine lv_aload_n hx hb dX9_init_0 rfl (lv_at hl 0 rfl) ?_
  refine W.objInit hx hb hown w_0 w_1 w_2 rfl (by rw [hml]; exact hl.1) rfl dX9_init_1 (Nat.le_of_ble_eq_true rfl) (Nat.le_of_ble_eq_true rfl) ?_
  refine W.eq (g2 := F0 m 4 ls []) rfl ?_
  refine lv_aload_n hx hb dX9_init_4 rfl (lv_at hl 0 rfl) ?_
  refine lv_sipush (v := 480) hx hb dX9_init_5 (by decide) ?_
  refine x_newq (C := RX0) (kd := 14) (t0 := 3) (len := 480) hC w_3 hGs.2.2.1.1 ⟨by decide, rfl⟩ hW hS hA (by decide) (by decide) (Nat.le_of_ble_eq_true rfl) (Nat.le_of_ble_eq_true rfl) (Nat.le_of_ble_eq_true rfl) dX9_init_8 (fun q1 ad2 K3 S4 H eS4 hag6 eqq1 ekq1 hW hS => ?_)
  replace hf := ltE hf S4 eS4
  obtain ⟨n5, en5⟩ : ∃ z, z = n + 1 := ⟨_, rfl⟩
  rw [← en5] at hag6 hW
  replace hf := ltE hf n5 en5
  have tq1 : n < n5 ∧ K3 n = 14 := ⟨by omega, ekq1⟩
  have g7 := hag6.t tp0
  have g8 := hag6.e tp0 rfl
  have ag9 := (Ag.rf).tr hag6
  refine W.widen (k := 1) (n := 480) (by omega) (by omega) ?_
  refine x_putrF 803 (ci := 8) (C := RX9) (T := TX9) (N := 8) (ty := (.array (.object "MailSpool$Bytes"))) 3 hC hinX9 tyX9_ok nmX9 hW hS g7 g8 tq1 eqq1 rfl rfl ⟨by decide, by decide, rfl, rfl⟩ rfl w_4 rfl hinI rfl (by decide +kernel) rfl rfl dX9_init_11 (fun S10 H locs eS10 hW hS => ?_)
  replace hf := ltE hf S10 eS10
  refine lv_aload_n hx hb dX9_init_14 rfl (lv_at hl 0 rfl) ?_
  refine lv_sipush (v := 480) hx hb dX9_init_15 (by decide) ?_
  refine x_newaI (len := 480) hC w_5 hW hS hA (by decide) (by decide) (Nat.le_of_ble_eq_true rfl) (Nat.le_of_ble_eq_true rfl) (Nat.le_of_ble_eq_true rfl) dX9_init_18 (fun q11 ad12 K13 S14 H eS14 hag16 eqq11 ekq11 hW hS => ?_)
  replace hf := ltE hf S14 eS14
  obtain ⟨n15, en15⟩ : ∃ z, z = n5 + 1 := ⟨_, rfl⟩
  rw [← en15] at hag16 hW
  replace hf := ltE hf n15 en15
  have tq11 : n5 < n15 ∧ K13 n5 = 12 := ⟨by omega, ekq11⟩
  have g17 := hag16.t g7
  have g18 := hag16.e g7 g8
  have ag19 := (ag9).tr hag16
  refine W.widen (k := 2) (n := 960) (by omega) (by omega) ?_
  refine x_putrF 804 (ci := 8) (C := RX9) (T := TX9) (N := 8) (ty := (.array .int)) 4 hC hinX9 tyX9_ok nmX9 hW hS g17 g18 tq11 eqq11 rfl rfl ⟨by decide, by decide, rfl, rfl⟩ rfl w_6 rfl hinI rfl (by decide +kernel) rfl rfl dX9_init_20 (fun S20 H locs eS20 hW hS => ?_)
  replace hf := ltE hf S20 eS20
  refine lv_aload_n hx hb dX9_init_23 rfl (lv_at hl 0 rfl) ?_
  refine lv_sipush (v := 480) hx hb dX9_init_24 (by decide) ?_
  refine x_newaI (len := 480) hC w_5 hW hS hA (by decide) (by decide) (Nat.le_of_ble_eq_true rfl) (Nat.le_of_ble_eq_true rfl) (Nat.le_of_ble_eq_true rfl) dX9_init_27 (fun q21 ad22 K23 S24 H eS24 hag26 eqq21 ekq21 hW hS => ?_)
  replace hf := ltE hf S24 eS24
  obtain ⟨n25, en25⟩ : ∃ z, z = n15 + 1 := ⟨_, rfl⟩
  rw [← en25] at hag26 hW
  replace hf := ltE hf n25 en25
  have tq21 : n15 < n25 ∧ K23 n15 = 12 := ⟨by omega, ekq21⟩
  have g27 := hag26.t g17
  have g28 := hag26.e g17 g18
  have ag29 := (ag19).tr hag26
  refine W.widen (k := 3) (n := 1440) (by omega) (by omega) ?_
  refine x_putrF 805 (ci := 8) (C := RX9) (T := TX9) (N := 8) (ty := (.array .int)) 5 hC hinX9 tyX9_ok nmX9 hW hS g27 g28 tq21 eqq21 rfl rfl ⟨by decide, by decide, rfl, rfl⟩ rfl w_7 rfl hinI rfl (by decide +kernel) rfl rfl dX9_init_29 (fun S30 H locs eS30 hW hS => ?_)
  replace hf := ltE hf S30 eS30
  refine lv_aload_n hx hb dX9_init_32 rfl (lv_at hl 0 rfl) ?_
  refine lv_sipush (v := 480) hx hb dX9_init_33 (by decide) ?_
  refine x_newaI (len := 480) hC w_5 hW hS hA (by decide) (by decide) (Nat.le_of_ble_eq_true rfl) (Nat.le_of_ble_eq_true rfl) (Nat.le_of_ble_eq_true rfl) dX9_init_36 (fun q31 ad32 K33 S34 H eS34 hag36 eqq31 ekq31 hW hS => ?_)
  replace hf := ltE hf S34 eS34
  obtain ⟨n35, en35⟩ : ∃ z, z = n25 + 1 := ⟨_, rfl⟩
  rw [← en35] at hag36 hW
  replace hf := ltE hf n35 en35
  have tq31 : n25 < n35 ∧ K33 n25 = 12 := ⟨by omega, ekq31⟩
  have g37 := hag36.t g27
  have g38 := hag36.e g27 g28
  have ag39 := (ag29).tr hag36
  refine W.widen (k := 4) (n := 1920) (by omega) (by omega) ?_
  refine x_putrF 806 (ci := 8) (C := RX9) (T := TX9) (N := 8) (ty := (.array .int)) 6 hC hinX9 tyX9_ok nmX9 hW hS g37 g38 tq31 eqq31 rfl rfl ⟨by decide, by decide, rfl, rfl⟩ rfl w_8 rfl hinI rfl (by decide +kernel) rfl rfl dX9_init_38 (fun S40 H locs eS40 hW hS => ?_)
  replace hf := ltE hf S40 eS40
  refine lv_aload_n hx hb dX9_init_41 rfl (lv_at hl 0 rfl) ?_
  refine x_new (ci := 0) (C := RX0) (T := TX0) (N := 2) hC hinX0 tyX0_ok hW hS hA ⟨rfl, by decide, by decide⟩ (by decide +kernel) w_3 w_9 w_10 (Nat.le_of_ble_eq_true rfl) (Nat.le_of_ble_eq_true rfl) dX9_init_42 (fun q41 ad42 K43 S44 H eS44 hag46 eqq41 ekq41 hW hS => ?_)
  replace hf := ltE hf S44 eS44
  obtain ⟨n45, en45⟩ : ∃ z, z = n35 + 1 := ⟨_, rfl⟩
  rw [← en45] at hag46 hW
  replace hf := ltE hf n45 en45
  have tq41 : n35 < n45 ∧ K43 n35 = 0 := ⟨by omega, ekq41⟩
  have g47 := hag46.t g37
  have g48 := hag46.e g37 g38
  have ag49 := (ag39).tr hag46
  refine W.widen (k := 5) (n := 1922) (by omega) (by omega) ?_
  refine lv_dup hx hb dX9_init_45 rfl ?_
  refine lv_iconst (v := 0) hx hb dX9_init_46 (by decide) ?_
  replace hf := obE hf
  obtain ⟨z50, hz50, hf⟩ := hf
  obtain ⟨S51, n53⟩ := z50
  replace hf := ltE (ltE hf S51 rfl) n53 rfl
  refine x_acallI (As := [.int 0]) (rest := [.ref (q41), .ref (ad p0)]) (S1 := S51) (n1 := n53) (o := (fun _ => none)) (P := (fun _ => True)) hC hl.1 hW hS hGs hA (c_X0_init l g ad42 n45 K43 H.size F S44 n35 ((0 : Int32)) tq41 S51 n53 hz50) (cwI 1 hts gX9_init_X0_init rfl rfl rfl w_10 w_11 w_12 rfl (by decide +kernel) ⟨Nat.le_of_ble_eq_true rfl, Nat.le_of_ble_eq_true rfl⟩) rfl (by rw [eqq41] <;> rfl) (Nat.le_of_ble_eq_true rfl) dX9_init_47 ⟨(Nat.le_of_ble_eq_true rfl), (Nat.le_of_ble_eq_true rfl)⟩ (fun ad54 K55 H locs hag56 hPz50 hW hS => ?_)
  have g57 := hag56.t g47
  have g58 := hag56.e g47 g48
  have g59 := hag56.t tq41
  have g60 := hag56.e tq41 eqq41
  have ag61 := (ag49).tr hag56
  refine W.widen (k := 6) (n := 3962) (by omega) (by omega) ?_
  refine W.eq (g2 := F0 m 50 ls [.ref (q41), .ref (ad p0)]) rfl ?_
  refine x_putrF 807 (ci := 8) (C := RX9) (T := TX9) (N := 8) (ty := (.object "MailSpool$Bytes")) 7 hC hinX9 tyX9_ok nmX9 hW hS g57 g58 g59 g60 rfl rfl ⟨by decide, by decide, rfl, rfl⟩ rfl w_13 rfl hinI rfl (by decide +kernel) rfl rfl dX9_init_50 (fun S62 H locs eS62 hW hS => ?_)
  replace hf := ltE hf S62 eS62
  obtain ⟨e1, e2⟩ := so2 hf
  subst e1
  subst e2
  exact W.vret hx hb hr (fun t ht hWm => ⟨⟨ad54, K55, rfl, ag61, trivial, by rw [ht]; exact hW⟩, hS.F ht⟩) hS.2.2 dX9_init_53 hlk
set_option maxHeartbeats 4000000 in
set_option maxRecDepth 100000 in
theorem c_X2_init (l : Launch) (g : GP) (ad : Nat → Nat) (n : Nat) (K : Nat → Nat) (sz F : Nat) (S0 : St) (p0 : Nat) (tp0 : p0 < n ∧ K p0 = 2) (S9 : St) (n9 : Nat) (hf : f_X2_init F S0 n p0 = some (S9, n9)) : Met l yX2_init wsX2_init { frames := 1, cells := 3, slots := 180, locals := 20 } (va_Pc [.ref (ad p0)] (PB g ad n K S0 sz)) (QA ad K n (fun _ => none) g n9 S9 (dA ad n sz) (fun _ => True)) 3 180 (dA ad n sz) := by
  refine Met.ofW (cc := cX2_init) (maxL := 1) (ret := none) (by decide) rfl ?_
  intro p e s m args below meth c s₁ B hml hv
  obtain ⟨rfl, hsz, hW, hK, hGs⟩ := x_start hv
  subst hsz
  have hx := B.exec
  have hb := B.bytes
  have hr := B.returns
  have hts := atoms_spec (ws := wsX2_init) B.pre
  have hown : s.vm.findClass RX2 = some m.cls := findClass_of_methodNamed B.named
  have hlk := B.notSynchronized
  have hinI : meth.name = "<init>" := (name_of_methodNamed B.named B.method).1
  have hC : Cx g p s m _ c cX2_init RX2 wsX2_init 1 := ⟨hx, hb, hml, hown, hts, hK⟩
  have hA : ∀ q : Nat, s.heap.size ≤ q → dA ad n s.heap.size q := fun q h => Or.inr h
  have hS : va_S (dA ad n s.heap.size) s.heap s.heap [] := va_S.rf
  have hl := lv_entry ([.ref (ad p0)]) (n := 1) (Nat.le_of_ble_eq_true rfl)
  rw [lg_entry_eq]
  generalize (lg_sl ([.ref (ad p0)]) ++ List.replicate (1 - (lg_sl ([.ref (ad p0)])).length) Slot.unset).toArray = ls at hl ⊢
  have hl : lv_has ls 1 [(0, .ref (ad p0))] := hl
  have hinX2 : ∀ w ∈ wsX20, w ∈ wsX2_init := by decide +kernel
  have w_0 := hts (.methodLink RX2 3 objectInit) (by decide +kernel)
  have w_1 := hts (.instanceMethod objectInit) (by decide +kernel)
  have w_2 := hts (.code objectInit ⟨#[0xb1]⟩ 1 none) (by decide +kernel)
  have w_3 := hts (.arrayClass .int) (by decide +kernel)
  have w_4 := hts (.fieldLink RX2 9 "MailSpool$Journal" "days" "[I") (by decide +kernel)
  have w_5 := hts (.fieldLink RX2 15 "MailSpool$Journal" "kinds" "[I") (by decide +kernel)
  have w_6 := hts (.fieldLink RX2 18 "MailSpool$Journal" "objects" "[I") (by decide +kernel)
  have hGE := hGs.2.2.2.1
  have hGM := hGs.2.2.2.2
  unfold f_X2_init at hf
  refine lv_aload_n hx hb dX2_init_0 rfl (lv_at hl 0 rfl) ?_
  refine W.objInit hx hb hown w_0 w_1 w_2 rfl (by rw [hml]; exact hl.1) rfl dX2_init_1 (Nat.le_of_ble_eq_true rfl) (Nat.le_of_ble_eq_true rfl) ?_
  refine W.eq (g2 := F0 m 4 ls []) rfl ?_
  refine lv_aload_n hx hb dX2_init_4 rfl (lv_at hl 0 rfl) ?_
  refine lv_bipush (v := 60) hx hb dX2_init_5 (by decide) ?_
  refine x_newaI (len := 60) hC w_3 hW hS hA (by decide) (by decide) (Nat.le_of_ble_eq_true rfl) (Nat.le_of_ble_eq_true rfl) (Nat.le_of_ble_eq_true rfl) dX2_init_7 (fun q1 ad2 K3 S4 H eS4 hag6 eqq1 ekq1 hW hS => ?_)
  replace hf := ltE hf S4 eS4
  obtain ⟨n5, en5⟩ : ∃ z, z = n + 1 := ⟨_, rfl⟩
  rw [← en5] at hag6 hW
  replace hf := ltE hf n5 en5
  have tq1 : n < n5 ∧ K3 n = 12 := ⟨by omega, ekq1⟩
  have g7 := hag6.t tp0
  have g8 := hag6.e tp0 rfl
  have ag9 := (Ag.rf).tr hag6
  refine W.widen (k := 1) (n := 60) (by omega) (by omega) ?_
  refine x_putrF 200 (ci := 2) (C := RX2) (T := TX2) (N := 5) (ty := (.array .int)) 0 hC hinX2 tyX2_ok nmX2 hW hS g7 g8 tq1 eqq1 rfl rfl ⟨by decide, by decide, rfl, rfl⟩ rfl w_4 rfl hinI rfl (by decide +kernel) rfl rfl dX2_init_9 (fun S10 H locs eS10 hW hS => ?_)
  replace hf := ltE hf S10 eS10
  refine lv_aload_n hx hb dX2_init_12 rfl (lv_at hl 0 rfl) ?_
  refine lv_bipush (v := 60) hx hb dX2_init_13 (by decide) ?_
  refine x_newaI (len := 60) hC w_3 hW hS hA (by decide) (by decide) (Nat.le_of_ble_eq_true rfl) (Nat.le_of_ble_eq_true rfl) (Nat.le_of_ble_eq_true rfl) dX2_init_15 (fun q11 ad12 K13 S14 H eS14 hag16 eqq11 ekq11 hW hS => ?_)
  replace hf := ltE hf S14 eS14
  obtain ⟨n15, en15⟩ : ∃ z, z = n5 + 1 := ⟨_, rfl⟩
  rw [← en15] at hag16 hW
  replace hf := ltE hf n15 en15
  have tq11 : n5 < n15 ∧ K13 n5 = 12 := ⟨by omega, ekq11⟩
  have g17 := hag16.t g7
  have g18 := hag16.e g7 g8
  have ag19 := (ag9).tr hag16
  refine W.widen (k := 2) (n := 120) (by omega) (by omega) ?_
  refine x_putrF 201 (ci := 2) (C := RX2) (T := TX2) (N := 5) (ty := (.array .int)) 1 hC hinX2 tyX2_ok nmX2 hW hS g17 g18 tq11 eqq11 rfl rfl ⟨by decide, by decide, rfl, rfl⟩ rfl w_5 rfl hinI rfl (by decide +kernel) rfl rfl dX2_init_17 (fun S20 H locs eS20 hW hS => ?_)
  replace hf := ltE hf S20 eS20
  refine lv_aload_n hx hb dX2_init_20 rfl (lv_at hl 0 rfl) ?_
  refine lv_bipush (v := 60) hx hb dX2_init_21 (by decide) ?_
  refine x_newaI (len := 60) hC w_3 hW hS hA (by decide) (by decide) (Nat.le_of_ble_eq_true rfl) (Nat.le_of_ble_eq_true rfl) (Nat.le_of_ble_eq_true rfl) dX2_init_23 (fun q21 ad22 K23 S24 H eS24 hag26 eqq21 ekq21 hW hS => ?_)
  replace hf := ltE hf S24 eS24
  obtain ⟨n25, en25⟩ : ∃ z, z = n15 + 1 := ⟨_, rfl⟩
  rw [← en25] at hag26 hW
  replace hf := ltE hf n25 en25
  have tq21 : n15 < n25 ∧ K23 n15 = 12 := ⟨by omega, ekq21⟩
  have g27 := hag26.t g17
  have g28 := hag26.e g17 g18
  have ag29 := (ag19).tr hag26
  refine W.widen (k := 3) (n := 180) (by omega) (by omega) ?_
  refine x_putrF 202 (ci := 2) (C := RX2) (T := TX2) (N := 5) (ty := (.array .int)) 2 hC hinX2 tyX2_ok nmX2 hW hS g27 g28 tq21 eqq21 rfl rfl ⟨by decide, by decide, rfl, rfl⟩ rfl w_6 rfl hinI rfl (by decide +kernel) rfl rfl dX2_init_25 (fun S30 H locs eS30 hW hS => ?_)
  replace hf := ltE hf S30 eS30
  obtain ⟨e1, e2⟩ := so2 hf
  subst e1
  subst e2
  exact W.vret hx hb hr (fun t ht hWm => ⟨⟨ad22, K23, rfl, ag29, trivial, by rw [ht]; exact hW⟩, hS.F ht⟩) hS.2.2 dX2_init_28 hlk
set_option maxHeartbeats 4000000 in
set_option maxRecDepth 100000 in
theorem c_X4_init (l : Launch) (g : GP) (ad : Nat → Nat) (n : Nat) (K : Nat → Nat) (sz F : Nat) (S0 : St) (p0 : Nat) (p1 : Int32) (p2 : Int32) (p3 : Int32) (p4 : Int32) (tp0 : p0 < n ∧ K p0 = 3) (S9 : St) (n9 : Nat) (hf : f_X4_init F S0 n p0 p1 p2 p3 p4 = some (S9, n9)) : Met l yX4_init wsX4_init { frames := 1, cells := 1, slots := 4, locals := 21 } (va_Pc [.ref (ad p0), .int p1, .int p2, .int p3, .int p4] (PB g ad n K S0 sz)) (QA ad K n (fun _ => none) g n9 S9 (dA ad n sz) (fun _ => True)) 1 4 (dA ad n sz) := by
  refine Met.ofW (cc := cX4_init) (maxL := 5) (ret := none) (by decide) rfl ?_
  intro p e s m args below meth c s₁ B hml hv
  obtain ⟨rfl, hsz, hW, hK, hGs⟩ := x_start hv
  subst hsz
  have hx := B.exec
  have hb := B.bytes
  have hr := B.returns
  have hts := atoms_spec (ws := wsX4_init) B.pre
  have hown : s.vm.findClass RX4 = some m.cls := findClass_of_methodNamed B.named
  have hlk := B.notSynchronized
  have hinI : meth.name = "<init>" := (name_of_methodNamed B.named B.method).1
  have hC : Cx g p s m _ c cX4_init RX4 wsX4_init 5 := ⟨hx, hb, hml, hown, hts, hK⟩
  have hA : ∀ q : Nat, s.heap.size ≤ q → dA ad n s.heap.size q := fun q h => Or.inr h
  have hS : va_S (dA ad n s.heap.size) s.heap s.heap [] := va_S.rf
  have hl := lv_entry ([.ref (ad p0), .int p1, .int p2, .int p3, .int p4]) (n := 5) (Nat.le_of_ble_eq_true rfl)
  rw [lg_entry_eq]
  generalize (lg_sl ([.ref (ad p0), .int p1, .int p2, .int p3, .int p4]) ++ List.replicate (5 - (lg_sl ([.ref (ad p0), .int p1, .int p2, .int p3, .int p4])).length) Slot.unset).toArray = ls at hl ⊢
  have hl : lv_has ls 5 [(0, .ref (ad p0)), (1, .int p1), (2, .int p2), (3, .int p3), (4, .int p4)] := hl
  have hinX4 : ∀ w ∈ wsX40, w ∈ wsX4_init := by decide +kernel
  have w_0 := hts (.methodLink RX4 3 objectInit) (by decide +kernel)
  have w_1 := hts (.instanceMethod objectInit) (by decide +kernel)
  have w_2 := hts (.code objectInit ⟨#[0xb1]⟩ 1 none) (by decide +kernel)
  have w_3 := hts (.fieldLink RX4 9 "MailSpool$Message" "sender" "I") (by decide +kernel)
  have w_4 := hts (.fieldLink RX4 15 "MailSpool$Message" "day" "I") (by decide +kernel)
  have w_5 := hts (.fieldLink RX4 18 "MailSpool$Message" "size" "I") (by decide +kernel)
  have w_6 := hts (.methodLink RX4 21 Lib.Math.max.name) (by decide +kernel)
  have w_7 := hts (.static Lib.Math.max.name) (by decide +kernel)
  have w_8 := hts (.initialized "java/lang/Math") (by decide +kernel)
  have w_9 := hts (.code Lib.Math.max.name Lib.Math.max.code 2 (some .int)) (by decide +kernel)
  have w_10 := hts (.arrayClass .int) (by decide +kernel)
  have w_11 := hts (.fieldLink RX4 27 "MailSpool$Message" "parts" "[I") (by decide +kernel)
  have hGE := hGs.2.2.2.1
  have hGM := hGs.2.2.2.2
  unfold f_X4_init at hf
  refine lv_aload_n hx hb dX4_init_0 rfl (lv_at hl 0 rfl) ?_
  refine W.objInit hx hb hown w_0 w_1 w_2 rfl (by rw [hml]; exact hl.1) rfl dX4_init_1 (Nat.le_of_ble_eq_true rfl) (Nat.le_of_ble_eq_true rfl) ?_
  refine W.eq (g2 := F0 m 4 ls []) rfl ?_
  refine lv_aload_n hx hb dX4_init_4 rfl (lv_at hl 0 rfl) ?_
  refine lv_iload_n hx hb dX4_init_5 rfl (lv_at hl 1 rfl) ?_
  refine x_putiF 300 (ci := 3) (C := RX4) (T := TX4) (N := 5) (v := p1) (ty := .int) 0 hC hinX4 tyX4_ok nmX4 hW hS tp0 rfl rfl ⟨by decide, by decide, rfl, rfl⟩ rfl w_3 rfl hinI rfl (by decide +kernel) rfl rfl dX4_init_6 (fun S1 H locs eS1 hW hS => ?_)
  replace hf := ltE hf S1 eS1
  refine lv_aload_n hx hb dX4_init_9 rfl (lv_at hl 0 rfl) ?_
  refine lv_iload_n hx hb dX4_init_10 rfl (lv_at hl 2 rfl) ?_
  refine x_putiF 301 (ci := 3) (C := RX4) (T := TX4) (N := 5) (v := p2) (ty := .int) 1 hC hinX4 tyX4_ok nmX4 hW hS tp0 rfl rfl ⟨by decide, by decide, rfl, rfl⟩ rfl w_4 rfl hinI rfl (by decide +kernel) rfl rfl dX4_init_11 (fun S2 H locs eS2 hW hS => ?_)
  replace hf := ltE hf S2 eS2
  refine lv_aload_n hx hb dX4_init_14 rfl (lv_at hl 0 rfl) ?_
  refine lv_iload_n hx hb dX4_init_15 rfl (lv_at hl 3 rfl) ?_
  refine x_putiF 302 (ci := 3) (C := RX4) (T := TX4) (N := 5) (v := p3) (ty := .int) 2 hC hinX4 tyX4_ok nmX4 hW hS tp0 rfl rfl ⟨by decide, by decide, rfl, rfl⟩ rfl w_5 rfl hinI rfl (by decide +kernel) rfl rfl dX4_init_16 (fun S3 H locs eS3 hW hS => ?_)
  replace hf := ltE hf S3 eS3
  refine lv_aload_n hx hb dX4_init_19 rfl (lv_at hl 0 rfl) ?_
  refine lv_iconst (v := 0) hx hb dX4_init_20 (by decide) ?_
  refine lv_iload hx hb dX4_init_21 (lv_at hl 4 rfl) ?_
  refine va_mmax hx hb (hml.trans hl.1.symm) hown w_6 w_7 w_8 w_9 (by exact Nat.le_of_ble_eq_true rfl) (by exact Nat.le_of_ble_eq_true rfl) (by first | exact Nat.zero_le _ | exact Nat.le_of_ble_eq_true rfl) (by first | exact Nat.zero_le _ | exact Nat.le_of_ble_eq_true rfl) dX4_init_23 ?_
  replace hf := ckE hf
  obtain ⟨h10, hf⟩ := hf
  refine x_newaI (len := Int32.toNatClampNeg (if (0 : Int32) < p4 then p4 else (0 : Int32))) hC w_10 hW hS hA h10.1 rfl (by omega) (Nat.le_of_ble_eq_true rfl) (by show 0 + _ ≤ 4; omega) dX4_init_26 (fun q4 ad5 K6 S7 H eS7 hag9 eqq4 ekq4 hW hS => ?_)
  replace hf := ltE hf S7 eS7
  obtain ⟨n8, en8⟩ : ∃ z, z = n + 1 := ⟨_, rfl⟩
  rw [← en8] at hag9 hW
  replace hf := ltE hf n8 en8
  have tq4 : n < n8 ∧ K6 n = 12 := ⟨by omega, ekq4⟩
  have g11 := hag9.t tp0
  have g12 := hag9.e tp0 rfl
  have ag13 := (Ag.rf).tr hag9
  refine W.widen (k := 1) (n := 4) (by omega) (by omega) ?_
  refine x_putrF 303 (ci := 3) (C := RX4) (T := TX4) (N := 5) (ty := (.array .int)) 3 hC hinX4 tyX4_ok nmX4 hW hS g11 g12 tq4 eqq4 rfl rfl ⟨by decide, by decide, rfl, rfl⟩ rfl w_11 rfl hinI rfl (by decide +kernel) rfl rfl dX4_init_28 (fun S14 H locs eS14 hW hS => ?_)
  replace hf := ltE hf S14 eS14
  obtain ⟨e1, e2⟩ := so2 hf
  subst e1
  subst e2
  exact W.vret hx hb hr (fun t ht hWm => ⟨⟨ad5, K6, rfl, ag13, trivial, by rw [ht]; exact hW⟩, hS.F ht⟩) hS.2.2 dX4_init_31 hlk
set_option maxHeartbeats 4000000 in
set_option maxRecDepth 100000 in
theorem c_X8_init (l : Launch) (g : GP) (ad : Nat → Nat) (n : Nat) (K : Nat → Nat) (sz F : Nat) (S0 : St) (p0 : Nat) (p1 : Nat) (tp0 : p0 < n ∧ K p0 = 7) (tp1 : p1 < n ∧ K p1 = 6) (S9 : St) (n9 : Nat) (hf : f_X8_init F S0 n p0 p1 = some (S9, n9)) : Met l yX8_init wsX8_init { frames := 3, cells := 20, slots := 9102, locals := 62 } (va_Pc [.ref (ad p0), .ref (ad p1)] (PB g ad n K S0 sz)) (QA ad K n (fun _ => none) g n9 S9 (dA ad n sz) (fun _ => True)) 20 9102 (dA ad n sz) := by
  refine Met.ofW (cc := cX8_init) (maxL := 2) (ret := none) (by decide) rfl ?_
  intro p e s m args below meth c s₁ B hml hv
  obtain ⟨rfl, hsz, hW, hK, hGs⟩ := x_start hv
  subst hsz
  have hx := B.exec
  have hb := B.bytes
  have hr := B.returns
  have hts := atoms_spec (ws := wsX8_init) B.pre
  have hown : s.vm.findClass RX8 = some m.cls := findClass_of_methodNamed B.named
  have hlk := B.notSynchronized
  have hinI : meth.name = "<init>" := (name_of_methodNamed B.named B.method).1
  have hC : Cx g p s m _ c cX8_init RX8 wsX8_init 2 := ⟨hx, hb, hml, hown, hts, hK⟩
  have hA : ∀ q : Nat, s.heap.size ≤ q → dA ad n s.heap.size q := fun q h => Or.inr h
  have hS : va_S (dA ad n s.heap.size) s.heap s.heap [] := va_S.rf
  have hl := lv_entry ([.ref (ad p0), .ref (ad p1)]) (n := 2) (Nat.le_of_ble_eq_true rfl)
  rw [lg_entry_eq]
  generalize (lg_sl ([.ref (ad p0), .ref (ad p1)]) ++ List.replicate (2 - (lg_sl ([.ref (ad p0), .ref (ad p1)])).length) Slot.unset).toArray = ls at hl ⊢
  have hl : lv_has ls 2 [(0, .ref (ad p0)), (1, .ref (ad p1))] := hl
  have hinX2 : ∀ w ∈ wsX20, w ∈ wsX8_init := by decide +kernel
  have hinX4 : ∀ w ∈ wsX40, w ∈ wsX8_init := by decide +kernel
  have hinX8 : ∀ w ∈ wsX80, w ∈ wsX8_init := by decide +kernel
  have hinX9 : ∀ w ∈ wsX90, w ∈ wsX8_init := by decide +kernel
  have w_0 := hts (.methodLink RX8 3 objectInit) (by decide +kernel)
  have w_1 := hts (.instanceMethod objectInit) (by decide +kernel)
  have w_2 := hts (.code objectInit ⟨#[0xb1]⟩ 1 none) (by decide +kernel)
  have w_3 := hts (.fieldLink RX8 9 "MailSpool$Spool" "rules" "LMailSpool$Rules;") (by decide +kernel)
  have w_4 := hts (.arrayClass .int) (by decide +kernel)
  have w_5 := hts (.fieldLink RX8 15 "MailSpool$Spool" "quotas" "[I") (by decide +kernel)
  have w_6 := hts (.classLink RX8 19 RX4) (by decide +kernel)
  have w_7 := hts (.fieldLink RX8 21 "MailSpool$Spool" "messages" "[LMailSpool$Message;") (by decide +kernel)
  have w_8 := hts (.fieldLink RX8 25 "MailSpool$Spool" "states" "[I") (by decide +kernel)
  have w_9 := hts (.fieldLink RX8 28 "MailSpool$Spool" "retentions" "[I") (by decide +kernel)
  have w_10 := hts (.fieldLink RX8 31 "MailSpool$Spool" "entered" "[I") (by decide +kernel)
  have w_11 := hts (.classLink RX8 34 RX9) (by decide +kernel)
  have w_12 := hts (.instantiable RX9 8) (by decide +kernel)
  have w_13 := hts (.initialized RX9) (by decide +kernel)
  have w_14 := hts (.methodLink RX8 36 yX9_init) (by decide +kernel)
  have w_15 := hts (.instanceMethod yX9_init) (by decide +kernel)
  have w_16 := hts (.fieldLink RX8 37 "MailSpool$Spool" "store" "LMailSpool$Store;") (by decide +kernel)
  have w_17 := hts (.classLink RX8 41 RX2) (by decide +kernel)
  have w_18 := hts (.instantiable RX2 5) (by decide +kernel)
  have w_19 := hts (.initialized RX2) (by decide +kernel)
  have w_20 := hts (.methodLink RX8 43 yX2_init) (by decide +kernel)
  have w_21 := hts (.instanceMethod yX2_init) (by decide +kernel)
  have w_22 := hts (.fieldLink RX8 44 "MailSpool$Spool" "journal" "LMailSpool$Journal;") (by decide +kernel)
  have w_23 := hts (.fieldLink RX8 48 "MailSpool$Spool" "leaves" "[I") (by decide +kernel)
  have w_24 := hts (.constant RX8 51 (1000000000)) (by decide +kernel)
  have w_25 := hts (.fieldLink RX8 52 "MailSpool$Spool" "leavingDay" "I") (by decide +kernel)
  have w_26 := hts (.fieldLink RX8 56 "MailSpool$Spool" "newer" "[I") (by decide +kernel)
  have w_27 := hts (.instantiable RX4 5) (by decide +kernel)
  have w_28 := hts (.initialized RX4) (by decide +kernel)
  have w_29 := hts (.methodLink RX8 59 yX4_init) (by decide +kernel)
  have w_30 := hts (.instanceMethod yX4_init) (by decide +kernel)
  have w_31 := hts (.fieldLink RX8 62 "MailSpool$Spool" "noMessage" "LMailSpool$Message;") (by decide +kernel)
  have hGE := hGs.2.2.2.1
  have hGM := hGs.2.2.2.2
  unfold f_X8_init at hf
  refine lv_aload_n hx hb dX8_init_0 rfl (lv_at hl 0 rfl) ?_
  refine W.objInit hx hb hown w_0 w_1 w_2 rfl (by rw [hml]; exact hl.1) rfl dX8_init_1 (Nat.le_of_ble_eq_true rfl) (Nat.le_of_ble_eq_true rfl) ?_
  refine W.eq (g2 := F0 m 4 ls []) rfl ?_
  refine lv_aload_n hx hb dX8_init_4 rfl (lv_at hl 0 rfl) ?_
  refine lv_aload_n hx hb dX8_init_5 rfl (lv_at hl 1 rfl) ?_
  refine x_putr 700 (ci := 7) (C := RX8) (T := TX8) (N := 16) (ty := (.object "MailSpool$Rules")) 0 hC hinX8 tyX8_ok nmX8 hW hS tp0 rfl tp1 rfl rfl rfl ⟨by decide, by decide, rfl, rfl⟩ rfl w_3 rfl (by decide +kernel) rfl rfl dX8_init_6 (fun S1 H locs eS1 hW hS => ?_)
  replace hf := ltE hf S1 eS1
  refine lv_aload_n hx hb dX8_init_9 rfl (lv_at hl 0 rfl) ?_
  refine lv_bipush (v := 10) hx hb dX8_init_10 (by decide) ?_
  refine x_newaI (len := 10) hC w_4 hW hS hA (by decide) (by decide) (Nat.le_of_ble_eq_true rfl) (Nat.le_of_ble_eq_true rfl) (Nat.le_of_ble_eq_true rfl) dX8_init_12 (fun q2 ad3 K4 S5 H eS5 hag7 eqq2 ekq2 hW hS => ?_)
  replace hf := ltE hf S5 eS5
  obtain ⟨n6, en6⟩ : ∃ z, z = n + 1 := ⟨_, rfl⟩
  rw [← en6] at hag7 hW
  replace hf := ltE hf n6 en6
  have tq2 : n < n6 ∧ K4 n = 12 := ⟨by omega, ekq2⟩
  have g8 := hag7.t tp0
  have g9 := hag7.e tp0 rfl
  have g10 := hag7.t tp1
  have g11 := hag7.e tp1 rfl
  have ag12 := (Ag.rf).tr hag7
  refine W.widen (k := 1) (n := 10) (by omega) (by omega) ?_
  refine x_putrF 704 (ci := 7) (C := RX8) (T := TX8) (N := 16) (ty := (.array .int)) 4 hC hinX8 tyX8_ok nmX8 hW hS g8 g9 tq2 eqq2 rfl rfl ⟨by decide, by decide, rfl, rfl⟩ rfl w_5 rfl hinI rfl (by decide +kernel) rfl rfl dX8_init_14 (fun S13 H locs eS13 hW hS => ?_)
  replace hf := ltE hf S13 eS13
  refine lv_aload_n hx hb dX8_init_17 rfl (lv_at hl 0 rfl) ?_
  refine lv_bipush (v := 120) hx hb dX8_init_18 (by decide) ?_
  refine x_newq (C := RX4) (kd := 15) (t0 := 4) (len := 120) hC w_6 hGs.2.2.1.2.1 ⟨by decide, rfl⟩ hW hS hA (by decide) (by decide) (Nat.le_of_ble_eq_true rfl) (Nat.le_of_ble_eq_true rfl) (Nat.le_of_ble_eq_true rfl) dX8_init_20 (fun q14 ad15 K16 S17 H eS17 hag19 eqq14 ekq14 hW hS => ?_)
  replace hf := ltE hf S17 eS17
  obtain ⟨n18, en18⟩ : ∃ z, z = n6 + 1 := ⟨_, rfl⟩
  rw [← en18] at hag19 hW
  replace hf := ltE hf n18 en18
  have tq14 : n6 < n18 ∧ K16 n6 = 15 := ⟨by omega, ekq14⟩
  have g20 := hag19.t g8
  have g21 := hag19.e g8 g9
  have g22 := hag19.t g10
  have g23 := hag19.e g10 g11
  have ag24 := (ag12).tr hag19
  refine W.widen (k := 2) (n := 130) (by omega) (by omega) ?_
  refine x_putrF 706 (ci := 7) (C := RX8) (T := TX8) (N := 16) (ty := (.array (.object "MailSpool$Message"))) 6 hC hinX8 tyX8_ok nmX8 hW hS g20 g21 tq14 eqq14 rfl rfl ⟨by decide, by decide, rfl, rfl⟩ rfl w_7 rfl hinI rfl (by decide +kernel) rfl rfl dX8_init_23 (fun S25 H locs eS25 hW hS => ?_)
  replace hf := ltE hf S25 eS25
  refine lv_aload_n hx hb dX8_init_26 rfl (lv_at hl 0 rfl) ?_
  refine lv_sipush (v := 1200) hx hb dX8_init_27 (by decide) ?_
  refine x_newaI (len := 1200) hC w_4 hW hS hA (by decide) (by decide) (Nat.le_of_ble_eq_true rfl) (Nat.le_of_ble_eq_true rfl) (Nat.le_of_ble_eq_true rfl) dX8_init_30 (fun q26 ad27 K28 S29 H eS29 hag31 eqq26 ekq26 hW hS => ?_)
  replace hf := ltE hf S29 eS29
  obtain ⟨n30, en30⟩ : ∃ z, z = n18 + 1 := ⟨_, rfl⟩
  rw [← en30] at hag31 hW
  replace hf := ltE hf n30 en30
  have tq26 : n18 < n30 ∧ K28 n18 = 12 := ⟨by omega, ekq26⟩
  have g32 := hag31.t g20
  have g33 := hag31.e g20 g21
  have g34 := hag31.t g22
  have g35 := hag31.e g22 g23
  have ag36 := (ag24).tr hag31
  refine W.widen (k := 3) (n := 1330) (by omega) (by omega) ?_
  refine x_putrF 707 (ci := 7) (C := RX8) (T := TX8) (N := 16) (ty := (.array .int)) 7 hC hinX8 tyX8_ok nmX8 hW hS g32 g33 tq26 eqq26 rfl rfl ⟨by decide, by decide, rfl, rfl⟩ rfl w_8 rfl hinI rfl (by decide +kernel) rfl rfl dX8_init_32 (fun S37 H locs eS37 hW hS => ?_)
  replace hf := ltE hf S37 eS37
  refine lv_aload_n hx hb dX8_init_35 rfl (lv_at hl 0 rfl) ?_
  refine lv_sipush (v := 1200) hx hb dX8_init_36 (by decide) ?_
  refine x_newaI (len := 1200) hC w_4 hW hS hA (by decide) (by decide) (Nat.le_of_ble_eq_true rfl) (Nat.le_of_ble_eq_true rfl) (Nat.le_of_ble_eq_true rfl) dX8_init_39 (fun q38 ad39 K40 S41 H eS41 hag43 eqq38 ekq38 hW hS => ?_)
  replace hf := ltE hf S41 eS41
  obtain ⟨n42, en42⟩ : ∃ z, z = n30 + 1 := ⟨_, rfl⟩
  rw [← en42] at hag43 hW
  replace hf := ltE hf n42 en42
  have tq38 : n30 < n42 ∧ K40 n30 = 12 := ⟨by omega, ekq38⟩
  have g44 := hag43.t g32
  have g45 := hag43.e g32 g33
  have g46 := hag43.t g34
  have g47 := hag43.e g34 g35
  have ag48 := (ag36).tr hag43
  refine W.widen (k := 4) (n := 2530) (by omega) (by omega) ?_
  refine x_putrF 708 (ci := 7) (C := RX8) (T := TX8) (N := 16) (ty := (.array .int)) 8 hC hinX8 tyX8_ok nmX8 hW hS g44 g45 tq38 eqq38 rfl rfl ⟨by decide, by decide, rfl, rfl⟩ rfl w_9 rfl hinI rfl (by decide +kernel) rfl rfl dX8_init_41 (fun S49 H locs eS49 hW hS => ?_)
  replace hf := ltE hf S49 eS49
  refine lv_aload_n hx hb dX8_init_44 rfl (lv_at hl 0 rfl) ?_
  refine lv_sipush (v := 1200) hx hb dX8_init_45 (by decide) ?_
  refine x_newaI (len := 1200) hC w_4 hW hS hA (by decide) (by decide) (Nat.le_of_ble_eq_true rfl) (Nat.le_of_ble_eq_true rfl) (Nat.le_of_ble_eq_true rfl) dX8_init_48 (fun q50 ad51 K52 S53 H eS53 hag55 eqq50 ekq50 hW hS => ?_)
  replace hf := ltE hf S53 eS53
  obtain ⟨n54, en54⟩ : ∃ z, z = n42 + 1 := ⟨_, rfl⟩
  rw [← en54] at hag55 hW
  replace hf := ltE hf n54 en54
  have tq50 : n42 < n54 ∧ K52 n42 = 12 := ⟨by omega, ekq50⟩
  have g56 := hag55.t g44
  have g57 := hag55.e g44 g45
  have g58 := hag55.t g46
  have g59 := hag55.e g46 g47
  have ag60 := (ag48).tr hag55
  refine W.widen (k := 5) (n := 3730) (by omega) (by omega) ?_
  refine x_putrF 709 (ci := 7) (C := RX8) (T := TX8) (N := 16) (ty := (.array .int)) 9 hC hinX8 tyX8_ok nmX8 hW hS g56 g57 tq50 eqq50 rfl rfl ⟨by decide, by decide, rfl, rfl⟩ rfl w_10 rfl hinI rfl (by decide +kernel) rfl rfl dX8_init_50 (fun S61 H locs eS61 hW hS => ?_)
  replace hf := ltE hf S61 eS61
  refine lv_aload_n hx hb dX8_init_53 rfl (lv_at hl 0 rfl) ?_
  refine x_new (ci := 8) (C := RX9) (T := TX9) (N := 8) hC hinX9 tyX9_ok hW hS hA ⟨rfl, by decide, by decide⟩ (by decide +kernel) w_11 w_12 w_13 (Nat.le_of_ble_eq_true rfl) (Nat.le_of_ble_eq_true rfl) dX8_init_54 (fun q62 ad63 K64 S65 H eS65 hag67 eqq62 ekq62 hW hS => ?_)
  replace hf := ltE hf S65 eS65
  obtain ⟨n66, en66⟩ : ∃ z, z = n54 + 1 := ⟨_, rfl⟩
  rw [← en66] at hag67 hW
  replace hf := ltE hf n66 en66
  have tq62 : n54 < n66 ∧ K64 n54 = 8 := ⟨by omega, ekq62⟩
  have g68 := hag67.t g56
  have g69 := hag67.e g56 g57
  have g70 := hag67.t g58
  have g71 := hag67.e g58 g59
  have ag72 := (ag60).tr hag67
  refine W.widen (k := 6) (n := 3738) (by omega) (by omega) ?_
  refine lv_dup hx hb dX8_init_57 rfl ?_
  replace hf := obE hf
  obtain ⟨z73, hz73, hf⟩ := hf
  obtain ⟨S74, n76⟩ := z73
  replace hf := ltE (ltE hf S74 rfl) n76 rfl
  refine x_acallI (As := []) (rest := [.ref (q62), .ref (ad p0)]) (S1 := S74) (n1 := n76) (o := (fun _ => none)) (P := (fun _ => True)) hC hl.1 hW hS hGs hA (c_X9_init l g ad63 n66 K64 H.size F S65 n54 tq62 S74 n76 hz73) (cwI 0 hts gX8_init_X9_init rfl rfl rfl w_13 w_14 w_15 rfl (by decide +kernel) ⟨Nat.le_of_ble_eq_true rfl, Nat.le_of_ble_eq_true rfl⟩) rfl (by rw [eqq62] <;> rfl) (Nat.le_of_ble_eq_true rfl) dX8_init_58 ⟨(Nat.le_of_ble_eq_true rfl), (Nat.le_of_ble_eq_true rfl)⟩ (fun ad77 K78 H locs hag79 hPz73 hW hS => ?_)
  have g80 := hag79.t g68
  have g81 := hag79.e g68 g69
  have g82 := hag79.t g70
  have g83 := hag79.e g70 g71
  have g84 := hag79.t tq62
  have g85 := hag79.e tq62 eqq62
  have ag86 := (ag72).tr hag79
  refine W.widen (k := 12) (n := 7700) (by omega) (by omega) ?_
  refine W.eq (g2 := F0 m 61 ls [.ref (q62), .ref (ad p0)]) rfl ?_
  refine x_putrF 710 (ci := 7) (C := RX8) (T := TX8) (N := 16) (ty := (.object "MailSpool$Store")) 10 hC hinX8 tyX8_ok nmX8 hW hS g80 g81 g84 g85 rfl rfl ⟨by decide, by decide, rfl, rfl⟩ rfl w_16 rfl hinI rfl (by decide +kernel) rfl rfl dX8_init_61 (fun S87 H locs eS87 hW hS => ?_)
  replace hf := ltE hf S87 eS87
  refine lv_aload_n hx hb dX8_init_64 rfl (lv_at hl 0 rfl) ?_
  refine x_new (ci := 2) (C := RX2) (T := TX2) (N := 5) hC hinX2 tyX2_ok hW hS hA ⟨rfl, by decide, by decide⟩ (by decide +kernel) w_17 w_18 w_19 (Nat.le_of_ble_eq_true rfl) (Nat.le_of_ble_eq_true rfl) dX8_init_65 (fun q88 ad89 K90 S91 H eS91 hag93 eqq88 ekq88 hW hS => ?_)
  replace hf := ltE hf S91 eS91
  obtain ⟨n92, en92⟩ : ∃ z, z = n76 + 1 := ⟨_, rfl⟩
  rw [← en92] at hag93 hW
  replace hf := ltE hf n92 en92
  have tq88 : n76 < n92 ∧ K90 n76 = 2 := ⟨by omega, ekq88⟩
  have g94 := hag93.t g80
  have g95 := hag93.e g80 g81
  have g96 := hag93.t g82
  have g97 := hag93.e g82 g83
  have ag98 := (ag86).tr hag93
  refine W.widen (k := 13) (n := 7705) (by omega) (by omega) ?_
  refine lv_dup hx hb dX8_init_68 rfl ?_
  replace hf := obE hf
  obtain ⟨z99, hz99, hf⟩ := hf
  obtain ⟨S100, n102⟩ := z99
  replace hf := ltE (ltE hf S100 rfl) n102 rfl
  refine x_acallI (As := []) (rest := [.ref (q88), .ref (ad p0)]) (S1 := S100) (n1 := n102) (o := (fun _ => none)) (P := (fun _ => True)) hC hl.1 hW hS hGs hA (c_X2_init l g ad89 n92 K90 H.size F S91 n76 tq88 S100 n102 hz99) (cwI 0 hts gX8_init_X2_init rfl rfl rfl w_19 w_20 w_21 rfl (by decide +kernel) ⟨Nat.le_of_ble_eq_true rfl, Nat.le_of_ble_eq_true rfl⟩) rfl (by rw [eqq88] <;> rfl) (Nat.le_of_ble_eq_true rfl) dX8_init_69 ⟨(Nat.le_of_ble_eq_true rfl), (Nat.le_of_ble_eq_true rfl)⟩ (fun ad103 K104 H locs hag105 hPz99 hW hS => ?_)
  have g106 := hag105.t g94
  have g107 := hag105.e g94 g95
  have g108 := hag105.t g96
  have g109 := hag105.e g96 g97
  have g110 := hag105.t tq88
  have g111 := hag105.e tq88 eqq88
  have ag112 := (ag98).tr hag105
  refine W.widen (k := 16) (n := 7885) (by omega) (by omega) ?_
  refine W.eq (g2 := F0 m 72 ls [.ref (q88), .ref (ad p0)]) rfl ?_
  refine x_putrF 711 (ci := 7) (C := RX8) (T := TX8) (N := 16) (ty := (.object "MailSpool$Journal")) 11 hC hinX8 tyX8_ok nmX8 hW hS g106 g107 g110 g111 rfl rfl ⟨by decide, by decide, rfl, rfl⟩ rfl w_22 rfl hinI rfl (by decide +kernel) rfl rfl dX8_init_72 (fun S113 H locs eS113 hW hS => ?_)
  replace hf := ltE hf S113 eS113
  refine lv_aload_n hx hb dX8_init_75 rfl (lv_at hl 0 rfl) ?_
  refine lv_sipush (v := 1200) hx hb dX8_init_76 (by decide) ?_
  refine x_newaI (len := 1200) hC w_4 hW hS hA (by decide) (by decide) (Nat.le_of_ble_eq_true rfl) (Nat.le_of_ble_eq_true rfl) (Nat.le_of_ble_eq_true rfl) dX8_init_79 (fun q114 ad115 K116 S117 H eS117 hag119 eqq114 ekq114 hW hS => ?_)
  replace hf := ltE hf S117 eS117
  obtain ⟨n118, en118⟩ : ∃ z, z = n102 + 1 := ⟨_, rfl⟩
  rw [← en118] at hag119 hW
  replace hf := ltE hf n118 en118
  have tq114 : n102 < n118 ∧ K116 n102 = 12 := ⟨by omega, ekq114⟩
  have g120 := hag119.t g106
  have g121 := hag119.e g106 g107
  have g122 := hag119.t g108
  have g123 := hag119.e g108 g109
  have ag124 := (ag112).tr hag119
  refine W.widen (k := 17) (n := 9085) (by omega) (by omega) ?_
  refine x_putrF 712 (ci := 7) (C := RX8) (T := TX8) (N := 16) (ty := (.array .int)) 12 hC hinX8 tyX8_ok nmX8 hW hS g120 g121 tq114 eqq114 rfl rfl ⟨by decide, by decide, rfl, rfl⟩ rfl w_23 rfl hinI rfl (by decide +kernel) rfl rfl dX8_init_81 (fun S125 H locs eS125 hW hS => ?_)
  replace hf := ltE hf S125 eS125
  refine lv_aload_n hx hb dX8_init_84 rfl (lv_at hl 0 rfl) ?_
  refine lv_ldc (v := 1000000000) hx hb hown w_24 dX8_init_85 ?_
  refine x_puti 713 (ci := 7) (C := RX8) (T := TX8) (N := 16) (v := 1000000000) (ty := .int) 13 hC hinX8 tyX8_ok nmX8 hW hS g120 g121 rfl ⟨by decide, by decide, rfl, rfl⟩ rfl w_25 rfl (by decide +kernel) rfl rfl dX8_init_87 (fun S126 H locs eS126 hW hS => ?_)
  replace hf := ltE hf S126 eS126
  refine lv_aload_n hx hb dX8_init_90 rfl (lv_at hl 0 rfl) ?_
  refine lv_bipush (v := 8) hx hb dX8_init_91 (by decide) ?_
  refine x_newaI (len := 8) hC w_4 hW hS hA (by decide) (by decide) (Nat.le_of_ble_eq_true rfl) (Nat.le_of_ble_eq_true rfl) (Nat.le_of_ble_eq_true rfl) dX8_init_93 (fun q127 ad128 K129 S130 H eS130 hag132 eqq127 ekq127 hW hS => ?_)
  replace hf := ltE hf S130 eS130
  obtain ⟨n131, en131⟩ : ∃ z, z = n118 + 1 := ⟨_, rfl⟩
  rw [← en131] at hag132 hW
  replace hf := ltE hf n131 en131
  have tq127 : n118 < n131 ∧ K129 n118 = 12 := ⟨by omega, ekq127⟩
  have g133 := hag132.t g120
  have g134 := hag132.e g120 g121
  have g135 := hag132.t g122
  have g136 := hag132.e g122 g123
  have ag137 := (ag124).tr hag132
  refine W.widen (k := 18) (n := 9093) (by omega) (by omega) ?_
  refine x_putrF 714 (ci := 7) (C := RX8) (T := TX8) (N := 16) (ty := (.array .int)) 14 hC hinX8 tyX8_ok nmX8 hW hS g133 g134 tq127 eqq127 rfl rfl ⟨by decide, by decide, rfl, rfl⟩ rfl w_26 rfl hinI rfl (by decide +kernel) rfl rfl dX8_init_95 (fun S138 H locs eS138 hW hS => ?_)
  replace hf := ltE hf S138 eS138
  refine lv_aload_n hx hb dX8_init_98 rfl (lv_at hl 0 rfl) ?_
  refine x_new (ci := 3) (C := RX4) (T := TX4) (N := 5) hC hinX4 tyX4_ok hW hS hA ⟨rfl, by decide, by decide⟩ (by decide +kernel) w_6 w_27 w_28 (Nat.le_of_ble_eq_true rfl) (Nat.le_of_ble_eq_true rfl) dX8_init_99 (fun q139 ad140 K141 S142 H eS142 hag144 eqq139 ekq139 hW hS => ?_)
  replace hf := ltE hf S142 eS142
  obtain ⟨n143, en143⟩ : ∃ z, z = n131 + 1 := ⟨_, rfl⟩
  rw [← en143] at hag144 hW
  replace hf := ltE hf n143 en143
  have tq139 : n131 < n143 ∧ K141 n131 = 3 := ⟨by omega, ekq139⟩
  have g145 := hag144.t g133
  have g146 := hag144.e g133 g134
  have g147 := hag144.t g135
  have g148 := hag144.e g135 g136
  have ag149 := (ag137).tr hag144
  refine W.widen (k := 19) (n := 9098) (by omega) (by omega) ?_
  refine lv_dup hx hb dX8_init_102 rfl ?_
  refine lv_iconst (v := -1) hx hb dX8_init_103 (by decide) ?_
  refine lv_iconst (v := -1) hx hb dX8_init_104 (by decide) ?_
  refine lv_iconst (v := 0) hx hb dX8_init_105 (by decide) ?_
  refine lv_iconst (v := 0) hx hb dX8_init_106 (by decide) ?_
  replace hf := obE hf
  obtain ⟨z150, hz150, hf⟩ := hf
  obtain ⟨S151, n153⟩ := z150
  replace hf := ltE (ltE hf S151 rfl) n153 rfl
  refine x_acallI (As := [.int ((-1)), .int ((-1)), .int 0, .int 0]) (rest := [.ref (q139), .ref (ad p0)]) (S1 := S151) (n1 := n153) (o := (fun _ => none)) (P := (fun _ => True)) hC hl.1 hW hS hGs hA (c_X4_init l g ad140 n143 K141 H.size F S142 n131 (((-1) : Int32)) (((-1) : Int32)) ((0 : Int32)) ((0 : Int32)) tq139 S151 n153 hz150) (cwI 4 hts gX8_init_X4_init rfl rfl rfl w_28 w_29 w_30 rfl (by decide +kernel) ⟨Nat.le_of_ble_eq_true rfl, Nat.le_of_ble_eq_true rfl⟩) rfl (by rw [eqq139] <;> rfl) (Nat.le_of_ble_eq_true rfl) dX8_init_107 ⟨(Nat.le_of_ble_eq_true rfl), (Nat.le_of_ble_eq_true rfl)⟩ (fun ad154 K155 H locs hag156 hPz150 hW hS => ?_)
  have g157 := hag156.t g145
  have g158 := hag156.e g145 g146
  have g159 := hag156.t g147
  have g160 := hag156.e g147 g148
  have g161 := hag156.t tq139
  have g162 := hag156.e tq139 eqq139
  have ag163 := (ag149).tr hag156
  refine W.widen (k := 20) (n := 9102) (by omega) (by omega) ?_
  refine W.eq (g2 := F0 m 110 ls [.ref (q139), .ref (ad p0)]) rfl ?_
  refine x_putrF 715 (ci := 7) (C := RX8) (T := TX8) (N := 16) (ty := (.object "MailSpool$Message")) 15 hC hinX8 tyX8_ok nmX8 hW hS g157 g158 g161 g162 rfl rfl ⟨by decide, by decide, rfl, rfl⟩ rfl w_31 rfl hinI rfl (by decide +kernel) rfl rfl dX8_init_110 (fun S164 H locs eS164 hW hS => ?_)
  replace hf := ltE hf S164 eS164
  obtain ⟨e1, e2⟩ := so2 hf
  subst e1
  subst e2
  exact W.vret hx hb hr (fun t ht hWm => ⟨⟨ad154, K155, rfl, ag163, trivial, by rw [ht]; exact hW⟩, hS.F ht⟩) hS.2.2 dX8_init_113 hlk
set_option maxHeartbeats 4000000 in
set_option maxRecDepth 100000 in
theorem c_X10_init (l : Launch) (g : GP) (ad : Nat → Nat) (n : Nat) (K : Nat → Nat) (sz F : Nat) (S0 : St) (p0 : Nat) (tp0 : p0 < n ∧ K p0 = 9) (S9 : St) (n9 : Nat) (hf : f_X10_init F S0 n p0 = some (S9, n9)) : Met l yX10_init wsX10_init { frames := 4, cells := 196, slots := 77664, locals := 83 } (va_Pc [.ref (ad p0)] (PB g ad n K S0 sz)) (QA ad K n (fun _ => none) g n9 S9 (dA ad n sz) (fun _ => True)) 196 77664 (dA ad n sz) := by
  refine Met.ofW (cc := cX10_init) (maxL := 3) (ret := none) (by decide) rfl ?_
  intro p e s m args below meth c s₁ B hml hv
  obtain ⟨rfl, hsz, hW, hK, hGs⟩ := x_start hv
  subst hsz
  have hx := B.exec
  have hb := B.bytes
  have hr := B.returns
  have hts := atoms_spec (ws := wsX10_init) B.pre
  have hown : s.vm.findClass RX10 = some m.cls := findClass_of_methodNamed B.named
  have hlk := B.notSynchronized
  have hinI : meth.name = "<init>" := (name_of_methodNamed B.named B.method).1
  have hC : Cx g p s m _ c cX10_init RX10 wsX10_init 3 := ⟨hx, hb, hml, hown, hts, hK⟩
  have hA : ∀ q : Nat, s.heap.size ≤ q → dA ad n s.heap.size q := fun q h => Or.inr h
  have hS : va_S (dA ad n s.heap.size) s.heap s.heap [] := va_S.rf
  have hl := lv_entry ([.ref (ad p0)]) (n := 3) (Nat.le_of_ble_eq_true rfl)
  rw [lg_entry_eq]
  generalize (lg_sl ([.ref (ad p0)]) ++ List.replicate (3 - (lg_sl ([.ref (ad p0)])).length) Slot.unset).toArray = ls at hl ⊢
  have hl : lv_has ls 3 [(0, .ref (ad p0))] := hl
  have hinX0 : ∀ w ∈ wsX00, w ∈ wsX10_init := by decide +kernel
  have hinX1 : ∀ w ∈ wsX10, w ∈ wsX10_init := by decide +kernel
  have hinX10 : ∀ w ∈ wsX100, w ∈ wsX10_init := by decide +kernel
  have hinX7 : ∀ w ∈ wsX70, w ∈ wsX10_init := by decide +kernel
  have hinX8 : ∀ w ∈ wsX80, w ∈ wsX10_init := by decide +kernel
  have w_0 := hts (.arrayClass .int) (by decide +kernel)
  have w_1 := hts (.fieldLink RX10 53 "MailSpool" "partReaders" "[I") (by decide +kernel)
  have w_2 := hts (.methodLink RX10 1 objectInit) (by decide +kernel)
  have w_3 := hts (.instanceMethod objectInit) (by decide +kernel)
  have w_4 := hts (.code objectInit ⟨#[0xb1]⟩ 1 none) (by decide +kernel)
  have w_5 := hts (.classLink RX10 7 RX7) (by decide +kernel)
  have w_6 := hts (.instantiable RX7 16) (by decide +kernel)
  have w_7 := hts (.initialized RX7) (by decide +kernel)
  have w_8 := hts (.methodLink RX10 9 yX7_init) (by decide +kernel)
  have w_9 := hts (.instanceMethod yX7_init) (by decide +kernel)
  have w_10 := hts (.classLink RX10 10 RX0) (by decide +kernel)
  have w_11 := hts (.instantiable RX0 2) (by decide +kernel)
  have w_12 := hts (.initialized RX0) (by decide +kernel)
  have w_13 := hts (.methodLink RX10 14 yX0_init) (by decide +kernel)
  have w_14 := hts (.instanceMethod yX0_init) (by decide +kernel)
  have w_15 := hts (.fieldLink RX10 17 "MailSpool" "input" "LMailSpool$Bytes;") (by decide +kernel)
  have w_16 := hts (.fieldLink RX10 21 "MailSpool" "output" "LMailSpool$Bytes;") (by decide +kernel)
  have w_17 := hts (.classLink RX10 24 RX1) (by decide +kernel)
  have w_18 := hts (.instantiable RX1 4) (by decide +kernel)
  have w_19 := hts (.initialized RX1) (by decide +kernel)
  have w_20 := hts (.methodLink RX10 26 yX1_init) (by decide +kernel)
  have w_21 := hts (.instanceMethod yX1_init) (by decide +kernel)
  have w_22 := hts (.fieldLink RX10 29 "MailSpool" "content" "LMailSpool$Content;") (by decide +kernel)
  have w_23 := hts (.fieldLink RX10 33 "MailSpool" "parsePosition" "I") (by decide +kernel)
  have w_24 := hts (.classLink RX10 37 RX8) (by decide +kernel)
  have w_25 := hts (.instantiable RX8 16) (by decide +kernel)
  have w_26 := hts (.initialized RX8) (by decide +kernel)
  have w_27 := hts (.methodLink RX10 39 yX8_init) (by decide +kernel)
  have w_28 := hts (.instanceMethod yX8_init) (by decide +kernel)
  have w_29 := hts (.fieldLink RX10 42 "MailSpool" "now" "LMailSpool$Spool;") (by decide +kernel)
  have w_30 := hts (.fieldLink RX10 46 "MailSpool" "later" "LMailSpool$Spool;") (by decide +kernel)
  have w_31 := hts (.fieldLink RX10 49 "MailSpool" "past" "[LMailSpool$Spool;") (by decide +kernel)
  have hGE := hGs.2.2.2.1
  have hGM := hGs.2.2.2.2
  have L800124 : ∀ (adL KL : Nat → Nat) (nL : Nat) (hagL : Ag ad K n adL KL nL) (S0 : St) (v0 : Nat) (tv0 : v0 < nL ∧ KL v0 = 9) (H : Heap) (locs : List Loc) (ls : Array Slot), f_X10_init_L800124 F S0 nL v0 = some (S9, n9) → Wb g adL nL KL S0 (dA ad n s.heap.size) H → va_S (dA ad n s.heap.size) s.heap H locs → lv_has ls 3 [(0, .ref (adL v0))] → W p l e (headSpec wsX10_init { frames := 4, cells := 196, slots := 77664, locals := 83 }).room s m (List.toArray [.ref (ad p0)]) below meth c H locs 195 77184 (MQ below (QA ad K n (fun _ => none) g n9 S9 (dA ad n s.heap.size) (fun _ => True)) (List.toArray [.ref (ad p0)]) s 196 77664 (dA ad n s.heap.size)) (F0 m 124 ls []) := by
    intro adL KL nL hagL S0 v0 tv0 H locs ls hf hW hS hl
    unfold f_X10_init_L800124 at hf
    refine lv_aload_n hx hb dX10_init_124 rfl (lv_at hl 0 rfl) ?_
    refine lv_sipush (v := 480) hx hb dX10_init_125 (by decide) ?_
    refine x_newaI (len := 480) hC w_0 hW hS hA (by decide) (by decide) (Nat.le_of_ble_eq_true rfl) (Nat.le_of_ble_eq_true rfl) (Nat.le_of_ble_eq_true rfl) dX10_init_128 (fun q11 ad12 K13 S14 H eS14 hag16 eqq11 ekq11 hW hS => ?_)
    replace hf := ltE hf S14 eS14
    obtain ⟨n15, en15⟩ : ∃ z, z = nL + 1 := ⟨_, rfl⟩
    rw [← en15] at hag16 hW
    replace hf := ltE hf n15 en15
    have tq11 : nL < n15 ∧ K13 nL = 12 := ⟨by omega, ekq11⟩
    have g17 := hag16.t tv0
    have g18 := hag16.e tv0 rfl
    have ag19 := (hagL).tr hag16
    refine W.widen (k := 196) (n := 77664) (by omega) (by omega) ?_
    refine x_putrF 910 (ci := 9) (C := RX10) (T := TX10) (N := 11) (ty := (.array .int)) 10 hC hinX10 tyX10_ok nmX10 hW hS g17 g18 tq11 eqq11 rfl rfl ⟨by decide, by decide, rfl, rfl⟩ rfl w_1 rfl hinI rfl (by decide +kernel) rfl rfl dX10_init_130 (fun S20 H locs eS20 hW hS => ?_)
    replace hf := ltE hf S20 eS20
    obtain ⟨e1, e2⟩ := so2 hf
    subst e1
    subst e2
    exact W.vret hx hb hr (fun t ht hWm => ⟨⟨ad12, K13, rfl, ag19, trivial, by rw [ht]; exact hW⟩, hS.F ht⟩) hS.2.2 dX10_init_133 hlk
  unfold f_X10_init at hf
  refine lv_aload_n hx hb dX10_init_0 rfl (lv_at hl 0 rfl) ?_
  refine W.objInit hx hb hown w_2 w_3 w_4 rfl (by rw [hml]; exact hl.1) rfl dX10_init_1 (Nat.le_of_ble_eq_true rfl) (Nat.le_of_ble_eq_true rfl) ?_
  refine W.eq (g2 := F0 m 4 ls []) rfl ?_
  refine x_new (ci := 6) (C := RX7) (T := TX7) (N := 16) hC hinX7 tyX7_ok hW hS hA ⟨rfl, by decide, by decide⟩ (by decide +kernel) w_5 w_6 w_7 (Nat.le_of_ble_eq_true rfl) (Nat.le_of_ble_eq_true rfl) dX10_init_4 (fun q21 ad22 K23 S24 H eS24 hag26 eqq21 ekq21 hW hS => ?_)
  replace hf := ltE hf S24 eS24
  obtain ⟨n25, en25⟩ : ∃ z, z = n + 1 := ⟨_, rfl⟩
  rw [← en25] at hag26 hW
  replace hf := ltE hf n25 en25
  have tq21 : n < n25 ∧ K23 n = 6 := ⟨by omega, ekq21⟩
  have g27 := hag26.t tp0
  have g28 := hag26.e tp0 rfl
  have ag29 := (Ag.rf).tr hag26
  refine W.widen (k := 1) (n := 16) (by omega) (by omega) ?_
  refine lv_dup hx hb dX10_init_7 rfl ?_
  replace hf := obE hf
  obtain ⟨z30, hz30, hf⟩ := hf
  obtain ⟨S31, n33⟩ := z30
  replace hf := ltE (ltE hf S31 rfl) n33 rfl
  refine x_acallI (As := []) (rest := [.ref (q21)]) (S1 := S31) (n1 := n33) (o := (fun _ => none)) (P := (fun _ => True)) hC hl.1 hW hS hGs hA (c_X7_init l g ad22 n25 K23 H.size F S24 n tq21 S31 n33 hz30) (cwI 0 hts gX10_init_X7_init rfl rfl rfl w_7 w_8 w_9 rfl (by decide +kernel) ⟨Nat.le_of_ble_eq_true rfl, Nat.le_of_ble_eq_true rfl⟩) rfl (by rw [eqq21] <;> rfl) (Nat.le_of_ble_eq_true rfl) dX10_init_8 ⟨(Nat.le_of_ble_eq_true rfl), (Nat.le_of_ble_eq_true rfl)⟩ (fun ad34 K35 H locs hag36 hPz30 hW hS => ?_)
  have g37 := hag36.t g27
  have g38 := hag36.e g27 g28
  have g39 := hag36.t tq21
  have g40 := hag36.e tq21 eqq21
  have ag41 := (ag29).tr hag36
  refine W.widen (k := 19) (n := 138) (by omega) (by omega) ?_
  refine W.eq (g2 := F0 m 11 ls [.ref (q21)]) rfl ?_
  refine lv_astore_n (lv' := [(1, .ref (q21)), (0, .ref (ad p0))]) hx hb dX10_init_11 rfl hl (by decide) rfl (fun ls hl => ?_)
  refine lv_aload_n hx hb dX10_init_12 rfl (lv_at hl 1 rfl) ?_
  refine x_new (ci := 0) (C := RX0) (T := TX0) (N := 2) hC hinX0 tyX0_ok hW hS hA ⟨rfl, by decide, by decide⟩ (by decide +kernel) w_10 w_11 w_12 (Nat.le_of_ble_eq_true rfl) (Nat.le_of_ble_eq_true rfl) dX10_init_13 (fun q42 ad43 K44 S45 H eS45 hag47 eqq42 ekq42 hW hS => ?_)
  replace hf := ltE hf S45 eS45
  obtain ⟨n46, en46⟩ : ∃ z, z = n33 + 1 := ⟨_, rfl⟩
  rw [← en46] at hag47 hW
  replace hf := ltE hf n46 en46
  have tq42 : n33 < n46 ∧ K44 n33 = 0 := ⟨by omega, ekq42⟩
  have g48 := hag47.t g39
  have g49 := hag47.e g39 g40
  have g50 := hag47.t g37
  have g51 := hag47.e g37 g38
  have ag52 := (ag41).tr hag47
  refine W.widen (k := 20) (n := 140) (by omega) (by omega) ?_
  refine lv_dup hx hb dX10_init_16 rfl ?_
  refine lv_sipush (v := 1200) hx hb dX10_init_17 (by decide) ?_
  replace hf := obE hf
  obtain ⟨z53, hz53, hf⟩ := hf
  obtain ⟨S54, n56⟩ := z53
  replace hf := ltE (ltE hf S54 rfl) n56 rfl
  refine x_acallI (As := [.int 1200]) (rest := [.ref (q42), .ref (ad p0)]) (S1 := S54) (n1 := n56) (o := (fun _ => none)) (P := (fun _ => True)) hC hl.1 hW hS hGs hA (c_X0_init l g ad43 n46 K44 H.size F S45 n33 ((1200 : Int32)) tq42 S54 n56 hz53) (cwI 1 hts gX10_init_X0_init rfl rfl rfl w_12 w_13 w_14 rfl (by decide +kernel) ⟨Nat.le_of_ble_eq_true rfl, Nat.le_of_ble_eq_true rfl⟩) rfl (by rw [eqq42] <;> rfl) (Nat.le_of_ble_eq_true rfl) dX10_init_20 ⟨(Nat.le_of_ble_eq_true rfl), (Nat.le_of_ble_eq_true rfl)⟩ (fun ad57 K58 H locs hag59 hPz53 hW hS => ?_)
  have g60 := hag59.t g48
  have g61 := hag59.e g48 g49
  have g62 := hag59.t g50
  have g63 := hag59.e g50 g51
  have g64 := hag59.t tq42
  have g65 := hag59.e tq42 eqq42
  have ag66 := (ag52).tr hag59
  refine W.widen (k := 21) (n := 2180) (by omega) (by omega) ?_
  refine W.eq (g2 := F0 m 23 ls [.ref (q42), .ref (ad p0)]) rfl ?_
  refine x_putrF 900 (ci := 9) (C := RX10) (T := TX10) (N := 11) (ty := (.object "MailSpool$Bytes")) 0 hC hinX10 tyX10_ok nmX10 hW hS g62 g63 g64 g65 rfl rfl ⟨by decide, by decide, rfl, rfl⟩ rfl w_15 rfl hinI rfl (by decide +kernel) rfl rfl dX10_init_23 (fun S67 H locs eS67 hW hS => ?_)
  replace hf := ltE hf S67 eS67
  refine lv_aload_n hx hb dX10_init_26 rfl (lv_at hl 1 rfl) ?_
  refine x_new (ci := 0) (C := RX0) (T := TX0) (N := 2) hC hinX0 tyX0_ok hW hS hA ⟨rfl, by decide, by decide⟩ (by decide +kernel) w_10 w_11 w_12 (Nat.le_of_ble_eq_true rfl) (Nat.le_of_ble_eq_true rfl) dX10_init_27 (fun q68 ad69 K70 S71 H eS71 hag73 eqq68 ekq68 hW hS => ?_)
  replace hf := ltE hf S71 eS71
  obtain ⟨n72, en72⟩ : ∃ z, z = n56 + 1 := ⟨_, rfl⟩
  rw [← en72] at hag73 hW
  replace hf := ltE hf n72 en72
  have tq68 : n56 < n72 ∧ K70 n56 = 0 := ⟨by omega, ekq68⟩
  have g74 := hag73.t g60
  have g75 := hag73.e g60 g61
  have g76 := hag73.t g62
  have g77 := hag73.e g62 g63
  have ag78 := (ag66).tr hag73
  refine W.widen (k := 22) (n := 2182) (by omega) (by omega) ?_
  refine lv_dup hx hb dX10_init_30 rfl ?_
  refine lv_sipush (v := 2040) hx hb dX10_init_31 (by decide) ?_
  replace hf := obE hf
  obtain ⟨z79, hz79, hf⟩ := hf
  obtain ⟨S80, n82⟩ := z79
  replace hf := ltE (ltE hf S80 rfl) n82 rfl
  refine x_acallI (As := [.int 2040]) (rest := [.ref (q68), .ref (ad p0)]) (S1 := S80) (n1 := n82) (o := (fun _ => none)) (P := (fun _ => True)) hC hl.1 hW hS hGs hA (c_X0_init l g ad69 n72 K70 H.size F S71 n56 ((2040 : Int32)) tq68 S80 n82 hz79) (cwI 1 hts gX10_init_X0_init rfl rfl rfl w_12 w_13 w_14 rfl (by decide +kernel) ⟨Nat.le_of_ble_eq_true rfl, Nat.le_of_ble_eq_true rfl⟩) rfl (by rw [eqq68] <;> rfl) (Nat.le_of_ble_eq_true rfl) dX10_init_34 ⟨(Nat.le_of_ble_eq_true rfl), (Nat.le_of_ble_eq_true rfl)⟩ (fun ad83 K84 H locs hag85 hPz79 hW hS => ?_)
  have g86 := hag85.t g74
  have g87 := hag85.e g74 g75
  have g88 := hag85.t g76
  have g89 := hag85.e g76 g77
  have g90 := hag85.t tq68
  have g91 := hag85.e tq68 eqq68
  have ag92 := (ag78).tr hag85
  refine W.widen (k := 23) (n := 4222) (by omega) (by omega) ?_
  refine W.eq (g2 := F0 m 37 ls [.ref (q68), .ref (ad p0)]) rfl ?_
  refine x_putrF 901 (ci := 9) (C := RX10) (T := TX10) (N := 11) (ty := (.object "MailSpool$Bytes")) 1 hC hinX10 tyX10_ok nmX10 hW hS g88 g89 g90 g91 rfl rfl ⟨by decide, by decide, rfl, rfl⟩ rfl w_16 rfl hinI rfl (by decide +kernel) rfl rfl dX10_init_37 (fun S93 H locs eS93 hW hS => ?_)
  replace hf := ltE hf S93 eS93
  refine lv_aload_n hx hb dX10_init_40 rfl (lv_at hl 1 rfl) ?_
  refine x_new (ci := 1) (C := RX1) (T := TX1) (N := 4) hC hinX1 tyX1_ok hW hS hA ⟨rfl, by decide, by decide⟩ (by decide +kernel) w_17 w_18 w_19 (Nat.le_of_ble_eq_true rfl) (Nat.le_of_ble_eq_true rfl) dX10_init_41 (fun q94 ad95 K96 S97 H eS97 hag99 eqq94 ekq94 hW hS => ?_)
  replace hf := ltE hf S97 eS97
  obtain ⟨n98, en98⟩ : ∃ z, z = n82 + 1 := ⟨_, rfl⟩
  rw [← en98] at hag99 hW
  replace hf := ltE hf n98 en98
  have tq94 : n82 < n98 ∧ K96 n82 = 1 := ⟨by omega, ekq94⟩
  have g100 := hag99.t g86
  have g101 := hag99.e g86 g87
  have g102 := hag99.t g88
  have g103 := hag99.e g88 g89
  have ag104 := (ag92).tr hag99
  refine W.widen (k := 24) (n := 4226) (by omega) (by omega) ?_
  refine lv_dup hx hb dX10_init_44 rfl ?_
  refine lv_aload_n hx hb dX10_init_45 rfl (lv_at hl 1 rfl) ?_
  replace hf := obE hf
  obtain ⟨j105, qj105, hf⟩ := hf
  have tj105 := x_rt hW qj105 0 ⟨by decide, rfl⟩
  refine x_getr 900 (ci := 9) (C := RX10) (T := TX10) (N := 11) 0 hC hinX10 hW g102 g103 rfl ⟨by decide, by decide, rfl, rfl⟩ rfl w_15 dX10_init_46 qj105 ?_
  replace hf := obE hf
  obtain ⟨z106, hz106, hf⟩ := hf
  obtain ⟨S107, n109⟩ := z106
  replace hf := ltE (ltE hf S107 rfl) n109 rfl
  refine x_acallI (As := [.ref (ad95 j105)]) (rest := [.ref (q94), .ref (ad p0)]) (S1 := S107) (n1 := n109) (o := (fun _ => none)) (P := (fun _ => True)) hC hl.1 hW hS hGs hA (c_X1_init l g ad95 n98 K96 H.size F S97 n82 j105 tq94 tj105 S107 n109 hz106) (cwI 1 hts gX10_init_X1_init rfl rfl rfl w_19 w_20 w_21 rfl (by decide +kernel) ⟨Nat.le_of_ble_eq_true rfl, Nat.le_of_ble_eq_true rfl⟩) rfl (by rw [eqq94] <;> rfl) (Nat.le_of_ble_eq_true rfl) dX10_init_49 ⟨(Nat.le_of_ble_eq_true rfl), (Nat.le_of_ble_eq_true rfl)⟩ (fun ad110 K111 H locs hag112 hPz106 hW hS => ?_)
  have g113 := hag112.t g100
  have g114 := hag112.e g100 g101
  have g115 := hag112.t g102
  have g116 := hag112.e g102 g103
  have g117 := hag112.t tq94
  have g118 := hag112.e tq94 eqq94
  have ag119 := (ag104).tr hag112
  refine W.widen (k := 26) (n := 4234) (by omega) (by omega) ?_
  refine W.eq (g2 := F0 m 52 ls [.ref (q94), .ref (ad p0)]) rfl ?_
  refine x_putrF 902 (ci := 9) (C := RX10) (T := TX10) (N := 11) (ty := (.object "MailSpool$Content")) 2 hC hinX10 tyX10_ok nmX10 hW hS g115 g116 g117 g118 rfl rfl ⟨by decide, by decide, rfl, rfl⟩ rfl w_22 rfl hinI rfl (by decide +kernel) rfl rfl dX10_init_52 (fun S120 H locs eS120 hW hS => ?_)
  replace hf := ltE hf S120 eS120
  refine lv_aload_n hx hb dX10_init_55 rfl (lv_at hl 1 rfl) ?_
  refine lv_iconst (v := -1) hx hb dX10_init_56 (by decide) ?_
  refine x_puti 904 (ci := 9) (C := RX10) (T := TX10) (N := 11) (v := (-1)) (ty := .int) 4 hC hinX10 tyX10_ok nmX10 hW hS g115 g116 rfl ⟨by decide, by decide, rfl, rfl⟩ rfl w_23 rfl (by decide +kernel) rfl rfl dX10_init_57 (fun S121 H locs eS121 hW hS => ?_)
  replace hf := ltE hf S121 eS121
  refine lv_aload_n hx hb dX10_init_60 rfl (lv_at hl 1 rfl) ?_
  refine x_new (ci := 7) (C := RX8) (T := TX8) (N := 16) hC hinX8 tyX8_ok hW hS hA ⟨rfl, by decide, by decide⟩ (by decide +kernel) w_24 w_25 w_26 (Nat.le_of_ble_eq_true rfl) (Nat.le_of_ble_eq_true rfl) dX10_init_61 (fun q122 ad123 K124 S125 H eS125 hag127 eqq122 ekq122 hW hS => ?_)
  replace hf := ltE hf S125 eS125
  obtain ⟨n126, en126⟩ : ∃ z, z = n109 + 1 := ⟨_, rfl⟩
  rw [← en126] at hag127 hW
  replace hf := ltE hf n126 en126
  have tq122 : n109 < n126 ∧ K124 n109 = 7 := ⟨by omega, ekq122⟩
  have g128 := hag127.t g113
  have g129 := hag127.e g113 g114
  have g130 := hag127.t g115
  have g131 := hag127.e g115 g116
  have ag132 := (ag119).tr hag127
  refine W.widen (k := 27) (n := 4250) (by omega) (by omega) ?_
  refine lv_dup hx hb dX10_init_64 rfl ?_
  refine lv_aload_n hx hb dX10_init_65 rfl (lv_at hl 0 rfl) ?_
  replace hf := obE hf
  obtain ⟨z133, hz133, hf⟩ := hf
  obtain ⟨S134, n136⟩ := z133
  replace hf := ltE (ltE hf S134 rfl) n136 rfl
  refine x_acallI (As := [.ref (ad123 n)]) (rest := [.ref (q122), .ref (ad p0)]) (S1 := S134) (n1 := n136) (o := (fun _ => none)) (P := (fun _ => True)) hC hl.1 hW hS hGs hA (c_X8_init l g ad123 n126 K124 H.size F S125 n109 n tq122 g128 S134 n136 hz133) (cwI 1 hts gX10_init_X8_init rfl rfl rfl w_26 w_27 w_28 rfl (by decide +kernel) ⟨Nat.le_of_ble_eq_true rfl, Nat.le_of_ble_eq_true rfl⟩) rfl (by rw [g129, eqq122] <;> rfl) (Nat.le_of_ble_eq_true rfl) dX10_init_66 ⟨(Nat.le_of_ble_eq_true rfl), (Nat.le_of_ble_eq_true rfl)⟩ (fun ad137 K138 H locs hag139 hPz133 hW hS => ?_)
  have g140 := hag139.t g128
  have g141 := hag139.e g128 g129
  have g142 := hag139.t g130
  have g143 := hag139.e g130 g131
  have g144 := hag139.t tq122
  have g145 := hag139.e tq122 eqq122
  have ag146 := (ag132).tr hag139
  refine W.widen (k := 47) (n := 13352) (by omega) (by omega) ?_
  refine W.eq (g2 := F0 m 69 ls [.ref (q122), .ref (ad p0)]) rfl ?_
  refine x_putrF 905 (ci := 9) (C := RX10) (T := TX10) (N := 11) (ty := (.object "MailSpool$Spool")) 5 hC hinX10 tyX10_ok nmX10 hW hS g142 g143 g144 g145 rfl rfl ⟨by decide, by decide, rfl, rfl⟩ rfl w_29 rfl hinI rfl (by decide +kernel) rfl rfl dX10_init_69 (fun S147 H locs eS147 hW hS => ?_)
  replace hf := ltE hf S147 eS147
  refine lv_aload_n hx hb dX10_init_72 rfl (lv_at hl 1 rfl) ?_
  refine x_new (ci := 7) (C := RX8) (T := TX8) (N := 16) hC hinX8 tyX8_ok hW hS hA ⟨rfl, by decide, by decide⟩ (by decide +kernel) w_24 w_25 w_26 (Nat.le_of_ble_eq_true rfl) (Nat.le_of_ble_eq_true rfl) dX10_init_73 (fun q148 ad149 K150 S151 H eS151 hag153 eqq148 ekq148 hW hS => ?_)
  replace hf := ltE hf S151 eS151
  obtain ⟨n152, en152⟩ : ∃ z, z = n136 + 1 := ⟨_, rfl⟩
  rw [← en152] at hag153 hW
  replace hf := ltE hf n152 en152
  have tq148 : n136 < n152 ∧ K150 n136 = 7 := ⟨by omega, ekq148⟩
  have g154 := hag153.t g140
  have g155 := hag153.e g140 g141
  have g156 := hag153.t g142
  have g157 := hag153.e g142 g143
  have ag158 := (ag146).tr hag153
  refine W.widen (k := 48) (n := 13368) (by omega) (by omega) ?_
  refine lv_dup hx hb dX10_init_76 rfl ?_
  refine lv_aload_n hx hb dX10_init_77 rfl (lv_at hl 0 rfl) ?_
  replace hf := obE hf
  obtain ⟨z159, hz159, hf⟩ := hf
  obtain ⟨S160, n162⟩ := z159
  replace hf := ltE (ltE hf S160 rfl) n162 rfl
  refine x_acallI (As := [.ref (ad149 n)]) (rest := [.ref (q148), .ref (ad p0)]) (S1 := S160) (n1 := n162) (o := (fun _ => none)) (P := (fun _ => True)) hC hl.1 hW hS hGs hA (c_X8_init l g ad149 n152 K150 H.size F S151 n136 n tq148 g154 S160 n162 hz159) (cwI 1 hts gX10_init_X8_init rfl rfl rfl w_26 w_27 w_28 rfl (by decide +kernel) ⟨Nat.le_of_ble_eq_true rfl, Nat.le_of_ble_eq_true rfl⟩) rfl (by rw [g155, eqq148] <;> rfl) (Nat.le_of_ble_eq_true rfl) dX10_init_78 ⟨(Nat.le_of_ble_eq_true rfl), (Nat.le_of_ble_eq_true rfl)⟩ (fun ad163 K164 H locs hag165 hPz159 hW hS => ?_)
  have g166 := hag165.t g154
  have g167 := hag165.e g154 g155
  have g168 := hag165.t g156
  have g169 := hag165.e g156 g157
  have g170 := hag165.t tq148
  have g171 := hag165.e tq148 eqq148
  have ag172 := (ag158).tr hag165
  refine W.widen (k := 68) (n := 22470) (by omega) (by omega) ?_
  refine W.eq (g2 := F0 m 81 ls [.ref (q148), .ref (ad p0)]) rfl ?_
  refine x_putrF 906 (ci := 9) (C := RX10) (T := TX10) (N := 11) (ty := (.object "MailSpool$Spool")) 6 hC hinX10 tyX10_ok nmX10 hW hS g168 g169 g170 g171 rfl rfl ⟨by decide, by decide, rfl, rfl⟩ rfl w_30 rfl hinI rfl (by decide +kernel) rfl rfl dX10_init_81 (fun S173 H locs eS173 hW hS => ?_)
  replace hf := ltE hf S173 eS173
  refine lv_aload_n hx hb dX10_init_84 rfl (lv_at hl 1 rfl) ?_
  refine lv_bipush (v := 6) hx hb dX10_init_85 (by decide) ?_
  refine x_newq (C := RX8) (kd := 16) (t0 := 5) (len := 6) hC w_24 hGs.2.2.1.2.2 ⟨by decide, rfl⟩ hW hS hA (by decide) (by decide) (Nat.le_of_ble_eq_true rfl) (Nat.le_of_ble_eq_true rfl) (Nat.le_of_ble_eq_true rfl) dX10_init_87 (fun q174 ad175 K176 S177 H eS177 hag179 eqq174 ekq174 hW hS => ?_)
  replace hf := ltE hf S177 eS177
  obtain ⟨n178, en178⟩ : ∃ z, z = n162 + 1 := ⟨_, rfl⟩
  rw [← en178] at hag179 hW
  replace hf := ltE hf n178 en178
  have tq174 : n162 < n178 ∧ K176 n162 = 16 := ⟨by omega, ekq174⟩
  have g180 := hag179.t g166
  have g181 := hag179.e g166 g167
  have g182 := hag179.t g168
  have g183 := hag179.e g168 g169
  have ag184 := (ag172).tr hag179
  refine W.widen (k := 69) (n := 22476) (by omega) (by omega) ?_
  refine x_putrF 907 (ci := 9) (C := RX10) (T := TX10) (N := 11) (ty := (.array (.object "MailSpool$Spool"))) 7 hC hinX10 tyX10_ok nmX10 hW hS g182 g183 tq174 eqq174 rfl rfl ⟨by decide, by decide, rfl, rfl⟩ rfl w_31 rfl hinI rfl (by decide +kernel) rfl rfl dX10_init_90 (fun S185 H locs eS185 hW hS => ?_)
  replace hf := ltE hf S185 eS185
  refine lv_iconst (v := 0) hx hb dX10_init_93 (by decide) ?_
  refine lv_istore_n (lv' := [(2, .int 0), (1, .ref (q21)), (0, .ref (ad p0))]) hx hb dX10_init_94 rfl hl (by decide) rfl (fun ls hl => ?_)
  refine lv_iload_n hx hb dX10_init_95 rfl (lv_at hl 0 rfl) ?_
  refine lv_aload_n hx hb dX10_init_96 rfl (lv_at hl 2 rfl) ?_
  replace hf := obE hf
  obtain ⟨j186, qj186, hf⟩ := hf
  have tj186 := x_rt hW qj186 16 ⟨by decide, rfl⟩
  refine x_getr 907 (ci := 9) (C := RX10) (T := TX10) (N := 11) 7 hC hinX10 hW g182 g183 rfl ⟨by decide, by decide, rfl, rfl⟩ rfl w_31 dX10_init_97 qj186 ?_
  refine x_alen hC hW tj186 rfl ⟨by decide, by decide⟩ dX10_init_100 ?_
  refine lv_icmp_ge (tgt := 124) hx hb dX10_init_101 (by decide) (fun c187 => ?_) (fun c187 => ?_)
  · replace hf := ifT c187 hf
    refine W.widen (k := 195) (n := 77184) (Nat.le_of_ble_eq_true rfl) (Nat.le_of_ble_eq_true rfl) ?_
    exact L800124 ad175 K176 n178 ag184 S185 p0 g182 _ _ _ hf hW hS (lv_sub hl [2] (by rw [g183] <;> rfl))
  · replace hf := ifF c187 hf
    refine lv_aload_n hx hb dX10_init_104 rfl (lv_at hl 2 rfl) ?_
    replace hf := obE hf
    obtain ⟨j188, qj188, hf⟩ := hf
    have tj188 := x_rt hW qj188 16 ⟨by decide, rfl⟩
    refine x_getr 907 (ci := 9) (C := RX10) (T := TX10) (N := 11) 7 hC hinX10 hW g182 g183 rfl ⟨by decide, by decide, rfl, rfl⟩ rfl w_31 dX10_init_105 qj188 ?_
    refine lv_iload_n hx hb dX10_init_108 rfl (lv_at hl 0 rfl) ?_
    refine x_new (ci := 7) (C := RX8) (T := TX8) (N := 16) hC hinX8 tyX8_ok hW hS hA ⟨rfl, by decide, by decide⟩ (by decide +kernel) w_24 w_25 w_26 (Nat.le_of_ble_eq_true rfl) (Nat.le_of_ble_eq_true rfl) dX10_init_109 (fun q189 ad190 K191 S192 H eS192 hag194 eqq189 ekq189 hW hS => ?_)
    replace hf := ltE hf S192 eS192
    obtain ⟨n193, en193⟩ : ∃ z, z = n178 + 1 := ⟨_, rfl⟩
    rw [← en193] at hag194 hW
    replace hf := ltE hf n193 en193
    have tq189 : n178 < n193 ∧ K191 n178 = 7 := ⟨by omega, ekq189⟩
    have g195 := hag194.t g180
    have g196 := hag194.e g180 g181
    have g197 := hag194.t g182
    have g198 := hag194.e g182 g183
    have g199 := hag194.t tj188
    have g200 := hag194.e tj188 rfl
    have ag201 := (ag184).tr hag194
    refine W.widen (k := 70) (n := 22492) (by omega) (by omega) ?_
    refine lv_dup hx hb dX10_init_112 rfl ?_
    refine lv_aload_n hx hb dX10_init_113 rfl (lv_at hl 1 rfl) ?_
    replace hf := obE hf
    obtain ⟨z202, hz202, hf⟩ := hf
    obtain ⟨S203, n205⟩ := z202
    replace hf := ltE (ltE hf S203 rfl) n205 rfl
    refine x_acallI (As := [.ref (ad190 n)]) (rest := [.ref (q189), .int 0, .ref (ad175 j188)]) (S1 := S203) (n1 := n205) (o := (fun _ => none)) (P := (fun _ => True)) hC hl.1 hW hS hGs hA (c_X8_init l g ad190 n193 K191 H.size F S192 n178 n tq189 g195 S203 n205 hz202) (cwI 1 hts gX10_init_X8_init rfl rfl rfl w_26 w_27 w_28 rfl (by decide +kernel) ⟨Nat.le_of_ble_eq_true rfl, Nat.le_of_ble_eq_true rfl⟩) rfl (by rw [g196, eqq189] <;> rfl) (Nat.le_of_ble_eq_true rfl) dX10_init_114 ⟨(Nat.le_of_ble_eq_true rfl), (Nat.le_of_ble_eq_true rfl)⟩ (fun ad206 K207 H locs hag208 hPz202 hW hS => ?_)
    have g209 := hag208.t g195
    have g210 := hag208.e g195 g196
    have g211 := hag208.t g197
    have g212 := hag208.e g197 g198
    have g213 := hag208.t tq189
    have g214 := hag208.e tq189 eqq189
    have g215 := hag208.t g199
    have g216 := hag208.e g199 g200
    have ag217 := (ag201).tr hag208
    refine W.widen (k := 90) (n := 31594) (by omega) (by omega) ?_
    refine W.eq (g2 := F0 m 117 ls [.ref (q189), .int 0, .ref (ad175 j188)]) rfl ?_
    replace hf := ckiE hf
    obtain ⟨h218, hf⟩ := hf
    refine x_aast (C := RX8) (T := TX8) (N := 16) (t0 := 5) hC hW hS g215 g216 g213 g214 ⟨by decide, rfl, rfl, rfl, by decide⟩ h218 dX10_init_117 (fun S219 H locs eS219 hW hS => ?_)
    replace hf := ltE hf S219 eS219
    obtain ⟨x220, ex220⟩ : ∃ z : Int32, z = 0 + 1 := ⟨_, rfl⟩
    replace hf := ltE hf x220 ex220
    refine lv_iinc (v := x220) (lv' := [(2, .int x220), (1, .ref (q21)), (0, .ref (ad p0))]) hx hb dX10_init_118 hl (k := 0) rfl (by rw [ex220]; rfl) (by decide) rfl (fun ls hl => ?_)
    refine lv_goto (tgt := 95) hx hb dX10_init_121 (by decide) ?_
    refine lv_iload_n hx hb dX10_init_95 rfl (lv_at hl 0 rfl) ?_
    refine lv_aload_n hx hb dX10_init_96 rfl (lv_at hl 2 rfl) ?_
    replace hf := obE hf
    obtain ⟨j221, qj221, hf⟩ := hf
    have tj221 := x_rt hW qj221 16 ⟨by decide, rfl⟩
    refine x_getr 907 (ci := 9) (C := RX10) (T := TX10) (N := 11) 7 hC hinX10 hW g211 g212 rfl ⟨by decide, by decide, rfl, rfl⟩ rfl w_31 dX10_init_97 qj221 ?_
    refine x_alen hC hW tj221 rfl ⟨by decide, by decide⟩ dX10_init_100 ?_
    refine lv_icmp_ge (tgt := 124) hx hb dX10_init_101 (by decide) (fun c222 => ?_) (fun c222 => ?_)
    · replace hf := ifT c222 hf
      refine W.widen (k := 195) (n := 77184) (Nat.le_of_ble_eq_true rfl) (Nat.le_of_ble_eq_true rfl) ?_
      exact L800124 ad206 K207 n205 ag217 S219 p0 g211 _ _ _ hf hW hS (lv_sub hl [2] (by rw [g212] <;> rfl))
    · replace hf := ifF c222 hf
      refine lv_aload_n hx hb dX10_init_104 rfl (lv_at hl 2 rfl) ?_
      replace hf := obE hf
      obtain ⟨j223, qj223, hf⟩ := hf
      have tj223 := x_rt hW qj223 16 ⟨by decide, rfl⟩
      refine x_getr 907 (ci := 9) (C := RX10) (T := TX10) (N := 11) 7 hC hinX10 hW g211 g212 rfl ⟨by decide, by decide, rfl, rfl⟩ rfl w_31 dX10_init_105 qj223 ?_
      refine lv_iload_n hx hb dX10_init_108 rfl (lv_at hl 0 rfl) ?_
      refine x_new (ci := 7) (C := RX8) (T := TX8) (N := 16) hC hinX8 tyX8_ok hW hS hA ⟨rfl, by decide, by decide⟩ (by decide +kernel) w_24 w_25 w_26 (Nat.le_of_ble_eq_true rfl) (Nat.le_of_ble_eq_true rfl) dX10_init_109 (fun q224 ad225 K226 S227 H eS227 hag229 eqq224 ekq224 hW hS => ?_)
      replace hf := ltE hf S227 eS227
      obtain ⟨n228, en228⟩ : ∃ z, z = n205 + 1 := ⟨_, rfl⟩
      rw [← en228] at hag229 hW
      replace hf := ltE hf n228 en228
      have tq224 : n205 < n228 ∧ K226 n205 = 7 := ⟨by omega, ekq224⟩
      have g230 := hag229.t g209
      have g231 := hag229.e g209 g210
      have g232 := hag229.t g211
      have g233 := hag229.e g211 g212
      have g234 := hag229.t tj223
      have g235 := hag229.e tj223 rfl
      have ag236 := (ag217).tr hag229
      refine W.widen (k := 91) (n := 31610) (by omega) (by omega) ?_
      refine lv_dup hx hb dX10_init_112 rfl ?_
      refine lv_aload_n hx hb dX10_init_113 rfl (lv_at hl 1 rfl) ?_
      replace hf := obE hf
      obtain ⟨z237, hz237, hf⟩ := hf
      obtain ⟨S238, n240⟩ := z237
      replace hf := ltE (ltE hf S238 rfl) n240 rfl
      refine x_acallI (As := [.ref (ad225 n)]) (rest := [.ref (q224), .int x220, .ref (ad206 j223)]) (S1 := S238) (n1 := n240) (o := (fun _ => none)) (P := (fun _ => True)) hC hl.1 hW hS hGs hA (c_X8_init l g ad225 n228 K226 H.size F S227 n205 n tq224 g230 S238 n240 hz237) (cwI 1 hts gX10_init_X8_init rfl rfl rfl w_26 w_27 w_28 rfl (by decide +kernel) ⟨Nat.le_of_ble_eq_true rfl, Nat.le_of_ble_eq_true rfl⟩) rfl (by rw [g231, eqq224] <;> rfl) (Nat.le_of_ble_eq_true rfl) dX10_init_114 ⟨(Nat.le_of_ble_eq_true rfl), (Nat.le_of_ble_eq_true rfl)⟩ (fun ad241 K242 H locs hag243 hPz237 hW hS => ?_)
      have g244 := hag243.t g230
      have g245 := hag243.e g230 g231
      have g246 := hag243.t g232
      have g247 := hag243.e g232 g233
      have g248 := hag243.t tq224
      have g249 := hag243.e tq224 eqq224
      have g250 := hag243.t g234
      have g251 := hag243.e g234 g235
      have ag252 := (ag236).tr hag243
      refine W.widen (k := 111) (n := 40712) (by omega) (by omega) ?_
      refine W.eq (g2 := F0 m 117 ls [.ref (q224), .int x220, .ref (ad206 j223)]) rfl ?_
      replace hf := ckiE hf
      obtain ⟨h253, hf⟩ := hf
      refine x_aast (C := RX8) (T := TX8) (N := 16) (t0 := 5) hC hW hS g250 g251 g248 g249 ⟨by decide, rfl, rfl, rfl, by decide⟩ h253 dX10_init_117 (fun S254 H locs eS254 hW hS => ?_)
      replace hf := ltE hf S254 eS254
      obtain ⟨x255, ex255⟩ : ∃ z : Int32, z = x220 + 1 := ⟨_, rfl⟩
      replace hf := ltE hf x255 ex255
      refine lv_iinc (v := x255) (lv' := [(2, .int x255), (1, .ref (q21)), (0, .ref (ad p0))]) hx hb dX10_init_118 hl (k := 0) rfl (by rw [ex255]; rfl) (by decide) rfl (fun ls hl => ?_)
      refine lv_goto (tgt := 95) hx hb dX10_init_121 (by decide) ?_
      refine lv_iload_n hx hb dX10_init_95 rfl (lv_at hl 0 rfl) ?_
      refine lv_aload_n hx hb dX10_init_96 rfl (lv_at hl 2 rfl) ?_
      replace hf := obE hf
      obtain ⟨j256, qj256, hf⟩ := hf
      have tj256 := x_rt hW qj256 16 ⟨by decide, rfl⟩
      refine x_getr 907 (ci := 9) (C := RX10) (T := TX10) (N := 11) 7 hC hinX10 hW g246 g247 rfl ⟨by decide, by decide, rfl, rfl⟩ rfl w_31 dX10_init_97 qj256 ?_
      refine x_alen hC hW tj256 rfl ⟨by decide, by decide⟩ dX10_init_100 ?_
      refine lv_icmp_ge (tgt := 124) hx hb dX10_init_101 (by decide) (fun c257 => ?_) (fun c257 => ?_)
      · replace hf := ifT c257 hf
        refine W.widen (k := 195) (n := 77184) (Nat.le_of_ble_eq_true rfl) (Nat.le_of_ble_eq_true rfl) ?_
        exact L800124 ad241 K242 n240 ag252 S254 p0 g246 _ _ _ hf hW hS (lv_sub hl [2] (by rw [g247] <;> rfl))
      · replace hf := ifF c257 hf
        refine lv_aload_n hx hb dX10_init_104 rfl (lv_at hl 2 rfl) ?_
        replace hf := obE hf
        obtain ⟨j258, qj258, hf⟩ := hf
        have tj258 := x_rt hW qj258 16 ⟨by decide, rfl⟩
        refine x_getr 907 (ci := 9) (C := RX10) (T := TX10) (N := 11) 7 hC hinX10 hW g246 g247 rfl ⟨by decide, by decide, rfl, rfl⟩ rfl w_31 dX10_init_105 qj258 ?_
        refine lv_iload_n hx hb dX10_init_108 rfl (lv_at hl 0 rfl) ?_
        refine x_new (ci := 7) (C := RX8) (T := TX8) (N := 16) hC hinX8 tyX8_ok hW hS hA ⟨rfl, by decide, by decide⟩ (by decide +kernel) w_24 w_25 w_26 (Nat.le_of_ble_eq_true rfl) (Nat.le_of_ble_eq_true rfl) dX10_init_109 (fun q259 ad260 K261 S262 H eS262 hag264 eqq259 ekq259 hW hS => ?_)
        replace hf := ltE hf S262 eS262
        obtain ⟨n263, en263⟩ : ∃ z, z = n240 + 1 := ⟨_, rfl⟩
        rw [← en263] at hag264 hW
        replace hf := ltE hf n263 en263
        have tq259 : n240 < n263 ∧ K261 n240 = 7 := ⟨by omega, ekq259⟩
        have g265 := hag264.t g244
        have g266 := hag264.e g244 g245
        have g267 := hag264.t g246
        have g268 := hag264.e g246 g247
        have g269 := hag264.t tj258
        have g270 := hag264.e tj258 rfl
        have ag271 := (ag252).tr hag264
        refine W.widen (k := 112) (n := 40728) (by omega) (by omega) ?_
        refine lv_dup hx hb dX10_init_112 rfl ?_
        refine lv_aload_n hx hb dX10_init_113 rfl (lv_at hl 1 rfl) ?_
        replace hf := obE hf
        obtain ⟨z272, hz272, hf⟩ := hf
        obtain ⟨S273, n275⟩ := z272
        replace hf := ltE (ltE hf S273 rfl) n275 rfl
        refine x_acallI (As := [.ref (ad260 n)]) (rest := [.ref (q259), .int x255, .ref (ad241 j258)]) (S1 := S273) (n1 := n275) (o := (fun _ => none)) (P := (fun _ => True)) hC hl.1 hW hS hGs hA (c_X8_init l g ad260 n263 K261 H.size F S262 n240 n tq259 g265 S273 n275 hz272) (cwI 1 hts gX10_init_X8_init rfl rfl rfl w_26 w_27 w_28 rfl (by decide +kernel) ⟨Nat.le_of_ble_eq_true rfl, Nat.le_of_ble_eq_true rfl⟩) rfl (by rw [g266, eqq259] <;> rfl) (Nat.le_of_ble_eq_true rfl) dX10_init_114 ⟨(Nat.le_of_ble_eq_true rfl), (Nat.le_of_ble_eq_true rfl)⟩ (fun ad276 K277 H locs hag278 hPz272 hW hS => ?_)
        have g279 := hag278.t g265
        have g280 := hag278.e g265 g266
        have g281 := hag278.t g267
        have g282 := hag278.e g267 g268
        have g283 := hag278.t tq259
        have g284 := hag278.e tq259 eqq259
        have g285 := hag278.t g269
        have g286 := hag278.e g269 g270
        have ag287 := (ag271).tr hag278
        refine W.widen (k := 132) (n := 49830) (by omega) (by omega) ?_
        refine W.eq (g2 := F0 m 117 ls [.ref (q259), .int x255, .ref (ad241 j258)]) rfl ?_
        replace hf := ckiE hf
        obtain ⟨h288, hf⟩ := hf
        refine x_aast (C := RX8) (T := TX8) (N := 16) (t0 := 5) hC hW hS g285 g286 g283 g284 ⟨by decide, rfl, rfl, rfl, by decide⟩ h288 dX10_init_117 (fun S289 H locs eS289 hW hS => ?_)
        replace hf := ltE hf S289 eS289
        obtain ⟨x290, ex290⟩ : ∃ z : Int32, z = x255 + 1 := ⟨_, rfl⟩
        replace hf := ltE hf x290 ex290
        refine lv_iinc (v := x290) (lv' := [(2, .int x290), (1, .ref (q21)), (0, .ref (ad p0))]) hx hb dX10_init_118 hl (k := 0) rfl (by rw [ex290]; rfl) (by decide) rfl (fun ls hl => ?_)
        refine lv_goto (tgt := 95) hx hb dX10_init_121 (by decide) ?_
        refine lv_iload_n hx hb dX10_init_95 rfl (lv_at hl 0 rfl) ?_
        refine lv_aload_n hx hb dX10_init_96 rfl (lv_at hl 2 rfl) ?_
        replace hf := obE hf
        obtain ⟨j291, qj291, hf⟩ := hf
        have tj291 := x_rt hW qj291 16 ⟨by decide, rfl⟩
        refine x_getr 907 (ci := 9) (C := RX10) (T := TX10) (N := 11) 7 hC hinX10 hW g281 g282 rfl ⟨by decide, by decide, rfl, rfl⟩ rfl w_31 dX10_init_97 qj291 ?_
        refine x_alen hC hW tj291 rfl ⟨by decide, by decide⟩ dX10_init_100 ?_
        refine lv_icmp_ge (tgt := 124) hx hb dX10_init_101 (by decide) (fun c292 => ?_) (fun c292 => ?_)
        · replace hf := ifT c292 hf
          refine W.widen (k := 195) (n := 77184) (Nat.le_of_ble_eq_true rfl) (Nat.le_of_ble_eq_true rfl) ?_
          exact L800124 ad276 K277 n275 ag287 S289 p0 g281 _ _ _ hf hW hS (lv_sub hl [2] (by rw [g282] <;> rfl))
        · replace hf := ifF c292 hf
          refine lv_aload_n hx hb dX10_init_104 rfl (lv_at hl 2 rfl) ?_
          replace hf := obE hf
          obtain ⟨j293, qj293, hf⟩ := hf
          have tj293 := x_rt hW qj293 16 ⟨by decide, rfl⟩
          refine x_getr 907 (ci := 9) (C := RX10) (T := TX10) (N := 11) 7 hC hinX10 hW g281 g282 rfl ⟨by decide, by decide, rfl, rfl⟩ rfl w_31 dX10_init_105 qj293 ?_
          refine lv_iload_n hx hb dX10_init_108 rfl (lv_at hl 0 rfl) ?_
          refine x_new (ci := 7) (C := RX8) (T := TX8) (N := 16) hC hinX8 tyX8_ok hW hS hA ⟨rfl, by decide, by decide⟩ (by decide +kernel) w_24 w_25 w_26 (Nat.le_of_ble_eq_true rfl) (Nat.le_of_ble_eq_true rfl) dX10_init_109 (fun q294 ad295 K296 S297 H eS297 hag299 eqq294 ekq294 hW hS => ?_)
          replace hf := ltE hf S297 eS297
          obtain ⟨n298, en298⟩ : ∃ z, z = n275 + 1 := ⟨_, rfl⟩
          rw [← en298] at hag299 hW
          replace hf := ltE hf n298 en298
          have tq294 : n275 < n298 ∧ K296 n275 = 7 := ⟨by omega, ekq294⟩
          have g300 := hag299.t g279
          have g301 := hag299.e g279 g280
          have g302 := hag299.t g281
          have g303 := hag299.e g281 g282
          have g304 := hag299.t tj293
          have g305 := hag299.e tj293 rfl
          have ag306 := (ag287).tr hag299
          refine W.widen (k := 133) (n := 49846) (by omega) (by omega) ?_
          refine lv_dup hx hb dX10_init_112 rfl ?_
          refine lv_aload_n hx hb dX10_init_113 rfl (lv_at hl 1 rfl) ?_
          replace hf := obE hf
          obtain ⟨z307, hz307, hf⟩ := hf
          obtain ⟨S308, n310⟩ := z307
          replace hf := ltE (ltE hf S308 rfl) n310 rfl
          refine x_acallI (As := [.ref (ad295 n)]) (rest := [.ref (q294), .int x290, .ref (ad276 j293)]) (S1 := S308) (n1 := n310) (o := (fun _ => none)) (P := (fun _ => True)) hC hl.1 hW hS hGs hA (c_X8_init l g ad295 n298 K296 H.size F S297 n275 n tq294 g300 S308 n310 hz307) (cwI 1 hts gX10_init_X8_init rfl rfl rfl w_26 w_27 w_28 rfl (by decide +kernel) ⟨Nat.le_of_ble_eq_true rfl, Nat.le_of_ble_eq_true rfl⟩) rfl (by rw [g301, eqq294] <;> rfl) (Nat.le_of_ble_eq_true rfl) dX10_init_114 ⟨(Nat.le_of_ble_eq_true rfl), (Nat.le_of_ble_eq_true rfl)⟩ (fun ad311 K312 H locs hag313 hPz307 hW hS => ?_)
          have g314 := hag313.t g300
          have g315 := hag313.e g300 g301
          have g316 := hag313.t g302
          have g317 := hag313.e g302 g303
          have g318 := hag313.t tq294
          have g319 := hag313.e tq294 eqq294
          have g320 := hag313.t g304
          have g321 := hag313.e g304 g305
          have ag322 := (ag306).tr hag313
          refine W.widen (k := 153) (n := 58948) (by omega) (by omega) ?_
          refine W.eq (g2 := F0 m 117 ls [.ref (q294), .int x290, .ref (ad276 j293)]) rfl ?_
          replace hf := ckiE hf
          obtain ⟨h323, hf⟩ := hf
          refine x_aast (C := RX8) (T := TX8) (N := 16) (t0 := 5) hC hW hS g320 g321 g318 g319 ⟨by decide, rfl, rfl, rfl, by decide⟩ h323 dX10_init_117 (fun S324 H locs eS324 hW hS => ?_)
          replace hf := ltE hf S324 eS324
          obtain ⟨x325, ex325⟩ : ∃ z : Int32, z = x290 + 1 := ⟨_, rfl⟩
          replace hf := ltE hf x325 ex325
          refine lv_iinc (v := x325) (lv' := [(2, .int x325), (1, .ref (q21)), (0, .ref (ad p0))]) hx hb dX10_init_118 hl (k := 0) rfl (by rw [ex325]; rfl) (by decide) rfl (fun ls hl => ?_)
          refine lv_goto (tgt := 95) hx hb dX10_init_121 (by decide) ?_
          refine lv_iload_n hx hb dX10_init_95 rfl (lv_at hl 0 rfl) ?_
          refine lv_aload_n hx hb dX10_init_96 rfl (lv_at hl 2 rfl) ?_
          replace hf := obE hf
          obtain ⟨j326, qj326, hf⟩ := hf
          have tj326 := x_rt hW qj326 16 ⟨by decide, rfl⟩
          refine x_getr 907 (ci := 9) (C := RX10) (T := TX10) (N := 11) 7 hC hinX10 hW g316 g317 rfl ⟨by decide, by decide, rfl, rfl⟩ rfl w_31 dX10_init_97 qj326 ?_
          refine x_alen hC hW tj326 rfl ⟨by decide, by decide⟩ dX10_init_100 ?_
          refine lv_icmp_ge (tgt := 124) hx hb dX10_init_101 (by decide) (fun c327 => ?_) (fun c327 => ?_)
          · replace hf := ifT c327 hf
            refine W.widen (k := 195) (n := 77184) (Nat.le_of_ble_eq_true rfl) (Nat.le_of_ble_eq_true rfl) ?_
            exact L800124 ad311 K312 n310 ag322 S324 p0 g316 _ _ _ hf hW hS (lv_sub hl [2] (by rw [g317] <;> rfl))
          · replace hf := ifF c327 hf
            refine lv_aload_n hx hb dX10_init_104 rfl (lv_at hl 2 rfl) ?_
            replace hf := obE hf
            obtain ⟨j328, qj328, hf⟩ := hf
            have tj328 := x_rt hW qj328 16 ⟨by decide, rfl⟩
            refine x_getr 907 (ci := 9) (C := RX10) (T := TX10) (N := 11) 7 hC hinX10 hW g316 g317 rfl ⟨by decide, by decide, rfl, rfl⟩ rfl w_31 dX10_init_105 qj328 ?_
            refine lv_iload_n hx hb dX10_init_108 rfl (lv_at hl 0 rfl) ?_
            refine x_new (ci := 7) (C := RX8) (T := TX8) (N := 16) hC hinX8 tyX8_ok hW hS hA ⟨rfl, by decide, by decide⟩ (by decide +kernel) w_24 w_25 w_26 (Nat.le_of_ble_eq_true rfl) (Nat.le_of_ble_eq_true rfl) dX10_init_109 (fun q329 ad330 K331 S332 H eS332 hag334 eqq329 ekq329 hW hS => ?_)
            replace hf := ltE hf S332 eS332
            obtain ⟨n333, en333⟩ : ∃ z, z = n310 + 1 := ⟨_, rfl⟩
            rw [← en333] at hag334 hW
            replace hf := ltE hf n333 en333
            have tq329 : n310 < n333 ∧ K331 n310 = 7 := ⟨by omega, ekq329⟩
            have g335 := hag334.t g314
            have g336 := hag334.e g314 g315
            have g337 := hag334.t g316
            have g338 := hag334.e g316 g317
            have g339 := hag334.t tj328
            have g340 := hag334.e tj328 rfl
            have ag341 := (ag322).tr hag334
            refine W.widen (k := 154) (n := 58964) (by omega) (by omega) ?_
            refine lv_dup hx hb dX10_init_112 rfl ?_
            refine lv_aload_n hx hb dX10_init_113 rfl (lv_at hl 1 rfl) ?_
            replace hf := obE hf
            obtain ⟨z342, hz342, hf⟩ := hf
            obtain ⟨S343, n345⟩ := z342
            replace hf := ltE (ltE hf S343 rfl) n345 rfl
            refine x_acallI (As := [.ref (ad330 n)]) (rest := [.ref (q329), .int x325, .ref (ad311 j328)]) (S1 := S343) (n1 := n345) (o := (fun _ => none)) (P := (fun _ => True)) hC hl.1 hW hS hGs hA (c_X8_init l g ad330 n333 K331 H.size F S332 n310 n tq329 g335 S343 n345 hz342) (cwI 1 hts gX10_init_X8_init rfl rfl rfl w_26 w_27 w_28 rfl (by decide +kernel) ⟨Nat.le_of_ble_eq_true rfl, Nat.le_of_ble_eq_true rfl⟩) rfl (by rw [g336, eqq329] <;> rfl) (Nat.le_of_ble_eq_true rfl) dX10_init_114 ⟨(Nat.le_of_ble_eq_true rfl), (Nat.le_of_ble_eq_true rfl)⟩ (fun ad346 K347 H locs hag348 hPz342 hW hS => ?_)
            have g349 := hag348.t g335
            have g350 := hag348.e g335 g336
            have g351 := hag348.t g337
            have g352 := hag348.e g337 g338
            have g353 := hag348.t tq329
            have g354 := hag348.e tq329 eqq329
            have g355 := hag348.t g339
            have g356 := hag348.e g339 g340
            have ag357 := (ag341).tr hag348
            refine W.widen (k := 174) (n := 68066) (by omega) (by omega) ?_
            refine W.eq (g2 := F0 m 117 ls [.ref (q329), .int x325, .ref (ad311 j328)]) rfl ?_
            replace hf := ckiE hf
            obtain ⟨h358, hf⟩ := hf
            refine x_aast (C := RX8) (T := TX8) (N := 16) (t0 := 5) hC hW hS g355 g356 g353 g354 ⟨by decide, rfl, rfl, rfl, by decide⟩ h358 dX10_init_117 (fun S359 H locs eS359 hW hS => ?_)
            replace hf := ltE hf S359 eS359
            obtain ⟨x360, ex360⟩ : ∃ z : Int32, z = x325 + 1 := ⟨_, rfl⟩
            replace hf := ltE hf x360 ex360
            refine lv_iinc (v := x360) (lv' := [(2, .int x360), (1, .ref (q21)), (0, .ref (ad p0))]) hx hb dX10_init_118 hl (k := 0) rfl (by rw [ex360]; rfl) (by decide) rfl (fun ls hl => ?_)
            refine lv_goto (tgt := 95) hx hb dX10_init_121 (by decide) ?_
            refine lv_iload_n hx hb dX10_init_95 rfl (lv_at hl 0 rfl) ?_
            refine lv_aload_n hx hb dX10_init_96 rfl (lv_at hl 2 rfl) ?_
            replace hf := obE hf
            obtain ⟨j361, qj361, hf⟩ := hf
            have tj361 := x_rt hW qj361 16 ⟨by decide, rfl⟩
            refine x_getr 907 (ci := 9) (C := RX10) (T := TX10) (N := 11) 7 hC hinX10 hW g351 g352 rfl ⟨by decide, by decide, rfl, rfl⟩ rfl w_31 dX10_init_97 qj361 ?_
            refine x_alen hC hW tj361 rfl ⟨by decide, by decide⟩ dX10_init_100 ?_
            refine lv_icmp_ge (tgt := 124) hx hb dX10_init_101 (by decide) (fun c362 => ?_) (fun c362 => ?_)
            · replace hf := ifT c362 hf
              refine W.widen (k := 195) (n := 77184) (Nat.le_of_ble_eq_true rfl) (Nat.le_of_ble_eq_true rfl) ?_
              exact L800124 ad346 K347 n345 ag357 S359 p0 g351 _ _ _ hf hW hS (lv_sub hl [2] (by rw [g352] <;> rfl))
            · replace hf := ifF c362 hf
              refine lv_aload_n hx hb dX10_init_104 rfl (lv_at hl 2 rfl) ?_
              replace hf := obE hf
              obtain ⟨j363, qj363, hf⟩ := hf
              have tj363 := x_rt hW qj363 16 ⟨by decide, rfl⟩
              refine x_getr 907 (ci := 9) (C := RX10) (T := TX10) (N := 11) 7 hC hinX10 hW g351 g352 rfl ⟨by decide, by decide, rfl, rfl⟩ rfl w_31 dX10_init_105 qj363 ?_
              refine lv_iload_n hx hb dX10_init_108 rfl (lv_at hl 0 rfl) ?_
              refine x_new (ci := 7) (C := RX8) (T := TX8) (N := 16) hC hinX8 tyX8_ok hW hS hA ⟨rfl, by decide, by decide⟩ (by decide +kernel) w_24 w_25 w_26 (Nat.le_of_ble_eq_true rfl) (Nat.le_of_ble_eq_true rfl) dX10_init_109 (fun q364 ad365 K366 S367 H eS367 hag369 eqq364 ekq364 hW hS => ?_)
              replace hf := ltE hf S367 eS367
              obtain ⟨n368, en368⟩ : ∃ z, z = n345 + 1 := ⟨_, rfl⟩
              rw [← en368] at hag369 hW
              replace hf := ltE hf n368 en368
              have tq364 : n345 < n368 ∧ K366 n345 = 7 := ⟨by omega, ekq364⟩
              have g370 := hag369.t g349
              have g371 := hag369.e g349 g350
              have g372 := hag369.t g351
              have g373 := hag369.e g351 g352
              have g374 := hag369.t tj363
              have g375 := hag369.e tj363 rfl
              have ag376 := (ag357).tr hag369
              refine W.widen (k := 175) (n := 68082) (by omega) (by omega) ?_
              refine lv_dup hx hb dX10_init_112 rfl ?_
              refine lv_aload_n hx hb dX10_init_113 rfl (lv_at hl 1 rfl) ?_
              replace hf := obE hf
              obtain ⟨z377, hz377, hf⟩ := hf
              obtain ⟨S378, n380⟩ := z377
              replace hf := ltE (ltE hf S378 rfl) n380 rfl
              refine x_acallI (As := [.ref (ad365 n)]) (rest := [.ref (q364), .int x360, .ref (ad346 j363)]) (S1 := S378) (n1 := n380) (o := (fun _ => none)) (P := (fun _ => True)) hC hl.1 hW hS hGs hA (c_X8_init l g ad365 n368 K366 H.size F S367 n345 n tq364 g370 S378 n380 hz377) (cwI 1 hts gX10_init_X8_init rfl rfl rfl w_26 w_27 w_28 rfl (by decide +kernel) ⟨Nat.le_of_ble_eq_true rfl, Nat.le_of_ble_eq_true rfl⟩) rfl (by rw [g371, eqq364] <;> rfl) (Nat.le_of_ble_eq_true rfl) dX10_init_114 ⟨(Nat.le_of_ble_eq_true rfl), (Nat.le_of_ble_eq_true rfl)⟩ (fun ad381 K382 H locs hag383 hPz377 hW hS => ?_)
              have g384 := hag383.t g370
              have g385 := hag383.e g370 g371
              have g386 := hag383.t g372
              have g387 := hag383.e g372 g373
              have g388 := hag383.t tq364
              have g389 := hag383.e tq364 eqq364
              have g390 := hag383.t g374
              have g391 := hag383.e g374 g375
              have ag392 := (ag376).tr hag383
              refine W.widen (k := 195) (n := 77184) (by omega) (by omega) ?_
              refine W.eq (g2 := F0 m 117 ls [.ref (q364), .int x360, .ref (ad346 j363)]) rfl ?_
              replace hf := ckiE hf
              obtain ⟨h393, hf⟩ := hf
              refine x_aast (C := RX8) (T := TX8) (N := 16) (t0 := 5) hC hW hS g390 g391 g388 g389 ⟨by decide, rfl, rfl, rfl, by decide⟩ h393 dX10_init_117 (fun S394 H locs eS394 hW hS => ?_)
              replace hf := ltE hf S394 eS394
              obtain ⟨x395, ex395⟩ : ∃ z : Int32, z = x360 + 1 := ⟨_, rfl⟩
              replace hf := ltE hf x395 ex395
              refine lv_iinc (v := x395) (lv' := [(2, .int x395), (1, .ref (q21)), (0, .ref (ad p0))]) hx hb dX10_init_118 hl (k := 0) rfl (by rw [ex395]; rfl) (by decide) rfl (fun ls hl => ?_)
              refine lv_goto (tgt := 95) hx hb dX10_init_121 (by decide) ?_
              refine lv_iload_n hx hb dX10_init_95 rfl (lv_at hl 0 rfl) ?_
              refine lv_aload_n hx hb dX10_init_96 rfl (lv_at hl 2 rfl) ?_
              replace hf := obE hf
              obtain ⟨j396, qj396, hf⟩ := hf
              have tj396 := x_rt hW qj396 16 ⟨by decide, rfl⟩
              refine x_getr 907 (ci := 9) (C := RX10) (T := TX10) (N := 11) 7 hC hinX10 hW g386 g387 rfl ⟨by decide, by decide, rfl, rfl⟩ rfl w_31 dX10_init_97 qj396 ?_
              refine x_alen hC hW tj396 rfl ⟨by decide, by decide⟩ dX10_init_100 ?_
              refine lv_icmp_ge (tgt := 124) hx hb dX10_init_101 (by decide) (fun c397 => ?_) (fun c397 => ?_)
              · replace hf := ifT c397 hf
                exact L800124 ad381 K382 n380 ag392 S394 p0 g386 _ _ _ hf hW hS (lv_sub hl [2] (by rw [g387] <;> rfl))
              · replace hf := ifF c397 hf
                cases hf
set_option maxHeartbeats 4000000 in
set_option maxRecDepth 100000 in
theorem c_X0_add (l : Launch) (g : GP) (ad : Nat → Nat) (n : Nat) (K : Nat → Nat) (sz F : Nat) (S0 : St) (p0 : Nat) (p1 : Int32) (tp0 : p0 < n ∧ K p0 = 0) (S9 : St) (hf : f_X0_add F S0 p0 p1 = some S9) : Met l yX0_add wsX0_add { frames := 0, cells := 0, slots := 0, locals := 0 } (va_Pc [.ref (ad p0), .int p1] (PB g ad n K S0 sz)) (QR none (QB g ad n K S9 (dA ad n sz) (True)) (dA ad n sz)) 0 0 (dA ad n sz) := by
  refine Met.ofW (cc := cX0_add) (maxL := 2) (ret := none) (by decide) rfl ?_
  intro p e s m args below meth c s₁ B hml hv
  obtain ⟨rfl, hsz, hW, hK, hGs⟩ := x_start hv
  subst hsz
  have hx := B.exec
  have hb := B.bytes
  have hr := B.returns
  have hts := atoms_spec (ws := wsX0_add) B.pre
  have hown : s.vm.findClass RX0 = some m.cls := findClass_of_methodNamed B.named
  have hlk := B.notSynchronized
  have hC : Cx g p s m _ c cX0_add RX0 wsX0_add 2 := ⟨hx, hb, hml, hown, hts, hK⟩
  have hA : ∀ q : Nat, s.heap.size ≤ q → dA ad n s.heap.size q := fun q h => Or.inr h
  have hS : va_S (dA ad n s.heap.size) s.heap s.heap [] := va_S.rf
  have hl := lv_entry ([.ref (ad p0), .int p1]) (n := 2) (Nat.le_of_ble_eq_true rfl)
  rw [lg_entry_eq]
  generalize (lg_sl ([.ref (ad p0), .int p1]) ++ List.replicate (2 - (lg_sl ([.ref (ad p0), .int p1])).length) Slot.unset).toArray = ls at hl ⊢
  have hl : lv_has ls 2 [(0, .ref (ad p0)), (1, .int p1)] := hl
  have hinX0 : ∀ w ∈ wsX00, w ∈ wsX0_add := by decide +kernel
  have w_0 := hts (.fieldLink RX0 21 "MailSpool$Bytes" "size" "I") (by decide +kernel)
  have w_1 := hts (.fieldLink RX0 15 "MailSpool$Bytes" "row" "[B") (by decide +kernel)
  have hGE := hGs.2.2.2.1
  have hGM := hGs.2.2.2.2
  unfold f_X0_add at hf
  refine lv_aload_n hx hb dX0_add_0 rfl (lv_at hl 0 rfl) ?_
  refine x_geti 1 (ci := 0) (C := RX0) (T := TX0) (N := 2) 1 hC hinX0 hW tp0 rfl rfl ⟨by decide, by decide, rfl, rfl⟩ rfl w_0 dX0_add_1 ?_
  refine lv_if_lt (tgt := 40) hx hb dX0_add_4 (by decide) (fun c1 => ?_) (fun c1 => ?_)
  · replace hf := ifT c1 hf
    have e1 := Option.some.inj hf
    subst e1
    exact W.vret hx hb hr (fun t ht hWm => ⟨⟨rfl, by unfold QB; rw [ht]; exact ⟨hW, trivial⟩⟩, hS.F ht⟩) hS.2.2 dX0_add_40 hlk
  · replace hf := ifF c1 hf
    refine lv_aload_n hx hb dX0_add_7 rfl (lv_at hl 0 rfl) ?_
    refine x_geti 1 (ci := 0) (C := RX0) (T := TX0) (N := 2) 1 hC hinX0 hW tp0 rfl rfl ⟨by decide, by decide, rfl, rfl⟩ rfl w_0 dX0_add_8 ?_
    refine lv_aload_n hx hb dX0_add_11 rfl (lv_at hl 0 rfl) ?_
    replace hf := obE hf
    obtain ⟨j2, qj2, hf⟩ := hf
    have tj2 := x_rt hW qj2 11 ⟨by decide, rfl⟩
    refine x_getr 0 (ci := 0) (C := RX0) (T := TX0) (N := 2) 0 hC hinX0 hW tp0 rfl rfl ⟨by decide, by decide, rfl, rfl⟩ rfl w_1 dX0_add_12 qj2 ?_
    refine x_alen hC hW tj2 rfl ⟨by decide, by decide⟩ dX0_add_15 ?_
    refine lv_icmp_ge (tgt := 40) hx hb dX0_add_16 (by decide) (fun c3 => ?_) (fun c3 => ?_)
    · replace hf := ifT c3 hf
      have e1 := Option.some.inj hf
      subst e1
      exact W.vret hx hb hr (fun t ht hWm => ⟨⟨rfl, by unfold QB; rw [ht]; exact ⟨hW, trivial⟩⟩, hS.F ht⟩) hS.2.2 dX0_add_40 hlk
    · replace hf := ifF c3 hf
      refine lv_aload_n hx hb dX0_add_19 rfl (lv_at hl 0 rfl) ?_
      replace hf := obE hf
      obtain ⟨j4, qj4, hf⟩ := hf
      have tj4 := x_rt hW qj4 11 ⟨by decide, rfl⟩
      refine x_getr 0 (ci := 0) (C := RX0) (T := TX0) (N := 2) 0 hC hinX0 hW tp0 rfl rfl ⟨by decide, by decide, rfl, rfl⟩ rfl w_1 dX0_add_20 qj4 ?_
      refine lv_aload_n hx hb dX0_add_23 rfl (lv_at hl 0 rfl) ?_
      refine x_geti 1 (ci := 0) (C := RX0) (T := TX0) (N := 2) 1 hC hinX0 hW tp0 rfl rfl ⟨by decide, by decide, rfl, rfl⟩ rfl w_0 dX0_add_24 ?_
      refine lv_iload_n hx hb dX0_add_27 rfl (lv_at hl 1 rfl) ?_
      refine lv_i2b (v := p1.toInt8.toInt32) hx hb dX0_add_28 rfl ?_
      replace hf := ckiE hf
      obtain ⟨h5, hf⟩ := hf
      refine x_bast hC hW hS tj4 rfl rfl h5 dX0_add_29 (fun S6 H locs eS6 hW hS => ?_)
      replace hf := ltE hf S6 eS6
      refine lv_aload_n hx hb dX0_add_30 rfl (lv_at hl 0 rfl) ?_
      refine lv_dup hx hb dX0_add_31 rfl ?_
      refine x_geti 1 (ci := 0) (C := RX0) (T := TX0) (N := 2) 1 hC hinX0 hW tp0 rfl rfl ⟨by decide, by decide, rfl, rfl⟩ rfl w_0 dX0_add_32 ?_
      refine lv_iconst (v := 1) hx hb dX0_add_35 (by decide) ?_
      refine lv_iadd hx hb dX0_add_36 ?_
      refine x_puti 1 (ci := 0) (C := RX0) (T := TX0) (N := 2) (v := (si S6 1 p0) + 1) (ty := .int) 1 hC hinX0 tyX0_ok nmX0 hW hS tp0 rfl rfl ⟨by decide, by decide, rfl, rfl⟩ rfl w_0 rfl (by decide +kernel) rfl rfl dX0_add_37 (fun S7 H locs eS7 hW hS => ?_)
      replace hf := ltE hf S7 eS7
      have e1 := Option.some.inj hf
      subst e1
      exact W.vret hx hb hr (fun t ht hWm => ⟨⟨rfl, by unfold QB; rw [ht]; exact ⟨hW, trivial⟩⟩, hS.F ht⟩) hS.2.2 dX0_add_40 hlk
set_option maxHeartbeats 4000000 in
set_option maxRecDepth 100000 in
theorem c_X0_addFour (l : Launch) (g : GP) (ad : Nat → Nat) (n : Nat) (K : Nat → Nat) (sz F : Nat) (S0 : St) (p0 : Nat) (p1 : Int32) (tp0 : p0 < n ∧ K p0 = 0) (S9 : St) (hf : f_X0_addFour F S0 p0 p1 = some S9) : Met l yX0_addFour wsX0_addFour { frames := 1, cells := 0, slots := 0, locals := 21 } (va_Pc [.ref (ad p0), .int p1] (PB g ad n K S0 sz)) (QR none (QB g ad n K S9 (dA ad n sz) (True)) (dA ad n sz)) 0 0 (dA ad n sz) := by
  refine Met.ofW (cc := cX0_addFour) (maxL := 2) (ret := none) (by decide) rfl ?_
  intro p e s m args below meth c s₁ B hml hv
  obtain ⟨rfl, hsz, hW, hK, hGs⟩ := x_start hv
  subst hsz
  have hx := B.exec
  have hb := B.bytes
  have hr := B.returns
  have hts := atoms_spec (ws := wsX0_addFour) B.pre
  have hown : s.vm.findClass RX0 = some m.cls := findClass_of_methodNamed B.named
  have hlk := B.notSynchronized
  have hC : Cx g p s m _ c cX0_addFour RX0 wsX0_addFour 2 := ⟨hx, hb, hml, hown, hts, hK⟩
  have hA : ∀ q : Nat, s.heap.size ≤ q → dA ad n s.heap.size q := fun q h => Or.inr h
  have hS : va_S (dA ad n s.heap.size) s.heap s.heap [] := va_S.rf
  have hl := lv_entry ([.ref (ad p0), .int p1]) (n := 2) (Nat.le_of_ble_eq_true rfl)
  rw [lg_entry_eq]
  generalize (lg_sl ([.ref (ad p0), .int p1]) ++ List.replicate (2 - (lg_sl ([.ref (ad p0), .int p1])).length) Slot.unset).toArray = ls at hl ⊢
  have hl : lv_has ls 2 [(0, .ref (ad p0)), (1, .int p1)] := hl
  have hGE := hGs.2.2.2.1
  have hGM := hGs.2.2.2.2
  unfold f_X0_addFour at hf
  refine lv_aload_n hx hb dX0_addFour_0 rfl (lv_at hl 0 rfl) ?_
  refine lv_iload_n hx hb dX0_addFour_1 rfl (lv_at hl 1 rfl) ?_
  refine lv_bipush (v := 24) hx hb dX0_addFour_2 (by decide) ?_
  refine lv_iushr (v := (p1.toUInt32 >>> ((24 : Int32).toUInt32 &&& Int32.toUInt32 31)).toInt32) hx hb dX0_addFour_4 rfl ?_
  replace hf := obE hf
  obtain ⟨S2, hz1, hf⟩ := hf
  refine x_callV (As := [.int ((p1.toUInt32 >>> ((24 : Int32).toUInt32 &&& Int32.toUInt32 31)).toInt32)]) (rest := []) (o := none) (S1 := S2) hC hl.1 hW hS hGs hA tp0 rfl (show vwCl[0]? = some (RX0, TX0, 2) ∧ ob 0 from ⟨rfl, by decide⟩) (c_X0_add l g ad n K s.heap.size F S0 p0 ((p1.toUInt32 >>> ((24 : Int32).toUInt32 &&& Int32.toUInt32 31)).toInt32) tp0 S2 hz1) (cwV 1 hts gX0_addFour_X0_add rfl rfl rfl (by decide +kernel) ⟨Nat.le_of_ble_eq_true rfl, Nat.le_of_ble_eq_true rfl⟩) rfl rfl (Nat.le_of_ble_eq_true rfl) dX0_addFour_5 ⟨Nat.le_of_ble_eq_true rfl, Nat.le_of_ble_eq_true rfl⟩ (fun H locs hPz1 hW hS => ?_)
  refine W.eq (g2 := F0 m 8 ls []) rfl ?_
  refine lv_aload_n hx hb dX0_addFour_8 rfl (lv_at hl 0 rfl) ?_
  refine lv_iload_n hx hb dX0_addFour_9 rfl (lv_at hl 1 rfl) ?_
  refine lv_bipush (v := 16) hx hb dX0_addFour_10 (by decide) ?_
  refine lv_iushr (v := (p1.toUInt32 >>> ((16 : Int32).toUInt32 &&& Int32.toUInt32 31)).toInt32) hx hb dX0_addFour_12 rfl ?_
  replace hf := obE hf
  obtain ⟨S6, hz5, hf⟩ := hf
  refine x_callV (As := [.int ((p1.toUInt32 >>> ((16 : Int32).toUInt32 &&& Int32.toUInt32 31)).toInt32)]) (rest := []) (o := none) (S1 := S6) hC hl.1 hW hS hGs hA tp0 rfl (show vwCl[0]? = some (RX0, TX0, 2) ∧ ob 0 from ⟨rfl, by decide⟩) (c_X0_add l g ad n K H.size F S2 p0 ((p1.toUInt32 >>> ((16 : Int32).toUInt32 &&& Int32.toUInt32 31)).toInt32) tp0 S6 hz5) (cwV 1 hts gX0_addFour_X0_add rfl rfl rfl (by decide +kernel) ⟨Nat.le_of_ble_eq_true rfl, Nat.le_of_ble_eq_true rfl⟩) rfl rfl (Nat.le_of_ble_eq_true rfl) dX0_addFour_13 ⟨Nat.le_of_ble_eq_true rfl, Nat.le_of_ble_eq_true rfl⟩ (fun H locs hPz5 hW hS => ?_)
  refine W.eq (g2 := F0 m 16 ls []) rfl ?_
  refine lv_aload_n hx hb dX0_addFour_16 rfl (lv_at hl 0 rfl) ?_
  refine lv_iload_n hx hb dX0_addFour_17 rfl (lv_at hl 1 rfl) ?_
  refine lv_bipush (v := 8) hx hb dX0_addFour_18 (by decide) ?_
  refine lv_iushr (v := (p1.toUInt32 >>> ((8 : Int32).toUInt32 &&& Int32.toUInt32 31)).toInt32) hx hb dX0_addFour_20 rfl ?_
  replace hf := obE hf
  obtain ⟨S10, hz9, hf⟩ := hf
  refine x_callV (As := [.int ((p1.toUInt32 >>> ((8 : Int32).toUInt32 &&& Int32.toUInt32 31)).toInt32)]) (rest := []) (o := none) (S1 := S10) hC hl.1 hW hS hGs hA tp0 rfl (show vwCl[0]? = some (RX0, TX0, 2) ∧ ob 0 from ⟨rfl, by decide⟩) (c_X0_add l g ad n K H.size F S6 p0 ((p1.toUInt32 >>> ((8 : Int32).toUInt32 &&& Int32.toUInt32 31)).toInt32) tp0 S10 hz9) (cwV 1 hts gX0_addFour_X0_add rfl rfl rfl (by decide +kernel) ⟨Nat.le_of_ble_eq_true rfl, Nat.le_of_ble_eq_true rfl⟩) rfl rfl (Nat.le_of_ble_eq_true rfl) dX0_addFour_21 ⟨Nat.le_of_ble_eq_true rfl, Nat.le_of_ble_eq_true rfl⟩ (fun H locs hPz9 hW hS => ?_)
  refine W.eq (g2 := F0 m 24 ls []) rfl ?_
  refine lv_aload_n hx hb dX0_addFour_24 rfl (lv_at hl 0 rfl) ?_
  refine lv_iload_n hx hb dX0_addFour_25 rfl (lv_at hl 1 rfl) ?_
  replace hf := obE hf
  obtain ⟨S14, hz13, hf⟩ := hf
  refine x_callV (As := [.int p1]) (rest := []) (o := none) (S1 := S14) hC hl.1 hW hS hGs hA tp0 rfl (show vwCl[0]? = some (RX0, TX0, 2) ∧ ob 0 from ⟨rfl, by decide⟩) (c_X0_add l g ad n K H.size F S10 p0 p1 tp0 S14 hz13) (cwV 1 hts gX0_addFour_X0_add rfl rfl rfl (by decide +kernel) ⟨Nat.le_of_ble_eq_true rfl, Nat.le_of_ble_eq_true rfl⟩) rfl rfl (Nat.le_of_ble_eq_true rfl) dX0_addFour_26 ⟨Nat.le_of_ble_eq_true rfl, Nat.le_of_ble_eq_true rfl⟩ (fun H locs hPz13 hW hS => ?_)
  refine W.eq (g2 := F0 m 29 ls []) rfl ?_
  have e1 := Option.some.inj hf
  subst e1
  exact W.vret hx hb hr (fun t ht hWm => ⟨⟨rfl, by unfold QB; rw [ht]; exact ⟨hW, trivial⟩⟩, hS.F ht⟩) hS.2.2 dX0_addFour_29 hlk
set_option maxHeartbeats 4000000 in
set_option maxRecDepth 100000 in
theorem c_X10_append (l : Launch) (g : GP) (ad : Nat → Nat) (n : Nat) (K : Nat → Nat) (sz F : Nat) (S0 : St) (p0 : Nat) (p1 : Int32) (p2 : Int32) (p3 : Int32) (p4 : Int32) (p5 : Int32) (tp0 : p0 < n ∧ K p0 = 9) (r9 : Int32) (S9 : St) (hf : f_X10_append F S0 p0 p1 p2 p3 p4 p5 = some (.inr r9, S9)) : Met l yX10_append wsX10_append { frames := 2, cells := 0, slots := 0, locals := 42 } (va_Pc [.ref (ad p0), .int p1, .int p2, .int p3, .int p4, .int p5] (PB g ad n K S0 sz)) (QR (some (.int r9)) (QB g ad n K S9 (dA ad n sz) (True)) (dA ad n sz)) 0 0 (dA ad n sz) := by
  refine Met.ofW (cc := cX10_append) (maxL := 6) (ret := (some .int)) (by decide) rfl ?_
  intro p e s m args below meth c s₁ B hml hv
  obtain ⟨rfl, hsz, hW, hK, hGs⟩ := x_start hv
  subst hsz
  have hx := B.exec
  have hb := B.bytes
  have hr := B.returns
  have hts := atoms_spec (ws := wsX10_append) B.pre
  have hown : s.vm.findClass RX10 = some m.cls := findClass_of_methodNamed B.named
  have hlk := B.notSynchronized
  have hC : Cx g p s m _ c cX10_append RX10 wsX10_append 6 := ⟨hx, hb, hml, hown, hts, hK⟩
  have hA : ∀ q : Nat, s.heap.size ≤ q → dA ad n s.heap.size q := fun q h => Or.inr h
  have hS : va_S (dA ad n s.heap.size) s.heap s.heap [] := va_S.rf
  have hl := lv_entry ([.ref (ad p0), .int p1, .int p2, .int p3, .int p4, .int p5]) (n := 6) (Nat.le_of_ble_eq_true rfl)
  rw [lg_entry_eq]
  generalize (lg_sl ([.ref (ad p0), .int p1, .int p2, .int p3, .int p4, .int p5]) ++ List.replicate (6 - (lg_sl ([.ref (ad p0), .int p1, .int p2, .int p3, .int p4, .int p5])).length) Slot.unset).toArray = ls at hl ⊢
  have hl : lv_has ls 6 [(0, .ref (ad p0)), (1, .int p1), (2, .int p2), (3, .int p3), (4, .int p4), (5, .int p5)] := hl
  have hinX0 : ∀ w ∈ wsX00, w ∈ wsX10_append := by decide +kernel
  have hinX10 : ∀ w ∈ wsX100, w ∈ wsX10_append := by decide +kernel
  have w_0 := hts (.fieldLink RX10 17 "MailSpool" "input" "LMailSpool$Bytes;") (by decide +kernel)
  have w_1 := va_Nw.use (A := (List.toArray [.ref (ad p0), .int p1, .int p2, .int p3, .int p4, .int p5])) rfl (hGs.1 (.fieldLinkNest RX10 57 "MailSpool$Bytes" "size" "I" "MailSpool") (by decide +kernel))
  have hGE := hGs.2.2.2.1
  have hGM := hGs.2.2.2.2
  unfold f_X10_append at hf
  refine lv_aload_n hx hb dX10_append_0 rfl (lv_at hl 0 rfl) ?_
  replace hf := obE hf
  obtain ⟨j1, qj1, hf⟩ := hf
  have tj1 := x_rt hW qj1 0 ⟨by decide, rfl⟩
  refine x_getr 900 (ci := 9) (C := RX10) (T := TX10) (N := 11) 0 hC hinX10 hW tp0 rfl rfl ⟨by decide, by decide, rfl, rfl⟩ rfl w_0 dX10_append_1 qj1 ?_
  refine x_getiN 1 (ci := 0) (C := RX0) (T := TX0) (N := 2) 1 hC hinX0 hW tj1 rfl rfl ⟨by decide, by decide, rfl, rfl⟩ rfl w_1 dX10_append_4 ?_
  refine lv_bipush (v := 20) hx hb dX10_append_7 (by decide) ?_
  refine lv_iadd hx hb dX10_append_9 ?_
  refine lv_sipush (v := 1200) hx hb dX10_append_10 (by decide) ?_
  refine lv_icmp_le (tgt := 26) hx hb dX10_append_13 (by decide) (fun c2 => ?_) (fun c2 => ?_)
  · replace hf := ifT c2 hf
    refine lv_aload_n hx hb dX10_append_26 rfl (lv_at hl 0 rfl) ?_
    replace hf := obE hf
    obtain ⟨j3, qj3, hf⟩ := hf
    have tj3 := x_rt hW qj3 0 ⟨by decide, rfl⟩
    refine x_getr 900 (ci := 9) (C := RX10) (T := TX10) (N := 11) 0 hC hinX10 hW tp0 rfl rfl ⟨by decide, by decide, rfl, rfl⟩ rfl w_0 dX10_append_27 qj3 ?_
    refine lv_iload_n hx hb dX10_append_30 rfl (lv_at hl 1 rfl) ?_
    replace hf := obE hf
    obtain ⟨S5, hz4, hf⟩ := hf
    refine x_callV (As := [.int p1]) (rest := []) (o := none) (S1 := S5) hC hl.1 hW hS hGs hA tj3 rfl (show vwCl[0]? = some (RX0, TX0, 2) ∧ ob 0 from ⟨rfl, by decide⟩) (c_X0_addFour l g ad n K s.heap.size F S0 j3 p1 tj3 S5 hz4) (cwV 1 hts gX10_append_X0_addFour rfl rfl rfl (by decide +kernel) ⟨Nat.le_of_ble_eq_true rfl, Nat.le_of_ble_eq_true rfl⟩) rfl rfl (Nat.le_of_ble_eq_true rfl) dX10_append_31 ⟨Nat.le_of_ble_eq_true rfl, Nat.le_of_ble_eq_true rfl⟩ (fun H locs hPz4 hW hS => ?_)
    refine W.eq (g2 := F0 m 34 ls []) rfl ?_
    refine lv_aload_n hx hb dX10_append_34 rfl (lv_at hl 0 rfl) ?_
    replace hf := obE hf
    obtain ⟨j8, qj8, hf⟩ := hf
    have tj8 := x_rt hW qj8 0 ⟨by decide, rfl⟩
    refine x_getr 900 (ci := 9) (C := RX10) (T := TX10) (N := 11) 0 hC hinX10 hW tp0 rfl rfl ⟨by decide, by decide, rfl, rfl⟩ rfl w_0 dX10_append_35 qj8 ?_
    refine lv_iload_n hx hb dX10_append_38 rfl (lv_at hl 2 rfl) ?_
    replace hf := obE hf
    obtain ⟨S10, hz9, hf⟩ := hf
    refine x_callV (As := [.int p2]) (rest := []) (o := none) (S1 := S10) hC hl.1 hW hS hGs hA tj8 rfl (show vwCl[0]? = some (RX0, TX0, 2) ∧ ob 0 from ⟨rfl, by decide⟩) (c_X0_addFour l g ad n K H.size F S5 j8 p2 tj8 S10 hz9) (cwV 1 hts gX10_append_X0_addFour rfl rfl rfl (by decide +kernel) ⟨Nat.le_of_ble_eq_true rfl, Nat.le_of_ble_eq_true rfl⟩) rfl rfl (Nat.le_of_ble_eq_true rfl) dX10_append_39 ⟨Nat.le_of_ble_eq_true rfl, Nat.le_of_ble_eq_true rfl⟩ (fun H locs hPz9 hW hS => ?_)
    refine W.eq (g2 := F0 m 42 ls []) rfl ?_
    refine lv_aload_n hx hb dX10_append_42 rfl (lv_at hl 0 rfl) ?_
    replace hf := obE hf
    obtain ⟨j13, qj13, hf⟩ := hf
    have tj13 := x_rt hW qj13 0 ⟨by decide, rfl⟩
    refine x_getr 900 (ci := 9) (C := RX10) (T := TX10) (N := 11) 0 hC hinX10 hW tp0 rfl rfl ⟨by decide, by decide, rfl, rfl⟩ rfl w_0 dX10_append_43 qj13 ?_
    refine lv_iload_n hx hb dX10_append_46 rfl (lv_at hl 3 rfl) ?_
    replace hf := obE hf
    obtain ⟨S15, hz14, hf⟩ := hf
    refine x_callV (As := [.int p3]) (rest := []) (o := none) (S1 := S15) hC hl.1 hW hS hGs hA tj13 rfl (show vwCl[0]? = some (RX0, TX0, 2) ∧ ob 0 from ⟨rfl, by decide⟩) (c_X0_addFour l g ad n K H.size F S10 j13 p3 tj13 S15 hz14) (cwV 1 hts gX10_append_X0_addFour rfl rfl rfl (by decide +kernel) ⟨Nat.le_of_ble_eq_true rfl, Nat.le_of_ble_eq_true rfl⟩) rfl rfl (Nat.le_of_ble_eq_true rfl) dX10_append_47 ⟨Nat.le_of_ble_eq_true rfl, Nat.le_of_ble_eq_true rfl⟩ (fun H locs hPz14 hW hS => ?_)
    refine W.eq (g2 := F0 m 50 ls []) rfl ?_
    refine lv_aload_n hx hb dX10_append_50 rfl (lv_at hl 0 rfl) ?_
    replace hf := obE hf
    obtain ⟨j18, qj18, hf⟩ := hf
    have tj18 := x_rt hW qj18 0 ⟨by decide, rfl⟩
    refine x_getr 900 (ci := 9) (C := RX10) (T := TX10) (N := 11) 0 hC hinX10 hW tp0 rfl rfl ⟨by decide, by decide, rfl, rfl⟩ rfl w_0 dX10_append_51 qj18 ?_
    refine lv_iload hx hb dX10_append_54 (lv_at hl 4 rfl) ?_
    replace hf := obE hf
    obtain ⟨S20, hz19, hf⟩ := hf
    refine x_callV (As := [.int p4]) (rest := []) (o := none) (S1 := S20) hC hl.1 hW hS hGs hA tj18 rfl (show vwCl[0]? = some (RX0, TX0, 2) ∧ ob 0 from ⟨rfl, by decide⟩) (c_X0_addFour l g ad n K H.size F S15 j18 p4 tj18 S20 hz19) (cwV 1 hts gX10_append_X0_addFour rfl rfl rfl (by decide +kernel) ⟨Nat.le_of_ble_eq_true rfl, Nat.le_of_ble_eq_true rfl⟩) rfl rfl (Nat.le_of_ble_eq_true rfl) dX10_append_56 ⟨Nat.le_of_ble_eq_true rfl, Nat.le_of_ble_eq_true rfl⟩ (fun H locs hPz19 hW hS => ?_)
    refine W.eq (g2 := F0 m 59 ls []) rfl ?_
    refine lv_aload_n hx hb dX10_append_59 rfl (lv_at hl 0 rfl) ?_
    replace hf := obE hf
    obtain ⟨j23, qj23, hf⟩ := hf
    have tj23 := x_rt hW qj23 0 ⟨by decide, rfl⟩
    refine x_getr 900 (ci := 9) (C := RX10) (T := TX10) (N := 11) 0 hC hinX10 hW tp0 rfl rfl ⟨by decide, by decide, rfl, rfl⟩ rfl w_0 dX10_append_60 qj23 ?_
    refine lv_iload hx hb dX10_append_63 (lv_at hl 5 rfl) ?_
    replace hf := obE hf
    obtain ⟨S25, hz24, hf⟩ := hf
    refine x_callV (As := [.int p5]) (rest := []) (o := none) (S1 := S25) hC hl.1 hW hS hGs hA tj23 rfl (show vwCl[0]? = some (RX0, TX0, 2) ∧ ob 0 from ⟨rfl, by decide⟩) (c_X0_addFour l g ad n K H.size F S20 j23 p5 tj23 S25 hz24) (cwV 1 hts gX10_append_X0_addFour rfl rfl rfl (by decide +kernel) ⟨Nat.le_of_ble_eq_true rfl, Nat.le_of_ble_eq_true rfl⟩) rfl rfl (Nat.le_of_ble_eq_true rfl) dX10_append_65 ⟨Nat.le_of_ble_eq_true rfl, Nat.le_of_ble_eq_true rfl⟩ (fun H locs hPz24 hW hS => ?_)
    refine W.eq (g2 := F0 m 68 ls []) rfl ?_
    refine lv_aload_n hx hb dX10_append_68 rfl (lv_at hl 0 rfl) ?_
    replace hf := obE hf
    obtain ⟨j28, qj28, hf⟩ := hf
    have tj28 := x_rt hW qj28 0 ⟨by decide, rfl⟩
    refine x_getr 900 (ci := 9) (C := RX10) (T := TX10) (N := 11) 0 hC hinX10 hW tp0 rfl rfl ⟨by decide, by decide, rfl, rfl⟩ rfl w_0 dX10_append_69 qj28 ?_
    refine x_getiN 1 (ci := 0) (C := RX0) (T := TX0) (N := 2) 1 hC hinX0 hW tj28 rfl rfl ⟨by decide, by decide, rfl, rfl⟩ rfl w_1 dX10_append_72 ?_
    obtain ⟨e1, e2⟩ := so2 hf
    cases e1
    subst e2
    exact W.iret (v := si S25 1 j28) hx hb hr (fun t ht hWm => ⟨⟨rfl, by unfold QB; rw [ht]; exact ⟨hW, trivial⟩⟩, hS.F ht⟩) hS.2.2 dX10_append_75 hlk
  · replace hf := ifF c2 hf
    exact nomatch (Prod.mk.inj (Option.some.inj hf)).1
set_option maxHeartbeats 4000000 in
set_option maxRecDepth 100000 in
theorem c_X0_cutTo (l : Launch) (g : GP) (ad : Nat → Nat) (n : Nat) (K : Nat → Nat) (sz F : Nat) (S0 : St) (p0 : Nat) (p1 : Int32) (tp0 : p0 < n ∧ K p0 = 0) (S9 : St) (hf : f_X0_cutTo F S0 p0 p1 = some S9) : Met l yX0_cutTo wsX0_cutTo { frames := 0, cells := 0, slots := 0, locals := 0 } (va_Pc [.ref (ad p0), .int p1] (PB g ad n K S0 sz)) (QR none (QB g ad n K S9 (dA ad n sz) (True)) (dA ad n sz)) 0 0 (dA ad n sz) := by
  refine Met.ofW (cc := cX0_cutTo) (maxL := 2) (ret := none) (by decide) rfl ?_
  intro p e s m args below meth c s₁ B hml hv
  obtain ⟨rfl, hsz, hW, hK, hGs⟩ := x_start hv
  subst hsz
  have hx := B.exec
  have hb := B.bytes
  have hr := B.returns
  have hts := atoms_spec (ws := wsX0_cutTo) B.pre
  have hown : s.vm.findClass RX0 = some m.cls := findClass_of_methodNamed B.named
  have hlk := B.notSynchronized
  have hC : Cx g p s m _ c cX0_cutTo RX0 wsX0_cutTo 2 := ⟨hx, hb, hml, hown, hts, hK⟩
  have hA : ∀ q : Nat, s.heap.size ≤ q → dA ad n s.heap.size q := fun q h => Or.inr h
  have hS : va_S (dA ad n s.heap.size) s.heap s.heap [] := va_S.rf
  have hl := lv_entry ([.ref (ad p0), .int p1]) (n := 2) (Nat.le_of_ble_eq_true rfl)
  rw [lg_entry_eq]
  generalize (lg_sl ([.ref (ad p0), .int p1]) ++ List.replicate (2 - (lg_sl ([.ref (ad p0), .int p1])).length) Slot.unset).toArray = ls at hl ⊢
  have hl : lv_has ls 2 [(0, .ref (ad p0)), (1, .int p1)] := hl
  have hinX0 : ∀ w ∈ wsX00, w ∈ wsX0_cutTo := by decide +kernel
  have w_0 := hts (.fieldLink RX0 21 "MailSpool$Bytes" "size" "I") (by decide +kernel)
  have hGE := hGs.2.2.2.1
  have hGM := hGs.2.2.2.2
  unfold f_X0_cutTo at hf
  refine lv_iload_n hx hb dX0_cutTo_0 rfl (lv_at hl 1 rfl) ?_
  refine lv_if_lt (tgt := 17) hx hb dX0_cutTo_1 (by decide) (fun c1 => ?_) (fun c1 => ?_)
  · replace hf := ifT c1 hf
    have e1 := Option.some.inj hf
    subst e1
    exact W.vret hx hb hr (fun t ht hWm => ⟨⟨rfl, by unfold QB; rw [ht]; exact ⟨hW, trivial⟩⟩, hS.F ht⟩) hS.2.2 dX0_cutTo_17 hlk
  · replace hf := ifF c1 hf
    refine lv_iload_n hx hb dX0_cutTo_4 rfl (lv_at hl 1 rfl) ?_
    refine lv_aload_n hx hb dX0_cutTo_5 rfl (lv_at hl 0 rfl) ?_
    refine x_geti 1 (ci := 0) (C := RX0) (T := TX0) (N := 2) 1 hC hinX0 hW tp0 rfl rfl ⟨by decide, by decide, rfl, rfl⟩ rfl w_0 dX0_cutTo_6 ?_
    refine lv_icmp_ge (tgt := 17) hx hb dX0_cutTo_9 (by decide) (fun c2 => ?_) (fun c2 => ?_)
    · replace hf := ifT c2 hf
      have e1 := Option.some.inj hf
      subst e1
      exact W.vret hx hb hr (fun t ht hWm => ⟨⟨rfl, by unfold QB; rw [ht]; exact ⟨hW, trivial⟩⟩, hS.F ht⟩) hS.2.2 dX0_cutTo_17 hlk
    · replace hf := ifF c2 hf
      refine lv_aload_n hx hb dX0_cutTo_12 rfl (lv_at hl 0 rfl) ?_
      refine lv_iload_n hx hb dX0_cutTo_13 rfl (lv_at hl 1 rfl) ?_
      refine x_puti 1 (ci := 0) (C := RX0) (T := TX0) (N := 2) (v := p1) (ty := .int) 1 hC hinX0 tyX0_ok nmX0 hW hS tp0 rfl rfl ⟨by decide, by decide, rfl, rfl⟩ rfl w_0 rfl (by decide +kernel) rfl rfl dX0_cutTo_14 (fun S3 H locs eS3 hW hS => ?_)
      replace hf := ltE hf S3 eS3
      have e1 := Option.some.inj hf
      subst e1
      exact W.vret hx hb hr (fun t ht hWm => ⟨⟨rfl, by unfold QB; rw [ht]; exact ⟨hW, trivial⟩⟩, hS.F ht⟩) hS.2.2 dX0_cutTo_17 hlk
set_option maxHeartbeats 4000000 in
set_option maxRecDepth 100000 in
theorem c_X10_truncate (l : Launch) (g : GP) (ad : Nat → Nat) (n : Nat) (K : Nat → Nat) (sz F : Nat) (S0 : St) (p0 : Nat) (p1 : Int32) (tp0 : p0 < n ∧ K p0 = 9) (r9 : Unit) (S9 : St) (hf : f_X10_truncate F S0 p0 p1 = some (.inr r9, S9)) : Met l yX10_truncate wsX10_truncate { frames := 1, cells := 0, slots := 0, locals := 21 } (va_Pc [.ref (ad p0), .int p1] (PB g ad n K S0 sz)) (QR none (QB g ad n K S9 (dA ad n sz) (True)) (dA ad n sz)) 0 0 (dA ad n sz) := by
  refine Met.ofW (cc := cX10_truncate) (maxL := 2) (ret := none) (by decide) rfl ?_
  intro p e s m args below meth c s₁ B hml hv
  obtain ⟨rfl, hsz, hW, hK, hGs⟩ := x_start hv
  subst hsz
  have hx := B.exec
  have hb := B.bytes
  have hr := B.returns
  have hts := atoms_spec (ws := wsX10_truncate) B.pre
  have hown : s.vm.findClass RX10 = some m.cls := findClass_of_methodNamed B.named
  have hlk := B.notSynchronized
  have hC : Cx g p s m _ c cX10_truncate RX10 wsX10_truncate 2 := ⟨hx, hb, hml, hown, hts, hK⟩
  have hA : ∀ q : Nat, s.heap.size ≤ q → dA ad n s.heap.size q := fun q h => Or.inr h
  have hS : va_S (dA ad n s.heap.size) s.heap s.heap [] := va_S.rf
  have hl := lv_entry ([.ref (ad p0), .int p1]) (n := 2) (Nat.le_of_ble_eq_true rfl)
  rw [lg_entry_eq]
  generalize (lg_sl ([.ref (ad p0), .int p1]) ++ List.replicate (2 - (lg_sl ([.ref (ad p0), .int p1])).length) Slot.unset).toArray = ls at hl ⊢
  have hl : lv_has ls 2 [(0, .ref (ad p0)), (1, .int p1)] := hl
  have hinX0 : ∀ w ∈ wsX00, w ∈ wsX10_truncate := by decide +kernel
  have hinX10 : ∀ w ∈ wsX100, w ∈ wsX10_truncate := by decide +kernel
  have w_0 := hts (.fieldLink RX10 17 "MailSpool" "input" "LMailSpool$Bytes;") (by decide +kernel)
  have w_1 := va_Nw.use (A := (List.toArray [.ref (ad p0), .int p1])) rfl (hGs.1 (.fieldLinkNest RX10 57 "MailSpool$Bytes" "size" "I" "MailSpool") (by decide +kernel))
  have hGE := hGs.2.2.2.1
  have hGM := hGs.2.2.2.2
  have L15 : ∀ (S0 : St)   (H : Heap) (locs : List Loc) (ls : Array Slot), f_X10_truncate_L15 F S0  = some (.inr r9, S9) → Wb g ad n K S0 (dA ad n s.heap.size) H → va_S (dA ad n s.heap.size) s.heap H locs → lv_has ls 2 [] → W p l e (headSpec wsX10_truncate { frames := 1, cells := 0, slots := 0, locals := 21 }).room s m (List.toArray [.ref (ad p0), .int p1]) below meth c H locs 0 0 (MQ below (QR none (QB g ad n K S9 (dA ad n s.heap.size) (True)) (dA ad n s.heap.size)) (List.toArray [.ref (ad p0), .int p1]) s 0 0 (dA ad n s.heap.size)) (F0 m 15 ls []) := by
    intro S0  H locs ls hf hW hS hl
    unfold f_X10_truncate_L15 at hf
    exact nomatch (Prod.mk.inj (Option.some.inj hf)).1
  unfold f_X10_truncate at hf
  refine lv_iload_n hx hb dX10_truncate_0 rfl (lv_at hl 1 rfl) ?_
  refine lv_if_lt (tgt := 15) hx hb dX10_truncate_1 (by decide) (fun c1 => ?_) (fun c1 => ?_)
  · replace hf := ifT c1 hf
    exact L15 S0 _ _ _ hf hW hS (lv_sub hl [] rfl)
  · replace hf := ifF c1 hf
    refine lv_iload_n hx hb dX10_truncate_4 rfl (lv_at hl 1 rfl) ?_
    refine lv_aload_n hx hb dX10_truncate_5 rfl (lv_at hl 0 rfl) ?_
    replace hf := obE hf
    obtain ⟨j2, qj2, hf⟩ := hf
    have tj2 := x_rt hW qj2 0 ⟨by decide, rfl⟩
    refine x_getr 900 (ci := 9) (C := RX10) (T := TX10) (N := 11) 0 hC hinX10 hW tp0 rfl rfl ⟨by decide, by decide, rfl, rfl⟩ rfl w_0 dX10_truncate_6 qj2 ?_
    refine x_getiN 1 (ci := 0) (C := RX0) (T := TX0) (N := 2) 1 hC hinX0 hW tj2 rfl rfl ⟨by decide, by decide, rfl, rfl⟩ rfl w_1 dX10_truncate_9 ?_
    refine lv_icmp_le (tgt := 25) hx hb dX10_truncate_12 (by decide) (fun c3 => ?_) (fun c3 => ?_)
    · replace hf := ifT c3 hf
      refine lv_aload_n hx hb dX10_truncate_25 rfl (lv_at hl 0 rfl) ?_
      replace hf := obE hf
      obtain ⟨j4, qj4, hf⟩ := hf
      have tj4 := x_rt hW qj4 0 ⟨by decide, rfl⟩
      refine x_getr 900 (ci := 9) (C := RX10) (T := TX10) (N := 11) 0 hC hinX10 hW tp0 rfl rfl ⟨by decide, by decide, rfl, rfl⟩ rfl w_0 dX10_truncate_26 qj4 ?_
      refine lv_iload_n hx hb dX10_truncate_29 rfl (lv_at hl 1 rfl) ?_
      replace hf := obE hf
      obtain ⟨S6, hz5, hf⟩ := hf
      refine x_callV (As := [.int p1]) (rest := []) (o := none) (S1 := S6) hC hl.1 hW hS hGs hA tj4 rfl (show vwCl[0]? = some (RX0, TX0, 2) ∧ ob 0 from ⟨rfl, by decide⟩) (c_X0_cutTo l g ad n K s.heap.size F S0 j4 p1 tj4 S6 hz5) (cwV 1 hts gX10_truncate_X0_cutTo rfl rfl rfl (by decide +kernel) ⟨Nat.le_of_ble_eq_true rfl, Nat.le_of_ble_eq_true rfl⟩) rfl rfl (Nat.le_of_ble_eq_true rfl) dX10_truncate_30 ⟨Nat.le_of_ble_eq_true rfl, Nat.le_of_ble_eq_true rfl⟩ (fun H locs hPz5 hW hS => ?_)
      refine W.eq (g2 := F0 m 33 ls []) rfl ?_
      obtain ⟨e1, e2⟩ := so2 hf
      cases e1
      subst e2
      exact W.vret hx hb hr (fun t ht hWm => ⟨⟨rfl, by unfold QB; rw [ht]; exact ⟨hW, trivial⟩⟩, hS.F ht⟩) hS.2.2 dX10_truncate_33 hlk
    · replace hf := ifF c3 hf
      exact L15 S0 _ _ _ hf hW hS (lv_sub hl [] rfl)
set_option maxHeartbeats 4000000 in
set_option maxRecDepth 100000 in
theorem c_X6_init (l : Launch) (g : GP) (ad : Nat → Nat) (n : Nat) (K : Nat → Nat) (sz F : Nat) (S0 : St) (p0 : Nat) (p1 : Nat) (tp0 : p0 < n ∧ K p0 = 5) (tp1 : p1 < n ∧ K p1 = 0) (S9 : St) (n9 : Nat) (hf : f_X6_init F S0 n p0 p1 = some (S9, n9)) : Met l yX6_init wsX6_init { frames := 3, cells := 19, slots := 138, locals := 62 } (va_Pc [.ref (ad p0), .ref (ad p1)] (PB g ad n K S0 sz)) (QA ad K n (fun _ => none) g n9 S9 (dA ad n sz) (fun _ => True)) 19 138 (dA ad n sz) := by
  refine Met.ofW (cc := cX6_init) (maxL := 2) (ret := none) (by decide) rfl ?_
  intro p e s m args below meth c s₁ B hml hv
  obtain ⟨rfl, hsz, hW, hK, hGs⟩ := x_start hv
  subst hsz
  have hx := B.exec
  have hb := B.bytes
  have hr := B.returns
  have hts := atoms_spec (ws := wsX6_init) B.pre
  have hown : s.vm.findClass RX6 = some m.cls := findClass_of_methodNamed B.named
  have hlk := B.notSynchronized
  have hinI : meth.name = "<init>" := (name_of_methodNamed B.named B.method).1
  have hC : Cx g p s m _ c cX6_init RX6 wsX6_init 2 := ⟨hx, hb, hml, hown, hts, hK⟩
  have hA : ∀ q : Nat, s.heap.size ≤ q → dA ad n s.heap.size q := fun q h => Or.inr h
  have hS : va_S (dA ad n s.heap.size) s.heap s.heap [] := va_S.rf
  have hl := lv_entry ([.ref (ad p0), .ref (ad p1)]) (n := 2) (Nat.le_of_ble_eq_true rfl)
  rw [lg_entry_eq]
  generalize (lg_sl ([.ref (ad p0), .ref (ad p1)]) ++ List.replicate (2 - (lg_sl ([.ref (ad p0), .ref (ad p1)])).length) Slot.unset).toArray = ls at hl ⊢
  have hl : lv_has ls 2 [(0, .ref (ad p0)), (1, .ref (ad p1))] := hl
  have hinX6 : ∀ w ∈ wsX60, w ∈ wsX6_init := by decide +kernel
  have hinX7 : ∀ w ∈ wsX70, w ∈ wsX6_init := by decide +kernel
  have w_0 := hts (.methodLink RX6 3 objectInit) (by decide +kernel)
  have w_1 := hts (.instanceMethod objectInit) (by decide +kernel)
  have w_2 := hts (.code objectInit ⟨#[0xb1]⟩ 1 none) (by decide +kernel)
  have w_3 := hts (.fieldLink RX6 9 "MailSpool$Parser" "text" "LMailSpool$Bytes;") (by decide +kernel)
  have w_4 := hts (.classLink RX6 15 RX7) (by decide +kernel)
  have w_5 := hts (.instantiable RX7 16) (by decide +kernel)
  have w_6 := hts (.initialized RX7) (by decide +kernel)
  have w_7 := hts (.methodLink RX6 17 yX7_init) (by decide +kernel)
  have w_8 := hts (.instanceMethod yX7_init) (by decide +kernel)
  have w_9 := hts (.fieldLink RX6 18 "MailSpool$Parser" "rules" "LMailSpool$Rules;") (by decide +kernel)
  have w_10 := hts (.fieldLink RX6 22 "MailSpool$Parser" "errorPosition" "I") (by decide +kernel)
  have hGE := hGs.2.2.2.1
  have hGM := hGs.2.2.2.2
  unfold f_X6_init at hf
  refine lv_aload_n hx hb dX6_init_0 rfl (lv_at hl 0 rfl) ?_
  refine W.objInit hx hb hown w_0 w_1 w_2 rfl (by rw [hml]; exact hl.1) rfl dX6_init_1 (Nat.le_of_ble_eq_true rfl) (Nat.le_of_ble_eq_true rfl) ?_
  refine W.eq (g2 := F0 m 4 ls []) rfl ?_
  refine lv_aload_n hx hb dX6_init_4 rfl (lv_at hl 0 rfl) ?_
  refine lv_aload_n hx hb dX6_init_5 rfl (lv_at hl 1 rfl) ?_
  refine x_putrF 500 (ci := 5) (C := RX6) (T := TX6) (N := 10) (ty := (.object "MailSpool$Bytes")) 0 hC hinX6 tyX6_ok nmX6 hW hS tp0 rfl tp1 rfl rfl rfl ⟨by decide, by decide, rfl, rfl⟩ rfl w_3 rfl hinI rfl (by decide +kernel) rfl rfl dX6_init_6 (fun S1 H locs eS1 hW hS => ?_)
  replace hf := ltE hf S1 eS1
  refine lv_aload_n hx hb dX6_init_9 rfl (lv_at hl 0 rfl) ?_
  refine x_new (ci := 6) (C := RX7) (T := TX7) (N := 16) hC hinX7 tyX7_ok hW hS hA ⟨rfl, by decide, by decide⟩ (by decide +kernel) w_4 w_5 w_6 (Nat.le_of_ble_eq_true rfl) (Nat.le_of_ble_eq_true rfl) dX6_init_10 (fun q2 ad3 K4 S5 H eS5 hag7 eqq2 ekq2 hW hS => ?_)
  replace hf := ltE hf S5 eS5
  obtain ⟨n6, en6⟩ : ∃ z, z = n + 1 := ⟨_, rfl⟩
  rw [← en6] at hag7 hW
  replace hf := ltE hf n6 en6
  have tq2 : n < n6 ∧ K4 n = 6 := ⟨by omega, ekq2⟩
  have g8 := hag7.t tp0
  have g9 := hag7.e tp0 rfl
  have g10 := hag7.t tp1
  have g11 := hag7.e tp1 rfl
  have ag12 := (Ag.rf).tr hag7
  refine W.widen (k := 1) (n := 16) (by omega) (by omega) ?_
  refine lv_dup hx hb dX6_init_13 rfl ?_
  replace hf := obE hf
  obtain ⟨z13, hz13, hf⟩ := hf
  obtain ⟨S14, n16⟩ := z13
  replace hf := ltE (ltE hf S14 rfl) n16 rfl
  refine x_acallI (As := []) (rest := [.ref (q2), .ref (ad p0)]) (S1 := S14) (n1 := n16) (o := (fun _ => none)) (P := (fun _ => True)) hC hl.1 hW hS hGs hA (c_X7_init l g ad3 n6 K4 H.size F S5 n tq2 S14 n16 hz13) (cwI 0 hts gX6_init_X7_init rfl rfl rfl w_6 w_7 w_8 rfl (by decide +kernel) ⟨Nat.le_of_ble_eq_true rfl, Nat.le_of_ble_eq_true rfl⟩) rfl (by rw [eqq2] <;> rfl) (Nat.le_of_ble_eq_true rfl) dX6_init_14 ⟨(Nat.le_of_ble_eq_true rfl), (Nat.le_of_ble_eq_true rfl)⟩ (fun ad17 K18 H locs hag19 hPz13 hW hS => ?_)
  have g20 := hag19.t g8
  have g21 := hag19.e g8 g9
  have g22 := hag19.t g10
  have g23 := hag19.e g10 g11
  have g24 := hag19.t tq2
  have g25 := hag19.e tq2 eqq2
  have ag26 := (ag12).tr hag19
  refine W.widen (k := 19) (n := 138) (by omega) (by omega) ?_
  refine W.eq (g2 := F0 m 17 ls [.ref (q2), .ref (ad p0)]) rfl ?_
  refine x_putrF 501 (ci := 5) (C := RX6) (T := TX6) (N := 10) (ty := (.object "MailSpool$Rules")) 1 hC hinX6 tyX6_ok nmX6 hW hS g20 g21 g24 g25 rfl rfl ⟨by decide, by decide, rfl, rfl⟩ rfl w_9 rfl hinI rfl (by decide +kernel) rfl rfl dX6_init_17 (fun S27 H locs eS27 hW hS => ?_)
  replace hf := ltE hf S27 eS27
  refine lv_aload_n hx hb dX6_init_20 rfl (lv_at hl 0 rfl) ?_
  refine lv_iconst (v := -1) hx hb dX6_init_21 (by decide) ?_
  refine x_puti 503 (ci := 5) (C := RX6) (T := TX6) (N := 10) (v := (-1)) (ty := .int) 3 hC hinX6 tyX6_ok nmX6 hW hS g20 g21 rfl ⟨by decide, by decide, rfl, rfl⟩ rfl w_10 rfl (by decide +kernel) rfl rfl dX6_init_22 (fun S28 H locs eS28 hW hS => ?_)
  replace hf := ltE hf S28 eS28
  obtain ⟨e1, e2⟩ := so2 hf
  subst e1
  subst e2
  exact W.vret hx hb hr (fun t ht hWm => ⟨⟨ad17, K18, rfl, ag26, trivial, by rw [ht]; exact hW⟩, hS.F ht⟩) hS.2.2 dX6_init_25 hlk
set_option maxHeartbeats 4000000 in
set_option maxRecDepth 100000 in
theorem c_X0_byteAt (l : Launch) (g : GP) (ad : Nat → Nat) (n : Nat) (K : Nat → Nat) (sz F : Nat) (S0 : St) (p0 : Nat) (p1 : Int32) (tp0 : p0 < n ∧ K p0 = 0) (r9 : Int32) (S9 : St) (hf : f_X0_byteAt F S0 p0 p1 = some (r9, S9)) : Met l yX0_byteAt wsX0_byteAt { frames := 0, cells := 0, slots := 0, locals := 0 } (va_Pc [.ref (ad p0), .int p1] (PB g ad n K S0 sz)) (QR (some (.int r9)) (QB g ad n K S9 (dA ad n sz) (True)) (dA ad n sz)) 0 0 (dA ad n sz) := by
  refine Met.ofW (cc := cX0_byteAt) (maxL := 2) (ret := (some .int)) (by decide) rfl ?_
  intro p e s m args below meth c s₁ B hml hv
  obtain ⟨rfl, hsz, hW, hK, hGs⟩ := x_start hv
  subst hsz
  have hx := B.exec
  have hb := B.bytes
  have hr := B.returns
  have hts := atoms_spec (ws := wsX0_byteAt) B.pre
  have hown : s.vm.findClass RX0 = some m.cls := findClass_of_methodNamed B.named
  have hlk := B.notSynchronized
  have hC : Cx g p s m _ c cX0_byteAt RX0 wsX0_byteAt 2 := ⟨hx, hb, hml, hown, hts, hK⟩
  have hA : ∀ q : Nat, s.heap.size ≤ q → dA ad n s.heap.size q := fun q h => Or.inr h
  have hS : va_S (dA ad n s.heap.size) s.heap s.heap [] := va_S.rf
  have hl := lv_entry ([.ref (ad p0), .int p1]) (n := 2) (Nat.le_of_ble_eq_true rfl)
  rw [lg_entry_eq]
  generalize (lg_sl ([.ref (ad p0), .int p1]) ++ List.replicate (2 - (lg_sl ([.ref (ad p0), .int p1])).length) Slot.unset).toArray = ls at hl ⊢
  have hl : lv_has ls 2 [(0, .ref (ad p0)), (1, .int p1)] := hl
  have hinX0 : ∀ w ∈ wsX00, w ∈ wsX0_byteAt := by decide +kernel
  have w_0 := hts (.fieldLink RX0 21 "MailSpool$Bytes" "size" "I") (by decide +kernel)
  have w_1 := hts (.fieldLink RX0 15 "MailSpool$Bytes" "row" "[B") (by decide +kernel)
  have hGE := hGs.2.2.2.1
  have hGM := hGs.2.2.2.2
  unfold f_X0_byteAt at hf
  refine lv_iload_n hx hb dX0_byteAt_0 rfl (lv_at hl 1 rfl) ?_
  refine lv_if_lt (tgt := 34) hx hb dX0_byteAt_1 (by decide) (fun c1 => ?_) (fun c1 => ?_)
  · replace hf := ifT c1 hf
    refine lv_iconst (v := -1) hx hb dX0_byteAt_34 (by decide) ?_
    obtain ⟨e1, e2⟩ := so2 hf
    subst e1
    subst e2
    exact W.iret (v := (-1)) hx hb hr (fun t ht hWm => ⟨⟨rfl, by unfold QB; rw [ht]; exact ⟨hW, trivial⟩⟩, hS.F ht⟩) hS.2.2 dX0_byteAt_35 hlk
  · replace hf := ifF c1 hf
    refine lv_iload_n hx hb dX0_byteAt_4 rfl (lv_at hl 1 rfl) ?_
    refine lv_aload_n hx hb dX0_byteAt_5 rfl (lv_at hl 0 rfl) ?_
    refine x_geti 1 (ci := 0) (C := RX0) (T := TX0) (N := 2) 1 hC hinX0 hW tp0 rfl rfl ⟨by decide, by decide, rfl, rfl⟩ rfl w_0 dX0_byteAt_6 ?_
    refine lv_icmp_ge (tgt := 34) hx hb dX0_byteAt_9 (by decide) (fun c2 => ?_) (fun c2 => ?_)
    · replace hf := ifT c2 hf
      refine lv_iconst (v := -1) hx hb dX0_byteAt_34 (by decide) ?_
      obtain ⟨e1, e2⟩ := so2 hf
      subst e1
      subst e2
      exact W.iret (v := (-1)) hx hb hr (fun t ht hWm => ⟨⟨rfl, by unfold QB; rw [ht]; exact ⟨hW, trivial⟩⟩, hS.F ht⟩) hS.2.2 dX0_byteAt_35 hlk
    · replace hf := ifF c2 hf
      refine lv_iload_n hx hb dX0_byteAt_12 rfl (lv_at hl 1 rfl) ?_
      refine lv_aload_n hx hb dX0_byteAt_13 rfl (lv_at hl 0 rfl) ?_
      replace hf := obE hf
      obtain ⟨j3, qj3, hf⟩ := hf
      have tj3 := x_rt hW qj3 11 ⟨by decide, rfl⟩
      refine x_getr 0 (ci := 0) (C := RX0) (T := TX0) (N := 2) 0 hC hinX0 hW tp0 rfl rfl ⟨by decide, by decide, rfl, rfl⟩ rfl w_1 dX0_byteAt_14 qj3 ?_
      refine x_alen hC hW tj3 rfl ⟨by decide, by decide⟩ dX0_byteAt_17 ?_
      refine lv_icmp_ge (tgt := 34) hx hb dX0_byteAt_18 (by decide) (fun c4 => ?_) (fun c4 => ?_)
      · replace hf := ifT c4 hf
        refine lv_iconst (v := -1) hx hb dX0_byteAt_34 (by decide) ?_
        obtain ⟨e1, e2⟩ := so2 hf
        subst e1
        subst e2
        exact W.iret (v := (-1)) hx hb hr (fun t ht hWm => ⟨⟨rfl, by unfold QB; rw [ht]; exact ⟨hW, trivial⟩⟩, hS.F ht⟩) hS.2.2 dX0_byteAt_35 hlk
      · replace hf := ifF c4 hf
        refine lv_aload_n hx hb dX0_byteAt_21 rfl (lv_at hl 0 rfl) ?_
        replace hf := obE hf
        obtain ⟨j5, qj5, hf⟩ := hf
        have tj5 := x_rt hW qj5 11 ⟨by decide, rfl⟩
        refine x_getr 0 (ci := 0) (C := RX0) (T := TX0) (N := 2) 0 hC hinX0 hW tp0 rfl rfl ⟨by decide, by decide, rfl, rfl⟩ rfl w_1 dX0_byteAt_22 qj5 ?_
        refine lv_iload_n hx hb dX0_byteAt_25 rfl (lv_at hl 1 rfl) ?_
        replace hf := ckiE hf
        obtain ⟨h6, hf⟩ := hf
        refine x_bald hC hW tj5 rfl rfl h6 dX0_byteAt_26 ?_
        refine lv_sipush (v := 255) hx hb dX0_byteAt_27 (by decide) ?_
        refine lv_iand hx hb dX0_byteAt_30 ?_
        refine lv_goto (tgt := 35) hx hb dX0_byteAt_31 (by decide) ?_
        obtain ⟨e1, e2⟩ := so2 hf
        subst e1
        subst e2
        exact W.iret (v := (ai S0 j5 (Int32.toNatClampNeg p1)) &&& 255) hx hb hr (fun t ht hWm => ⟨⟨rfl, by unfold QB; rw [ht]; exact ⟨hW, trivial⟩⟩, hS.F ht⟩) hS.2.2 dX0_byteAt_35 hlk
set_option maxHeartbeats 4000000 in
set_option maxRecDepth 100000 in
theorem c_X6_isBlank (l : Launch) (g : GP) (ad : Nat → Nat) (n : Nat) (K : Nat → Nat) (sz F : Nat) (S0 : St) (p0 : Int32) (r9 : Int32) (S9 : St) (hf : f_X6_isBlank F S0 p0 = some (r9, S9)) : Met l yX6_isBlank wsX6_isBlank { frames := 0, cells := 0, slots := 0, locals := 0 } (va_Pc [.int p0] (PB g ad n K S0 sz)) (QR (some (.int r9)) (QB g ad n K S9 (dA ad n sz) (True)) (dA ad n sz)) 0 0 (dA ad n sz) := by
  refine Met.ofW (cc := cX6_isBlank) (maxL := 1) (ret := (some .boolean)) (by decide) rfl ?_
  intro p e s m args below meth c s₁ B hml hv
  obtain ⟨rfl, hsz, hW, hK, hGs⟩ := x_start hv
  subst hsz
  have hx := B.exec
  have hb := B.bytes
  have hr := B.returns
  have hts := atoms_spec (ws := wsX6_isBlank) B.pre
  have hown : s.vm.findClass RX6 = some m.cls := findClass_of_methodNamed B.named
  have hlk := B.notSynchronized
  have hC : Cx g p s m _ c cX6_isBlank RX6 wsX6_isBlank 1 := ⟨hx, hb, hml, hown, hts, hK⟩
  have hA : ∀ q : Nat, s.heap.size ≤ q → dA ad n s.heap.size q := fun q h => Or.inr h
  have hS : va_S (dA ad n s.heap.size) s.heap s.heap [] := va_S.rf
  have hl := lv_entry ([.int p0]) (n := 1) (Nat.le_of_ble_eq_true rfl)
  rw [lg_entry_eq]
  generalize (lg_sl ([.int p0]) ++ List.replicate (1 - (lg_sl ([.int p0])).length) Slot.unset).toArray = ls at hl ⊢
  have hl : lv_has ls 1 [(0, .int p0)] := hl
  have hGE := hGs.2.2.2.1
  have hGM := hGs.2.2.2.2
  unfold f_X6_isBlank at hf
  refine lv_iload_n hx hb dX6_isBlank_0 rfl (lv_at hl 0 rfl) ?_
  refine lv_bipush (v := 32) hx hb dX6_isBlank_1 (by decide) ?_
  refine lv_icmp_eq (tgt := 12) hx hb dX6_isBlank_3 (by decide) (fun c1 => ?_) (fun c1 => ?_)
  · replace hf := ifT c1 hf
    refine lv_iconst (v := 1) hx hb dX6_isBlank_12 (by decide) ?_
    refine lv_goto (tgt := 17) hx hb dX6_isBlank_13 (by decide) ?_
    obtain ⟨e1, e2⟩ := so2 hf
    subst e1
    subst e2
    exact W.zret (v := 1) hx hb hr rfl (fun t ht hWm => ⟨⟨rfl, by unfold QB; rw [ht]; exact ⟨hW, trivial⟩⟩, hS.F ht⟩) hS.2.2 dX6_isBlank_17 hlk
  · replace hf := ifF c1 hf
    refine lv_iload_n hx hb dX6_isBlank_6 rfl (lv_at hl 0 rfl) ?_
    refine lv_bipush (v := 10) hx hb dX6_isBlank_7 (by decide) ?_
    refine lv_icmp_ne (tgt := 16) hx hb dX6_isBlank_9 (by decide) (fun c2 => ?_) (fun c2 => ?_)
    · replace hf := ifT c2 hf
      refine lv_iconst (v := 0) hx hb dX6_isBlank_16 (by decide) ?_
      obtain ⟨e1, e2⟩ := so2 hf
      subst e1
      subst e2
      exact W.zret (v := 0) hx hb hr rfl (fun t ht hWm => ⟨⟨rfl, by unfold QB; rw [ht]; exact ⟨hW, trivial⟩⟩, hS.F ht⟩) hS.2.2 dX6_isBlank_17 hlk
    · replace hf := ifF (fun q => q c2) hf
      refine lv_iconst (v := 1) hx hb dX6_isBlank_12 (by decide) ?_
      refine lv_goto (tgt := 17) hx hb dX6_isBlank_13 (by decide) ?_
      obtain ⟨e1, e2⟩ := so2 hf
      subst e1
      subst e2
      exact W.zret (v := 1) hx hb hr rfl (fun t ht hWm => ⟨⟨rfl, by unfold QB; rw [ht]; exact ⟨hW, trivial⟩⟩, hS.F ht⟩) hS.2.2 dX6_isBlank_17 hlk
set_option maxHeartbeats 4000000 in
set_option maxRecDepth 100000 in
theorem c_X10_isLetter (l : Launch) (g : GP) (ad : Nat → Nat) (n : Nat) (K : Nat → Nat) (sz F : Nat) (S0 : St) (p0 : Int32) (r9 : Int32) (S9 : St) (hf : f_X10_isLetter F S0 p0 = some (r9, S9)) : Met l yX10_isLetter wsX10_isLetter { frames := 0, cells := 0, slots := 0, locals := 0 } (va_Pc [.int p0] (PB g ad n K S0 sz)) (QR (some (.int r9)) (QB g ad n K S9 (dA ad n sz) (True)) (dA ad n sz)) 0 0 (dA ad n sz) := by
  refine Met.ofW (cc := cX10_isLetter) (maxL := 1) (ret := (some .boolean)) (by decide) rfl ?_
  intro p e s m args below meth c s₁ B hml hv
  obtain ⟨rfl, hsz, hW, hK, hGs⟩ := x_start hv
  subst hsz
  have hx := B.exec
  have hb := B.bytes
  have hr := B.returns
  have hts := atoms_spec (ws := wsX10_isLetter) B.pre
  have hown : s.vm.findClass RX10 = some m.cls := findClass_of_methodNamed B.named
  have hlk := B.notSynchronized
  have hC : Cx g p s m _ c cX10_isLetter RX10 wsX10_isLetter 1 := ⟨hx, hb, hml, hown, hts, hK⟩
  have hA : ∀ q : Nat, s.heap.size ≤ q → dA ad n s.heap.size q := fun q h => Or.inr h
  have hS : va_S (dA ad n s.heap.size) s.heap s.heap [] := va_S.rf
  have hl := lv_entry ([.int p0]) (n := 1) (Nat.le_of_ble_eq_true rfl)
  rw [lg_entry_eq]
  generalize (lg_sl ([.int p0]) ++ List.replicate (1 - (lg_sl ([.int p0])).length) Slot.unset).toArray = ls at hl ⊢
  have hl : lv_has ls 1 [(0, .int p0)] := hl
  have hGE := hGs.2.2.2.1
  have hGM := hGs.2.2.2.2
  unfold f_X10_isLetter at hf
  refine lv_iload_n hx hb dX10_isLetter_0 rfl (lv_at hl 0 rfl) ?_
  refine lv_bipush (v := 97) hx hb dX10_isLetter_1 (by decide) ?_
  refine lv_icmp_lt (tgt := 16) hx hb dX10_isLetter_3 (by decide) (fun c1 => ?_) (fun c1 => ?_)
  · replace hf := ifT c1 hf
    refine lv_iconst (v := 0) hx hb dX10_isLetter_16 (by decide) ?_
    obtain ⟨e1, e2⟩ := so2 hf
    subst e1
    subst e2
    exact W.zret (v := 0) hx hb hr rfl (fun t ht hWm => ⟨⟨rfl, by unfold QB; rw [ht]; exact ⟨hW, trivial⟩⟩, hS.F ht⟩) hS.2.2 dX10_isLetter_17 hlk
  · replace hf := ifF c1 hf
    refine lv_iload_n hx hb dX10_isLetter_6 rfl (lv_at hl 0 rfl) ?_
    refine lv_bipush (v := 122) hx hb dX10_isLetter_7 (by decide) ?_
    refine lv_icmp_gt (tgt := 16) hx hb dX10_isLetter_9 (by decide) (fun c2 => ?_) (fun c2 => ?_)
    · replace hf := ifT c2 hf
      refine lv_iconst (v := 0) hx hb dX10_isLetter_16 (by decide) ?_
      obtain ⟨e1, e2⟩ := so2 hf
      subst e1
      subst e2
      exact W.zret (v := 0) hx hb hr rfl (fun t ht hWm => ⟨⟨rfl, by unfold QB; rw [ht]; exact ⟨hW, trivial⟩⟩, hS.F ht⟩) hS.2.2 dX10_isLetter_17 hlk
    · replace hf := ifF c2 hf
      refine lv_iconst (v := 1) hx hb dX10_isLetter_12 (by decide) ?_
      refine lv_goto (tgt := 17) hx hb dX10_isLetter_13 (by decide) ?_
      obtain ⟨e1, e2⟩ := so2 hf
      subst e1
      subst e2
      exact W.zret (v := 1) hx hb hr rfl (fun t ht hWm => ⟨⟨rfl, by unfold QB; rw [ht]; exact ⟨hW, trivial⟩⟩, hS.F ht⟩) hS.2.2 dX10_isLetter_17 hlk
set_option maxHeartbeats 4000000 in
set_option maxRecDepth 100000 in
theorem c_X10_withLetter (l : Launch) (g : GP) (ad : Nat → Nat) (n : Nat) (K : Nat → Nat) (sz F : Nat) (S0 : St) (p0 : Int64) (p1 : Int32) (r9 : Int64) (S9 : St) (hf : f_X10_withLetter F S0 p0 p1 = some (r9, S9)) : Met l yX10_withLetter wsX10_withLetter { frames := 0, cells := 0, slots := 0, locals := 0 } (va_Pc [.long (p0), .int p1] (PB g ad n K S0 sz)) (QR (some (.long r9)) (QB g ad n K S9 (dA ad n sz) (True)) (dA ad n sz)) 0 0 (dA ad n sz) := by
  refine Met.ofW (cc := cX10_withLetter) (maxL := 3) (ret := (some .long)) (by decide) rfl ?_
  intro p e s m args below meth c s₁ B hml hv
  obtain ⟨rfl, hsz, hW, hK, hGs⟩ := x_start hv
  subst hsz
  have hx := B.exec
  have hb := B.bytes
  have hr := B.returns
  have hts := atoms_spec (ws := wsX10_withLetter) B.pre
  have hown : s.vm.findClass RX10 = some m.cls := findClass_of_methodNamed B.named
  have hlk := B.notSynchronized
  have hC : Cx g p s m _ c cX10_withLetter RX10 wsX10_withLetter 3 := ⟨hx, hb, hml, hown, hts, hK⟩
  have hA : ∀ q : Nat, s.heap.size ≤ q → dA ad n s.heap.size q := fun q h => Or.inr h
  have hS : va_S (dA ad n s.heap.size) s.heap s.heap [] := va_S.rf
  have hl := lv_entry ([.long (p0), .int p1]) (n := 3) (Nat.le_of_ble_eq_true rfl)
  rw [lg_entry_eq]
  generalize (lg_sl ([.long (p0), .int p1]) ++ List.replicate (3 - (lg_sl ([.long (p0), .int p1])).length) Slot.unset).toArray = ls at hl ⊢
  have hl : lv_has ls 3 [(0, .long (p0)), (2, .int p1)] := hl
  have w_0 := hts (.constantLong RX10 468 (-1)) (by decide +kernel)
  have w_1 := hts (.constantLong RX10 470 (7625597484987)) (by decide +kernel)
  have w_2 := hts (.constantLong RX10 472 (27)) (by decide +kernel)
  have hGE := hGs.2.2.2.1
  have hGM := hGs.2.2.2.2
  unfold f_X10_withLetter at hf
  refine lv_lload_n hx hb dX10_withLetter_0 rfl (lv_at hl 0 rfl) ?_
  refine lv_ldc2 (v := (-1)) hx hb hown w_0 dX10_withLetter_1 ?_
  refine W.lcmp hx hb dX10_withLetter_4 ?_
  refine lv_if_eq (tgt := 16) hx hb dX10_withLetter_5 (by decide) (fun c1 => ?_) (fun c1 => ?_)
  · replace hf := ifT c1 hf
    refine lv_ldc2 (v := (-1)) hx hb hown w_0 dX10_withLetter_16 ?_
    obtain ⟨e1, e2⟩ := so2 hf
    subst e1
    subst e2
    exact W.lret (v := (-1)) hx hb hr (fun t ht hWm => ⟨⟨rfl, by unfold QB; rw [ht]; exact ⟨hW, trivial⟩⟩, hS.F ht⟩) hS.2.2 dX10_withLetter_19 hlk
  · replace hf := ifF c1 hf
    refine lv_lload_n hx hb dX10_withLetter_8 rfl (lv_at hl 0 rfl) ?_
    refine lv_ldc2 (v := (7625597484987)) hx hb hown w_1 dX10_withLetter_9 ?_
    refine W.lcmp hx hb dX10_withLetter_12 ?_
    refine lv_if_lt (tgt := 20) hx hb dX10_withLetter_13 (by decide) (fun c2 => ?_) (fun c2 => ?_)
    · replace hf := ifT c2 hf
      refine lv_lload_n hx hb dX10_withLetter_20 rfl (lv_at hl 0 rfl) ?_
      refine lv_ldc2 (v := (27)) hx hb hown w_2 dX10_withLetter_21 ?_
      refine lv_lmul hx hb dX10_withLetter_24 ?_
      refine lv_iload_n hx hb dX10_withLetter_25 rfl (lv_at hl 1 rfl) ?_
      refine lv_bipush (v := 97) hx hb dX10_withLetter_26 (by decide) ?_
      refine lv_isub hx hb dX10_withLetter_28 ?_
      refine lv_iconst (v := 1) hx hb dX10_withLetter_29 (by decide) ?_
      refine lv_iadd hx hb dX10_withLetter_30 ?_
      refine lv_i2l (v := ((p1 - 97) + 1).toInt64) hx hb dX10_withLetter_31 rfl ?_
      refine lv_ladd hx hb dX10_withLetter_32 ?_
      obtain ⟨e1, e2⟩ := so2 hf
      subst e1
      subst e2
      exact W.lret (v := (p0 * ((27))) + (((p1 - 97) + 1).toInt64)) hx hb hr (fun t ht hWm => ⟨⟨rfl, by unfold QB; rw [ht]; exact ⟨hW, trivial⟩⟩, hS.F ht⟩) hS.2.2 dX10_withLetter_33 hlk
    · replace hf := ifF c2 hf
      refine lv_ldc2 (v := (-1)) hx hb hown w_0 dX10_withLetter_16 ?_
      obtain ⟨e1, e2⟩ := so2 hf
      subst e1
      subst e2
      exact W.lret (v := (-1)) hx hb hr (fun t ht hWm => ⟨⟨rfl, by unfold QB; rw [ht]; exact ⟨hW, trivial⟩⟩, hS.F ht⟩) hS.2.2 dX10_withLetter_19 hlk
set_option maxHeartbeats 4000000 in
set_option maxRecDepth 100000 in
theorem c_X6_readWord (l : Launch) (g : GP) (ad : Nat → Nat) (n : Nat) (K : Nat → Nat) (sz F : Nat) (S0 : St) (p0 : Nat) (tp0 : p0 < n ∧ K p0 = 5) (S9 : St) (hf : f_X6_readWord F S0 p0 = some S9) : Met l yX6_readWord wsX6_readWord { frames := 1, cells := 0, slots := 0, locals := 22 } (va_Pc [.ref (ad p0)] (PB g ad n K S0 sz)) (QR none (QB g ad n K S9 (dA ad n sz) (True)) (dA ad n sz)) 0 0 (dA ad n sz) := by
  refine Met.ofW (cc := cX6_readWord) (maxL := 5) (ret := none) (by decide) rfl ?_
  intro p e s m args below meth c s₁ B hml hv
  obtain ⟨rfl, hsz, hW, hK, hGs⟩ := x_start hv
  subst hsz
  have hx := B.exec
  have hb := B.bytes
  have hr := B.returns
  have hts := atoms_spec (ws := wsX6_readWord) B.pre
  have hown : s.vm.findClass RX6 = some m.cls := findClass_of_methodNamed B.named
  have hlk := B.notSynchronized
  have hC : Cx g p s m _ c cX6_readWord RX6 wsX6_readWord 5 := ⟨hx, hb, hml, hown, hts, hK⟩
  have hA : ∀ q : Nat, s.heap.size ≤ q → dA ad n s.heap.size q := fun q h => Or.inr h
  have hS : va_S (dA ad n s.heap.size) s.heap s.heap [] := va_S.rf
  have hl := lv_entry ([.ref (ad p0)]) (n := 5) (Nat.le_of_ble_eq_true rfl)
  rw [lg_entry_eq]
  generalize (lg_sl ([.ref (ad p0)]) ++ List.replicate (5 - (lg_sl ([.ref (ad p0)])).length) Slot.unset).toArray = ls at hl ⊢
  have hl : lv_has ls 5 [(0, .ref (ad p0))] := hl
  have hinX0 : ∀ w ∈ wsX00, w ∈ wsX6_readWord := by decide +kernel
  have hinX6 : ∀ w ∈ wsX60, w ∈ wsX6_readWord := by decide +kernel
  have w_0 := va_Nw.use (A := (List.toArray [.ref (ad p0)])) rfl (hGs.1 (.fieldLinkNest RX6 243 "MailSpool$Keyword" "word" "J" "MailSpool") (by decide +kernel))
  have w_1 := hts (.fieldLink RX6 190 "MailSpool$Parser" "word" "J") (by decide +kernel)
  have w_2 := hts (.fieldLink RX6 41 "MailSpool$Parser" "keyword" "LMailSpool$Keyword;") (by decide +kernel)
  have w_3 := va_Nw.use (A := (List.toArray [.ref (ad p0)])) rfl (hGs.1 (.fieldLinkNest RX6 239 "MailSpool" "KEYWORDS" "[LMailSpool$Keyword;" "MailSpool") (by decide +kernel))
  have w_4 := hts (.fieldLink RX6 213 "MailSpool$Parser" "position" "I") (by decide +kernel)
  have w_5 := hts (.fieldLink RX6 9 "MailSpool$Parser" "text" "LMailSpool$Bytes;") (by decide +kernel)
  have w_6 := va_Nw.use (A := (List.toArray [.ref (ad p0)])) rfl (hGs.1 (.fieldLinkNest RX6 33 "MailSpool$Bytes" "size" "I" "MailSpool") (by decide +kernel))
  have w_7 := va_Nw.use (A := (List.toArray [.ref (ad p0)])) rfl (hGs.1 (.methodLinkNest RX6 223 yX10_isLetter "MailSpool") (by decide +kernel))
  have w_8 := hts (.initialized RX10) (by decide +kernel)
  have w_9 := hts (.static yX10_isLetter) (by decide +kernel)
  have w_10 := va_Nw.use (A := (List.toArray [.ref (ad p0)])) rfl (hGs.1 (.methodLinkNest RX6 235 yX10_withLetter "MailSpool") (by decide +kernel))
  have w_11 := hts (.static yX10_withLetter) (by decide +kernel)
  have w_12 := hts (.fieldLink RX6 38 "MailSpool$Parser" "kind" "I") (by decide +kernel)
  have hGE := hGs.2.2.2.1
  have hGM := hGs.2.2.2.2
  have L80 : ∀ (fu80 : Nat) (S0 : St) (v0 : Nat) (v2 : Int32) (v3 : Int32) (tv0 : v0 < n ∧ K v0 = 5) (H : Heap) (locs : List Loc) (ls : Array Slot), f_X6_readWord_L80 F fu80 S0 v0 v2 v3 = some S9 → Wb g ad n K S0 (dA ad n s.heap.size) H → va_S (dA ad n s.heap.size) s.heap H locs → lv_has ls 5 [(0, .ref (ad v0)), (1, .ref (gen g 15)), (2, .int v2), (3, .int v3)] → W p l e (headSpec wsX6_readWord { frames := 1, cells := 0, slots := 0, locals := 22 }).room s m (List.toArray [.ref (ad p0)]) below meth c H locs 0 0 (MQ below (QR none (QB g ad n K S9 (dA ad n s.heap.size) (True)) (dA ad n s.heap.size)) (List.toArray [.ref (ad p0)]) s 0 0 (dA ad n s.heap.size)) (F0 m 80 ls []) := by
    intro fu80
    induction fu80 with
    | zero =>
      intro S0 v0 v2 v3 tv0 H locs ls hf
      cases hf
    | succ fu80 ih80 =>
      have L109 : ∀ (S0 : St) (v0 : Nat) (v2 : Int32) (v3 : Int32) (tv0 : v0 < n ∧ K v0 = 5) (H : Heap) (locs : List Loc) (ls : Array Slot), f_X6_readWord_L109 F (fun a0 a1 a2 a3 => f_X6_readWord_L80 F fu80 a0 a1 a2 a3) S0 v0 v2 v3 = some S9 → Wb g ad n K S0 (dA ad n s.heap.size) H → va_S (dA ad n s.heap.size) s.heap H locs → lv_has ls 5 [(0, .ref (ad v0)), (1, .ref (gen g 15)), (2, .int v2), (3, .int v3)] → W p l e (headSpec wsX6_readWord { frames := 1, cells := 0, slots := 0, locals := 22 }).room s m (List.toArray [.ref (ad p0)]) below meth c H locs 0 0 (MQ below (QR none (QB g ad n K S9 (dA ad n s.heap.size) (True)) (dA ad n s.heap.size)) (List.toArray [.ref (ad p0)]) s 0 0 (dA ad n s.heap.size)) (F0 m 109 ls []) := by
        intro S0 v0 v2 v3 tv0 H locs ls hf hW hS hl
        unfold f_X6_readWord_L109 at hf
        obtain ⟨x2, ex2⟩ : ∃ z : Int32, z = v3 + 1 := ⟨_, rfl⟩
        replace hf := ltE hf x2 ex2
        refine lv_iinc (v := x2) (lv' := [(3, .int x2), (0, .ref (ad v0)), (1, .ref (gen g 15)), (2, .int v2)]) hx hb dX6_readWord_109 hl (k := 3) rfl (by rw [ex2]; rfl) (by decide) rfl (fun ls hl => ?_)
        refine lv_goto (tgt := 80) hx hb dX6_readWord_112 (by decide) ?_
        exact ih80 S0 v0 v2 x2 tv0 _ _ _ hf hW hS (lv_sub hl [1, 2, 3, 0] rfl)
      intro S0 v0 v2 v3 tv0 H locs ls hf hW hS hl
      unfold f_X6_readWord_L80 at hf
      refine lv_iload_n hx hb dX6_readWord_80 rfl (lv_at hl 3 rfl) ?_
      refine lv_iload_n hx hb dX6_readWord_81 rfl (lv_at hl 2 rfl) ?_
      refine lv_icmp_ge (tgt := 115) hx hb dX6_readWord_82 (by decide) (fun c7 => ?_) (fun c7 => ?_)
      · replace hf := ifT c7 hf
        have e1 := Option.some.inj hf
        subst e1
        exact W.vret hx hb hr (fun t ht hWm => ⟨⟨rfl, by unfold QB; rw [ht]; exact ⟨hW, trivial⟩⟩, hS.F ht⟩) hS.2.2 dX6_readWord_115 hlk
      · replace hf := ifF c7 hf
        refine lv_aload_n hx hb dX6_readWord_85 rfl (lv_at hl 1 rfl) ?_
        refine lv_iload_n hx hb dX6_readWord_86 rfl (lv_at hl 3 rfl) ?_
        replace hf := ckiE hf
        obtain ⟨h8, hf⟩ := hf
        refine x_aaldK hC hGE hS h8 dX6_readWord_87 ?_
        refine lv_astore (lv' := [(4, .ref (gen g (Int32.toNatClampNeg v3))), (0, .ref (ad v0)), (1, .ref (gen g 15)), (2, .int v2), (3, .int v3)]) hx hb dX6_readWord_88 hl (by decide) rfl (fun ls hl => ?_)
        refine lv_aload hx hb dX6_readWord_90 (lv_at hl 0 rfl) ?_
        refine x_getW hC hGE hS (in15 h8) w_0 dX6_readWord_92 ?_
        refine lv_aload_n hx hb dX6_readWord_95 rfl (lv_at hl 1 rfl) ?_
        refine x_getl 507 (ci := 5) (C := RX6) (T := TX6) (N := 10) 7 hC hinX6 hW tv0 rfl rfl ⟨by decide, by decide, rfl, rfl⟩ rfl w_1 dX6_readWord_96 ?_
        refine W.lcmp hx hb dX6_readWord_99 ?_
        refine lv_if_ne (tgt := 109) hx hb dX6_readWord_100 (by decide) (fun c9 => ?_) (fun c9 => ?_)
        · replace hf := ifT c9 hf
          exact L109 S0 v0 v2 v3 tv0 _ _ _ hf hW hS (lv_sub hl [1, 2, 3, 4] rfl)
        · replace hf := ifF (fun q => q c9) hf
          refine lv_aload_n hx hb dX6_readWord_103 rfl (lv_at hl 1 rfl) ?_
          refine lv_aload hx hb dX6_readWord_104 (lv_at hl 0 rfl) ?_
          refine x_pute (some (Int32.toNatClampNeg v3)) (cl := "MailSpool$Keyword") (ci := 5) (C := RX6) (T := TX6) (N := 10) 8 hC hinX6 tyX6_ok nmX6 hW hS tv0 rfl rfl rfl ⟨by decide, by decide, rfl, rfl⟩ rfl w_2 rfl (by decide +kernel) dX6_readWord_106 (fun S10 H locs eS10 hW hS => ?_)
          replace hf := ltE hf S10 eS10
          exact L109 S10 v0 v2 v3 tv0 _ _ _ hf hW hS (lv_sub hl [1, 2, 3, 4] rfl)
  have L71 : ∀ (S0 : St) (v0 : Nat) (tv0 : v0 < n ∧ K v0 = 5) (H : Heap) (locs : List Loc) (ls : Array Slot), f_X6_readWord_L71 F S0 v0 = some S9 → Wb g ad n K S0 (dA ad n s.heap.size) H → va_S (dA ad n s.heap.size) s.heap H locs → lv_has ls 5 [(0, .ref (ad v0))] → W p l e (headSpec wsX6_readWord { frames := 1, cells := 0, slots := 0, locals := 22 }).room s m (List.toArray [.ref (ad p0)]) below meth c H locs 0 0 (MQ below (QR none (QB g ad n K S9 (dA ad n s.heap.size) (True)) (dA ad n s.heap.size)) (List.toArray [.ref (ad p0)]) s 0 0 (dA ad n s.heap.size)) (F0 m 71 ls []) := by
    intro S0 v0 tv0 H locs ls hf hW hS hl
    unfold f_X6_readWord_L71 at hf
    refine x_getsK hC hGE hS w_3 dX6_readWord_71 ?_
    refine lv_astore_n (lv' := [(1, .ref (gen g 15)), (0, .ref (ad v0))]) hx hb dX6_readWord_74 rfl hl (by decide) rfl (fun ls hl => ?_)
    refine lv_aload_n hx hb dX6_readWord_75 rfl (lv_at hl 0 rfl) ?_
    refine x_lenK hC hGE hS dX6_readWord_76 ?_
    refine lv_istore_n (lv' := [(2, .int 15), (1, .ref (gen g 15)), (0, .ref (ad v0))]) hx hb dX6_readWord_77 rfl hl (by decide) rfl (fun ls hl => ?_)
    refine lv_iconst (v := 0) hx hb dX6_readWord_78 (by decide) ?_
    refine lv_istore_n (lv' := [(3, .int 0), (2, .int 15), (1, .ref (gen g 15)), (0, .ref (ad v0))]) hx hb dX6_readWord_79 rfl hl (by decide) rfl (fun ls hl => ?_)
    exact L80 F S0 v0 15 0 tv0 _ _ _ hf hW hS (lv_sub hl [3, 2, 1, 0] rfl)
  have L5 : ∀ (fu5 : Nat) (S0 : St) (v0 : Nat) (tv0 : v0 < n ∧ K v0 = 5) (H : Heap) (locs : List Loc) (ls : Array Slot), f_X6_readWord_L5 F fu5 S0 v0 = some S9 → Wb g ad n K S0 (dA ad n s.heap.size) H → va_S (dA ad n s.heap.size) s.heap H locs → lv_has ls 5 [(0, .ref (ad v0))] → W p l e (headSpec wsX6_readWord { frames := 1, cells := 0, slots := 0, locals := 22 }).room s m (List.toArray [.ref (ad p0)]) below meth c H locs 0 0 (MQ below (QR none (QB g ad n K S9 (dA ad n s.heap.size) (True)) (dA ad n s.heap.size)) (List.toArray [.ref (ad p0)]) s 0 0 (dA ad n s.heap.size)) (F0 m 5 ls []) := by
    intro fu5
    induction fu5 with
    | zero =>
      intro S0 v0 tv0 H locs ls hf
      cases hf
    | succ fu5 ih5 =>
      intro S0 v0 tv0 H locs ls hf hW hS hl
      unfold f_X6_readWord_L5 at hf
      refine lv_aload_n hx hb dX6_readWord_5 rfl (lv_at hl 0 rfl) ?_
      refine x_geti 504 (ci := 5) (C := RX6) (T := TX6) (N := 10) 4 hC hinX6 hW tv0 rfl rfl ⟨by decide, by decide, rfl, rfl⟩ rfl w_4 dX6_readWord_6 ?_
      refine lv_aload_n hx hb dX6_readWord_9 rfl (lv_at hl 0 rfl) ?_
      replace hf := obE hf
      obtain ⟨j34, qj34, hf⟩ := hf
      have tj34 := x_rt hW qj34 0 ⟨by decide, rfl⟩
      refine x_getr 500 (ci := 5) (C := RX6) (T := TX6) (N := 10) 0 hC hinX6 hW tv0 rfl rfl ⟨by decide, by decide, rfl, rfl⟩ rfl w_5 dX6_readWord_10 qj34 ?_
      refine x_getiN 1 (ci := 0) (C := RX0) (T := TX0) (N := 2) 1 hC hinX0 hW tj34 rfl rfl ⟨by decide, by decide, rfl, rfl⟩ rfl w_6 dX6_readWord_13 ?_
      refine lv_icmp_ge (tgt := 71) hx hb dX6_readWord_16 (by decide) (fun c35 => ?_) (fun c35 => ?_)
      · replace hf := ifT c35 hf
        exact L71 S0 v0 tv0 _ _ _ hf hW hS (lv_sub hl [0] rfl)
      · replace hf := ifF c35 hf
        refine lv_aload_n hx hb dX6_readWord_19 rfl (lv_at hl 0 rfl) ?_
        replace hf := obE hf
        obtain ⟨j36, qj36, hf⟩ := hf
        have tj36 := x_rt hW qj36 0 ⟨by decide, rfl⟩
        refine x_getr 500 (ci := 5) (C := RX6) (T := TX6) (N := 10) 0 hC hinX6 hW tv0 rfl rfl ⟨by decide, by decide, rfl, rfl⟩ rfl w_5 dX6_readWord_20 qj36 ?_
        refine lv_aload_n hx hb dX6_readWord_23 rfl (lv_at hl 0 rfl) ?_
        refine x_geti 504 (ci := 5) (C := RX6) (T := TX6) (N := 10) 4 hC hinX6 hW tv0 rfl rfl ⟨by decide, by decide, rfl, rfl⟩ rfl w_4 dX6_readWord_24 ?_
        replace hf := obE hf
        obtain ⟨z37, hz37, hf⟩ := hf
        obtain ⟨r39, S38⟩ := z37
        replace hf := ltE (ltE hf r39 rfl) S38 rfl
        refine x_callV (As := [.int (si S0 504 v0)]) (rest := []) (o := (some (.int r39))) (S1 := S38) hC hl.1 hW hS hGs hA tj36 rfl (show vwCl[0]? = some (RX0, TX0, 2) ∧ ob 0 from ⟨rfl, by decide⟩) (c_X0_byteAt l g ad n K H.size F S0 j36 (si S0 504 v0) tj36 r39 S38 hz37) (cwV 1 hts gX6_readWord_X0_byteAt rfl rfl rfl (by decide +kernel) ⟨Nat.le_of_ble_eq_true rfl, Nat.le_of_ble_eq_true rfl⟩) rfl rfl (Nat.le_of_ble_eq_true rfl) dX6_readWord_27 ⟨Nat.le_of_ble_eq_true rfl, Nat.le_of_ble_eq_true rfl⟩ (fun H locs hPz37 hW hS => ?_)
        refine W.eq (g2 := F0 m 30 ls [.int r39]) rfl ?_
        replace hf := obE hf
        obtain ⟨z41, hz41, hf⟩ := hf
        obtain ⟨r43, S42⟩ := z41
        replace hf := ltE (ltE hf r43 rfl) S42 rfl
        refine x_callSN (As := [.int r39]) (rest := []) (o := (some (.int r43))) (S1 := S42) hC hl.1 hW hS hGs hA (c_X10_isLetter l g ad n K H.size F S38 r39 r43 S42 hz41) ⟨va_cnB 1 hts gX6_readWord_X10_isLetter_n223 rfl rfl rfl (va_Nw.of rfl w_7) w_8 (by decide +kernel) ⟨Nat.le_of_ble_eq_true rfl, Nat.le_of_ble_eq_true rfl⟩, w_9, trivial⟩ rfl rfl (Nat.le_of_ble_eq_true rfl) dX6_readWord_30 ⟨Nat.le_of_ble_eq_true rfl, Nat.le_of_ble_eq_true rfl⟩ (fun H locs hPz41 hW hS => ?_)
        refine W.eq (g2 := F0 m 33 ls [.int r43]) rfl ?_
        refine lv_if_eq (tgt := 71) hx hb dX6_readWord_33 (by decide) (fun c45 => ?_) (fun c45 => ?_)
        · replace hf := ifT c45 hf
          exact L71 S42 v0 tv0 _ _ _ hf hW hS (lv_sub hl [0] rfl)
        · replace hf := ifF c45 hf
          refine lv_aload_n hx hb dX6_readWord_36 rfl (lv_at hl 0 rfl) ?_
          refine lv_aload_n hx hb dX6_readWord_37 rfl (lv_at hl 0 rfl) ?_
          refine x_getl 507 (ci := 5) (C := RX6) (T := TX6) (N := 10) 7 hC hinX6 hW tv0 rfl rfl ⟨by decide, by decide, rfl, rfl⟩ rfl w_1 dX6_readWord_38 ?_
          refine lv_aload_n hx hb dX6_readWord_41 rfl (lv_at hl 0 rfl) ?_
          replace hf := obE hf
          obtain ⟨j46, qj46, hf⟩ := hf
          have tj46 := x_rt hW qj46 0 ⟨by decide, rfl⟩
          refine x_getr 500 (ci := 5) (C := RX6) (T := TX6) (N := 10) 0 hC hinX6 hW tv0 rfl rfl ⟨by decide, by decide, rfl, rfl⟩ rfl w_5 dX6_readWord_42 qj46 ?_
          refine lv_aload_n hx hb dX6_readWord_45 rfl (lv_at hl 0 rfl) ?_
          refine x_geti 504 (ci := 5) (C := RX6) (T := TX6) (N := 10) 4 hC hinX6 hW tv0 rfl rfl ⟨by decide, by decide, rfl, rfl⟩ rfl w_4 dX6_readWord_46 ?_
          replace hf := obE hf
          obtain ⟨z47, hz47, hf⟩ := hf
          obtain ⟨r49, S48⟩ := z47
          replace hf := ltE (ltE hf r49 rfl) S48 rfl
          refine x_callV (As := [.int (si S42 504 v0)]) (rest := [.long (sl S42 507 v0), .ref (ad v0)]) (o := (some (.int r49))) (S1 := S48) hC hl.1 hW hS hGs hA tj46 rfl (show vwCl[0]? = some (RX0, TX0, 2) ∧ ob 0 from ⟨rfl, by decide⟩) (c_X0_byteAt l g ad n K H.size F S42 j46 (si S42 504 v0) tj46 r49 S48 hz47) (cwV 1 hts gX6_readWord_X0_byteAt rfl rfl rfl (by decide +kernel) ⟨Nat.le_of_ble_eq_true rfl, Nat.le_of_ble_eq_true rfl⟩) rfl rfl (Nat.le_of_ble_eq_true rfl) dX6_readWord_49 ⟨Nat.le_of_ble_eq_true rfl, Nat.le_of_ble_eq_true rfl⟩ (fun H locs hPz47 hW hS => ?_)
          refine W.eq (g2 := F0 m 52 ls [.int r49, .long (sl S42 507 v0), .ref (ad v0)]) rfl ?_
          replace hf := obE hf
          obtain ⟨z51, hz51, hf⟩ := hf
          obtain ⟨r53, S52⟩ := z51
          replace hf := ltE (ltE hf r53 rfl) S52 rfl
          refine x_callSN (As := [.long (sl S42 507 v0), .int r49]) (rest := [.ref (ad v0)]) (o := (some (.long (r53)))) (S1 := S52) hC hl.1 hW hS hGs hA (c_X10_withLetter l g ad n K H.size F S48 (sl S42 507 v0) r49 r53 S52 hz51) ⟨va_cnB 2 hts gX6_readWord_X10_withLetter_n235 rfl rfl rfl (va_Nw.of rfl w_10) w_8 (by decide +kernel) ⟨Nat.le_of_ble_eq_true rfl, Nat.le_of_ble_eq_true rfl⟩, w_11, trivial⟩ rfl rfl (Nat.le_of_ble_eq_true rfl) dX6_readWord_52 ⟨Nat.le_of_ble_eq_true rfl, Nat.le_of_ble_eq_true rfl⟩ (fun H locs hPz51 hW hS => ?_)
          refine W.eq (g2 := F0 m 55 ls [.long (r53), .ref (ad v0)]) rfl ?_
          refine x_putl 507 (ci := 5) (C := RX6) (T := TX6) (N := 10) (v := r53) 7 hC hinX6 tyX6_ok nmX6 hW hS tv0 rfl rfl ⟨by decide, by decide, rfl, rfl⟩ rfl w_1 rfl (by decide +kernel) dX6_readWord_55 (fun S55 H locs eS55 hW hS => ?_)
          replace hf := ltE hf S55 eS55
          refine lv_aload_n hx hb dX6_readWord_58 rfl (lv_at hl 0 rfl) ?_
          refine lv_dup hx hb dX6_readWord_59 rfl ?_
          refine x_geti 504 (ci := 5) (C := RX6) (T := TX6) (N := 10) 4 hC hinX6 hW tv0 rfl rfl ⟨by decide, by decide, rfl, rfl⟩ rfl w_4 dX6_readWord_60 ?_
          refine lv_iconst (v := 1) hx hb dX6_readWord_63 (by decide) ?_
          refine lv_iadd hx hb dX6_readWord_64 ?_
          refine x_puti 504 (ci := 5) (C := RX6) (T := TX6) (N := 10) (v := (si S55 504 v0) + 1) (ty := .int) 4 hC hinX6 tyX6_ok nmX6 hW hS tv0 rfl rfl ⟨by decide, by decide, rfl, rfl⟩ rfl w_4 rfl (by decide +kernel) rfl rfl dX6_readWord_65 (fun S56 H locs eS56 hW hS => ?_)
          replace hf := ltE hf S56 eS56
          refine lv_goto (tgt := 5) hx hb dX6_readWord_68 (by decide) ?_
          exact ih5 S56 v0 tv0 _ _ _ hf hW hS (lv_sub hl [0] rfl)
  unfold f_X6_readWord at hf
  refine lv_aload_n hx hb dX6_readWord_0 rfl (lv_at hl 0 rfl) ?_
  refine lv_iconst (v := 1) hx hb dX6_readWord_1 (by decide) ?_
  refine x_puti 506 (ci := 5) (C := RX6) (T := TX6) (N := 10) (v := 1) (ty := .int) 6 hC hinX6 tyX6_ok nmX6 hW hS tp0 rfl rfl ⟨by decide, by decide, rfl, rfl⟩ rfl w_12 rfl (by decide +kernel) rfl rfl dX6_readWord_2 (fun S57 H locs eS57 hW hS => ?_)
  replace hf := ltE hf S57 eS57
  exact L5 F S57 p0 tp0 _ _ _ hf hW hS (lv_sub hl [0] rfl)
set_option maxHeartbeats 4000000 in
set_option maxRecDepth 100000 in
theorem c_X10_isDigit (l : Launch) (g : GP) (ad : Nat → Nat) (n : Nat) (K : Nat → Nat) (sz F : Nat) (S0 : St) (p0 : Int32) (r9 : Int32) (S9 : St) (hf : f_X10_isDigit F S0 p0 = some (r9, S9)) : Met l yX10_isDigit wsX10_isDigit { frames := 0, cells := 0, slots := 0, locals := 0 } (va_Pc [.int p0] (PB g ad n K S0 sz)) (QR (some (.int r9)) (QB g ad n K S9 (dA ad n sz) (True)) (dA ad n sz)) 0 0 (dA ad n sz) := by
  refine Met.ofW (cc := cX10_isDigit) (maxL := 1) (ret := (some .boolean)) (by decide) rfl ?_
  intro p e s m args below meth c s₁ B hml hv
  obtain ⟨rfl, hsz, hW, hK, hGs⟩ := x_start hv
  subst hsz
  have hx := B.exec
  have hb := B.bytes
  have hr := B.returns
  have hts := atoms_spec (ws := wsX10_isDigit) B.pre
  have hown : s.vm.findClass RX10 = some m.cls := findClass_of_methodNamed B.named
  have hlk := B.notSynchronized
  have hC : Cx g p s m _ c cX10_isDigit RX10 wsX10_isDigit 1 := ⟨hx, hb, hml, hown, hts, hK⟩
  have hA : ∀ q : Nat, s.heap.size ≤ q → dA ad n s.heap.size q := fun q h => Or.inr h
  have hS : va_S (dA ad n s.heap.size) s.heap s.heap [] := va_S.rf
  have hl := lv_entry ([.int p0]) (n := 1) (Nat.le_of_ble_eq_true rfl)
  rw [lg_entry_eq]
  generalize (lg_sl ([.int p0]) ++ List.replicate (1 - (lg_sl ([.int p0])).length) Slot.unset).toArray = ls at hl ⊢
  have hl : lv_has ls 1 [(0, .int p0)] := hl
  have hGE := hGs.2.2.2.1
  have hGM := hGs.2.2.2.2
  unfold f_X10_isDigit at hf
  refine lv_iload_n hx hb dX10_isDigit_0 rfl (lv_at hl 0 rfl) ?_
  refine lv_bipush (v := 48) hx hb dX10_isDigit_1 (by decide) ?_
  refine lv_icmp_lt (tgt := 16) hx hb dX10_isDigit_3 (by decide) (fun c1 => ?_) (fun c1 => ?_)
  · replace hf := ifT c1 hf
    refine lv_iconst (v := 0) hx hb dX10_isDigit_16 (by decide) ?_
    obtain ⟨e1, e2⟩ := so2 hf
    subst e1
    subst e2
    exact W.zret (v := 0) hx hb hr rfl (fun t ht hWm => ⟨⟨rfl, by unfold QB; rw [ht]; exact ⟨hW, trivial⟩⟩, hS.F ht⟩) hS.2.2 dX10_isDigit_17 hlk
  · replace hf := ifF c1 hf
    refine lv_iload_n hx hb dX10_isDigit_6 rfl (lv_at hl 0 rfl) ?_
    refine lv_bipush (v := 57) hx hb dX10_isDigit_7 (by decide) ?_
    refine lv_icmp_gt (tgt := 16) hx hb dX10_isDigit_9 (by decide) (fun c2 => ?_) (fun c2 => ?_)
    · replace hf := ifT c2 hf
      refine lv_iconst (v := 0) hx hb dX10_isDigit_16 (by decide) ?_
      obtain ⟨e1, e2⟩ := so2 hf
      subst e1
      subst e2
      exact W.zret (v := 0) hx hb hr rfl (fun t ht hWm => ⟨⟨rfl, by unfold QB; rw [ht]; exact ⟨hW, trivial⟩⟩, hS.F ht⟩) hS.2.2 dX10_isDigit_17 hlk
    · replace hf := ifF c2 hf
      refine lv_iconst (v := 1) hx hb dX10_isDigit_12 (by decide) ?_
      refine lv_goto (tgt := 17) hx hb dX10_isDigit_13 (by decide) ?_
      obtain ⟨e1, e2⟩ := so2 hf
      subst e1
      subst e2
      exact W.zret (v := 1) hx hb hr rfl (fun t ht hWm => ⟨⟨rfl, by unfold QB; rw [ht]; exact ⟨hW, trivial⟩⟩, hS.F ht⟩) hS.2.2 dX10_isDigit_17 hlk
set_option maxHeartbeats 4000000 in
set_option maxRecDepth 100000 in
theorem c_X6_readNumber (l : Launch) (g : GP) (ad : Nat → Nat) (n : Nat) (K : Nat → Nat) (sz F : Nat) (S0 : St) (p0 : Nat) (tp0 : p0 < n ∧ K p0 = 5) (S9 : St) (hf : f_X6_readNumber F S0 p0 = some S9) : Met l yX6_readNumber wsX6_readNumber { frames := 1, cells := 0, slots := 0, locals := 21 } (va_Pc [.ref (ad p0)] (PB g ad n K S0 sz)) (QR none (QB g ad n K S9 (dA ad n sz) (True)) (dA ad n sz)) 0 0 (dA ad n sz) := by
  refine Met.ofW (cc := cX6_readNumber) (maxL := 1) (ret := none) (by decide) rfl ?_
  intro p e s m args below meth c s₁ B hml hv
  obtain ⟨rfl, hsz, hW, hK, hGs⟩ := x_start hv
  subst hsz
  have hx := B.exec
  have hb := B.bytes
  have hr := B.returns
  have hts := atoms_spec (ws := wsX6_readNumber) B.pre
  have hown : s.vm.findClass RX6 = some m.cls := findClass_of_methodNamed B.named
  have hlk := B.notSynchronized
  have hC : Cx g p s m _ c cX6_readNumber RX6 wsX6_readNumber 1 := ⟨hx, hb, hml, hown, hts, hK⟩
  have hA : ∀ q : Nat, s.heap.size ≤ q → dA ad n s.heap.size q := fun q h => Or.inr h
  have hS : va_S (dA ad n s.heap.size) s.heap s.heap [] := va_S.rf
  have hl := lv_entry ([.ref (ad p0)]) (n := 1) (Nat.le_of_ble_eq_true rfl)
  rw [lg_entry_eq]
  generalize (lg_sl ([.ref (ad p0)]) ++ List.replicate (1 - (lg_sl ([.ref (ad p0)])).length) Slot.unset).toArray = ls at hl ⊢
  have hl : lv_has ls 1 [(0, .ref (ad p0))] := hl
  have hinX0 : ∀ w ∈ wsX00, w ∈ wsX6_readNumber := by decide +kernel
  have hinX6 : ∀ w ∈ wsX60, w ∈ wsX6_readNumber := by decide +kernel
  have w_0 := hts (.fieldLink RX6 213 "MailSpool$Parser" "position" "I") (by decide +kernel)
  have w_1 := hts (.fieldLink RX6 9 "MailSpool$Parser" "text" "LMailSpool$Bytes;") (by decide +kernel)
  have w_2 := va_Nw.use (A := (List.toArray [.ref (ad p0)])) rfl (hGs.1 (.fieldLinkNest RX6 33 "MailSpool$Bytes" "size" "I" "MailSpool") (by decide +kernel))
  have w_3 := va_Nw.use (A := (List.toArray [.ref (ad p0)])) rfl (hGs.1 (.methodLinkNest RX6 229 yX10_isDigit "MailSpool") (by decide +kernel))
  have w_4 := hts (.initialized RX10) (by decide +kernel)
  have w_5 := hts (.static yX10_isDigit) (by decide +kernel)
  have w_6 := hts (.constant RX6 244 (10000000)) (by decide +kernel)
  have w_7 := hts (.fieldLink RX6 187 "MailSpool$Parser" "value" "I") (by decide +kernel)
  have w_8 := hts (.methodLink RX6 245 Lib.Math.min.name) (by decide +kernel)
  have w_9 := hts (.static Lib.Math.min.name) (by decide +kernel)
  have w_10 := hts (.initialized "java/lang/Math") (by decide +kernel)
  have w_11 := hts (.code Lib.Math.min.name Lib.Math.min.code 2 (some .int)) (by decide +kernel)
  have w_12 := hts (.fieldLink RX6 38 "MailSpool$Parser" "kind" "I") (by decide +kernel)
  have hGE := hGs.2.2.2.1
  have hGM := hGs.2.2.2.2
  have L5 : ∀ (fu5 : Nat) (S0 : St) (v0 : Nat) (tv0 : v0 < n ∧ K v0 = 5) (H : Heap) (locs : List Loc) (ls : Array Slot), f_X6_readNumber_L5 F fu5 S0 v0 = some S9 → Wb g ad n K S0 (dA ad n s.heap.size) H → va_S (dA ad n s.heap.size) s.heap H locs → lv_has ls 1 [(0, .ref (ad v0))] → W p l e (headSpec wsX6_readNumber { frames := 1, cells := 0, slots := 0, locals := 21 }).room s m (List.toArray [.ref (ad p0)]) below meth c H locs 0 0 (MQ below (QR none (QB g ad n K S9 (dA ad n s.heap.size) (True)) (dA ad n s.heap.size)) (List.toArray [.ref (ad p0)]) s 0 0 (dA ad n s.heap.size)) (F0 m 5 ls []) := by
    intro fu5
    induction fu5 with
    | zero =>
      intro S0 v0 tv0 H locs ls hf
      cases hf
    | succ fu5 ih5 =>
      intro S0 v0 tv0 H locs ls hf hW hS hl
      unfold f_X6_readNumber_L5 at hf
      refine lv_aload_n hx hb dX6_readNumber_5 rfl (lv_at hl 0 rfl) ?_
      refine x_geti 504 (ci := 5) (C := RX6) (T := TX6) (N := 10) 4 hC hinX6 hW tv0 rfl rfl ⟨by decide, by decide, rfl, rfl⟩ rfl w_0 dX6_readNumber_6 ?_
      refine lv_aload_n hx hb dX6_readNumber_9 rfl (lv_at hl 0 rfl) ?_
      replace hf := obE hf
      obtain ⟨j20, qj20, hf⟩ := hf
      have tj20 := x_rt hW qj20 0 ⟨by decide, rfl⟩
      refine x_getr 500 (ci := 5) (C := RX6) (T := TX6) (N := 10) 0 hC hinX6 hW tv0 rfl rfl ⟨by decide, by decide, rfl, rfl⟩ rfl w_1 dX6_readNumber_10 qj20 ?_
      refine x_getiN 1 (ci := 0) (C := RX0) (T := TX0) (N := 2) 1 hC hinX0 hW tj20 rfl rfl ⟨by decide, by decide, rfl, rfl⟩ rfl w_2 dX6_readNumber_13 ?_
      refine lv_icmp_ge (tgt := 80) hx hb dX6_readNumber_16 (by decide) (fun c21 => ?_) (fun c21 => ?_)
      · replace hf := ifT c21 hf
        have e1 := Option.some.inj hf
        subst e1
        exact W.vret hx hb hr (fun t ht hWm => ⟨⟨rfl, by unfold QB; rw [ht]; exact ⟨hW, trivial⟩⟩, hS.F ht⟩) hS.2.2 dX6_readNumber_80 hlk
      · replace hf := ifF c21 hf
        refine lv_aload_n hx hb dX6_readNumber_19 rfl (lv_at hl 0 rfl) ?_
        replace hf := obE hf
        obtain ⟨j22, qj22, hf⟩ := hf
        have tj22 := x_rt hW qj22 0 ⟨by decide, rfl⟩
        refine x_getr 500 (ci := 5) (C := RX6) (T := TX6) (N := 10) 0 hC hinX6 hW tv0 rfl rfl ⟨by decide, by decide, rfl, rfl⟩ rfl w_1 dX6_readNumber_20 qj22 ?_
        refine lv_aload_n hx hb dX6_readNumber_23 rfl (lv_at hl 0 rfl) ?_
        refine x_geti 504 (ci := 5) (C := RX6) (T := TX6) (N := 10) 4 hC hinX6 hW tv0 rfl rfl ⟨by decide, by decide, rfl, rfl⟩ rfl w_0 dX6_readNumber_24 ?_
        replace hf := obE hf
        obtain ⟨z23, hz23, hf⟩ := hf
        obtain ⟨r25, S24⟩ := z23
        replace hf := ltE (ltE hf r25 rfl) S24 rfl
        refine x_callV (As := [.int (si S0 504 v0)]) (rest := []) (o := (some (.int r25))) (S1 := S24) hC hl.1 hW hS hGs hA tj22 rfl (show vwCl[0]? = some (RX0, TX0, 2) ∧ ob 0 from ⟨rfl, by decide⟩) (c_X0_byteAt l g ad n K H.size F S0 j22 (si S0 504 v0) tj22 r25 S24 hz23) (cwV 1 hts gX6_readNumber_X0_byteAt rfl rfl rfl (by decide +kernel) ⟨Nat.le_of_ble_eq_true rfl, Nat.le_of_ble_eq_true rfl⟩) rfl rfl (Nat.le_of_ble_eq_true rfl) dX6_readNumber_27 ⟨Nat.le_of_ble_eq_true rfl, Nat.le_of_ble_eq_true rfl⟩ (fun H locs hPz23 hW hS => ?_)
        refine W.eq (g2 := F0 m 30 ls [.int r25]) rfl ?_
        replace hf := obE hf
        obtain ⟨z27, hz27, hf⟩ := hf
        obtain ⟨r29, S28⟩ := z27
        replace hf := ltE (ltE hf r29 rfl) S28 rfl
        refine x_callSN (As := [.int r25]) (rest := []) (o := (some (.int r29))) (S1 := S28) hC hl.1 hW hS hGs hA (c_X10_isDigit l g ad n K H.size F S24 r25 r29 S28 hz27) ⟨va_cnB 1 hts gX6_readNumber_X10_isDigit_n229 rfl rfl rfl (va_Nw.of rfl w_3) w_4 (by decide +kernel) ⟨Nat.le_of_ble_eq_true rfl, Nat.le_of_ble_eq_true rfl⟩, w_5, trivial⟩ rfl rfl (Nat.le_of_ble_eq_true rfl) dX6_readNumber_30 ⟨Nat.le_of_ble_eq_true rfl, Nat.le_of_ble_eq_true rfl⟩ (fun H locs hPz27 hW hS => ?_)
        refine W.eq (g2 := F0 m 33 ls [.int r29]) rfl ?_
        refine lv_if_eq (tgt := 80) hx hb dX6_readNumber_33 (by decide) (fun c31 => ?_) (fun c31 => ?_)
        · replace hf := ifT c31 hf
          have e1 := Option.some.inj hf
          subst e1
          exact W.vret hx hb hr (fun t ht hWm => ⟨⟨rfl, by unfold QB; rw [ht]; exact ⟨hW, trivial⟩⟩, hS.F ht⟩) hS.2.2 dX6_readNumber_80 hlk
        · replace hf := ifF c31 hf
          refine lv_aload_n hx hb dX6_readNumber_36 rfl (lv_at hl 0 rfl) ?_
          refine lv_ldc (v := 10000000) hx hb hown w_6 dX6_readNumber_37 ?_
          refine lv_aload_n hx hb dX6_readNumber_39 rfl (lv_at hl 0 rfl) ?_
          refine x_geti 509 (ci := 5) (C := RX6) (T := TX6) (N := 10) 9 hC hinX6 hW tv0 rfl rfl ⟨by decide, by decide, rfl, rfl⟩ rfl w_7 dX6_readNumber_40 ?_
          refine lv_bipush (v := 10) hx hb dX6_readNumber_43 (by decide) ?_
          refine lv_imul hx hb dX6_readNumber_45 ?_
          refine lv_aload_n hx hb dX6_readNumber_46 rfl (lv_at hl 0 rfl) ?_
          replace hf := obE hf
          obtain ⟨j32, qj32, hf⟩ := hf
          have tj32 := x_rt hW qj32 0 ⟨by decide, rfl⟩
          refine x_getr 500 (ci := 5) (C := RX6) (T := TX6) (N := 10) 0 hC hinX6 hW tv0 rfl rfl ⟨by decide, by decide, rfl, rfl⟩ rfl w_1 dX6_readNumber_47 qj32 ?_
          refine lv_aload_n hx hb dX6_readNumber_50 rfl (lv_at hl 0 rfl) ?_
          refine x_geti 504 (ci := 5) (C := RX6) (T := TX6) (N := 10) 4 hC hinX6 hW tv0 rfl rfl ⟨by decide, by decide, rfl, rfl⟩ rfl w_0 dX6_readNumber_51 ?_
          replace hf := obE hf
          obtain ⟨z33, hz33, hf⟩ := hf
          obtain ⟨r35, S34⟩ := z33
          replace hf := ltE (ltE hf r35 rfl) S34 rfl
          refine x_callV (As := [.int (si S28 504 v0)]) (rest := [.int ((si S28 509 v0) * 10), .int 10000000, .ref (ad v0)]) (o := (some (.int r35))) (S1 := S34) hC hl.1 hW hS hGs hA tj32 rfl (show vwCl[0]? = some (RX0, TX0, 2) ∧ ob 0 from ⟨rfl, by decide⟩) (c_X0_byteAt l g ad n K H.size F S28 j32 (si S28 504 v0) tj32 r35 S34 hz33) (cwV 1 hts gX6_readNumber_X0_byteAt rfl rfl rfl (by decide +kernel) ⟨Nat.le_of_ble_eq_true rfl, Nat.le_of_ble_eq_true rfl⟩) rfl rfl (Nat.le_of_ble_eq_true rfl) dX6_readNumber_54 ⟨Nat.le_of_ble_eq_true rfl, Nat.le_of_ble_eq_true rfl⟩ (fun H locs hPz33 hW hS => ?_)
          refine W.eq (g2 := F0 m 57 ls [.int r35, .int ((si S28 509 v0) * 10), .int 10000000, .ref (ad v0)]) rfl ?_
          refine lv_bipush (v := 48) hx hb dX6_readNumber_57 (by decide) ?_
          refine lv_isub hx hb dX6_readNumber_59 ?_
          refine lv_iadd hx hb dX6_readNumber_60 ?_
          refine va_mmin hx hb (hml.trans hl.1.symm) hown w_8 w_9 w_10 w_11 (by exact Nat.le_of_ble_eq_true rfl) (by exact Nat.le_of_ble_eq_true rfl) (by first | exact Nat.zero_le _ | exact Nat.le_of_ble_eq_true rfl) (by first | exact Nat.zero_le _ | exact Nat.le_of_ble_eq_true rfl) dX6_readNumber_61 ?_
          refine x_puti 509 (ci := 5) (C := RX6) (T := TX6) (N := 10) (v := if (((si S28 509 v0) * 10) + (r35 - 48)) < (10000000 : Int32) then (((si S28 509 v0) * 10) + (r35 - 48)) else (10000000 : Int32)) (ty := .int) 9 hC hinX6 tyX6_ok nmX6 hW hS tv0 rfl rfl ⟨by decide, by decide, rfl, rfl⟩ rfl w_7 rfl (by decide +kernel) rfl rfl dX6_readNumber_64 (fun S37 H locs eS37 hW hS => ?_)
          replace hf := ltE hf S37 eS37
          refine lv_aload_n hx hb dX6_readNumber_67 rfl (lv_at hl 0 rfl) ?_
          refine lv_dup hx hb dX6_readNumber_68 rfl ?_
          refine x_geti 504 (ci := 5) (C := RX6) (T := TX6) (N := 10) 4 hC hinX6 hW tv0 rfl rfl ⟨by decide, by decide, rfl, rfl⟩ rfl w_0 dX6_readNumber_69 ?_
          refine lv_iconst (v := 1) hx hb dX6_readNumber_72 (by decide) ?_
          refine lv_iadd hx hb dX6_readNumber_73 ?_
          refine x_puti 504 (ci := 5) (C := RX6) (T := TX6) (N := 10) (v := (si S37 504 v0) + 1) (ty := .int) 4 hC hinX6 tyX6_ok nmX6 hW hS tv0 rfl rfl ⟨by decide, by decide, rfl, rfl⟩ rfl w_0 rfl (by decide +kernel) rfl rfl dX6_readNumber_74 (fun S38 H locs eS38 hW hS => ?_)
          replace hf := ltE hf S38 eS38
          refine lv_goto (tgt := 5) hx hb dX6_readNumber_77 (by decide) ?_
          exact ih5 S38 v0 tv0 _ _ _ hf hW hS (lv_sub hl [0] rfl)
  unfold f_X6_readNumber at hf
  refine lv_aload_n hx hb dX6_readNumber_0 rfl (lv_at hl 0 rfl) ?_
  refine lv_iconst (v := 2) hx hb dX6_readNumber_1 (by decide) ?_
  refine x_puti 506 (ci := 5) (C := RX6) (T := TX6) (N := 10) (v := 2) (ty := .int) 6 hC hinX6 tyX6_ok nmX6 hW hS tp0 rfl rfl ⟨by decide, by decide, rfl, rfl⟩ rfl w_12 rfl (by decide +kernel) rfl rfl dX6_readNumber_2 (fun S39 H locs eS39 hW hS => ?_)
  replace hf := ltE hf S39 eS39
  exact L5 F S39 p0 tp0 _ _ _ hf hW hS (lv_sub hl [0] rfl)
set_option maxHeartbeats 4000000 in
set_option maxRecDepth 100000 in
theorem c_X6_nextToken (l : Launch) (g : GP) (ad : Nat → Nat) (n : Nat) (K : Nat → Nat) (sz F : Nat) (S0 : St) (p0 : Nat) (tp0 : p0 < n ∧ K p0 = 5) (S9 : St) (hf : f_X6_nextToken F S0 p0 = some S9) : Met l yX6_nextToken wsX6_nextToken { frames := 2, cells := 0, slots := 0, locals := 46 } (va_Pc [.ref (ad p0)] (PB g ad n K S0 sz)) (QR none (QB g ad n K S9 (dA ad n sz) (True)) (dA ad n sz)) 0 0 (dA ad n sz) := by
  refine Met.ofW (cc := cX6_nextToken) (maxL := 2) (ret := none) (by decide) rfl ?_
  intro p e s m args below meth c s₁ B hml hv
  obtain ⟨rfl, hsz, hW, hK, hGs⟩ := x_start hv
  subst hsz
  have hx := B.exec
  have hb := B.bytes
  have hr := B.returns
  have hts := atoms_spec (ws := wsX6_nextToken) B.pre
  have hown : s.vm.findClass RX6 = some m.cls := findClass_of_methodNamed B.named
  have hlk := B.notSynchronized
  have hC : Cx g p s m _ c cX6_nextToken RX6 wsX6_nextToken 2 := ⟨hx, hb, hml, hown, hts, hK⟩
  have hA : ∀ q : Nat, s.heap.size ≤ q → dA ad n s.heap.size q := fun q h => Or.inr h
  have hS : va_S (dA ad n s.heap.size) s.heap s.heap [] := va_S.rf
  have hl := lv_entry ([.ref (ad p0)]) (n := 2) (Nat.le_of_ble_eq_true rfl)
  rw [lg_entry_eq]
  generalize (lg_sl ([.ref (ad p0)]) ++ List.replicate (2 - (lg_sl ([.ref (ad p0)])).length) Slot.unset).toArray = ls at hl ⊢
  have hl : lv_has ls 2 [(0, .ref (ad p0))] := hl
  have hinX0 : ∀ w ∈ wsX00, w ∈ wsX6_nextToken := by decide +kernel
  have hinX6 : ∀ w ∈ wsX60, w ∈ wsX6_nextToken := by decide +kernel
  have w_0 := hts (.fieldLink RX6 213 "MailSpool$Parser" "position" "I") (by decide +kernel)
  have w_1 := hts (.fieldLink RX6 184 "MailSpool$Parser" "start" "I") (by decide +kernel)
  have w_2 := hts (.fieldLink RX6 41 "MailSpool$Parser" "keyword" "LMailSpool$Keyword;") (by decide +kernel)
  have w_3 := hts (.fieldLink RX6 190 "MailSpool$Parser" "word" "J") (by decide +kernel)
  have w_4 := hts (.fieldLink RX6 187 "MailSpool$Parser" "value" "I") (by decide +kernel)
  have w_5 := hts (.fieldLink RX6 9 "MailSpool$Parser" "text" "LMailSpool$Bytes;") (by decide +kernel)
  have w_6 := va_Nw.use (A := (List.toArray [.ref (ad p0)])) rfl (hGs.1 (.fieldLinkNest RX6 33 "MailSpool$Bytes" "size" "I" "MailSpool") (by decide +kernel))
  have w_7 := va_Nw.use (A := (List.toArray [.ref (ad p0)])) rfl (hGs.1 (.methodLinkNest RX6 223 yX10_isLetter "MailSpool") (by decide +kernel))
  have w_8 := hts (.initialized RX10) (by decide +kernel)
  have w_9 := hts (.static yX10_isLetter) (by decide +kernel)
  have w_10 := va_Nw.use (A := (List.toArray [.ref (ad p0)])) rfl (hGs.1 (.methodLinkNest RX6 229 yX10_isDigit "MailSpool") (by decide +kernel))
  have w_11 := hts (.static yX10_isDigit) (by decide +kernel)
  have w_12 := hts (.fieldLink RX6 38 "MailSpool$Parser" "kind" "I") (by decide +kernel)
  have hGE := hGs.2.2.2.1
  have hGM := hGs.2.2.2.2
  have L44 : ∀ (S0 : St) (v0 : Nat) (tv0 : v0 < n ∧ K v0 = 5) (H : Heap) (locs : List Loc) (ls : Array Slot), f_X6_nextToken_L44 F S0 v0 = some S9 → Wb g ad n K S0 (dA ad n s.heap.size) H → va_S (dA ad n s.heap.size) s.heap H locs → lv_has ls 2 [(0, .ref (ad v0))] → W p l e (headSpec wsX6_nextToken { frames := 2, cells := 0, slots := 0, locals := 46 }).room s m (List.toArray [.ref (ad p0)]) below meth c H locs 0 0 (MQ below (QR none (QB g ad n K S9 (dA ad n s.heap.size) (True)) (dA ad n s.heap.size)) (List.toArray [.ref (ad p0)]) s 0 0 (dA ad n s.heap.size)) (F0 m 44 ls []) := by
    intro S0 v0 tv0 H locs ls hf hW hS hl
    unfold f_X6_nextToken_L44 at hf
    refine lv_aload_n hx hb dX6_nextToken_44 rfl (lv_at hl 0 rfl) ?_
    refine lv_aload_n hx hb dX6_nextToken_45 rfl (lv_at hl 0 rfl) ?_
    refine x_geti 504 (ci := 5) (C := RX6) (T := TX6) (N := 10) 4 hC hinX6 hW tv0 rfl rfl ⟨by decide, by decide, rfl, rfl⟩ rfl w_0 dX6_nextToken_46 ?_
    refine x_puti 505 (ci := 5) (C := RX6) (T := TX6) (N := 10) (v := si S0 504 v0) (ty := .int) 5 hC hinX6 tyX6_ok nmX6 hW hS tv0 rfl rfl ⟨by decide, by decide, rfl, rfl⟩ rfl w_1 rfl (by decide +kernel) rfl rfl dX6_nextToken_49 (fun S34 H locs eS34 hW hS => ?_)
    replace hf := ltE hf S34 eS34
    refine lv_aload_n hx hb dX6_nextToken_52 rfl (lv_at hl 0 rfl) ?_
    refine lv_null hx hb dX6_nextToken_53 ?_
    refine x_pute none (cl := "MailSpool$Keyword") (ci := 5) (C := RX6) (T := TX6) (N := 10) 8 hC hinX6 tyX6_ok nmX6 hW hS tv0 rfl rfl rfl ⟨by decide, by decide, rfl, rfl⟩ rfl w_2 rfl (by decide +kernel) dX6_nextToken_54 (fun S35 H locs eS35 hW hS => ?_)
    replace hf := ltE hf S35 eS35
    refine lv_aload_n hx hb dX6_nextToken_57 rfl (lv_at hl 0 rfl) ?_
    refine lv_lconst (v := 0) hx hb dX6_nextToken_58 (by decide) ?_
    refine x_putl 507 (ci := 5) (C := RX6) (T := TX6) (N := 10) (v := 0) 7 hC hinX6 tyX6_ok nmX6 hW hS tv0 rfl rfl ⟨by decide, by decide, rfl, rfl⟩ rfl w_3 rfl (by decide +kernel) dX6_nextToken_59 (fun S36 H locs eS36 hW hS => ?_)
    replace hf := ltE hf S36 eS36
    refine lv_aload_n hx hb dX6_nextToken_62 rfl (lv_at hl 0 rfl) ?_
    refine lv_iconst (v := 0) hx hb dX6_nextToken_63 (by decide) ?_
    refine x_puti 509 (ci := 5) (C := RX6) (T := TX6) (N := 10) (v := 0) (ty := .int) 9 hC hinX6 tyX6_ok nmX6 hW hS tv0 rfl rfl ⟨by decide, by decide, rfl, rfl⟩ rfl w_4 rfl (by decide +kernel) rfl rfl dX6_nextToken_64 (fun S37 H locs eS37 hW hS => ?_)
    replace hf := ltE hf S37 eS37
    refine lv_aload_n hx hb dX6_nextToken_67 rfl (lv_at hl 0 rfl) ?_
    replace hf := obE hf
    obtain ⟨j38, qj38, hf⟩ := hf
    have tj38 := x_rt hW qj38 0 ⟨by decide, rfl⟩
    refine x_getr 500 (ci := 5) (C := RX6) (T := TX6) (N := 10) 0 hC hinX6 hW tv0 rfl rfl ⟨by decide, by decide, rfl, rfl⟩ rfl w_5 dX6_nextToken_68 qj38 ?_
    refine lv_aload_n hx hb dX6_nextToken_71 rfl (lv_at hl 0 rfl) ?_
    refine x_geti 504 (ci := 5) (C := RX6) (T := TX6) (N := 10) 4 hC hinX6 hW tv0 rfl rfl ⟨by decide, by decide, rfl, rfl⟩ rfl w_0 dX6_nextToken_72 ?_
    replace hf := obE hf
    obtain ⟨z39, hz39, hf⟩ := hf
    obtain ⟨r41, S40⟩ := z39
    replace hf := ltE (ltE hf r41 rfl) S40 rfl
    refine x_callV (As := [.int (si S37 504 v0)]) (rest := []) (o := (some (.int r41))) (S1 := S40) hC hl.1 hW hS hGs hA tj38 rfl (show vwCl[0]? = some (RX0, TX0, 2) ∧ ob 0 from ⟨rfl, by decide⟩) (c_X0_byteAt l g ad n K H.size F S37 j38 (si S37 504 v0) tj38 r41 S40 hz39) (cwV 1 hts gX6_nextToken_X0_byteAt rfl rfl rfl (by decide +kernel) ⟨Nat.le_of_ble_eq_true rfl, Nat.le_of_ble_eq_true rfl⟩) rfl rfl (Nat.le_of_ble_eq_true rfl) dX6_nextToken_75 ⟨Nat.le_of_ble_eq_true rfl, Nat.le_of_ble_eq_true rfl⟩ (fun H locs hPz39 hW hS => ?_)
    refine W.eq (g2 := F0 m 78 ls [.int r41]) rfl ?_
    refine lv_istore_n (lv' := [(1, .int r41), (0, .ref (ad v0))]) hx hb dX6_nextToken_78 rfl hl (by decide) rfl (fun ls hl => ?_)
    refine lv_aload_n hx hb dX6_nextToken_79 rfl (lv_at hl 1 rfl) ?_
    refine x_geti 504 (ci := 5) (C := RX6) (T := TX6) (N := 10) 4 hC hinX6 hW tv0 rfl rfl ⟨by decide, by decide, rfl, rfl⟩ rfl w_0 dX6_nextToken_80 ?_
    refine lv_aload_n hx hb dX6_nextToken_83 rfl (lv_at hl 1 rfl) ?_
    replace hf := obE hf
    obtain ⟨j43, qj43, hf⟩ := hf
    have tj43 := x_rt hW qj43 0 ⟨by decide, rfl⟩
    refine x_getr 500 (ci := 5) (C := RX6) (T := TX6) (N := 10) 0 hC hinX6 hW tv0 rfl rfl ⟨by decide, by decide, rfl, rfl⟩ rfl w_5 dX6_nextToken_84 qj43 ?_
    refine x_getiN 1 (ci := 0) (C := RX0) (T := TX0) (N := 2) 1 hC hinX0 hW tj43 rfl rfl ⟨by decide, by decide, rfl, rfl⟩ rfl w_6 dX6_nextToken_87 ?_
    refine lv_icmp_lt (tgt := 101) hx hb dX6_nextToken_90 (by decide) (fun c44 => ?_) (fun c44 => ?_)
    · replace hf := ifT c44 hf
      refine lv_iload_n hx hb dX6_nextToken_101 rfl (lv_at hl 0 rfl) ?_
      replace hf := obE hf
      obtain ⟨z45, hz45, hf⟩ := hf
      obtain ⟨r47, S46⟩ := z45
      replace hf := ltE (ltE hf r47 rfl) S46 rfl
      refine x_callSN (As := [.int r41]) (rest := []) (o := (some (.int r47))) (S1 := S46) hC hl.1 hW hS hGs hA (c_X10_isLetter l g ad n K H.size F S40 r41 r47 S46 hz45) ⟨va_cnB 1 hts gX6_nextToken_X10_isLetter_n223 rfl rfl rfl (va_Nw.of rfl w_7) w_8 (by decide +kernel) ⟨Nat.le_of_ble_eq_true rfl, Nat.le_of_ble_eq_true rfl⟩, w_9, trivial⟩ rfl rfl (Nat.le_of_ble_eq_true rfl) dX6_nextToken_102 ⟨Nat.le_of_ble_eq_true rfl, Nat.le_of_ble_eq_true rfl⟩ (fun H locs hPz45 hW hS => ?_)
      refine W.eq (g2 := F0 m 105 ls [.int r47]) rfl ?_
      refine lv_if_eq (tgt := 115) hx hb dX6_nextToken_105 (by decide) (fun c49 => ?_) (fun c49 => ?_)
      · replace hf := ifT c49 hf
        refine lv_iload_n hx hb dX6_nextToken_115 rfl (lv_at hl 0 rfl) ?_
        replace hf := obE hf
        obtain ⟨z50, hz50, hf⟩ := hf
        obtain ⟨r52, S51⟩ := z50
        replace hf := ltE (ltE hf r52 rfl) S51 rfl
        refine x_callSN (As := [.int r41]) (rest := []) (o := (some (.int r52))) (S1 := S51) hC hl.1 hW hS hGs hA (c_X10_isDigit l g ad n K H.size F S46 r41 r52 S51 hz50) ⟨va_cnB 1 hts gX6_nextToken_X10_isDigit_n229 rfl rfl rfl (va_Nw.of rfl w_10) w_8 (by decide +kernel) ⟨Nat.le_of_ble_eq_true rfl, Nat.le_of_ble_eq_true rfl⟩, w_11, trivial⟩ rfl rfl (Nat.le_of_ble_eq_true rfl) dX6_nextToken_116 ⟨Nat.le_of_ble_eq_true rfl, Nat.le_of_ble_eq_true rfl⟩ (fun H locs hPz50 hW hS => ?_)
        refine W.eq (g2 := F0 m 119 ls [.int r52]) rfl ?_
        refine lv_if_eq (tgt := 129) hx hb dX6_nextToken_119 (by decide) (fun c54 => ?_) (fun c54 => ?_)
        · replace hf := ifT c54 hf
          refine lv_aload_n hx hb dX6_nextToken_129 rfl (lv_at hl 1 rfl) ?_
          refine lv_iconst (v := 3) hx hb dX6_nextToken_130 (by decide) ?_
          refine x_puti 506 (ci := 5) (C := RX6) (T := TX6) (N := 10) (v := 3) (ty := .int) 6 hC hinX6 tyX6_ok nmX6 hW hS tv0 rfl rfl ⟨by decide, by decide, rfl, rfl⟩ rfl w_12 rfl (by decide +kernel) rfl rfl dX6_nextToken_131 (fun S55 H locs eS55 hW hS => ?_)
          replace hf := ltE hf S55 eS55
          refine lv_aload_n hx hb dX6_nextToken_134 rfl (lv_at hl 1 rfl) ?_
          refine lv_iload_n hx hb dX6_nextToken_135 rfl (lv_at hl 0 rfl) ?_
          refine x_puti 509 (ci := 5) (C := RX6) (T := TX6) (N := 10) (v := r41) (ty := .int) 9 hC hinX6 tyX6_ok nmX6 hW hS tv0 rfl rfl ⟨by decide, by decide, rfl, rfl⟩ rfl w_4 rfl (by decide +kernel) rfl rfl dX6_nextToken_136 (fun S56 H locs eS56 hW hS => ?_)
          replace hf := ltE hf S56 eS56
          refine lv_aload_n hx hb dX6_nextToken_139 rfl (lv_at hl 1 rfl) ?_
          refine lv_dup hx hb dX6_nextToken_140 rfl ?_
          refine x_geti 504 (ci := 5) (C := RX6) (T := TX6) (N := 10) 4 hC hinX6 hW tv0 rfl rfl ⟨by decide, by decide, rfl, rfl⟩ rfl w_0 dX6_nextToken_141 ?_
          refine lv_iconst (v := 1) hx hb dX6_nextToken_144 (by decide) ?_
          refine lv_iadd hx hb dX6_nextToken_145 ?_
          refine x_puti 504 (ci := 5) (C := RX6) (T := TX6) (N := 10) (v := (si S56 504 v0) + 1) (ty := .int) 4 hC hinX6 tyX6_ok nmX6 hW hS tv0 rfl rfl ⟨by decide, by decide, rfl, rfl⟩ rfl w_0 rfl (by decide +kernel) rfl rfl dX6_nextToken_146 (fun S57 H locs eS57 hW hS => ?_)
          replace hf := ltE hf S57 eS57
          have e1 := Option.some.inj hf
          subst e1
          exact W.vret hx hb hr (fun t ht hWm => ⟨⟨rfl, by unfold QB; rw [ht]; exact ⟨hW, trivial⟩⟩, hS.F ht⟩) hS.2.2 dX6_nextToken_149 hlk
        · replace hf := ifF c54 hf
          refine lv_aload_n hx hb dX6_nextToken_122 rfl (lv_at hl 1 rfl) ?_
          replace hf := obE hf
          obtain ⟨S59, hz58, hf⟩ := hf
          refine x_callV (As := []) (rest := []) (o := none) (S1 := S59) hC hl.1 hW hS hGs hA tv0 rfl (show vwCl[5]? = some (RX6, TX6, 10) ∧ ob 5 from ⟨rfl, by decide⟩) (c_X6_readNumber l g ad n K H.size F S51 v0 tv0 S59 hz58) (cwV 0 hts gX6_nextToken_X6_readNumber rfl rfl rfl (by decide +kernel) ⟨Nat.le_of_ble_eq_true rfl, Nat.le_of_ble_eq_true rfl⟩) rfl rfl (Nat.le_of_ble_eq_true rfl) dX6_nextToken_123 ⟨Nat.le_of_ble_eq_true rfl, Nat.le_of_ble_eq_true rfl⟩ (fun H locs hPz58 hW hS => ?_)
          refine W.eq (g2 := F0 m 126 ls []) rfl ?_
          refine lv_goto (tgt := 149) hx hb dX6_nextToken_126 (by decide) ?_
          have e1 := Option.some.inj hf
          subst e1
          exact W.vret hx hb hr (fun t ht hWm => ⟨⟨rfl, by unfold QB; rw [ht]; exact ⟨hW, trivial⟩⟩, hS.F ht⟩) hS.2.2 dX6_nextToken_149 hlk
      · replace hf := ifF c49 hf
        refine lv_aload_n hx hb dX6_nextToken_108 rfl (lv_at hl 1 rfl) ?_
        replace hf := obE hf
        obtain ⟨S63, hz62, hf⟩ := hf
        refine x_callV (As := []) (rest := []) (o := none) (S1 := S63) hC hl.1 hW hS hGs hA tv0 rfl (show vwCl[5]? = some (RX6, TX6, 10) ∧ ob 5 from ⟨rfl, by decide⟩) (c_X6_readWord l g ad n K H.size F S46 v0 tv0 S63 hz62) (cwV 0 hts gX6_nextToken_X6_readWord rfl rfl rfl (by decide +kernel) ⟨Nat.le_of_ble_eq_true rfl, Nat.le_of_ble_eq_true rfl⟩) rfl rfl (Nat.le_of_ble_eq_true rfl) dX6_nextToken_109 ⟨Nat.le_of_ble_eq_true rfl, Nat.le_of_ble_eq_true rfl⟩ (fun H locs hPz62 hW hS => ?_)
        refine W.eq (g2 := F0 m 112 ls []) rfl ?_
        refine lv_goto (tgt := 149) hx hb dX6_nextToken_112 (by decide) ?_
        have e1 := Option.some.inj hf
        subst e1
        exact W.vret hx hb hr (fun t ht hWm => ⟨⟨rfl, by unfold QB; rw [ht]; exact ⟨hW, trivial⟩⟩, hS.F ht⟩) hS.2.2 dX6_nextToken_149 hlk
    · replace hf := ifF c44 hf
      refine lv_aload_n hx hb dX6_nextToken_93 rfl (lv_at hl 1 rfl) ?_
      refine lv_iconst (v := 0) hx hb dX6_nextToken_94 (by decide) ?_
      refine x_puti 506 (ci := 5) (C := RX6) (T := TX6) (N := 10) (v := 0) (ty := .int) 6 hC hinX6 tyX6_ok nmX6 hW hS tv0 rfl rfl ⟨by decide, by decide, rfl, rfl⟩ rfl w_12 rfl (by decide +kernel) rfl rfl dX6_nextToken_95 (fun S66 H locs eS66 hW hS => ?_)
      replace hf := ltE hf S66 eS66
      refine lv_goto (tgt := 149) hx hb dX6_nextToken_98 (by decide) ?_
      have e1 := Option.some.inj hf
      subst e1
      exact W.vret hx hb hr (fun t ht hWm => ⟨⟨rfl, by unfold QB; rw [ht]; exact ⟨hW, trivial⟩⟩, hS.F ht⟩) hS.2.2 dX6_nextToken_149 hlk
  have L0 : ∀ (fu0 : Nat) (S0 : St) (v0 : Nat) (tv0 : v0 < n ∧ K v0 = 5) (H : Heap) (locs : List Loc) (ls : Array Slot), f_X6_nextToken_L0 F fu0 S0 v0 = some S9 → Wb g ad n K S0 (dA ad n s.heap.size) H → va_S (dA ad n s.heap.size) s.heap H locs → lv_has ls 2 [(0, .ref (ad v0))] → W p l e (headSpec wsX6_nextToken { frames := 2, cells := 0, slots := 0, locals := 46 }).room s m (List.toArray [.ref (ad p0)]) below meth c H locs 0 0 (MQ below (QR none (QB g ad n K S9 (dA ad n s.heap.size) (True)) (dA ad n s.heap.size)) (List.toArray [.ref (ad p0)]) s 0 0 (dA ad n s.heap.size)) (F0 m 0 ls []) := by
    intro fu0
    induction fu0 with
    | zero =>
      intro S0 v0 tv0 H locs ls hf
      cases hf
    | succ fu0 ih0 =>
      intro S0 v0 tv0 H locs ls hf hW hS hl
      unfold f_X6_nextToken_L0 at hf
      refine lv_aload_n hx hb dX6_nextToken_0 rfl (lv_at hl 0 rfl) ?_
      refine x_geti 504 (ci := 5) (C := RX6) (T := TX6) (N := 10) 4 hC hinX6 hW tv0 rfl rfl ⟨by decide, by decide, rfl, rfl⟩ rfl w_0 dX6_nextToken_1 ?_
      refine lv_aload_n hx hb dX6_nextToken_4 rfl (lv_at hl 0 rfl) ?_
      replace hf := obE hf
      obtain ⟨j80, qj80, hf⟩ := hf
      have tj80 := x_rt hW qj80 0 ⟨by decide, rfl⟩
      refine x_getr 500 (ci := 5) (C := RX6) (T := TX6) (N := 10) 0 hC hinX6 hW tv0 rfl rfl ⟨by decide, by decide, rfl, rfl⟩ rfl w_5 dX6_nextToken_5 qj80 ?_
      refine x_getiN 1 (ci := 0) (C := RX0) (T := TX0) (N := 2) 1 hC hinX0 hW tj80 rfl rfl ⟨by decide, by decide, rfl, rfl⟩ rfl w_6 dX6_nextToken_8 ?_
      refine lv_icmp_ge (tgt := 44) hx hb dX6_nextToken_11 (by decide) (fun c81 => ?_) (fun c81 => ?_)
      · replace hf := ifT c81 hf
        exact L44 S0 v0 tv0 _ _ _ hf hW hS (lv_sub hl [0] rfl)
      · replace hf := ifF c81 hf
        refine lv_aload_n hx hb dX6_nextToken_14 rfl (lv_at hl 0 rfl) ?_
        replace hf := obE hf
        obtain ⟨j82, qj82, hf⟩ := hf
        have tj82 := x_rt hW qj82 0 ⟨by decide, rfl⟩
        refine x_getr 500 (ci := 5) (C := RX6) (T := TX6) (N := 10) 0 hC hinX6 hW tv0 rfl rfl ⟨by decide, by decide, rfl, rfl⟩ rfl w_5 dX6_nextToken_15 qj82 ?_
        refine lv_aload_n hx hb dX6_nextToken_18 rfl (lv_at hl 0 rfl) ?_
        refine x_geti 504 (ci := 5) (C := RX6) (T := TX6) (N := 10) 4 hC hinX6 hW tv0 rfl rfl ⟨by decide, by decide, rfl, rfl⟩ rfl w_0 dX6_nextToken_19 ?_
        replace hf := obE hf
        obtain ⟨z83, hz83, hf⟩ := hf
        obtain ⟨r85, S84⟩ := z83
        replace hf := ltE (ltE hf r85 rfl) S84 rfl
        refine x_callV (As := [.int (si S0 504 v0)]) (rest := []) (o := (some (.int r85))) (S1 := S84) hC hl.1 hW hS hGs hA tj82 rfl (show vwCl[0]? = some (RX0, TX0, 2) ∧ ob 0 from ⟨rfl, by decide⟩) (c_X0_byteAt l g ad n K H.size F S0 j82 (si S0 504 v0) tj82 r85 S84 hz83) (cwV 1 hts gX6_nextToken_X0_byteAt rfl rfl rfl (by decide +kernel) ⟨Nat.le_of_ble_eq_true rfl, Nat.le_of_ble_eq_true rfl⟩) rfl rfl (Nat.le_of_ble_eq_true rfl) dX6_nextToken_22 ⟨Nat.le_of_ble_eq_true rfl, Nat.le_of_ble_eq_true rfl⟩ (fun H locs hPz83 hW hS => ?_)
        refine W.eq (g2 := F0 m 25 ls [.int r85]) rfl ?_
        replace hf := obE hf
        obtain ⟨z87, hz87, hf⟩ := hf
        obtain ⟨r89, S88⟩ := z87
        replace hf := ltE (ltE hf r89 rfl) S88 rfl
        refine x_callS (As := [.int r85]) (rest := []) (o := (some (.int r89))) (S1 := S88) hC hl.1 hW hS hGs hA (c_X6_isBlank l g ad n K H.size F S84 r85 r89 S88 hz87) (va_cwS 1 hts gX6_nextToken_X6_isBlank rfl rfl rfl (by decide +kernel) ⟨Nat.le_of_ble_eq_true rfl, Nat.le_of_ble_eq_true rfl⟩) rfl rfl (Nat.le_of_ble_eq_true rfl) dX6_nextToken_25 ⟨Nat.le_of_ble_eq_true rfl, Nat.le_of_ble_eq_true rfl⟩ (fun H locs hPz87 hW hS => ?_)
        refine W.eq (g2 := F0 m 28 ls [.int r89]) rfl ?_
        refine lv_if_eq (tgt := 44) hx hb dX6_nextToken_28 (by decide) (fun c91 => ?_) (fun c91 => ?_)
        · replace hf := ifT c91 hf
          exact L44 S88 v0 tv0 _ _ _ hf hW hS (lv_sub hl [0] rfl)
        · replace hf := ifF c91 hf
          refine lv_aload_n hx hb dX6_nextToken_31 rfl (lv_at hl 0 rfl) ?_
          refine lv_dup hx hb dX6_nextToken_32 rfl ?_
          refine x_geti 504 (ci := 5) (C := RX6) (T := TX6) (N := 10) 4 hC hinX6 hW tv0 rfl rfl ⟨by decide, by decide, rfl, rfl⟩ rfl w_0 dX6_nextToken_33 ?_
          refine lv_iconst (v := 1) hx hb dX6_nextToken_36 (by decide) ?_
          refine lv_iadd hx hb dX6_nextToken_37 ?_
          refine x_puti 504 (ci := 5) (C := RX6) (T := TX6) (N := 10) (v := (si S88 504 v0) + 1) (ty := .int) 4 hC hinX6 tyX6_ok nmX6 hW hS tv0 rfl rfl ⟨by decide, by decide, rfl, rfl⟩ rfl w_0 rfl (by decide +kernel) rfl rfl dX6_nextToken_38 (fun S92 H locs eS92 hW hS => ?_)
          replace hf := ltE hf S92 eS92
          refine lv_goto (tgt := 0) hx hb dX6_nextToken_41 (by decide) ?_
          exact ih0 S92 v0 tv0 _ _ _ hf hW hS (lv_sub hl [0] rfl)
  unfold f_X6_nextToken at hf
  exact L0 F S0 p0 tp0 _ _ _ hf hW hS (lv_sub hl [0] rfl)
